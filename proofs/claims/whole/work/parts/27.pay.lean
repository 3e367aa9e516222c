/-! part 27: pay -/
section PAY
variable {h sp ch bl yn : Int32} {co on ba ra gu se si st la pu ps sc he xb xc xi xf xa xe tc ts ta bc bs bm pb ou yb yl yf ya ys ye zf za zs ze wy pt su bb bu : Nat → Int32}
theorem xs_add {post : SX → Prop} {H c l n s sec i m : Nat} (hc : c < 8) (hl : l < 11) (el : la c = nI l) (hn : n ≤ 2) (en : xc (13 * c + l) = nI n) (hs : s < 2) (hsec : sec < 16) (hi : i < 4) (him : i < m) (hm : m ≤ 4) (ebc : bc i = nI c) (ebs : bs i = nI s)
    (Hp : post (nI H, sp, ch, nI m, co, on, ba, ra, gu, se, si, st, upd la c (nI (l + 1)), pu, ps, sc, he, upd (cw_nb xb (13 * c + l) (13 * c + l + 1)) (2 * (13 * c + l + 1) + s) (cw_nb xb (13 * c + l) (13 * c + l + 1) (2 * (13 * c + l + 1) + s) - bm i), upd (upd xc (13 * c + l + 1) (nI n)) (13 * c + l + 1) (nI (n + 1)), upd (cw_cp2 xi xi (3 * (13 * c + l)) (3 * (13 * c + l + 1)) 3) (3 * (13 * c + l + 1) + n) (nI (4 * sec + i)), upd xf (4 * sec + i) (nI s), upd xa (4 * sec + i) (bm i), upd xe (4 * sec + i) (nI (H + 3 * (m - i))), tc, ts, ta, bc, bs, bm)) : wpX_addLock post (nI H, sp, ch, nI m, co, on, ba, ra, gu, se, si, st, la, pu, ps, sc, he, xb, xc, xi, xf, xa, xe, tc, ts, ta, bc, bs, bm) (nI i) (nI sec) := by
  simp (disch := omega) only [wpX_addLock, cw_m2, cw_m3, cw_m4, cw_m13, cw_2m, cw_3m, cw_12m, cw_24m, cw_36m, cw_a12, cw_a3, nI_add, nI_1, pk_sub, nI_clamp, vp_in_nI, ebs, ebc, forall_eq, nI_leI, nI_ltI, nI_eq, true_implies, forall_const, not_true_eq_false, not_false_eq_true, false_implies, and_true, true_and, implies_true, and_self, reduceIte]
  refine xs_mns hc hl el ?_
  simp (disch := omega) only [cw_m2, cw_m3, cw_m4, cw_m13, cw_2m, cw_3m, cw_12m, cw_24m, cw_36m, cw_a12, cw_a3, nI_add, nI_1, pk_sub, nI_clamp, vp_in_nI, pk_us, en, forall_eq, nI_leI, nI_ltI, nI_eq, true_implies, forall_const, not_true_eq_false, not_false_eq_true, false_implies, and_true, true_and, implies_true, and_self, reduceIte]
  exact Hp
theorem ys_add {post : SY → Prop} {c l n s : Nat} {z y e : Int32} (hc : c < 8) (hl : l < 11) (el : la c = nI l) (hn : n ≤ 2) (en : yl (12 * c + l) = nI n) (hs : s < 2)
    (Hp : post (h, sp, ch, yn, co, ba, ra, gu, se, on, si, st, upd la c (nI (l + 1)), pu, pb, sc, he, ou, upd (cw_nb yb (12 * c + l) (12 * c + l + 1)) (2 * (12 * c + l + 1) + s) (cw_nb yb (12 * c + l) (12 * c + l + 1) (2 * (12 * c + l + 1) + s) - z), upd (upd yl (12 * c + l + 1) (nI n)) (12 * c + l + 1) (nI (n + 1)), upd (cw_cp2 yf yf (3 * (12 * c + l)) (3 * (12 * c + l + 1)) n) (3 * (12 * c + l + 1) + n) (nI s), upd (cw_cp2 ya ya (3 * (12 * c + l)) (3 * (12 * c + l + 1)) n) (3 * (12 * c + l + 1) + n) (z), upd (cw_cp2 ys ys (3 * (12 * c + l)) (3 * (12 * c + l + 1)) n) (3 * (12 * c + l + 1) + n) (y), upd (cw_cp2 ye ye (3 * (12 * c + l)) (3 * (12 * c + l + 1)) n) (3 * (12 * c + l + 1) + n) (e), zf, za, zs, ze, wy, pt, su, bb, bu)) : wpY_add post (h, sp, ch, yn, co, ba, ra, gu, se, on, si, st, la, pu, pb, sc, he, ou, yb, yl, yf, ya, ys, ye, zf, za, zs, ze, wy, pt, su, bb, bu) (nI c) (nI s) z y e := by
  unfold wpY_add
  dsimp only
  refine ys_change hc hl el (by omega) en ?_
  dsimp only
  refine ys_now1 (l := l) hc pk_us ?_
  simp (disch := omega) only [cw_m2, cw_m3, cw_m4, cw_m13, cw_2m, cw_3m, cw_12m, cw_24m, cw_36m, cw_a12, cw_a3, nI_add, nI_1, pk_sub, nI_clamp, vp_in_nI, pk_us, forall_eq, nI_leI, nI_ltI, nI_eq, true_implies, forall_const, not_true_eq_false, not_false_eq_true, false_implies, and_true, true_and, implies_true, and_self, reduceIte]
  exact Hp
theorem cw_F_sub (hF : cw_F xb yb) {c l s : Nat} {z : Int32} (hc : c < 8) (hl : l < 11) (hs : s < 2) : cw_F (upd (cw_nb xb (13 * c + l) (13 * c + l + 1)) (2 * (13 * c + l + 1) + s) (cw_nb xb (13 * c + l) (13 * c + l + 1) (2 * (13 * c + l + 1) + s) - z)) (upd (cw_nb yb (12 * c + l) (12 * c + l + 1)) (2 * (12 * c + l + 1) + s) (cw_nb yb (12 * c + l) (12 * c + l + 1) (2 * (12 * c + l + 1) + s) - z)) := by
  have h := cw_F_nb hF hc hl
  refine cw_F_put (c := c) (k := l + 1) (s := s) h hc (by omega) hs (by omega) (by omega) ?_
  rw [show 2 * (12 * c + l + 1) + s = 2 * (12 * c + (l + 1)) + s by omega, h c (l + 1) s hc (by omega) hs, show 2 * (13 * c + (l + 1)) + s = 2 * (13 * c + l + 1) + s by omega]
theorem cw_G_add (hG : cw_G sp xf xa xe xc xi yl yf ya ys ye) {c l n : Nat} {k f z y e : Int32} (hc : c < 8) (hl : l < 11) (hn : n ≤ 2) (en : xc (13 * c + l) = nI n) (hk : cw_Lk sp xf xa xe k f z y e) :
    cw_G sp xf xa xe (upd (upd xc (13 * c + l + 1) (nI n)) (13 * c + l + 1) (nI (n + 1))) (upd (cw_cp2 xi xi (3 * (13 * c + l)) (3 * (13 * c + l + 1)) 3) (3 * (13 * c + l + 1) + n) k) (upd (upd yl (12 * c + l + 1) (nI n)) (12 * c + l + 1) (nI (n + 1)))
      (upd (cw_cp2 yf yf (3 * (12 * c + l)) (3 * (12 * c + l + 1)) n) (3 * (12 * c + l + 1) + n) f) (upd (cw_cp2 ya ya (3 * (12 * c + l)) (3 * (12 * c + l + 1)) n) (3 * (12 * c + l + 1) + n) z) (upd (cw_cp2 ys ys (3 * (12 * c + l)) (3 * (12 * c + l + 1)) n) (3 * (12 * c + l + 1) + n) y) (upd (cw_cp2 ye ye (3 * (12 * c + l)) (3 * (12 * c + l + 1)) n) (3 * (12 * c + l + 1) + n) e) := by
  have hr := hG c l hc (by omega)
  rw [en] at hr
  refine cw_G_put hG (c0 := c) (k0 := l + 1) hc (by omega) (fun i hi => by rw [pk_un (by omega), pk_un (by omega)]) (fun i hi => by rw [pk_un (by omega), pk_un (by omega)])
    (fun i hi => by rw [pk_un (by omega), cw_cp2_out _ _ (by omega) (by omega)])
    (fun i hi => ⟨by rw [pk_un (by omega), cw_cp2_out _ _ (by omega) (by omega)], by rw [pk_un (by omega), cw_cp2_out _ _ (by omega) (by omega)], by rw [pk_un (by omega), cw_cp2_out _ _ (by omega) (by omega)], by rw [pk_un (by omega), cw_cp2_out _ _ (by omega) (by omega)]⟩) ?_
  rw [pk_us' (show 13 * c + (l + 1) = 13 * c + l + 1 by omega), pk_us' (show 12 * c + (l + 1) = 12 * c + l + 1 by omega)]
  refine cw_Row_add hr (by omega) (fun i hi => ?_) (fun i hi => ?_) (fun i hi => ?_) (fun i hi => ?_) (fun i hi => ?_) ?_
  · rw [pk_un (by omega)]; exact cw_cp2_in _ _ (by omega)
  · rw [pk_un (by omega)]; exact cw_cp2_in _ _ (by omega)
  · rw [pk_un (by omega)]; exact cw_cp2_in _ _ (by omega)
  · rw [pk_un (by omega)]; exact cw_cp2_in _ _ (by omega)
  · rw [pk_un (by omega)]; exact cw_cp2_in _ _ (by omega)
  · rw [pk_us' (by omega), pk_us' (by omega), pk_us' (by omega), pk_us' (by omega), pk_us' (by omega)]
    exact hk
theorem cw_O_add (hO : cw_O sp xf xa xe xc xi st ou zf za zs ze) {c l n : Nat} {k : Int32} (hc : c < 8) (hl : l < 11) (hn : n ≤ 2) :
    cw_O sp xf xa xe (upd (upd xc (13 * c + l + 1) (nI n)) (13 * c + l + 1) (nI (n + 1))) (upd (cw_cp2 xi xi (3 * (13 * c + l)) (3 * (13 * c + l + 1)) 3) (3 * (13 * c + l + 1) + n) k) st ou zf za zs ze :=
  cw_O_frame hO (fun c' hc' => by rw [pk_un (by omega), pk_un (by omega)]) (fun c' i hc' hi => by rw [pk_un (by omega), cw_cp2_out _ _ (by omega) (by omega)])
theorem ls_pay {H C sec m q : Nat} {sp1 : Int32} {b P : Nat → Nat} {EX se1 : Nat → Int32} (hC : C ≤ 8) (hne : ∀ c, c < C → ¬ si (2 * c) = si (2 * c + 1)) (hsec : sec < 16) (hm : m ≤ 4) (hEX : ∀ i, i < m → EX i = nI (H + 3 * (m - i))) (hbit : bt sp1 sec = true)
    (hop : ∀ i, i < m → b i < C ∧ ∃ s, s < 2 ∧ si (2 * b i + s) = nI (P i) ∧ si (2 * b i + 1 - s) = nI (P (i + 1)) ∧ bs i = nI s) (hbc : ∀ i, i < m → bc i = nI (b i)) (hdis : ∀ i j, i < j → j < m → b i ≠ b j) :
    ∀ d i (la xb xc xi yb yl yf ya ys ye : Nat → Int32), i + d = m → cw_E st la ps pb si → cw_F xb yb → cw_G sp1 (cw_cp2 bs xf 0 (4 * sec) m) (cw_cp2 bm xa 0 (4 * sec) m) (cw_cp2 EX xe 0 (4 * sec) m) xc xi yl yf ya ys ye → cw_O sp1 (cw_cp2 bs xf 0 (4 * sec) m) (cw_cp2 bm xa 0 (4 * sec) m) (cw_cp2 EX xe 0 (4 * sec) m) xc xi st ou zf za zs ze →
      (∀ j, i ≤ j → j < m → ∃ l n, l < 11 ∧ la (b j) = nI l ∧ n ≤ 2 ∧ xc (13 * b j + l) = nI n) →
      ∃ la' xb' xc' xi' yb' yl' yf' ya' ys' ye' : Nat → Int32, cw_E st la' ps pb si ∧ cw_F xb' yb' ∧ cw_G sp1 (cw_cp2 bs xf 0 (4 * sec) m) (cw_cp2 bm xa 0 (4 * sec) m) (cw_cp2 EX xe 0 (4 * sec) m) xc' xi' yl' yf' ya' ys' ye' ∧ cw_O sp1 (cw_cp2 bs xf 0 (4 * sec) m) (cw_cp2 bm xa 0 (4 * sec) m) (cw_cp2 EX xe 0 (4 * sec) m) xc' xi' st ou zf za zs ze ∧
      (∀ post : Int32 → SX → Prop, wX_pay_70 post (nI q) (nI sec) (nI H) sp (nI C) (nI m) co on ba ra gu se si st (la') pu ps sc he (xb') (xc') (xi') (cw_cp2 bs xf 0 (4 * sec) m) (cw_cp2 bm xa 0 (4 * sec) m) (cw_cp2 EX xe 0 (4 * sec) m) tc ts ta bc bs bm → wX_pay_41 post (nI q) (nI sec) (d + 1) (nI i) (nI H) sp (nI C) (nI m) co on ba ra gu se si st la pu ps sc he xb xc xi (cw_cp2 bs xf 0 (4 * sec) i) (cw_cp2 bm xa 0 (4 * sec) i) (cw_cp2 EX xe 0 (4 * sec) i) tc ts ta bc bs bm) ∧
      (∀ wy pt su bb bu : Nat → Int32, (∀ i, i < m → bb i = nI (b i) ∧ bu i = bm i) → ∀ post : Int32 → SY → Prop, post (bu 0) (nI H, sp1, nI C, nI m, co, ba, ra, gu, se1, on, si, st, la', pu, pb, sc, he, ou, yb', yl', yf', ya', ys', ye', zf, za, zs, ze, wy, pt, su, bb, bu) → wY_pay_87 post (nI sec) (d + 1) (nI (P i)) (nI i) (nI H) (sp1) (nI C) (nI m) co ba ra gu (se1) on si st la pu pb sc he ou yb yl yf ya ys ye zf za zs ze wy pt su bb bu) := by
  intro d
  induction d with
  | zero =>
    intro i la xb xc xi yb yl yf ya ys ye hi hE hF hG hO _
    have e : i = m := by omega
    subst e
    refine ⟨la, xb, xc, xi, yb, yl, yf, ya, ys, ye, hE, hF, hG, hO, fun post hp => ?_, fun wy pt su bb bu hbu post hp => ?_⟩
    · rw [wX_pay_41]
      simp (disch := omega) only [Nat.le_refl, forall_eq, nI_leI, nI_ltI, nI_eq, true_implies, forall_const, not_true_eq_false, not_false_eq_true, false_implies, and_true, true_and, implies_true, and_self, reduceIte]
      exact hp
    · rw [wY_pay_87]
      simp (disch := omega) only [Nat.le_refl, forall_eq, nI_leI, nI_ltI, nI_eq, true_implies, forall_const, not_true_eq_false, not_false_eq_true, false_implies, and_true, true_and, implies_true, and_self, reduceIte]
      exact hp
  | succ d ih =>
    intro i la xb xc xi yb yl yf ya ys ye hi hE hF hG hO hcap
    have him : i < m := by omega
    obtain ⟨hbC, s, hs, es, es', ebs⟩ := hop i him
    have ebc := hbc i him
    obtain ⟨l, n, hl, el, hn, en⟩ := hcap i (Nat.le_refl _) him
    have ey : yl (12 * b i + l) = nI n := by
      obtain ⟨n', hn', e1, e2, _⟩ := hG (b i) l (by omega) (by omega)
      rw [e2, ← e1, en]
    have hk : cw_Lk sp1 (cw_cp2 bs xf 0 (4 * sec) m) (cw_cp2 bm xa 0 (4 * sec) m) (cw_cp2 EX xe 0 (4 * sec) m) (nI (4 * sec + i)) (nI s) (bm i) (nI sec) (nI (H + 3 * (m - i))) := by
      refine ⟨4 * sec + i, by omega, rfl, ?_, ?_, ?_, ?_, ?_, ?_⟩
      · rw [show (4 * sec + i) / 4 = sec by omega]; exact hbit
      · rw [cw_cp2_in _ _ him, Nat.zero_add, ebs]
      · have : s = 0 ∨ s = 1 := by omega
        rcases this with rfl | rfl
        · exact Or.inl rfl
        · exact Or.inr rfl
      · rw [cw_cp2_in _ _ him, Nat.zero_add]
      · rw [show (4 * sec + i) / 4 = sec by omega]
      · rw [cw_cp2_in _ _ him, Nat.zero_add, hEX i him]
    obtain ⟨la', xb', xc', xi', yb', yl', yf', ya', ys', ye', k1, k2, k3, k4, kx, ky⟩ := ih (i + 1) _ _ _ _ _ _ _ _ _ _ (by omega) (cw_E_la hE (c := b i) (l := l + 1) (by omega)) (cw_F_sub hF (z := bm i) (c := b i) (by omega) hl hs) (cw_G_add hG (c := b i) (by omega) hl hn en hk) (cw_O_add hO (k := nI (4 * sec + i)) (c := b i) (by omega) hl hn) (by
      intro j hj1 hj2
      obtain ⟨l2, n2, hl2, el2, hn2, en2⟩ := hcap j (by omega) hj2
      have hd := hdis i j (by omega) hj2
      refine ⟨l2, n2, hl2, ?_, hn2, ?_⟩
      · rw [pk_un (fun z => hd z.symm)]; exact el2
      · rw [pk_un (by omega), pk_un (by omega)]; exact en2)
    refine ⟨la', xb', xc', xi', yb', yl', yf', ya', ys', ye', k1, k2, k3, k4, fun post hp => ?_, fun wy pt su bb bu hbu post hp => ?_⟩
    · have q1 : ¬ m ≤ i := by omega
      have q4 : ¬ 4 ≤ i := by omega
      rw [wX_pay_41]
      simp (disch := omega) only [q1, cw_le4, q4, cw_m2, cw_m3, cw_m4, cw_m13, cw_2m, cw_3m, cw_12m, cw_24m, cw_36m, cw_a12, cw_a3, nI_add, nI_1, pk_sub, nI_clamp, vp_in_nI, forall_eq, nI_leI, nI_ltI, nI_eq, true_implies, forall_const, not_true_eq_false, not_false_eq_true, false_implies, and_true, true_and, implies_true, and_self, reduceIte]
      refine xs_add (n := n) (by omega) hl el hn en hs hsec (by omega) him hm ebc ebs ?_
      have x1 : upd (cw_cp2 bs xf 0 (4 * sec) i) (4 * sec + i) (nI s) = cw_cp2 bs xf 0 (4 * sec) (i + 1) := by rw [← cw_cp2_S, Nat.zero_add, ebs]
      have x2 : upd (cw_cp2 bm xa 0 (4 * sec) i) (4 * sec + i) (bm i) = cw_cp2 bm xa 0 (4 * sec) (i + 1) := by rw [← cw_cp2_S, Nat.zero_add]
      have x3 : upd (cw_cp2 EX xe 0 (4 * sec) i) (4 * sec + i) (nI (H + 3 * (m - i))) = cw_cp2 EX xe 0 (4 * sec) (i + 1) := by rw [← cw_cp2_S, Nat.zero_add, hEX i him]
      rw [x1, x2, x3]
      exact kx post hp
    · have q1 : ¬ m ≤ i := by omega
      obtain ⟨ebb, ebu⟩ := hbu i him
      rw [wY_pay_87]
      simp (disch := omega) only [q1, cw_m2, cw_m3, cw_m4, cw_m13, cw_2m, cw_3m, cw_12m, cw_24m, cw_36m, cw_a12, cw_a3, nI_add, nI_1, pk_sub, nI_clamp, vp_in_nI, ebb, ebu, forall_eq, nI_leI, nI_ltI, nI_eq, true_implies, forall_const, not_true_eq_false, not_false_eq_true, false_implies, and_true, true_and, implies_true, and_self, reduceIte]
      refine ys_side (by omega) hs es (hne (b i) hbC) ?_
      refine ys_add (n := n) (by omega) hl el hn ey hs ?_
      simp (disch := omega) only [cw_m2, cw_m3, cw_m4, cw_m13, cw_2m, cw_3m, cw_12m, cw_24m, cw_36m, cw_a12, cw_a3, nI_add, nI_1, pk_sub, nI_clamp, vp_in_nI, es', forall_eq, nI_leI, nI_ltI, nI_eq, true_implies, forall_const, not_true_eq_false, not_false_eq_true, false_implies, and_true, true_and, implies_true, and_self, reduceIte]
      exact ky wy pt su bb bu hbu post hp
theorem cw_cp2_out' (f g : Nat → Int32) {s t n i : Nat} (h : i < t ∨ t + n ≤ i) : cw_cp2 f g s t n i = g i := by
  rcases h with h | h
  · exact cw_cp2_lo _ _ h
  · exact cw_cp2_hi _ _ h
theorem cw_distinct {sd : Nat → Nat} {C p m : Nat} {rd : Nat → Prop} {b : Nat → Nat} (h : ro_walk sd C rd b p m) : ∀ i j, i < j → j < m → b i ≠ b j := by
  intro i j hij hj e
  have hi := h i (by omega)
  have hjj := h j hj
  have a1 : ro_pt sd b p i ≠ ro_pt sd b p j := by
    have := (h (j - 1) (by omega)).2.2.2 i (by omega)
    rwa [show j - 1 + 1 = j by omega] at this
  have a2 : ro_pt sd b p i ≠ ro_pt sd b p (j + 1) := hjj.2.2.2 i (by omega)
  have n1 : ro_pt sd b p (i + 1) = ro_nx sd (b i) (ro_pt sd b p i) := rfl
  have n2 : ro_pt sd b p (j + 1) = ro_nx sd (b j) (ro_pt sd b p j) := rfl
  have s1 := hi.2.1
  have s2 := hjj.2.1
  rw [← e] at n2 s2
  unfold ro_nx at n1 n2
  by_cases z : sd (2 * b i) = ro_pt sd b p j
  · rw [if_pos z] at n2
    rcases s1 with y | y
    · exact a1 (y.symm.trans z)
    · exact a2 (y.symm.trans n2.symm)
  · rw [if_neg z] at n2
    rcases s1 with y | y
    · exact a2 (y.symm.trans n2.symm)
    · rcases s2 with x | x
      · exact z x
      · exact a1 (y.symm.trans x)
theorem cw_hops {C p m : Nat} {b : Nat → Nat} (hC : C ≤ 8) (hsi : ∀ i, i < 16 → ∃ a, a < 6 ∧ si i = nI a) (h : ro_walk (cw_nt 16 si) C (cw_rd st on si) b p m) (hbs : ∀ i, i < m → bs i = nI (ro_sx (cw_nt 16 si) (b i) (ro_pt (cw_nt 16 si) b p i))) :
    ∀ i, i < m → b i < C ∧ ∃ s, s < 2 ∧ si (2 * b i + s) = nI (ro_pt (cw_nt 16 si) b p i) ∧ si (2 * b i + 1 - s) = nI (ro_pt (cw_nt 16 si) b p (i + 1)) ∧ bs i = nI s := by
  intro i hi
  have sde : ∀ i, i < 16 → si i = nI (cw_nt 16 si i) := fun i hi => (cw_nt_e hi (by omega) (hsi i hi)).1
  have hop := h i hi
  have hbC := hop.1
  refine ⟨hbC, ro_sx (cw_nt 16 si) (b i) (ro_pt (cw_nt 16 si) b p i), ?_, ?_, ?_, hbs i hi⟩
  · unfold ro_sx
    by_cases z : cw_nt 16 si (2 * b i) = ro_pt (cw_nt 16 si) b p i
    · rw [if_pos z]; omega
    · rw [if_neg z]; omega
  · unfold ro_sx
    by_cases z : cw_nt 16 si (2 * b i) = ro_pt (cw_nt 16 si) b p i
    · rw [if_pos z, Nat.add_zero, sde _ (by omega), z]
    · rw [if_neg z, sde _ (by omega)]
      rcases hop.2.1 with y | y
      · exact absurd y z
      · rw [y]
  · show si (2 * b i + 1 - ro_sx (cw_nt 16 si) (b i) (ro_pt (cw_nt 16 si) b p i)) = nI (ro_nx (cw_nt 16 si) (b i) (ro_pt (cw_nt 16 si) b p i))
    unfold ro_sx ro_nx
    by_cases z : cw_nt 16 si (2 * b i) = ro_pt (cw_nt 16 si) b p i
    · rw [if_pos z, if_pos z, Nat.sub_zero, sde _ (by omega)]
    · rw [if_neg z, if_neg z, Nat.add_sub_cancel, sde _ (by omega)]
theorem i_vc_pay {k : Nat} {u : SX} {v : SY} (I : i_Rel k u v) (hk : k + 5 ≤ 2560) (v1 : Int32) (v2 : Int32) (v3 : Int32) (v4 : Int32) : wpX_pay (fun r u' => wpY_pay (fun r' v' => r' = r ∧ i_Rel (k + 5) u' v') v v1 v2 v3 v4) u v1 v2 v3 v4 := by
  have J := i_up I
  obtain ⟨H, C, sp, on, ba, ra, gu, si, xf, xa, xe, hH, hB, hD, bl, yn, co, se, st, la, pu, ps, sc, he, xb, xc, xi, tc, ts, ta, bc, bs, bm, pb, ou, yb, yl, yf, ya, ys, ye, zf, za, zs, ze, wy, pt, su, bb, bu, rfl, rfl, hS, hE, hF, hG, hO, hZ⟩ := I
  have hB0 := hB
  obtain ⟨hC, hsi, hne⟩ := hB
  have hla : ∀ c, c < 8 → ∃ l, l < 12 ∧ la c = nI l := fun c hc => (hE c hc).1
  unfold wpX_pay
  dsimp only
  refine xs_isPay (fun ask => br_f cw_n1 ?_) (fun ask => br_t rfl ?_)
  · by_cases s0 : v4 < 0
    · simp only [wpX_isUnusedSecret, s0, forall_eq, nI_leI, nI_ltI, nI_eq, true_implies, forall_const, not_true_eq_false, not_false_eq_true, false_implies, and_true, true_and, implies_true, and_self, reduceIte]
      unfold wpY_pay
      dsimp only
      exact ys_isAsk (fun _ => br_f cw_n1 (br_t s0 ⟨rfl, J⟩)) (fun na => absurd ask na)
    obtain ⟨sec, hsec, rfl⟩ := nI_of s0
    by_cases s16 : 16 ≤ sec
    · have s15 : 15 < nI sec := nI_lt (a := 15) (by omega) hsec
      simp (disch := omega) only [wpX_isUnusedSecret, s0, cw_le16, s16, forall_eq, nI_leI, nI_ltI, nI_eq, true_implies, forall_const, not_true_eq_false, not_false_eq_true, false_implies, and_true, true_and, implies_true, and_self, reduceIte]
      unfold wpY_pay
      dsimp only
      exact ys_isAsk (fun _ => br_f cw_n1 (br_f s0 (br_t s15 ⟨rfl, J⟩))) (fun na => absurd ask na)
    have s15 : ¬ 15 < nI sec := Int32.not_lt.mpr (nI_le (b := 15) (by omega) (by omega))
    by_cases hb1 : bt sp sec = true
    · simp (disch := omega) only [wpX_isUnusedSecret, s0, cw_le16, s16, cw_bit0, hb1, Bool.true_eq_false, forall_eq, nI_leI, nI_ltI, nI_eq, true_implies, forall_const, not_true_eq_false, not_false_eq_true, false_implies, and_true, true_and, implies_true, and_self, reduceIte]
      unfold wpY_pay
      dsimp only
      exact ys_isAsk (fun _ => br_f cw_n1 (br_f s0 (br_f s15 (br_t ((cw_bit1 sp (by omega)).mpr hb1) ⟨rfl, J⟩)))) (fun na => absurd ask na)
    have hb0 : bt sp sec = false := by
      cases z : bt sp sec
      · rfl
      · exact absurd z hb1
    have nb1 : ¬ (sp >>> (nI sec &&& 31)) &&& 1 = 1 := fun z => hb1 ((cw_bit1 sp (by omega)).mp z)
    obtain ⟨p, q, w, hp, hq, hpq, w1, w2, rfl, rfl, rfl⟩ := id ask
    simp (disch := omega) only [wpX_isUnusedSecret, s0, cw_le16, s16, cw_bit0, hb0, cw_n1, forall_eq, nI_leI, nI_ltI, nI_eq, true_implies, forall_const, not_true_eq_false, not_false_eq_true, false_implies, and_true, true_and, implies_true, and_self, reduceIte]
    refine xs_find hC hsi hD hla hp hq w2 (fun tc ts ta bc bs bm bl b m hmin hxB => ?_)
    dsimp only
    obtain ⟨ebl, hm4, hbb⟩ := id hxB
    subst ebl
    have seek : ∀ post : Int32 → SY → Prop, (∀ (mo : Int32) (wy pt su bb bu : Nat → Int32), (∀ i, i < m → bb i = bc i ∧ bu i = bm i) → post mo (nI H, sp, nI C, nI m, co, ba, ra, gu, se, on, si, st, la, pu, pb, sc, he, ou, yb, yl, yf, ya, ys, ye, zf, za, zs, ze, wy, pt, su, bb, bu)) → wpY_seek post (nI H, sp, nI C, yn, co, ba, ra, gu, se, on, si, st, la, pu, pb, sc, he, ou, yb, yl, yf, ya, ys, ye, zf, za, zs, ze, wy, pt, su, bb, bu) (nI p) (nI q) (nI w) := by
      intro post hpost
      refine ys_findV hC hsi hne hD hla (cw_ca_y hE hF hG) hp hq w1 w2 (fun mo yn wy pt su bb bu b' m' hmin' hyB => ?_)
      obtain ⟨_, eyn, _, heq⟩ := cw_same hC hmin hxB hmin' hyB
      subst eyn
      exact hpost mo wy pt su bb bu heq
    rcases Nat.eq_zero_or_pos m with hm | hm
    · subst hm
      refine br_t rfl ?_
      unfold wpY_pay
      dsimp only
      refine ys_isAsk (fun _ => br_f cw_n1 (br_f s0 (br_f s15 (br_f nb1 (seek _ (fun mo wy pt su bb bu heq => ?_)))))) (fun na => absurd ask na)
      dsimp only
      exact br_t rfl ⟨rfl, ⟨H, C, sp, on, ba, ra, gu, si, xf, xa, xe, by omega, hB0, hD, _, _, co, se, st, la, pu, ps, sc, he, xb, xc, xi, tc, ts, ta, bc, bs, bm, pb, ou, yb, yl, yf, ya, ys, ye, zf, za, zs, ze, wy, pt, su, bb, bu, rfl, rfl, hS, hE, hF, hG, hO, hZ⟩⟩
    · have m0 : ¬ nI m = 0 := nI_ne0 hm (by omega)
      refine br_f m0 ?_
      have g : ro_good (cw_nt 16 si) (cw_nt 6 ba) (cw_nt 6 ra) C (cw_rd st on si) (cw_ca la xc xb) p q w b m := by
        rcases hmin with ⟨z, _⟩ | ⟨g, _⟩
        · omega
        · exact g
      have hL : ∀ L, L < 64 → bt sp (L / 4) = true → bt (sp ||| ((1 : Int32) <<< (nI sec &&& 31))) (L / 4) = true ∧ cw_cp2 bs xf 0 (4 * sec) m L = xf L ∧ cw_cp2 bm xa 0 (4 * sec) m L = xa L ∧ cw_cp2 (fun j => nI (H + 3 * (m - j))) xe 0 (4 * sec) m L = xe L := by
        intro L hL hbt
        have hns : L / 4 ≠ sec := fun z => by
          rw [z, hb0] at hbt
          exact absurd hbt (by decide)
        refine ⟨?_, ?_, ?_, ?_⟩
        · rw [cw_set sp (by omega) (by omega), hbt]
          rfl
        · exact cw_cp2_out' _ _ (by omega)
        · exact cw_cp2_out' _ _ (by omega)
        · exact cw_cp2_out' _ _ (by omega)
      have hG1 : cw_G (sp ||| ((1 : Int32) <<< (nI sec &&& 31))) (cw_cp2 bs xf 0 (4 * sec) m) (cw_cp2 bm xa 0 (4 * sec) m) (cw_cp2 (fun j => nI (H + 3 * (m - j))) xe 0 (4 * sec) m) xc xi yl yf ya ys ye := fun c k hc hk => cw_Row_sp hL (hG c k hc hk)
      have hO1 : cw_O (sp ||| ((1 : Int32) <<< (nI sec &&& 31))) (cw_cp2 bs xf 0 (4 * sec) m) (cw_cp2 bm xa 0 (4 * sec) m) (cw_cp2 (fun j => nI (H + 3 * (m - j))) xe 0 (4 * sec) m) xc xi st ou zf za zs ze := fun c hc => ⟨cw_Row_sp hL (hO c hc).1, (hO c hc).2⟩
      have hbit : bt (sp ||| ((1 : Int32) <<< (nI sec &&& 31))) sec = true := by
        rw [cw_set sp (by omega) (by omega)]
        simp
      obtain ⟨la', xb', xc', xi', yb', yl', yf', ya', ys', ye', k1, k2, k3, k4, kx, ky⟩ := ls_pay (H := H) (C := C) (sec := sec) (m := m) (q := q) (sp1 := sp ||| ((1 : Int32) <<< (nI sec &&& 31))) (b := b) (P := ro_pt (cw_nt 16 si) b p) (EX := fun j => nI (H + 3 * (m - j))) (se1 := upd se q (se q ||| ((1 : Int32) <<< (nI sec &&& 31)))) (sp := sp) (co := co) (on := on) (ba := ba) (ra := ra) (gu := gu) (se := se) (pu := pu) (sc := sc) (he := he) (tc := tc) (ts := ts) (ta := ta)
        hC hne (by omega) hm4 (fun i _ => rfl) hbit (cw_hops hC hsi g.2.2.1 (fun i hi => (hbb i hi).2.1)) (fun i hi => (hbb i hi).1) (cw_distinct g.2.2.1) m 0 la xb xc xi yb yl yf ya ys ye (by omega) hE hF hG1 hO1 (by
          intro j _ hj
          have hbj : b j < C := (g.2.2.1 j hj).1
          obtain ⟨l, hl, el⟩ := hla (b j) (by omega)
          obtain ⟨n, hn, e1, e2, _⟩ := hG (b j) l (by omega) hl
          have hca := g.2.2.2.2 (m - 1 - j) (by omega)
          rw [show m - 1 - (m - 1 - j) = j by omega] at hca
          unfold cw_ca at hca
          rw [el, nI_clamp (by omega), e1, cw_le11 (by omega), cw_tl3 (by omega)] at hca
          exact ⟨l, n, by omega, el, by omega, e1⟩)
      rw [cw_cp2_0, cw_cp2_0, cw_cp2_0] at kx
      refine ⟨_, kx _ ?_⟩
      simp (disch := omega) only [wX_pay_70, cw_m2, cw_m3, cw_m4, cw_m13, cw_2m, cw_3m, cw_12m, cw_24m, cw_36m, cw_a12, cw_a3, nI_add, nI_1, pk_sub, nI_clamp, vp_in_nI, forall_eq, nI_leI, nI_ltI, nI_eq, true_implies, forall_const, not_true_eq_false, not_false_eq_true, false_implies, and_true, true_and, implies_true, and_self, reduceIte]
      unfold wpY_pay
      dsimp only
      refine ys_isAsk (fun _ => br_f cw_n1 (br_f s0 (br_f s15 (br_f nb1 (seek _ (fun mo wy pt su bb bu heq => ?_)))))) (fun na => absurd ask na)
      dsimp only
      refine br_f m0 ?_
      simp (disch := omega) only [cw_m2, cw_m3, cw_m4, cw_m13, cw_2m, cw_3m, cw_12m, cw_24m, cw_36m, cw_a12, cw_a3, nI_add, nI_1, pk_sub, nI_clamp, vp_in_nI, forall_eq, nI_leI, nI_ltI, nI_eq, true_implies, forall_const, not_true_eq_false, not_false_eq_true, false_implies, and_true, true_and, implies_true, and_self, reduceIte]
      refine ⟨_, ky wy pt su bb bu (fun i hi => ⟨(heq i hi).1.trans (hbb i hi).1, (heq i hi).2⟩) _ ?_⟩
      exact ⟨(heq 0 hm).2, ⟨H, C, _, on, ba, ra, gu, si, _, _, _, by omega, hB0, hD, _, _, co, _, st, la', pu, ps, sc, he, xb', xc', xi', tc, ts, ta, bc, bs, bm, pb, ou, yb', yl', yf', ya', ys', ye', zf, za, zs, ze, wy, pt, su, bb, bu, rfl, rfl, hS, k1, k2, k3, k4, hZ⟩⟩
  · unfold wpY_pay
    dsimp only
    exact ys_isAsk (fun y => absurd y ask) (fun _ => br_t rfl ⟨rfl, J⟩)
end PAY
