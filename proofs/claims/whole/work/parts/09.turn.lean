/-! part 09: the two turns in step -/
section TURN
variable {h sp ch bl yn : Int32} {co on ba ra gu se si st la pu ps sc he xb xc xi xf xa xe tc ts ta bc bs bm pb ou yb yl yf ya ys ye zf za zs ze wy pt su bb bu : Nat → Int32}
def cw_st (u : SX) : Nat → Int32 := match u with
  | (h, sp, ch, bl, co, on, ba, ra, gu, se, si, st, la, pu, ps, sc, he, xb, xc, xi, xf, xa, xe, tc, ts, ta, bc, bs, bm) => st
def cw_cn (u : SX) (c : Nat) : Nat := match u with
  | (h, sp, ch, bl, co, on, ba, ra, gu, se, si, st, la, pu, ps, sc, he, xb, xc, xi, xf, xa, xe, tc, ts, ta, bc, bs, bm) => (xc (13 * c + (la c).toNatClampNeg)).toNatClampNeg
theorem ls_show {H C : Nat} {u : SX} {v : SY} (hB : cw_B C si) (t : cw_T H C sp on ba ra gu si xf xa xe u v) {c s k : Nat} (hc : c < C) (hs : s < 2) (hk : k < 12) :
    ∃ u' v', cw_T H C sp on ba ra gu si xf xa xe u' v' ∧ cw_st u' c = 1 ∧ (∀ post : SX → Prop, post u' → wpX_putOnChain post u (nI c) (nI s) (nI k)) ∧ (∀ post : SY → Prop, post v' → wpY_show post v (si (2 * c + s)) (nI c) (nI k)) := by
  obtain ⟨hC, hsi, hne⟩ := hB
  obtain ⟨bl, yn, co, se, st, la, pu, ps, sc, he, xb, xc, xi, tc, ts, ta, bc, bs, bm, pb, ou, yb, yl, yf, ya, ys, ye, zf, za, zs, ze, wy, pt, su, bb, bu, rfl, rfl, hS, hE, hF, hG, hO, hZ⟩ := t
  obtain ⟨a, ha, ea⟩ := hsi (2 * c + 1 - s) (by omega)
  obtain ⟨n, hn, e1, e2, _⟩ := hG c k (by omega) hk
  have eb0 : yb (2 * (12 * c + k) + s) = xb (2 * (13 * c + k) + s) := hF c k s (by omega) hk hs
  have eb1 : yb (2 * (12 * c + k) + 1 - s) = xb (2 * (13 * c + k) + 1 - s) := by
    have := hF c k (1 - s) (by omega) hk (by omega)
    rwa [show 2 * (12 * c + k) + (1 - s) = 2 * (12 * c + k) + 1 - s by omega, show 2 * (13 * c + k) + (1 - s) = 2 * (13 * c + k) + 1 - s by omega] at this
  refine ⟨_, _, ⟨bl, yn, _, se, _, la, _, _, _, _, xb, _, _, tc, ts, ta, bc, bs, bm, _, _, yb, yl, yf, ya, ys, ye, _, _, _, _, wy, pt, su, bb, bu, rfl, rfl, cw_S_show hS, cw_E_show hE hs, hF, cw_G_show hG (by omega), cw_O_show hG hO (by omega) hk hn e1, cw_Z_put hZ hc⟩, ?_, fun post hp => xs_put (by omega) hs hk ha ea hp, fun post hp => ?_⟩
  · show upd st c 1 c = 1
    exact pk_us
  · refine ys_show (by omega) hs hk ha ea rfl (hne c hc) hn e2 ?_
    rw [eb0, eb1]
    exact hp
theorem ls_fail {H C c l j L s m : Nat} (hZ : cw_Z C st) (hS : cw_S H sc) (hE : cw_E st la ps pb si) (hF : cw_F xb yb) (hG : cw_G sp xf xa xe xc xi yl yf ya ys ye) (hO : cw_O sp xf xa xe xc xi st ou zf za zs ze)
    (hc : c < 8) (hl : l < 11) (el : la c = nI l) (hj : j ≤ m) (hm : m ≤ 2) (hs : s < 2) (eL : xi (3 * (13 * c + l) + j) = nI L) (hL : L < 64) (ef : xf L = nI s) (en : xc (13 * c + l) = nI (m + 1)) (ey : yl (12 * c + l) = nI (m + 1)) (ea : ya (3 * (12 * c + l) + j) = xa L) :
    ∃ u' v', cw_T H C sp on ba ra gu si xf xa xe u' v' ∧ cw_st u' c = st c ∧ cw_cn u' c = m ∧ (∀ post : SX → Prop, post u' → wpX_endLock post (nI H, sp, nI C, bl, co, on, ba, ra, gu, se, si, st, la, pu, ps, sc, he, xb, xc, xi, xf, xa, xe, tc, ts, ta, bc, bs, bm) (nI c) (nI j) 2) ∧ (∀ post : SY → Prop, post v' → wpY_end post (nI H, sp, nI C, yn, co, ba, ra, gu, se, on, si, st, la, pu, pb, sc, he, ou, yb, yl, yf, ya, ys, ye, zf, za, zs, ze, wy, pt, su, bb, bu) (nI c) (nI j) (nI s)) := by
  refine ⟨_, _, ⟨bl, yn, co, se, st, _, pu, ps, sc, he, _, _, _, tc, ts, ta, bc, bs, bm, pb, ou, _, _, _, _, _, _, zf, za, zs, ze, wy, pt, su, bb, bu, rfl, rfl, hS, cw_E_la hE (l := l + 1) (c := c) (by omega), cw_F_end hF (z := xa L) hc hl hs, cw_G_end hG hc hl hj hm en, cw_O_end hO (m := m) hc hl (by omega), hZ⟩, rfl, ?_, fun post hp => xs_end2 hc hl el (by omega) eL hL ef hs en hp, fun post hp => ys_end hc hl el hj hm hs ey ?_⟩
  · show (upd (upd xc (13 * c + l + 1) (xc (13 * c + l))) (13 * c + l + 1) (nI m) (13 * c + (upd la c (nI (l + 1)) c).toNatClampNeg)).toNatClampNeg = m
    rw [pk_us, nI_clamp (by omega), pk_us' (by omega), nI_clamp (by omega)]
  · rw [ea]
    exact hp
theorem ls_settle {H C c l j L s m a : Nat} (hZ : cw_Z C st) (hS : cw_S H sc) (hE : cw_E st la ps pb si) (hF : cw_F xb yb) (hG : cw_G sp xf xa xe xc xi yl yf ya ys ye) (hO : cw_O sp xf xa xe xc xi st ou zf za zs ze)
    (hc : c < 8) (hl : l < 11) (el : la c = nI l) (hj : j ≤ m) (hm : m ≤ 2) (hs : s < 2) (eL : xi (3 * (13 * c + l) + j) = nI L) (hL : L < 64) (ef : xf L = nI (1 - s)) (en : xc (13 * c + l) = nI (m + 1)) (ey : yl (12 * c + l) = nI (m + 1)) (ea : ya (3 * (12 * c + l) + j) = xa L)
    (ha : a < 6) (eo : si (2 * c + (1 - s)) = nI a) :
    ∃ u' v', cw_T H C sp on ba ra gu si xf xa xe u' v' ∧ cw_st u' c = st c ∧ cw_cn u' c = m ∧ (∀ post : SX → Prop, post u' → wpX_endLock post (nI H, sp, nI C, bl, co, on, ba, ra, gu, se, si, st, la, pu, ps, sc, he, xb, xc, xi, xf, xa, xe, tc, ts, ta, bc, bs, bm) (nI c) (nI j) 1) ∧ (∀ post : SY → Prop, post v' → wpY_end post (nI H, sp, nI C, yn, co, ba, ra, gu, upd se a (se a ||| ((1 : Int32) <<< (nI (L / 4) &&& 31))), on, si, st, la, pu, pb, sc, he, ou, yb, yl, yf, ya, ys, ye, zf, za, zs, ze, wy, pt, su, bb, bu) (nI c) (nI j) (nI s)) := by
  refine ⟨_, _, ⟨bl, yn, co, upd se a (se a ||| ((1 : Int32) <<< (nI (L / 4) &&& 31))), st, _, pu, ps, sc, he, _, _, _, tc, ts, ta, bc, bs, bm, pb, ou, _, _, _, _, _, _, zf, za, zs, ze, wy, pt, su, bb, bu, rfl, rfl, hS, cw_E_la hE (l := l + 1) (c := c) (by omega), cw_F_end hF (z := xa L) hc hl hs, cw_G_end hG hc hl hj hm en, cw_O_end hO (m := m) hc hl (by omega), hZ⟩, rfl, ?_, fun post hp => xs_end1 hc hl el (by omega) eL hL ef (by omega) en ha eo ?_, fun post hp => ys_end hc hl el hj hm hs ey ?_⟩
  · show (upd (upd xc (13 * c + l + 1) (xc (13 * c + l))) (13 * c + l + 1) (nI m) (13 * c + (upd la c (nI (l + 1)) c).toNatClampNeg)).toNatClampNeg = m
    rw [pk_us, nI_clamp (by omega), pk_us' (by omega), nI_clamp (by omega)]
  · rw [show 2 * (13 * c + l + 1) + 1 - (1 - s) = 2 * (13 * c + l + 1) + s by omega]
    exact hp
  · rw [ea]
    exact hp
theorem ls_act {H C : Nat} {u : SX} {v : SY} (hB : cw_B C si) (t : cw_T H C sp on ba ra gu si xf xa xe u v) {c s : Nat} (hc : c < C) (hs : s < 2) (h0 : cw_st u c = 0) :
    ∃ (u' : SX) (v' : SY) (r : Int32), cw_T H C sp on ba ra gu si xf xa xe u' v' ∧ ((r = 0 ∧ u' = u ∧ v' = v) ∨ (r = 1 ∧ 0 < cw_cn u c ∧ (cw_st u' c = 1 ∨ (cw_st u' c = 0 ∧ cw_cn u' c < cw_cn u c)))) ∧
      (∀ post : SX → Prop, post u' → wpX_actOnFirstDue post u (nI c) (nI s)) ∧ (∀ post : Int32 → SY → Prop, post r v' → wpY_act post v (si (2 * c + s)) (nI c)) := by
  have t0 := t
  have hB0 := hB
  obtain ⟨hC, hsi, hne⟩ := hB
  obtain ⟨bl, yn, co, se, st, la, pu, ps, sc, he, xb, xc, xi, tc, ts, ta, bc, bs, bm, pb, ou, yb, yl, yf, ya, ys, ye, zf, za, zs, ze, wy, pt, su, bb, bu, rfl, rfl, hS, hE, hF, hG, hO, hZ⟩ := t
  have h0' : st c = 0 := h0
  obtain ⟨a, ha, ea⟩ := hsi (2 * c + s) (by omega)
  obtain ⟨b, hb, eb⟩ := hsi (2 * c + (1 - s)) (by omega)
  obtain ⟨l, hl, el⟩ := (hE c (by omega)).1
  obtain ⟨n, hn, e1, e2, hrow⟩ := hG c l (by omega) hl
  have ecn : cw_cn (nI H, sp, nI C, bl, co, on, ba, ra, gu, se, si, st, la, pu, ps, sc, he, xb, xc, xi, xf, xa, xe, tc, ts, ta, bc, bs, bm) c = n := by
    show (xc (13 * c + (la c).toNatClampNeg)).toNatClampNeg = n
    rw [el, nI_clamp (by omega), e1, nI_clamp (by omega)]
  have hz : ∃ z : Int32, (cw_can st la on si c ∧ z = 1) ∨ (¬ cw_can st la on si c ∧ z = 0) := by
    by_cases q : cw_can st la on si c
    · exact ⟨1, Or.inl ⟨q, rfl⟩⟩
    · exact ⟨0, Or.inr ⟨q, rfl⟩⟩
  obtain ⟨z, hz⟩ := hz
  have key : ∀ d j, j + d = n → ∃ (u' : SX) (v' : SY) (r : Int32), cw_T H C sp on ba ra gu si xf xa xe u' v' ∧ ((r = 0 ∧ u' = (nI H, sp, nI C, bl, co, on, ba, ra, gu, se, si, st, la, pu, ps, sc, he, xb, xc, xi, xf, xa, xe, tc, ts, ta, bc, bs, bm) ∧ v' = (nI H, sp, nI C, yn, co, ba, ra, gu, se, on, si, st, la, pu, pb, sc, he, ou, yb, yl, yf, ya, ys, ye, zf, za, zs, ze, wy, pt, su, bb, bu)) ∨ (r = 1 ∧ 0 < n ∧ (cw_st u' c = 1 ∨ (cw_st u' c = 0 ∧ cw_cn u' c < n)))) ∧
      (∀ post : SX → Prop, post u' → wX_actOnFirstDue_15 post (nI c) (nI s) (nI (13 * c + l)) (d + 1) (nI j) (nI H) sp (nI C) bl co on ba ra gu se si st la pu ps sc he xb xc xi xf xa xe tc ts ta bc bs bm) ∧
      (∀ post : Int32 → SY → Prop, post r v' → wY_act_24 post (nI a) (nI c) (nI s) (nI (12 * c + l)) z (nI H) sp (nI C) yn co ba ra gu se on si st la pu pb sc he ou yb yl yf ya ys ye zf za zs ze wy pt su bb bu (d + 1) (nI j)) := by
    intro d
    induction d with
    | zero =>
      intro j hj
      have hjn : j = n := by omega
      subst hjn
      refine ⟨_, _, 0, t0, Or.inl ⟨rfl, rfl, rfl⟩, fun post hp => ?_, fun post hp => ?_⟩
      · by_cases q : 3 ≤ j
        · simp (disch := omega) only [wX_actOnFirstDue_15, cw_le3, q, forall_eq, nI_leI, nI_ltI, nI_eq, true_implies, forall_const, not_true_eq_false, not_false_eq_true, false_implies, and_true, true_and, implies_true, and_self, reduceIte]
          exact hp
        · simp (disch := omega) only [wX_actOnFirstDue_15, cw_le3, q, cw_m2, cw_m3, cw_m4, cw_m13, cw_2m, cw_3m, cw_12m, cw_24m, cw_36m, cw_a12, cw_a3, nI_add, nI_1, pk_sub, nI_clamp, vp_in_nI, e1, Nat.le_refl, forall_eq, nI_leI, nI_ltI, nI_eq, true_implies, forall_const, not_true_eq_false, not_false_eq_true, false_implies, and_true, true_and, implies_true, and_self, reduceIte]
          exact hp
      · simp (disch := omega) only [wY_act_24, cw_m2, cw_m3, cw_m4, cw_m13, cw_2m, cw_3m, cw_12m, cw_24m, cw_36m, cw_a12, cw_a3, nI_add, nI_1, pk_sub, nI_clamp, vp_in_nI, e2, Nat.le_refl, forall_eq, nI_leI, nI_ltI, nI_eq, true_implies, forall_const, not_true_eq_false, not_false_eq_true, false_implies, and_true, true_and, implies_true, and_self, reduceIte]
        exact hp
    | succ d ih =>
      intro j hj
      obtain ⟨L, hL, ez, hbit, efx, h01, eax, esx, eex⟩ := hrow j (by omega)
      have q3 : ¬ 3 ≤ j := by omega
      have qn : ¬ n ≤ j := by omega
      obtain ⟨m, rfl⟩ : ∃ m, n = m + 1 := ⟨n - 1, by omega⟩
      have leave : (∀ P : Int32 → Prop, P 0 → wpX_dueAct P (nI H, sp, nI C, bl, co, on, ba, ra, gu, se, si, st, la, pu, ps, sc, he, xb, xc, xi, xf, xa, xe, tc, ts, ta, bc, bs, bm) (nI c) (nI s) (nI L)) →
          (∀ post : Int32 → SY → Prop, wY_act_24 post (nI a) (nI c) (nI s) (nI (12 * c + l)) z (nI H) sp (nI C) yn co ba ra gu se on si st la pu pb sc he ou yb yl yf ya ys ye zf za zs ze wy pt su bb bu (d + 1) (nI (j + 1)) → wY_act_24 post (nI a) (nI c) (nI s) (nI (12 * c + l)) z (nI H) sp (nI C) yn co ba ra gu se on si st la pu pb sc he ou yb yl yf ya ys ye zf za zs ze wy pt su bb bu (d + 1 + 1) (nI j)) →
          ∃ (u' : SX) (v' : SY) (r : Int32), cw_T H C sp on ba ra gu si xf xa xe u' v' ∧ ((r = 0 ∧ u' = (nI H, sp, nI C, bl, co, on, ba, ra, gu, se, si, st, la, pu, ps, sc, he, xb, xc, xi, xf, xa, xe, tc, ts, ta, bc, bs, bm) ∧ v' = (nI H, sp, nI C, yn, co, ba, ra, gu, se, on, si, st, la, pu, pb, sc, he, ou, yb, yl, yf, ya, ys, ye, zf, za, zs, ze, wy, pt, su, bb, bu)) ∨ (r = 1 ∧ 0 < m + 1 ∧ (cw_st u' c = 1 ∨ (cw_st u' c = 0 ∧ cw_cn u' c < m + 1)))) ∧
          (∀ post : SX → Prop, post u' → wX_actOnFirstDue_15 post (nI c) (nI s) (nI (13 * c + l)) (d + 1 + 1) (nI j) (nI H) sp (nI C) bl co on ba ra gu se si st la pu ps sc he xb xc xi xf xa xe tc ts ta bc bs bm) ∧
          (∀ post : Int32 → SY → Prop, post r v' → wY_act_24 post (nI a) (nI c) (nI s) (nI (12 * c + l)) z (nI H) sp (nI C) yn co ba ra gu se on si st la pu pb sc he ou yb yl yf ya ys ye zf za zs ze wy pt su bb bu (d + 1 + 1) (nI j)) := by
        intro hx hy
        obtain ⟨u', v', r, h1, h2, h3, h4⟩ := ih (j + 1) (by omega)
        refine ⟨u', v', r, h1, h2, fun post hp => ?_, fun post hp => hy post (h4 post hp)⟩
        rw [wX_actOnFirstDue_15]
        simp (disch := omega) only [cw_le3, q3, cw_m2, cw_m3, cw_m4, cw_m13, cw_2m, cw_3m, cw_12m, cw_24m, cw_36m, cw_a12, cw_a3, nI_add, nI_1, pk_sub, nI_clamp, vp_in_nI, e1, qn, ez, forall_eq, nI_leI, nI_ltI, nI_eq, true_implies, forall_const, not_true_eq_false, not_false_eq_true, false_implies, and_true, true_and, implies_true, and_self, reduceIte]
        refine hx _ (br_f (by decide) (br_t rfl ?_))
        unfold wX_actOnFirstDue_86
        exact br_t rfl (nm_r (nI_1 j) (h3 post hp))
      by_cases mi : xf L = nI s
      · by_cases e : xe L ≤ nI H
        · rcases hz with ⟨can, rfl⟩ | ⟨can, rfl⟩
          · have hl11 : l < 11 := by
              have := can.2
              rw [el] at this
              rcases Nat.lt_or_ge l 11 with q | q
              · exact q
              · exact absurd (nI_le q (by omega)) this
            obtain ⟨u', v', T', s', n', hx, hy⟩ := ls_fail (C := C) (on := on) (ba := ba) (ra := ra) (gu := gu) (co := co) (se := se) (pu := pu) (he := he) (bl := bl) (yn := yn) (tc := tc) (ts := ts) (ta := ta) (bc := bc) (bs := bs) (bm := bm) (wy := wy) (pt := pt) (su := su) (bb := bb) (bu := bu) hZ hS hE hF hG hO (show c < 8 by omega) hl11 el (show j ≤ m by omega) (by omega) hs ez hL mi e1 e2 eax
            refine ⟨u', v', 1, T', Or.inr ⟨rfl, by omega, Or.inr ⟨by rw [s']; exact h0', by omega⟩⟩, fun post hp => ?_, fun post hp => ?_⟩
            · rw [wX_actOnFirstDue_15]
              simp (disch := omega) only [cw_le3, q3, cw_m2, cw_m3, cw_m4, cw_m13, cw_2m, cw_3m, cw_12m, cw_24m, cw_36m, cw_a12, cw_a3, nI_add, nI_1, pk_sub, nI_clamp, vp_in_nI, e1, qn, ez, forall_eq, nI_leI, nI_ltI, nI_eq, true_implies, forall_const, not_true_eq_false, not_false_eq_true, false_implies, and_true, true_and, implies_true, and_self, reduceIte]
              refine xs_due (by omega) hs hL ha ea hsi (fun _ x => absurd e x) (fun _ _ _ => ?_) (fun _ _ x => absurd can x) (fun x => absurd mi x) (fun x => absurd mi x) (fun x => absurd mi x) (fun x => absurd mi x)
              refine br_f (by decide) (br_f (by decide) (hx _ ?_))
              obtain ⟨h, sp, ch, bl, co, on, ba, ra, gu, se, si, st, la, pu, ps, sc, he, xb, xc, xi, xf, xa, xe, tc, ts, ta, bc, bs, bm⟩ := u'
              exact br_f (by decide) hp
            · rw [wY_act_24]
              simp (disch := omega) only [wY_act_61, wY_act_128, wY_act_182, cw_m2, cw_m3, cw_m4, cw_m13, cw_2m, cw_3m, cw_12m, cw_24m, cw_36m, cw_a12, cw_a3, nI_add, nI_1, pk_sub, nI_clamp, vp_in_nI, e2, qn, efx, mi, eex, e, cw_n1, forall_eq, nI_leI, nI_ltI, nI_eq, true_implies, forall_const, not_true_eq_false, not_false_eq_true, false_implies, and_true, true_and, implies_true, and_self, reduceIte]
              refine hy _ ?_
              obtain ⟨h, sp, ch, yn, co, ba, ra, gu, se, on, si, st, la, pu, pb, sc, he, ou, yb, yl, yf, ya, ys, ye, zf, za, zs, ze, wy, pt, su, bb, bu⟩ := v'
              exact hp
          · obtain ⟨u', v', T', s', hx, hy⟩ := ls_show hB0 t0 hc hs hl
            rw [ea] at hy
            refine ⟨u', v', 1, T', Or.inr ⟨rfl, by omega, Or.inl s'⟩, fun post hp => ?_, fun post hp => ?_⟩
            · rw [wX_actOnFirstDue_15]
              simp (disch := omega) only [cw_le3, q3, cw_m2, cw_m3, cw_m4, cw_m13, cw_2m, cw_3m, cw_12m, cw_24m, cw_36m, cw_a12, cw_a3, nI_add, nI_1, pk_sub, nI_clamp, vp_in_nI, e1, qn, ez, el, forall_eq, nI_leI, nI_ltI, nI_eq, true_implies, forall_const, not_true_eq_false, not_false_eq_true, false_implies, and_true, true_and, implies_true, and_self, reduceIte]
              refine xs_due (by omega) hs hL ha ea hsi (fun _ x => absurd e x) (fun _ _ x => absurd x can) (fun _ _ _ => ?_) (fun x => absurd mi x) (fun x => absurd mi x) (fun x => absurd mi x) (fun x => absurd mi x)
              refine br_t rfl (hx _ ?_)
              obtain ⟨h, sp, ch, bl, co, on, ba, ra, gu, se, si, st, la, pu, ps, sc, he, xb, xc, xi, xf, xa, xe, tc, ts, ta, bc, bs, bm⟩ := u'
              exact br_f (by decide) hp
            · rw [wY_act_24]
              simp (disch := omega) only [wY_act_61, wY_act_128, wY_act_182, cw_m2, cw_m3, cw_m4, cw_m13, cw_2m, cw_3m, cw_12m, cw_24m, cw_36m, cw_a12, cw_a3, nI_add, nI_1, pk_sub, nI_clamp, vp_in_nI, e2, qn, efx, mi, eex, e, el, cw_n1, forall_eq, nI_leI, nI_ltI, nI_eq, true_implies, forall_const, not_true_eq_false, not_false_eq_true, false_implies, and_true, true_and, implies_true, and_self, reduceIte]
              refine hy _ ?_
              obtain ⟨h, sp, ch, yn, co, ba, ra, gu, se, on, si, st, la, pu, pb, sc, he, ou, yb, yl, yf, ya, ys, ye, zf, za, zs, ze, wy, pt, su, bb, bu⟩ := v'
              exact hp
        · refine leave (fun P hP => xs_due (by omega) hs hL ha ea hsi (fun _ _ => hP) (fun _ x => absurd x e) (fun _ x => absurd x e) (fun x => absurd mi x) (fun x => absurd mi x) (fun x => absurd mi x) (fun x => absurd mi x)) (fun post hp => ?_)
          rw [wY_act_24]
          simp (disch := omega) only [wY_act_61, cw_m2, cw_m3, cw_m4, cw_m13, cw_2m, cw_3m, cw_12m, cw_24m, cw_36m, cw_a12, cw_a3, nI_add, nI_1, pk_sub, nI_clamp, vp_in_nI, e2, qn, efx, mi, eex, e, cw_n1, forall_eq, nI_leI, nI_ltI, nI_eq, true_implies, forall_const, not_true_eq_false, not_false_eq_true, false_implies, and_true, true_and, implies_true, and_self, reduceIte]
          exact hp
      · by_cases bb' : bt (se a) (L / 4) = true
        · rcases hz with ⟨can, rfl⟩ | ⟨can, rfl⟩
          · have hl11 : l < 11 := by
              have := can.2
              rw [el] at this
              rcases Nat.lt_or_ge l 11 with q | q
              · exact q
              · exact absurd (nI_le q (by omega)) this
            have ef' : xf L = nI (1 - s) := by
              rw [← efx]
              rw [← efx] at mi
              have : s = 0 ∨ s = 1 := by omega
              rcases this with rfl | rfl <;> rcases h01 with q | q
              · exact absurd q mi
              · exact q
              · exact q
              · exact absurd q mi
            obtain ⟨u', v', T', s', n', hx, hy⟩ := ls_settle (C := C) (on := on) (ba := ba) (ra := ra) (gu := gu) (co := co) (se := se) (pu := pu) (he := he) (bl := bl) (yn := yn) (tc := tc) (ts := ts) (ta := ta) (bc := bc) (bs := bs) (bm := bm) (wy := wy) (pt := pt) (su := su) (bb := bb) (bu := bu) hZ hS hE hF hG hO (show c < 8 by omega) hl11 el (show j ≤ m by omega) (by omega) hs ez hL ef' e1 e2 eax hb eb
            refine ⟨u', v', 1, T', Or.inr ⟨rfl, by omega, Or.inr ⟨by rw [s']; exact h0', by omega⟩⟩, fun post hp => ?_, fun post hp => ?_⟩
            · rw [wX_actOnFirstDue_15]
              simp (disch := omega) only [cw_le3, q3, cw_m2, cw_m3, cw_m4, cw_m13, cw_2m, cw_3m, cw_12m, cw_24m, cw_36m, cw_a12, cw_a3, nI_add, nI_1, pk_sub, nI_clamp, vp_in_nI, e1, qn, ez, forall_eq, nI_leI, nI_ltI, nI_eq, true_implies, forall_const, not_true_eq_false, not_false_eq_true, false_implies, and_true, true_and, implies_true, and_self, reduceIte]
              refine xs_due (by omega) hs hL ha ea hsi (fun x => absurd x mi) (fun x => absurd x mi) (fun x => absurd x mi) (fun _ x => absurd bb' x) (fun _ _ _ => ?_) (fun _ _ x => absurd can x) (fun _ _ x => absurd can x)
              refine br_f (by decide) (br_f (by decide) (hx _ ?_))
              obtain ⟨h, sp, ch, bl, co, on, ba, ra, gu, se, si, st, la, pu, ps, sc, he, xb, xc, xi, xf, xa, xe, tc, ts, ta, bc, bs, bm⟩ := u'
              exact br_f (by decide) hp
            · have e3 : si (2 * c + 1 - s) = nI b := by rw [show 2 * c + 1 - s = 2 * c + (1 - s) by omega]; exact eb
              rw [wY_act_24]
              simp (disch := omega) only [wY_act_61, wY_act_128, wY_act_182, cw_m2, cw_m3, cw_m4, cw_m13, cw_2m, cw_3m, cw_12m, cw_24m, cw_36m, cw_a12, cw_a3, nI_add, nI_1, pk_sub, nI_clamp, vp_in_nI, e2, qn, efx, mi, esx, cw_bit0, bb', Bool.true_eq_false, e3, cw_n1, forall_eq, nI_leI, nI_ltI, nI_eq, true_implies, forall_const, not_true_eq_false, not_false_eq_true, false_implies, and_true, true_and, implies_true, and_self, reduceIte]
              refine hy _ ?_
              obtain ⟨h, sp, ch, yn, co, ba, ra, gu, se, on, si, st, la, pu, pb, sc, he, ou, yb, yl, yf, ya, ys, ye, zf, za, zs, ze, wy, pt, su, bb, bu⟩ := v'
              exact hp
          · by_cases e : nI H + 1 < xe L
            · refine leave (fun P hP => xs_due (by omega) hs hL ha ea hsi (fun x => absurd x mi) (fun x => absurd x mi) (fun x => absurd x mi) (fun _ x => absurd bb' x) (fun _ _ x => absurd x can) (fun _ _ _ _ => hP) (fun _ _ _ x => absurd e x)) (fun post hp => ?_)
              have e' : ¬ xe L ≤ nI H + 1 := Int32.not_le.mpr e
              rw [nI_1] at e'
              rw [wY_act_24]
              simp (disch := omega) only [wY_act_61, cw_m2, cw_m3, cw_m4, cw_m13, cw_2m, cw_3m, cw_12m, cw_24m, cw_36m, cw_a12, cw_a3, nI_add, nI_1, pk_sub, nI_clamp, vp_in_nI, e2, qn, efx, mi, esx, eex, cw_bit0, bb', Bool.true_eq_false, e', cw_n1, forall_eq, nI_leI, nI_ltI, nI_eq, true_implies, forall_const, not_true_eq_false, not_false_eq_true, false_implies, and_true, true_and, implies_true, and_self, reduceIte]
              exact hp
            · obtain ⟨u', v', T', s', hx, hy⟩ := ls_show hB0 t0 hc hs hl
              rw [ea] at hy
              refine ⟨u', v', 1, T', Or.inr ⟨rfl, by omega, Or.inl s'⟩, fun post hp => ?_, fun post hp => ?_⟩
              · rw [wX_actOnFirstDue_15]
                simp (disch := omega) only [cw_le3, q3, cw_m2, cw_m3, cw_m4, cw_m13, cw_2m, cw_3m, cw_12m, cw_24m, cw_36m, cw_a12, cw_a3, nI_add, nI_1, pk_sub, nI_clamp, vp_in_nI, e1, qn, ez, el, forall_eq, nI_leI, nI_ltI, nI_eq, true_implies, forall_const, not_true_eq_false, not_false_eq_true, false_implies, and_true, true_and, implies_true, and_self, reduceIte]
                refine xs_due (by omega) hs hL ha ea hsi (fun x => absurd x mi) (fun x => absurd x mi) (fun x => absurd x mi) (fun _ x => absurd bb' x) (fun _ _ x => absurd x can) (fun _ _ _ x => absurd x e) (fun _ _ _ _ => ?_)
                refine br_t rfl (hx _ ?_)
                obtain ⟨h, sp, ch, bl, co, on, ba, ra, gu, se, si, st, la, pu, ps, sc, he, xb, xc, xi, xf, xa, xe, tc, ts, ta, bc, bs, bm⟩ := u'
                exact br_f (by decide) hp
              · have e' : xe L ≤ nI H + 1 := Int32.not_lt.mp e
                rw [nI_1] at e'
                rw [wY_act_24]
                simp (disch := omega) only [wY_act_61, wY_act_128, wY_act_182, cw_m2, cw_m3, cw_m4, cw_m13, cw_2m, cw_3m, cw_12m, cw_24m, cw_36m, cw_a12, cw_a3, nI_add, nI_1, pk_sub, nI_clamp, vp_in_nI, e2, qn, efx, mi, esx, eex, cw_bit0, bb', Bool.true_eq_false, e', el, cw_n1, forall_eq, nI_leI, nI_ltI, nI_eq, true_implies, forall_const, not_true_eq_false, not_false_eq_true, false_implies, and_true, true_and, implies_true, and_self, reduceIte]
                refine hy _ ?_
                obtain ⟨h, sp, ch, yn, co, ba, ra, gu, se, on, si, st, la, pu, pb, sc, he, ou, yb, yl, yf, ya, ys, ye, zf, za, zs, ze, wy, pt, su, bb, bu⟩ := v'
                exact hp
        · refine leave (fun P hP => xs_due (by omega) hs hL ha ea hsi (fun x => absurd x mi) (fun x => absurd x mi) (fun x => absurd x mi) (fun _ _ => hP) (fun _ x => absurd x bb') (fun _ x => absurd x bb') (fun _ x => absurd x bb')) (fun post hp => ?_)
          have b0 : bt (se a) (L / 4) = false := by
            cases q : bt (se a) (L / 4)
            · rfl
            · exact absurd q bb'
          rw [wY_act_24]
          simp (disch := omega) only [wY_act_61, cw_m2, cw_m3, cw_m4, cw_m13, cw_2m, cw_3m, cw_12m, cw_24m, cw_36m, cw_a12, cw_a3, nI_add, nI_1, pk_sub, nI_clamp, vp_in_nI, e2, qn, efx, mi, esx, cw_bit0, b0, cw_n1, forall_eq, nI_leI, nI_ltI, nI_eq, true_implies, forall_const, not_true_eq_false, not_false_eq_true, false_implies, and_true, true_and, implies_true, and_self, reduceIte]
          exact hp
  obtain ⟨u', v', r, h1, h2, h3, h4⟩ := key n 0 (by omega)
  refine ⟨u', v', r, h1, ?_, fun post hp => ?_, fun post hp => ?_⟩
  · rw [ecn]; exact h2
  · simp (disch := omega) only [wpX_actOnFirstDue, cw_m2, cw_m3, cw_m4, cw_m13, cw_2m, cw_3m, cw_12m, cw_24m, cw_36m, cw_a12, cw_a3, nI_add, nI_1, pk_sub, nI_clamp, vp_in_nI, el, forall_eq, nI_leI, nI_ltI, nI_eq, true_implies, forall_const, not_true_eq_false, not_false_eq_true, false_implies, and_true, true_and, implies_true, and_self, reduceIte]
    exact ⟨_, h3 post hp⟩
  · rw [ea]
    unfold wpY_act
    dsimp only
    refine ys_side (by omega) hs ea (hne c hc) (ys_now (by omega) el (ys_changes (by omega) hsi (fun q => ?_) (fun q => ?_)))
    · rcases hz with ⟨can, rfl⟩ | ⟨can, rfl⟩
      · exact ⟨_, h4 post hp⟩
      · exact absurd q can
    · rcases hz with ⟨can, rfl⟩ | ⟨can, rfl⟩
      · exact absurd can q
      · exact ⟨_, h4 post hp⟩
end TURN
