/-! part 07: walks of own methods of Y (a general post) -/
section YW
variable {h sp ch bl yn : Int32} {co on ba ra gu se si st la pu ps sc he xb xc xi xf xa xe tc ts ta bc bs bm pb ou yb yl yf ya ys ye zf za zs ze wy pt su bb bu : Nat → Int32}
theorem ys_isReady {post : Int32 → Prop} {c : Nat} (hc : c < 8) (hsi : ∀ i, i < 16 → ∃ a, a < 6 ∧ si i = nI a) (h1 : cw_rd st on si c → post 1) (h0 : ¬ cw_rd st on si c → post 0) : wpY_isReady post (h, sp, ch, yn, co, ba, ra, gu, se, on, si, st, la, pu, pb, sc, he, ou, yb, yl, yf, ya, ys, ye, zf, za, zs, ze, wy, pt, su, bb, bu) (nI c) := by
  obtain ⟨a, ha, ea⟩ := hsi (2 * c) (by omega)
  obtain ⟨b, hb, eb⟩ := hsi (2 * c + 1) (by omega)
  unfold cw_rd at h1 h0
  rw [ea, eb, nI_clamp (by omega), nI_clamp (by omega)] at h1 h0
  simp (disch := omega) only [wpY_isReady, cw_m2, cw_m3, cw_m4, cw_m13, cw_2m, cw_3m, cw_12m, cw_24m, cw_36m, cw_a12, cw_a3, nI_add, nI_1, pk_sub, nI_clamp, vp_in_nI, ea, eb, forall_eq, nI_leI, nI_ltI, nI_eq, true_implies, forall_const, not_true_eq_false, not_false_eq_true, false_implies, and_true, true_and, implies_true, and_self, reduceIte]
  by_cases q1 : st c = 0
  · by_cases q2 : on a = 0
    · simp only [q1, q2, forall_eq, nI_leI, nI_ltI, nI_eq, true_implies, forall_const, not_true_eq_false, not_false_eq_true, false_implies, and_true, true_and, implies_true, and_self, reduceIte]
      exact h0 (fun z => z.2.1 q2)
    · by_cases q3 : on b = 0
      · simp only [q1, q2, q3, forall_eq, nI_leI, nI_ltI, nI_eq, true_implies, forall_const, not_true_eq_false, not_false_eq_true, false_implies, and_true, true_and, implies_true, and_self, reduceIte]
        exact h0 (fun z => z.2.2 q3)
      · simp only [q1, q2, q3, forall_eq, nI_leI, nI_ltI, nI_eq, true_implies, forall_const, not_true_eq_false, not_false_eq_true, false_implies, and_true, true_and, implies_true, and_self, reduceIte]
        exact h1 ⟨q1, q2, q3⟩
  · simp only [q1, forall_eq, nI_leI, nI_ltI, nI_eq, true_implies, forall_const, not_true_eq_false, not_false_eq_true, false_implies, and_true, true_and, implies_true, and_self, reduceIte]
    exact h0 (fun z => q1 z.1)
theorem ys_changes {post : Int32 → Prop} {c : Nat} (hc : c < 8) (hsi : ∀ i, i < 16 → ∃ a, a < 6 ∧ si i = nI a) (h1 : cw_can st la on si c → post 1) (h0 : ¬ cw_can st la on si c → post 0) : wpY_changes post (h, sp, ch, yn, co, ba, ra, gu, se, on, si, st, la, pu, pb, sc, he, ou, yb, yl, yf, ya, ys, ye, zf, za, zs, ze, wy, pt, su, bb, bu) (nI c) := by
  unfold wpY_changes
  dsimp only
  refine ys_isReady hc hsi (fun q => br_f cw_n1 ⟨pk_in c 8 hc, ?_⟩) (fun q => br_t rfl (h0 (fun z => q z.1)))
  rw [nI_clamp (by omega)]
  exact br_c (fun l => h0 (fun z => z.2 l)) (fun l => h1 ⟨q, l⟩)
theorem ys_sideOf {post : Int32 → Prop} {c : Nat} {p : Int32} (hc : c < 8) (h0 : si (2 * c) = p → post 0) (h1 : ¬ si (2 * c) = p → si (2 * c + 1) = p → post 1) (h2 : ¬ si (2 * c) = p → ¬ si (2 * c + 1) = p → post (-1)) : wpY_sideOf post (h, sp, ch, yn, co, ba, ra, gu, se, on, si, st, la, pu, pb, sc, he, ou, yb, yl, yf, ya, ys, ye, zf, za, zs, ze, wy, pt, su, bb, bu) (nI c) p := by
  simp (disch := omega) only [wpY_sideOf, cw_m2, cw_m3, cw_m4, cw_m13, cw_2m, cw_3m, cw_12m, cw_24m, cw_36m, cw_a12, cw_a3, nI_add, nI_1, pk_sub, nI_clamp, vp_in_nI, forall_eq, nI_leI, nI_ltI, nI_eq, true_implies, forall_const, not_true_eq_false, not_false_eq_true, false_implies, and_true, true_and, implies_true, and_self, reduceIte]
  exact br_c h0 (fun a => br_c (h1 a) (h2 a))
theorem ys_side {post : Int32 → Prop} {c s : Nat} {p : Int32} (hc : c < 8) (hs : s < 2) (es : si (2 * c + s) = p) (hne : ¬ si (2 * c) = si (2 * c + 1)) (H : post (nI s)) : wpY_sideOf post (h, sp, ch, yn, co, ba, ra, gu, se, on, si, st, la, pu, pb, sc, he, ou, yb, yl, yf, ya, ys, ye, zf, za, zs, ze, wy, pt, su, bb, bu) (nI c) p := by
  have : s = 0 ∨ s = 1 := by omega
  rcases this with rfl | rfl
  · exact ys_sideOf hc (fun _ => H) (fun a => absurd es a) (fun a => absurd es a)
  · exact ys_sideOf hc (fun a => absurd (a.trans es.symm) hne) (fun _ _ => H) (fun _ b => absurd es b)
theorem ys_now {post : Int32 → Prop} {c l : Nat} (hc : c < 8) (el : la c = nI l) (H : post (nI (12 * c + l))) : wpY_now post (h, sp, ch, yn, co, ba, ra, gu, se, on, si, st, la, pu, pb, sc, he, ou, yb, yl, yf, ya, ys, ye, zf, za, zs, ze, wy, pt, su, bb, bu) (nI c) := by
  simp (disch := omega) only [wpY_now, cw_m2, cw_m3, cw_m4, cw_m13, cw_2m, cw_3m, cw_12m, cw_24m, cw_36m, cw_a12, cw_a3, nI_add, nI_1, pk_sub, nI_clamp, vp_in_nI, el, forall_eq, nI_leI, nI_ltI, nI_eq, true_implies, forall_const, not_true_eq_false, not_false_eq_true, false_implies, and_true, true_and, implies_true, and_self, reduceIte]
  exact H
theorem ys_now1 {post : Int32 → Prop} {c l : Nat} (hc : c < 8) (el : la c = nI (l + 1)) (H : post (nI (12 * c + l + 1))) : wpY_now post (h, sp, ch, yn, co, ba, ra, gu, se, on, si, st, la, pu, pb, sc, he, ou, yb, yl, yf, ya, ys, ye, zf, za, zs, ze, wy, pt, su, bb, bu) (nI c) := ys_now hc el H
theorem ys_copy {post : SY → Prop} {s t : Nat} (hs : s < 288) (ht : t < 288) (H : post (h, sp, ch, yn, co, ba, ra, gu, se, on, si, st, la, pu, pb, sc, he, ou, yb, yl, upd yf t (yf s), upd ya t (ya s), upd ys t (ys s), upd ye t (ye s), zf, za, zs, ze, wy, pt, su, bb, bu)) : wpY_copy post (h, sp, ch, yn, co, ba, ra, gu, se, on, si, st, la, pu, pb, sc, he, ou, yb, yl, yf, ya, ys, ye, zf, za, zs, ze, wy, pt, su, bb, bu) (nI s) (nI t) := by
  simp (disch := omega) only [wpY_copy, cw_m2, cw_m3, cw_m4, cw_m13, cw_2m, cw_3m, cw_12m, cw_24m, cw_36m, cw_a12, cw_a3, nI_add, nI_1, pk_sub, nI_clamp, vp_in_nI, forall_eq, nI_leI, nI_ltI, nI_eq, true_implies, forall_const, not_true_eq_false, not_false_eq_true, false_implies, and_true, true_and, implies_true, and_self, reduceIte]
  exact H
theorem ys_change73 {post : SY → Prop} {o t n : Nat} (ho : o < t) (ht : t < 96) (hn : n ≤ 3) (en : yl o = nI n) (H : post (h, sp, ch, yn, co, ba, ra, gu, se, on, si, st, la, pu, pb, sc, he, ou, yb, yl, cw_cp2 yf yf (3 * o) (3 * t) n, cw_cp2 ya ya (3 * o) (3 * t) n, cw_cp2 ys ys (3 * o) (3 * t) n, cw_cp2 ye ye (3 * o) (3 * t) n, zf, za, zs, ze, wy, pt, su, bb, bu)) :
    ∀ d j, j + d = n → wY_change_73 post (nI o) (nI t) (d + 1) (nI j) h sp ch yn co ba ra gu se on si st la pu pb sc he ou yb yl (cw_cp2 yf yf (3 * o) (3 * t) j) (cw_cp2 ya ya (3 * o) (3 * t) j) (cw_cp2 ys ys (3 * o) (3 * t) j) (cw_cp2 ye ye (3 * o) (3 * t) j) zf za zs ze wy pt su bb bu := by
  intro d
  induction d with
  | zero =>
    intro j hj
    have : j = n := by omega
    subst this
    simp (disch := omega) only [wY_change_73, cw_m2, cw_m3, cw_m4, cw_m13, cw_2m, cw_3m, cw_12m, cw_24m, cw_36m, cw_a12, cw_a3, nI_add, nI_1, pk_sub, nI_clamp, vp_in_nI, en, Nat.le_refl, forall_eq, nI_leI, nI_ltI, nI_eq, true_implies, forall_const, not_true_eq_false, not_false_eq_true, false_implies, and_true, true_and, implies_true, and_self, reduceIte]
    exact H
  | succ d ih =>
    intro j hj
    have q : ¬ n ≤ j := by omega
    have := ih (j + 1) (by omega)
    rw [← cw_cpyS yf (show 3 * o + j < 3 * t by omega), ← cw_cpyS ya (show 3 * o + j < 3 * t by omega), ← cw_cpyS ys (show 3 * o + j < 3 * t by omega), ← cw_cpyS ye (show 3 * o + j < 3 * t by omega)] at this
    rw [wY_change_73]
    simp (disch := omega) only [cw_m2, cw_m3, cw_m4, cw_m13, cw_2m, cw_3m, cw_12m, cw_24m, cw_36m, cw_a12, cw_a3, nI_add, nI_1, pk_sub, nI_clamp, vp_in_nI, en, q, forall_eq, nI_leI, nI_ltI, nI_eq, true_implies, forall_const, not_true_eq_false, not_false_eq_true, false_implies, and_true, true_and, implies_true, and_self, reduceIte]
    exact ys_copy (by omega) (by omega) this
theorem ys_change {post : SY → Prop} {c l n : Nat} (hc : c < 8) (hl : l < 11) (el : la c = nI l) (hn : n ≤ 3) (en : yl (12 * c + l) = nI n)
    (H : post (h, sp, ch, yn, co, ba, ra, gu, se, on, si, st, upd la c (nI (l + 1)), pu, pb, sc, he, ou, cw_nb yb (12 * c + l) (12 * c + l + 1), upd yl (12 * c + l + 1) (nI n), cw_cp2 yf yf (3 * (12 * c + l)) (3 * (12 * c + l + 1)) n, cw_cp2 ya ya (3 * (12 * c + l)) (3 * (12 * c + l + 1)) n, cw_cp2 ys ys (3 * (12 * c + l)) (3 * (12 * c + l + 1)) n, cw_cp2 ye ye (3 * (12 * c + l)) (3 * (12 * c + l + 1)) n, zf, za, zs, ze, wy, pt, su, bb, bu)) : wpY_change post (h, sp, ch, yn, co, ba, ra, gu, se, on, si, st, la, pu, pb, sc, he, ou, yb, yl, yf, ya, ys, ye, zf, za, zs, ze, wy, pt, su, bb, bu) (nI c) := by
  unfold wpY_change
  dsimp only
  refine ys_now hc el ?_
  simp (disch := omega) only [cw_m2, cw_m3, cw_m4, cw_m13, cw_2m, cw_3m, cw_12m, cw_24m, cw_36m, cw_a12, cw_a3, nI_add, nI_1, pk_sub, nI_clamp, vp_in_nI, el, forall_eq, nI_leI, nI_ltI, nI_eq, true_implies, forall_const, not_true_eq_false, not_false_eq_true, false_implies, and_true, true_and, implies_true, and_self, reduceIte]
  refine ys_now1 (l := l) hc pk_us ?_
  simp (disch := omega) only [cw_m2, cw_m3, cw_m4, cw_m13, cw_2m, cw_3m, cw_12m, cw_24m, cw_36m, cw_a12, cw_a3, nI_add, nI_1, pk_sub, nI_clamp, vp_in_nI, en, pk_un, forall_eq, nI_leI, nI_ltI, nI_eq, true_implies, forall_const, not_true_eq_false, not_false_eq_true, false_implies, and_true, true_and, implies_true, and_self, reduceIte]
  refine ⟨n + 1, ?_⟩
  have := ys_change73 (post := post) (yl := upd yl (12 * c + l + 1) (nI n)) (yf := yf) (ya := ya) (ys := ys) (ye := ye) (show 12 * c + l < 12 * c + l + 1 by omega) (by omega) hn (by rw [pk_un (by omega)]; exact en) H n 0 (by omega)
  rw [cw_cp2_0, cw_cp2_0, cw_cp2_0, cw_cp2_0] at this
  exact this
theorem ys_end56 {post : SY → Prop} {t j m : Nat} (ht : t < 96) (hm : m ≤ 2) (en : yl t = nI m) (H : post (h, sp, ch, yn, co, ba, ra, gu, se, on, si, st, la, pu, pb, sc, he, ou, yb, yl, cw_shf yf (3 * t + j) (3 * t + m), cw_shf ya (3 * t + j) (3 * t + m), cw_shf ys (3 * t + j) (3 * t + m), cw_shf ye (3 * t + j) (3 * t + m), zf, za, zs, ze, wy, pt, su, bb, bu)) :
    ∀ d i, i + d = m → j ≤ i → wY_end_56 post (nI t) (d + 1) (nI (3 * t + i)) h sp ch yn co ba ra gu se on si st la pu pb sc he ou yb yl (cw_shf yf (3 * t + j) (3 * t + i)) (cw_shf ya (3 * t + j) (3 * t + i)) (cw_shf ys (3 * t + j) (3 * t + i)) (cw_shf ye (3 * t + j) (3 * t + i)) zf za zs ze wy pt su bb bu := by
  intro d
  induction d with
  | zero =>
    intro i hi _
    have : i = m := by omega
    subst this
    simp (disch := omega) only [wY_end_56, cw_m2, cw_m3, cw_m4, cw_m13, cw_2m, cw_3m, cw_12m, cw_24m, cw_36m, cw_a12, cw_a3, nI_add, nI_1, pk_sub, nI_clamp, vp_in_nI, en, Nat.le_refl, forall_eq, nI_leI, nI_ltI, nI_eq, true_implies, forall_const, not_true_eq_false, not_false_eq_true, false_implies, and_true, true_and, implies_true, and_self, reduceIte]
    exact H
  | succ d ih =>
    intro i hi hji
    have q : ¬ 3 * t + m ≤ 3 * t + i := by omega
    have := ih (i + 1) (by omega) (by omega)
    rw [← Nat.add_assoc, ← cw_shfS yf (show 3 * t + j ≤ 3 * t + i by omega), ← cw_shfS ya (show 3 * t + j ≤ 3 * t + i by omega), ← cw_shfS ys (show 3 * t + j ≤ 3 * t + i by omega), ← cw_shfS ye (show 3 * t + j ≤ 3 * t + i by omega)] at this
    rw [wY_end_56]
    simp (disch := omega) only [cw_m2, cw_m3, cw_m4, cw_m13, cw_2m, cw_3m, cw_12m, cw_24m, cw_36m, cw_a12, cw_a3, nI_add, nI_1, pk_sub, nI_clamp, vp_in_nI, en, q, forall_eq, nI_leI, nI_ltI, nI_eq, true_implies, forall_const, not_true_eq_false, not_false_eq_true, false_implies, and_true, true_and, implies_true, and_self, reduceIte]
    exact ys_copy (by omega) (by omega) this
theorem ys_end {post : SY → Prop} {c l j s m : Nat} (hc : c < 8) (hl : l < 11) (el : la c = nI l) (hj : j ≤ m) (hm : m ≤ 2) (hs : s < 2) (en : yl (12 * c + l) = nI (m + 1))
    (H : post (h, sp, ch, yn, co, ba, ra, gu, se, on, si, st, upd la c (nI (l + 1)), pu, pb, sc, he, ou, upd (cw_nb yb (12 * c + l) (12 * c + l + 1)) (2 * (12 * c + l + 1) + s) (cw_nb yb (12 * c + l) (12 * c + l + 1) (2 * (12 * c + l + 1) + s) + ya (3 * (12 * c + l) + j)), upd (upd yl (12 * c + l + 1) (nI (m + 1))) (12 * c + l + 1) (nI m), cw_shf (cw_cp2 yf yf (3 * (12 * c + l)) (3 * (12 * c + l + 1)) (m + 1)) (3 * (12 * c + l + 1) + j) (3 * (12 * c + l + 1) + m), cw_shf (cw_cp2 ya ya (3 * (12 * c + l)) (3 * (12 * c + l + 1)) (m + 1)) (3 * (12 * c + l + 1) + j) (3 * (12 * c + l + 1) + m), cw_shf (cw_cp2 ys ys (3 * (12 * c + l)) (3 * (12 * c + l + 1)) (m + 1)) (3 * (12 * c + l + 1) + j) (3 * (12 * c + l + 1) + m), cw_shf (cw_cp2 ye ye (3 * (12 * c + l)) (3 * (12 * c + l + 1)) (m + 1)) (3 * (12 * c + l + 1) + j) (3 * (12 * c + l + 1) + m), zf, za, zs, ze, wy, pt, su, bb, bu)) : wpY_end post (h, sp, ch, yn, co, ba, ra, gu, se, on, si, st, la, pu, pb, sc, he, ou, yb, yl, yf, ya, ys, ye, zf, za, zs, ze, wy, pt, su, bb, bu) (nI c) (nI j) (nI s) := by
  unfold wpY_end
  dsimp only
  refine ys_change hc hl el (by omega) en ?_
  dsimp only
  refine ys_now1 (l := l) hc pk_us ?_
  have e1 : cw_cp2 ya ya (3 * (12 * c + l)) (3 * (12 * c + l + 1)) (m + 1) (3 * (12 * c + l + 1) + j) = ya (3 * (12 * c + l) + j) := cw_cp2_in _ _ (by omega)
  simp (disch := omega) only [cw_m2, cw_m3, cw_m4, cw_m13, cw_2m, cw_3m, cw_12m, cw_24m, cw_36m, cw_a12, cw_a3, nI_add, nI_1, pk_sub, nI_clamp, vp_in_nI, e1, pk_us, nI_pred, forall_eq, nI_leI, nI_ltI, nI_eq, true_implies, forall_const, not_true_eq_false, not_false_eq_true, false_implies, and_true, true_and, implies_true, and_self, reduceIte]
  have := ys_end56 (post := post) (t := 12 * c + l + 1) (j := j) (yl := upd (upd yl (12 * c + l + 1) (nI (m + 1))) (12 * c + l + 1) (nI m)) (by omega) hm pk_us H (m - j) j (by omega) (Nat.le_refl _)
  rw [cw_shfE _ (Nat.le_refl _), cw_shfE _ (Nat.le_refl _), cw_shfE _ (Nat.le_refl _), cw_shfE _ (Nat.le_refl _)] at this
  exact ⟨_, this⟩
theorem ys_show116 {post : SY → Prop} {c o n : Nat} (hc : c < 8) (ho : o < 96) (hn : n ≤ 3) (en : yl o = nI n) (H : post (h, sp, ch, yn, co, ba, ra, gu, se, on, si, st, la, pu, pb, sc, he, ou, yb, yl, yf, ya, ys, ye, cw_cp2 yf zf (3 * o) (3 * c) n, cw_cp2 ya za (3 * o) (3 * c) n, cw_cp2 ys zs (3 * o) (3 * c) n, cw_cp2 ye ze (3 * o) (3 * c) n, wy, pt, su, bb, bu)) :
    ∀ d j, j + d = n → wY_show_116 post (nI c) (nI o) h sp ch yn (d + 1) (nI j) co ba ra gu se on si st la pu pb sc he ou yb yl yf ya ys ye (cw_cp2 yf zf (3 * o) (3 * c) j) (cw_cp2 ya za (3 * o) (3 * c) j) (cw_cp2 ys zs (3 * o) (3 * c) j) (cw_cp2 ye ze (3 * o) (3 * c) j) wy pt su bb bu := by
  intro d
  induction d with
  | zero =>
    intro j hj
    have : j = n := by omega
    subst this
    simp (disch := omega) only [wY_show_116, cw_m2, cw_m3, cw_m4, cw_m13, cw_2m, cw_3m, cw_12m, cw_24m, cw_36m, cw_a12, cw_a3, nI_add, nI_1, pk_sub, nI_clamp, vp_in_nI, en, Nat.le_refl, forall_eq, nI_leI, nI_ltI, nI_eq, true_implies, forall_const, not_true_eq_false, not_false_eq_true, false_implies, and_true, true_and, implies_true, and_self, reduceIte]
    exact H
  | succ d ih =>
    intro j hj
    have q : ¬ n ≤ j := by omega
    have := ih (j + 1) (by omega)
    rw [← cw_cp2_S yf zf, ← cw_cp2_S ya za, ← cw_cp2_S ys zs, ← cw_cp2_S ye ze] at this
    rw [wY_show_116]
    simp (disch := omega) only [cw_m2, cw_m3, cw_m4, cw_m13, cw_2m, cw_3m, cw_12m, cw_24m, cw_36m, cw_a12, cw_a3, nI_add, nI_1, pk_sub, nI_clamp, vp_in_nI, en, q, forall_eq, nI_leI, nI_ltI, nI_eq, true_implies, forall_const, not_true_eq_false, not_false_eq_true, false_implies, and_true, true_and, implies_true, and_self, reduceIte]
    exact this
theorem ys_show {post : SY → Prop} {c s k a n : Nat} {p : Int32} (hc : c < 8) (hs : s < 2) (hk : k < 12) (ha : a < 6) (ea : si (2 * c + 1 - s) = nI a) (es : si (2 * c + s) = p) (hne : ¬ si (2 * c) = si (2 * c + 1)) (hn : n ≤ 3) (en : yl (12 * c + k) = nI n)
    (H : post (h, sp, ch, yn, upd co a (co a + yb (2 * (12 * c + k) + 1 - s)), ba, ra, gu, se, on, si, upd st c 1, la, upd pu c (nI k), upd pb c p, upd sc c h, upd he c (yb (2 * (12 * c + k) + s)), upd ou c (nI n), yb, yl, yf, ya, ys, ye, cw_cp2 yf zf (3 * (12 * c + k)) (3 * c) n, cw_cp2 ya za (3 * (12 * c + k)) (3 * c) n, cw_cp2 ys zs (3 * (12 * c + k)) (3 * c) n, cw_cp2 ye ze (3 * (12 * c + k)) (3 * c) n, wy, pt, su, bb, bu)) :
    wpY_show post (h, sp, ch, yn, co, ba, ra, gu, se, on, si, st, la, pu, pb, sc, he, ou, yb, yl, yf, ya, ys, ye, zf, za, zs, ze, wy, pt, su, bb, bu) p (nI c) (nI k) := by
  simp (disch := omega) only [wpY_show, cw_m2, cw_m3, cw_m4, cw_m13, cw_2m, cw_3m, cw_12m, cw_24m, cw_36m, cw_a12, cw_a3, nI_add, nI_1, pk_sub, nI_clamp, vp_in_nI, forall_eq, nI_leI, nI_ltI, nI_eq, true_implies, forall_const, not_true_eq_false, not_false_eq_true, false_implies, and_true, true_and, implies_true, and_self, reduceIte]
  refine ys_side hc hs es hne ?_
  simp (disch := omega) only [cw_m2, cw_m3, cw_m4, cw_m13, cw_2m, cw_3m, cw_12m, cw_24m, cw_36m, cw_a12, cw_a3, nI_add, nI_1, pk_sub, nI_clamp, vp_in_nI, ea, en, forall_eq, nI_leI, nI_ltI, nI_eq, true_implies, forall_const, not_true_eq_false, not_false_eq_true, false_implies, and_true, true_and, implies_true, and_self, reduceIte]
  refine ⟨n + 1, ?_⟩
  have := ys_show116 (post := post) (c := c) (o := 12 * c + k) (yf := yf) (ya := ya) (ys := ys) (ye := ye) (zf := zf) (za := za) (zs := zs) (ze := ze) hc (by omega) hn en H n 0 (by omega)
  rw [cw_cp2_0, cw_cp2_0, cw_cp2_0, cw_cp2_0] at this
  exact this
end YW
