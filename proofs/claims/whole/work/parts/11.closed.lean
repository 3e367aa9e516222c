/-! part 11: tending a closed channel, in step -/
section CLOSED
variable {h sp ch bl yn : Int32} {co on ba ra gu se si st la pu ps sc he xb xc xi xf xa xe tc ts ta bc bs bm pb ou yb yl yf ya ys ye zf za zs ze wy pt su bb bu : Nat → Int32}
def cw_ps (u : SX) : Nat → Int32 := match u with
  | (h, sp, ch, bl, co, on, ba, ra, gu, se, si, st, la, pu, ps, sc, he, xb, xc, xi, xf, xa, xe, tc, ts, ta, bc, bs, bm) => ps
def cw_ou (u : SX) (c : Nat) : Nat := match u with
  | (h, sp, ch, bl, co, on, ba, ra, gu, se, si, st, la, pu, ps, sc, he, xb, xc, xi, xf, xa, xe, tc, ts, ta, bc, bs, bm) => (xc (13 * c + 12)).toNatClampNeg
theorem cw_G_out (hG : cw_G sp xf xa xe xc xi yl yf ya ys ye) {c : Nat} {z : Int32} (hc : c < 8) : cw_G sp xf xa xe (upd xc (13 * c + 12) z) xi yl yf ya ys ye :=
  cw_G_frame hG (fun c' k' hc' hk' => by rw [pk_un (by omega)]) (fun c' k' i hc' hk' hi => rfl)
theorem cw_O_pun (hO : cw_O sp xf xa xe xc xi st ou zf za zs ze) {c : Nat} (hc : c < 8) : cw_O sp xf xa xe (upd xc (13 * c + 12) 0) xi st (upd ou c 0) zf za zs ze := by
  refine cw_O_put hO hc (fun i hi => pk_un hi) (fun i hi => pk_un hi) (fun i hi => rfl) (fun i hi => rfl) (fun i hi => ⟨rfl, rfl, rfl, rfl⟩) ⟨?_, fun _ => pk_us⟩
  rw [pk_us, pk_us]
  exact cw_Row_0
theorem cw_G_drop (hG : cw_G sp xf xa xe xc xi yl yf ya ys ye) {c j : Nat} {z : Int32} (hc : c < 8) : cw_G sp xf xa xe (upd xc (13 * c + 12) z) (cw_shf xi (3 * (13 * c + 12) + j) (3 * (13 * c + 12) + 2)) yl yf ya ys ye :=
  cw_G_frame hG (fun c' k' hc' hk' => by rw [pk_un (by omega)]) (fun c' k' i hc' hk' hi => cw_shf_out _ (by omega) (by omega))
theorem cw_O_drop (hO : cw_O sp xf xa xe xc xi st ou zf za zs ze) {c j m : Nat} (hc : c < 8) (h1 : st c = 1) (hm : m ≤ 2) (en : xc (13 * c + 12) = nI (m + 1)) :
    cw_O sp xf xa xe (upd xc (13 * c + 12) (nI m)) (cw_shf xi (3 * (13 * c + 12) + j) (3 * (13 * c + 12) + 2)) st (upd ou c (nI m)) (cw_shf zf (3 * c + j) (3 * c + m)) (cw_shf za (3 * c + j) (3 * c + m)) (cw_shf zs (3 * c + j) (3 * c + m)) (cw_shf ze (3 * c + j) (3 * c + m)) := by
  refine cw_O_put hO hc (fun i hi => pk_un hi) (fun i hi => pk_un hi) (fun i hi => rfl) (fun i hi => cw_shf_out _ hi (by omega)) (fun i hi => ⟨cw_shf_out _ hi (by omega), cw_shf_out _ hi (by omega), cw_shf_out _ hi (by omega), cw_shf_out _ hi (by omega)⟩) ⟨?_, fun z => absurd h1 z⟩
  rw [pk_us, pk_us]
  have hr := (hO c hc).1
  rw [en] at hr
  exact cw_Row_rem (j0 := j) hr (by omega) (fun i hi => cw_rem_in xi (by omega)) (fun i hi => cw_rem_in zf (by omega)) (fun i hi => cw_rem_in za (by omega)) (fun i hi => cw_rem_in zs (by omega)) (fun i hi => cw_rem_in ze (by omega))
theorem ls_punish {H C : Nat} {u : SX} {v : SY} (hB : cw_B C si) (t : cw_T H C sp on ba ra gu si xf xa xe u v) {c q : Nat} (hc : c < C) (hq : q < 2) (eq : cw_ps u c = nI q) :
    ∃ u' v' r, cw_T H C sp on ba ra gu si xf xa xe u' v' ∧ (∀ post : Int32 → SX → Prop, post r u' → wpX_punish post u (nI c)) ∧ (∀ post : Int32 → SY → Prop, post r v' → wpY_punish post v (si (2 * c + 1 - q)) (nI c)) := by
  obtain ⟨hC, hsi, hne⟩ := hB
  obtain ⟨bl, yn, co, se, st, la, pu, ps, sc, he, xb, xc, xi, tc, ts, ta, bc, bs, bm, pb, ou, yb, yl, yf, ya, ys, ye, zf, za, zs, ze, wy, pt, su, bb, bu, rfl, rfl, hS, hE, hF, hG, hO, hZ⟩ := t
  have eq' : ps c = nI q := eq
  obtain ⟨a, ha, ea⟩ := hsi (2 * c + 1 - q) (by omega)
  obtain ⟨⟨n, hn, e1, e2, hrow⟩, hst⟩ := hO c (by omega)
  have key : ∀ d j r0, j + d = n → ∃ r : Int32, (∀ post : Int32 → SX → Prop, post r (nI H, sp, nI C, bl, upd co a (co a + r), on, ba, ra, gu, se, si, st, la, pu, ps, sc, upd he c 0, xb, upd xc (13 * c + 12) 0, xi, xf, xa, xe, tc, ts, ta, bc, bs, bm) → wX_punish_18 post (nI c) (nI (13 * c + 12)) (nI H) sp (nI C) bl co on ba ra gu se si st la pu ps sc he xb xc xi xf xa xe tc ts ta bc bs bm (d + 1) r0 (nI j)) ∧
      (∀ post : Int32 → SY → Prop, post r (nI H, sp, nI C, yn, upd co a (co a + r), ba, ra, gu, se, on, si, st, la, pu, pb, sc, upd he c 0, upd ou c 0, yb, yl, yf, ya, ys, ye, zf, za, zs, ze, wy, pt, su, bb, bu) → wY_punish_10 post (nI a) (nI c) (nI H) sp (nI C) yn co ba ra gu se on si st la pu pb sc he ou yb yl yf ya ys ye zf za zs ze wy pt su bb bu (d + 1) r0 (nI j)) := by
    intro d
    induction d with
    | zero =>
      intro j r0 hj
      have hjn : j = n := by omega
      subst hjn
      refine ⟨r0, fun post hp => ?_, fun post hp => ?_⟩
      · rw [wX_punish_18]
        by_cases q3 : 3 ≤ j
        · simp (disch := omega) only [wX_punish_60, cw_le3, q3, cw_m2, cw_m3, cw_m4, cw_m13, cw_2m, cw_3m, cw_12m, cw_24m, cw_36m, cw_a12, cw_a3, nI_add, nI_1, pk_sub, nI_clamp, vp_in_nI, eq', ea, forall_eq, nI_leI, nI_ltI, nI_eq, true_implies, forall_const, not_true_eq_false, not_false_eq_true, false_implies, and_true, true_and, implies_true, and_self, reduceIte]
          exact hp
        · simp (disch := omega) only [wX_punish_60, cw_le3, q3, cw_m2, cw_m3, cw_m4, cw_m13, cw_2m, cw_3m, cw_12m, cw_24m, cw_36m, cw_a12, cw_a3, nI_add, nI_1, pk_sub, nI_clamp, vp_in_nI, e1, eq', ea, Nat.le_refl, forall_eq, nI_leI, nI_ltI, nI_eq, true_implies, forall_const, not_true_eq_false, not_false_eq_true, false_implies, and_true, true_and, implies_true, and_self, reduceIte]
          exact hp
      · rw [wY_punish_10]
        simp (disch := omega) only [cw_m2, cw_m3, cw_m4, cw_m13, cw_2m, cw_3m, cw_12m, cw_24m, cw_36m, cw_a12, cw_a3, nI_add, nI_1, pk_sub, nI_clamp, vp_in_nI, e2, Nat.le_refl, forall_eq, nI_leI, nI_ltI, nI_eq, true_implies, forall_const, not_true_eq_false, not_false_eq_true, false_implies, and_true, true_and, implies_true, and_self, reduceIte]
        exact hp
    | succ d ih =>
      intro j r0 hj
      obtain ⟨L, hL, ez, hbit, efx, h01, eax, esx, eex⟩ := hrow j (by omega)
      have q3 : ¬ 3 ≤ j := by omega
      have qn : ¬ n ≤ j := by omega
      obtain ⟨r, hx, hy⟩ := ih (j + 1) (r0 + xa L) (by omega)
      refine ⟨r, fun post hp => ?_, fun post hp => ?_⟩
      · rw [wX_punish_18]
        simp (disch := omega) only [cw_le3, q3, cw_m2, cw_m3, cw_m4, cw_m13, cw_2m, cw_3m, cw_12m, cw_24m, cw_36m, cw_a12, cw_a3, nI_add, nI_1, pk_sub, nI_clamp, vp_in_nI, e1, qn, ez, forall_eq, nI_leI, nI_ltI, nI_eq, true_implies, forall_const, not_true_eq_false, not_false_eq_true, false_implies, and_true, true_and, implies_true, and_self, reduceIte]
        exact hx post hp
      · rw [wY_punish_10]
        simp (disch := omega) only [cw_m2, cw_m3, cw_m4, cw_m13, cw_2m, cw_3m, cw_12m, cw_24m, cw_36m, cw_a12, cw_a3, nI_add, nI_1, pk_sub, nI_clamp, vp_in_nI, e2, qn, eax, forall_eq, nI_leI, nI_ltI, nI_eq, true_implies, forall_const, not_true_eq_false, not_false_eq_true, false_implies, and_true, true_and, implies_true, and_self, reduceIte]
        exact hy post hp
  obtain ⟨r, hx, hy⟩ := key n 0 (he c) (by omega)
  refine ⟨_, _, r, ⟨bl, yn, upd co a (co a + r), se, st, la, pu, ps, sc, upd he c 0, xb, upd xc (13 * c + 12) 0, xi, tc, ts, ta, bc, bs, bm, pb, upd ou c 0, yb, yl, yf, ya, ys, ye, zf, za, zs, ze, wy, pt, su, bb, bu, rfl, rfl, hS, hE, hF, cw_G_out (c := c) hG (by omega), cw_O_pun (c := c) hO (by omega), hZ⟩, fun post hp => ?_, fun post hp => ?_⟩
  · simp (disch := omega) only [wpX_punish, cw_m2, cw_m3, cw_m4, cw_m13, cw_2m, cw_3m, cw_12m, cw_24m, cw_36m, cw_a12, cw_a3, nI_add, nI_1, pk_sub, nI_clamp, vp_in_nI, forall_eq, nI_leI, nI_ltI, nI_eq, true_implies, forall_const, not_true_eq_false, not_false_eq_true, false_implies, and_true, true_and, implies_true, and_self, reduceIte]
    exact ⟨_, hx post hp⟩
  · rw [ea]
    simp (disch := omega) only [wpY_punish, cw_m2, cw_m3, cw_m4, cw_m13, cw_2m, cw_3m, cw_12m, cw_24m, cw_36m, cw_a12, cw_a3, nI_add, nI_1, pk_sub, nI_clamp, vp_in_nI, forall_eq, nI_leI, nI_ltI, nI_eq, true_implies, forall_const, not_true_eq_false, not_false_eq_true, false_implies, and_true, true_and, implies_true, and_self, reduceIte]
    exact ⟨_, hy post hp⟩
theorem ys_drop16 {post : SY → Prop} {c j m : Nat} (hc : c < 8) (hm : m ≤ 2) (en : ou c = nI m) (H : post (h, sp, ch, yn, co, ba, ra, gu, se, on, si, st, la, pu, pb, sc, he, ou, yb, yl, yf, ya, ys, ye, cw_shf zf (3 * c + j) (3 * c + m), cw_shf za (3 * c + j) (3 * c + m), cw_shf zs (3 * c + j) (3 * c + m), cw_shf ze (3 * c + j) (3 * c + m), wy, pt, su, bb, bu)) :
    ∀ d i, i + d = m → j ≤ i → wY_drop_16 post (nI c) h sp ch yn (d + 1) (nI (3 * c + i)) co ba ra gu se on si st la pu pb sc he ou yb yl yf ya ys ye (cw_shf zf (3 * c + j) (3 * c + i)) (cw_shf za (3 * c + j) (3 * c + i)) (cw_shf zs (3 * c + j) (3 * c + i)) (cw_shf ze (3 * c + j) (3 * c + i)) wy pt su bb bu := by
  intro d
  induction d with
  | zero =>
    intro i hi _
    have : i = m := by omega
    subst this
    rw [wY_drop_16]
    simp (disch := omega) only [cw_m2, cw_m3, cw_m4, cw_m13, cw_2m, cw_3m, cw_12m, cw_24m, cw_36m, cw_a12, cw_a3, nI_add, nI_1, pk_sub, nI_clamp, vp_in_nI, en, Nat.le_refl, forall_eq, nI_leI, nI_ltI, nI_eq, true_implies, forall_const, not_true_eq_false, not_false_eq_true, false_implies, and_true, true_and, implies_true, and_self, reduceIte]
    exact H
  | succ d ih =>
    intro i hi hji
    have q : ¬ 3 * c + m ≤ 3 * c + i := by omega
    have := ih (i + 1) (by omega) (by omega)
    rw [← Nat.add_assoc, ← cw_shfS zf (show 3 * c + j ≤ 3 * c + i by omega), ← cw_shfS za (show 3 * c + j ≤ 3 * c + i by omega), ← cw_shfS zs (show 3 * c + j ≤ 3 * c + i by omega), ← cw_shfS ze (show 3 * c + j ≤ 3 * c + i by omega)] at this
    rw [wY_drop_16]
    simp (disch := omega) only [cw_m2, cw_m3, cw_m4, cw_m13, cw_2m, cw_3m, cw_12m, cw_24m, cw_36m, cw_a12, cw_a3, nI_add, nI_1, pk_sub, nI_clamp, vp_in_nI, en, q, forall_eq, nI_leI, nI_ltI, nI_eq, true_implies, forall_const, not_true_eq_false, not_false_eq_true, false_implies, and_true, true_and, implies_true, and_self, reduceIte]
    exact this
theorem ys_drop {post : SY → Prop} {c j m : Nat} (hc : c < 8) (hj : j ≤ m) (hm : m ≤ 2) (en : ou c = nI (m + 1)) (H : post (h, sp, ch, yn, co, ba, ra, gu, se, on, si, st, la, pu, pb, sc, he, upd ou c (nI m), yb, yl, yf, ya, ys, ye, cw_shf zf (3 * c + j) (3 * c + m), cw_shf za (3 * c + j) (3 * c + m), cw_shf zs (3 * c + j) (3 * c + m), cw_shf ze (3 * c + j) (3 * c + m), wy, pt, su, bb, bu)) : wpY_drop post (h, sp, ch, yn, co, ba, ra, gu, se, on, si, st, la, pu, pb, sc, he, ou, yb, yl, yf, ya, ys, ye, zf, za, zs, ze, wy, pt, su, bb, bu) (nI c) (nI j) := by
  simp (disch := omega) only [wpY_drop, cw_m2, cw_m3, cw_m4, cw_m13, cw_2m, cw_3m, cw_12m, cw_24m, cw_36m, cw_a12, cw_a3, nI_add, nI_1, pk_sub, nI_clamp, vp_in_nI, en, nI_pred, forall_eq, nI_leI, nI_ltI, nI_eq, true_implies, forall_const, not_true_eq_false, not_false_eq_true, false_implies, and_true, true_and, implies_true, and_self, reduceIte]
  have := ys_drop16 (post := post) (ou := upd ou c (nI m)) (j := j) hc hm pk_us H (m - j) j (by omega) (Nat.le_refl _)
  rw [cw_shfE _ (Nat.le_refl _), cw_shfE _ (Nat.le_refl _), cw_shfE _ (Nat.le_refl _), cw_shfE _ (Nat.le_refl _)] at this
  exact ⟨_, this⟩
end CLOSED
