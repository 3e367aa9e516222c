/-! part 16: the start; terms -/
section CALLS
variable {h sp ch bl yn : Int32} {co on ba ra gu se si st la pu ps sc he xb xc xi xf xa xe tc ts ta bc bs bm pb ou yb yl yf ya ys ye zf za zs ze wy pt su bb bu : Nat → Int32}
abbrev cw_z : Nat → Int32 := fun _ => 0
def cw_in (z : Int32) (j : Nat) : Nat → Int32 := fun i => if i < j then z else 0
theorem cw_in0 (z : Int32) : cw_in z 0 = cw_z := by
  funext i; unfold cw_in; rw [if_neg (by omega)]
theorem cw_inS (z : Int32) (j : Nat) : upd (cw_in z j) j z = cw_in z (j + 1) := by
  funext i
  unfold upd cw_in
  by_cases h : i = j
  · rw [if_pos h, if_pos (by omega)]
  · rw [if_neg h]
    by_cases h2 : i < j
    · rw [if_pos h2, if_pos (by omega)]
    · rw [if_neg h2, if_neg (by omega)]
theorem xs_init {post : SX → Prop} (H : post (0, 0, 0, 0, cw_in 1000 6, cw_in (vp_nar .boolean 1) 6, cw_in 1 6, cw_z, cw_in (-1) 6, cw_z, cw_z, cw_z, cw_z, cw_z, cw_z, cw_z, cw_z, cw_z, cw_z, cw_z, cw_z, cw_z, cw_z, cw_z, cw_z, cw_z, cw_z, cw_z, cw_z)) : wpX_init post := by
  have L : ∀ d j, j + d = 6 → wX_init_222 post 0 0 0 0 (d + 1) (nI j) (cw_in 1000 j) (cw_in (vp_nar .boolean 1) j) (cw_in 1 j) (cw_z) (cw_in (-1) j) (cw_z) (cw_z) (cw_z) (cw_z) (cw_z) (cw_z) (cw_z) (cw_z) (cw_z) (cw_z) (cw_z) (cw_z) (cw_z) (cw_z) (cw_z) (cw_z) (cw_z) (cw_z) (cw_z) (cw_z) := by
    intro d
    induction d with
    | zero =>
      intro j hj
      have : j = 6 := by omega
      subst this
      rw [wX_init_222]
      simp (disch := omega) only [cw_le6, Nat.le_refl, forall_eq, nI_leI, nI_ltI, nI_eq, true_implies, forall_const, not_true_eq_false, not_false_eq_true, false_implies, and_true, true_and, implies_true, and_self, reduceIte]
      exact H
    | succ d ih =>
      intro j hj
      have q : ¬ 6 ≤ j := by omega
      have := ih (j + 1) (by omega)
      rw [← cw_inS 1000 j, ← cw_inS (vp_nar .boolean 1) j, ← cw_inS 1 j, ← cw_inS (-1) j] at this
      rw [wX_init_222]
      simp (disch := omega) only [cw_le6, q, cw_m2, cw_m3, cw_m4, cw_m13, cw_2m, cw_3m, cw_12m, cw_24m, cw_36m, cw_a12, cw_a3, nI_add, nI_1, pk_sub, nI_clamp, vp_in_nI, forall_eq, nI_leI, nI_ltI, nI_eq, true_implies, forall_const, not_true_eq_false, not_false_eq_true, false_implies, and_true, true_and, implies_true, and_self, reduceIte]
      exact this
  have := L 6 0 rfl
  rw [cw_in0, cw_in0, cw_in0, cw_in0] at this
  exact ⟨_, this⟩
theorem ys_init {post : SY → Prop} (H : post (0, 0, 0, 0, cw_in 1000 6, cw_in 1 6, cw_z, cw_in (-1) 6, cw_z, cw_in (vp_nar .boolean 1) 6, cw_z, cw_z, cw_z, cw_z, cw_z, cw_z, cw_z, cw_z, cw_z, cw_z, cw_z, cw_z, cw_z, cw_z, cw_z, cw_z, cw_z, cw_z, cw_z, cw_z, cw_z, cw_z, cw_z)) : wpY_init post := by
  have L : ∀ d j, j + d = 6 → wY_init_239 post 0 0 0 0 (d + 1) (nI j) (cw_in 1000 j) (cw_in 1 j) (cw_z) (cw_in (-1) j) (cw_z) (cw_in (vp_nar .boolean 1) j) (cw_z) (cw_z) (cw_z) (cw_z) (cw_z) (cw_z) (cw_z) (cw_z) (cw_z) (cw_z) (cw_z) (cw_z) (cw_z) (cw_z) (cw_z) (cw_z) (cw_z) (cw_z) (cw_z) (cw_z) (cw_z) (cw_z) (cw_z) := by
    intro d
    induction d with
    | zero =>
      intro j hj
      have : j = 6 := by omega
      subst this
      rw [wY_init_239]
      simp (disch := omega) only [cw_le6, Nat.le_refl, forall_eq, nI_leI, nI_ltI, nI_eq, true_implies, forall_const, not_true_eq_false, not_false_eq_true, false_implies, and_true, true_and, implies_true, and_self, reduceIte]
      exact H
    | succ d ih =>
      intro j hj
      have q : ¬ 6 ≤ j := by omega
      have := ih (j + 1) (by omega)
      rw [← cw_inS 1000 j, ← cw_inS (vp_nar .boolean 1) j, ← cw_inS 1 j, ← cw_inS (-1) j] at this
      rw [wY_init_239]
      simp (disch := omega) only [cw_le6, q, cw_m2, cw_m3, cw_m4, cw_m13, cw_2m, cw_3m, cw_12m, cw_24m, cw_36m, cw_a12, cw_a3, nI_add, nI_1, pk_sub, nI_clamp, vp_in_nI, forall_eq, nI_leI, nI_ltI, nI_eq, true_implies, forall_const, not_true_eq_false, not_false_eq_true, false_implies, and_true, true_and, implies_true, and_self, reduceIte]
      exact this
  have := L 6 0 rfl
  rw [cw_in0, cw_in0, cw_in0, cw_in0] at this
  exact ⟨_, this⟩
theorem i_vc0 : wpX_init (fun u => wpY_init (fun v => i_Rel 0 u v)) := by
  refine xs_init (ys_init ?_)
  have hH : 0 ≤ 4 * 0 := by omega
  have hB : cw_B 0 cw_z := ⟨by omega, fun i _ => ⟨0, by omega, rfl⟩, fun c hc => by omega⟩
  have hD : cw_D (cw_in (vp_nar .boolean 1) 6) (cw_in 1 6) cw_z := fun p hp => ⟨Or.inr (by unfold cw_in; rw [if_pos hp]; decide), ⟨1, by omega, by unfold cw_in; rw [if_pos hp]; rfl⟩, ⟨0, by omega, rfl⟩⟩
  have hS : cw_S 0 cw_z := fun c _ => ⟨0, Nat.le_refl _, rfl⟩
  have hE : cw_E cw_z cw_z cw_z cw_z cw_z := fun c _ => ⟨⟨0, by omega, rfl⟩, Or.inl rfl, 0, by omega, rfl, fun _ => rfl⟩
  have hF : cw_F cw_z cw_z := fun _ _ _ _ _ _ => rfl
  have hG : cw_G 0 cw_z cw_z cw_z cw_z cw_z cw_z cw_z cw_z cw_z cw_z := fun c k _ _ => cw_Row_0
  have hO : cw_O 0 cw_z cw_z cw_z cw_z cw_z cw_z cw_z cw_z cw_z cw_z cw_z := fun c _ => ⟨cw_Row_0, fun _ => rfl⟩
  have hZ : cw_Z 0 cw_z := fun _ _ _ => rfl
  exact ⟨0, 0, 0, _, _, cw_z, _, cw_z, cw_z, cw_z, cw_z, hH, hB, hD, 0, 0, _, cw_z, cw_z, cw_z, cw_z, cw_z, cw_z, cw_z, cw_z, cw_z, cw_z, cw_z, cw_z, cw_z, cw_z, cw_z, cw_z, cw_z, cw_z, cw_z, cw_z, cw_z, cw_z, cw_z, cw_z, cw_z, cw_z, cw_z, cw_z, cw_z, cw_z, cw_z, cw_z, cw_z, rfl, rfl, hS, hE, hF, hG, hO, hZ⟩
theorem i_vc_terms {k : Nat} {u : SX} {v : SY} (I : i_Rel k u v) (hk : k + 5 ≤ 2560) (v1 : Int32) (v2 : Int32) (v3 : Int32) (v4 : Int32) : wpX_terms (fun r u' => wpY_terms (fun r' v' => r' = r ∧ i_Rel (k + 5) u' v') v v1 v2 v3 v4) u v1 v2 v3 v4 := by
  have J := i_up I
  obtain ⟨H, C, sp, on, ba, ra, gu, si, xf, xa, xe, hH, hB, hD, bl, yn, co, se, st, la, pu, ps, sc, he, xb, xc, xi, tc, ts, ta, bc, bs, bm, pb, ou, yb, yl, yf, ya, ys, ye, zf, za, zs, ze, wy, pt, su, bb, bu, rfl, rfl, hS, hE, hF, hG, hO, hZ⟩ := I
  by_cases h0 : v1 < 0
  · simp only [wpX_terms, wpX_isParty, wpY_terms, wpY_isParty, h0, forall_eq, nI_leI, nI_ltI, nI_eq, true_implies, forall_const, not_true_eq_false, not_false_eq_true, false_implies, and_true, true_and, implies_true, and_self, reduceIte]
    exact J
  by_cases h6 : 6 ≤ v1
  · simp only [wpX_terms, wpX_isParty, wpY_terms, wpY_isParty, h0, h6, forall_eq, nI_leI, nI_ltI, nI_eq, true_implies, forall_const, not_true_eq_false, not_false_eq_true, false_implies, and_true, true_and, implies_true, and_self, reduceIte]
    exact J
  obtain ⟨j, hj, rfl⟩ := cw_pty h0 (Int32.not_le.mp h6)
  by_cases b0 : v2 < 0
  · simp only [wpX_terms, wpX_isParty, wpY_terms, wpY_isParty, h0, h6, b0, cw_n1, forall_eq, nI_leI, nI_ltI, nI_eq, true_implies, forall_const, not_true_eq_false, not_false_eq_true, false_implies, and_true, true_and, implies_true, and_self, reduceIte]
    exact J
  by_cases b9 : 9 < v2
  · simp only [wpX_terms, wpX_isParty, wpY_terms, wpY_isParty, h0, h6, b0, b9, cw_n1, forall_eq, nI_leI, nI_ltI, nI_eq, true_implies, forall_const, not_true_eq_false, not_false_eq_true, false_implies, and_true, true_and, implies_true, and_self, reduceIte]
    exact J
  by_cases r0 : v3 < 0
  · simp only [wpX_terms, wpX_isParty, wpY_terms, wpY_isParty, h0, h6, b0, b9, r0, cw_n1, forall_eq, nI_leI, nI_ltI, nI_eq, true_implies, forall_const, not_true_eq_false, not_false_eq_true, false_implies, and_true, true_and, implies_true, and_self, reduceIte]
    exact J
  by_cases r20 : 20 < v3
  · have r20' : ¬ v3 ≤ 20 := Int32.not_le.mpr r20
    simp only [wpX_terms, wpX_isParty, wpY_terms, wpY_isParty, h0, h6, b0, b9, r0, r20, r20', cw_n1, forall_eq, nI_leI, nI_ltI, nI_eq, true_implies, forall_const, not_true_eq_false, not_false_eq_true, false_implies, and_true, true_and, implies_true, and_self, reduceIte]
    exact J
  have r20' : v3 ≤ 20 := Int32.not_lt.mp r20
  have hb : ∃ b, b < 10 ∧ v2 = nI b := by
    obtain ⟨b, hb, e⟩ := nI_of b0
    rw [e, cw_lt9 hb] at b9
    exact ⟨b, by omega, e⟩
  have hr : ∃ b, b < 21 ∧ v3 = nI b := by
    obtain ⟨b, hb, e⟩ := nI_of r0
    rw [e, cw_lt20 hb] at r20
    exact ⟨b, by omega, e⟩
  have hD' : cw_D on (upd ba j v2) (upd ra j v3) := by
    intro p hp
    by_cases e : p = j
    · subst e
      rw [pk_us, pk_us]
      exact ⟨(hD p hp).1, hb, hr⟩
    · rw [pk_un e, pk_un e]
      exact hD p hp
  have fin : i_Rel (k + 5) (nI H, sp, nI C, bl, co, on, upd ba j v2, upd ra j v3, upd gu j v4, se, si, st, la, pu, ps, sc, he, xb, xc, xi, xf, xa, xe, tc, ts, ta, bc, bs, bm) (nI H, sp, nI C, yn, co, upd ba j v2, upd ra j v3, upd gu j v4, se, on, si, st, la, pu, pb, sc, he, ou, yb, yl, yf, ya, ys, ye, zf, za, zs, ze, wy, pt, su, bb, bu) := ⟨H, C, sp, on, _, _, _, si, xf, xa, xe, by omega, hB, hD', bl, yn, co, se, st, la, pu, ps, sc, he, xb, xc, xi, tc, ts, ta, bc, bs, bm, pb, ou, yb, yl, yf, ya, ys, ye, zf, za, zs, ze, wy, pt, su, bb, bu, rfl, rfl, hS, hE, hF, hG, hO, hZ⟩
  by_cases g1 : v4 = -1
  · subst g1
    simp (disch := omega) only [wpX_terms, wX_terms_53, wpX_isParty, wpY_terms, wY_terms_49, wpY_isParty, h0, h6, b0, b9, r0, r20, r20', cw_n1, nI_clamp, vp_in_nI, forall_eq, nI_leI, nI_ltI, nI_eq, true_implies, forall_const, not_true_eq_false, not_false_eq_true, false_implies, and_true, true_and, implies_true, and_self, reduceIte]
    exact fin
  by_cases g2 : v4 < 0
  · simp (disch := omega) only [wpX_terms, wpX_isParty, wpY_terms, wpY_isParty, h0, h6, b0, b9, r0, r20, r20', g1, g2, cw_n1, forall_eq, nI_leI, nI_ltI, nI_eq, true_implies, forall_const, not_true_eq_false, not_false_eq_true, false_implies, and_true, true_and, implies_true, and_self, reduceIte]
    exact J
  by_cases g3 : 6 ≤ v4
  · simp (disch := omega) only [wpX_terms, wpX_isParty, wpY_terms, wpY_isParty, h0, h6, b0, b9, r0, r20, r20', g1, g2, g3, cw_n1, forall_eq, nI_leI, nI_ltI, nI_eq, true_implies, forall_const, not_true_eq_false, not_false_eq_true, false_implies, and_true, true_and, implies_true, and_self, reduceIte]
    exact J
  by_cases g4 : v4 = nI j
  · subst g4
    simp (disch := omega) only [wpX_terms, wpX_isParty, wpY_terms, wpY_isParty, h0, h6, b0, b9, r0, r20, r20', g1, cw_n1, forall_eq, nI_leI, nI_ltI, nI_eq, true_implies, forall_const, not_true_eq_false, not_false_eq_true, false_implies, and_true, true_and, implies_true, and_self, reduceIte]
    exact J
  · simp (disch := omega) only [wpX_terms, wX_terms_53, wpX_isParty, wpY_terms, wY_terms_49, wpY_isParty, h0, h6, b0, b9, r0, r20, r20', g1, g2, g3, g4, cw_n1, nI_clamp, vp_in_nI, forall_eq, nI_leI, nI_ltI, nI_eq, true_implies, forall_const, not_true_eq_false, not_false_eq_true, false_implies, and_true, true_and, implies_true, and_self, reduceIte]
    exact fin
theorem cw_F_start (hF : cw_F xb yb) {c : Nat} {x y : Int32} (hc : c < 8) : cw_F (upd (upd xb (2 * (13 * c)) x) (2 * (13 * c) + 1) y) (upd (upd yb (24 * c) x) (24 * c + 1) y) :=
  cw_F_put (c := c) (k := 0) (s := 1) (cw_F_put (c := c) (k := 0) (s := 0) hF hc (by omega) (by omega) (by omega) (by omega) rfl) hc (by omega) (by omega) (by omega) (by omega) rfl
theorem cw_G_start (hG : cw_G sp xf xa xe xc xi yl yf ya ys ye) {c : Nat} (hc : c < 8) : cw_G sp xf xa xe (upd xc (13 * c) 0) xi (upd yl (12 * c) 0) yf ya ys ye := by
  refine cw_G_put (c0 := c) (k0 := 0) hG hc (by omega) (fun i hi => pk_un hi) (fun i hi => pk_un hi) (fun i hi => rfl) (fun i hi => ⟨rfl, rfl, rfl, rfl⟩) ?_
  rw [pk_us' (by omega), pk_us' (by omega)]
  exact cw_Row_0
theorem cw_O_start (hO : cw_O sp xf xa xe xc xi st ou zf za zs ze) {c : Nat} (hc : c < 8) : cw_O sp xf xa xe (upd xc (13 * c) 0) xi st ou zf za zs ze :=
  cw_O_frame hO (fun c' hc' => pk_un (by omega)) (fun c' i hc' hi => rfl)
end CALLS
