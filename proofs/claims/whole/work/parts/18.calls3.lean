/-! part 18: renew, publish -/
section CALLS3
variable {h sp ch bl yn : Int32} {co on ba ra gu se si st la pu ps sc he xb xc xi xf xa xe tc ts ta bc bs bm pb ou yb yl yf ya ys ye zf za zs ze wy pt su bb bu : Nat → Int32}
theorem i_vc_renew {k : Nat} {u : SX} {v : SY} (I : i_Rel k u v) (hk : k + 5 ≤ 2560) (v1 : Int32) (v2 : Int32) (v3 : Int32) : wpX_renew (fun r u' => wpY_renew (fun r' v' => r' = r ∧ i_Rel (k + 5) u' v') v v1 v2 v3) u v1 v2 v3 := by
  have J := i_up I
  obtain ⟨H, C, sp, on, ba, ra, gu, si, xf, xa, xe, hH, hB, hD, bl, yn, co, se, st, la, pu, ps, sc, he, xb, xc, xi, tc, ts, ta, bc, bs, bm, pb, ou, yb, yl, yf, ya, ys, ye, zf, za, zs, ze, wy, pt, su, bb, bu, rfl, rfl, hS, hE, hF, hG, hO, hZ⟩ := I
  have hB0 := hB
  obtain ⟨hC, hsi, hne⟩ := hB
  by_cases c0 : v1 < 0
  · simp only [wpX_renew, wpX_isQuiet, wpX_isChannel, wpY_renew, wpY_isPlain, wpY_isChannel, c0, forall_eq, nI_leI, nI_ltI, nI_eq, true_implies, forall_const, not_true_eq_false, not_false_eq_true, false_implies, and_true, true_and, implies_true, and_self, reduceIte]
    exact J
  by_cases c1 : nI C ≤ v1
  · simp only [wpX_renew, wpX_isQuiet, wpX_isChannel, wpY_renew, wpY_isPlain, wpY_isChannel, c0, c1, forall_eq, nI_leI, nI_ltI, nI_eq, true_implies, forall_const, not_true_eq_false, not_false_eq_true, false_implies, and_true, true_and, implies_true, and_self, reduceIte]
    exact J
  obtain ⟨c, hc, rfl⟩ := cw_chan hC c0 c1
  obtain ⟨l, hl, el⟩ := (hE c (by omega)).1
  obtain ⟨n, hn, e1, e2, _⟩ := hG c l (by omega) hl
  obtain ⟨a, ha, ea⟩ := hsi (2 * c) (by omega)
  obtain ⟨b, hb, eb⟩ := hsi (2 * c + 1) (by omega)
  have f0 := hF c l 0 (by omega) hl (by omega)
  have f1 := hF c l 1 (by omega) hl (by omega)
  rw [Nat.add_zero, Nat.add_zero] at f0
  unfold wpX_renew
  dsimp only
  refine xs_quiet hc hC hsi hl el hn e1 (fun r z => br_f cw_n1 ?_) (fun r => br_t rfl ?_)
  ·
    by_cases x0 : v2 < -6000
    · simp (disch := omega) only [x0, cw_m2, cw_m3, cw_m4, cw_m13, cw_2m, cw_3m, cw_12m, cw_24m, cw_36m, cw_a12, cw_a3, nI_add, nI_1, pk_sub, nI_clamp, vp_in_nI, el, ea, eb, forall_eq, nI_leI, nI_ltI, nI_eq, true_implies, forall_const, not_true_eq_false, not_false_eq_true, false_implies, and_true, true_and, implies_true, and_self, reduceIte]
      unfold wpY_renew
      dsimp only
      refine ys_plain hc hC hsi hl el hn e2 (fun _ _ => br_f cw_n1 ?_) (fun r' => absurd ⟨r, z⟩ r')
      simp (disch := omega) only [x0, wpY_now, cw_m2, cw_m3, cw_m4, cw_m13, cw_2m, cw_3m, cw_12m, cw_24m, cw_36m, cw_a12, cw_a3, nI_add, nI_1, pk_sub, nI_clamp, vp_in_nI, el, ea, eb, f0, f1, forall_eq, nI_leI, nI_ltI, nI_eq, true_implies, forall_const, not_true_eq_false, not_false_eq_true, false_implies, and_true, true_and, implies_true, and_self, reduceIte]
      exact J
    by_cases x1 : 6000 < v2
    · simp (disch := omega) only [x0, x1, cw_m2, cw_m3, cw_m4, cw_m13, cw_2m, cw_3m, cw_12m, cw_24m, cw_36m, cw_a12, cw_a3, nI_add, nI_1, pk_sub, nI_clamp, vp_in_nI, el, ea, eb, forall_eq, nI_leI, nI_ltI, nI_eq, true_implies, forall_const, not_true_eq_false, not_false_eq_true, false_implies, and_true, true_and, implies_true, and_self, reduceIte]
      unfold wpY_renew
      dsimp only
      refine ys_plain hc hC hsi hl el hn e2 (fun _ _ => br_f cw_n1 ?_) (fun r' => absurd ⟨r, z⟩ r')
      simp (disch := omega) only [x0, x1, wpY_now, cw_m2, cw_m3, cw_m4, cw_m13, cw_2m, cw_3m, cw_12m, cw_24m, cw_36m, cw_a12, cw_a3, nI_add, nI_1, pk_sub, nI_clamp, vp_in_nI, el, ea, eb, f0, f1, forall_eq, nI_leI, nI_ltI, nI_eq, true_implies, forall_const, not_true_eq_false, not_false_eq_true, false_implies, and_true, true_and, implies_true, and_self, reduceIte]
      exact J
    by_cases y0 : v3 < -6000
    · simp (disch := omega) only [x0, x1, y0, cw_m2, cw_m3, cw_m4, cw_m13, cw_2m, cw_3m, cw_12m, cw_24m, cw_36m, cw_a12, cw_a3, nI_add, nI_1, pk_sub, nI_clamp, vp_in_nI, el, ea, eb, forall_eq, nI_leI, nI_ltI, nI_eq, true_implies, forall_const, not_true_eq_false, not_false_eq_true, false_implies, and_true, true_and, implies_true, and_self, reduceIte]
      unfold wpY_renew
      dsimp only
      refine ys_plain hc hC hsi hl el hn e2 (fun _ _ => br_f cw_n1 ?_) (fun r' => absurd ⟨r, z⟩ r')
      simp (disch := omega) only [x0, x1, y0, wpY_now, cw_m2, cw_m3, cw_m4, cw_m13, cw_2m, cw_3m, cw_12m, cw_24m, cw_36m, cw_a12, cw_a3, nI_add, nI_1, pk_sub, nI_clamp, vp_in_nI, el, ea, eb, f0, f1, forall_eq, nI_leI, nI_ltI, nI_eq, true_implies, forall_const, not_true_eq_false, not_false_eq_true, false_implies, and_true, true_and, implies_true, and_self, reduceIte]
      exact J
    by_cases y1 : v3 ≤ 6000
    rotate_left
    · simp (disch := omega) only [x0, x1, y0, y1, cw_m2, cw_m3, cw_m4, cw_m13, cw_2m, cw_3m, cw_12m, cw_24m, cw_36m, cw_a12, cw_a3, nI_add, nI_1, pk_sub, nI_clamp, vp_in_nI, el, ea, eb, forall_eq, nI_leI, nI_ltI, nI_eq, true_implies, forall_const, not_true_eq_false, not_false_eq_true, false_implies, and_true, true_and, implies_true, and_self, reduceIte]
      unfold wpY_renew
      dsimp only
      refine ys_plain hc hC hsi hl el hn e2 (fun _ _ => br_f cw_n1 ?_) (fun r' => absurd ⟨r, z⟩ r')
      simp (disch := omega) only [x0, x1, y0, y1, wpY_now, cw_m2, cw_m3, cw_m4, cw_m13, cw_2m, cw_3m, cw_12m, cw_24m, cw_36m, cw_a12, cw_a3, nI_add, nI_1, pk_sub, nI_clamp, vp_in_nI, el, ea, eb, f0, f1, forall_eq, nI_leI, nI_ltI, nI_eq, true_implies, forall_const, not_true_eq_false, not_false_eq_true, false_implies, and_true, true_and, implies_true, and_self, reduceIte]
      exact J
    by_cases ca : co a < v2
    · by_cases nx : xb (2 * (13 * c + l)) + v2 < 0
      · simp (disch := omega) only [x0, x1, y0, y1, ca, nx, cw_m2, cw_m3, cw_m4, cw_m13, cw_2m, cw_3m, cw_12m, cw_24m, cw_36m, cw_a12, cw_a3, nI_add, nI_1, pk_sub, nI_clamp, vp_in_nI, el, ea, eb, forall_eq, nI_leI, nI_ltI, nI_eq, true_implies, forall_const, not_true_eq_false, not_false_eq_true, false_implies, and_true, true_and, implies_true, and_self, reduceIte]
        unfold wpY_renew
        dsimp only
        refine ys_plain hc hC hsi hl el hn e2 (fun _ _ => br_f cw_n1 ?_) (fun r' => absurd ⟨r, z⟩ r')
        simp (disch := omega) only [x0, x1, y0, y1, ca, nx, wpY_now, cw_m2, cw_m3, cw_m4, cw_m13, cw_2m, cw_3m, cw_12m, cw_24m, cw_36m, cw_a12, cw_a3, nI_add, nI_1, pk_sub, nI_clamp, vp_in_nI, el, ea, eb, f0, f1, forall_eq, nI_leI, nI_ltI, nI_eq, true_implies, forall_const, not_true_eq_false, not_false_eq_true, false_implies, and_true, true_and, implies_true, and_self, reduceIte]
        exact J
      · by_cases ny : xb (2 * (13 * c + l) + 1) + v3 < 0
        · simp (disch := omega) only [x0, x1, y0, y1, ca, nx, ny, cw_m2, cw_m3, cw_m4, cw_m13, cw_2m, cw_3m, cw_12m, cw_24m, cw_36m, cw_a12, cw_a3, nI_add, nI_1, pk_sub, nI_clamp, vp_in_nI, el, ea, eb, forall_eq, nI_leI, nI_ltI, nI_eq, true_implies, forall_const, not_true_eq_false, not_false_eq_true, false_implies, and_true, true_and, implies_true, and_self, reduceIte]
          unfold wpY_renew
          dsimp only
          refine ys_plain hc hC hsi hl el hn e2 (fun _ _ => br_f cw_n1 ?_) (fun r' => absurd ⟨r, z⟩ r')
          simp (disch := omega) only [x0, x1, y0, y1, ca, nx, ny, wpY_now, cw_m2, cw_m3, cw_m4, cw_m13, cw_2m, cw_3m, cw_12m, cw_24m, cw_36m, cw_a12, cw_a3, nI_add, nI_1, pk_sub, nI_clamp, vp_in_nI, el, ea, eb, f0, f1, forall_eq, nI_leI, nI_ltI, nI_eq, true_implies, forall_const, not_true_eq_false, not_false_eq_true, false_implies, and_true, true_and, implies_true, and_self, reduceIte]
          exact J
        · simp (disch := omega) only [x0, x1, y0, y1, ca, nx, ny, cw_m2, cw_m3, cw_m4, cw_m13, cw_2m, cw_3m, cw_12m, cw_24m, cw_36m, cw_a12, cw_a3, nI_add, nI_1, pk_sub, nI_clamp, vp_in_nI, el, ea, eb, forall_eq, nI_leI, nI_ltI, nI_eq, true_implies, forall_const, not_true_eq_false, not_false_eq_true, false_implies, and_true, true_and, implies_true, and_self, reduceIte]
          unfold wpY_renew
          dsimp only
          refine ys_plain hc hC hsi hl el hn e2 (fun _ _ => br_f cw_n1 ?_) (fun r' => absurd ⟨r, z⟩ r')
          simp (disch := omega) only [x0, x1, y0, y1, ca, nx, ny, wpY_now, cw_m2, cw_m3, cw_m4, cw_m13, cw_2m, cw_3m, cw_12m, cw_24m, cw_36m, cw_a12, cw_a3, nI_add, nI_1, pk_sub, nI_clamp, vp_in_nI, el, ea, eb, f0, f1, forall_eq, nI_leI, nI_ltI, nI_eq, true_implies, forall_const, not_true_eq_false, not_false_eq_true, false_implies, and_true, true_and, implies_true, and_self, reduceIte]
          exact J
    by_cases cb : co b < v3
    · have cb' : ¬ v3 ≤ co b := Int32.not_le.mpr cb
      by_cases nx : xb (2 * (13 * c + l)) + v2 < 0
      · simp (disch := omega) only [x0, x1, y0, y1, ca, cb, cb', nx, cw_m2, cw_m3, cw_m4, cw_m13, cw_2m, cw_3m, cw_12m, cw_24m, cw_36m, cw_a12, cw_a3, nI_add, nI_1, pk_sub, nI_clamp, vp_in_nI, el, ea, eb, forall_eq, nI_leI, nI_ltI, nI_eq, true_implies, forall_const, not_true_eq_false, not_false_eq_true, false_implies, and_true, true_and, implies_true, and_self, reduceIte]
        unfold wpY_renew
        dsimp only
        refine ys_plain hc hC hsi hl el hn e2 (fun _ _ => br_f cw_n1 ?_) (fun r' => absurd ⟨r, z⟩ r')
        simp (disch := omega) only [x0, x1, y0, y1, ca, cb, cb', nx, wpY_now, cw_m2, cw_m3, cw_m4, cw_m13, cw_2m, cw_3m, cw_12m, cw_24m, cw_36m, cw_a12, cw_a3, nI_add, nI_1, pk_sub, nI_clamp, vp_in_nI, el, ea, eb, f0, f1, forall_eq, nI_leI, nI_ltI, nI_eq, true_implies, forall_const, not_true_eq_false, not_false_eq_true, false_implies, and_true, true_and, implies_true, and_self, reduceIte]
        exact J
      · by_cases ny : xb (2 * (13 * c + l) + 1) + v3 < 0
        · simp (disch := omega) only [x0, x1, y0, y1, ca, cb, cb', nx, ny, cw_m2, cw_m3, cw_m4, cw_m13, cw_2m, cw_3m, cw_12m, cw_24m, cw_36m, cw_a12, cw_a3, nI_add, nI_1, pk_sub, nI_clamp, vp_in_nI, el, ea, eb, forall_eq, nI_leI, nI_ltI, nI_eq, true_implies, forall_const, not_true_eq_false, not_false_eq_true, false_implies, and_true, true_and, implies_true, and_self, reduceIte]
          unfold wpY_renew
          dsimp only
          refine ys_plain hc hC hsi hl el hn e2 (fun _ _ => br_f cw_n1 ?_) (fun r' => absurd ⟨r, z⟩ r')
          simp (disch := omega) only [x0, x1, y0, y1, ca, cb, cb', nx, ny, wpY_now, cw_m2, cw_m3, cw_m4, cw_m13, cw_2m, cw_3m, cw_12m, cw_24m, cw_36m, cw_a12, cw_a3, nI_add, nI_1, pk_sub, nI_clamp, vp_in_nI, el, ea, eb, f0, f1, forall_eq, nI_leI, nI_ltI, nI_eq, true_implies, forall_const, not_true_eq_false, not_false_eq_true, false_implies, and_true, true_and, implies_true, and_self, reduceIte]
          exact J
        · simp (disch := omega) only [x0, x1, y0, y1, ca, cb, cb', nx, ny, cw_m2, cw_m3, cw_m4, cw_m13, cw_2m, cw_3m, cw_12m, cw_24m, cw_36m, cw_a12, cw_a3, nI_add, nI_1, pk_sub, nI_clamp, vp_in_nI, el, ea, eb, forall_eq, nI_leI, nI_ltI, nI_eq, true_implies, forall_const, not_true_eq_false, not_false_eq_true, false_implies, and_true, true_and, implies_true, and_self, reduceIte]
          unfold wpY_renew
          dsimp only
          refine ys_plain hc hC hsi hl el hn e2 (fun _ _ => br_f cw_n1 ?_) (fun r' => absurd ⟨r, z⟩ r')
          simp (disch := omega) only [x0, x1, y0, y1, ca, cb, cb', nx, ny, wpY_now, cw_m2, cw_m3, cw_m4, cw_m13, cw_2m, cw_3m, cw_12m, cw_24m, cw_36m, cw_a12, cw_a3, nI_add, nI_1, pk_sub, nI_clamp, vp_in_nI, el, ea, eb, f0, f1, forall_eq, nI_leI, nI_ltI, nI_eq, true_implies, forall_const, not_true_eq_false, not_false_eq_true, false_implies, and_true, true_and, implies_true, and_self, reduceIte]
          exact J
    have cb' : v3 ≤ co b := Int32.not_lt.mp cb
    by_cases nx : xb (2 * (13 * c + l)) + v2 < 0
    · simp (disch := omega) only [x0, x1, y0, y1, ca, cb, cb', nx, cw_m2, cw_m3, cw_m4, cw_m13, cw_2m, cw_3m, cw_12m, cw_24m, cw_36m, cw_a12, cw_a3, nI_add, nI_1, pk_sub, nI_clamp, vp_in_nI, el, ea, eb, forall_eq, nI_leI, nI_ltI, nI_eq, true_implies, forall_const, not_true_eq_false, not_false_eq_true, false_implies, and_true, true_and, implies_true, and_self, reduceIte]
      unfold wpY_renew
      dsimp only
      refine ys_plain hc hC hsi hl el hn e2 (fun _ _ => br_f cw_n1 ?_) (fun r' => absurd ⟨r, z⟩ r')
      simp (disch := omega) only [x0, x1, y0, y1, ca, cb, cb', nx, wpY_now, cw_m2, cw_m3, cw_m4, cw_m13, cw_2m, cw_3m, cw_12m, cw_24m, cw_36m, cw_a12, cw_a3, nI_add, nI_1, pk_sub, nI_clamp, vp_in_nI, el, ea, eb, f0, f1, forall_eq, nI_leI, nI_ltI, nI_eq, true_implies, forall_const, not_true_eq_false, not_false_eq_true, false_implies, and_true, true_and, implies_true, and_self, reduceIte]
      exact J
    by_cases ny : xb (2 * (13 * c + l) + 1) + v3 < 0
    · have ny' : ¬ 0 ≤ xb (2 * (13 * c + l) + 1) + v3 := Int32.not_le.mpr ny
      simp (disch := omega) only [x0, x1, y0, y1, ca, cb, cb', nx, ny, ny', cw_m2, cw_m3, cw_m4, cw_m13, cw_2m, cw_3m, cw_12m, cw_24m, cw_36m, cw_a12, cw_a3, nI_add, nI_1, pk_sub, nI_clamp, vp_in_nI, el, ea, eb, forall_eq, nI_leI, nI_ltI, nI_eq, true_implies, forall_const, not_true_eq_false, not_false_eq_true, false_implies, and_true, true_and, implies_true, and_self, reduceIte]
      unfold wpY_renew
      dsimp only
      refine ys_plain hc hC hsi hl el hn e2 (fun _ _ => br_f cw_n1 ?_) (fun r' => absurd ⟨r, z⟩ r')
      simp (disch := omega) only [x0, x1, y0, y1, ca, cb, cb', nx, ny, ny', wpY_now, cw_m2, cw_m3, cw_m4, cw_m13, cw_2m, cw_3m, cw_12m, cw_24m, cw_36m, cw_a12, cw_a3, nI_add, nI_1, pk_sub, nI_clamp, vp_in_nI, el, ea, eb, f0, f1, forall_eq, nI_leI, nI_ltI, nI_eq, true_implies, forall_const, not_true_eq_false, not_false_eq_true, false_implies, and_true, true_and, implies_true, and_self, reduceIte]
      exact J
    have ny' : 0 ≤ xb (2 * (13 * c + l) + 1) + v3 := Int32.not_lt.mp ny
    simp (disch := omega) only [x0, x1, y0, y1, ca, cb, cb', nx, ny, ny', wpX_startStates, cw_m2, cw_m3, cw_m4, cw_m13, cw_2m, cw_3m, cw_12m, cw_24m, cw_36m, cw_a12, cw_a3, nI_add, nI_1, pk_sub, nI_clamp, vp_in_nI, el, ea, eb, forall_eq, nI_leI, nI_ltI, nI_eq, true_implies, forall_const, not_true_eq_false, not_false_eq_true, false_implies, and_true, true_and, implies_true, and_self, reduceIte]
    unfold wpY_renew
    dsimp only
    refine ys_plain hc hC hsi hl el hn e2 (fun _ _ => br_f cw_n1 ?_) (fun r' => absurd ⟨r, z⟩ r')
    simp (disch := omega) only [x0, x1, y0, y1, ca, cb, cb', nx, ny, ny', wpY_now, wpY_first, cw_m2, cw_m3, cw_m4, cw_m13, cw_2m, cw_3m, cw_12m, cw_24m, cw_36m, cw_a12, cw_a3, nI_add, nI_1, pk_sub, nI_clamp, vp_in_nI, el, ea, eb, f0, f1, forall_eq, nI_leI, nI_ltI, nI_eq, true_implies, forall_const, not_true_eq_false, not_false_eq_true, false_implies, and_true, true_and, implies_true, and_self, reduceIte]
    exact ⟨H, C, sp, on, ba, ra, gu, si, xf, xa, xe, by omega, hB0, hD, bl, yn, _, se, st, _, pu, ps, sc, he, _, _, xi, tc, ts, ta, bc, bs, bm, pb, ou, _, _, yf, ya, ys, ye, zf, za, zs, ze, wy, pt, su, bb, bu, rfl, rfl, hS, cw_E_la hE (l := 0) (by omega), cw_F_start hF (by omega), cw_G_start hG (by omega), cw_O_start hO (by omega), hZ⟩
  · unfold wpY_renew
    dsimp only
    exact ys_plain hc hC hsi hl el hn e2 (fun r' z => absurd ⟨r', z⟩ r) (fun _ => br_t rfl ⟨rfl, J⟩)
theorem i_vc_publish {k : Nat} {u : SX} {v : SY} (I : i_Rel k u v) (hk : k + 5 ≤ 2560) (v1 : Int32) (v2 : Int32) (v3 : Int32) : wpX_publish (fun r u' => wpY_publish (fun r' v' => r' = r ∧ i_Rel (k + 5) u' v') v v1 v2 v3) u v1 v2 v3 := by
  have J := i_up I
  obtain ⟨H, C, sp, on, ba, ra, gu, si, xf, xa, xe, hH, hB, hD, t⟩ := I
  have t0 := t
  obtain ⟨bl, yn, co, se, st, la, pu, ps, sc, he, xb, xc, xi, tc, ts, ta, bc, bs, bm, pb, ou, yb, yl, yf, ya, ys, ye, zf, za, zs, ze, wy, pt, su, bb, bu, rfl, rfl, hS, hE, hF, hG, hO, hZ⟩ := t
  have hB0 := hB
  obtain ⟨hC, hsi, hne⟩ := hB
  have Yp : ∀ post : Int32 → SY → Prop, (v1 < 0 ∨ 6 ≤ v1) → post 0 (nI H, sp, nI C, yn, co, ba, ra, gu, se, on, si, st, la, pu, pb, sc, he, ou, yb, yl, yf, ya, ys, ye, zf, za, zs, ze, wy, pt, su, bb, bu) → wpY_publish post (nI H, sp, nI C, yn, co, ba, ra, gu, se, on, si, st, la, pu, pb, sc, he, ou, yb, yl, yf, ya, ys, ye, zf, za, zs, ze, wy, pt, su, bb, bu) v1 v2 v3 := by
    intro post h hp
    by_cases a0 : v1 < 0
    · simp only [wpY_publish, wpY_isParty, a0, forall_eq, nI_leI, nI_ltI, nI_eq, true_implies, forall_const, not_true_eq_false, not_false_eq_true, false_implies, and_true, true_and, implies_true, and_self, reduceIte]
      exact hp
    · have a6 : 6 ≤ v1 := h.resolve_left a0
      simp only [wpY_publish, wpY_isParty, a0, a6, forall_eq, nI_leI, nI_ltI, nI_eq, true_implies, forall_const, not_true_eq_false, not_false_eq_true, false_implies, and_true, true_and, implies_true, and_self, reduceIte]
      exact hp
  have Yc : ∀ post : Int32 → SY → Prop, (v2 < 0 ∨ nI C ≤ v2) → post 0 (nI H, sp, nI C, yn, co, ba, ra, gu, se, on, si, st, la, pu, pb, sc, he, ou, yb, yl, yf, ya, ys, ye, zf, za, zs, ze, wy, pt, su, bb, bu) → wpY_publish post (nI H, sp, nI C, yn, co, ba, ra, gu, se, on, si, st, la, pu, pb, sc, he, ou, yb, yl, yf, ya, ys, ye, zf, za, zs, ze, wy, pt, su, bb, bu) v1 v2 v3 := by
    intro post h hp
    by_cases a0 : v1 < 0
    · exact Yp post (Or.inl a0) hp
    by_cases a6 : 6 ≤ v1
    · exact Yp post (Or.inr a6) hp
    by_cases c0 : v2 < 0
    · simp only [wpY_publish, wpY_isParty, wpY_isChannel, a0, a6, c0, cw_n1, forall_eq, nI_leI, nI_ltI, nI_eq, true_implies, forall_const, not_true_eq_false, not_false_eq_true, false_implies, and_true, true_and, implies_true, and_self, reduceIte]
      exact hp
    · have c1 : nI C ≤ v2 := h.resolve_left c0
      simp only [wpY_publish, wpY_isParty, wpY_isChannel, a0, a6, c0, c1, cw_n1, forall_eq, nI_leI, nI_ltI, nI_eq, true_implies, forall_const, not_true_eq_false, not_false_eq_true, false_implies, and_true, true_and, implies_true, and_self, reduceIte]
      exact hp
  by_cases c0 : v2 < 0
  · simp only [wpX_publish, wpX_sideOf, wpX_isChannel, c0, forall_eq, nI_leI, nI_ltI, nI_eq, true_implies, forall_const, not_true_eq_false, not_false_eq_true, false_implies, and_true, true_and, implies_true, and_self, reduceIte]
    exact Yc _ (Or.inl c0) ⟨rfl, J⟩
  by_cases c1 : nI C ≤ v2
  · simp only [wpX_publish, wpX_sideOf, wpX_isChannel, c0, c1, forall_eq, nI_leI, nI_ltI, nI_eq, true_implies, forall_const, not_true_eq_false, not_false_eq_true, false_implies, and_true, true_and, implies_true, and_self, reduceIte]
    exact Yc _ (Or.inr c1) ⟨rfl, J⟩
  obtain ⟨c, hc, rfl⟩ := cw_chan hC c0 c1
  have hnec := hne c hc
  obtain ⟨l, hl, el⟩ := (hE c (by omega)).1
  have q0 : ¬ nI c < 0 := c0
  have q1 : ¬ C ≤ c := by omega
  by_cases hex : ∃ s, s < 2 ∧ si (2 * c + s) = v1
  · obtain ⟨s, hs, es⟩ := hex
    obtain ⟨a, ha, ea⟩ := hsi (2 * c + s) (by omega)
    have e1 : v1 = nI a := es.symm.trans ea
    subst e1
    have a0 : ¬ nI a < 0 := nI_pos (by omega)
    have a6 : ¬ 6 ≤ a := by omega
    have Y0 : ∀ post : Int32 → SY → Prop, (¬ st c = 0 ∨ v3 < 0 ∨ ¬ v3 ≤ la c) → post 0 (nI H, sp, nI C, yn, co, ba, ra, gu, se, on, si, st, la, pu, pb, sc, he, ou, yb, yl, yf, ya, ys, ye, zf, za, zs, ze, wy, pt, su, bb, bu) → wpY_publish post (nI H, sp, nI C, yn, co, ba, ra, gu, se, on, si, st, la, pu, pb, sc, he, ou, yb, yl, yf, ya, ys, ye, zf, za, zs, ze, wy, pt, su, bb, bu) (nI a) (nI c) v3 := by
      intro post h hp
      simp (disch := omega) only [wpY_publish, wpY_isParty, wpY_isChannel, a0, cw_le6, a6, q0, q1, cw_n1, cw_m2, cw_m3, cw_m4, cw_m13, cw_2m, cw_3m, cw_12m, cw_24m, cw_36m, cw_a12, cw_a3, nI_add, nI_1, pk_sub, nI_clamp, vp_in_nI, forall_eq, nI_leI, nI_ltI, nI_eq, true_implies, forall_const, not_true_eq_false, not_false_eq_true, false_implies, and_true, true_and, implies_true, and_self, reduceIte]
      refine br_c (fun z => ys_side (by omega) hs es hnec (br_f (cw_nsl hs) (br_c (fun _ => hp) (fun y => br_c (fun x => ?_) (fun _ => hp))))) (fun _ => hp)
      rcases h with h | h | h
      · exact absurd z h
      · exact absurd h y
      · exact absurd x h
    by_cases hst : st c = 0
    · by_cases k0 : v3 < 0
      · unfold wpX_publish
        dsimp only
        refine xs_side hc hC hs es hnec (br_f (cw_nsm hs) ?_)
        simp (disch := omega) only [cw_m2, cw_m3, cw_m4, cw_m13, cw_2m, cw_3m, cw_12m, cw_24m, cw_36m, cw_a12, cw_a3, nI_add, nI_1, pk_sub, nI_clamp, vp_in_nI, hst, k0, forall_eq, nI_leI, nI_ltI, nI_eq, true_implies, forall_const, not_true_eq_false, not_false_eq_true, false_implies, and_true, true_and, implies_true, and_self, reduceIte]
        exact Y0 _ (Or.inr (Or.inl k0)) ⟨rfl, J⟩
      · by_cases k1 : v3 ≤ la c
        · obtain ⟨kk, hkk, rfl⟩ := nI_of k0
          have k1' := k1
          rw [el, nI_leI (by omega) (by omega)] at k1'
          obtain ⟨u1, v1', t1, _, hx, hy⟩ := ls_show hB0 t0 hc hs (show kk < 12 by omega)
          rw [es] at hy
          have R : i_Rel (k + 5) u1 v1' := ⟨H, C, sp, on, ba, ra, gu, si, xf, xa, xe, by omega, hB0, hD, t1⟩
          unfold wpX_publish
          dsimp only
          refine xs_side hc hC hs es hnec (br_f (cw_nsm hs) ?_)
          simp (disch := omega) only [nI_clamp, vp_in_nI, hst, k0, k1, true_implies, not_true_eq_false, not_false_eq_true, false_implies, and_true, true_and]
          refine hx _ ?_
          obtain ⟨h, sp, ch, bl, co, on, ba, ra, gu, se, si, st, la, pu, ps, sc, he, xb, xc, xi, xf, xa, xe, tc, ts, ta, bc, bs, bm⟩ := u1
          dsimp only
          simp (disch := omega) only [wpY_publish, wpY_isParty, wpY_isChannel, a0, cw_le6, a6, q0, q1, cw_n1, nI_leI, nI_clamp, vp_in_nI, hst, k0, k1, true_implies, not_true_eq_false, not_false_eq_true, false_implies, and_true, true_and]
          refine ys_side (by omega) hs es hnec (br_f (cw_nsl hs) (hy _ ?_))
          obtain ⟨h, sp, ch, yn, co, ba, ra, gu, se, on, si, st, la, pu, pb, sc, he, ou, yb, yl, yf, ya, ys, ye, zf, za, zs, ze, wy, pt, su, bb, bu⟩ := v1'
          exact R
        · unfold wpX_publish
          dsimp only
          refine xs_side hc hC hs es hnec (br_f (cw_nsm hs) ?_)
          simp (disch := omega) only [nI_clamp, vp_in_nI, hst, k0, k1, true_implies, not_true_eq_false, not_false_eq_true, false_implies, and_true, true_and]
          exact Y0 _ (Or.inr (Or.inr k1)) ⟨rfl, J⟩
    · unfold wpX_publish
      dsimp only
      refine xs_side hc hC hs es hnec (br_f (cw_nsm hs) ?_)
      simp (disch := omega) only [cw_m2, cw_m3, cw_m4, cw_m13, cw_2m, cw_3m, cw_12m, cw_24m, cw_36m, cw_a12, cw_a3, nI_add, nI_1, pk_sub, nI_clamp, vp_in_nI, hst, forall_eq, nI_leI, nI_ltI, nI_eq, true_implies, forall_const, not_true_eq_false, not_false_eq_true, false_implies, and_true, true_and, implies_true, and_self, reduceIte]
      exact Y0 _ (Or.inl hst) ⟨rfl, J⟩
  · have na : ¬ si (2 * c) = v1 := fun z => hex ⟨0, by omega, z⟩
    have nb : ¬ si (2 * c + 1) = v1 := fun z => hex ⟨1, by omega, z⟩
    unfold wpX_publish
    dsimp only
    refine xs_noside (by omega) hC (fun _ => ⟨na, nb⟩) (br_t rfl ?_)
    by_cases a0 : v1 < 0
    · exact Yp _ (Or.inl a0) ⟨rfl, J⟩
    by_cases a6 : 6 ≤ v1
    · exact Yp _ (Or.inr a6) ⟨rfl, J⟩
    simp (disch := omega) only [wpY_publish, wpY_isParty, wpY_isChannel, a0, a6, q0, q1, cw_n1, cw_m2, cw_m3, cw_m4, cw_m13, cw_2m, cw_3m, cw_12m, cw_24m, cw_36m, cw_a12, cw_a3, nI_add, nI_1, pk_sub, nI_clamp, vp_in_nI, forall_eq, nI_leI, nI_ltI, nI_eq, true_implies, forall_const, not_true_eq_false, not_false_eq_true, false_implies, and_true, true_and, implies_true, and_self, reduceIte]
    exact br_c (fun z => ys_sideOf (by omega) (fun y => absurd y na) (fun _ y => absurd y nb) (fun _ _ => br_t (by decide) J)) (fun _ => J)
end CALLS3
