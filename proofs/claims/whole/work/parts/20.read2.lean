/-! part 20: channel, state, lock -/
section READ2
variable {h sp ch bl yn : Int32} {co on ba ra gu se si st la pu ps sc he xb xc xi xf xa xe tc ts ta bc bs bm pb ou yb yl yf ya ys ye zf za zs ze wy pt su bb bu : Nat → Int32}
theorem i_vc_channel {k : Nat} {u : SX} {v : SY} (I : i_Rel k u v) (hk : k + 5 ≤ 2560) (v1 : Int32) (v2 : Int32) : wpX_channel (fun r => wpY_channel (fun r' => r' = r ∧ i_Rel (k + 5) u v) v v1 v2) u v1 v2 := by
  have J := i_up I
  obtain ⟨H, C, sp, on, ba, ra, gu, si, xf, xa, xe, hH, hB, hD, bl, yn, co, se, st, la, pu, ps, sc, he, xb, xc, xi, tc, ts, ta, bc, bs, bm, pb, ou, yb, yl, yf, ya, ys, ye, zf, za, zs, ze, wy, pt, su, bb, bu, rfl, rfl, hS, hE, hF, hG, hO, hZ⟩ := I
  obtain ⟨hC, hsi, hne⟩ := hB
  by_cases c0 : v1 < 0
  · simp only [wpX_channel, wpX_isChannel, wpY_channel, wpY_isChannel, c0, forall_eq, nI_leI, nI_ltI, nI_eq, true_implies, forall_const, not_true_eq_false, not_false_eq_true, false_implies, and_true, true_and, implies_true, and_self, reduceIte]
    exact J
  by_cases c1 : nI C ≤ v1
  · simp only [wpX_channel, wpX_isChannel, wpY_channel, wpY_isChannel, c0, c1, forall_eq, nI_leI, nI_ltI, nI_eq, true_implies, forall_const, not_true_eq_false, not_false_eq_true, false_implies, and_true, true_and, implies_true, and_self, reduceIte]
    exact J
  obtain ⟨c, hc, rfl⟩ := cw_chan hC c0 c1
  have q1 : ¬ C ≤ c := by omega
  by_cases w3 : v2 ≤ 3
  · by_cases w0 : v2 < 0
    · simp (disch := omega) only [wpX_channel, wpX_isChannel, wX_channel_25, wpY_channel, wpY_isChannel, wY_channel_27, c0, q1, w3, w0, cw_n1, forall_eq, nI_leI, nI_ltI, nI_eq, true_implies, forall_const, not_true_eq_false, not_false_eq_true, false_implies, and_true, true_and, implies_true, and_self, reduceIte]
      exact J
    obtain ⟨w, hw, rfl⟩ := nI_of w0
    have w3' : w ≤ 3 := (cw_el3 hw).mp w3
    have w8 : ¬ (8 : Int32) < nI w := by rw [cw_lt8 hw]; omega
    have hw' : w = 0 ∨ w = 1 ∨ w = 2 ∨ w = 3 := by omega
    rcases hw' with rfl | rfl | rfl | rfl
    · skip
      simp (disch := omega) only [wpX_channel, wpX_isChannel, wX_channel_25, wpY_channel, wpY_isChannel, wY_channel_27, c0, q1, w3, w0, w8, cw_n1, cw_eq0, cw_eq1, cw_eq2, cw_eq3, cw_eq4, cw_eq5, cw_eq6, cw_eq7, cw_eq8, cw_m2, cw_m3, cw_m4, cw_m13, cw_2m, cw_3m, cw_12m, cw_24m, cw_36m, cw_a12, cw_a3, nI_add, nI_1, pk_sub, nI_clamp, vp_in_nI, forall_eq, nI_leI, nI_ltI, nI_eq, true_implies, forall_const, not_true_eq_false, not_false_eq_true, false_implies, and_true, true_and, implies_true, and_self, reduceIte]
      exact J
    · skip
      have d0 : ¬ (1 = 0) := by omega
      simp (disch := omega) only [wpX_channel, wpX_isChannel, wX_channel_25, wpY_channel, wpY_isChannel, wY_channel_27, c0, q1, w3, w0, w8, cw_n1, cw_eq0, cw_eq1, cw_eq2, cw_eq3, cw_eq4, cw_eq5, cw_eq6, cw_eq7, cw_eq8, cw_m2, cw_m3, cw_m4, cw_m13, cw_2m, cw_3m, cw_12m, cw_24m, cw_36m, cw_a12, cw_a3, nI_add, nI_1, pk_sub, nI_clamp, vp_in_nI, d0, forall_eq, nI_leI, nI_ltI, nI_eq, true_implies, forall_const, not_true_eq_false, not_false_eq_true, false_implies, and_true, true_and, implies_true, and_self, reduceIte]
      exact J
    · skip
      have d0 : ¬ (2 = 0) := by omega
      have d1 : ¬ (2 = 1) := by omega
      simp (disch := omega) only [wpX_channel, wpX_isChannel, wX_channel_25, wpY_channel, wpY_isChannel, wY_channel_27, c0, q1, w3, w0, w8, cw_n1, cw_eq0, cw_eq1, cw_eq2, cw_eq3, cw_eq4, cw_eq5, cw_eq6, cw_eq7, cw_eq8, cw_m2, cw_m3, cw_m4, cw_m13, cw_2m, cw_3m, cw_12m, cw_24m, cw_36m, cw_a12, cw_a3, nI_add, nI_1, pk_sub, nI_clamp, vp_in_nI, d0, d1, forall_eq, nI_leI, nI_ltI, nI_eq, true_implies, forall_const, not_true_eq_false, not_false_eq_true, false_implies, and_true, true_and, implies_true, and_self, reduceIte]
      exact J
    · skip
      have d0 : ¬ (3 = 0) := by omega
      have d1 : ¬ (3 = 1) := by omega
      have d2 : ¬ (3 = 2) := by omega
      simp (disch := omega) only [wpX_channel, wpX_isChannel, wX_channel_25, wpY_channel, wpY_isChannel, wY_channel_27, c0, q1, w3, w0, w8, cw_n1, cw_eq0, cw_eq1, cw_eq2, cw_eq3, cw_eq4, cw_eq5, cw_eq6, cw_eq7, cw_eq8, cw_m2, cw_m3, cw_m4, cw_m13, cw_2m, cw_3m, cw_12m, cw_24m, cw_36m, cw_a12, cw_a3, nI_add, nI_1, pk_sub, nI_clamp, vp_in_nI, d0, d1, d2, forall_eq, nI_leI, nI_ltI, nI_eq, true_implies, forall_const, not_true_eq_false, not_false_eq_true, false_implies, and_true, true_and, implies_true, and_self, reduceIte]
      exact J
  · by_cases h1 : st c = 1
    · have w0 : ¬ v2 < 0 := fun z => w3 (Int32.le_of_lt (Int32.lt_of_lt_of_le z (by decide)))
      by_cases w8 : 8 < v2
      · simp (disch := omega) only [wpX_channel, wpX_isChannel, wX_channel_25, wpY_channel, wpY_isChannel, wY_channel_27, c0, q1, w3, w0, w8, h1, cw_n1, cw_m2, cw_m3, cw_m4, cw_m13, cw_2m, cw_3m, cw_12m, cw_24m, cw_36m, cw_a12, cw_a3, nI_add, nI_1, pk_sub, nI_clamp, vp_in_nI, forall_eq, nI_leI, nI_ltI, nI_eq, true_implies, forall_const, not_true_eq_false, not_false_eq_true, false_implies, and_true, true_and, implies_true, and_self, reduceIte]
        exact J
      obtain ⟨w, hw, rfl⟩ := nI_of w0
      have w3' : ¬ w ≤ 3 := fun z => w3 ((cw_el3 hw).mpr z)
      have w8' : ¬ 8 < w := fun z => w8 ((cw_lt8 hw).mpr z)
      obtain ⟨q, hq, hps, hpb⟩ := (hE c (by omega)).2.2
      have hpb := hpb h1
      obtain ⟨⟨n, hn, e1, e2, _⟩, _⟩ := hO c (by omega)
      have hw' : w = 4 ∨ w = 5 ∨ w = 6 ∨ w = 7 ∨ w = 8 := by omega
      rcases hw' with rfl | rfl | rfl | rfl | rfl
      · skip
        have d0 : ¬ (4 = 0) := by omega
        have d1 : ¬ (4 = 1) := by omega
        have d2 : ¬ (4 = 2) := by omega
        have d3 : ¬ (4 = 3) := by omega
        simp (disch := omega) only [wpX_channel, wpX_isChannel, wX_channel_25, wpY_channel, wpY_isChannel, wY_channel_27, c0, q1, w3, w0, w8, cw_n1, cw_eq0, cw_eq1, cw_eq2, cw_eq3, cw_eq4, cw_eq5, cw_eq6, cw_eq7, cw_eq8, cw_m2, cw_m3, cw_m4, cw_m13, cw_2m, cw_3m, cw_12m, cw_24m, cw_36m, cw_a12, cw_a3, nI_add, nI_1, pk_sub, nI_clamp, vp_in_nI, d0, d1, d2, d3, h1, hps, hpb, e1, e2, forall_eq, nI_leI, nI_ltI, nI_eq, true_implies, forall_const, not_true_eq_false, not_false_eq_true, false_implies, and_true, true_and, implies_true, and_self, reduceIte]
        exact J
      · skip
        have d0 : ¬ (5 = 0) := by omega
        have d1 : ¬ (5 = 1) := by omega
        have d2 : ¬ (5 = 2) := by omega
        have d3 : ¬ (5 = 3) := by omega
        have d4 : ¬ (5 = 4) := by omega
        simp (disch := omega) only [wpX_channel, wpX_isChannel, wX_channel_25, wpY_channel, wpY_isChannel, wY_channel_27, c0, q1, w3, w0, w8, cw_n1, cw_eq0, cw_eq1, cw_eq2, cw_eq3, cw_eq4, cw_eq5, cw_eq6, cw_eq7, cw_eq8, cw_m2, cw_m3, cw_m4, cw_m13, cw_2m, cw_3m, cw_12m, cw_24m, cw_36m, cw_a12, cw_a3, nI_add, nI_1, pk_sub, nI_clamp, vp_in_nI, d0, d1, d2, d3, d4, h1, hps, hpb, e1, e2, forall_eq, nI_leI, nI_ltI, nI_eq, true_implies, forall_const, not_true_eq_false, not_false_eq_true, false_implies, and_true, true_and, implies_true, and_self, reduceIte]
        exact J
      · skip
        have d0 : ¬ (6 = 0) := by omega
        have d1 : ¬ (6 = 1) := by omega
        have d2 : ¬ (6 = 2) := by omega
        have d3 : ¬ (6 = 3) := by omega
        have d4 : ¬ (6 = 4) := by omega
        have d5 : ¬ (6 = 5) := by omega
        simp (disch := omega) only [wpX_channel, wpX_isChannel, wX_channel_25, wpY_channel, wpY_isChannel, wY_channel_27, c0, q1, w3, w0, w8, cw_n1, cw_eq0, cw_eq1, cw_eq2, cw_eq3, cw_eq4, cw_eq5, cw_eq6, cw_eq7, cw_eq8, cw_m2, cw_m3, cw_m4, cw_m13, cw_2m, cw_3m, cw_12m, cw_24m, cw_36m, cw_a12, cw_a3, nI_add, nI_1, pk_sub, nI_clamp, vp_in_nI, d0, d1, d2, d3, d4, d5, h1, hps, hpb, e1, e2, forall_eq, nI_leI, nI_ltI, nI_eq, true_implies, forall_const, not_true_eq_false, not_false_eq_true, false_implies, and_true, true_and, implies_true, and_self, reduceIte]
        exact J
      · skip
        have d0 : ¬ (7 = 0) := by omega
        have d1 : ¬ (7 = 1) := by omega
        have d2 : ¬ (7 = 2) := by omega
        have d3 : ¬ (7 = 3) := by omega
        have d4 : ¬ (7 = 4) := by omega
        have d5 : ¬ (7 = 5) := by omega
        have d6 : ¬ (7 = 6) := by omega
        simp (disch := omega) only [wpX_channel, wpX_isChannel, wX_channel_25, wpY_channel, wpY_isChannel, wY_channel_27, c0, q1, w3, w0, w8, cw_n1, cw_eq0, cw_eq1, cw_eq2, cw_eq3, cw_eq4, cw_eq5, cw_eq6, cw_eq7, cw_eq8, cw_m2, cw_m3, cw_m4, cw_m13, cw_2m, cw_3m, cw_12m, cw_24m, cw_36m, cw_a12, cw_a3, nI_add, nI_1, pk_sub, nI_clamp, vp_in_nI, d0, d1, d2, d3, d4, d5, d6, h1, hps, hpb, e1, e2, forall_eq, nI_leI, nI_ltI, nI_eq, true_implies, forall_const, not_true_eq_false, not_false_eq_true, false_implies, and_true, true_and, implies_true, and_self, reduceIte]
        exact J
      · skip
        have d0 : ¬ (8 = 0) := by omega
        have d1 : ¬ (8 = 1) := by omega
        have d2 : ¬ (8 = 2) := by omega
        have d3 : ¬ (8 = 3) := by omega
        have d4 : ¬ (8 = 4) := by omega
        have d5 : ¬ (8 = 5) := by omega
        have d6 : ¬ (8 = 6) := by omega
        have d7 : ¬ (8 = 7) := by omega
        simp (disch := omega) only [wpX_channel, wpX_isChannel, wX_channel_25, wpY_channel, wpY_isChannel, wY_channel_27, c0, q1, w3, w0, w8, cw_n1, cw_eq0, cw_eq1, cw_eq2, cw_eq3, cw_eq4, cw_eq5, cw_eq6, cw_eq7, cw_eq8, cw_m2, cw_m3, cw_m4, cw_m13, cw_2m, cw_3m, cw_12m, cw_24m, cw_36m, cw_a12, cw_a3, nI_add, nI_1, pk_sub, nI_clamp, vp_in_nI, d0, d1, d2, d3, d4, d5, d6, d7, h1, hps, hpb, e1, e2, forall_eq, nI_leI, nI_ltI, nI_eq, true_implies, forall_const, not_true_eq_false, not_false_eq_true, false_implies, and_true, true_and, implies_true, and_self, reduceIte]
        exact J
    · simp (disch := omega) only [wpX_channel, wpX_isChannel, wpY_channel, wpY_isChannel, c0, q1, w3, h1, cw_n1, cw_m2, cw_m3, cw_m4, cw_m13, cw_2m, cw_3m, cw_12m, cw_24m, cw_36m, cw_a12, cw_a3, nI_add, nI_1, pk_sub, nI_clamp, vp_in_nI, forall_eq, nI_leI, nI_ltI, nI_eq, true_implies, forall_const, not_true_eq_false, not_false_eq_true, false_implies, and_true, true_and, implies_true, and_self, reduceIte]
      exact J
theorem i_vc_state {k : Nat} {u : SX} {v : SY} (I : i_Rel k u v) (hk : k + 5 ≤ 2560) (v1 : Int32) (v2 : Int32) (v3 : Int32) : wpX_state (fun r => wpY_state (fun r' => r' = r ∧ i_Rel (k + 5) u v) v v1 v2 v3) u v1 v2 v3 := by
  have J := i_up I
  obtain ⟨H, C, sp, on, ba, ra, gu, si, xf, xa, xe, hH, hB, hD, bl, yn, co, se, st, la, pu, ps, sc, he, xb, xc, xi, tc, ts, ta, bc, bs, bm, pb, ou, yb, yl, yf, ya, ys, ye, zf, za, zs, ze, wy, pt, su, bb, bu, rfl, rfl, hS, hE, hF, hG, hO, hZ⟩ := I
  obtain ⟨hC, hsi, hne⟩ := hB
  by_cases c0 : v1 < 0
  · simp only [wpX_state, wpX_isChannel, wpY_state, wpY_isChannel, c0, forall_eq, nI_leI, nI_ltI, nI_eq, true_implies, forall_const, not_true_eq_false, not_false_eq_true, false_implies, and_true, true_and, implies_true, and_self, reduceIte]
    exact J
  by_cases c1 : nI C ≤ v1
  · simp only [wpX_state, wpX_isChannel, wpY_state, wpY_isChannel, c0, c1, forall_eq, nI_leI, nI_ltI, nI_eq, true_implies, forall_const, not_true_eq_false, not_false_eq_true, false_implies, and_true, true_and, implies_true, and_self, reduceIte]
    exact J
  obtain ⟨c, hc, rfl⟩ := cw_chan hC c0 c1
  have q1 : ¬ C ≤ c := by omega
  obtain ⟨l, hl, el⟩ := (hE c (by omega)).1
  by_cases k0 : v2 < 0
  · simp (disch := omega) only [wpX_state, wpX_isChannel, wpY_state, wpY_isChannel, c0, q1, k0, cw_n1, forall_eq, nI_leI, nI_ltI, nI_eq, true_implies, forall_const, not_true_eq_false, not_false_eq_true, false_implies, and_true, true_and, implies_true, and_self, reduceIte]
    exact J
  by_cases k1 : v2 ≤ nI l
  · obtain ⟨kk, hkk, rfl⟩ := nI_of k0
    have k1' : kk ≤ l := (nI_leI hkk (by omega)).mp k1
    have k2 : ¬ l < kk := by omega
    by_cases w0 : v3 < 0
    · simp (disch := omega) only [wpX_state, wpX_isChannel, wpY_state, wpY_isChannel, c0, q1, k0, k1', k2, w0, cw_n1, cw_m2, cw_m3, cw_m4, cw_m13, cw_2m, cw_3m, cw_12m, cw_24m, cw_36m, cw_a12, cw_a3, nI_add, nI_1, pk_sub, nI_clamp, vp_in_nI, el, forall_eq, nI_leI, nI_ltI, nI_eq, true_implies, forall_const, not_true_eq_false, not_false_eq_true, false_implies, and_true, true_and, implies_true, and_self, reduceIte]
      exact J
    by_cases w2 : 2 < v3
    · have w2' : ¬ v3 ≤ 2 := Int32.not_le.mpr w2
      simp (disch := omega) only [wpX_state, wpX_isChannel, wpY_state, wpY_isChannel, c0, q1, k0, k1', k2, w0, w2, w2', cw_n1, cw_m2, cw_m3, cw_m4, cw_m13, cw_2m, cw_3m, cw_12m, cw_24m, cw_36m, cw_a12, cw_a3, nI_add, nI_1, pk_sub, nI_clamp, vp_in_nI, el, forall_eq, nI_leI, nI_ltI, nI_eq, true_implies, forall_const, not_true_eq_false, not_false_eq_true, false_implies, and_true, true_and, implies_true, and_self, reduceIte]
      exact J
    have w2' : v3 ≤ 2 := Int32.not_lt.mp w2
    obtain ⟨w, hw, rfl⟩ := cw_nat (m := 2) (by omega) w0 w2
    have f0 := hF c kk 0 (by omega) (by omega) (by omega)
    have f1 := hF c kk 1 (by omega) (by omega) (by omega)
    rw [Nat.add_zero, Nat.add_zero] at f0
    obtain ⟨n, hn, e1, e2, _⟩ := hG c kk (by omega) (by omega)
    have hw' : w = 0 ∨ w = 1 ∨ w = 2 := by omega
    rcases hw' with rfl | rfl | rfl
    · skip
      have d1 : ¬ (0 = 1) := by omega
      have d2 : ¬ (0 = 2) := by omega
      simp (disch := omega) only [wpX_state, wpX_isChannel, wpY_state, wpY_isChannel, c0, q1, k0, k1', k2, w0, w2, w2', cw_n1, cw_eq0, cw_eq1, cw_eq2, cw_m2, cw_m3, cw_m4, cw_m13, cw_2m, cw_3m, cw_12m, cw_24m, cw_36m, cw_a12, cw_a3, nI_add, nI_1, pk_sub, nI_clamp, vp_in_nI, el, Nat.add_zero, f0, f1, e1, e2, d1, d2, forall_eq, nI_leI, nI_ltI, nI_eq, true_implies, forall_const, not_true_eq_false, not_false_eq_true, false_implies, and_true, true_and, implies_true, and_self, reduceIte]
      exact J
    · skip
      have d0 : ¬ (1 = 0) := by omega
      have d2 : ¬ (1 = 2) := by omega
      simp (disch := omega) only [wpX_state, wpX_isChannel, wpY_state, wpY_isChannel, c0, q1, k0, k1', k2, w0, w2, w2', cw_n1, cw_eq0, cw_eq1, cw_eq2, cw_m2, cw_m3, cw_m4, cw_m13, cw_2m, cw_3m, cw_12m, cw_24m, cw_36m, cw_a12, cw_a3, nI_add, nI_1, pk_sub, nI_clamp, vp_in_nI, el, Nat.add_zero, f0, f1, e1, e2, d0, d2, forall_eq, nI_leI, nI_ltI, nI_eq, true_implies, forall_const, not_true_eq_false, not_false_eq_true, false_implies, and_true, true_and, implies_true, and_self, reduceIte]
      exact J
    · skip
      have d0 : ¬ (2 = 0) := by omega
      have d1 : ¬ (2 = 1) := by omega
      simp (disch := omega) only [wpX_state, wpX_isChannel, wpY_state, wpY_isChannel, c0, q1, k0, k1', k2, w0, w2, w2', cw_n1, cw_eq0, cw_eq1, cw_eq2, cw_m2, cw_m3, cw_m4, cw_m13, cw_2m, cw_3m, cw_12m, cw_24m, cw_36m, cw_a12, cw_a3, nI_add, nI_1, pk_sub, nI_clamp, vp_in_nI, el, Nat.add_zero, f0, f1, e1, e2, d0, d1, forall_eq, nI_leI, nI_ltI, nI_eq, true_implies, forall_const, not_true_eq_false, not_false_eq_true, false_implies, and_true, true_and, implies_true, and_self, reduceIte]
      exact J
  · have k2 : nI l < v2 := Int32.not_le.mp k1
    simp (disch := omega) only [wpX_state, wpX_isChannel, wpY_state, wpY_isChannel, c0, q1, k0, k1, k2, cw_n1, cw_m2, cw_m3, cw_m4, cw_m13, cw_2m, cw_3m, cw_12m, cw_24m, cw_36m, cw_a12, cw_a3, nI_add, nI_1, pk_sub, nI_clamp, vp_in_nI, el, forall_eq, nI_leI, nI_ltI, nI_eq, true_implies, forall_const, not_true_eq_false, not_false_eq_true, false_implies, and_true, true_and, implies_true, and_self, reduceIte]
    exact J
theorem xs_l40 {post : Int32 → Prop} {r j n L : Nat} {x4 z0 z1 : Int32} (hr : r < 104) (hz : z1 + z0 = nI r) (hn : n ≤ 3) (en : xc r = nI n) (hj : j < n) (eL : xi (3 * r + j) = nI L) (hL : L < 64)
    (w0 : x4 < 0 → post (-1)) (w4 : 3 < x4 → post (-1)) (p0 : x4 = 0 → post (xf L)) (p1 : x4 = 1 → post (xa L)) (p2 : x4 = 2 → post (nI (L / 4))) (p3 : x4 = 3 → post (xe L)) : wX_lock_40 post (nI j) x4 z0 z1 h sp ch bl co on ba ra gu se si st la pu ps sc he xb xc xi xf xa xe tc ts ta bc bs bm := by
  have j0 : ¬ nI j < 0 := nI_pos (by omega)
  simp (disch := omega) only [wX_lock_40, hz, j0, cw_m2, cw_m3, cw_m4, cw_m13, cw_2m, cw_3m, cw_12m, cw_24m, cw_36m, cw_a12, cw_a3, nI_add, nI_1, pk_sub, nI_clamp, vp_in_nI, en, hj, eL, cw_n4, cw_d4, forall_eq, nI_leI, nI_ltI, nI_eq, true_implies, forall_const, not_true_eq_false, not_false_eq_true, false_implies, and_true, true_and, implies_true, and_self, reduceIte]
  exact br_c w0 (fun _ => br_c w4 (fun _ => br_c p0 (fun _ => br_c p1 (fun _ => br_c p2 (fun _ => p3)))))
theorem xs_l40n {post : Int32 → Prop} {r n : Nat} {x3 x4 z0 z1 : Int32} (hr : r < 104) (hz : z1 + z0 = nI r) (en : xc r = nI n) (hj : x3 < 0 ∨ ¬ x3 < nI n) (hp : post (-1)) : wX_lock_40 post x3 x4 z0 z1 h sp ch bl co on ba ra gu se si st la pu ps sc he xb xc xi xf xa xe tc ts ta bc bs bm := by
  simp (disch := omega) only [wX_lock_40, hz, cw_m2, cw_m3, cw_m4, cw_m13, cw_2m, cw_3m, cw_12m, cw_24m, cw_36m, cw_a12, cw_a3, nI_add, nI_1, pk_sub, nI_clamp, vp_in_nI, en, forall_eq, nI_leI, nI_ltI, nI_eq, true_implies, forall_const, not_true_eq_false, not_false_eq_true, false_implies, and_true, true_and, implies_true, and_self, reduceIte]
  refine br_c (fun _ => hp) (fun j0 => br_c (fun h => ?_) (fun _ => hp))
  rcases hj with h' | h'
  · exact absurd h' j0
  · exact absurd h h'
theorem i_vc_lock {k : Nat} {u : SX} {v : SY} (I : i_Rel k u v) (hk : k + 5 ≤ 2560) (v1 : Int32) (v2 : Int32) (v3 : Int32) (v4 : Int32) : wpX_lock (fun r => wpY_lock (fun r' => r' = r ∧ i_Rel (k + 5) u v) v v1 v2 v3 v4) u v1 v2 v3 v4 := by
  have J := i_up I
  obtain ⟨H, C, sp, on, ba, ra, gu, si, xf, xa, xe, hH, hB, hD, bl, yn, co, se, st, la, pu, ps, sc, he, xb, xc, xi, tc, ts, ta, bc, bs, bm, pb, ou, yb, yl, yf, ya, ys, ye, zf, za, zs, ze, wy, pt, su, bb, bu, rfl, rfl, hS, hE, hF, hG, hO, hZ⟩ := I
  obtain ⟨hC, hsi, hne⟩ := hB
  by_cases c0 : v1 < 0
  · simp only [wpX_lock, wpX_isChannel, wpY_lock, wpY_isChannel, c0, forall_eq, nI_leI, nI_ltI, nI_eq, true_implies, forall_const, not_true_eq_false, not_false_eq_true, false_implies, and_true, true_and, implies_true, and_self, reduceIte]
    exact J
  by_cases c1 : nI C ≤ v1
  · simp only [wpX_lock, wpX_isChannel, wpY_lock, wpY_isChannel, c0, c1, forall_eq, nI_leI, nI_ltI, nI_eq, true_implies, forall_const, not_true_eq_false, not_false_eq_true, false_implies, and_true, true_and, implies_true, and_self, reduceIte]
    exact J
  obtain ⟨c, hc, rfl⟩ := cw_chan hC c0 c1
  have q1 : ¬ C ≤ c := by omega
  obtain ⟨l, hl, el⟩ := (hE c (by omega)).1
  by_cases k0 : v2 < -1
  · simp (disch := omega) only [wpX_lock, wpX_isChannel, wpY_lock, wpY_isChannel, c0, q1, k0, cw_n1, forall_eq, nI_leI, nI_ltI, nI_eq, true_implies, forall_const, not_true_eq_false, not_false_eq_true, false_implies, and_true, true_and, implies_true, and_self, reduceIte]
    exact br_c (fun _ => J) (fun _ => J)
  by_cases k1 : v2 ≤ nI l
  · by_cases km : v2 = -1
    · subst km
      obtain ⟨⟨n, hn, e1, e2, hrow⟩, hst⟩ := hO c (by omega)
      have hz : nI c * 13 + 12 = nI (13 * c + 12) := by rw [cw_m13, cw_a12]
      by_cases j0 : v3 < 0
      · simp (disch := omega) only [wpX_lock, wpX_isChannel, wpY_lock, wpY_isChannel, c0, q1, k0, k1, j0, nI_clamp, vp_in_nI, el, cw_n1, nI_leI, true_implies, not_true_eq_false, not_false_eq_true, false_implies, and_true, true_and]
        exact xs_l40n (by omega) hz e1 (Or.inl j0) ⟨rfl, J⟩
      · have Y0 : ∀ post : Int32 → Prop, post (-1) → ¬ v3 < nI n → wpY_lock post (nI H, sp, nI C, yn, co, ba, ra, gu, se, on, si, st, la, pu, pb, sc, he, ou, yb, yl, yf, ya, ys, ye, zf, za, zs, ze, wy, pt, su, bb, bu) (nI c) (-1) v3 v4 := by
          intro post hp hj
          by_cases h1 : st c = 1
          · simp (disch := omega) only [wpY_lock, wpY_isChannel, wY_lock_39, wY_lock_80, c0, q1, k0, k1, j0, nI_clamp, vp_in_nI, el, cw_n1, nI_leI, h1, e2, hj, true_implies, not_true_eq_false, not_false_eq_true, false_implies, and_true, true_and]
            exact hp
          · simp (disch := omega) only [wpY_lock, wpY_isChannel, wY_lock_39, wY_lock_80, c0, q1, k0, k1, j0, nI_clamp, vp_in_nI, el, cw_n1, nI_leI, h1, true_implies, not_true_eq_false, not_false_eq_true, false_implies, and_true, true_and]
            exact hp
        by_cases hj : v3 < nI n
        · obtain ⟨j, hjj, rfl⟩ := nI_of j0
          have hj' : j < n := (nI_ltI hjj (by omega)).mp hj
          obtain ⟨L, hL, ez, hbit, efx, h01, eax, esx, eex⟩ := hrow j hj'
          have h1 : st c = 1 := by
            by_cases h1 : st c = 1
            · exact h1
            · have := hst h1
              rw [e1] at this
              have : n = 0 := (nI_eq (b := 0) (by omega) (by omega)).mp this
              omega
          have Y1 : ∀ post : Int32 → Prop, wY_lock_113 post v4 1 (nI (3 * c + j)) (nI H) sp (nI C) yn co ba ra gu se on si st la pu pb sc he ou yb yl yf ya ys ye zf za zs ze wy pt su bb bu → wpY_lock post (nI H, sp, nI C, yn, co, ba, ra, gu, se, on, si, st, la, pu, pb, sc, he, ou, yb, yl, yf, ya, ys, ye, zf, za, zs, ze, wy, pt, su, bb, bu) (nI c) (-1) (nI j) v4 := by
            intro post hp
            simp (disch := omega) only [wpY_lock, wpY_isChannel, wY_lock_39, wY_lock_80, c0, q1, k0, k1, j0, el, cw_n1, h1, e2, hj', cw_m2, cw_m3, cw_m4, cw_m13, cw_2m, cw_3m, cw_12m, cw_24m, cw_36m, cw_a12, cw_a3, nI_add, nI_1, pk_sub, nI_clamp, vp_in_nI, forall_eq, nI_leI, nI_ltI, nI_eq, true_implies, forall_const, not_true_eq_false, not_false_eq_true, false_implies, and_true, true_and, implies_true, and_self, reduceIte]
            exact hp
          have d1 : ¬ (1 : Int32) < 0 := by decide
          have d2 : ¬ (2 : Int32) < 0 := by decide
          have d3 : ¬ (3 : Int32) < 0 := by decide
          have D0 : ¬ (0 : Int32) < 0 := by decide
          have g0 : ¬ (3 : Int32) < 0 := by decide
          have g1 : ¬ (3 : Int32) < 1 := by decide
          have g2 : ¬ (3 : Int32) < 2 := by decide
          have g3 : ¬ (3 : Int32) < 3 := by decide
          have x21 : ¬ (2 : Int32) = 0 := by decide
          have x22 : ¬ (2 : Int32) = 1 := by decide
          have x31 : ¬ (3 : Int32) = 0 := by decide
          have x32 : ¬ (3 : Int32) = 1 := by decide
          have x33 : ¬ (3 : Int32) = 2 := by decide
          simp (disch := omega) only [wpX_lock, wpX_isChannel, c0, q1, k0, k1, nI_clamp, vp_in_nI, el, cw_n1, nI_leI, true_implies, not_true_eq_false, not_false_eq_true, false_implies, and_true, true_and]
          refine xs_l40 (by omega) hz hn e1 hj' ez hL (fun w => Y1 _ ?_) (fun w => Y1 _ ?_) (fun w => Y1 _ ?_) (fun w => Y1 _ ?_) (fun w => Y1 _ ?_) (fun w => Y1 _ ?_)
          · simp only [wY_lock_113, w, forall_eq, nI_leI, nI_ltI, nI_eq, true_implies, forall_const, not_true_eq_false, not_false_eq_true, false_implies, and_true, true_and, implies_true, and_self, reduceIte]
            exact J
          · simp only [wY_lock_113, w, forall_eq, nI_leI, nI_ltI, nI_eq, true_implies, forall_const, not_true_eq_false, not_false_eq_true, false_implies, and_true, true_and, implies_true, and_self, reduceIte]
            exact br_c (fun _ => J) (fun _ => J)
          · subst w
            simp (disch := omega) only [wY_lock_113, D0, g0, cw_n1, cw_m2, cw_m3, cw_m4, cw_m13, cw_2m, cw_3m, cw_12m, cw_24m, cw_36m, cw_a12, cw_a3, nI_add, nI_1, pk_sub, nI_clamp, vp_in_nI, efx, forall_eq, nI_leI, nI_ltI, nI_eq, true_implies, forall_const, not_true_eq_false, not_false_eq_true, false_implies, and_true, true_and, implies_true, and_self, reduceIte]
            exact J
          · subst w
            simp (disch := omega) only [wY_lock_113, d1, g1, cw_n1, cw_m2, cw_m3, cw_m4, cw_m13, cw_2m, cw_3m, cw_12m, cw_24m, cw_36m, cw_a12, cw_a3, nI_add, nI_1, pk_sub, nI_clamp, vp_in_nI, eax, forall_eq, nI_leI, nI_ltI, nI_eq, true_implies, forall_const, not_true_eq_false, not_false_eq_true, false_implies, and_true, true_and, implies_true, and_self, reduceIte]
            exact J
          · subst w
            simp (disch := omega) only [wY_lock_113, d2, g2, x21, x22, cw_n1, cw_m2, cw_m3, cw_m4, cw_m13, cw_2m, cw_3m, cw_12m, cw_24m, cw_36m, cw_a12, cw_a3, nI_add, nI_1, pk_sub, nI_clamp, vp_in_nI, esx, forall_eq, nI_leI, nI_ltI, nI_eq, true_implies, forall_const, not_true_eq_false, not_false_eq_true, false_implies, and_true, true_and, implies_true, and_self, reduceIte]
            exact J
          · subst w
            simp (disch := omega) only [wY_lock_113, d3, g3, x31, x32, x33, cw_n1, cw_m2, cw_m3, cw_m4, cw_m13, cw_2m, cw_3m, cw_12m, cw_24m, cw_36m, cw_a12, cw_a3, nI_add, nI_1, pk_sub, nI_clamp, vp_in_nI, eex, forall_eq, nI_leI, nI_ltI, nI_eq, true_implies, forall_const, not_true_eq_false, not_false_eq_true, false_implies, and_true, true_and, implies_true, and_self, reduceIte]
            exact J
        · simp (disch := omega) only [wpX_lock, wpX_isChannel, c0, q1, k0, k1, nI_clamp, vp_in_nI, el, cw_n1, nI_leI, true_implies, not_true_eq_false, not_false_eq_true, false_implies, and_true, true_and]
          exact xs_l40n (by omega) hz e1 (Or.inr hj) (Y0 _ ⟨rfl, J⟩ hj)
    · have k0' : ¬ v2 < 0 := by
        intro z
        have h1 := Int32.lt_iff_toInt_lt.mp z
        have h2 : ¬ v2.toInt < (-1 : Int32).toInt := fun y => k0 (Int32.lt_iff_toInt_lt.mpr y)
        have h3 : ¬ v2.toInt = (-1 : Int32).toInt := fun y => km (Int32.toInt_inj.mp y)
        have h4 : (-1 : Int32).toInt = -1 := by decide
        have h5 : (0 : Int32).toInt = 0 := by decide
        rw [h4] at h2 h3
        rw [h5] at h1
        omega
      obtain ⟨kk, hkk, rfl⟩ := nI_of k0'
      have k1' : kk ≤ l := (nI_leI hkk (by omega)).mp k1
      obtain ⟨n, hn, e1, e2, hrow⟩ := hG c kk (by omega) (by omega)
      have hz : nI c * 13 + nI kk = nI (13 * c + kk) := by rw [cw_m13, nI_add]
      by_cases j0 : v3 < 0
      · simp (disch := omega) only [wpX_lock, wpX_isChannel, wpY_lock, wpY_isChannel, c0, q1, k0, k1', km, j0, nI_clamp, vp_in_nI, el, cw_n1, nI_leI, true_implies, not_true_eq_false, not_false_eq_true, false_implies, and_true, true_and]
        exact xs_l40n (by omega) hz e1 (Or.inl j0) ⟨rfl, J⟩
      · have Y0 : ∀ post : Int32 → Prop, post (-1) → ¬ v3 < nI n → wpY_lock post (nI H, sp, nI C, yn, co, ba, ra, gu, se, on, si, st, la, pu, pb, sc, he, ou, yb, yl, yf, ya, ys, ye, zf, za, zs, ze, wy, pt, su, bb, bu) (nI c) (nI kk) v3 v4 := by
          intro post hp hj
          simp (disch := omega) only [wpY_lock, wpY_isChannel, wY_lock_39, wY_lock_80, c0, q1, k0, k1', km, j0, cw_12m, nI_add, nI_clamp, vp_in_nI, el, cw_n1, nI_leI, e2, hj, true_implies, not_true_eq_false, not_false_eq_true, false_implies, and_true, true_and]
          exact hp
        by_cases hj : v3 < nI n
        · obtain ⟨j, hjj, rfl⟩ := nI_of j0
          have hj' : j < n := (nI_ltI hjj (by omega)).mp hj
          obtain ⟨L, hL, ez, hbit, efx, h01, eax, esx, eex⟩ := hrow j hj'
          have Y1 : ∀ post : Int32 → Prop, wY_lock_113 post v4 0 (nI (3 * (12 * c + kk) + j)) (nI H) sp (nI C) yn co ba ra gu se on si st la pu pb sc he ou yb yl yf ya ys ye zf za zs ze wy pt su bb bu → wpY_lock post (nI H, sp, nI C, yn, co, ba, ra, gu, se, on, si, st, la, pu, pb, sc, he, ou, yb, yl, yf, ya, ys, ye, zf, za, zs, ze, wy, pt, su, bb, bu) (nI c) (nI kk) (nI j) v4 := by
            intro post hp
            have ei : 36 * c + 3 * kk + j = 3 * (12 * c + kk) + j := by omega
            simp (disch := omega) only [wpY_lock, wpY_isChannel, wY_lock_39, wY_lock_80, c0, q1, k0, k1', km, j0, el, cw_n1, e2, hj', cw_m2, cw_m3, cw_m4, cw_m13, cw_2m, cw_3m, cw_12m, cw_24m, cw_36m, cw_a12, cw_a3, nI_add, nI_1, pk_sub, nI_clamp, vp_in_nI, ei, forall_eq, nI_leI, nI_ltI, nI_eq, true_implies, forall_const, not_true_eq_false, not_false_eq_true, false_implies, and_true, true_and, implies_true, and_self, reduceIte]
            exact hp
          have d1 : ¬ (1 : Int32) < 0 := by decide
          have d2 : ¬ (2 : Int32) < 0 := by decide
          have d3 : ¬ (3 : Int32) < 0 := by decide
          have D0 : ¬ (0 : Int32) < 0 := by decide
          have g0 : ¬ (3 : Int32) < 0 := by decide
          have g1 : ¬ (3 : Int32) < 1 := by decide
          have g2 : ¬ (3 : Int32) < 2 := by decide
          have g3 : ¬ (3 : Int32) < 3 := by decide
          have x21 : ¬ (2 : Int32) = 0 := by decide
          have x22 : ¬ (2 : Int32) = 1 := by decide
          have x31 : ¬ (3 : Int32) = 0 := by decide
          have x32 : ¬ (3 : Int32) = 1 := by decide
          have x33 : ¬ (3 : Int32) = 2 := by decide
          simp (disch := omega) only [wpX_lock, wpX_isChannel, c0, q1, k0, k1', km, nI_clamp, vp_in_nI, el, cw_n1, nI_leI, true_implies, not_true_eq_false, not_false_eq_true, false_implies, and_true, true_and]
          refine xs_l40 (by omega) hz hn e1 hj' ez hL (fun w => Y1 _ ?_) (fun w => Y1 _ ?_) (fun w => Y1 _ ?_) (fun w => Y1 _ ?_) (fun w => Y1 _ ?_) (fun w => Y1 _ ?_)
          · simp only [wY_lock_113, w, forall_eq, nI_leI, nI_ltI, nI_eq, true_implies, forall_const, not_true_eq_false, not_false_eq_true, false_implies, and_true, true_and, implies_true, and_self, reduceIte]
            exact J
          · simp only [wY_lock_113, w, forall_eq, nI_leI, nI_ltI, nI_eq, true_implies, forall_const, not_true_eq_false, not_false_eq_true, false_implies, and_true, true_and, implies_true, and_self, reduceIte]
            exact br_c (fun _ => J) (fun _ => J)
          · subst w
            simp (disch := omega) only [wY_lock_113, D0, g0, cw_n1, cw_m2, cw_m3, cw_m4, cw_m13, cw_2m, cw_3m, cw_12m, cw_24m, cw_36m, cw_a12, cw_a3, nI_add, nI_1, pk_sub, nI_clamp, vp_in_nI, efx, forall_eq, nI_leI, nI_ltI, nI_eq, true_implies, forall_const, not_true_eq_false, not_false_eq_true, false_implies, and_true, true_and, implies_true, and_self, reduceIte]
            exact J
          · subst w
            simp (disch := omega) only [wY_lock_113, d1, g1, cw_n1, cw_m2, cw_m3, cw_m4, cw_m13, cw_2m, cw_3m, cw_12m, cw_24m, cw_36m, cw_a12, cw_a3, nI_add, nI_1, pk_sub, nI_clamp, vp_in_nI, eax, forall_eq, nI_leI, nI_ltI, nI_eq, true_implies, forall_const, not_true_eq_false, not_false_eq_true, false_implies, and_true, true_and, implies_true, and_self, reduceIte]
            exact J
          · subst w
            simp (disch := omega) only [wY_lock_113, d2, g2, x21, x22, cw_n1, cw_m2, cw_m3, cw_m4, cw_m13, cw_2m, cw_3m, cw_12m, cw_24m, cw_36m, cw_a12, cw_a3, nI_add, nI_1, pk_sub, nI_clamp, vp_in_nI, esx, forall_eq, nI_leI, nI_ltI, nI_eq, true_implies, forall_const, not_true_eq_false, not_false_eq_true, false_implies, and_true, true_and, implies_true, and_self, reduceIte]
            exact J
          · subst w
            simp (disch := omega) only [wY_lock_113, d3, g3, x31, x32, x33, cw_n1, cw_m2, cw_m3, cw_m4, cw_m13, cw_2m, cw_3m, cw_12m, cw_24m, cw_36m, cw_a12, cw_a3, nI_add, nI_1, pk_sub, nI_clamp, vp_in_nI, eex, forall_eq, nI_leI, nI_ltI, nI_eq, true_implies, forall_const, not_true_eq_false, not_false_eq_true, false_implies, and_true, true_and, implies_true, and_self, reduceIte]
            exact J
        · simp (disch := omega) only [wpX_lock, wpX_isChannel, c0, q1, k0, k1', km, nI_clamp, vp_in_nI, el, cw_n1, nI_leI, true_implies, not_true_eq_false, not_false_eq_true, false_implies, and_true, true_and]
          exact xs_l40n (by omega) hz e1 (Or.inr hj) (Y0 _ ⟨rfl, J⟩ hj)
  · simp (disch := omega) only [wpX_lock, wpX_isChannel, wpY_lock, wpY_isChannel, c0, q1, k0, k1, nI_clamp, vp_in_nI, el, cw_n1, nI_leI, true_implies, not_true_eq_false, not_false_eq_true, false_implies, and_true, true_and]
    exact br_c (fun _ => J) (fun _ => J)
end READ2
