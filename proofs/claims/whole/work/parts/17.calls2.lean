/-! part 17: calls on channels -/
section CALLS2
variable {h sp ch bl yn : Int32} {co on ba ra gu se si st la pu ps sc he xb xc xi xf xa xe tc ts ta bc bs bm pb ou yb yl yf ya ys ye zf za zs ze wy pt su bb bu : Nat → Int32}
theorem i_vc_open {k : Nat} {u : SX} {v : SY} (I : i_Rel k u v) (hk : k + 5 ≤ 2560) (v1 : Int32) (v2 : Int32) (v3 : Int32) (v4 : Int32) : wpX_open (fun r u' => wpY_open (fun r' v' => r' = r ∧ i_Rel (k + 5) u' v') v v1 v2 v3 v4) u v1 v2 v3 v4 := by
  have J := i_up I
  obtain ⟨H, C, sp, on, ba, ra, gu, si, xf, xa, xe, hH, hB, hD, bl, yn, co, se, st, la, pu, ps, sc, he, xb, xc, xi, tc, ts, ta, bc, bs, bm, pb, ou, yb, yl, yf, ya, ys, ye, zf, za, zs, ze, wy, pt, su, bb, bu, rfl, rfl, hS, hE, hF, hG, hO, hZ⟩ := I
  by_cases a0 : v1 < 0
  · simp (disch := omega) only [wpX_open, wpX_isParty, wpY_open, wpY_isParty, a0, nI_clamp, vp_in_nI, cw_n1, forall_eq, nI_leI, nI_ltI, nI_eq, true_implies, forall_const, not_true_eq_false, not_false_eq_true, false_implies, and_true, true_and, implies_true, and_self, reduceIte]
    exact J
  by_cases a6 : 6 ≤ v1
  · simp (disch := omega) only [wpX_open, wpX_isParty, wpY_open, wpY_isParty, a0, a6, nI_clamp, vp_in_nI, cw_n1, forall_eq, nI_leI, nI_ltI, nI_eq, true_implies, forall_const, not_true_eq_false, not_false_eq_true, false_implies, and_true, true_and, implies_true, and_self, reduceIte]
    exact J
  by_cases b0 : v2 < 0
  · simp (disch := omega) only [wpX_open, wpX_isParty, wpY_open, wpY_isParty, a0, a6, b0, nI_clamp, vp_in_nI, cw_n1, forall_eq, nI_leI, nI_ltI, nI_eq, true_implies, forall_const, not_true_eq_false, not_false_eq_true, false_implies, and_true, true_and, implies_true, and_self, reduceIte]
    exact J
  by_cases b6 : 6 ≤ v2
  · simp (disch := omega) only [wpX_open, wpX_isParty, wpY_open, wpY_isParty, a0, a6, b0, b6, nI_clamp, vp_in_nI, cw_n1, forall_eq, nI_leI, nI_ltI, nI_eq, true_implies, forall_const, not_true_eq_false, not_false_eq_true, false_implies, and_true, true_and, implies_true, and_self, reduceIte]
    exact J
  obtain ⟨a, ha, rfl⟩ := cw_pty a0 (Int32.not_le.mp a6)
  obtain ⟨b, hb, rfl⟩ := cw_pty b0 (Int32.not_le.mp b6)
  by_cases ab : a = b
  · subst ab
    simp (disch := omega) only [wpX_open, wpX_isParty, wpY_open, wpY_isParty, a0, a6, nI_clamp, vp_in_nI, cw_n1, forall_eq, nI_leI, nI_ltI, nI_eq, true_implies, forall_const, not_true_eq_false, not_false_eq_true, false_implies, and_true, true_and, implies_true, and_self, reduceIte]
    exact J
  by_cases oa : on a = 0
  · simp (disch := omega) only [wpX_open, wpX_isParty, wpY_open, wpY_isParty, a0, a6, b0, b6, ab, oa, nI_clamp, vp_in_nI, cw_n1, forall_eq, nI_leI, nI_ltI, nI_eq, true_implies, forall_const, not_true_eq_false, not_false_eq_true, false_implies, and_true, true_and, implies_true, and_self, reduceIte]
    exact J
  by_cases ob : on b = 0
  · simp (disch := omega) only [wpX_open, wpX_isParty, wpY_open, wpY_isParty, a0, a6, b0, b6, ab, oa, ob, nI_clamp, vp_in_nI, cw_n1, forall_eq, nI_leI, nI_ltI, nI_eq, true_implies, forall_const, not_true_eq_false, not_false_eq_true, false_implies, and_true, true_and, implies_true, and_self, reduceIte]
    exact J
  by_cases x0 : v3 < 0
  · simp (disch := omega) only [wpX_open, wpX_isParty, wpY_open, wpY_isParty, a0, a6, b0, b6, ab, oa, ob, x0, nI_clamp, vp_in_nI, cw_n1, forall_eq, nI_leI, nI_ltI, nI_eq, true_implies, forall_const, not_true_eq_false, not_false_eq_true, false_implies, and_true, true_and, implies_true, and_self, reduceIte]
    exact J
  by_cases y0 : v4 < 0
  · simp (disch := omega) only [wpX_open, wpX_isParty, wpY_open, wpY_isParty, a0, a6, b0, b6, ab, oa, ob, x0, y0, nI_clamp, vp_in_nI, cw_n1, forall_eq, nI_leI, nI_ltI, nI_eq, true_implies, forall_const, not_true_eq_false, not_false_eq_true, false_implies, and_true, true_and, implies_true, and_self, reduceIte]
    exact J
  by_cases ca : co a < v3
  · simp (disch := omega) only [wpX_open, wpX_isParty, wpY_open, wpY_isParty, a0, a6, b0, b6, ab, oa, ob, x0, y0, ca, nI_clamp, vp_in_nI, cw_n1, forall_eq, nI_leI, nI_ltI, nI_eq, true_implies, forall_const, not_true_eq_false, not_false_eq_true, false_implies, and_true, true_and, implies_true, and_self, reduceIte]
    exact J
  by_cases cb : co b < v4
  · simp (disch := omega) only [wpX_open, wpX_isParty, wpY_open, wpY_isParty, a0, a6, b0, b6, ab, oa, ob, x0, y0, ca, cb, nI_clamp, vp_in_nI, cw_n1, forall_eq, nI_leI, nI_ltI, nI_eq, true_implies, forall_const, not_true_eq_false, not_false_eq_true, false_implies, and_true, true_and, implies_true, and_self, reduceIte]
    exact J
  by_cases xy : v3 = 0 ∧ v4 = 0
  · obtain ⟨rfl, rfl⟩ := xy
    simp (disch := omega) only [wpX_open, wpX_isParty, wpY_open, wpY_isParty, a0, a6, b0, b6, ab, oa, ob, x0, y0, ca, cb, nI_clamp, vp_in_nI, cw_n1, forall_eq, nI_leI, nI_ltI, nI_eq, true_implies, forall_const, not_true_eq_false, not_false_eq_true, false_implies, and_true, true_and, implies_true, and_self, reduceIte]
    exact J
  have go : ∀ post : Int32 → SX → Prop, wX_open_84 post (nI a) (nI b) v3 v4 (nI H) sp (nI C) bl co on ba ra gu se si st la pu ps sc he xb xc xi xf xa xe tc ts ta bc bs bm → wpX_open post (nI H, sp, nI C, bl, co, on, ba, ra, gu, se, si, st, la, pu, ps, sc, he, xb, xc, xi, xf, xa, xe, tc, ts, ta, bc, bs, bm) (nI a) (nI b) v3 v4 := by
    intro post hp
    by_cases xz : v3 = 0
    · have yz : ¬ v4 = 0 := fun z => xy ⟨xz, z⟩
      simp (disch := omega) only [wpX_open, wpX_isParty, a0, a6, b0, b6, ab, oa, ob, x0, y0, ca, cb, xz, yz, nI_clamp, vp_in_nI, cw_n1, forall_eq, nI_leI, nI_ltI, nI_eq, true_implies, forall_const, not_true_eq_false, not_false_eq_true, false_implies, and_true, true_and, implies_true, and_self, reduceIte]
      rw [xz] at hp
      simp only [xz] at x0 ca
      simp (disch := omega) only [x0, ca, forall_eq, nI_leI, nI_ltI, nI_eq, true_implies, forall_const, not_true_eq_false, not_false_eq_true, false_implies, and_true, true_and, implies_true, and_self, reduceIte]
      exact hp
    · simp (disch := omega) only [wpX_open, wpX_isParty, a0, a6, b0, b6, ab, oa, ob, x0, y0, ca, cb, xz, nI_clamp, vp_in_nI, cw_n1, forall_eq, nI_leI, nI_ltI, nI_eq, true_implies, forall_const, not_true_eq_false, not_false_eq_true, false_implies, and_true, true_and, implies_true, and_self, reduceIte]
      exact hp
  have goY : ∀ post : Int32 → SY → Prop, wY_open_79 post (nI a) (nI b) v3 v4 (nI H) sp (nI C) yn co ba ra gu se on si st la pu pb sc he ou yb yl yf ya ys ye zf za zs ze wy pt su bb bu → wpY_open post (nI H, sp, nI C, yn, co, ba, ra, gu, se, on, si, st, la, pu, pb, sc, he, ou, yb, yl, yf, ya, ys, ye, zf, za, zs, ze, wy, pt, su, bb, bu) (nI a) (nI b) v3 v4 := by
    intro post hp
    by_cases xz : v3 = 0
    · have yz : ¬ v4 = 0 := fun z => xy ⟨xz, z⟩
      simp (disch := omega) only [wpY_open, wpY_isParty, a0, a6, b0, b6, ab, oa, ob, x0, y0, ca, cb, xz, yz, nI_clamp, vp_in_nI, cw_n1, forall_eq, nI_leI, nI_ltI, nI_eq, true_implies, forall_const, not_true_eq_false, not_false_eq_true, false_implies, and_true, true_and, implies_true, and_self, reduceIte]
      rw [xz] at hp
      simp only [xz] at x0 ca
      simp (disch := omega) only [x0, ca, forall_eq, nI_leI, nI_ltI, nI_eq, true_implies, forall_const, not_true_eq_false, not_false_eq_true, false_implies, and_true, true_and, implies_true, and_self, reduceIte]
      exact hp
    · simp (disch := omega) only [wpY_open, wpY_isParty, a0, a6, b0, b6, ab, oa, ob, x0, y0, ca, cb, xz, nI_clamp, vp_in_nI, cw_n1, forall_eq, nI_leI, nI_ltI, nI_eq, true_implies, forall_const, not_true_eq_false, not_false_eq_true, false_implies, and_true, true_and, implies_true, and_self, reduceIte]
      exact hp
  refine go _ ?_
  obtain ⟨hC, hsi, hne⟩ := hB
  by_cases c8 : C < 8
  · have c8' : ¬ C = 8 := by omega
    have hB' : cw_B (C + 1) (upd (upd si (2 * C) (nI a)) (2 * C + 1) (nI b)) := by
      refine ⟨by omega, fun i hi => ?_, fun c hc => ?_⟩
      · by_cases e1 : i = 2 * C + 1
        · exact ⟨b, hb, pk_us' e1⟩
        · rw [pk_un e1]
          by_cases e2 : i = 2 * C
          · exact ⟨a, ha, pk_us' e2⟩
          · rw [pk_un e2]
            exact hsi i hi
      · by_cases e : c = C
        · subst e
          rw [pk_un (by omega), pk_us, pk_us, nI_eq (by omega) (by omega)]
          exact ab
        · rw [pk_un (by omega), pk_un (by omega), pk_un (by omega), pk_un (by omega)]
          exact hne c (by omega)
    have hE' : cw_E st (upd la C 0) ps pb (upd (upd si (2 * C) (nI a)) (2 * C + 1) (nI b)) := by
      intro c hc
      by_cases e : c = C
      · subst e
        obtain ⟨_, h2, s, hs, es, _⟩ := hE c hc
        refine ⟨⟨0, by omega, pk_us⟩, h2, s, hs, es, fun z => ?_⟩
        rw [hZ c (Nat.le_refl _) hc] at z
        exact absurd z (by decide)
      · obtain ⟨h1, h2, s, hs, es, h3⟩ := hE c hc
        refine ⟨by rw [pk_un e]; exact h1, h2, s, hs, es, fun z => ?_⟩
        rw [pk_un (by omega), pk_un (by omega)]
        exact h3 z
    have hZ' : cw_Z (C + 1) st := fun c h1 h2 => hZ c (by omega) h2
    simp (disch := omega) only [wX_open_84, wpX_startStates, cw_tl8, cw_m2, cw_m3, cw_m4, cw_m13, cw_2m, cw_3m, cw_12m, cw_24m, cw_36m, cw_a12, cw_a3, nI_add, nI_1, pk_sub, nI_clamp, vp_in_nI, c8, forall_eq, nI_leI, nI_ltI, nI_eq, true_implies, forall_const, not_true_eq_false, not_false_eq_true, false_implies, and_true, true_and, implies_true, and_self, reduceIte]
    refine goY _ ?_
    simp (disch := omega) only [wY_open_79, wpY_first, cw_eq8, cw_m2, cw_m3, cw_m4, cw_m13, cw_2m, cw_3m, cw_12m, cw_24m, cw_36m, cw_a12, cw_a3, nI_add, nI_1, pk_sub, nI_clamp, vp_in_nI, c8', forall_eq, nI_leI, nI_ltI, nI_eq, true_implies, forall_const, not_true_eq_false, not_false_eq_true, false_implies, and_true, true_and, implies_true, and_self, reduceIte]
    exact ⟨H, C + 1, sp, on, ba, ra, gu, _, xf, xa, xe, by omega, hB', hD, bl, yn, _, se, st, _, pu, ps, sc, he, _, _, xi, tc, ts, ta, bc, bs, bm, pb, ou, _, _, yf, ya, ys, ye, zf, za, zs, ze, wy, pt, su, bb, bu, rfl, rfl, hS, hE', cw_F_start hF c8, cw_G_start hG c8, cw_O_start hO c8, hZ'⟩
  · have e8 : C = 8 := by omega
    simp (disch := omega) only [wX_open_84, cw_tl8, c8, forall_eq, nI_leI, nI_ltI, nI_eq, true_implies, forall_const, not_true_eq_false, not_false_eq_true, false_implies, and_true, true_and, implies_true, and_self, reduceIte]
    refine goY _ ?_
    simp (disch := omega) only [wY_open_79, cw_eq8, e8, forall_eq, nI_leI, nI_ltI, nI_eq, true_implies, forall_const, not_true_eq_false, not_false_eq_true, false_implies, and_true, true_and, implies_true, and_self, reduceIte]
    rw [e8] at J
    exact J
theorem xs_quiet {post : Int32 → Prop} {c C l n : Nat} (hc : c < C) (hC : C ≤ 8) (hsi : ∀ i, i < 16 → ∃ a, a < 6 ∧ si i = nI a) (hl : l < 12) (el : la c = nI l) (hn : n ≤ 3) (en : xc (13 * c + l) = nI n)
    (h1 : cw_rd st on si c → n = 0 → post 1) (h0 : ¬ (cw_rd st on si c ∧ n = 0) → post 0) : wpX_isQuiet post (h, sp, nI C, bl, co, on, ba, ra, gu, se, si, st, la, pu, ps, sc, he, xb, xc, xi, xf, xa, xe, tc, ts, ta, bc, bs, bm) (nI c) := by
  have n0 : ¬ nI c < 0 := nI_pos (by omega)
  have q : ¬ C ≤ c := by omega
  simp (disch := omega) only [wpX_isQuiet, wpX_isChannel, n0, q, cw_n1, cw_m2, cw_m3, cw_m4, cw_m13, cw_2m, cw_3m, cw_12m, cw_24m, cw_36m, cw_a12, cw_a3, nI_add, nI_1, pk_sub, nI_clamp, vp_in_nI, el, en, cw_eq0, forall_eq, nI_leI, nI_ltI, nI_eq, true_implies, forall_const, not_true_eq_false, not_false_eq_true, false_implies, and_true, true_and, implies_true, and_self, reduceIte]
  refine xs_isReady (by omega) hsi (fun r => br_f cw_n1 ?_) (fun r => br_t rfl (h0 (fun z => r z.1)))
  exact br_c (fun z => h1 r z) (fun z => h0 (fun y => z y.2))
theorem ys_plain {post : Int32 → Prop} {c C l n : Nat} (hc : c < C) (hC : C ≤ 8) (hsi : ∀ i, i < 16 → ∃ a, a < 6 ∧ si i = nI a) (hl : l < 12) (el : la c = nI l) (hn : n ≤ 3) (en : yl (12 * c + l) = nI n)
    (h1 : cw_rd st on si c → n = 0 → post 1) (h0 : ¬ (cw_rd st on si c ∧ n = 0) → post 0) : wpY_isPlain post (h, sp, nI C, yn, co, ba, ra, gu, se, on, si, st, la, pu, pb, sc, he, ou, yb, yl, yf, ya, ys, ye, zf, za, zs, ze, wy, pt, su, bb, bu) (nI c) := by
  have n0 : ¬ nI c < 0 := nI_pos (by omega)
  have q : ¬ C ≤ c := by omega
  simp (disch := omega) only [wpY_isPlain, wpY_isChannel, wpY_now, n0, q, cw_n1, cw_m2, cw_m3, cw_m4, cw_m13, cw_2m, cw_3m, cw_12m, cw_24m, cw_36m, cw_a12, cw_a3, nI_add, nI_1, pk_sub, nI_clamp, vp_in_nI, el, en, cw_eq0, forall_eq, nI_leI, nI_ltI, nI_eq, true_implies, forall_const, not_true_eq_false, not_false_eq_true, false_implies, and_true, true_and, implies_true, and_self, reduceIte]
  refine ys_isReady (by omega) hsi (fun r => br_f cw_n1 ?_) (fun r => br_t rfl (h0 (fun z => r z.1)))
  exact br_c (fun z => h1 r z) (fun z => h0 (fun y => z y.2))
theorem cw_chan {C : Nat} {x : Int32} (hC : C ≤ 8) (h0 : ¬ x < 0) (h1 : ¬ nI C ≤ x) : ∃ c, c < C ∧ x = nI c := by
  obtain ⟨c, hc, rfl⟩ := nI_of h0
  rw [nI_leI (by omega) hc] at h1
  exact ⟨c, by omega, rfl⟩
theorem i_vc_close {k : Nat} {u : SX} {v : SY} (I : i_Rel k u v) (hk : k + 5 ≤ 2560) (v1 : Int32) : wpX_close (fun r u' => wpY_close (fun r' v' => r' = r ∧ i_Rel (k + 5) u' v') v v1) u v1 := by
  have J := i_up I
  obtain ⟨H, C, sp, on, ba, ra, gu, si, xf, xa, xe, hH, hB, hD, bl, yn, co, se, st, la, pu, ps, sc, he, xb, xc, xi, tc, ts, ta, bc, bs, bm, pb, ou, yb, yl, yf, ya, ys, ye, zf, za, zs, ze, wy, pt, su, bb, bu, rfl, rfl, hS, hE, hF, hG, hO, hZ⟩ := I
  have hB0 := hB
  obtain ⟨hC, hsi, hne⟩ := hB
  by_cases c0 : v1 < 0
  · simp only [wpX_close, wpX_isQuiet, wpX_isChannel, wpY_close, wpY_isPlain, wpY_isChannel, c0, forall_eq, nI_leI, nI_ltI, nI_eq, true_implies, forall_const, not_true_eq_false, not_false_eq_true, false_implies, and_true, true_and, implies_true, and_self, reduceIte]
    exact J
  by_cases c1 : nI C ≤ v1
  · simp only [wpX_close, wpX_isQuiet, wpX_isChannel, wpY_close, wpY_isPlain, wpY_isChannel, c0, c1, forall_eq, nI_leI, nI_ltI, nI_eq, true_implies, forall_const, not_true_eq_false, not_false_eq_true, false_implies, and_true, true_and, implies_true, and_self, reduceIte]
    exact J
  obtain ⟨c, hc, rfl⟩ := cw_chan hC c0 c1
  obtain ⟨l, hl, el⟩ := (hE c (by omega)).1
  obtain ⟨n, hn, e1, e2, _⟩ := hG c l (by omega) hl
  obtain ⟨a, ha, ea⟩ := hsi (2 * c) (by omega)
  obtain ⟨b, hb, eb⟩ := hsi (2 * c + 1) (by omega)
  have f0 := hF c l 0 (by omega) hl (by omega)
  have f1 := hF c l 1 (by omega) hl (by omega)
  rw [Nat.add_zero, Nat.add_zero] at f0
  unfold wpX_close
  dsimp only
  refine xs_quiet hc hC hsi hl el hn e1 (fun r z => br_f cw_n1 ?_) (fun r => br_t rfl ?_)
  · have z0 : (0 : Int32) = nI 0 := rfl
    have q0 : ¬ (2 ≤ 0) := by omega
    have q1 : ¬ (2 ≤ 1) := by omega
    simp (disch := omega) only [cw_m2, cw_m3, cw_m4, cw_m13, cw_2m, cw_3m, cw_12m, cw_24m, cw_36m, cw_a12, cw_a3, nI_add, nI_1, pk_sub, nI_clamp, vp_in_nI, el, forall_eq, nI_leI, nI_ltI, nI_eq, true_implies, forall_const, not_true_eq_false, not_false_eq_true, false_implies, and_true, true_and, implies_true, and_self, reduceIte]
    refine ⟨3, ?_⟩
    simp (disch := omega) only [wX_close_24, z0, cw_le2, cw_m2, cw_m3, cw_m4, cw_m13, cw_2m, cw_3m, cw_12m, cw_24m, cw_36m, cw_a12, cw_a3, nI_add, nI_1, pk_sub, nI_clamp, vp_in_nI, q0, q1, Nat.zero_add, Nat.add_zero, Nat.le_refl, ea, eb, forall_eq, nI_leI, nI_ltI, nI_eq, true_implies, forall_const, not_true_eq_false, not_false_eq_true, false_implies, and_true, true_and, implies_true, and_self, reduceIte]
    unfold wpY_close
    dsimp only
    refine ys_plain hc hC hsi hl el hn e2 (fun _ _ => br_f cw_n1 (ys_now (by omega) el ⟨3, ?_⟩)) (fun r' => absurd ⟨r, z⟩ r')
    simp (disch := omega) only [wY_close_21, z0, cw_le2, cw_m2, cw_m3, cw_m4, cw_m13, cw_2m, cw_3m, cw_12m, cw_24m, cw_36m, cw_a12, cw_a3, nI_add, nI_1, pk_sub, nI_clamp, vp_in_nI, q0, q1, Nat.zero_add, Nat.add_zero, Nat.le_refl, ea, eb, f0, f1, forall_eq, nI_leI, nI_ltI, nI_eq, true_implies, forall_const, not_true_eq_false, not_false_eq_true, false_implies, and_true, true_and, implies_true, and_self, reduceIte]
    have hO' : cw_O sp xf xa xe xc xi (upd st c 2) ou zf za zs ze := by
      intro c' hc'
      refine ⟨(hO c' hc').1, fun y => (hO c' hc').2 (fun w => ?_)⟩
      by_cases e : c' = c
      · subst e
        have := r.1
        rw [this] at w
        exact absurd w (by decide)
      · rw [pk_un e] at y
        exact y w
    have hE' : cw_E (upd st c 2) la ps pb si := by
      intro c' hc'
      obtain ⟨h1, h2, s, hs, es, h3⟩ := hE c' hc'
      by_cases e : c' = c
      · subst e
        rw [pk_us]
        exact ⟨h1, Or.inr (Or.inr rfl), s, hs, es, fun w => absurd w (by decide)⟩
      · rw [pk_un e]
        exact ⟨h1, h2, s, hs, es, h3⟩
    exact ⟨H, C, sp, on, ba, ra, gu, si, xf, xa, xe, by omega, hB0, hD, bl, yn, _, se, _, la, pu, ps, sc, he, xb, xc, xi, tc, ts, ta, bc, bs, bm, pb, ou, yb, yl, yf, ya, ys, ye, zf, za, zs, ze, wy, pt, su, bb, bu, rfl, rfl, hS, hE', hF, hG, hO', cw_Z_put hZ hc⟩
  · unfold wpY_close
    dsimp only
    exact ys_plain hc hC hsi hl el hn e2 (fun r' z => absurd ⟨r', z⟩ r) (fun _ => br_t rfl ⟨rfl, J⟩)
end CALLS2
