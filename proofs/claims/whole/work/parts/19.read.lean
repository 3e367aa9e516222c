/-! part 19: party, channel, state, lock -/
section READ
variable {h sp ch bl yn : Int32} {co on ba ra gu se si st la pu ps sc he xb xc xi xf xa xe tc ts ta bc bs bm pb ou yb yl yf ya ys ye zf za zs ze wy pt su bb bu : Nat → Int32}
theorem xs_owni {post : Int32 → Prop} {C p : Nat} {acc : Int32} (hC : C ≤ 8) (hp : post acc) : ∀ d c, c + d = 8 → C ≤ c → wX_ownedInChannels_4 post (nI p) h sp (nI C) bl co on ba ra gu se si st la pu ps sc he xb xc xi xf xa xe tc ts ta bc bs bm (d + 1) acc (nI c) := by
  intro d
  induction d with
  | zero =>
    intro c hc _
    have e : c = 8 := by omega
    subst e
    rw [wX_ownedInChannels_4]
    simp (disch := omega) only [cw_le8, Nat.le_refl, forall_eq, nI_leI, nI_ltI, nI_eq, true_implies, forall_const, not_true_eq_false, not_false_eq_true, false_implies, and_true, true_and, implies_true, and_self, reduceIte]
    exact hp
  | succ d ih =>
    intro c hc hCc
    have q : ¬ 8 ≤ c := by omega
    rw [wX_ownedInChannels_4]
    simp (disch := omega) only [cw_le8, q, cw_m2, cw_m3, cw_m4, cw_m13, cw_2m, cw_3m, cw_12m, cw_24m, cw_36m, cw_a12, cw_a3, nI_add, nI_1, pk_sub, nI_clamp, vp_in_nI, forall_eq, nI_leI, nI_ltI, nI_eq, true_implies, forall_const, not_true_eq_false, not_false_eq_true, false_implies, and_true, true_and, implies_true, and_self, reduceIte]
    refine xs_noside (by omega) hC (fun z => by omega) (br_t rfl ?_)
    unfold wX_ownedInChannels_64
    exact br_t rfl (nm_r (nI_1 c) (ih (c + 1) (by omega) (by omega)))
theorem ls_bound {H C p : Nat} (hB : cw_B C si) (hE : cw_E st la ps pb si) (hF : cw_F xb yb) : ∀ d c acc, c + d = C → ∃ r : Int32, (∀ post : Int32 → Prop, post r → ∃ f, wX_ownedInChannels_4 post (nI p) (nI H) sp (nI C) bl co on ba ra gu se si st la pu ps sc he xb xc xi xf xa xe tc ts ta bc bs bm f acc (nI c)) ∧
    (∀ post : Int32 → Prop, post r → ∃ f, wY_bound_4 post (nI p) (nI H) sp (nI C) yn co ba ra gu se on si st la pu pb sc he ou yb yl yf ya ys ye zf za zs ze wy pt su bb bu f acc (nI c)) := by
  obtain ⟨hC, hsi, hne⟩ := hB
  intro d
  induction d with
  | zero =>
    intro c acc hc
    have e : c = C := by omega
    subst e
    refine ⟨acc, fun post hp => ⟨8 - c + 1, xs_owni hC hp (8 - c) c (by omega) (Nat.le_refl _)⟩, fun post hp => ⟨1, ?_⟩⟩
    rw [wY_bound_4]
    simp (disch := omega) only [Nat.le_refl, forall_eq, nI_leI, nI_ltI, nI_eq, true_implies, forall_const, not_true_eq_false, not_false_eq_true, false_implies, and_true, true_and, implies_true, and_self, reduceIte]
    exact hp
  | succ d ih =>
    intro c acc hc
    have hcC : c < C := by omega
    have hnec := hne c hcC
    have q8 : ¬ 8 ≤ c := by omega
    have qC : ¬ C ≤ c := by omega
    by_cases hex : ∃ s, s < 2 ∧ si (2 * c + s) = nI p
    · obtain ⟨s, hs, es⟩ := hex
      obtain ⟨⟨l, hl, el⟩, hst, q, hq, hps, hpb⟩ := hE c (by omega)
      have f := hF c l s (by omega) hl hs
      by_cases h0 : st c = 0
      · have h1 : ¬ st c = 1 := by rw [h0]; decide
        obtain ⟨r, hx, hy⟩ := ih (c + 1) (acc + xb (2 * (13 * c + l) + s)) (by omega)
        refine ⟨r, fun post hp => ?_, fun post hp => ?_⟩
        · obtain ⟨g, hg⟩ := hx post hp
          refine ⟨g + 1, ?_⟩
          rw [wX_ownedInChannels_4]
          simp (disch := omega) only [cw_le8, q8, cw_m2, cw_m3, cw_m4, cw_m13, cw_2m, cw_3m, cw_12m, cw_24m, cw_36m, cw_a12, cw_a3, nI_add, nI_1, pk_sub, nI_clamp, vp_in_nI, forall_eq, nI_leI, nI_ltI, nI_eq, true_implies, forall_const, not_true_eq_false, not_false_eq_true, false_implies, and_true, true_and, implies_true, and_self, reduceIte]
          refine xs_side hcC hC hs es hnec (br_f (cw_nsm hs) ?_)
          simp (disch := omega) only [cw_m2, cw_m3, cw_m4, cw_m13, cw_2m, cw_3m, cw_12m, cw_24m, cw_36m, cw_a12, cw_a3, nI_add, nI_1, pk_sub, nI_clamp, vp_in_nI, h0, el, forall_eq, nI_leI, nI_ltI, nI_eq, true_implies, forall_const, not_true_eq_false, not_false_eq_true, false_implies, and_true, true_and, implies_true, and_self, reduceIte]
          exact hg
        · obtain ⟨g, hg⟩ := hy post hp
          refine ⟨g + 1, ?_⟩
          rw [wY_bound_4]
          simp (disch := omega) only [cw_m2, cw_m3, cw_m4, cw_m13, cw_2m, cw_3m, cw_12m, cw_24m, cw_36m, cw_a12, cw_a3, nI_add, nI_1, pk_sub, nI_clamp, vp_in_nI, qC, forall_eq, nI_leI, nI_ltI, nI_eq, true_implies, forall_const, not_true_eq_false, not_false_eq_true, false_implies, and_true, true_and, implies_true, and_self, reduceIte]
          refine ys_side (by omega) hs es hnec (br_t (cw_nsg hs) ?_)
          refine br_t h0 (ys_now (by omega) el ?_)
          simp (disch := omega) only [wY_bound_55, cw_m2, cw_m3, cw_m4, cw_m13, cw_2m, cw_3m, cw_12m, cw_24m, cw_36m, cw_a12, cw_a3, nI_add, nI_1, pk_sub, nI_clamp, vp_in_nI, h1, f, forall_eq, nI_leI, nI_ltI, nI_eq, true_implies, forall_const, not_true_eq_false, not_false_eq_true, false_implies, and_true, true_and, implies_true, and_self, reduceIte]
          exact hg
      · by_cases h1 : st c = 1
        · have hpb := hpb h1
          by_cases hqs : q = s
          · subst hqs
            rw [es] at hpb
            obtain ⟨r, hx, hy⟩ := ih (c + 1) (acc + he c) (by omega)
            refine ⟨r, fun post hp => ?_, fun post hp => ?_⟩
            · obtain ⟨g, hg⟩ := hx post hp
              refine ⟨g + 1, ?_⟩
              rw [wX_ownedInChannels_4]
              simp (disch := omega) only [cw_le8, q8, cw_m2, cw_m3, cw_m4, cw_m13, cw_2m, cw_3m, cw_12m, cw_24m, cw_36m, cw_a12, cw_a3, nI_add, nI_1, pk_sub, nI_clamp, vp_in_nI, forall_eq, nI_leI, nI_ltI, nI_eq, true_implies, forall_const, not_true_eq_false, not_false_eq_true, false_implies, and_true, true_and, implies_true, and_self, reduceIte]
              refine xs_side hcC hC hs es hnec (br_f (cw_nsm hs) (br_f h0 ?_))
              simp (disch := omega) only [wX_ownedInChannels_64, cw_nsm hs, cw_m2, cw_m3, cw_m4, cw_m13, cw_2m, cw_3m, cw_12m, cw_24m, cw_36m, cw_a12, cw_a3, nI_add, nI_1, pk_sub, nI_clamp, vp_in_nI, h1, hps, forall_eq, nI_leI, nI_ltI, nI_eq, true_implies, forall_const, not_true_eq_false, not_false_eq_true, false_implies, and_true, true_and, implies_true, and_self, reduceIte]
              exact hg
            · obtain ⟨g, hg⟩ := hy post hp
              refine ⟨g + 1, ?_⟩
              rw [wY_bound_4]
              simp (disch := omega) only [cw_m2, cw_m3, cw_m4, cw_m13, cw_2m, cw_3m, cw_12m, cw_24m, cw_36m, cw_a12, cw_a3, nI_add, nI_1, pk_sub, nI_clamp, vp_in_nI, qC, forall_eq, nI_leI, nI_ltI, nI_eq, true_implies, forall_const, not_true_eq_false, not_false_eq_true, false_implies, and_true, true_and, implies_true, and_self, reduceIte]
              refine ys_side (by omega) hs es hnec (br_t (cw_nsg hs) (br_f h0 ?_))
              simp (disch := omega) only [wY_bound_55, cw_m2, cw_m3, cw_m4, cw_m13, cw_2m, cw_3m, cw_12m, cw_24m, cw_36m, cw_a12, cw_a3, nI_add, nI_1, pk_sub, nI_clamp, vp_in_nI, h1, hpb, forall_eq, nI_leI, nI_ltI, nI_eq, true_implies, forall_const, not_true_eq_false, not_false_eq_true, false_implies, and_true, true_and, implies_true, and_self, reduceIte]
              exact hg
          · have n1 : ¬ ps c = nI s := by rw [hps, nI_eq (by omega) (by omega)]; exact hqs
            have n2 : ¬ pb c = nI p := by
              rw [hpb, ← es]
              have : (q = 0 ∧ s = 1) ∨ (q = 1 ∧ s = 0) := by omega
              rcases this with ⟨rfl, rfl⟩ | ⟨rfl, rfl⟩
              · exact hnec
              · exact fun z => hnec z.symm
            obtain ⟨r, hx, hy⟩ := ih (c + 1) acc (by omega)
            refine ⟨r, fun post hp => ?_, fun post hp => ?_⟩
            · obtain ⟨g, hg⟩ := hx post hp
              refine ⟨g + 1, ?_⟩
              rw [wX_ownedInChannels_4]
              simp (disch := omega) only [cw_le8, q8, cw_m2, cw_m3, cw_m4, cw_m13, cw_2m, cw_3m, cw_12m, cw_24m, cw_36m, cw_a12, cw_a3, nI_add, nI_1, pk_sub, nI_clamp, vp_in_nI, forall_eq, nI_leI, nI_ltI, nI_eq, true_implies, forall_const, not_true_eq_false, not_false_eq_true, false_implies, and_true, true_and, implies_true, and_self, reduceIte]
              refine xs_side hcC hC hs es hnec (br_f (cw_nsm hs) (br_f h0 ?_))
              simp (disch := omega) only [wX_ownedInChannels_64, cw_nsm hs, cw_m2, cw_m3, cw_m4, cw_m13, cw_2m, cw_3m, cw_12m, cw_24m, cw_36m, cw_a12, cw_a3, nI_add, nI_1, pk_sub, nI_clamp, vp_in_nI, h1, n1, forall_eq, nI_leI, nI_ltI, nI_eq, true_implies, forall_const, not_true_eq_false, not_false_eq_true, false_implies, and_true, true_and, implies_true, and_self, reduceIte]
              exact hg
            · obtain ⟨g, hg⟩ := hy post hp
              refine ⟨g + 1, ?_⟩
              rw [wY_bound_4]
              simp (disch := omega) only [cw_m2, cw_m3, cw_m4, cw_m13, cw_2m, cw_3m, cw_12m, cw_24m, cw_36m, cw_a12, cw_a3, nI_add, nI_1, pk_sub, nI_clamp, vp_in_nI, qC, forall_eq, nI_leI, nI_ltI, nI_eq, true_implies, forall_const, not_true_eq_false, not_false_eq_true, false_implies, and_true, true_and, implies_true, and_self, reduceIte]
              refine ys_side (by omega) hs es hnec (br_t (cw_nsg hs) (br_f h0 ?_))
              simp (disch := omega) only [wY_bound_55, cw_m2, cw_m3, cw_m4, cw_m13, cw_2m, cw_3m, cw_12m, cw_24m, cw_36m, cw_a12, cw_a3, nI_add, nI_1, pk_sub, nI_clamp, vp_in_nI, h1, n2, forall_eq, nI_leI, nI_ltI, nI_eq, true_implies, forall_const, not_true_eq_false, not_false_eq_true, false_implies, and_true, true_and, implies_true, and_self, reduceIte]
              exact hg
        · obtain ⟨r, hx, hy⟩ := ih (c + 1) acc (by omega)
          refine ⟨r, fun post hp => ?_, fun post hp => ?_⟩
          · obtain ⟨g, hg⟩ := hx post hp
            refine ⟨g + 1, ?_⟩
            rw [wX_ownedInChannels_4]
            simp (disch := omega) only [cw_le8, q8, cw_m2, cw_m3, cw_m4, cw_m13, cw_2m, cw_3m, cw_12m, cw_24m, cw_36m, cw_a12, cw_a3, nI_add, nI_1, pk_sub, nI_clamp, vp_in_nI, forall_eq, nI_leI, nI_ltI, nI_eq, true_implies, forall_const, not_true_eq_false, not_false_eq_true, false_implies, and_true, true_and, implies_true, and_self, reduceIte]
            refine xs_side hcC hC hs es hnec (br_f (cw_nsm hs) (br_f h0 ?_))
            simp (disch := omega) only [wX_ownedInChannels_64, cw_nsm hs, cw_m2, cw_m3, cw_m4, cw_m13, cw_2m, cw_3m, cw_12m, cw_24m, cw_36m, cw_a12, cw_a3, nI_add, nI_1, pk_sub, nI_clamp, vp_in_nI, h1, forall_eq, nI_leI, nI_ltI, nI_eq, true_implies, forall_const, not_true_eq_false, not_false_eq_true, false_implies, and_true, true_and, implies_true, and_self, reduceIte]
            exact hg
          · obtain ⟨g, hg⟩ := hy post hp
            refine ⟨g + 1, ?_⟩
            rw [wY_bound_4]
            simp (disch := omega) only [cw_m2, cw_m3, cw_m4, cw_m13, cw_2m, cw_3m, cw_12m, cw_24m, cw_36m, cw_a12, cw_a3, nI_add, nI_1, pk_sub, nI_clamp, vp_in_nI, qC, forall_eq, nI_leI, nI_ltI, nI_eq, true_implies, forall_const, not_true_eq_false, not_false_eq_true, false_implies, and_true, true_and, implies_true, and_self, reduceIte]
            refine ys_side (by omega) hs es hnec (br_t (cw_nsg hs) (br_f h0 ?_))
            simp (disch := omega) only [wY_bound_55, cw_m2, cw_m3, cw_m4, cw_m13, cw_2m, cw_3m, cw_12m, cw_24m, cw_36m, cw_a12, cw_a3, nI_add, nI_1, pk_sub, nI_clamp, vp_in_nI, h1, forall_eq, nI_leI, nI_ltI, nI_eq, true_implies, forall_const, not_true_eq_false, not_false_eq_true, false_implies, and_true, true_and, implies_true, and_self, reduceIte]
            exact hg
    · have na : ¬ si (2 * c) = nI p := fun z => hex ⟨0, by omega, z⟩
      have nb : ¬ si (2 * c + 1) = nI p := fun z => hex ⟨1, by omega, z⟩
      obtain ⟨r, hx, hy⟩ := ih (c + 1) acc (by omega)
      refine ⟨r, fun post hp => ?_, fun post hp => ?_⟩
      · obtain ⟨g, hg⟩ := hx post hp
        refine ⟨g + 1, ?_⟩
        rw [wX_ownedInChannels_4]
        simp (disch := omega) only [cw_le8, q8, cw_m2, cw_m3, cw_m4, cw_m13, cw_2m, cw_3m, cw_12m, cw_24m, cw_36m, cw_a12, cw_a3, nI_add, nI_1, pk_sub, nI_clamp, vp_in_nI, forall_eq, nI_leI, nI_ltI, nI_eq, true_implies, forall_const, not_true_eq_false, not_false_eq_true, false_implies, and_true, true_and, implies_true, and_self, reduceIte]
        refine xs_noside (by omega) hC (fun _ => ⟨na, nb⟩) (br_t rfl ?_)
        unfold wX_ownedInChannels_64
        exact br_t rfl (nm_r (nI_1 c) hg)
      · obtain ⟨g, hg⟩ := hy post hp
        refine ⟨g + 1, ?_⟩
        rw [wY_bound_4]
        simp (disch := omega) only [cw_m2, cw_m3, cw_m4, cw_m13, cw_2m, cw_3m, cw_12m, cw_24m, cw_36m, cw_a12, cw_a3, nI_add, nI_1, pk_sub, nI_clamp, vp_in_nI, qC, forall_eq, nI_leI, nI_ltI, nI_eq, true_implies, forall_const, not_true_eq_false, not_false_eq_true, false_implies, and_true, true_and, implies_true, and_self, reduceIte]
        exact ys_sideOf (by omega) (fun z => absurd z na) (fun _ z => absurd z nb) (fun _ _ => br_f (by decide) hg)
theorem cw_nat {x : Int32} {m : Nat} (hm : m < 2 ^ 31) (h0 : ¬ x < 0) (h1 : ¬ nI m < x) : ∃ w, w ≤ m ∧ x = nI w := by
  obtain ⟨w, hw, rfl⟩ := nI_of h0
  rw [nI_ltI hm hw] at h1
  exact ⟨w, by omega, rfl⟩
theorem i_vc_party {k : Nat} {u : SX} {v : SY} (I : i_Rel k u v) (hk : k + 5 ≤ 2560) (v1 : Int32) (v2 : Int32) : wpX_party (fun r => wpY_party (fun r' => r' = r ∧ i_Rel (k + 5) u v) v v1 v2) u v1 v2 := by
  have J := i_up I
  obtain ⟨H, C, sp, on, ba, ra, gu, si, xf, xa, xe, hH, hB, hD, bl, yn, co, se, st, la, pu, ps, sc, he, xb, xc, xi, tc, ts, ta, bc, bs, bm, pb, ou, yb, yl, yf, ya, ys, ye, zf, za, zs, ze, wy, pt, su, bb, bu, rfl, rfl, hS, hE, hF, hG, hO, hZ⟩ := I
  by_cases a0 : v1 < 0
  · simp only [wpX_party, wpX_isParty, wpY_party, wpY_isParty, a0, forall_eq, nI_leI, nI_ltI, nI_eq, true_implies, forall_const, not_true_eq_false, not_false_eq_true, false_implies, and_true, true_and, implies_true, and_self, reduceIte]
    exact J
  by_cases a6 : 6 ≤ v1
  · simp only [wpX_party, wpX_isParty, wpY_party, wpY_isParty, a0, a6, forall_eq, nI_leI, nI_ltI, nI_eq, true_implies, forall_const, not_true_eq_false, not_false_eq_true, false_implies, and_true, true_and, implies_true, and_self, reduceIte]
    exact J
  obtain ⟨p, hp, rfl⟩ := cw_pty a0 (Int32.not_le.mp a6)
  by_cases w0 : v2 < 0
  · simp only [wpX_party, wpX_isParty, wpY_party, wpY_isParty, a0, a6, w0, cw_n1, forall_eq, nI_leI, nI_ltI, nI_eq, true_implies, forall_const, not_true_eq_false, not_false_eq_true, false_implies, and_true, true_and, implies_true, and_self, reduceIte]
    exact J
  by_cases w6 : 6 < v2
  · simp only [wpX_party, wpX_isParty, wpY_party, wpY_isParty, a0, a6, w0, w6, cw_n1, forall_eq, nI_leI, nI_ltI, nI_eq, true_implies, forall_const, not_true_eq_false, not_false_eq_true, false_implies, and_true, true_and, implies_true, and_self, reduceIte]
    exact J
  obtain ⟨w, hw, rfl⟩ := cw_nat (m := 6) (by omega) w0 w6
  have hw' : w = 0 ∨ w = 1 ∨ w = 2 ∨ w = 3 ∨ w = 4 ∨ w = 5 ∨ w = 6 := by omega
  rcases hw' with rfl | rfl | rfl | rfl | rfl | rfl | rfl
  · skip
    simp (disch := omega) only [wpX_party, wpX_isParty, wpY_party, wpY_isParty, a0, a6, w0, w6, cw_n1, cw_eq0, cw_eq1, cw_eq2, cw_eq3, cw_eq4, cw_eq5, cw_eq6, nI_clamp, vp_in_nI, forall_eq, nI_leI, nI_ltI, nI_eq, true_implies, forall_const, not_true_eq_false, not_false_eq_true, false_implies, and_true, true_and, implies_true, and_self, reduceIte]
    exact J
  · skip
    have d0 : ¬ (1 = 0) := by omega
    by_cases o : on p = 0
    · simp (disch := omega) only [wpX_party, wpX_isParty, wpY_party, wpY_isParty, a0, a6, w0, w6, cw_n1, cw_eq0, cw_eq1, cw_eq2, cw_eq3, cw_eq4, cw_eq5, cw_eq6, nI_clamp, vp_in_nI, d0, o, forall_eq, nI_leI, nI_ltI, nI_eq, true_implies, forall_const, not_true_eq_false, not_false_eq_true, false_implies, and_true, true_and, implies_true, and_self, reduceIte]
      exact J
    · simp (disch := omega) only [wpX_party, wpX_isParty, wpY_party, wpY_isParty, a0, a6, w0, w6, cw_n1, cw_eq0, cw_eq1, cw_eq2, cw_eq3, cw_eq4, cw_eq5, cw_eq6, nI_clamp, vp_in_nI, d0, o, forall_eq, nI_leI, nI_ltI, nI_eq, true_implies, forall_const, not_true_eq_false, not_false_eq_true, false_implies, and_true, true_and, implies_true, and_self, reduceIte]
      exact J
  · skip
    have d0 : ¬ (2 = 0) := by omega
    have d1 : ¬ (2 = 1) := by omega
    simp (disch := omega) only [wpX_party, wpX_isParty, wpY_party, wpY_isParty, a0, a6, w0, w6, cw_n1, cw_eq0, cw_eq1, cw_eq2, cw_eq3, cw_eq4, cw_eq5, cw_eq6, nI_clamp, vp_in_nI, d0, d1, forall_eq, nI_leI, nI_ltI, nI_eq, true_implies, forall_const, not_true_eq_false, not_false_eq_true, false_implies, and_true, true_and, implies_true, and_self, reduceIte]
    exact J
  · skip
    have d0 : ¬ (3 = 0) := by omega
    have d1 : ¬ (3 = 1) := by omega
    have d2 : ¬ (3 = 2) := by omega
    simp (disch := omega) only [wpX_party, wpX_isParty, wpY_party, wpY_isParty, a0, a6, w0, w6, cw_n1, cw_eq0, cw_eq1, cw_eq2, cw_eq3, cw_eq4, cw_eq5, cw_eq6, nI_clamp, vp_in_nI, d0, d1, d2, forall_eq, nI_leI, nI_ltI, nI_eq, true_implies, forall_const, not_true_eq_false, not_false_eq_true, false_implies, and_true, true_and, implies_true, and_self, reduceIte]
    exact J
  · skip
    have d0 : ¬ (4 = 0) := by omega
    have d1 : ¬ (4 = 1) := by omega
    have d2 : ¬ (4 = 2) := by omega
    have d3 : ¬ (4 = 3) := by omega
    simp (disch := omega) only [wpX_party, wpX_isParty, wpY_party, wpY_isParty, a0, a6, w0, w6, cw_n1, cw_eq0, cw_eq1, cw_eq2, cw_eq3, cw_eq4, cw_eq5, cw_eq6, nI_clamp, vp_in_nI, d0, d1, d2, d3, forall_eq, nI_leI, nI_ltI, nI_eq, true_implies, forall_const, not_true_eq_false, not_false_eq_true, false_implies, and_true, true_and, implies_true, and_self, reduceIte]
    exact J
  · skip
    have d0 : ¬ (5 = 0) := by omega
    have d1 : ¬ (5 = 1) := by omega
    have d2 : ¬ (5 = 2) := by omega
    have d3 : ¬ (5 = 3) := by omega
    have d4 : ¬ (5 = 4) := by omega
    simp (disch := omega) only [wpX_party, wpX_isParty, wpY_party, wpY_isParty, a0, a6, w0, w6, cw_n1, cw_eq0, cw_eq1, cw_eq2, cw_eq3, cw_eq4, cw_eq5, cw_eq6, nI_clamp, vp_in_nI, d0, d1, d2, d3, d4, forall_eq, nI_leI, nI_ltI, nI_eq, true_implies, forall_const, not_true_eq_false, not_false_eq_true, false_implies, and_true, true_and, implies_true, and_self, reduceIte]
    exact J
  · skip
    have d0 : ¬ (6 = 0) := by omega
    have d1 : ¬ (6 = 1) := by omega
    have d2 : ¬ (6 = 2) := by omega
    have d3 : ¬ (6 = 3) := by omega
    have d4 : ¬ (6 = 4) := by omega
    have d5 : ¬ (6 = 5) := by omega
    simp (disch := omega) only [wpX_party, wpX_isParty, wpY_party, wpY_isParty, a0, a6, w0, w6, cw_n1, cw_eq0, cw_eq1, cw_eq2, cw_eq3, cw_eq4, cw_eq5, cw_eq6, nI_clamp, vp_in_nI, d0, d1, d2, d3, d4, d5, wpX_ownedInChannels, wpY_bound, forall_eq, nI_leI, nI_ltI, nI_eq, true_implies, forall_const, not_true_eq_false, not_false_eq_true, false_implies, and_true, true_and, implies_true, and_self, reduceIte]
    obtain ⟨r, hx, hy⟩ := ls_bound (H := H) (C := C) (p := p) (sp := sp) (bl := bl) (yn := yn) (co := co) (on := on) (ba := ba) (ra := ra) (gu := gu) (se := se) (pu := pu) (sc := sc) (he := he) (xc := xc) (xi := xi) (xf := xf) (xa := xa) (xe := xe) (tc := tc) (ts := ts) (ta := ta) (bc := bc) (bs := bs) (bm := bm) (ou := ou) (yl := yl) (yf := yf) (ya := ya) (ys := ys) (ye := ye) (zf := zf) (za := za) (zs := zs) (ze := ze) (wy := wy) (pt := pt) (su := su) (bb := bb) (bu := bu) hB hE hF C 0 0 (by omega)
    exact hx _ (hy _ ⟨rfl, J⟩)
end READ
