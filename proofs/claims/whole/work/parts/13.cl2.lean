/-! part 13: a closed channel; the guards; in step -/
section CL2
variable {h sp ch bl yn : Int32} {co on ba ra gu se si st la pu ps sc he xb xc xi xf xa xe tc ts ta bc bs bm pb ou yb yl yf ya ys ye zf za zs ze wy pt su bb bu : Nat → Int32}
theorem ls_closed {H C : Nat} {u : SX} {v : SY} (hH : H < 100000) (hB : cw_B C si) (t : cw_T H C sp on ba ra gu si xf xa xe u v) {c s : Nat} (hc : c < C) (hs : s < 2) :
    ∃ u' v', cw_T H C sp on ba ra gu si xf xa xe u' v' ∧ (∀ post : SX → Prop, post u' → wpX_tendClosed post u (nI c) (nI s)) ∧
      (∀ (post : SY → Prop) (J : Int32 → SY → Prop), J (nI (c + 1)) v' → ∃ f, yw_37 post J (si (2 * c + s)) (nI c) f 0 v) := by
  have hB0 := hB
  obtain ⟨hC, hsi, hne⟩ := hB
  have hnec := hne c hc
  obtain ⟨a0, ha0, ea⟩ := hsi (2 * c + s) (by omega)
  have t0 := t
  obtain ⟨bl, yn, co, se, st, la, pu, ps, sc, he, xb, xc, xi, tc, ts, ta, bc, bs, bm, pb, ou, yb, yl, yf, ya, ys, ye, zf, za, zs, ze, wy, pt, su, bb, bu, rfl, rfl, hS, hE, hF, hG, hO, hZ⟩ := t
  by_cases h1 : st c = 1
  · obtain ⟨q, hq, hps, hpb⟩ := (hE c (by omega)).2.2
    have hpb := hpb h1
    by_cases hqs : q = s
    · -- the publisher itself
      subst hqs
      obtain ⟨⟨n, hn, e1, e2, _⟩, _⟩ := hO c (by omega)
      obtain ⟨u1, v1, j', k1, k2, k3, k4, k5, k6, k7⟩ := ls_cl hB0 hc hs hq 3 0 0 _ _ rfl (Nat.le_refl _) t0 h1 hps (by
        show (xc (13 * c + 12)).toNatClampNeg ≤ 0 + 3
        rw [e1, nI_clamp (by omega)]
        omega)
      rw [ea] at k7 hpb
      have Y1 : ∀ (post : SY → Prop) (J : Int32 → SY → Prop), (∃ f, yw_43 (fun v => J (nI (c + 1)) v) (nI a0) (nI c) (nI q) f 0 (nI H, sp, nI C, yn, co, ba, ra, gu, se, on, si, st, la, pu, pb, sc, he, ou, yb, yl, yf, ya, ys, ye, zf, za, zs, ze, wy, pt, su, bb, bu)) → ∃ f, yw_37 post J (nI a0) (nI c) f 0 (nI H, sp, nI C, yn, co, ba, ra, gu, se, on, si, st, la, pu, pb, sc, he, ou, yb, yl, yf, ya, ys, ye, zf, za, zs, ze, wy, pt, su, bb, bu) := by
        intro post J hf
        refine ⟨1, ?_⟩
        unfold yw_37
        dsimp only
        rw [wY_turn_37]
        simp (disch := omega) only [wpY_gather, wY_gather_33, cw_m2, cw_m3, cw_m4, cw_m13, cw_2m, cw_3m, cw_12m, cw_24m, cw_36m, cw_a12, cw_a3, nI_add, nI_1, pk_sub, nI_clamp, vp_in_nI, h1, hpb, forall_eq, nI_leI, nI_ltI, nI_eq, true_implies, forall_const, not_true_eq_false, not_false_eq_true, false_implies, and_true, true_and, implies_true, and_self, reduceIte]
        refine ys_side (by omega) hs ea hnec ?_
        exact hf
      rw [ea]
      have k1' := k1
      obtain ⟨bl, yn, co, se, st, la, pu, ps, sc, he, xb, xc, xi, tc, ts, ta, bc, bs, bm, pb, ou, yb, yl, yf, ya, ys, ye, zf, za, zs, ze, wy, pt, su, bb, bu, rfl, rfl, hS, hE, hF, hG, hO, hZ⟩ := k1
      have h1' : st c = 1 := k2
      have hps' : ps c = nI q := k3
      have hpb' : pb c = nI a0 := by
        obtain ⟨s', hs', es', hb'⟩ := (hE c (by omega)).2.2
        have : q = s' := (nI_eq (by omega) (by omega)).mp (hps'.symm.trans es')
        rw [hb' h1', ← this]
        exact ea
      obtain ⟨⟨n', hn', e1', e2', _⟩, _⟩ := hO c (by omega)
      have k4' : n' ≤ j' := by
        have : (xc (13 * c + 12)).toNatClampNeg ≤ j' := k4
        rwa [e1', nI_clamp (by omega)] at this
      obtain ⟨S, hSH, eS⟩ := hS c (by omega)
      by_cases hr : H - S < 3
      · have hr' : ¬ S + 3 ≤ H := by omega
        refine ⟨_, _, k1', fun post hp => ?_, fun post J hJ => Y1 post J (k7 _ ⟨1, ?_⟩)⟩
        · unfold wpX_tendClosed
          dsimp only
          refine ⟨pk_in c 8 (by omega), ?_⟩
          rw [nI_clamp (by omega)]
          refine br_t h1 ?_
          simp (disch := omega) only [wpX_isCheated, wpX_collectOutputs, nI_clamp, vp_in_nI, h1, hps, cw_m13, cw_a12, nI_add, forall_eq, true_implies, not_true_eq_false, not_false_eq_true, false_implies, and_true, true_and]
          refine ⟨_, k6 _ ?_⟩
          simp (disch := omega) only [cw_tl3, cw_m2, cw_m3, cw_m4, cw_m13, cw_2m, cw_3m, cw_12m, cw_24m, cw_36m, cw_a12, cw_a3, nI_add, nI_1, pk_sub, nI_clamp, vp_in_nI, hps', eS, hr, forall_eq, nI_leI, nI_ltI, nI_eq, true_implies, forall_const, not_true_eq_false, not_false_eq_true, false_implies, and_true, true_and, implies_true, and_self, reduceIte]
          exact hp
        · unfold yw_43
          dsimp only
          rw [wY_gather_43]
          simp (disch := omega) only [cw_m2, cw_m3, cw_m4, cw_m13, cw_2m, cw_3m, cw_12m, cw_24m, cw_36m, cw_a12, cw_a3, nI_add, nI_1, pk_sub, nI_clamp, vp_in_nI, e2', k4', hpb', eS, hr', forall_eq, nI_leI, nI_ltI, nI_eq, true_implies, forall_const, not_true_eq_false, not_false_eq_true, false_implies, and_true, true_and, implies_true, and_self, reduceIte]
          exact hJ
      · have hr' : S + 3 ≤ H := by omega
        refine ⟨_, _, ⟨bl, yn, upd co a0 (co a0 + he c), se, st, la, pu, ps, sc, upd he c 0, xb, xc, xi, tc, ts, ta, bc, bs, bm, pb, ou, yb, yl, yf, ya, ys, ye, zf, za, zs, ze, wy, pt, su, bb, bu, rfl, rfl, hS, hE, hF, hG, hO, hZ⟩, fun post hp => ?_, fun post J hJ => Y1 post J (k7 _ ⟨1, ?_⟩)⟩
        · unfold wpX_tendClosed
          dsimp only
          refine ⟨pk_in c 8 (by omega), ?_⟩
          rw [nI_clamp (by omega)]
          refine br_t h1 ?_
          simp (disch := omega) only [wpX_isCheated, wpX_collectOutputs, nI_clamp, vp_in_nI, h1, hps, cw_m13, cw_a12, nI_add, forall_eq, true_implies, not_true_eq_false, not_false_eq_true, false_implies, and_true, true_and]
          refine ⟨_, k6 _ ?_⟩
          simp (disch := omega) only [cw_tl3, cw_m2, cw_m3, cw_m4, cw_m13, cw_2m, cw_3m, cw_12m, cw_24m, cw_36m, cw_a12, cw_a3, nI_add, nI_1, pk_sub, nI_clamp, vp_in_nI, hps', eS, hr, ea, forall_eq, nI_leI, nI_ltI, nI_eq, true_implies, forall_const, not_true_eq_false, not_false_eq_true, false_implies, and_true, true_and, implies_true, and_self, reduceIte]
          exact hp
        · unfold yw_43
          dsimp only
          rw [wY_gather_43]
          simp (disch := omega) only [cw_m2, cw_m3, cw_m4, cw_m13, cw_2m, cw_3m, cw_12m, cw_24m, cw_36m, cw_a12, cw_a3, nI_add, nI_1, pk_sub, nI_clamp, vp_in_nI, e2', k4', hpb', eS, hr', forall_eq, nI_leI, nI_ltI, nI_eq, true_implies, forall_const, not_true_eq_false, not_false_eq_true, false_implies, and_true, true_and, implies_true, and_self, reduceIte]
          exact hJ
    · have n1 : ¬ ps c = nI s := by rw [hps, nI_eq (by omega) (by omega)]; exact hqs
      have n2 : ¬ pb c = nI a0 := by
        rw [hpb, ← ea]
        have : (q = 0 ∧ s = 1) ∨ (q = 1 ∧ s = 0) := by omega
        rcases this with ⟨rfl, rfl⟩ | ⟨rfl, rfl⟩
        · exact hnec
        · exact fun z => hnec z.symm
      by_cases hpl : pu c = la c
      · obtain ⟨⟨n, hn, e1, e2, _⟩, _⟩ := hO c (by omega)
        obtain ⟨u1, v1, j', k1, k2, k3, k4, k5, k6, k7⟩ := ls_cl hB0 hc hs hq 3 0 0 _ _ rfl (Nat.le_refl _) t0 h1 hps (by
          show (xc (13 * c + 12)).toNatClampNeg ≤ 0 + 3
          rw [e1, nI_clamp (by omega)]
          omega)
        rw [ea] at k7
        have Y1 : ∀ (post : SY → Prop) (J : Int32 → SY → Prop), (∃ f, yw_43 (fun v => J (nI (c + 1)) v) (nI a0) (nI c) (nI s) f 0 (nI H, sp, nI C, yn, co, ba, ra, gu, se, on, si, st, la, pu, pb, sc, he, ou, yb, yl, yf, ya, ys, ye, zf, za, zs, ze, wy, pt, su, bb, bu)) → ∃ f, yw_37 post J (nI a0) (nI c) f 0 (nI H, sp, nI C, yn, co, ba, ra, gu, se, on, si, st, la, pu, pb, sc, he, ou, yb, yl, yf, ya, ys, ye, zf, za, zs, ze, wy, pt, su, bb, bu) := by
          intro post J hf
          refine ⟨1, ?_⟩
          unfold yw_37
          dsimp only
          rw [wY_turn_37]
          simp (disch := omega) only [wpY_gather, wY_gather_33, cw_m2, cw_m3, cw_m4, cw_m13, cw_2m, cw_3m, cw_12m, cw_24m, cw_36m, cw_a12, cw_a3, nI_add, nI_1, pk_sub, nI_clamp, vp_in_nI, h1, n2, hpl, forall_eq, nI_leI, nI_ltI, nI_eq, true_implies, forall_const, not_true_eq_false, not_false_eq_true, false_implies, and_true, true_and, implies_true, and_self, reduceIte]
          refine ys_side (by omega) hs ea hnec ?_
          exact hf
        rw [ea]
        refine ⟨u1, v1, k1, fun post hp => ?_, fun post J hJ => Y1 post J (k7 _ ⟨1, ?_⟩)⟩
        · unfold wpX_tendClosed
          dsimp only
          refine ⟨pk_in c 8 (by omega), ?_⟩
          rw [nI_clamp (by omega)]
          refine br_t h1 ?_
          have n1' : ¬ nI q = nI s := by rw [← hps]; exact n1
          simp (disch := omega) only [wpX_isCheated, wpX_collectOutputs, nI_clamp, vp_in_nI, h1, n1, hpl, cw_m13, cw_a12, forall_eq, true_implies, not_true_eq_false, not_false_eq_true, false_implies, and_true, true_and]
          refine ⟨_, k6 _ ?_⟩
          obtain ⟨bl, yn, co, se, st, la, pu, ps, sc, he, xb, xc, xi, tc, ts, ta, bc, bs, bm, pb, ou, yb, yl, yf, ya, ys, ye, zf, za, zs, ze, wy, pt, su, bb, bu, rfl, rfl, hS, hE, hF, hG, hO, hZ⟩ := k1
          have hps' : ps c = nI q := k3
          have hqs' : ¬ q = s := hqs
          simp (disch := omega) only [cw_m2, cw_m3, cw_m4, cw_m13, cw_2m, cw_3m, cw_12m, cw_24m, cw_36m, cw_a12, cw_a3, nI_add, nI_1, pk_sub, nI_clamp, vp_in_nI, hps', hqs', forall_eq, nI_leI, nI_ltI, nI_eq, true_implies, forall_const, not_true_eq_false, not_false_eq_true, false_implies, and_true, true_and, implies_true, and_self, reduceIte]
          exact hp
        · obtain ⟨bl, yn, co, se, st, la, pu, ps, sc, he, xb, xc, xi, tc, ts, ta, bc, bs, bm, pb, ou, yb, yl, yf, ya, ys, ye, zf, za, zs, ze, wy, pt, su, bb, bu, rfl, rfl, hS, hE, hF, hG, hO, hZ⟩ := k1
          have h1' : st c = 1 := k2
          have hps' : ps c = nI q := k3
          have n2' : ¬ pb c = nI a0 := by
            obtain ⟨s', hs', es', hb'⟩ := (hE c (by omega)).2.2
            have : q = s' := (nI_eq (by omega) (by omega)).mp (hps'.symm.trans es')
            rw [hb' h1', ← this, ← hpb]
            exact n2
          obtain ⟨⟨n', hn', e1', e2', _⟩, _⟩ := hO c (by omega)
          have k4' : n' ≤ j' := by
            have : (xc (13 * c + 12)).toNatClampNeg ≤ j' := k4
            rwa [e1', nI_clamp (by omega)] at this
          unfold yw_43
          dsimp only
          rw [wY_gather_43]
          simp (disch := omega) only [cw_m2, cw_m3, cw_m4, cw_m13, cw_2m, cw_3m, cw_12m, cw_24m, cw_36m, cw_a12, cw_a3, nI_add, nI_1, pk_sub, nI_clamp, vp_in_nI, e2', k4', n2', forall_eq, nI_leI, nI_ltI, nI_eq, true_implies, forall_const, not_true_eq_false, not_false_eq_true, false_implies, and_true, true_and, implies_true, and_self, reduceIte]
          exact hJ
      · obtain ⟨u1, v1, r, k1, hx, hy⟩ := ls_punish hB0 t0 hc hq hps
        have e3 : si (2 * c + 1 - q) = nI a0 := by rw [show 2 * c + 1 - q = 2 * c + s by omega]; exact ea
        rw [e3] at hy
        rw [ea]
        refine ⟨u1, v1, k1, fun post hp => ?_, fun post J hJ => ⟨1, ?_⟩⟩
        · simp (disch := omega) only [wpX_tendClosed, wpX_isCheated, nI_clamp, vp_in_nI, h1, n1, hpl, cw_n1, true_implies, not_true_eq_false, not_false_eq_true, false_implies, and_true, true_and]
          refine hx _ ?_
          obtain ⟨h, sp, ch, bl, co, on, ba, ra, gu, se, si, st, la, pu, ps, sc, he, xb, xc, xi, xf, xa, xe, tc, ts, ta, bc, bs, bm⟩ := u1
          exact hp
        · unfold yw_37
          dsimp only
          rw [wY_turn_37]
          simp (disch := omega) only [wpY_gather, cw_m2, cw_m3, cw_m4, cw_m13, cw_2m, cw_3m, cw_12m, cw_24m, cw_36m, cw_a12, cw_a3, nI_add, nI_1, pk_sub, nI_clamp, vp_in_nI, h1, n2, hpl, forall_eq, nI_leI, nI_ltI, nI_eq, true_implies, forall_const, not_true_eq_false, not_false_eq_true, false_implies, and_true, true_and, implies_true, and_self, reduceIte]
          refine hy _ ?_
          obtain ⟨h, sp, ch, yn, co, ba, ra, gu, se, on, si, st, la, pu, pb, sc, he, ou, yb, yl, yf, ya, ys, ye, zf, za, zs, ze, wy, pt, su, bb, bu⟩ := v1
          exact hJ
  · refine ⟨_, _, t0, fun post hp => ?_, fun post J hJ => ⟨1, ?_⟩⟩
    · simp (disch := omega) only [wpX_tendClosed, cw_m2, cw_m3, cw_m4, cw_m13, cw_2m, cw_3m, cw_12m, cw_24m, cw_36m, cw_a12, cw_a3, nI_add, nI_1, pk_sub, nI_clamp, vp_in_nI, h1, forall_eq, nI_leI, nI_ltI, nI_eq, true_implies, forall_const, not_true_eq_false, not_false_eq_true, false_implies, and_true, true_and, implies_true, and_self, reduceIte]
      exact hp
    · unfold yw_37
      dsimp only
      rw [wY_turn_37]
      simp (disch := omega) only [cw_m2, cw_m3, cw_m4, cw_m13, cw_2m, cw_3m, cw_12m, cw_24m, cw_36m, cw_a12, cw_a3, nI_add, nI_1, pk_sub, nI_clamp, vp_in_nI, h1, forall_eq, nI_leI, nI_ltI, nI_eq, true_implies, forall_const, not_true_eq_false, not_false_eq_true, false_implies, and_true, true_and, implies_true, and_self, reduceIte]
      exact hJ
end CL2
