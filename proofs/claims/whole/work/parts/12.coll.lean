/-! part 12: outputs collected, in step -/
section COLL
variable {h sp ch bl yn : Int32} {co on ba ra gu se si st la pu ps sc he xb xc xi xf xa xe tc ts ta bc bs bm pb ou yb yl yf ya ys ye zf za zs ze wy pt su bb bu : Nat → Int32}
def xw_cO (post : SX → Prop) (x1 x2 x3 : Int32) (n : Nat) (x4 x5 : Int32) (u : SX) : Prop := match u with
  | (h, sp, ch, bl, co, on, ba, ra, gu, se, si, st, la, pu, ps, sc, he, xb, xc, xi, xf, xa, xe, tc, ts, ta, bc, bs, bm) => wX_collectOutputs_14 post x1 x2 x3 n x4 x5 h sp ch bl co on ba ra gu se si st la pu ps sc he xb xc xi xf xa xe tc ts ta bc bs bm
def yw_43 (post : SY → Prop) (x1 x2 x3 : Int32) (n : Nat) (x4 : Int32) (v : SY) : Prop := match v with
  | (h, sp, ch, yn, co, ba, ra, gu, se, on, si, st, la, pu, pb, sc, he, ou, yb, yl, yf, ya, ys, ye, zf, za, zs, ze, wy, pt, su, bb, bu) => wY_gather_43 post x1 x2 x3 n x4 h sp ch yn co ba ra gu se on si st la pu pb sc he ou yb yl yf ya ys ye zf za zs ze wy pt su bb bu
theorem xs_cOi {post : SX → Prop} {c n : Nat} {x1 x2 : Int32} (hc : c < 8) (hn : n ≤ 3) (en : xc (13 * c + 12) = nI n) (hp : post (h, sp, ch, bl, co, on, ba, ra, gu, se, si, st, la, pu, ps, sc, he, xb, xc, xi, xf, xa, xe, tc, ts, ta, bc, bs, bm)) :
    ∀ d j a, a + d = 3 → n ≤ j → j + d < 100 → wX_collectOutputs_14 post x1 x2 (nI (13 * c + 12)) (d + 1) (nI j) (nI a) h sp ch bl co on ba ra gu se si st la pu ps sc he xb xc xi xf xa xe tc ts ta bc bs bm := by
  intro d
  induction d with
  | zero =>
    intro j a ha _ _
    have e : a = 3 := by omega
    subst e
    rw [wX_collectOutputs_14]
    simp (disch := omega) only [cw_le3, Nat.le_refl, forall_eq, nI_leI, nI_ltI, nI_eq, true_implies, forall_const, not_true_eq_false, not_false_eq_true, false_implies, and_true, true_and, implies_true, and_self, reduceIte]
    exact hp
  | succ d ih =>
    intro j a ha hnj hj
    have q : ¬ 3 ≤ a := by omega
    rw [wX_collectOutputs_14]
    simp (disch := omega) only [cw_le3, q, cw_m2, cw_m3, cw_m4, cw_m13, cw_2m, cw_3m, cw_12m, cw_24m, cw_36m, cw_a12, cw_a3, nI_add, nI_1, pk_sub, nI_clamp, vp_in_nI, en, hnj, forall_eq, nI_leI, nI_ltI, nI_eq, true_implies, forall_const, not_true_eq_false, not_false_eq_true, false_implies, and_true, true_and, implies_true, and_self, reduceIte]
    exact ih (j + 1) (a + 1) (by omega) (by omega) (by omega)
theorem ls_cl {H C : Nat} (hB : cw_B C si) {c s q : Nat} (hc : c < C) (hs : s < 2) (hq : q < 2) : ∀ d j a (u : SX) (v : SY), a + d = 3 → j ≤ a → cw_T H C sp on ba ra gu si xf xa xe u v → cw_st u c = 1 → cw_ps u c = nI q → cw_ou u c ≤ j + d →
    ∃ u' v' j', cw_T H C sp on ba ra gu si xf xa xe u' v' ∧ cw_st u' c = 1 ∧ cw_ps u' c = nI q ∧ cw_ou u' c ≤ j' ∧ j' < 100 ∧ (∀ post : SX → Prop, post u' → xw_cO post (nI c) (nI s) (nI (13 * c + 12)) (d + 1) (nI j) (nI a) u) ∧
      (∀ post : SY → Prop, (∃ f, yw_43 post (si (2 * c + s)) (nI c) (nI s) f (nI j') v') → ∃ f, yw_43 post (si (2 * c + s)) (nI c) (nI s) f (nI j) v) := by
  obtain ⟨hC, hsi, hne⟩ := hB
  have hnec := hne c hc
  obtain ⟨a0, ha0, ea⟩ := hsi (2 * c + s) (by omega)
  obtain ⟨b0, hb0, eb⟩ := hsi (2 * c + 1 - s) (by omega)
  rw [ea]
  intro d
  induction d with
  | zero =>
    intro j a u v ha hj t h1 hps hou
    refine ⟨u, v, j, t, h1, hps, by omega, by omega, fun post hp => ?_, fun post hf => hf⟩
    obtain ⟨h, sp, ch, bl, co, on, ba, ra, gu, se, si, st, la, pu, ps, sc, he, xb, xc, xi, xf, xa, xe, tc, ts, ta, bc, bs, bm⟩ := u
    have e : a = 3 := by omega
    subst e
    unfold xw_cO
    dsimp only
    rw [wX_collectOutputs_14]
    simp (disch := omega) only [cw_le3, Nat.le_refl, forall_eq, nI_leI, nI_ltI, nI_eq, true_implies, forall_const, not_true_eq_false, not_false_eq_true, false_implies, and_true, true_and, implies_true, and_self, reduceIte]
    exact hp
  | succ d ih =>
    intro j a u v ha hj t h1 hps hou
    have t0 := t
    obtain ⟨bl, yn, co, se, st, la, pu, ps, sc, he, xb, xc, xi, tc, ts, ta, bc, bs, bm, pb, ou, yb, yl, yf, ya, ys, ye, zf, za, zs, ze, wy, pt, su, bb, bu, rfl, rfl, hS, hE, hF, hG, hO, hZ⟩ := t
    have h1' : st c = 1 := h1
    have hps' : ps c = nI q := hps
    obtain ⟨⟨n, hn, e1, e2, hrow⟩, hst⟩ := hO c (by omega)
    have hou' : n ≤ j + (d + 1) := by
      have : (xc (13 * c + 12)).toNatClampNeg ≤ j + (d + 1) := hou
      rwa [e1, nI_clamp (by omega)] at this
    by_cases qn : n ≤ j
    · refine ⟨_, _, j, t0, h1, hps, ?_, by omega, fun post hp => xs_cOi (by omega) hn e1 hp (d + 1) j a ha qn (by omega), fun post hf => hf⟩
      show (xc (13 * c + 12)).toNatClampNeg ≤ j
      rw [e1, nI_clamp (by omega)]
      exact qn
    have q3 : ¬ 3 ≤ a := by omega
    obtain ⟨L, hL, ez, hbit, efx, h01, eax, esx, eex⟩ := hrow j (by omega)
    obtain ⟨m, rfl⟩ : ∃ m, n = m + 1 := ⟨n - 1, by omega⟩
    have hpb : pb c = si (2 * c + q) := by
      obtain ⟨s', hs', es', hb'⟩ := (hE c (by omega)).2.2
      have : q = s' := (nI_eq (by omega) (by omega)).mp (hps'.symm.trans es')
      rw [this]
      exact hb' h1'
    have leave : (∀ P : Int32 → SX → Prop, P 0 (nI H, sp, nI C, bl, co, on, ba, ra, gu, se, si, st, la, pu, ps, sc, he, xb, xc, xi, xf, xa, xe, tc, ts, ta, bc, bs, bm) → wpX_collects P (nI H, sp, nI C, bl, co, on, ba, ra, gu, se, si, st, la, pu, ps, sc, he, xb, xc, xi, xf, xa, xe, tc, ts, ta, bc, bs, bm) (nI c) (nI s) (nI L)) →
        (∀ (post : SY → Prop) (f : Nat), wY_gather_43 post (nI a0) (nI c) (nI s) f (nI (j + 1)) (nI H) sp (nI C) yn co ba ra gu se on si st la pu pb sc he ou yb yl yf ya ys ye zf za zs ze wy pt su bb bu → wY_gather_43 post (nI a0) (nI c) (nI s) (f + 1) (nI j) (nI H) sp (nI C) yn co ba ra gu se on si st la pu pb sc he ou yb yl yf ya ys ye zf za zs ze wy pt su bb bu) →
        ∃ u' v' j', cw_T H C sp on ba ra gu si xf xa xe u' v' ∧ cw_st u' c = 1 ∧ cw_ps u' c = nI q ∧ cw_ou u' c ≤ j' ∧ j' < 100 ∧ (∀ post : SX → Prop, post u' → xw_cO post (nI c) (nI s) (nI (13 * c + 12)) (d + 1 + 1) (nI j) (nI a) (nI H, sp, nI C, bl, co, on, ba, ra, gu, se, si, st, la, pu, ps, sc, he, xb, xc, xi, xf, xa, xe, tc, ts, ta, bc, bs, bm)) ∧
          (∀ post : SY → Prop, (∃ f, yw_43 post (nI a0) (nI c) (nI s) f (nI j') v') → ∃ f, yw_43 post (nI a0) (nI c) (nI s) f (nI j) (nI H, sp, nI C, yn, co, ba, ra, gu, se, on, si, st, la, pu, pb, sc, he, ou, yb, yl, yf, ya, ys, ye, zf, za, zs, ze, wy, pt, su, bb, bu)) := by
      intro hx hy
      obtain ⟨u', v', j', k1, k2, k3, k4, k5, k6, k7⟩ := ih (j + 1) (a + 1) _ _ (by omega) (by omega) t0 h1 hps (by
        show (xc (13 * c + 12)).toNatClampNeg ≤ j + 1 + d
        rw [e1, nI_clamp (by omega)]
        omega)
      refine ⟨u', v', j', k1, k2, k3, k4, k5, fun post hp => ?_, fun post hf => ?_⟩
      · unfold xw_cO
        dsimp only
        rw [wX_collectOutputs_14]
        simp (disch := omega) only [cw_le3, q3, cw_m2, cw_m3, cw_m4, cw_m13, cw_2m, cw_3m, cw_12m, cw_24m, cw_36m, cw_a12, cw_a3, nI_add, nI_1, pk_sub, nI_clamp, vp_in_nI, e1, qn, ez, forall_eq, nI_leI, nI_ltI, nI_eq, true_implies, forall_const, not_true_eq_false, not_false_eq_true, false_implies, and_true, true_and, implies_true, and_self, reduceIte]
        exact hx _ (br_t rfl (k6 post hp))
      · obtain ⟨f, hf⟩ := k7 post hf
        exact ⟨f + 1, hy post f hf⟩
    have take : ∀ co' se' he' : Nat → Int32, (∀ P : Int32 → SX → Prop, P 1 (nI H, sp, nI C, bl, co', on, ba, ra, gu, se', si, st, la, pu, ps, sc, he', xb, xc, xi, xf, xa, xe, tc, ts, ta, bc, bs, bm) → wpX_collects P (nI H, sp, nI C, bl, co, on, ba, ra, gu, se, si, st, la, pu, ps, sc, he, xb, xc, xi, xf, xa, xe, tc, ts, ta, bc, bs, bm) (nI c) (nI s) (nI L)) →
        (∀ (post : SY → Prop) (f : Nat), wY_gather_224 post (wY_gather_43 post (nI a0) (nI c) (nI s) f) (nI a0) (nI c) (nI s) (nI j) (nI H) sp (nI C) yn (co') ba ra gu (se') on si st la pu pb sc (he') ou yb yl yf ya ys ye zf za zs ze wy pt su bb bu → wY_gather_43 post (nI a0) (nI c) (nI s) (f + 1) (nI j) (nI H) sp (nI C) yn co ba ra gu se on si st la pu pb sc he ou yb yl yf ya ys ye zf za zs ze wy pt su bb bu) →
        ∃ u' v' j', cw_T H C sp on ba ra gu si xf xa xe u' v' ∧ cw_st u' c = 1 ∧ cw_ps u' c = nI q ∧ cw_ou u' c ≤ j' ∧ j' < 100 ∧ (∀ post : SX → Prop, post u' → xw_cO post (nI c) (nI s) (nI (13 * c + 12)) (d + 1 + 1) (nI j) (nI a) (nI H, sp, nI C, bl, co, on, ba, ra, gu, se, si, st, la, pu, ps, sc, he, xb, xc, xi, xf, xa, xe, tc, ts, ta, bc, bs, bm)) ∧
          (∀ post : SY → Prop, (∃ f, yw_43 post (nI a0) (nI c) (nI s) f (nI j') v') → ∃ f, yw_43 post (nI a0) (nI c) (nI s) f (nI j) (nI H, sp, nI C, yn, co, ba, ra, gu, se, on, si, st, la, pu, pb, sc, he, ou, yb, yl, yf, ya, ys, ye, zf, za, zs, ze, wy, pt, su, bb, bu)) := by
      intro co' se' he' hx hy
      have t2 : cw_T H C sp on ba ra gu si xf xa xe (nI H, sp, nI C, bl, co', on, ba, ra, gu, se', si, st, la, pu, ps, sc, he', xb, upd xc (13 * c + 12) (nI m), cw_shf xi (3 * (13 * c + 12) + j) (3 * (13 * c + 12) + 2), xf, xa, xe, tc, ts, ta, bc, bs, bm) (nI H, sp, nI C, yn, co', ba, ra, gu, se', on, si, st, la, pu, pb, sc, he', upd ou c (nI m), yb, yl, yf, ya, ys, ye, cw_shf zf (3 * c + j) (3 * c + m), cw_shf za (3 * c + j) (3 * c + m), cw_shf zs (3 * c + j) (3 * c + m), cw_shf ze (3 * c + j) (3 * c + m), wy, pt, su, bb, bu) :=
        ⟨bl, yn, _, _, st, la, pu, ps, sc, _, xb, _, _, tc, ts, ta, bc, bs, bm, pb, _, yb, yl, yf, ya, ys, ye, _, _, _, _, wy, pt, su, bb, bu, rfl, rfl, hS, hE, hF, cw_G_drop (c := c) hG (by omega), cw_O_drop (c := c) hO (by omega) h1' (by omega) e1, hZ⟩
      obtain ⟨u', v', j', k1, k2, k3, k4, k5, k6, k7⟩ := ih j (a + 1) _ _ (by omega) (by omega) t2 h1 hps (by
        show (upd xc (13 * c + 12) (nI m) (13 * c + 12)).toNatClampNeg ≤ j + d
        rw [pk_us, nI_clamp (by omega)]
        omega)
      refine ⟨u', v', j', k1, k2, k3, k4, k5, fun post hp => ?_, fun post hf => ?_⟩
      · unfold xw_cO
        dsimp only
        rw [wX_collectOutputs_14]
        simp (disch := omega) only [cw_le3, q3, cw_m2, cw_m3, cw_m4, cw_m13, cw_2m, cw_3m, cw_12m, cw_24m, cw_36m, cw_a12, cw_a3, nI_add, nI_1, pk_sub, nI_clamp, vp_in_nI, e1, qn, ez, forall_eq, nI_leI, nI_ltI, nI_eq, true_implies, forall_const, not_true_eq_false, not_false_eq_true, false_implies, and_true, true_and, implies_true, and_self, reduceIte]
        refine hx _ (br_f cw_n1 (xs_rem (m := m) (by omega) (by omega) e1 ?_))
        exact k6 post hp
      · obtain ⟨f, hf⟩ := k7 post hf
        refine ⟨f + 1, hy post f ?_⟩
        unfold wY_gather_224
        exact ys_drop (by omega) (by omega) (by omega) e2 hf
    have qj : ¬ m + 1 ≤ j := qn
    by_cases mi : xf L = nI s
    · by_cases e : xe L ≤ nI H
      · have e' : ¬ nI H < xe L := Int32.not_lt.mpr e
        by_cases hqs : q = s
        · subst hqs
          refine take co se (upd he c (he c + xa L)) (fun P hP => ?_) (fun post f hf => ?_)
          · simp (disch := omega) only [wpX_collects, wX_collects_74, cw_m2, cw_m3, cw_m4, cw_m13, cw_2m, cw_3m, cw_12m, cw_24m, cw_36m, cw_a12, cw_a3, nI_add, nI_1, pk_sub, nI_clamp, vp_in_nI, mi, e, hps', forall_eq, nI_leI, nI_ltI, nI_eq, true_implies, forall_const, not_true_eq_false, not_false_eq_true, false_implies, and_true, true_and, implies_true, and_self, reduceIte]
            exact hP
          · rw [wY_gather_43]
            simp (disch := omega) only [wY_gather_78, wY_gather_132, wY_gather_179, cw_m2, cw_m3, cw_m4, cw_m13, cw_2m, cw_3m, cw_12m, cw_24m, cw_36m, cw_a12, cw_a3, nI_add, nI_1, pk_sub, nI_clamp, vp_in_nI, e2, qj, efx, mi, eex, e', hpb, ea, eax, cw_n1, forall_eq, nI_leI, nI_ltI, nI_eq, true_implies, forall_const, not_true_eq_false, not_false_eq_true, false_implies, and_true, true_and, implies_true, and_self, reduceIte]
            exact hf
        · have n1 : ¬ ps c = nI s := by rw [hps', nI_eq (by omega) (by omega)]; exact hqs
          have n2 : ¬ pb c = nI a0 := by
            rw [hpb, ← ea]
            have : (q = 0 ∧ s = 1) ∨ (q = 1 ∧ s = 0) := by omega
            rcases this with ⟨rfl, rfl⟩ | ⟨rfl, rfl⟩
            · exact hnec
            · exact fun z => hnec z.symm
          refine take (upd co a0 (co a0 + xa L)) se he (fun P hP => ?_) (fun post f hf => ?_)
          · simp (disch := omega) only [wpX_collects, wX_collects_74, cw_m2, cw_m3, cw_m4, cw_m13, cw_2m, cw_3m, cw_12m, cw_24m, cw_36m, cw_a12, cw_a3, nI_add, nI_1, pk_sub, nI_clamp, vp_in_nI, mi, e, n1, ea, forall_eq, nI_leI, nI_ltI, nI_eq, true_implies, forall_const, not_true_eq_false, not_false_eq_true, false_implies, and_true, true_and, implies_true, and_self, reduceIte]
            exact hP
          · rw [wY_gather_43]
            simp (disch := omega) only [wY_gather_78, wY_gather_132, wY_gather_179, cw_m2, cw_m3, cw_m4, cw_m13, cw_2m, cw_3m, cw_12m, cw_24m, cw_36m, cw_a12, cw_a3, nI_add, nI_1, pk_sub, nI_clamp, vp_in_nI, e2, qj, efx, mi, eex, e', n2, eax, cw_n1, forall_eq, nI_leI, nI_ltI, nI_eq, true_implies, forall_const, not_true_eq_false, not_false_eq_true, false_implies, and_true, true_and, implies_true, and_self, reduceIte]
            exact hf
      · have e' : nI H < xe L := Int32.not_le.mp e
        refine leave (fun P hP => ?_) (fun post f hf => ?_)
        · simp (disch := omega) only [wpX_collects, cw_m2, cw_m3, cw_m4, cw_m13, cw_2m, cw_3m, cw_12m, cw_24m, cw_36m, cw_a12, cw_a3, nI_add, nI_1, pk_sub, nI_clamp, vp_in_nI, mi, e, forall_eq, nI_leI, nI_ltI, nI_eq, true_implies, forall_const, not_true_eq_false, not_false_eq_true, false_implies, and_true, true_and, implies_true, and_self, reduceIte]
          exact hP
        · rw [wY_gather_43]
          simp (disch := omega) only [wY_gather_78, wY_gather_132, cw_m2, cw_m3, cw_m4, cw_m13, cw_2m, cw_3m, cw_12m, cw_24m, cw_36m, cw_a12, cw_a3, nI_add, nI_1, pk_sub, nI_clamp, vp_in_nI, e2, qj, efx, mi, eex, e', cw_n1, forall_eq, nI_leI, nI_ltI, nI_eq, true_implies, forall_const, not_true_eq_false, not_false_eq_true, false_implies, and_true, true_and, implies_true, and_self, reduceIte]
          exact hf
    · by_cases b : bt (se a0) (L / 4) = true
      · by_cases hqs : q = s
        · subst hqs
          refine take co (upd se b0 (se b0 ||| ((1 : Int32) <<< (nI (L / 4) &&& 31)))) (upd he c (he c + xa L)) (fun P hP => ?_) (fun post f hf => ?_)
          · simp (disch := omega) only [wpX_collects, wX_collects_74, wpX_knowsSecretOf, cw_m2, cw_m3, cw_m4, cw_m13, cw_2m, cw_3m, cw_12m, cw_24m, cw_36m, cw_a12, cw_a3, nI_add, nI_1, pk_sub, nI_clamp, vp_in_nI, mi, ea, eb, cw_n4, cw_d4, cw_bit0, b, Bool.true_eq_false, cw_n1, hps', forall_eq, nI_leI, nI_ltI, nI_eq, true_implies, forall_const, not_true_eq_false, not_false_eq_true, false_implies, and_true, true_and, implies_true, and_self, reduceIte]
            exact hP
          · rw [wY_gather_43]
            simp (disch := omega) only [wY_gather_78, wY_gather_132, wY_gather_179, cw_m2, cw_m3, cw_m4, cw_m13, cw_2m, cw_3m, cw_12m, cw_24m, cw_36m, cw_a12, cw_a3, nI_add, nI_1, pk_sub, nI_clamp, vp_in_nI, e2, qj, efx, mi, esx, cw_bit1, b, hpb, ea, eb, eax, cw_n1, forall_eq, nI_leI, nI_ltI, nI_eq, true_implies, forall_const, not_true_eq_false, not_false_eq_true, false_implies, and_true, true_and, implies_true, and_self, reduceIte]
            exact hf
        · have n1 : ¬ ps c = nI s := by rw [hps', nI_eq (by omega) (by omega)]; exact hqs
          have n2 : ¬ pb c = nI a0 := by
            rw [hpb, ← ea]
            have : (q = 0 ∧ s = 1) ∨ (q = 1 ∧ s = 0) := by omega
            rcases this with ⟨rfl, rfl⟩ | ⟨rfl, rfl⟩
            · exact hnec
            · exact fun z => hnec z.symm
          refine take (upd co a0 (co a0 + xa L)) (upd se b0 (se b0 ||| ((1 : Int32) <<< (nI (L / 4) &&& 31)))) he (fun P hP => ?_) (fun post f hf => ?_)
          · simp (disch := omega) only [wpX_collects, wX_collects_74, wpX_knowsSecretOf, cw_m2, cw_m3, cw_m4, cw_m13, cw_2m, cw_3m, cw_12m, cw_24m, cw_36m, cw_a12, cw_a3, nI_add, nI_1, pk_sub, nI_clamp, vp_in_nI, mi, ea, eb, cw_n4, cw_d4, cw_bit0, b, Bool.true_eq_false, cw_n1, n1, forall_eq, nI_leI, nI_ltI, nI_eq, true_implies, forall_const, not_true_eq_false, not_false_eq_true, false_implies, and_true, true_and, implies_true, and_self, reduceIte]
            exact hP
          · rw [wY_gather_43]
            simp (disch := omega) only [wY_gather_78, wY_gather_132, wY_gather_179, cw_m2, cw_m3, cw_m4, cw_m13, cw_2m, cw_3m, cw_12m, cw_24m, cw_36m, cw_a12, cw_a3, nI_add, nI_1, pk_sub, nI_clamp, vp_in_nI, e2, qj, efx, mi, esx, cw_bit1, b, n2, eb, eax, cw_n1, forall_eq, nI_leI, nI_ltI, nI_eq, true_implies, forall_const, not_true_eq_false, not_false_eq_true, false_implies, and_true, true_and, implies_true, and_self, reduceIte]
            exact hf
      · have b' : bt (se a0) (L / 4) = false := by
          cases z : bt (se a0) (L / 4)
          · rfl
          · exact absurd z b
        refine leave (fun P hP => ?_) (fun post f hf => ?_)
        · simp (disch := omega) only [wpX_collects, wpX_knowsSecretOf, cw_m2, cw_m3, cw_m4, cw_m13, cw_2m, cw_3m, cw_12m, cw_24m, cw_36m, cw_a12, cw_a3, nI_add, nI_1, pk_sub, nI_clamp, vp_in_nI, mi, ea, cw_n4, cw_d4, cw_bit0, b', forall_eq, nI_leI, nI_ltI, nI_eq, true_implies, forall_const, not_true_eq_false, not_false_eq_true, false_implies, and_true, true_and, implies_true, and_self, reduceIte]
          exact hP
        · rw [wY_gather_43]
          simp (disch := omega) only [wY_gather_78, wY_gather_132, cw_m2, cw_m3, cw_m4, cw_m13, cw_2m, cw_3m, cw_12m, cw_24m, cw_36m, cw_a12, cw_a3, nI_add, nI_1, pk_sub, nI_clamp, vp_in_nI, e2, qj, efx, mi, esx, cw_bit1, b', Bool.false_eq_true, cw_n1, forall_eq, nI_leI, nI_ltI, nI_eq, true_implies, forall_const, not_true_eq_false, not_false_eq_true, false_implies, and_true, true_and, implies_true, and_self, reduceIte]
          exact hf
end COLL
