/-! part 15: a turn, a block, in step -/
section BLK2
variable {h sp ch bl yn : Int32} {co on ba ra gu se si st la pu ps sc he xb xc xi xf xa xe tc ts ta bc bs bm pb ou yb yl yf ya ys ye zf za zs ze wy pt su bb bu : Nat → Int32}
theorem ls_40 {H C : Nat} (hB : cw_B C si) {g : Nat} (hg : g < 6) : ∀ d w (u : SX) (v : SY), w + d = 6 → cw_T H C sp on ba ra gu si xf xa xe u v →
    ∃ u' v', cw_T H C sp on ba ra gu si xf xa xe u' v' ∧ (∀ post : SX → Prop, post u' → xw_40 post (nI g) (d + 1) (nI w) u) ∧ (∀ post : SY → Prop, post v' → yw_86 post (nI g) (d + 1) (nI w) v) := by
  intro d
  induction d with
  | zero =>
    intro w u v hw t
    have t0 := t
    obtain ⟨bl, yn, co, se, st, la, pu, ps, sc, he, xb, xc, xi, tc, ts, ta, bc, bs, bm, pb, ou, yb, yl, yf, ya, ys, ye, zf, za, zs, ze, wy, pt, su, bb, bu, rfl, rfl, hS, hE, hF, hG, hO, hZ⟩ := t
    have e : w = 6 := by omega
    subst e
    refine ⟨_, _, t0, fun post hp => ?_, fun post hp => ?_⟩
    · unfold xw_40
      dsimp only
      rw [wX_takeTurn_40]
      simp (disch := omega) only [cw_le6, Nat.le_refl, forall_eq, nI_leI, nI_ltI, nI_eq, true_implies, forall_const, not_true_eq_false, not_false_eq_true, false_implies, and_true, true_and, implies_true, and_self, reduceIte]
      exact hp
    · unfold yw_86
      dsimp only
      rw [wY_turn_86]
      simp (disch := omega) only [cw_le6, Nat.le_refl, forall_eq, nI_leI, nI_ltI, nI_eq, true_implies, forall_const, not_true_eq_false, not_false_eq_true, false_implies, and_true, true_and, implies_true, and_self, reduceIte]
      exact hp
  | succ d ih =>
    intro w u v hw t
    have q : ¬ 6 ≤ w := by omega
    by_cases hon : on w = 0
    · by_cases hgu : gu w = nI g
      · obtain ⟨u1, v1, t1, hx, hy⟩ := ls_gP hB (show w < 6 by omega) hg C 0 u v (by omega) t
        obtain ⟨u2, v2, t2, hx2, hy2⟩ := ih (w + 1) u1 v1 (by omega) t1
        refine ⟨u2, v2, t2, fun post hp => ?_, fun post hp => ?_⟩
        · have k := hx _ (hx2 post hp)
          obtain ⟨bl, yn, co, se, st, la, pu, ps, sc, he, xb, xc, xi, tc, ts, ta, bc, bs, bm, pb, ou, yb, yl, yf, ya, ys, ye, zf, za, zs, ze, wy, pt, su, bb, bu, rfl, rfl, hS, hE, hF, hG, hO, hZ⟩ := t
          unfold xw_40
          dsimp only
          rw [wX_takeTurn_40]
          simp (disch := omega) only [cw_le6, q, cw_m2, cw_m3, cw_m4, cw_m13, cw_2m, cw_3m, cw_12m, cw_24m, cw_36m, cw_a12, cw_a3, nI_add, nI_1, pk_sub, nI_clamp, vp_in_nI, hon, hgu, forall_eq, nI_leI, nI_ltI, nI_eq, true_implies, forall_const, not_true_eq_false, not_false_eq_true, false_implies, and_true, true_and, implies_true, and_self, reduceIte]
          unfold wpX_guardParty
          dsimp only
          obtain ⟨f, hf⟩ := k
          refine ⟨f, ?_⟩
          exact hf
        · have k := hy post (fun x v => yw_86 post (nI g) (d + 1) x v) (hy2 post hp)
          obtain ⟨bl, yn, co, se, st, la, pu, ps, sc, he, xb, xc, xi, tc, ts, ta, bc, bs, bm, pb, ou, yb, yl, yf, ya, ys, ye, zf, za, zs, ze, wy, pt, su, bb, bu, rfl, rfl, hS, hE, hF, hG, hO, hZ⟩ := t
          unfold yw_86
          dsimp only
          rw [wY_turn_86]
          simp (disch := omega) only [cw_le6, q, cw_m2, cw_m3, cw_m4, cw_m13, cw_2m, cw_3m, cw_12m, cw_24m, cw_36m, cw_a12, cw_a3, nI_add, nI_1, pk_sub, nI_clamp, vp_in_nI, hon, hgu, forall_eq, nI_leI, nI_ltI, nI_eq, true_implies, forall_const, not_true_eq_false, not_false_eq_true, false_implies, and_true, true_and, implies_true, and_self, reduceIte]
          obtain ⟨f, hf⟩ := k
          exact ⟨f, hf⟩
      · obtain ⟨u2, v2, t2, hx2, hy2⟩ := ih (w + 1) u v (by omega) t
        refine ⟨u2, v2, t2, fun post hp => ?_, fun post hp => ?_⟩
        · have k := hx2 post hp
          obtain ⟨bl, yn, co, se, st, la, pu, ps, sc, he, xb, xc, xi, tc, ts, ta, bc, bs, bm, pb, ou, yb, yl, yf, ya, ys, ye, zf, za, zs, ze, wy, pt, su, bb, bu, rfl, rfl, hS, hE, hF, hG, hO, hZ⟩ := t
          unfold xw_40
          dsimp only
          rw [wX_takeTurn_40]
          simp (disch := omega) only [cw_le6, q, cw_m2, cw_m3, cw_m4, cw_m13, cw_2m, cw_3m, cw_12m, cw_24m, cw_36m, cw_a12, cw_a3, nI_add, nI_1, pk_sub, nI_clamp, vp_in_nI, hon, hgu, forall_eq, nI_leI, nI_ltI, nI_eq, true_implies, forall_const, not_true_eq_false, not_false_eq_true, false_implies, and_true, true_and, implies_true, and_self, reduceIte]
          exact k
        · have k := hy2 post hp
          obtain ⟨bl, yn, co, se, st, la, pu, ps, sc, he, xb, xc, xi, tc, ts, ta, bc, bs, bm, pb, ou, yb, yl, yf, ya, ys, ye, zf, za, zs, ze, wy, pt, su, bb, bu, rfl, rfl, hS, hE, hF, hG, hO, hZ⟩ := t
          unfold yw_86
          dsimp only
          rw [wY_turn_86]
          simp (disch := omega) only [cw_le6, q, cw_m2, cw_m3, cw_m4, cw_m13, cw_2m, cw_3m, cw_12m, cw_24m, cw_36m, cw_a12, cw_a3, nI_add, nI_1, pk_sub, nI_clamp, vp_in_nI, hon, hgu, forall_eq, nI_leI, nI_ltI, nI_eq, true_implies, forall_const, not_true_eq_false, not_false_eq_true, false_implies, and_true, true_and, implies_true, and_self, reduceIte]
          exact k
    · obtain ⟨u2, v2, t2, hx2, hy2⟩ := ih (w + 1) u v (by omega) t
      refine ⟨u2, v2, t2, fun post hp => ?_, fun post hp => ?_⟩
      · have k := hx2 post hp
        obtain ⟨bl, yn, co, se, st, la, pu, ps, sc, he, xb, xc, xi, tc, ts, ta, bc, bs, bm, pb, ou, yb, yl, yf, ya, ys, ye, zf, za, zs, ze, wy, pt, su, bb, bu, rfl, rfl, hS, hE, hF, hG, hO, hZ⟩ := t
        unfold xw_40
        dsimp only
        rw [wX_takeTurn_40]
        simp (disch := omega) only [cw_le6, q, cw_m2, cw_m3, cw_m4, cw_m13, cw_2m, cw_3m, cw_12m, cw_24m, cw_36m, cw_a12, cw_a3, nI_add, nI_1, pk_sub, nI_clamp, vp_in_nI, hon, forall_eq, nI_leI, nI_ltI, nI_eq, true_implies, forall_const, not_true_eq_false, not_false_eq_true, false_implies, and_true, true_and, implies_true, and_self, reduceIte]
        exact k
      · have k := hy2 post hp
        obtain ⟨bl, yn, co, se, st, la, pu, ps, sc, he, xb, xc, xi, tc, ts, ta, bc, bs, bm, pb, ou, yb, yl, yf, ya, ys, ye, zf, za, zs, ze, wy, pt, su, bb, bu, rfl, rfl, hS, hE, hF, hG, hO, hZ⟩ := t
        unfold yw_86
        dsimp only
        rw [wY_turn_86]
        simp (disch := omega) only [cw_le6, q, cw_m2, cw_m3, cw_m4, cw_m13, cw_2m, cw_3m, cw_12m, cw_24m, cw_36m, cw_a12, cw_a3, nI_add, nI_1, pk_sub, nI_clamp, vp_in_nI, hon, forall_eq, nI_leI, nI_ltI, nI_eq, true_implies, forall_const, not_true_eq_false, not_false_eq_true, false_implies, and_true, true_and, implies_true, and_self, reduceIte]
        exact k
theorem xs_2i {post : SX → Prop} {C p : Nat} (hC : C ≤ 8) (hp : ∃ f, wX_takeTurn_40 post (nI p) f 0 h sp (nI C) bl co on ba ra gu se si st la pu ps sc he xb xc xi xf xa xe tc ts ta bc bs bm) : ∀ d c, c + d = 8 → C ≤ c → wX_takeTurn_2 post (nI p) (d + 1) (nI c) h sp (nI C) bl co on ba ra gu se si st la pu ps sc he xb xc xi xf xa xe tc ts ta bc bs bm := by
  intro d
  induction d with
  | zero =>
    intro c hc _
    have e : c = 8 := by omega
    subst e
    rw [wX_takeTurn_2]
    simp (disch := omega) only [cw_le8, Nat.le_refl, forall_eq, nI_leI, nI_ltI, nI_eq, true_implies, forall_const, not_true_eq_false, not_false_eq_true, false_implies, and_true, true_and, implies_true, and_self, reduceIte]
    exact hp
  | succ d ih =>
    intro c hc hCc
    have q : ¬ 8 ≤ c := by omega
    rw [wX_takeTurn_2]
    simp (disch := omega) only [cw_le8, q, cw_m2, cw_m3, cw_m4, cw_m13, cw_2m, cw_3m, cw_12m, cw_24m, cw_36m, cw_a12, cw_a3, nI_add, nI_1, pk_sub, nI_clamp, vp_in_nI, forall_eq, nI_leI, nI_ltI, nI_eq, true_implies, forall_const, not_true_eq_false, not_false_eq_true, false_implies, and_true, true_and, implies_true, and_self, reduceIte]
    exact xs_noside (by omega) hC (fun z => by omega) (br_t rfl (ih (c + 1) (by omega) (by omega)))
theorem ls_2 {H C : Nat} (hH : H < 100000) (hB : cw_B C si) {p : Nat} (hp6 : p < 6) : ∀ d c (u : SX) (v : SY), c + d = C → cw_T H C sp on ba ra gu si xf xa xe u v →
    ∃ u' v', cw_T H C sp on ba ra gu si xf xa xe u' v' ∧ (∀ post : SX → Prop, post u' → ∃ f, xw_2 post (nI p) f (nI c) u) ∧ (∀ post : SY → Prop, post v' → ∃ f, yw_2 post (nI p) f (nI c) v) := by
  have hC := hB.1
  intro d
  induction d with
  | zero =>
    intro c u v hc t
    have e : c = C := by omega
    subst e
    obtain ⟨u2, v2, t2, hx2, hy2⟩ := ls_40 hB hp6 6 0 u v rfl t
    refine ⟨u2, v2, t2, fun post hp => ⟨8 - c + 1, ?_⟩, fun post hp => ⟨1, ?_⟩⟩
    · have k := hx2 post hp
      obtain ⟨bl, yn, co, se, st, la, pu, ps, sc, he, xb, xc, xi, tc, ts, ta, bc, bs, bm, pb, ou, yb, yl, yf, ya, ys, ye, zf, za, zs, ze, wy, pt, su, bb, bu, rfl, rfl, hS, hE, hF, hG, hO, hZ⟩ := t
      exact xs_2i (p := p) hC ⟨_, k⟩ (8 - c) c (by omega) (Nat.le_refl _)
    · have k := hy2 post hp
      obtain ⟨bl, yn, co, se, st, la, pu, ps, sc, he, xb, xc, xi, tc, ts, ta, bc, bs, bm, pb, ou, yb, yl, yf, ya, ys, ye, zf, za, zs, ze, wy, pt, su, bb, bu, rfl, rfl, hS, hE, hF, hG, hO, hZ⟩ := t
      unfold yw_2
      dsimp only
      rw [wY_turn_2]
      simp (disch := omega) only [cw_m2, cw_m3, cw_m4, cw_m13, cw_2m, cw_3m, cw_12m, cw_24m, cw_36m, cw_a12, cw_a3, nI_add, nI_1, pk_sub, nI_clamp, vp_in_nI, Nat.le_refl, forall_eq, nI_leI, nI_ltI, nI_eq, true_implies, forall_const, not_true_eq_false, not_false_eq_true, false_implies, and_true, true_and, implies_true, and_self, reduceIte]
      exact ⟨_, k⟩
  | succ d ih =>
    intro c u v hc t
    have hcC : c < C := by omega
    have hnec := hB.2.2 c hcC
    have q8 : ¬ 8 ≤ c := by omega
    have qC : ¬ C ≤ c := by omega
    by_cases hex : ∃ s, s < 2 ∧ si (2 * c + s) = nI p
    · obtain ⟨s, hs, es⟩ := hex
      obtain ⟨u1, v1, t1, hx1, hy1⟩ := ls_open hB t hcC hs
      obtain ⟨u2, v2, t2, hx2, hy2⟩ := ls_closed hH hB t1 hcC hs
      obtain ⟨u3, v3, t3, hx3, hy3⟩ := ih (c + 1) u2 v2 (by omega) t2
      rw [es] at hy1 hy2
      refine ⟨u3, v3, t3, fun post hp => ?_, fun post hp => ?_⟩
      · obtain ⟨f, hf⟩ := hx3 post hp
        refine ⟨f + 1, ?_⟩
        obtain ⟨bl, yn, co, se, st, la, pu, ps, sc, he, xb, xc, xi, tc, ts, ta, bc, bs, bm, pb, ou, yb, yl, yf, ya, ys, ye, zf, za, zs, ze, wy, pt, su, bb, bu, rfl, rfl, hS, hE, hF, hG, hO, hZ⟩ := t
        unfold xw_2
        dsimp only
        rw [wX_takeTurn_2]
        simp (disch := omega) only [cw_le8, q8, cw_m2, cw_m3, cw_m4, cw_m13, cw_2m, cw_3m, cw_12m, cw_24m, cw_36m, cw_a12, cw_a3, nI_add, nI_1, pk_sub, nI_clamp, vp_in_nI, forall_eq, nI_leI, nI_ltI, nI_eq, true_implies, forall_const, not_true_eq_false, not_false_eq_true, false_implies, and_true, true_and, implies_true, and_self, reduceIte]
        refine xs_side hcC hC hs es hnec (br_f (cw_nsm hs) (hx1 _ ?_))
        obtain ⟨h, sp, ch, bl, co, on, ba, ra, gu, se, si, st, la, pu, ps, sc, he, xb, xc, xi, xf, xa, xe, tc, ts, ta, bc, bs, bm⟩ := u1
        refine hx2 _ ?_
        obtain ⟨h, sp, ch, bl, co, on, ba, ra, gu, se, si, st, la, pu, ps, sc, he, xb, xc, xi, xf, xa, xe, tc, ts, ta, bc, bs, bm⟩ := u2
        exact hf
      · obtain ⟨f, hf⟩ := hy3 post hp
        have k := hy1 post (fun x v => yw_2 post (nI p) f x v) (hy2 post (fun x v => yw_2 post (nI p) f x v) hf)
        refine ⟨f + 1, ?_⟩
        obtain ⟨bl, yn, co, se, st, la, pu, ps, sc, he, xb, xc, xi, tc, ts, ta, bc, bs, bm, pb, ou, yb, yl, yf, ya, ys, ye, zf, za, zs, ze, wy, pt, su, bb, bu, rfl, rfl, hS, hE, hF, hG, hO, hZ⟩ := t
        unfold yw_2
        dsimp only
        rw [wY_turn_2]
        simp (disch := omega) only [cw_m2, cw_m3, cw_m4, cw_m13, cw_2m, cw_3m, cw_12m, cw_24m, cw_36m, cw_a12, cw_a3, nI_add, nI_1, pk_sub, nI_clamp, vp_in_nI, qC, forall_eq, nI_leI, nI_ltI, nI_eq, true_implies, forall_const, not_true_eq_false, not_false_eq_true, false_implies, and_true, true_and, implies_true, and_self, reduceIte]
        refine ys_side (by omega) hs es hnec (br_t (cw_nsg hs) ?_)
        exact br_c (fun z => k.1 z) (fun z => k.2 z)
    · have na : ¬ si (2 * c) = nI p := fun z => hex ⟨0, by omega, z⟩
      have nb : ¬ si (2 * c + 1) = nI p := fun z => hex ⟨1, by omega, z⟩
      obtain ⟨u3, v3, t3, hx3, hy3⟩ := ih (c + 1) u v (by omega) t
      refine ⟨u3, v3, t3, fun post hp => ?_, fun post hp => ?_⟩
      · obtain ⟨f, hf⟩ := hx3 post hp
        refine ⟨f + 1, ?_⟩
        obtain ⟨bl, yn, co, se, st, la, pu, ps, sc, he, xb, xc, xi, tc, ts, ta, bc, bs, bm, pb, ou, yb, yl, yf, ya, ys, ye, zf, za, zs, ze, wy, pt, su, bb, bu, rfl, rfl, hS, hE, hF, hG, hO, hZ⟩ := t
        unfold xw_2
        dsimp only
        rw [wX_takeTurn_2]
        simp (disch := omega) only [cw_le8, q8, cw_m2, cw_m3, cw_m4, cw_m13, cw_2m, cw_3m, cw_12m, cw_24m, cw_36m, cw_a12, cw_a3, nI_add, nI_1, pk_sub, nI_clamp, vp_in_nI, forall_eq, nI_leI, nI_ltI, nI_eq, true_implies, forall_const, not_true_eq_false, not_false_eq_true, false_implies, and_true, true_and, implies_true, and_self, reduceIte]
        exact xs_noside (by omega) hC (fun _ => ⟨na, nb⟩) (br_t rfl hf)
      · obtain ⟨f, hf⟩ := hy3 post hp
        refine ⟨f + 1, ?_⟩
        obtain ⟨bl, yn, co, se, st, la, pu, ps, sc, he, xb, xc, xi, tc, ts, ta, bc, bs, bm, pb, ou, yb, yl, yf, ya, ys, ye, zf, za, zs, ze, wy, pt, su, bb, bu, rfl, rfl, hS, hE, hF, hG, hO, hZ⟩ := t
        unfold yw_2
        dsimp only
        rw [wY_turn_2]
        simp (disch := omega) only [cw_m2, cw_m3, cw_m4, cw_m13, cw_2m, cw_3m, cw_12m, cw_24m, cw_36m, cw_a12, cw_a3, nI_add, nI_1, pk_sub, nI_clamp, vp_in_nI, qC, forall_eq, nI_leI, nI_ltI, nI_eq, true_implies, forall_const, not_true_eq_false, not_false_eq_true, false_implies, and_true, true_and, implies_true, and_self, reduceIte]
        exact ys_sideOf (by omega) (fun z => absurd z na) (fun _ z => absurd z nb) (fun _ _ => br_f (by decide) hf)
theorem ls_turn {H C : Nat} {u : SX} {v : SY} (hH : H < 100000) (hB : cw_B C si) {p : Nat} (hp6 : p < 6) (t : cw_T H C sp on ba ra gu si xf xa xe u v) :
    ∃ u' v', cw_T H C sp on ba ra gu si xf xa xe u' v' ∧ (∀ post : SX → Prop, post u' → wpX_takeTurn post u (nI p)) ∧ (∀ post : SY → Prop, post v' → wpY_turn post v (nI p)) := by
  obtain ⟨u1, v1, t1, hx, hy⟩ := ls_2 hH hB hp6 C 0 u v (by omega) t
  refine ⟨u1, v1, t1, fun post hp => ?_, fun post hp => ?_⟩
  · obtain ⟨f, hf⟩ := hx post hp
    obtain ⟨bl, yn, co, se, st, la, pu, ps, sc, he, xb, xc, xi, tc, ts, ta, bc, bs, bm, pb, ou, yb, yl, yf, ya, ys, ye, zf, za, zs, ze, wy, pt, su, bb, bu, rfl, rfl, hS, hE, hF, hG, hO, hZ⟩ := t
    exact ⟨f, hf⟩
  · obtain ⟨f, hf⟩ := hy post hp
    obtain ⟨bl, yn, co, se, st, la, pu, ps, sc, he, xb, xc, xi, tc, ts, ta, bc, bs, bm, pb, ou, yb, yl, yf, ya, ys, ye, zf, za, zs, ze, wy, pt, su, bb, bu, rfl, rfl, hS, hE, hF, hG, hO, hZ⟩ := t
    exact ⟨f, hf⟩
theorem ls_33 {H C i : Nat} {x1 : Int32} (hH : H < 100000) (hB : cw_B C si) : ∀ d p (u : SX) (v : SY), p + d = 6 → cw_T H C sp on ba ra gu si xf xa xe u v →
    ∃ u' v', cw_T H C sp on ba ra gu si xf xa xe u' v' ∧ (∀ (post : Int32 → SX → Prop) (J : Int32 → SX → Prop), J (nI (i + 1)) u' → xw_33 post J x1 (nI i) (d + 1) (nI p) u) ∧
      (∀ (post : Int32 → SY → Prop) (J : Int32 → SY → Prop), J (nI (i + 1)) v' → yw_33 post J x1 (nI i) (d + 1) (nI p) v) := by
  intro d
  induction d with
  | zero =>
    intro p u v hp t
    have t0 := t
    obtain ⟨bl, yn, co, se, st, la, pu, ps, sc, he, xb, xc, xi, tc, ts, ta, bc, bs, bm, pb, ou, yb, yl, yf, ya, ys, ye, zf, za, zs, ze, wy, pt, su, bb, bu, rfl, rfl, hS, hE, hF, hG, hO, hZ⟩ := t
    have e : p = 6 := by omega
    subst e
    refine ⟨_, _, t0, fun post J hJ => ?_, fun post J hJ => ?_⟩
    · unfold xw_33
      dsimp only
      rw [wX_block_33]
      simp (disch := omega) only [cw_le6, cw_m2, cw_m3, cw_m4, cw_m13, cw_2m, cw_3m, cw_12m, cw_24m, cw_36m, cw_a12, cw_a3, nI_add, nI_1, pk_sub, nI_clamp, vp_in_nI, Nat.le_refl, forall_eq, nI_leI, nI_ltI, nI_eq, true_implies, forall_const, not_true_eq_false, not_false_eq_true, false_implies, and_true, true_and, implies_true, and_self, reduceIte]
      exact hJ
    · unfold yw_33
      dsimp only
      rw [wY_block_33]
      simp (disch := omega) only [cw_le6, cw_m2, cw_m3, cw_m4, cw_m13, cw_2m, cw_3m, cw_12m, cw_24m, cw_36m, cw_a12, cw_a3, nI_add, nI_1, pk_sub, nI_clamp, vp_in_nI, Nat.le_refl, forall_eq, nI_leI, nI_ltI, nI_eq, true_implies, forall_const, not_true_eq_false, not_false_eq_true, false_implies, and_true, true_and, implies_true, and_self, reduceIte]
      exact hJ
  | succ d ih =>
    intro p u v hp t
    have q : ¬ 6 ≤ p := by omega
    by_cases hon : on p = 0
    · obtain ⟨u2, v2, t2, hx2, hy2⟩ := ih (p + 1) u v (by omega) t
      refine ⟨u2, v2, t2, fun post J hJ => ?_, fun post J hJ => ?_⟩
      · have k := hx2 post J hJ
        obtain ⟨bl, yn, co, se, st, la, pu, ps, sc, he, xb, xc, xi, tc, ts, ta, bc, bs, bm, pb, ou, yb, yl, yf, ya, ys, ye, zf, za, zs, ze, wy, pt, su, bb, bu, rfl, rfl, hS, hE, hF, hG, hO, hZ⟩ := t
        unfold xw_33
        dsimp only
        rw [wX_block_33]
        simp (disch := omega) only [cw_le6, q, cw_m2, cw_m3, cw_m4, cw_m13, cw_2m, cw_3m, cw_12m, cw_24m, cw_36m, cw_a12, cw_a3, nI_add, nI_1, pk_sub, nI_clamp, vp_in_nI, hon, forall_eq, nI_leI, nI_ltI, nI_eq, true_implies, forall_const, not_true_eq_false, not_false_eq_true, false_implies, and_true, true_and, implies_true, and_self, reduceIte]
        exact k
      · have k := hy2 post J hJ
        obtain ⟨bl, yn, co, se, st, la, pu, ps, sc, he, xb, xc, xi, tc, ts, ta, bc, bs, bm, pb, ou, yb, yl, yf, ya, ys, ye, zf, za, zs, ze, wy, pt, su, bb, bu, rfl, rfl, hS, hE, hF, hG, hO, hZ⟩ := t
        unfold yw_33
        dsimp only
        rw [wY_block_33]
        simp (disch := omega) only [cw_le6, q, cw_m2, cw_m3, cw_m4, cw_m13, cw_2m, cw_3m, cw_12m, cw_24m, cw_36m, cw_a12, cw_a3, nI_add, nI_1, pk_sub, nI_clamp, vp_in_nI, hon, forall_eq, nI_leI, nI_ltI, nI_eq, true_implies, forall_const, not_true_eq_false, not_false_eq_true, false_implies, and_true, true_and, implies_true, and_self, reduceIte]
        exact k
    · obtain ⟨u1, v1, t1, hx1, hy1⟩ := ls_turn hH hB (show p < 6 by omega) t
      obtain ⟨u2, v2, t2, hx2, hy2⟩ := ih (p + 1) u1 v1 (by omega) t1
      refine ⟨u2, v2, t2, fun post J hJ => ?_, fun post J hJ => ?_⟩
      · have k := hx2 post J hJ
        obtain ⟨bl, yn, co, se, st, la, pu, ps, sc, he, xb, xc, xi, tc, ts, ta, bc, bs, bm, pb, ou, yb, yl, yf, ya, ys, ye, zf, za, zs, ze, wy, pt, su, bb, bu, rfl, rfl, hS, hE, hF, hG, hO, hZ⟩ := t
        unfold xw_33
        dsimp only
        rw [wX_block_33]
        simp (disch := omega) only [cw_le6, q, cw_m2, cw_m3, cw_m4, cw_m13, cw_2m, cw_3m, cw_12m, cw_24m, cw_36m, cw_a12, cw_a3, nI_add, nI_1, pk_sub, nI_clamp, vp_in_nI, hon, forall_eq, nI_leI, nI_ltI, nI_eq, true_implies, forall_const, not_true_eq_false, not_false_eq_true, false_implies, and_true, true_and, implies_true, and_self, reduceIte]
        refine hx1 _ ?_
        obtain ⟨h, sp, ch, bl, co, on, ba, ra, gu, se, si, st, la, pu, ps, sc, he, xb, xc, xi, xf, xa, xe, tc, ts, ta, bc, bs, bm⟩ := u1
        exact k
      · have k := hy2 post J hJ
        obtain ⟨bl, yn, co, se, st, la, pu, ps, sc, he, xb, xc, xi, tc, ts, ta, bc, bs, bm, pb, ou, yb, yl, yf, ya, ys, ye, zf, za, zs, ze, wy, pt, su, bb, bu, rfl, rfl, hS, hE, hF, hG, hO, hZ⟩ := t
        unfold yw_33
        dsimp only
        rw [wY_block_33]
        simp (disch := omega) only [cw_le6, q, cw_m2, cw_m3, cw_m4, cw_m13, cw_2m, cw_3m, cw_12m, cw_24m, cw_36m, cw_a12, cw_a3, nI_add, nI_1, pk_sub, nI_clamp, vp_in_nI, hon, forall_eq, nI_leI, nI_ltI, nI_eq, true_implies, forall_const, not_true_eq_false, not_false_eq_true, false_implies, and_true, true_and, implies_true, and_self, reduceIte]
        refine hy1 _ ?_
        obtain ⟨h, sp, ch, yn, co, ba, ra, gu, se, on, si, st, la, pu, pb, sc, he, ou, yb, yl, yf, ya, ys, ye, zf, za, zs, ze, wy, pt, su, bb, bu⟩ := v1
        exact k
theorem ls_16 {C N : Nat} (hN : N ≤ 20) (hB : cw_B C si) : ∀ d i H (u : SX) (v : SY), i + d = N → H + d < 100000 → cw_T H C sp on ba ra gu si xf xa xe u v →
    ∃ u' v', cw_T (H + d) C sp on ba ra gu si xf xa xe u' v' ∧ (∀ post : Int32 → SX → Prop, post (nI (H + d)) u' → xw_16 post (nI N) (d + 1) (nI i) u) ∧ (∀ post : Int32 → SY → Prop, post (nI (H + d)) v' → yw_16 post (nI N) (d + 1) (nI i) v) := by
  intro d
  induction d with
  | zero =>
    intro i H u v hi hH t
    have t0 := t
    obtain ⟨bl, yn, co, se, st, la, pu, ps, sc, he, xb, xc, xi, tc, ts, ta, bc, bs, bm, pb, ou, yb, yl, yf, ya, ys, ye, zf, za, zs, ze, wy, pt, su, bb, bu, rfl, rfl, hS, hE, hF, hG, hO, hZ⟩ := t
    have e : i = N := by omega
    subst e
    refine ⟨_, _, t0, fun post hp => ?_, fun post hp => ?_⟩
    · unfold xw_16
      dsimp only
      rw [wX_block_16]
      simp (disch := omega) only [Nat.le_refl, forall_eq, nI_leI, nI_ltI, nI_eq, true_implies, forall_const, not_true_eq_false, not_false_eq_true, false_implies, and_true, true_and, implies_true, and_self, reduceIte]
      exact hp
    · unfold yw_16
      dsimp only
      rw [wY_block_16]
      simp (disch := omega) only [Nat.le_refl, forall_eq, nI_leI, nI_ltI, nI_eq, true_implies, forall_const, not_true_eq_false, not_false_eq_true, false_implies, and_true, true_and, implies_true, and_self, reduceIte]
      exact hp
  | succ d ih =>
    intro i H u v hi hH t
    obtain ⟨bl, yn, co, se, st, la, pu, ps, sc, he, xb, xc, xi, tc, ts, ta, bc, bs, bm, pb, ou, yb, yl, yf, ya, ys, ye, zf, za, zs, ze, wy, pt, su, bb, bu, rfl, rfl, hS, hE, hF, hG, hO, hZ⟩ := t
    have q : ¬ N ≤ i := by omega
    have hS' : cw_S (H + 1) sc := fun c hc => by
      obtain ⟨S, h1, h2⟩ := hS c hc
      exact ⟨S, by omega, h2⟩
    have t1 : cw_T (H + 1) C sp on ba ra gu si xf xa xe (nI (H + 1), sp, nI C, bl, co, on, ba, ra, gu, se, si, st, la, pu, ps, sc, he, xb, xc, xi, xf, xa, xe, tc, ts, ta, bc, bs, bm) (nI (H + 1), sp, nI C, yn, co, ba, ra, gu, se, on, si, st, la, pu, pb, sc, he, ou, yb, yl, yf, ya, ys, ye, zf, za, zs, ze, wy, pt, su, bb, bu) := ⟨bl, yn, co, se, st, la, pu, ps, sc, he, xb, xc, xi, tc, ts, ta, bc, bs, bm, pb, ou, yb, yl, yf, ya, ys, ye, zf, za, zs, ze, wy, pt, su, bb, bu, rfl, rfl, hS', hE, hF, hG, hO, hZ⟩
    obtain ⟨u1, v1, t1, hx1, hy1⟩ := ls_33 (i := i) (x1 := nI N) (show H + 1 < 100000 by omega) hB 6 0 _ _ rfl t1
    obtain ⟨u2, v2, t2, hx2, hy2⟩ := ih (i + 1) (H + 1) u1 v1 (by omega) (by omega) t1
    rw [show H + 1 + d = H + (d + 1) by omega] at t2 hx2 hy2
    refine ⟨u2, v2, t2, fun post hp => ?_, fun post hp => ?_⟩
    · have k := hx1 post (fun x u => xw_16 post (nI N) (d + 1) x u) (hx2 post hp)
      unfold xw_16
      dsimp only
      rw [wX_block_16]
      simp (disch := omega) only [cw_m2, cw_m3, cw_m4, cw_m13, cw_2m, cw_3m, cw_12m, cw_24m, cw_36m, cw_a12, cw_a3, nI_add, nI_1, pk_sub, nI_clamp, vp_in_nI, q, forall_eq, nI_leI, nI_ltI, nI_eq, true_implies, forall_const, not_true_eq_false, not_false_eq_true, false_implies, and_true, true_and, implies_true, and_self, reduceIte]
      exact ⟨_, k⟩
    · have k := hy1 post (fun x u => yw_16 post (nI N) (d + 1) x u) (hy2 post hp)
      unfold yw_16
      dsimp only
      rw [wY_block_16]
      simp (disch := omega) only [cw_m2, cw_m3, cw_m4, cw_m13, cw_2m, cw_3m, cw_12m, cw_24m, cw_36m, cw_a12, cw_a3, nI_add, nI_1, pk_sub, nI_clamp, vp_in_nI, q, forall_eq, nI_leI, nI_ltI, nI_eq, true_implies, forall_const, not_true_eq_false, not_false_eq_true, false_implies, and_true, true_and, implies_true, and_self, reduceIte]
      exact ⟨_, k⟩
theorem i_vc_block {k : Nat} {u : SX} {v : SY} (I : i_Rel k u v) (hk : k + 5 ≤ 2560) (v1 : Int32) : wpX_block (fun r u' => wpY_block (fun r' v' => r' = r ∧ i_Rel (k + 5) u' v') v v1) u v1 := by
  have J := i_up I
  obtain ⟨H, C, sp, on, ba, ra, gu, si, xf, xa, xe, hH, hB, hD, t⟩ := I
  by_cases h1 : v1 < 1
  · obtain ⟨bl, yn, co, se, st, la, pu, ps, sc, he, xb, xc, xi, tc, ts, ta, bc, bs, bm, pb, ou, yb, yl, yf, ya, ys, ye, zf, za, zs, ze, wy, pt, su, bb, bu, rfl, rfl, hS, hE, hF, hG, hO, hZ⟩ := t
    simp only [wpX_block, wpY_block, h1, forall_eq, nI_leI, nI_ltI, nI_eq, true_implies, forall_const, not_true_eq_false, not_false_eq_true, false_implies, and_true, true_and, implies_true, and_self, reduceIte]
    exact J
  by_cases h20 : v1 ≤ 20
  · have h0 : ¬ v1 < 0 := fun z => h1 (Int32.lt_of_lt_of_le z (by decide))
    obtain ⟨N, hN, rfl⟩ := nI_of h0
    have hN20 : N ≤ 20 := (nI_leI hN (b := 20) (by omega)).mp h20
    obtain ⟨u1, v1, t1, hx, hy⟩ := ls_16 hN20 hB N 0 H u v (by omega) (by omega) t
    have R : i_Rel (k + 5) u1 v1 := ⟨H + N, C, sp, on, ba, ra, gu, si, xf, xa, xe, by omega, hB, hD, t1⟩
    obtain ⟨bl, yn, co, se, st, la, pu, ps, sc, he, xb, xc, xi, tc, ts, ta, bc, bs, bm, pb, ou, yb, yl, yf, ya, ys, ye, zf, za, zs, ze, wy, pt, su, bb, bu, rfl, rfl, hS, hE, hF, hG, hO, hZ⟩ := t
    simp only [wpX_block, h1, h20, forall_eq, nI_leI, nI_ltI, nI_eq, true_implies, forall_const, not_true_eq_false, not_false_eq_true, false_implies, and_true, true_and, implies_true, and_self, reduceIte]
    refine ⟨_, hx _ ?_⟩
    simp only [wpY_block, h1, h20, forall_eq, nI_leI, nI_ltI, nI_eq, true_implies, forall_const, not_true_eq_false, not_false_eq_true, false_implies, and_true, true_and, implies_true, and_self, reduceIte]
    exact ⟨_, hy _ ⟨rfl, R⟩⟩
  · obtain ⟨bl, yn, co, se, st, la, pu, ps, sc, he, xb, xc, xi, tc, ts, ta, bc, bs, bm, pb, ou, yb, yl, yf, ya, ys, ye, zf, za, zs, ze, wy, pt, su, bb, bu, rfl, rfl, hS, hE, hF, hG, hO, hZ⟩ := t
    simp only [wpX_block, wpY_block, h1, h20, forall_eq, nI_leI, nI_ltI, nI_eq, true_implies, forall_const, not_true_eq_false, not_false_eq_true, false_implies, and_true, true_and, implies_true, and_self, reduceIte]
    exact J
end BLK2
