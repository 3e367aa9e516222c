/-! part 10: tending a channel in use, in step -/
section TEND
variable {h sp ch bl yn : Int32} {co on ba ra gu se si st la pu ps sc he xb xc xi xf xa xe tc ts ta bc bs bm pb ou yb yl yf ya ys ye zf za zs ze wy pt su bb bu : Nat → Int32}
def xw_tO (post : SX → Prop) (x1 x2 : Int32) (n : Nat) (x3 : Int32) (u : SX) : Prop := match u with
  | (h, sp, ch, bl, co, on, ba, ra, gu, se, si, st, la, pu, ps, sc, he, xb, xc, xi, xf, xa, xe, tc, ts, ta, bc, bs, bm) => wX_tendOpen_2 post x1 x2 n x3 h sp ch bl co on ba ra gu se si st la pu ps sc he xb xc xi xf xa xe tc ts ta bc bs bm
def yw_37 (post : SY → Prop) (J : Int32 → SY → Prop) (x1 x2 : Int32) (n : Nat) (x3 : Int32) (v : SY) : Prop := match v with
  | (h, sp, ch, yn, co, ba, ra, gu, se, on, si, st, la, pu, pb, sc, he, ou, yb, yl, yf, ya, ys, ye, zf, za, zs, ze, wy, pt, su, bb, bu) => wY_turn_37 post (fun x h sp ch yn co ba ra gu se on si st la pu pb sc he ou yb yl yf ya ys ye zf za zs ze wy pt su bb bu => J x (h, sp, ch, yn, co, ba, ra, gu, se, on, si, st, la, pu, pb, sc, he, ou, yb, yl, yf, ya, ys, ye, zf, za, zs, ze, wy, pt, su, bb, bu)) x1 x2 n x3 h sp ch yn co ba ra gu se on si st la pu pb sc he ou yb yl yf ya ys ye zf za zs ze wy pt su bb bu
theorem xs_tOi {u : SX} {c s : Nat} {post : SX → Prop} (hc : c < 8) (h0 : cw_st u c = 0) (hx : ∀ post : SX → Prop, post u → wpX_actOnFirstDue post u (nI c) (nI s)) (hp : post u) :
    ∀ d a, a + d = 3 → xw_tO post (nI c) (nI s) (d + 1) (nI a) u := by
  obtain ⟨h, sp, ch, bl, co, on, ba, ra, gu, se, si, st, la, pu, ps, sc, he, xb, xc, xi, xf, xa, xe, tc, ts, ta, bc, bs, bm⟩ := u
  have h0' : st c = 0 := h0
  intro d
  induction d with
  | zero =>
    intro a ha
    have e : a = 3 := by omega
    subst e
    unfold xw_tO
    dsimp only
    rw [wX_tendOpen_2]
    simp (disch := omega) only [cw_le3, Nat.le_refl, forall_eq, nI_leI, nI_ltI, nI_eq, true_implies, forall_const, not_true_eq_false, not_false_eq_true, false_implies, and_true, true_and, implies_true, and_self, reduceIte]
    exact hp
  | succ d ih =>
    intro a ha
    have q : ¬ 3 ≤ a := by omega
    unfold xw_tO
    dsimp only
    rw [wX_tendOpen_2]
    simp (disch := omega) only [cw_le3, q, cw_m2, cw_m3, cw_m4, cw_m13, cw_2m, cw_3m, cw_12m, cw_24m, cw_36m, cw_a12, cw_a3, nI_add, nI_1, pk_sub, nI_clamp, vp_in_nI, h0', forall_eq, nI_leI, nI_ltI, nI_eq, true_implies, forall_const, not_true_eq_false, not_false_eq_true, false_implies, and_true, true_and, implies_true, and_self, reduceIte]
    exact hx _ (ih (a + 1) (by omega))
theorem xs_tOx {u : SX} {c s : Nat} {post : SX → Prop} (hc : c < 8) (h0 : ¬ cw_st u c = 0) (hp : post u) : ∀ d a, a + d = 3 → xw_tO post (nI c) (nI s) (d + 1) (nI a) u := by
  obtain ⟨h, sp, ch, bl, co, on, ba, ra, gu, se, si, st, la, pu, ps, sc, he, xb, xc, xi, xf, xa, xe, tc, ts, ta, bc, bs, bm⟩ := u
  have h0' : ¬ st c = 0 := h0
  intro d a ha
  unfold xw_tO
  dsimp only
  rw [wX_tendOpen_2]
  by_cases q : 3 ≤ a
  · simp (disch := omega) only [cw_le3, q, forall_eq, nI_leI, nI_ltI, nI_eq, true_implies, forall_const, not_true_eq_false, not_false_eq_true, false_implies, and_true, true_and, implies_true, and_self, reduceIte]
    exact hp
  · simp (disch := omega) only [cw_le3, q, cw_m2, cw_m3, cw_m4, cw_m13, cw_2m, cw_3m, cw_12m, cw_24m, cw_36m, cw_a12, cw_a3, nI_add, nI_1, pk_sub, nI_clamp, vp_in_nI, h0', forall_eq, nI_leI, nI_ltI, nI_eq, true_implies, forall_const, not_true_eq_false, not_false_eq_true, false_implies, and_true, true_and, implies_true, and_self, reduceIte]
    exact hp
theorem xs_tOs {u u' : SX} {c s d a : Nat} {post : SX → Prop} (hc : c < 8) (h0 : cw_st u c = 0) (ha : a < 3) (hx : ∀ post : SX → Prop, post u' → wpX_actOnFirstDue post u (nI c) (nI s)) (hp : xw_tO post (nI c) (nI s) d (nI (a + 1)) u') :
    xw_tO post (nI c) (nI s) (d + 1) (nI a) u := by
  obtain ⟨h, sp, ch, bl, co, on, ba, ra, gu, se, si, st, la, pu, ps, sc, he, xb, xc, xi, xf, xa, xe, tc, ts, ta, bc, bs, bm⟩ := u
  have h0' : st c = 0 := h0
  have q : ¬ 3 ≤ a := by omega
  unfold xw_tO
  dsimp only
  rw [wX_tendOpen_2]
  simp (disch := omega) only [cw_le3, q, cw_m2, cw_m3, cw_m4, cw_m13, cw_2m, cw_3m, cw_12m, cw_24m, cw_36m, cw_a12, cw_a3, nI_add, nI_1, pk_sub, nI_clamp, vp_in_nI, h0', forall_eq, nI_leI, nI_ltI, nI_eq, true_implies, forall_const, not_true_eq_false, not_false_eq_true, false_implies, and_true, true_and, implies_true, and_self, reduceIte]
  refine hx _ ?_
  obtain ⟨h, sp, ch, bl, co, on, ba, ra, gu, se, si, st, la, pu, ps, sc, he, xb, xc, xi, xf, xa, xe, tc, ts, ta, bc, bs, bm⟩ := u'
  exact hp
theorem ys_37s {v v' : SY} {c : Nat} {p r : Int32} {post : SY → Prop} {J : Int32 → SY → Prop} {n : Nat} (hc : c < 8) (hy : ∀ post : Int32 → SY → Prop, post r v' → wpY_act post v p (nI c))
    (h1 : v'.2.2.2.2.2.2.2.2.2.2.2.1 c = 0 → yw_37 post J p (nI c) n r v') (h0 : ¬ v'.2.2.2.2.2.2.2.2.2.2.2.1 c = 0 → yw_37 post J p (nI c) n 0 v') : yw_37 post J p (nI c) (n + 1) 1 v := by
  obtain ⟨h, sp, ch, yn, co, ba, ra, gu, se, on, si, st, la, pu, pb, sc, he, ou, yb, yl, yf, ya, ys, ye, zf, za, zs, ze, wy, pt, su, bb, bu⟩ := v
  unfold yw_37
  dsimp only
  rw [wY_turn_37]
  refine br_f (by decide) (hy _ ?_)
  obtain ⟨h, sp, ch, yn, co, ba, ra, gu, se, on, si, st, la, pu, pb, sc, he, ou, yb, yl, yf, ya, ys, ye, zf, za, zs, ze, wy, pt, su, bb, bu⟩ := v'
  refine ⟨pk_in c 8 hc, ?_⟩
  rw [nI_clamp (by omega)]
  exact br_c h1 h0
theorem cw_T_st {H C : Nat} {u : SX} {v : SY} (t : cw_T H C sp on ba ra gu si xf xa xe u v) : v.2.2.2.2.2.2.2.2.2.2.2.1 = cw_st u := by
  obtain ⟨bl, yn, co, se, st, la, pu, ps, sc, he, xb, xc, xi, tc, ts, ta, bc, bs, bm, pb, ou, yb, yl, yf, ya, ys, ye, zf, za, zs, ze, wy, pt, su, bb, bu, rfl, rfl, hS, hE, hF, hG, hO, hZ⟩ := t
  rfl
theorem ls_tO {H C : Nat} (hB : cw_B C si) {c s : Nat} (hc : c < C) (hs : s < 2) : ∀ d a (u : SX) (v : SY), a + d = 3 → cw_T H C sp on ba ra gu si xf xa xe u v → cw_st u c = 0 → cw_cn u c ≤ d →
    ∃ u' v', cw_T H C sp on ba ra gu si xf xa xe u' v' ∧ (∀ post : SX → Prop, post u' → xw_tO post (nI c) (nI s) (d + 1) (nI a) u) ∧
      (∀ (post : SY → Prop) (J : Int32 → SY → Prop), (∃ f, yw_37 post J (si (2 * c + s)) (nI c) f 0 v') → ∃ f, yw_37 post J (si (2 * c + s)) (nI c) f 1 v) := by
  have hC := hB.1
  intro d
  induction d with
  | zero =>
    intro a u v ha t h0 hcn
    obtain ⟨u1, v1, r, t1, hr, hx, hy⟩ := ls_act hB t hc hs h0
    rcases hr with ⟨rfl, rfl, rfl⟩ | ⟨_, hpos, _⟩
    · refine ⟨u1, v1, t1, fun post hp => xs_tOi (by omega) h0 hx hp 0 a ha, fun post J hf => ?_⟩
      obtain ⟨f, hf⟩ := hf
      exact ⟨f + 1, ys_37s (by omega) hy (fun _ => hf) (fun _ => hf)⟩
    · omega
  | succ d ih =>
    intro a u v ha t h0 hcn
    obtain ⟨u1, v1, r, t1, hr, hx, hy⟩ := ls_act hB t hc hs h0
    rcases hr with ⟨rfl, rfl, rfl⟩ | ⟨rfl, hpos, hr | ⟨hr, hlt⟩⟩
    · refine ⟨u1, v1, t1, fun post hp => xs_tOi (by omega) h0 hx hp (d + 1) a ha, fun post J hf => ?_⟩
      obtain ⟨f, hf⟩ := hf
      exact ⟨f + 1, ys_37s (by omega) hy (fun _ => hf) (fun _ => hf)⟩
    · have n0 : ¬ cw_st u1 c = 0 := by rw [hr]; decide
      refine ⟨u1, v1, t1, fun post hp => xs_tOs (by omega) h0 (by omega) hx (xs_tOx (by omega) n0 hp d (a + 1) (by omega)), fun post J hf => ?_⟩
      obtain ⟨f, hf⟩ := hf
      refine ⟨f + 1, ys_37s (by omega) hy (fun z => ?_) (fun _ => hf)⟩
      rw [cw_T_st t1] at z
      exact absurd z n0
    · obtain ⟨u2, v2, t2, hx2, hy2⟩ := ih (a + 1) u1 v1 (by omega) t1 hr (by omega)
      refine ⟨u2, v2, t2, fun post hp => xs_tOs (by omega) h0 (by omega) hx (hx2 post hp), fun post J hf => ?_⟩
      obtain ⟨f, hf⟩ := hy2 post J hf
      refine ⟨f + 1, ys_37s (by omega) hy (fun _ => hf) (fun z => ?_)⟩
      rw [cw_T_st t1] at z
      exact absurd hr z
theorem cw_cn3 {H C : Nat} {u : SX} {v : SY} (t : cw_T H C sp on ba ra gu si xf xa xe u v) {c : Nat} (hc : c < 8) : cw_cn u c ≤ 3 := by
  obtain ⟨bl, yn, co, se, st, la, pu, ps, sc, he, xb, xc, xi, tc, ts, ta, bc, bs, bm, pb, ou, yb, yl, yf, ya, ys, ye, zf, za, zs, ze, wy, pt, su, bb, bu, rfl, rfl, hS, hE, hF, hG, hO, hZ⟩ := t
  obtain ⟨l, hl, el⟩ := (hE c hc).1
  obtain ⟨n, hn, e1, e2, hrow⟩ := hG c l hc hl
  show (xc (13 * c + (la c).toNatClampNeg)).toNatClampNeg ≤ 3
  rw [el, nI_clamp (by omega), e1, nI_clamp (by omega)]
  exact hn
theorem ls_open {H C : Nat} {u : SX} {v : SY} (hB : cw_B C si) (t : cw_T H C sp on ba ra gu si xf xa xe u v) {c s : Nat} (hc : c < C) (hs : s < 2) :
    ∃ u' v', cw_T H C sp on ba ra gu si xf xa xe u' v' ∧ (∀ post : SX → Prop, post u' → wpX_tendOpen post u (nI c) (nI s)) ∧
      (∀ (post : SY → Prop) (J : Int32 → SY → Prop), (∃ f, yw_37 post J (si (2 * c + s)) (nI c) f 0 v') → (cw_st u c = 0 → ∃ f, yw_37 post J (si (2 * c + s)) (nI c) f 1 v) ∧ (¬ cw_st u c = 0 → ∃ f, yw_37 post J (si (2 * c + s)) (nI c) f 0 v)) := by
  have hC := hB.1
  by_cases h0 : cw_st u c = 0
  · obtain ⟨u1, v1, t1, hx, hy⟩ := ls_tO hB hc hs 3 0 u v rfl t h0 (cw_cn3 t (by omega))
    refine ⟨u1, v1, t1, fun post hp => ?_, fun post J hf => ⟨fun _ => hy post J hf, fun z => absurd h0 z⟩⟩
    have := hx post hp
    obtain ⟨h, sp, ch, bl, co, on, ba, ra, gu, se, si, st, la, pu, ps, sc, he, xb, xc, xi, xf, xa, xe, tc, ts, ta, bc, bs, bm⟩ := u
    exact ⟨_, this⟩
  · refine ⟨u, v, t, fun post hp => ?_, fun post J hf => ⟨fun z => absurd z h0, fun _ => hf⟩⟩
    have := xs_tOx (s := s) (show c < 8 by omega) h0 hp 3 0 rfl
    obtain ⟨h, sp, ch, bl, co, on, ba, ra, gu, se, si, st, la, pu, ps, sc, he, xb, xc, xi, xf, xa, xe, tc, ts, ta, bc, bs, bm⟩ := u
    exact ⟨_, this⟩
end TEND
