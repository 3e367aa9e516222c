/-! part 14: guards, a turn, a block, in step -/
section BLK
variable {h sp ch bl yn : Int32} {co on ba ra gu se si st la pu ps sc he xb xc xi xf xa xe tc ts ta bc bs bm pb ou yb yl yf ya ys ye zf za zs ze wy pt su bb bu : Nat → Int32}
def xw_gP (post : SX → Prop) (x1 x2 : Int32) (n : Nat) (x3 : Int32) (u : SX) : Prop := match u with
  | (h, sp, ch, bl, co, on, ba, ra, gu, se, si, st, la, pu, ps, sc, he, xb, xc, xi, xf, xa, xe, tc, ts, ta, bc, bs, bm) => wX_guardParty_2 post x1 x2 n x3 h sp ch bl co on ba ra gu se si st la pu ps sc he xb xc xi xf xa xe tc ts ta bc bs bm
def yw_116 (post : SY → Prop) (J : Int32 → SY → Prop) (x1 x2 : Int32) (n : Nat) (x3 : Int32) (v : SY) : Prop := match v with
  | (h, sp, ch, yn, co, ba, ra, gu, se, on, si, st, la, pu, pb, sc, he, ou, yb, yl, yf, ya, ys, ye, zf, za, zs, ze, wy, pt, su, bb, bu) => wY_turn_116 post (fun x h sp ch yn co ba ra gu se on si st la pu pb sc he ou yb yl yf ya ys ye zf za zs ze wy pt su bb bu => J x (h, sp, ch, yn, co, ba, ra, gu, se, on, si, st, la, pu, pb, sc, he, ou, yb, yl, yf, ya, ys, ye, zf, za, zs, ze, wy, pt, su, bb, bu)) x1 x2 n x3 h sp ch yn co ba ra gu se on si st la pu pb sc he ou yb yl yf ya ys ye zf za zs ze wy pt su bb bu
def xw_40 (post : SX → Prop) (x1 : Int32) (n : Nat) (x2 : Int32) (u : SX) : Prop := match u with
  | (h, sp, ch, bl, co, on, ba, ra, gu, se, si, st, la, pu, ps, sc, he, xb, xc, xi, xf, xa, xe, tc, ts, ta, bc, bs, bm) => wX_takeTurn_40 post x1 n x2 h sp ch bl co on ba ra gu se si st la pu ps sc he xb xc xi xf xa xe tc ts ta bc bs bm
def yw_86 (post : SY → Prop) (x1 : Int32) (n : Nat) (x2 : Int32) (v : SY) : Prop := match v with
  | (h, sp, ch, yn, co, ba, ra, gu, se, on, si, st, la, pu, pb, sc, he, ou, yb, yl, yf, ya, ys, ye, zf, za, zs, ze, wy, pt, su, bb, bu) => wY_turn_86 post x1 n x2 h sp ch yn co ba ra gu se on si st la pu pb sc he ou yb yl yf ya ys ye zf za zs ze wy pt su bb bu
def xw_2 (post : SX → Prop) (x1 : Int32) (n : Nat) (x2 : Int32) (u : SX) : Prop := match u with
  | (h, sp, ch, bl, co, on, ba, ra, gu, se, si, st, la, pu, ps, sc, he, xb, xc, xi, xf, xa, xe, tc, ts, ta, bc, bs, bm) => wX_takeTurn_2 post x1 n x2 h sp ch bl co on ba ra gu se si st la pu ps sc he xb xc xi xf xa xe tc ts ta bc bs bm
def yw_2 (post : SY → Prop) (x1 : Int32) (n : Nat) (x2 : Int32) (v : SY) : Prop := match v with
  | (h, sp, ch, yn, co, ba, ra, gu, se, on, si, st, la, pu, pb, sc, he, ou, yb, yl, yf, ya, ys, ye, zf, za, zs, ze, wy, pt, su, bb, bu) => wY_turn_2 post x1 n x2 h sp ch yn co ba ra gu se on si st la pu pb sc he ou yb yl yf ya ys ye zf za zs ze wy pt su bb bu
def xw_33 (post : Int32 → SX → Prop) (J : Int32 → SX → Prop) (x1 x2 : Int32) (n : Nat) (x3 : Int32) (u : SX) : Prop := match u with
  | (h, sp, ch, bl, co, on, ba, ra, gu, se, si, st, la, pu, ps, sc, he, xb, xc, xi, xf, xa, xe, tc, ts, ta, bc, bs, bm) => wX_block_33 post (fun x h sp ch bl co on ba ra gu se si st la pu ps sc he xb xc xi xf xa xe tc ts ta bc bs bm => J x (h, sp, ch, bl, co, on, ba, ra, gu, se, si, st, la, pu, ps, sc, he, xb, xc, xi, xf, xa, xe, tc, ts, ta, bc, bs, bm)) x1 x2 n x3 h sp ch bl co on ba ra gu se si st la pu ps sc he xb xc xi xf xa xe tc ts ta bc bs bm
def yw_33 (post : Int32 → SY → Prop) (J : Int32 → SY → Prop) (x1 x2 : Int32) (n : Nat) (x3 : Int32) (v : SY) : Prop := match v with
  | (h, sp, ch, yn, co, ba, ra, gu, se, on, si, st, la, pu, pb, sc, he, ou, yb, yl, yf, ya, ys, ye, zf, za, zs, ze, wy, pt, su, bb, bu) => wY_block_33 post (fun x h sp ch yn co ba ra gu se on si st la pu pb sc he ou yb yl yf ya ys ye zf za zs ze wy pt su bb bu => J x (h, sp, ch, yn, co, ba, ra, gu, se, on, si, st, la, pu, pb, sc, he, ou, yb, yl, yf, ya, ys, ye, zf, za, zs, ze, wy, pt, su, bb, bu)) x1 x2 n x3 h sp ch yn co ba ra gu se on si st la pu pb sc he ou yb yl yf ya ys ye zf za zs ze wy pt su bb bu
def xw_16 (post : Int32 → SX → Prop) (x1 : Int32) (n : Nat) (x2 : Int32) (u : SX) : Prop := match u with
  | (h, sp, ch, bl, co, on, ba, ra, gu, se, si, st, la, pu, ps, sc, he, xb, xc, xi, xf, xa, xe, tc, ts, ta, bc, bs, bm) => wX_block_16 post x1 n x2 h sp ch bl co on ba ra gu se si st la pu ps sc he xb xc xi xf xa xe tc ts ta bc bs bm
def yw_16 (post : Int32 → SY → Prop) (x1 : Int32) (n : Nat) (x2 : Int32) (v : SY) : Prop := match v with
  | (h, sp, ch, yn, co, ba, ra, gu, se, on, si, st, la, pu, pb, sc, he, ou, yb, yl, yf, ya, ys, ye, zf, za, zs, ze, wy, pt, su, bb, bu) => wY_block_16 post x1 n x2 h sp ch yn co ba ra gu se on si st la pu pb sc he ou yb yl yf ya ys ye zf za zs ze wy pt su bb bu
theorem xs_side {post : Int32 → Prop} {c s C : Nat} {p : Int32} (hc : c < C) (hC : C ≤ 8) (hs : s < 2) (es : si (2 * c + s) = p) (hne : ¬ si (2 * c) = si (2 * c + 1)) (H : post (nI s)) : wpX_sideOf post (h, sp, nI C, bl, co, on, ba, ra, gu, se, si, st, la, pu, ps, sc, he, xb, xc, xi, xf, xa, xe, tc, ts, ta, bc, bs, bm) (nI c) p := by
  have : s = 0 ∨ s = 1 := by omega
  rcases this with rfl | rfl
  · exact xs_sideOf (by omega) hC (fun _ _ => H) (fun _ a => absurd es a) (fun z => absurd es (z hc).1)
  · exact xs_sideOf (by omega) hC (fun _ a => absurd (a.trans es.symm) hne) (fun _ _ _ => H) (fun z => absurd es (z hc).2)
theorem xs_noside {post : Int32 → Prop} {c C : Nat} {p : Int32} (hc : c < 8) (hC : C ≤ 8) (hn : c < C → ¬ si (2 * c) = p ∧ ¬ si (2 * c + 1) = p) (H : post (-1)) : wpX_sideOf post (h, sp, nI C, bl, co, on, ba, ra, gu, se, si, st, la, pu, ps, sc, he, xb, xc, xi, xf, xa, xe, tc, ts, ta, bc, bs, bm) (nI c) p :=
  xs_sideOf hc hC (fun z a => absurd a (hn z).1) (fun z _ b => absurd b (hn z).2) (fun _ => H)
theorem cw_nsm {s : Nat} (hs : s < 2) : ¬ nI s = -1 := cw_ne1 (by omega)
theorem cw_nsl {s : Nat} (hs : s < 2) : ¬ nI s < 0 := nI_pos (by omega)
theorem cw_nsg {s : Nat} (hs : s < 2) : 0 ≤ nI s := nI_pos' (by omega)
theorem ls_watch {H C : Nat} {u : SX} {v : SY} (hB : cw_B C si) (t : cw_T H C sp on ba ra gu si xf xa xe u v) {c w g : Nat} (hc : c < C) (hw : w < 6) (hg : g < 6) :
    ∃ u' v', cw_T H C sp on ba ra gu si xf xa xe u' v' ∧ (∀ (post : SX → Prop) (n : Nat), xw_gP post (nI w) (nI g) n (nI (c + 1)) u' → xw_gP post (nI w) (nI g) (n + 1) (nI c) u) ∧ (∀ post : SY → Prop, post v' → wpY_watch post v (nI g) (nI w) (nI c)) := by
  have hB0 := hB
  obtain ⟨hC, hsi, hne⟩ := hB
  have hnec := hne c hc
  have t0 := t
  obtain ⟨bl, yn, co, se, st, la, pu, ps, sc, he, xb, xc, xi, tc, ts, ta, bc, bs, bm, pb, ou, yb, yl, yf, ya, ys, ye, zf, za, zs, ze, wy, pt, su, bb, bu, rfl, rfl, hS, hE, hF, hG, hO, hZ⟩ := t
  have q8 : ¬ 8 ≤ c := by omega
  by_cases hex : ∃ s, s < 2 ∧ si (2 * c + s) = nI w
  · obtain ⟨s, hs, es⟩ := hex
    have idle : (∀ P : Int32 → Prop, P 0 → wpX_isCheated P (nI H, sp, nI C, bl, co, on, ba, ra, gu, se, si, st, la, pu, ps, sc, he, xb, xc, xi, xf, xa, xe, tc, ts, ta, bc, bs, bm) (nI c) (nI s)) → (∀ post : SY → Prop, post (nI H, sp, nI C, yn, co, ba, ra, gu, se, on, si, st, la, pu, pb, sc, he, ou, yb, yl, yf, ya, ys, ye, zf, za, zs, ze, wy, pt, su, bb, bu) → wpY_watch post (nI H, sp, nI C, yn, co, ba, ra, gu, se, on, si, st, la, pu, pb, sc, he, ou, yb, yl, yf, ya, ys, ye, zf, za, zs, ze, wy, pt, su, bb, bu) (nI g) (nI w) (nI c)) →
        ∃ u' v', cw_T H C sp on ba ra gu si xf xa xe u' v' ∧ (∀ (post : SX → Prop) (n : Nat), xw_gP post (nI w) (nI g) n (nI (c + 1)) u' → xw_gP post (nI w) (nI g) (n + 1) (nI c) (nI H, sp, nI C, bl, co, on, ba, ra, gu, se, si, st, la, pu, ps, sc, he, xb, xc, xi, xf, xa, xe, tc, ts, ta, bc, bs, bm)) ∧ (∀ post : SY → Prop, post v' → wpY_watch post (nI H, sp, nI C, yn, co, ba, ra, gu, se, on, si, st, la, pu, pb, sc, he, ou, yb, yl, yf, ya, ys, ye, zf, za, zs, ze, wy, pt, su, bb, bu) (nI g) (nI w) (nI c)) := by
      intro hx hy
      refine ⟨_, _, t0, fun post n hp => ?_, hy⟩
      unfold xw_gP
      dsimp only
      rw [wX_guardParty_2]
      simp (disch := omega) only [cw_le8, q8, cw_m2, cw_m3, cw_m4, cw_m13, cw_2m, cw_3m, cw_12m, cw_24m, cw_36m, cw_a12, cw_a3, nI_add, nI_1, pk_sub, nI_clamp, vp_in_nI, forall_eq, nI_leI, nI_ltI, nI_eq, true_implies, forall_const, not_true_eq_false, not_false_eq_true, false_implies, and_true, true_and, implies_true, and_self, reduceIte]
      exact xs_side hc hC hs es hnec (br_f (cw_nsm hs) (hx _ (br_t rfl hp)))
    by_cases h1 : st c = 1
    · obtain ⟨q, hq, hps, hpb⟩ := (hE c (by omega)).2.2
      have hpb := hpb h1
      by_cases hqs : q = s
      · subst hqs
        rw [es] at hpb
        refine idle (fun P hP => ?_) (fun post hp => ?_)
        · simp (disch := omega) only [wpX_isCheated, cw_m2, cw_m3, cw_m4, cw_m13, cw_2m, cw_3m, cw_12m, cw_24m, cw_36m, cw_a12, cw_a3, nI_add, nI_1, pk_sub, nI_clamp, vp_in_nI, h1, hps, forall_eq, nI_leI, nI_ltI, nI_eq, true_implies, forall_const, not_true_eq_false, not_false_eq_true, false_implies, and_true, true_and, implies_true, and_self, reduceIte]
          exact hP
        · unfold wpY_watch
          dsimp only
          refine ys_side (by omega) hs es hnec (br_f (cw_nsl hs) ?_)
          simp (disch := omega) only [cw_m2, cw_m3, cw_m4, cw_m13, cw_2m, cw_3m, cw_12m, cw_24m, cw_36m, cw_a12, cw_a3, nI_add, nI_1, pk_sub, nI_clamp, vp_in_nI, h1, hpb, forall_eq, nI_leI, nI_ltI, nI_eq, true_implies, forall_const, not_true_eq_false, not_false_eq_true, false_implies, and_true, true_and, implies_true, and_self, reduceIte]
          exact hp
      · have n1 : ¬ ps c = nI s := by rw [hps, nI_eq (by omega) (by omega)]; exact hqs
        have n2 : ¬ pb c = nI w := by
          rw [hpb, ← es]
          have : (q = 0 ∧ s = 1) ∨ (q = 1 ∧ s = 0) := by omega
          rcases this with ⟨rfl, rfl⟩ | ⟨rfl, rfl⟩
          · exact hnec
          · exact fun z => hnec z.symm
        by_cases hpl : pu c = la c
        · refine idle (fun P hP => ?_) (fun post hp => ?_)
          · simp (disch := omega) only [wpX_isCheated, cw_m2, cw_m3, cw_m4, cw_m13, cw_2m, cw_3m, cw_12m, cw_24m, cw_36m, cw_a12, cw_a3, nI_add, nI_1, pk_sub, nI_clamp, vp_in_nI, h1, n1, hpl, forall_eq, nI_leI, nI_ltI, nI_eq, true_implies, forall_const, not_true_eq_false, not_false_eq_true, false_implies, and_true, true_and, implies_true, and_self, reduceIte]
            exact hP
          · unfold wpY_watch
            dsimp only
            refine ys_side (by omega) hs es hnec (br_f (cw_nsl hs) ?_)
            simp (disch := omega) only [cw_m2, cw_m3, cw_m4, cw_m13, cw_2m, cw_3m, cw_12m, cw_24m, cw_36m, cw_a12, cw_a3, nI_add, nI_1, pk_sub, nI_clamp, vp_in_nI, h1, n2, hpl, forall_eq, nI_leI, nI_ltI, nI_eq, true_implies, forall_const, not_true_eq_false, not_false_eq_true, false_implies, and_true, true_and, implies_true, and_self, reduceIte]
            exact hp
        · obtain ⟨u1, v1, r, k1, hx, hy⟩ := ls_punish hB0 t0 hc hq hps
          have e3 : si (2 * c + 1 - q) = nI w := by rw [show 2 * c + 1 - q = 2 * c + s by omega]; exact es
          rw [e3] at hy
          have k1' := k1
          obtain ⟨bl', yn', co', se', st', la', pu', ps', sc', he', xb', xc', xi', tc', ts', ta', bc', bs', bm', pb', ou', yb', yl', yf', ya', ys', ye', zf', za', zs', ze', wy', pt', su', bb', bu', rfl, rfl, hS', hE', hF', hG', hO', hZ'⟩ := k1
          refine ⟨_, _, ⟨bl', yn', upd (upd co' w (co' w - r / 10)) g (upd co' w (co' w - r / 10) g + r / 10), se', st', la', pu', ps', sc', he', xb', xc', xi', tc', ts', ta', bc', bs', bm', pb', ou', yb', yl', yf', ya', ys', ye', zf', za', zs', ze', wy', pt', su', bb', bu', rfl, rfl, hS', hE', hF', hG', hO', hZ'⟩, fun post n hp => ?_, fun post hp => ?_⟩
          · unfold xw_gP
            dsimp only
            rw [wX_guardParty_2]
            simp (disch := omega) only [cw_le8, q8, cw_m2, cw_m3, cw_m4, cw_m13, cw_2m, cw_3m, cw_12m, cw_24m, cw_36m, cw_a12, cw_a3, nI_add, nI_1, pk_sub, nI_clamp, vp_in_nI, forall_eq, nI_leI, nI_ltI, nI_eq, true_implies, forall_const, not_true_eq_false, not_false_eq_true, false_implies, and_true, true_and, implies_true, and_self, reduceIte]
            refine xs_side hc hC hs es hnec (br_f (cw_nsm hs) ?_)
            simp (disch := omega) only [wpX_isCheated, cw_m2, cw_m3, cw_m4, cw_m13, cw_2m, cw_3m, cw_12m, cw_24m, cw_36m, cw_a12, cw_a3, nI_add, nI_1, pk_sub, nI_clamp, vp_in_nI, h1, n1, hpl, cw_n1, forall_eq, nI_leI, nI_ltI, nI_eq, true_implies, forall_const, not_true_eq_false, not_false_eq_true, false_implies, and_true, true_and, implies_true, and_self, reduceIte]
            refine hx _ ?_
            simp (disch := omega) only [cw_m2, cw_m3, cw_m4, cw_m13, cw_2m, cw_3m, cw_12m, cw_24m, cw_36m, cw_a12, cw_a3, nI_add, nI_1, pk_sub, nI_clamp, vp_in_nI, cw_n10, forall_eq, nI_leI, nI_ltI, nI_eq, true_implies, forall_const, not_true_eq_false, not_false_eq_true, false_implies, and_true, true_and, implies_true, and_self, reduceIte]
            exact hp
          · unfold wpY_watch
            dsimp only
            refine ys_side (by omega) hs es hnec (br_f (cw_nsl hs) ?_)
            simp (disch := omega) only [cw_m2, cw_m3, cw_m4, cw_m13, cw_2m, cw_3m, cw_12m, cw_24m, cw_36m, cw_a12, cw_a3, nI_add, nI_1, pk_sub, nI_clamp, vp_in_nI, h1, n2, hpl, forall_eq, nI_leI, nI_ltI, nI_eq, true_implies, forall_const, not_true_eq_false, not_false_eq_true, false_implies, and_true, true_and, implies_true, and_self, reduceIte]
            refine hy _ ?_
            simp (disch := omega) only [cw_m2, cw_m3, cw_m4, cw_m13, cw_2m, cw_3m, cw_12m, cw_24m, cw_36m, cw_a12, cw_a3, nI_add, nI_1, pk_sub, nI_clamp, vp_in_nI, cw_n10, forall_eq, nI_leI, nI_ltI, nI_eq, true_implies, forall_const, not_true_eq_false, not_false_eq_true, false_implies, and_true, true_and, implies_true, and_self, reduceIte]
            exact hp
    · refine idle (fun P hP => ?_) (fun post hp => ?_)
      · simp (disch := omega) only [wpX_isCheated, cw_m2, cw_m3, cw_m4, cw_m13, cw_2m, cw_3m, cw_12m, cw_24m, cw_36m, cw_a12, cw_a3, nI_add, nI_1, pk_sub, nI_clamp, vp_in_nI, h1, forall_eq, nI_leI, nI_ltI, nI_eq, true_implies, forall_const, not_true_eq_false, not_false_eq_true, false_implies, and_true, true_and, implies_true, and_self, reduceIte]
        exact hP
      · unfold wpY_watch
        dsimp only
        refine ys_side (by omega) hs es hnec (br_f (cw_nsl hs) ?_)
        simp (disch := omega) only [cw_m2, cw_m3, cw_m4, cw_m13, cw_2m, cw_3m, cw_12m, cw_24m, cw_36m, cw_a12, cw_a3, nI_add, nI_1, pk_sub, nI_clamp, vp_in_nI, h1, forall_eq, nI_leI, nI_ltI, nI_eq, true_implies, forall_const, not_true_eq_false, not_false_eq_true, false_implies, and_true, true_and, implies_true, and_self, reduceIte]
        exact hp
  · have na : ¬ si (2 * c) = nI w := fun z => hex ⟨0, by omega, z⟩
    have nb : ¬ si (2 * c + 1) = nI w := fun z => hex ⟨1, by omega, z⟩
    refine ⟨_, _, t0, fun post n hp => ?_, fun post hp => ?_⟩
    · unfold xw_gP
      dsimp only
      rw [wX_guardParty_2]
      simp (disch := omega) only [cw_le8, q8, cw_m2, cw_m3, cw_m4, cw_m13, cw_2m, cw_3m, cw_12m, cw_24m, cw_36m, cw_a12, cw_a3, nI_add, nI_1, pk_sub, nI_clamp, vp_in_nI, forall_eq, nI_leI, nI_ltI, nI_eq, true_implies, forall_const, not_true_eq_false, not_false_eq_true, false_implies, and_true, true_and, implies_true, and_self, reduceIte]
      exact xs_noside (by omega) hC (fun _ => ⟨na, nb⟩) (br_t rfl hp)
    · unfold wpY_watch
      dsimp only
      exact ys_sideOf (by omega) (fun z => absurd z na) (fun _ z => absurd z nb) (fun _ _ => br_t (by decide) hp)
theorem xs_gPi {post : SX → Prop} {C w g : Nat} (hC : C ≤ 8) (hp : post (h, sp, nI C, bl, co, on, ba, ra, gu, se, si, st, la, pu, ps, sc, he, xb, xc, xi, xf, xa, xe, tc, ts, ta, bc, bs, bm)) : ∀ d c, c + d = 8 → C ≤ c → wX_guardParty_2 post (nI w) (nI g) (d + 1) (nI c) h sp (nI C) bl co on ba ra gu se si st la pu ps sc he xb xc xi xf xa xe tc ts ta bc bs bm := by
  intro d
  induction d with
  | zero =>
    intro c hc _
    have e : c = 8 := by omega
    subst e
    rw [wX_guardParty_2]
    simp (disch := omega) only [cw_le8, Nat.le_refl, forall_eq, nI_leI, nI_ltI, nI_eq, true_implies, forall_const, not_true_eq_false, not_false_eq_true, false_implies, and_true, true_and, implies_true, and_self, reduceIte]
    exact hp
  | succ d ih =>
    intro c hc hCc
    have q : ¬ 8 ≤ c := by omega
    rw [wX_guardParty_2]
    simp (disch := omega) only [cw_le8, q, cw_m2, cw_m3, cw_m4, cw_m13, cw_2m, cw_3m, cw_12m, cw_24m, cw_36m, cw_a12, cw_a3, nI_add, nI_1, pk_sub, nI_clamp, vp_in_nI, forall_eq, nI_leI, nI_ltI, nI_eq, true_implies, forall_const, not_true_eq_false, not_false_eq_true, false_implies, and_true, true_and, implies_true, and_self, reduceIte]
    exact xs_noside (by omega) hC (fun z => by omega) (br_t rfl (ih (c + 1) (by omega) (by omega)))
theorem ls_gP {H C : Nat} (hB : cw_B C si) {w g : Nat} (hw : w < 6) (hg : g < 6) : ∀ d c (u : SX) (v : SY), c + d = C → cw_T H C sp on ba ra gu si xf xa xe u v →
    ∃ u' v', cw_T H C sp on ba ra gu si xf xa xe u' v' ∧ (∀ post : SX → Prop, post u' → ∃ f, xw_gP post (nI w) (nI g) f (nI c) u) ∧ (∀ (post : SY → Prop) (J : Int32 → SY → Prop), J (nI (w + 1)) v' → ∃ f, yw_116 post J (nI g) (nI w) f (nI c) v) := by
  have hC := hB.1
  intro d
  induction d with
  | zero =>
    intro c u v hc t
    have t0 := t
    obtain ⟨bl, yn, co, se, st, la, pu, ps, sc, he, xb, xc, xi, tc, ts, ta, bc, bs, bm, pb, ou, yb, yl, yf, ya, ys, ye, zf, za, zs, ze, wy, pt, su, bb, bu, rfl, rfl, hS, hE, hF, hG, hO, hZ⟩ := t
    have e : c = C := by omega
    subst e
    refine ⟨_, _, t0, fun post hp => ⟨8 - c + 1, xs_gPi (w := w) (g := g) hC hp (8 - c) c (by omega) (Nat.le_refl _)⟩, fun post J hJ => ⟨1, ?_⟩⟩
    unfold yw_116
    dsimp only
    rw [wY_turn_116]
    simp (disch := omega) only [cw_m2, cw_m3, cw_m4, cw_m13, cw_2m, cw_3m, cw_12m, cw_24m, cw_36m, cw_a12, cw_a3, nI_add, nI_1, pk_sub, nI_clamp, vp_in_nI, Nat.le_refl, forall_eq, nI_leI, nI_ltI, nI_eq, true_implies, forall_const, not_true_eq_false, not_false_eq_true, false_implies, and_true, true_and, implies_true, and_self, reduceIte]
    exact hJ
  | succ d ih =>
    intro c u v hc t
    obtain ⟨u1, v1, t1, hx, hy⟩ := ls_watch hB t (show c < C by omega) hw hg
    obtain ⟨u2, v2, t2, hx2, hy2⟩ := ih (c + 1) u1 v1 (by omega) t1
    refine ⟨u2, v2, t2, fun post hp => ?_, fun post J hJ => ?_⟩
    · obtain ⟨f, hf⟩ := hx2 post hp
      exact ⟨f + 1, hx post f hf⟩
    · obtain ⟨f, hf⟩ := hy2 post J hJ
      refine ⟨f + 1, ?_⟩
      obtain ⟨bl, yn, co, se, st, la, pu, ps, sc, he, xb, xc, xi, tc, ts, ta, bc, bs, bm, pb, ou, yb, yl, yf, ya, ys, ye, zf, za, zs, ze, wy, pt, su, bb, bu, rfl, rfl, hS, hE, hF, hG, hO, hZ⟩ := t
      have q : ¬ C ≤ c := by omega
      unfold yw_116
      dsimp only
      rw [wY_turn_116]
      simp (disch := omega) only [cw_m2, cw_m3, cw_m4, cw_m13, cw_2m, cw_3m, cw_12m, cw_24m, cw_36m, cw_a12, cw_a3, nI_add, nI_1, pk_sub, nI_clamp, vp_in_nI, q, forall_eq, nI_leI, nI_ltI, nI_eq, true_implies, forall_const, not_true_eq_false, not_false_eq_true, false_implies, and_true, true_and, implies_true, and_self, reduceIte]
      refine hy _ ?_
      obtain ⟨h, sp, ch, yn, co, ba, ra, gu, se, on, si, st, la, pu, pb, sc, he, ou, yb, yl, yf, ya, ys, ye, zf, za, zs, ze, wy, pt, su, bb, bu⟩ := v1
      exact hf
end BLK
