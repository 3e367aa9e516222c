/-! part 06: walks of own methods of X (a general post) -/
section XW
variable {h sp ch bl yn : Int32} {co on ba ra gu se si st la pu ps sc he xb xc xi xf xa xe tc ts ta bc bs bm pb ou yb yl yf ya ys ye zf za zs ze wy pt su bb bu : Nat → Int32}
def cw_rd (st on si : Nat → Int32) (c : Nat) : Prop := st c = 0 ∧ ¬ on (si (2 * c)).toNatClampNeg = 0 ∧ ¬ on (si (2 * c + 1)).toNatClampNeg = 0
theorem xs_isReady {post : Int32 → Prop} {c : Nat} (hc : c < 8) (hsi : ∀ i, i < 16 → ∃ a, a < 6 ∧ si i = nI a) (h1 : cw_rd st on si c → post 1) (h0 : ¬ cw_rd st on si c → post 0) : wpX_isReady post (h, sp, ch, bl, co, on, ba, ra, gu, se, si, st, la, pu, ps, sc, he, xb, xc, xi, xf, xa, xe, tc, ts, ta, bc, bs, bm) (nI c) := by
  obtain ⟨a, ha, ea⟩ := hsi (2 * c) (by omega)
  obtain ⟨b, hb, eb⟩ := hsi (2 * c + 1) (by omega)
  unfold cw_rd at h1 h0
  rw [ea, eb, nI_clamp (by omega), nI_clamp (by omega)] at h1 h0
  simp (disch := omega) only [wpX_isReady, cw_m2, cw_m3, cw_m4, cw_m13, cw_2m, cw_3m, cw_12m, cw_24m, cw_36m, cw_a12, cw_a3, nI_add, nI_1, pk_sub, nI_clamp, vp_in_nI, ea, eb, forall_eq, nI_leI, nI_ltI, nI_eq, true_implies, forall_const, not_true_eq_false, not_false_eq_true, false_implies, and_true, true_and, implies_true, and_self, reduceIte]
  by_cases q1 : st c = 0
  · by_cases q2 : on a = 0
    · simp only [q1, q2, forall_eq, nI_leI, nI_ltI, nI_eq, true_implies, forall_const, not_true_eq_false, not_false_eq_true, false_implies, and_true, true_and, implies_true, and_self, reduceIte]
      exact h0 (fun z => z.2.1 q2)
    · by_cases q3 : on b = 0
      · simp only [q1, q2, q3, forall_eq, nI_leI, nI_ltI, nI_eq, true_implies, forall_const, not_true_eq_false, not_false_eq_true, false_implies, and_true, true_and, implies_true, and_self, reduceIte]
        exact h0 (fun z => z.2.2 q3)
      · simp only [q1, q2, q3, forall_eq, nI_leI, nI_ltI, nI_eq, true_implies, forall_const, not_true_eq_false, not_false_eq_true, false_implies, and_true, true_and, implies_true, and_self, reduceIte]
        exact h1 ⟨q1, q2, q3⟩
  · simp only [q1, forall_eq, nI_leI, nI_ltI, nI_eq, true_implies, forall_const, not_true_eq_false, not_false_eq_true, false_implies, and_true, true_and, implies_true, and_self, reduceIte]
    exact h0 (fun z => q1 z.1)
theorem xs_sideOf {post : Int32 → Prop} {c C : Nat} {p : Int32} (hc : c < 8) (hC : C ≤ 8) (h0 : c < C → si (2 * c) = p → post 0) (h1 : c < C → ¬ si (2 * c) = p → si (2 * c + 1) = p → post 1) (h2 : (c < C → ¬ si (2 * c) = p ∧ ¬ si (2 * c + 1) = p) → post (-1)) : wpX_sideOf post (h, sp, nI C, bl, co, on, ba, ra, gu, se, si, st, la, pu, ps, sc, he, xb, xc, xi, xf, xa, xe, tc, ts, ta, bc, bs, bm) (nI c) p := by
  have n0 : ¬ nI c < 0 := nI_pos (by omega)
  by_cases q : c < C
  · have q' : ¬ C ≤ c := by omega
    simp (disch := omega) only [wpX_sideOf, wpX_isChannel, cw_m2, cw_m3, cw_m4, cw_m13, cw_2m, cw_3m, cw_12m, cw_24m, cw_36m, cw_a12, cw_a3, nI_add, nI_1, pk_sub, nI_clamp, vp_in_nI, n0, q', cw_n1, forall_eq, nI_leI, nI_ltI, nI_eq, true_implies, forall_const, not_true_eq_false, not_false_eq_true, false_implies, and_true, true_and, implies_true, and_self, reduceIte]
    by_cases a : si (2 * c) = p
    · simp only [a, forall_eq, nI_leI, nI_ltI, nI_eq, true_implies, forall_const, not_true_eq_false, not_false_eq_true, false_implies, and_true, true_and, implies_true, and_self, reduceIte]
      exact h0 q a
    · by_cases b : si (2 * c + 1) = p
      · simp only [a, b, forall_eq, nI_leI, nI_ltI, nI_eq, true_implies, forall_const, not_true_eq_false, not_false_eq_true, false_implies, and_true, true_and, implies_true, and_self, reduceIte]
        exact h1 q a b
      · simp only [a, b, forall_eq, nI_leI, nI_ltI, nI_eq, true_implies, forall_const, not_true_eq_false, not_false_eq_true, false_implies, and_true, true_and, implies_true, and_self, reduceIte]
        exact h2 (fun _ => ⟨a, b⟩)
  · have q' : C ≤ c := by omega
    simp (disch := omega) only [wpX_sideOf, wpX_isChannel, n0, q', forall_eq, nI_leI, nI_ltI, nI_eq, true_implies, forall_const, not_true_eq_false, not_false_eq_true, false_implies, and_true, true_and, implies_true, and_self, reduceIte]
    exact h2 (fun z => absurd z q)
def cw_nb (b : Nat → Int32) (o r : Nat) : Nat → Int32 := upd (upd b (2 * r) (b (2 * o))) (2 * r + 1) (b (2 * o + 1))
theorem xs_mns56 {post : Int32 → SX → Prop} {c o r l : Nat} (hc : c < 8) (ho : o < r) (hr : r < 104) (el : la c = nI l) (H : post (nI r) (h, sp, ch, bl, co, on, ba, ra, gu, se, si, st, upd la c (nI (l + 1)), pu, ps, sc, he, xb, upd xc r (xc o), cw_cp2 xi xi (3 * o) (3 * r) 3, xf, xa, xe, tc, ts, ta, bc, bs, bm)) :
    ∀ d j, j + d = 3 → wX_makeNextState_56 post (nI c) (nI o) (nI r) h sp ch bl (d + 1) (nI j) co on ba ra gu se si st la pu ps sc he xb xc (cw_cp2 xi xi (3 * o) (3 * r) j) xf xa xe tc ts ta bc bs bm := by
  intro d
  induction d with
  | zero =>
    intro j hj
    have : j = 3 := by omega
    subst this
    simp (disch := omega) only [wX_makeNextState_56, cw_le3, cw_m2, cw_m3, cw_m4, cw_m13, cw_2m, cw_3m, cw_12m, cw_24m, cw_36m, cw_a12, cw_a3, nI_add, nI_1, pk_sub, nI_clamp, vp_in_nI, el, Nat.le_refl, forall_eq, nI_leI, nI_ltI, nI_eq, true_implies, forall_const, not_true_eq_false, not_false_eq_true, false_implies, and_true, true_and, implies_true, and_self, reduceIte]
    exact H
  | succ d ih =>
    intro j hj
    have q : ¬ 3 ≤ j := by omega
    have := ih (j + 1) (by omega)
    rw [← cw_cpyS xi (show 3 * o + j < 3 * r by omega)] at this
    rw [wX_makeNextState_56]
    simp (disch := omega) only [cw_le3, cw_m2, cw_m3, cw_m4, cw_m13, cw_2m, cw_3m, cw_12m, cw_24m, cw_36m, cw_a12, cw_a3, nI_add, nI_1, pk_sub, nI_clamp, vp_in_nI, q, forall_eq, nI_leI, nI_ltI, nI_eq, true_implies, forall_const, not_true_eq_false, not_false_eq_true, false_implies, and_true, true_and, implies_true, and_self, reduceIte]
    exact this
theorem xs_mns {post : Int32 → SX → Prop} {c l : Nat} (hc : c < 8) (hl : l < 11) (el : la c = nI l)
    (H : post (nI (13 * c + l + 1)) (h, sp, ch, bl, co, on, ba, ra, gu, se, si, st, upd la c (nI (l + 1)), pu, ps, sc, he, cw_nb xb (13 * c + l) (13 * c + l + 1), upd xc (13 * c + l + 1) (xc (13 * c + l)), cw_cp2 xi xi (3 * (13 * c + l)) (3 * (13 * c + l + 1)) 3, xf, xa, xe, tc, ts, ta, bc, bs, bm)) :
    wpX_makeNextState post (h, sp, ch, bl, co, on, ba, ra, gu, se, si, st, la, pu, ps, sc, he, xb, xc, xi, xf, xa, xe, tc, ts, ta, bc, bs, bm) (nI c) := by
  simp (disch := omega) only [wpX_makeNextState, cw_m2, cw_m3, cw_m4, cw_m13, cw_2m, cw_3m, cw_12m, cw_24m, cw_36m, cw_a12, cw_a3, nI_add, nI_1, pk_sub, nI_clamp, vp_in_nI, el, forall_eq, nI_leI, nI_ltI, nI_eq, true_implies, forall_const, not_true_eq_false, not_false_eq_true, false_implies, and_true, true_and, implies_true, and_self, reduceIte]
  refine ⟨3, ?_⟩
  have z0 : (0 : Int32) = nI 0 := rfl
  have q0 : ¬ (2 ≤ 0) := by omega
  have q1 : ¬ (2 ≤ 1) := by omega
  simp (disch := omega) only [wX_makeNextState_19, z0, cw_le2, cw_m2, cw_m3, cw_m4, cw_m13, cw_2m, cw_3m, cw_12m, cw_24m, cw_36m, cw_a12, cw_a3, nI_add, nI_1, pk_sub, nI_clamp, vp_in_nI, q0, q1, Nat.zero_add, Nat.add_zero, Nat.le_refl, pk_un, forall_eq, nI_leI, nI_ltI, nI_eq, true_implies, forall_const, not_true_eq_false, not_false_eq_true, false_implies, and_true, true_and, implies_true, and_self, reduceIte]
  refine ⟨4, ?_⟩
  have := xs_mns56 (post := post) (xi := xi) (xc := xc) (la := la) hc (show 13 * c + l < 13 * c + l + 1 by omega) (by omega) el H 3 0 rfl
  rw [cw_cp2_0] at this
  exact this
theorem xs_rem {post : SX → Prop} {r j m : Nat} (hr : r < 104) (hj : j ≤ 2) (en : xc r = nI (m + 1)) (H : post (h, sp, ch, bl, co, on, ba, ra, gu, se, si, st, la, pu, ps, sc, he, xb, upd xc r (nI m), cw_shf xi (3 * r + j) (3 * r + 2), xf, xa, xe, tc, ts, ta, bc, bs, bm)) : wpX_removeLock post (h, sp, ch, bl, co, on, ba, ra, gu, se, si, st, la, pu, ps, sc, he, xb, xc, xi, xf, xa, xe, tc, ts, ta, bc, bs, bm) (nI r) (nI j) := by
  have L : ∀ d i, i + d = 2 → j ≤ i → wX_removeLock_2 post (nI r) h sp ch bl (d + 1) (nI i) co on ba ra gu se si st la pu ps sc he xb xc (cw_shf xi (3 * r + j) (3 * r + i)) xf xa xe tc ts ta bc bs bm := by
    intro d
    induction d with
    | zero =>
      intro i hi _
      have : i = 2 := by omega
      subst this
      simp (disch := omega) only [wX_removeLock_2, cw_le2, cw_m2, cw_m3, cw_m4, cw_m13, cw_2m, cw_3m, cw_12m, cw_24m, cw_36m, cw_a12, cw_a3, nI_add, nI_1, pk_sub, nI_clamp, vp_in_nI, en, nI_pred, Nat.le_refl, forall_eq, nI_leI, nI_ltI, nI_eq, true_implies, forall_const, not_true_eq_false, not_false_eq_true, false_implies, and_true, true_and, implies_true, and_self, reduceIte]
      exact H
    | succ d ih =>
      intro i hi hji
      have q : ¬ 2 ≤ i := by omega
      have := ih (i + 1) (by omega) (by omega)
      rw [← Nat.add_assoc, ← cw_shfS xi (show 3 * r + j ≤ 3 * r + i by omega)] at this
      rw [wX_removeLock_2]
      simp (disch := omega) only [cw_le2, cw_m2, cw_m3, cw_m4, cw_m13, cw_2m, cw_3m, cw_12m, cw_24m, cw_36m, cw_a12, cw_a3, nI_add, nI_1, pk_sub, nI_clamp, vp_in_nI, q, forall_eq, nI_leI, nI_ltI, nI_eq, true_implies, forall_const, not_true_eq_false, not_false_eq_true, false_implies, and_true, true_and, implies_true, and_self, reduceIte]
      exact this
  have := L (2 - j) j (by omega) (Nat.le_refl _)
  rw [cw_shfE xi (Nat.le_refl _)] at this
  exact ⟨_, this⟩
theorem xs_put105 {post : SX → Prop} {o r : Nat} (ho : 3 * o + 2 < 3 * r) (hr : r < 104) (H : post (h, sp, ch, bl, co, on, ba, ra, gu, se, si, st, la, pu, ps, sc, he, xb, upd xc r (xc o), cw_cp2 xi xi (3 * o) (3 * r) 3, xf, xa, xe, tc, ts, ta, bc, bs, bm)) :
    ∀ d j, j + d = 3 → wX_putOnChain_105 post (nI o) (nI r) h sp ch bl (d + 1) (nI j) co on ba ra gu se si st la pu ps sc he xb xc (cw_cp2 xi xi (3 * o) (3 * r) j) xf xa xe tc ts ta bc bs bm := by
  intro d
  induction d with
  | zero =>
    intro j hj
    have : j = 3 := by omega
    subst this
    simp (disch := omega) only [wX_putOnChain_105, cw_le3, cw_m2, cw_m3, cw_m4, cw_m13, cw_2m, cw_3m, cw_12m, cw_24m, cw_36m, cw_a12, cw_a3, nI_add, nI_1, pk_sub, nI_clamp, vp_in_nI, Nat.le_refl, forall_eq, nI_leI, nI_ltI, nI_eq, true_implies, forall_const, not_true_eq_false, not_false_eq_true, false_implies, and_true, true_and, implies_true, and_self, reduceIte]
    exact H
  | succ d ih =>
    intro j hj
    have q : ¬ 3 ≤ j := by omega
    have := ih (j + 1) (by omega)
    rw [← cw_cpyS xi (show 3 * o + j < 3 * r by omega)] at this
    rw [wX_putOnChain_105]
    simp (disch := omega) only [cw_le3, cw_m2, cw_m3, cw_m4, cw_m13, cw_2m, cw_3m, cw_12m, cw_24m, cw_36m, cw_a12, cw_a3, nI_add, nI_1, pk_sub, nI_clamp, vp_in_nI, q, forall_eq, nI_leI, nI_ltI, nI_eq, true_implies, forall_const, not_true_eq_false, not_false_eq_true, false_implies, and_true, true_and, implies_true, and_self, reduceIte]
    exact this
theorem xs_put {post : SX → Prop} {c s k a : Nat} (hc : c < 8) (hs : s < 2) (hk : k < 12) (ha : a < 6) (ea : si (2 * c + 1 - s) = nI a)
    (H : post (h, sp, ch, bl, upd co a (co a + xb (2 * (13 * c + k) + 1 - s)), on, ba, ra, gu, se, si, upd st c 1, la, upd pu c (nI k), upd ps c (nI s), upd sc c h, upd he c (xb (2 * (13 * c + k) + s)), xb, upd xc (13 * c + 12) (xc (13 * c + k)), cw_cp2 xi xi (3 * (13 * c + k)) (3 * (13 * c + 12)) 3, xf, xa, xe, tc, ts, ta, bc, bs, bm)) :
    wpX_putOnChain post (h, sp, ch, bl, co, on, ba, ra, gu, se, si, st, la, pu, ps, sc, he, xb, xc, xi, xf, xa, xe, tc, ts, ta, bc, bs, bm) (nI c) (nI s) (nI k) := by
  simp (disch := omega) only [wpX_putOnChain, cw_m2, cw_m3, cw_m4, cw_m13, cw_2m, cw_3m, cw_12m, cw_24m, cw_36m, cw_a12, cw_a3, nI_add, nI_1, pk_sub, nI_clamp, vp_in_nI, ea, forall_eq, nI_leI, nI_ltI, nI_eq, true_implies, forall_const, not_true_eq_false, not_false_eq_true, false_implies, and_true, true_and, implies_true, and_self, reduceIte]
  refine ⟨4, ?_⟩
  have := xs_put105 (post := post) (xi := xi) (xc := xc) (show 3 * (13 * c + k) + 2 < 3 * (13 * c + 12) by omega) (by omega) H 3 0 rfl
  rw [cw_cp2_0] at this
  exact this
theorem xs_knows {post : Int32 → Prop} {L p : Nat} (hL : L < 64) (hp : p < 6) (h1 : bt (se p) (L / 4) = true → post 1) (h0 : ¬ bt (se p) (L / 4) = true → post 0) : wpX_knowsSecretOf post (h, sp, ch, bl, co, on, ba, ra, gu, se, si, st, la, pu, ps, sc, he, xb, xc, xi, xf, xa, xe, tc, ts, ta, bc, bs, bm) (nI L) (nI p) := by
  simp (disch := omega) only [wpX_knowsSecretOf, cw_n4, cw_d4, cw_bit0, cw_m2, cw_m3, cw_m4, cw_m13, cw_2m, cw_3m, cw_12m, cw_24m, cw_36m, cw_a12, cw_a3, nI_add, nI_1, pk_sub, nI_clamp, vp_in_nI, forall_eq, nI_leI, nI_ltI, nI_eq, true_implies, forall_const, not_true_eq_false, not_false_eq_true, false_implies, and_true, true_and, implies_true, and_self, reduceIte]
  cases q : bt (se p) (L / 4)
  · simp only [forall_eq, nI_leI, nI_ltI, nI_eq, true_implies, forall_const, not_true_eq_false, not_false_eq_true, false_implies, and_true, true_and, implies_true, and_self, reduceIte]
    exact h0 (by rw [q]; decide)
  · simp only [Bool.true_eq_false, forall_eq, nI_leI, nI_ltI, nI_eq, true_implies, forall_const, not_true_eq_false, not_false_eq_true, false_implies, and_true, true_and, implies_true, and_self, reduceIte]
    exact h1 q
theorem xs_due24 {post : Int32 → Prop} {c s L a : Nat} {z : Int32} (hc : c < 8) (hs : s < 2) (hL : L < 64) (ha : a < 6) (ea : si (2 * c + s) = nI a) (hz : z = 0 ∨ z = 1)
    (m0 : xf L = nI s → ¬ xe L ≤ h → post 0) (m2 : xf L = nI s → xe L ≤ h → z = 1 → post 2) (m3 : xf L = nI s → xe L ≤ h → z = 0 → post 3)
    (o0 : ¬ xf L = nI s → ¬ bt (se a) (L / 4) = true → post 0) (o1 : ¬ xf L = nI s → bt (se a) (L / 4) = true → z = 1 → post 1)
    (o2 : ¬ xf L = nI s → bt (se a) (L / 4) = true → z = 0 → h + 1 < xe L → post 0) (o3 : ¬ xf L = nI s → bt (se a) (L / 4) = true → z = 0 → ¬ h + 1 < xe L → post 3) :
    wX_dueAct_24 post (nI c) (nI s) (nI L) z h sp ch bl co on ba ra gu se si st la pu ps sc he xb xc xi xf xa xe tc ts ta bc bs bm := by
  simp (disch := omega) only [wX_dueAct_24, cw_m2, cw_m3, cw_m4, cw_m13, cw_2m, cw_3m, cw_12m, cw_24m, cw_36m, cw_a12, cw_a3, nI_add, nI_1, pk_sub, nI_clamp, vp_in_nI, ea, forall_eq, nI_leI, nI_ltI, nI_eq, true_implies, forall_const, not_true_eq_false, not_false_eq_true, false_implies, and_true, true_and, implies_true, and_self, reduceIte]
  refine br_c (fun q => ?_) (fun q => xs_knows hL ha (fun b => ?_) (fun b => ?_))
  · refine br_c (fun e => ?_) (fun e => m0 q e)
    rcases hz with rfl | rfl
    · exact br_t rfl (m3 q e rfl)
    · exact br_f cw_n1 (m2 q e rfl)
  · refine br_f cw_n1 ?_
    rcases hz with rfl | rfl
    · exact br_t rfl (br_c (fun e => o2 q b rfl e) (fun e => o3 q b rfl e))
    · exact br_f cw_n1 (o1 q b rfl)
  · exact br_t rfl (o0 q b)
def cw_can (st la on si : Nat → Int32) (c : Nat) : Prop := cw_rd st on si c ∧ ¬ 11 ≤ la c
theorem xs_due {post : Int32 → Prop} {c s L a : Nat} (hc : c < 8) (hs : s < 2) (hL : L < 64) (ha : a < 6) (ea : si (2 * c + s) = nI a) (hsi : ∀ i, i < 16 → ∃ a, a < 6 ∧ si i = nI a)
    (m0 : xf L = nI s → ¬ xe L ≤ h → post 0) (m2 : xf L = nI s → xe L ≤ h → cw_can st la on si c → post 2) (m3 : xf L = nI s → xe L ≤ h → ¬ cw_can st la on si c → post 3)
    (o0 : ¬ xf L = nI s → ¬ bt (se a) (L / 4) = true → post 0) (o1 : ¬ xf L = nI s → bt (se a) (L / 4) = true → cw_can st la on si c → post 1)
    (o2 : ¬ xf L = nI s → bt (se a) (L / 4) = true → ¬ cw_can st la on si c → h + 1 < xe L → post 0) (o3 : ¬ xf L = nI s → bt (se a) (L / 4) = true → ¬ cw_can st la on si c → ¬ h + 1 < xe L → post 3) :
    wpX_dueAct post (h, sp, ch, bl, co, on, ba, ra, gu, se, si, st, la, pu, ps, sc, he, xb, xc, xi, xf, xa, xe, tc, ts, ta, bc, bs, bm) (nI c) (nI s) (nI L) := by
  unfold wpX_dueAct
  dsimp only
  refine xs_isReady hc hsi (fun q => ?_) (fun q => ?_)
  · refine br_f cw_n1 ⟨pk_in c 8 hc, ?_⟩
    rw [nI_clamp (by omega)]
    refine br_c (fun l => ?_) (fun l => ?_)
    · have nc : ¬ cw_can st la on si c := fun z => z.2 l
      exact xs_due24 hc hs hL ha ea (Or.inl rfl) m0 (fun _ _ z => absurd z.symm cw_n1) (fun x y _ => m3 x y nc) o0 (fun _ _ z => absurd z.symm cw_n1) (fun x y _ => o2 x y nc) (fun x y _ => o3 x y nc)
    · exact xs_due24 hc hs hL ha ea (Or.inr rfl) m0 (fun x y _ => m2 x y ⟨q, l⟩) (fun _ _ z => absurd z cw_n1) o0 (fun x y _ => o1 x y ⟨q, l⟩) (fun _ _ z => absurd z cw_n1) (fun _ _ z => absurd z cw_n1)
  · have nc : ¬ cw_can st la on si c := fun z => q z.1
    refine br_t rfl ?_
    exact xs_due24 hc hs hL ha ea (Or.inl rfl) m0 (fun _ _ z => absurd z.symm cw_n1) (fun x y _ => m3 x y nc) o0 (fun _ _ z => absurd z.symm cw_n1) (fun x y _ => o2 x y nc) (fun x y _ => o3 x y nc)
theorem xs_end1 {post : SX → Prop} {c l j L f m a : Nat} (hc : c < 8) (hl : l < 11) (el : la c = nI l) (hj : j ≤ 2) (eL : xi (3 * (13 * c + l) + j) = nI L) (hL : L < 64) (ef : xf L = nI f) (hf : f < 2) (en : xc (13 * c + l) = nI (m + 1)) (ha : a < 6) (ea : si (2 * c + f) = nI a)
    (H : post (h, sp, ch, bl, co, on, ba, ra, gu, upd se a (se a ||| ((1 : Int32) <<< (nI (L / 4) &&& 31))), si, st, upd la c (nI (l + 1)), pu, ps, sc, he, upd (cw_nb xb (13 * c + l) (13 * c + l + 1)) (2 * (13 * c + l + 1) + 1 - f) ((cw_nb xb (13 * c + l) (13 * c + l + 1)) (2 * (13 * c + l + 1) + 1 - f) + xa L), upd (upd xc (13 * c + l + 1) (xc (13 * c + l))) (13 * c + l + 1) (nI m), cw_shf (cw_cp2 xi xi (3 * (13 * c + l)) (3 * (13 * c + l + 1)) 3) (3 * (13 * c + l + 1) + j) (3 * (13 * c + l + 1) + 2), xf, xa, xe, tc, ts, ta, bc, bs, bm)) : wpX_endLock post (h, sp, ch, bl, co, on, ba, ra, gu, se, si, st, la, pu, ps, sc, he, xb, xc, xi, xf, xa, xe, tc, ts, ta, bc, bs, bm) (nI c) (nI j) 1 := by
  unfold wpX_endLock
  dsimp only
  refine xs_mns hc hl el ?_
  have e1 : cw_cp2 xi xi (3 * (13 * c + l)) (3 * (13 * c + l + 1)) 3 (3 * (13 * c + l + 1) + j) = nI L := by rw [cw_cp2_in _ _ (by omega)]; exact eL
  simp (disch := omega) only [cw_m2, cw_m3, cw_m4, cw_m13, cw_2m, cw_3m, cw_12m, cw_24m, cw_36m, cw_a12, cw_a3, nI_add, nI_1, pk_sub, nI_clamp, vp_in_nI, e1, ef, ea, cw_n4, cw_d4, forall_eq, nI_leI, nI_ltI, nI_eq, true_implies, forall_const, not_true_eq_false, not_false_eq_true, false_implies, and_true, true_and, implies_true, and_self, reduceIte]
  unfold wX_endLock_108
  refine xs_rem (m := m) (by omega) hj (by rw [pk_us, en]) ?_
  exact H
theorem xs_end2 {post : SX → Prop} {c l j L f m : Nat} (hc : c < 8) (hl : l < 11) (el : la c = nI l) (hj : j ≤ 2) (eL : xi (3 * (13 * c + l) + j) = nI L) (hL : L < 64) (ef : xf L = nI f) (hf : f < 2) (en : xc (13 * c + l) = nI (m + 1))
    (H : post (h, sp, ch, bl, co, on, ba, ra, gu, se, si, st, upd la c (nI (l + 1)), pu, ps, sc, he, upd (cw_nb xb (13 * c + l) (13 * c + l + 1)) (2 * (13 * c + l + 1) + f) ((cw_nb xb (13 * c + l) (13 * c + l + 1)) (2 * (13 * c + l + 1) + f) + xa L), upd (upd xc (13 * c + l + 1) (xc (13 * c + l))) (13 * c + l + 1) (nI m), cw_shf (cw_cp2 xi xi (3 * (13 * c + l)) (3 * (13 * c + l + 1)) 3) (3 * (13 * c + l + 1) + j) (3 * (13 * c + l + 1) + 2), xf, xa, xe, tc, ts, ta, bc, bs, bm)) : wpX_endLock post (h, sp, ch, bl, co, on, ba, ra, gu, se, si, st, la, pu, ps, sc, he, xb, xc, xi, xf, xa, xe, tc, ts, ta, bc, bs, bm) (nI c) (nI j) 2 := by
  unfold wpX_endLock
  dsimp only
  refine xs_mns hc hl el ?_
  have e1 : cw_cp2 xi xi (3 * (13 * c + l)) (3 * (13 * c + l + 1)) 3 (3 * (13 * c + l + 1) + j) = nI L := by rw [cw_cp2_in _ _ (by omega)]; exact eL
  have n2 : ¬ (2 : Int32) = 1 := by decide
  simp (disch := omega) only [cw_m2, cw_m3, cw_m4, cw_m13, cw_2m, cw_3m, cw_12m, cw_24m, cw_36m, cw_a12, cw_a3, nI_add, nI_1, pk_sub, nI_clamp, vp_in_nI, e1, ef, n2, cw_n4, cw_d4, forall_eq, nI_leI, nI_ltI, nI_eq, true_implies, forall_const, not_true_eq_false, not_false_eq_true, false_implies, and_true, true_and, implies_true, and_self, reduceIte]
  unfold wX_endLock_108
  refine xs_rem (m := m) (by omega) hj (by rw [pk_us, en]) ?_
  exact H
end XW
