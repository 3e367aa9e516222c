/-! part 21: the search of X for a route -/
section XR
variable {h sp ch bl yn : Int32} {co on ba ra gu se si st la pu ps sc he xb xc xi xf xa xe tc ts ta bc bs bm pb ou yb yl yf ya ys ye zf za zs ze wy pt su bb bu : Nat → Int32}
def cw_ca (la xc xb : Nat → Int32) (c s a : Nat) : Prop := ¬ 11 ≤ la c ∧ xc (13 * c + (la c).toNatClampNeg) < 3 ∧ nI a ≤ xb (2 * (13 * c + (la c).toNatClampNeg) + s)
theorem cw_m1s (m : Nat) : nI m + (-1) = nI m - 1 := (Int32.sub_eq_add_neg (nI m) 1).symm
theorem cw_z1 : nI 0 - 1 < 0 := by decide
theorem cw_m8 (a : Nat) : nI a * 8 = nI (a * 8) := pk_mul a 8
theorem xs_readRow {post : SX → Prop} {n code : Nat} (hn : n ≤ 4) (hcode : code < 2 ^ 31) (H : ∀ tc' : Nat → Int32, (∀ i, i < n → tc' i = nI (ro_dig n code i)) → post (h, sp, ch, bl, co, on, ba, ra, gu, se, si, st, la, pu, ps, sc, he, xb, xc, xi, xf, xa, xe, tc', ts, ta, bc, bs, bm)) : wpX_readRow post (h, sp, ch, bl, co, on, ba, ra, gu, se, si, st, la, pu, ps, sc, he, xb, xc, xi, xf, xa, xe, tc, ts, ta, bc, bs, bm) (nI n) (nI code) := by
  have L : ∀ m, m ≤ n → ∀ tc : Nat → Int32, (∀ i, m ≤ i → i < n → tc i = nI (ro_dig n code i)) → wX_readRow_7 post h sp ch bl (m + 1) (nI (code / 8 ^ (n - m))) (nI m - 1) co on ba ra gu se si st la pu ps sc he xb xc xi xf xa xe tc ts ta bc bs bm := by
    intro m
    induction m with
    | zero =>
      intro _ tc ht
      rw [wX_readRow_7]
      exact br_t cw_z1 (H tc (fun i hi => ht i (Nat.zero_le _) hi))
    | succ m ih =>
      intro hm tc ht
      have hle : code / 8 ^ (n - (m + 1)) ≤ code := Nat.div_le_self _ _
      have hd : code / 8 ^ (n - (m + 1)) / 8 = code / 8 ^ (n - m) := by
        rw [Nat.div_div_eq_div_mul, ← Nat.pow_succ, show n - m = (n - (m + 1)) + 1 by omega]
      have q : ¬ nI m < 0 := nI_pos (by omega)
      rw [wX_readRow_7, nI_pred]
      simp (disch := omega) only [q, cw_n8, cw_r8, cw_d8, hd, cw_m2, cw_m3, cw_m4, cw_m13, cw_2m, cw_3m, cw_12m, cw_24m, cw_36m, cw_a12, cw_a3, nI_add, nI_1, pk_sub, nI_clamp, vp_in_nI, cw_m1s, forall_eq, nI_leI, nI_ltI, nI_eq, true_implies, forall_const, not_true_eq_false, not_false_eq_true, false_implies, and_true, true_and, implies_true, and_self, reduceIte]
      refine ih (by omega) _ (fun i h1 h2 => ?_)
      by_cases e : i = m
      · subst e
        rw [pk_us]
        unfold ro_dig
        rw [show n - 1 - i = n - (i + 1) by omega]
        have hh := cw_r8 (a := code / 8 ^ (n - (i + 1))) (by omega)
        rw [cw_d8 (by omega), hd] at hh
        exact hh
      · rw [pk_un e]
        exact ht i (by omega) h2
  have := L n (Nat.le_refl _) tc (fun i h1 h2 => by omega)
  rw [Nat.sub_self, Nat.pow_zero, Nat.div_one] at this
  unfold wpX_readRow
  dsimp only
  exact nm_e ⟨_, this⟩
theorem xs_leadsTo {post : Int32 → SX → Prop} {C n p q : Nat} {w : Nat → Nat} (hC : C ≤ 8) (hsi : ∀ i, i < 16 → ∃ a, a < 6 ∧ si i = nI a) (hn : n ≤ 4) (hp : p < 6) (hq : q < 6) (hw : ∀ i, i < n → w i ≤ 7) (hw' : ∀ i, i < n → tc i = nI (w i))
    (H1 : ro_walk (cw_nt 16 si) C (cw_rd st on si) w p n → ro_pt (cw_nt 16 si) w p n = q → ∀ ts' : Nat → Int32, (∀ i, i < n → ts' i = nI (ro_sx (cw_nt 16 si) (w i) (ro_pt (cw_nt 16 si) w p i))) → post 1 (h, sp, nI C, bl, co, on, ba, ra, gu, se, si, st, la, pu, ps, sc, he, xb, xc, xi, xf, xa, xe, tc, ts', ta, bc, bs, bm))
    (H0 : ¬ (ro_walk (cw_nt 16 si) C (cw_rd st on si) w p n ∧ ro_pt (cw_nt 16 si) w p n = q) → ∀ ts' : Nat → Int32, post 0 (h, sp, nI C, bl, co, on, ba, ra, gu, se, si, st, la, pu, ps, sc, he, xb, xc, xi, xf, xa, xe, tc, ts', ta, bc, bs, bm)) : wpX_leadsTo post (h, sp, nI C, bl, co, on, ba, ra, gu, se, si, st, la, pu, ps, sc, he, xb, xc, xi, xf, xa, xe, tc, ts, ta, bc, bs, bm) (nI n) (nI p) (nI q) := by
  have sd6 : ∀ i, cw_nt 16 si i < 6 := cw_nt_lt (by omega) (by omega) hsi
  have sde : ∀ i, i < 16 → si i = nI (cw_nt 16 si i) := fun i hi => (cw_nt_e hi (by omega) (hsi i hi)).1
  have p6 : ∀ i, ro_pt (cw_nt 16 si) w p i < 6 := ro_pt_lt (cw_nt 16 si) sd6 hp
  have L : ∀ d i (met : Int32) (ts : Nat → Int32), i + d = n → (∀ j, j < i → ro_hop (cw_nt 16 si) C (cw_rd st on si) w p j) → ro_met (cw_nt 16 si) met w p i → (∀ j, j < i → ts j = nI (ro_sx (cw_nt 16 si) (w j) (ro_pt (cw_nt 16 si) w p j))) →
      wX_leadsTo_11 post (nI n) (nI q) h sp (nI C) bl (d + 1) (nI (ro_pt (cw_nt 16 si) w p i)) met (nI i) co on ba ra gu se si st la pu ps sc he xb xc xi xf xa xe tc ts ta bc bs bm := by
    intro d
    induction d with
    | zero =>
      intro i met ts hi hh _ hts
      have e : i = n := by omega
      subst e
      have := p6 i
      rw [wX_leadsTo_11]
      simp (disch := omega) only [Nat.le_refl, forall_eq, nI_leI, nI_ltI, nI_eq, true_implies, forall_const, not_true_eq_false, not_false_eq_true, false_implies, and_true, true_and, implies_true, and_self, reduceIte]
      exact br_c (fun z => H1 hh z ts hts) (fun z => H0 (fun y => z y.2) ts)
    | succ d ih =>
      intro i met ts hi hh hmet hts
      have hwi := hw i (by omega)
      have q1 : ¬ n ≤ i := by omega
      have hP := p6 i
      have hP1 := p6 (i + 1)
      have bad : ¬ ro_hop (cw_nt 16 si) C (cw_rd st on si) w p i → post 0 (h, sp, nI C, bl, co, on, ba, ra, gu, se, si, st, la, pu, ps, sc, he, xb, xc, xi, xf, xa, xe, tc, ts, ta, bc, bs, bm) := fun z => H0 (fun y => z (y.1 i (by omega))) ts
      rw [wX_leadsTo_11]
      simp (disch := omega) only [q1, hw' i (by omega), cw_m2, cw_m3, cw_m4, cw_m13, cw_2m, cw_3m, cw_12m, cw_24m, cw_36m, cw_a12, cw_a3, nI_add, nI_1, pk_sub, nI_clamp, vp_in_nI, forall_eq, nI_leI, nI_ltI, nI_eq, true_implies, forall_const, not_true_eq_false, not_false_eq_true, false_implies, and_true, true_and, implies_true, and_self, reduceIte]
      have s0 := sde (2 * w i) (by omega)
      have s1 := sde (2 * w i + 1) (by omega)
      have go : ∀ (s : Nat) (P : Prop), s < 2 → s = ro_sx (cw_nt 16 si) (w i) (ro_pt (cw_nt 16 si) w p i) → si (2 * w i + 1 - s) = nI (ro_pt (cw_nt 16 si) w p (i + 1)) → w i < C → (cw_nt 16 si (2 * w i) = ro_pt (cw_nt 16 si) w p i ∨ cw_nt 16 si (2 * w i + 1) = ro_pt (cw_nt 16 si) w p i) → cw_rd st on si (w i) →
          (bt met (ro_pt (cw_nt 16 si) w p (i + 1)) = true → post 0 (h, sp, nI C, bl, co, on, ba, ra, gu, se, si, st, la, pu, ps, sc, he, xb, xc, xi, xf, xa, xe, tc, ts, ta, bc, bs, bm)) ∧ (bt met (ro_pt (cw_nt 16 si) w p (i + 1)) = false → wX_leadsTo_11 post (nI n) (nI q) h sp (nI C) bl (d + 1) (nI (ro_pt (cw_nt 16 si) w p (i + 1))) (met ||| ((1 : Int32) <<< (nI (ro_pt (cw_nt 16 si) w p (i + 1)) &&& 31))) (nI (i + 1)) co on ba ra gu se si st la pu ps sc he xb xc xi xf xa xe tc (upd ts i (nI s)) ta bc bs bm) := by
        intro s P hs es en hwC hside hrd
        refine ⟨fun hb => ?_, fun hb => ?_⟩
        · refine bad (fun z => ?_)
          obtain ⟨j, hj, ej⟩ := (hmet _ (by omega)).mp hb
          exact z.2.2.2 j hj ej
        · refine ih (i + 1) _ _ (by omega) (fun j hj => ?_) (ro_met_S (cw_nt 16 si) hmet (by omega)) (fun j hj => ?_)
          · rcases Nat.lt_or_ge j i with h' | h'
            · exact hh j h'
            · have : j = i := by omega
              subst this
              refine ⟨hwC, hside, hrd, fun j' hj' ej' => ?_⟩
              have := (hmet _ (by omega)).mpr ⟨j', hj', ej'⟩
              rw [hb] at this
              exact absurd this (by decide)
          · by_cases e : j = i
            · subst e
              rw [pk_us, es]
            · rw [pk_un e]
              exact hts j (by omega)
      refine xs_sideOf (by omega) hC (fun hwC a => ?_) (fun hwC a b => ?_) (fun hno => br_t rfl (bad (fun z => ?_)))
      · have e0 : cw_nt 16 si (2 * w i) = ro_pt (cw_nt 16 si) w p i := (nI_eq (by have := sd6 (2 * w i); omega) (by omega)).mp (s0.symm.trans a)
        have es : 0 = ro_sx (cw_nt 16 si) (w i) (ro_pt (cw_nt 16 si) w p i) := by unfold ro_sx; rw [if_pos e0]
        have en : si (2 * w i + 1) = nI (ro_pt (cw_nt 16 si) w p (i + 1)) := by
          show si (2 * w i + 1) = nI (ro_nx (cw_nt 16 si) (w i) (ro_pt (cw_nt 16 si) w p i))
          unfold ro_nx
          rw [if_pos e0]
          exact s1
        refine br_f cw_nm (xs_isReady (by omega) hsi (fun r => br_f cw_n1 ?_) (fun r => br_t rfl (bad (fun z => r z.2.2.1))))
        have g := go 0 True (by omega) es en hwC (Or.inl e0) r
        have z0 : (0 : Int32) = nI 0 := rfl
        have em : nI (2 * w i + 1) - 0 = nI (2 * w i + 1) := Int32.sub_zero _
        rw [em]
        simp (disch := omega) only [cw_m2, cw_m3, cw_m4, cw_m13, cw_2m, cw_3m, cw_12m, cw_24m, cw_36m, cw_a12, cw_a3, nI_add, nI_1, pk_sub, nI_clamp, vp_in_nI, en, cw_bit0, forall_eq, nI_leI, nI_ltI, nI_eq, true_implies, forall_const, not_true_eq_false, not_false_eq_true, false_implies, and_true, true_and, implies_true, and_self, reduceIte]
        refine br_c g.2 (fun z => g.1 ?_)
        cases hb : bt met (ro_pt (cw_nt 16 si) w p (i + 1))
        · exact absurd hb z
        · rfl
      · have e0 : ¬ cw_nt 16 si (2 * w i) = ro_pt (cw_nt 16 si) w p i := fun z => a (by rw [s0, z])
        have e1 : cw_nt 16 si (2 * w i + 1) = ro_pt (cw_nt 16 si) w p i := (nI_eq (by have := sd6 (2 * w i + 1); omega) (by omega)).mp (s1.symm.trans b)
        have es : 1 = ro_sx (cw_nt 16 si) (w i) (ro_pt (cw_nt 16 si) w p i) := by unfold ro_sx; rw [if_neg e0]
        have en : si (2 * w i) = nI (ro_pt (cw_nt 16 si) w p (i + 1)) := by
          show si (2 * w i) = nI (ro_nx (cw_nt 16 si) (w i) (ro_pt (cw_nt 16 si) w p i))
          unfold ro_nx
          rw [if_neg e0]
          exact s0
        refine br_f cw_nm1 (xs_isReady (by omega) hsi (fun r => br_f cw_n1 ?_) (fun r => br_t rfl (bad (fun z => r z.2.2.1))))
        have g := go 1 True (by omega) es en hwC (Or.inr e1) r
        rw [nI_pred]
        simp (disch := omega) only [cw_m2, cw_m3, cw_m4, cw_m13, cw_2m, cw_3m, cw_12m, cw_24m, cw_36m, cw_a12, cw_a3, nI_add, nI_1, pk_sub, nI_clamp, vp_in_nI, en, cw_bit0, forall_eq, nI_leI, nI_ltI, nI_eq, true_implies, forall_const, not_true_eq_false, not_false_eq_true, false_implies, and_true, true_and, implies_true, and_self, reduceIte]
        refine br_c g.2 (fun z => g.1 ?_)
        cases hb : bt met (ro_pt (cw_nt 16 si) w p (i + 1))
        · exact absurd hb z
        · rfl
      · obtain ⟨n1, n2⟩ := hno z.1
        rcases z.2.1 with y | y
        · exact n1 (by rw [s0, y])
        · exact n2 (by rw [s1, y])
  unfold wpX_leadsTo
  dsimp only
  exact nm_e ⟨_, L n 0 _ ts (by omega) (fun j hj => by omega) (ro_met_0 (cw_nt 16 si) w (by omega)) (fun j hj => by omega)⟩
theorem xs_carries {post : Int32 → SX → Prop} {C n p v : Nat} {w : Nat → Nat} (hC : C ≤ 8) (hsi : ∀ i, i < 16 → ∃ a, a < 6 ∧ si i = nI a) (hD : cw_D on ba ra) (hla : ∀ c, c < 8 → ∃ l, l < 12 ∧ la c = nI l) (hn : n ≤ 4) (hp : p < 6) (hv : v ≤ 255) (hw' : ∀ i, i < n → tc i = nI (w i))
    (hwk : ro_walk (cw_nt 16 si) C (cw_rd st on si) w p n) (hts : ∀ i, i < n → ts i = nI (ro_sx (cw_nt 16 si) (w i) (ro_pt (cw_nt 16 si) w p i)))
    (H1 : ro_car (cw_nt 16 si) (cw_nt 6 ba) (cw_nt 6 ra) (cw_ca la xc xb) w p n v → ∀ ta' : Nat → Int32, (∀ i, i < n → ta' i = nI (ro_am (cw_nt 16 si) (cw_nt 6 ba) (cw_nt 6 ra) w p n v (n - 1 - i))) → post 1 (h, sp, nI C, bl, co, on, ba, ra, gu, se, si, st, la, pu, ps, sc, he, xb, xc, xi, xf, xa, xe, tc, ts, ta', bc, bs, bm))
    (H0 : ¬ ro_car (cw_nt 16 si) (cw_nt 6 ba) (cw_nt 6 ra) (cw_ca la xc xb) w p n v → ∀ ta' : Nat → Int32, post 0 (h, sp, nI C, bl, co, on, ba, ra, gu, se, si, st, la, pu, ps, sc, he, xb, xc, xi, xf, xa, xe, tc, ts, ta', bc, bs, bm)) : wpX_carries post (h, sp, nI C, bl, co, on, ba, ra, gu, se, si, st, la, pu, ps, sc, he, xb, xc, xi, xf, xa, xe, tc, ts, ta, bc, bs, bm) (nI n) (nI v) := by
  have sd6 : ∀ i, cw_nt 16 si i < 6 := cw_nt_lt (by omega) (by omega) hsi
  have sde : ∀ i, i < 16 → si i = nI (cw_nt 16 si i) := fun i hi => (cw_nt_e hi (by omega) (hsi i hi)).1
  have p6 : ∀ i, ro_pt (cw_nt 16 si) w p i < 6 := ro_pt_lt (cw_nt 16 si) sd6 hp
  have b9 : ∀ i, cw_nt 6 ba i ≤ 9 := fun i => by
    have := cw_nt_lt (N := 6) (B := 10) (f := ba) (by omega) (by omega) (fun i hi => (hD i hi).2.1) i
    omega
  have r20 : ∀ i, cw_nt 6 ra i ≤ 20 := fun i => by
    have := cw_nt_lt (N := 6) (B := 21) (f := ra) (by omega) (by omega) (fun i hi => (hD i hi).2.2) i
    omega
  have L : ∀ m, m ≤ n → ∀ ta : Nat → Int32, (∀ d, d < n - m → cw_ca la xc xb (w (n - 1 - d)) (ro_sx (cw_nt 16 si) (w (n - 1 - d)) (ro_pt (cw_nt 16 si) w p (n - 1 - d))) (ro_am (cw_nt 16 si) (cw_nt 6 ba) (cw_nt 6 ra) w p n v d)) → (∀ i, m ≤ i → i < n → ta i = nI (ro_am (cw_nt 16 si) (cw_nt 6 ba) (cw_nt 6 ra) w p n v (n - 1 - i))) →
      wX_carries_7 post h sp (nI C) bl (m + 1) (nI (ro_am (cw_nt 16 si) (cw_nt 6 ba) (cw_nt 6 ra) w p n v (n - m))) (nI m - 1) co on ba ra gu se si st la pu ps sc he xb xc xi xf xa xe tc ts ta bc bs bm := by
    intro m
    induction m with
    | zero =>
      intro _ ta hc ht
      rw [wX_carries_7]
      exact br_t cw_z1 (H1 (fun d hd => hc d (by omega)) ta (fun i hi => ht i (Nat.zero_le _) hi))
    | succ m ih =>
      intro hm ta hc ht
      have q : ¬ nI m < 0 := nI_pos (by omega)
      have hop := hwk m (by omega)
      have hwC : w m < C := hop.1
      obtain ⟨l, hl, el⟩ := hla (w m) (by omega)
      have hP := p6 m
      have hsx : ro_sx (cw_nt 16 si) (w m) (ro_pt (cw_nt 16 si) w p m) < 2 := by
        unfold ro_sx
        by_cases z : cw_nt 16 si (2 * w m) = ro_pt (cw_nt 16 si) w p m
        · rw [if_pos z]; omega
        · rw [if_neg z]; omega
      have esn : si (2 * w m + ro_sx (cw_nt 16 si) (w m) (ro_pt (cw_nt 16 si) w p m)) = nI (ro_pt (cw_nt 16 si) w p m) := by
        unfold ro_sx
        by_cases z : cw_nt 16 si (2 * w m) = ro_pt (cw_nt 16 si) w p m
        · rw [if_pos z, Nat.add_zero, sde _ (by omega), z]
        · rw [if_neg z, sde _ (by omega)]
          rcases hop.2.1 with y | y
          · exact absurd y z
          · rw [y]
      have hts := hts m (by omega)
      have ea : n - (m + 1) = n - 1 - m := by omega
      have ea' : n - 1 - (n - 1 - m) = m := by omega
      have hA := ro_am_le4 (cw_nt 16 si) (cw_nt 6 ba) (cw_nt 6 ra) (w := w) (p := p) (n := n) (v := v) hv b9 r20 (d := n - 1 - m) (by omega)
      have eB := (cw_nt_e (N := 6) (B := 10) (f := ba) hP (by omega) (hD _ hP).2.1).1
      have eR := (cw_nt_e (N := 6) (B := 21) (f := ra) hP (by omega) (hD _ hP).2.2).1
      have nR := r20 (ro_pt (cw_nt 16 si) w p m)
      have nB := b9 (ro_pt (cw_nt 16 si) w p m)
      have eN : ro_am (cw_nt 16 si) (cw_nt 6 ba) (cw_nt 6 ra) w p n v (n - m) = ro_am (cw_nt 16 si) (cw_nt 6 ba) (cw_nt 6 ra) w p n v (n - 1 - m) + (cw_nt 6 ba (ro_pt (cw_nt 16 si) w p m) + ro_am (cw_nt 16 si) (cw_nt 6 ba) (cw_nt 6 ra) w p n v (n - 1 - m) * cw_nt 6 ra (ro_pt (cw_nt 16 si) w p m) / 100) := by
        rw [show n - m = (n - 1 - m) + 1 by omega]
        show _ + (cw_nt 6 ba (ro_pt (cw_nt 16 si) w p (n - 1 - (n - 1 - m))) + _ * cw_nt 6 ra (ro_pt (cw_nt 16 si) w p (n - 1 - (n - 1 - m))) / 100) = _
        rw [ea']
      have ih' := ih (by omega)
      rw [eN] at ih'
      have hca : ∀ P : Prop, (¬ cw_ca la xc xb (w m) (ro_sx (cw_nt 16 si) (w m) (ro_pt (cw_nt 16 si) w p m)) (ro_am (cw_nt 16 si) (cw_nt 6 ba) (cw_nt 6 ra) w p n v (n - 1 - m)) → P) → (cw_ca la xc xb (w m) (ro_sx (cw_nt 16 si) (w m) (ro_pt (cw_nt 16 si) w p m)) (ro_am (cw_nt 16 si) (cw_nt 6 ba) (cw_nt 6 ra) w p n v (n - 1 - m)) → P) → P := fun P a b => by
        by_cases z : cw_ca la xc xb (w m) (ro_sx (cw_nt 16 si) (w m) (ro_pt (cw_nt 16 si) w p m)) (ro_am (cw_nt 16 si) (cw_nt 6 ba) (cw_nt 6 ra) w p n v (n - 1 - m))
        · exact b z
        · exact a z
      have bad : ¬ cw_ca la xc xb (w m) (ro_sx (cw_nt 16 si) (w m) (ro_pt (cw_nt 16 si) w p m)) (ro_am (cw_nt 16 si) (cw_nt 6 ba) (cw_nt 6 ra) w p n v (n - 1 - m)) → post 0 (h, sp, nI C, bl, co, on, ba, ra, gu, se, si, st, la, pu, ps, sc, he, xb, xc, xi, xf, xa, xe, tc, ts, ta, bc, bs, bm) := by
        intro z
        refine H0 (fun y => ?_) ta
        have := y (n - 1 - m) (by omega)
        rw [ea'] at this
        exact z this
      have good : cw_ca la xc xb (w m) (ro_sx (cw_nt 16 si) (w m) (ro_pt (cw_nt 16 si) w p m)) (ro_am (cw_nt 16 si) (cw_nt 6 ba) (cw_nt 6 ra) w p n v (n - 1 - m)) → ∀ d, d < n - m → cw_ca la xc xb (w (n - 1 - d)) (ro_sx (cw_nt 16 si) (w (n - 1 - d)) (ro_pt (cw_nt 16 si) w p (n - 1 - d))) (ro_am (cw_nt 16 si) (cw_nt 6 ba) (cw_nt 6 ra) w p n v d) := by
        intro z d hd
        by_cases e : d = n - 1 - m
        · subst e
          rw [ea']
          exact z
        · exact hc d (by omega)
      have hta : ∀ i, m ≤ i → i < n → upd ta m (nI (ro_am (cw_nt 16 si) (cw_nt 6 ba) (cw_nt 6 ra) w p n v (n - 1 - m))) i = nI (ro_am (cw_nt 16 si) (cw_nt 6 ba) (cw_nt 6 ra) w p n v (n - 1 - i)) := by
        intro i h1 h2
        by_cases e : i = m
        · subst e
          exact pk_us
        · rw [pk_un e]
          exact ht i (by omega) h2
      have ihh := fun z => ih' (upd ta m (nI (ro_am (cw_nt 16 si) (cw_nt 6 ba) (cw_nt 6 ra) w p n v (n - 1 - m)))) (good z) hta
      clear good hta ih ih' hc ht hca eN
      unfold cw_ca at bad ihh
      rw [el, nI_clamp (by omega)] at bad ihh
      rw [ea]
      generalize ro_am (cw_nt 16 si) (cw_nt 6 ba) (cw_nt 6 ra) w p n v (n - 1 - m) = A at hA bad ihh ⊢
      generalize ro_sx (cw_nt 16 si) (w m) (ro_pt (cw_nt 16 si) w p m) = s at hsx esn hts bad ihh
      generalize cw_nt 6 ra (ro_pt (cw_nt 16 si) w p m) = R at eR nR ihh
      generalize cw_nt 6 ba (ro_pt (cw_nt 16 si) w p m) = B at eB nB ihh
      generalize ro_pt (cw_nt 16 si) w p m = P at hP esn eR eB
      have hAR : A * R ≤ 576 * 20 := Nat.mul_le_mul hA nR
      rw [wX_carries_7, nI_pred]
      simp (disch := omega) only [q, hw' m (by omega), cw_m2, cw_m3, cw_m4, cw_m13, cw_2m, cw_3m, cw_12m, cw_24m, cw_36m, cw_a12, cw_a3, nI_add, nI_1, pk_sub, nI_clamp, vp_in_nI, el, hts, esn, eB, eR, cw_n100, pk_mul, cw_d100, cw_m1s, forall_eq, nI_leI, nI_ltI, nI_eq, true_implies, forall_const, not_true_eq_false, not_false_eq_true, false_implies, and_true, true_and, implies_true, and_self, reduceIte]
      refine br_c (fun z => bad (fun y => ?_)) (fun z1 => br_c (fun z2 => br_c (fun z3 => ihh ⟨?_, z2, z3⟩) (fun z3 => bad (fun y => z3 y.2.2))) (fun z2 => bad (fun y => z2 y.2.1)))
      · exact y.1 z
      · exact z1
  have := L n (Nat.le_refl _) ta (fun d hd => by omega) (fun i h1 h2 => by omega)
  rw [Nat.sub_self] at this
  unfold wpX_carries
  dsimp only
  exact nm_e ⟨_, this⟩
theorem xs_keep {post : SX → Prop} {n m0 : Nat} (hn : n ≤ 4) (hm : m0 ≤ 4) (ebl : bl = nI m0)
    (H1 : (m0 = 0 ∨ ta 0 < bm 0) → ∀ bc' bs' bm' : Nat → Int32, (∀ i, i < n → bc' i = tc i ∧ bs' i = ts i ∧ bm' i = ta i) → post (h, sp, ch, nI n, co, on, ba, ra, gu, se, si, st, la, pu, ps, sc, he, xb, xc, xi, xf, xa, xe, tc, ts, ta, bc', bs', bm'))
    (H0 : ¬ m0 = 0 → ¬ ta 0 < bm 0 → post (h, sp, ch, bl, co, on, ba, ra, gu, se, si, st, la, pu, ps, sc, he, xb, xc, xi, xf, xa, xe, tc, ts, ta, bc, bs, bm)) : wpX_keepIfBetter post (h, sp, ch, bl, co, on, ba, ra, gu, se, si, st, la, pu, ps, sc, he, xb, xc, xi, xf, xa, xe, tc, ts, ta, bc, bs, bm) (nI n) := by
  have L : (m0 = 0 ∨ ta 0 < bm 0) → ∃ f, wX_keepIfBetter_30 post (nI n) h sp ch (nI n) f 0 co on ba ra gu se si st la pu ps sc he xb xc xi xf xa xe tc ts ta bc bs bm := by
    intro hb
    have K : ∀ d j (bc bs bm' : Nat → Int32), j + d = n → (∀ i, i < j → bc i = tc i ∧ bs i = ts i ∧ bm' i = ta i) → wX_keepIfBetter_30 post (nI n) h sp ch (nI n) (d + 1) (nI j) co on ba ra gu se si st la pu ps sc he xb xc xi xf xa xe tc ts ta bc bs (bm') := by
      intro d
      induction d with
      | zero =>
        intro j bc bs bm' hj ht
        have e : j = n := by omega
        subst e
        rw [wX_keepIfBetter_30]
        simp (disch := omega) only [Nat.le_refl, forall_eq, nI_leI, nI_ltI, nI_eq, true_implies, forall_const, not_true_eq_false, not_false_eq_true, false_implies, and_true, true_and, implies_true, and_self, reduceIte]
        exact H1 hb bc bs bm' ht
      | succ d ih =>
        intro j bc bs bm' hj ht
        have q : ¬ n ≤ j := by omega
        rw [wX_keepIfBetter_30]
        simp (disch := omega) only [q, cw_m2, cw_m3, cw_m4, cw_m13, cw_2m, cw_3m, cw_12m, cw_24m, cw_36m, cw_a12, cw_a3, nI_add, nI_1, pk_sub, nI_clamp, vp_in_nI, forall_eq, nI_leI, nI_ltI, nI_eq, true_implies, forall_const, not_true_eq_false, not_false_eq_true, false_implies, and_true, true_and, implies_true, and_self, reduceIte]
        refine ih (j + 1) _ _ _ (by omega) (fun i hi => ?_)
        by_cases e : i = j
        · subst e
          exact ⟨pk_us, pk_us, pk_us⟩
        · rw [pk_un e, pk_un e, pk_un e]
          exact ht i (by omega)
    exact ⟨_, K n 0 bc bs bm (by omega) (fun i hi => by omega)⟩
  unfold wpX_keepIfBetter
  dsimp only
  rw [ebl] at H0 ⊢
  refine br_c (fun z => L (Or.inl ?_)) (fun z => br_c (fun y => L (Or.inr y)) (fun y => H0 (fun x => z ?_) y))
  · have := (cw_el0 (show m0 < 2 ^ 31 by omega)).mp z
    omega
  · rw [x]
    decide
end XR
