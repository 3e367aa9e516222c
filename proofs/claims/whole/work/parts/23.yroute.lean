/-! part 23: the reference's search for a route -/
section YR
variable {h sp ch bl yn : Int32} {co on ba ra gu se si st la pu ps sc he xb xc xi xf xa xe tc ts ta bc bs bm pb ou yb yl yf ya ys ye zf za zs ze wy pt su bb bu : Nat → Int32}
theorem ys_brings {post : Int32 → SY → Prop} {C n p v : Nat} {w : Nat → Nat} {ca : Nat → Nat → Nat → Prop} (hC : C ≤ 8) (hsi : ∀ i, i < 16 → ∃ a, a < 6 ∧ si i = nI a) (hne : ∀ c, c < C → ¬ si (2 * c) = si (2 * c + 1)) (hD : cw_D on ba ra) (hla : ∀ c, c < 8 → ∃ l, l < 12 ∧ la c = nI l)
    (hca : ∀ c s a l, c < 8 → s < 2 → l < 12 → la c = nI l → (ca c s a ↔ (¬ yb (2 * (12 * c + l) + s) < nI a ∧ ¬ 2 < yl (12 * c + l) ∧ la c ≤ 10)))
    (h1 : 1 ≤ n) (hn : n ≤ 4) (hp : p < 6) (hv : v ≤ 255) (hwy : ∀ i, i < n → wy i = nI (w i)) (hpt : ∀ i, i ≤ n → pt i = nI (ro_pt (cw_nt 16 si) w p i))
    (hwk : ro_walk (cw_nt 16 si) C (cw_rd st on si) w p n)
    (H1 : ro_car (cw_nt 16 si) (cw_nt 6 ba) (cw_nt 6 ra) ca w p n v → ∀ su' : Nat → Int32, (∀ i, i < n → su' i = nI (ro_am (cw_nt 16 si) (cw_nt 6 ba) (cw_nt 6 ra) w p n v (n - 1 - i))) → post 1 (h, sp, nI C, yn, co, ba, ra, gu, se, on, si, st, la, pu, pb, sc, he, ou, yb, yl, yf, ya, ys, ye, zf, za, zs, ze, wy, pt, su', bb, bu))
    (H0 : ¬ ro_car (cw_nt 16 si) (cw_nt 6 ba) (cw_nt 6 ra) ca w p n v → ∀ su' : Nat → Int32, post 0 (h, sp, nI C, yn, co, ba, ra, gu, se, on, si, st, la, pu, pb, sc, he, ou, yb, yl, yf, ya, ys, ye, zf, za, zs, ze, wy, pt, su', bb, bu)) : wpY_brings post (h, sp, nI C, yn, co, ba, ra, gu, se, on, si, st, la, pu, pb, sc, he, ou, yb, yl, yf, ya, ys, ye, zf, za, zs, ze, wy, pt, su, bb, bu) (nI n) (nI v) := by
  have sd6 : ∀ i, cw_nt 16 si i < 6 := cw_nt_lt (by omega) (by omega) hsi
  have sde : ∀ i, i < 16 → si i = nI (cw_nt 16 si i) := fun i hi => (cw_nt_e hi (by omega) (hsi i hi)).1
  have p6 : ∀ i, ro_pt (cw_nt 16 si) w p i < 6 := ro_pt_lt (cw_nt 16 si) sd6 hp
  obtain ⟨b9, r20⟩ := cw_D9 hD
  have L : ∀ m, m ≤ n → ∀ su : Nat → Int32, (∀ d, d < n - m → ca (w (n - 1 - d)) (ro_sx (cw_nt 16 si) (w (n - 1 - d)) (ro_pt (cw_nt 16 si) w p (n - 1 - d))) (ro_am (cw_nt 16 si) (cw_nt 6 ba) (cw_nt 6 ra) w p n v d)) → (∀ i, m ≤ i → i < n → su i = nI (ro_am (cw_nt 16 si) (cw_nt 6 ba) (cw_nt 6 ra) w p n v (n - 1 - i))) →
      wY_brings_7 post (nI n) h sp (nI C) yn (m + 1) (nI (ro_am (cw_nt 16 si) (cw_nt 6 ba) (cw_nt 6 ra) w p n v (n - 1 - m))) (nI m - 1) co ba ra gu se on si st la pu pb sc he ou yb yl yf ya ys ye zf za zs ze wy pt su bb bu := by
    intro m
    induction m with
    | zero =>
      intro _ su hc ht
      rw [wY_brings_7]
      exact br_t cw_z1 (H1 (fun d hd => hc d (by omega)) su (fun i hi => ht i (Nat.zero_le _) hi))
    | succ m ih =>
      intro hm su hc ht
      have q : ¬ nI m < 0 := nI_pos (by omega)
      have hop := hwk m (by omega)
      have hwC : w m < C := hop.1
      obtain ⟨l, hl, el⟩ := hla (w m) (by omega)
      have hP := p6 m
      have hP1 := p6 (m + 1)
      have hsx : ro_sx (cw_nt 16 si) (w m) (ro_pt (cw_nt 16 si) w p m) < 2 := by
        unfold ro_sx
        by_cases z : cw_nt 16 si (2 * w m) = ro_pt (cw_nt 16 si) w p m
        · rw [if_pos z]; omega
        · rw [if_neg z]; omega
      have esn : si (2 * w m + ro_sx (cw_nt 16 si) (w m) (ro_pt (cw_nt 16 si) w p m)) = nI (ro_pt (cw_nt 16 si) w p m) := by
        unfold ro_sx
        by_cases z : cw_nt 16 si (2 * w m) = ro_pt (cw_nt 16 si) w p m
        · rw [if_pos z, Nat.add_zero, sde _ (by omega), z]
        · rw [if_neg z, sde _ (by omega)]
          rcases hop.2.1 with y | y
          · exact absurd y z
          · rw [y]
      have hnem := hne (w m) hwC
      have ea' : n - 1 - (n - 1 - m) = m := by omega
      have hA := ro_am_le4 (cw_nt 16 si) (cw_nt 6 ba) (cw_nt 6 ra) (w := w) (p := p) (n := n) (v := v) hv b9 r20 (d := n - 1 - m) (by omega)
      have hcam := hca (w m) (ro_sx (cw_nt 16 si) (w m) (ro_pt (cw_nt 16 si) w p m)) (ro_am (cw_nt 16 si) (cw_nt 6 ba) (cw_nt 6 ra) w p n v (n - 1 - m)) l (by omega) hsx hl el
      have bad : ∀ su', ¬ ca (w m) (ro_sx (cw_nt 16 si) (w m) (ro_pt (cw_nt 16 si) w p m)) (ro_am (cw_nt 16 si) (cw_nt 6 ba) (cw_nt 6 ra) w p n v (n - 1 - m)) → post 0 (h, sp, nI C, yn, co, ba, ra, gu, se, on, si, st, la, pu, pb, sc, he, ou, yb, yl, yf, ya, ys, ye, zf, za, zs, ze, wy, pt, su', bb, bu) := by
        intro su' z
        refine H0 (fun y => ?_) su'
        have := y (n - 1 - m) (by omega)
        rw [ea'] at this
        exact z this
      have good : ca (w m) (ro_sx (cw_nt 16 si) (w m) (ro_pt (cw_nt 16 si) w p m)) (ro_am (cw_nt 16 si) (cw_nt 6 ba) (cw_nt 6 ra) w p n v (n - 1 - m)) → ∀ d, d < n - m → ca (w (n - 1 - d)) (ro_sx (cw_nt 16 si) (w (n - 1 - d)) (ro_pt (cw_nt 16 si) w p (n - 1 - d))) (ro_am (cw_nt 16 si) (cw_nt 6 ba) (cw_nt 6 ra) w p n v d) := by
        intro z d hd
        by_cases e : d = n - 1 - m
        · subst e
          rw [ea']
          exact z
        · exact hc d (by omega)
      have hta : ∀ i, m ≤ i → i < n → upd su m (nI (ro_am (cw_nt 16 si) (cw_nt 6 ba) (cw_nt 6 ra) w p n v (n - 1 - m))) i = nI (ro_am (cw_nt 16 si) (cw_nt 6 ba) (cw_nt 6 ra) w p n v (n - 1 - i)) := by
        intro i h1 h2
        by_cases e : i = m
        · subst e
          exact pk_us
        · rw [pk_un e]
          exact ht i (by omega) h2
      have ihh := fun z => ih (by omega) (upd su m (nI (ro_am (cw_nt 16 si) (cw_nt 6 ba) (cw_nt 6 ra) w p n v (n - 1 - m)))) (good z) hta
      have step : wY_brings_57 post (wY_brings_7 post (nI n) h sp (nI C) yn (m + 1)) (nI n) (nI (ro_am (cw_nt 16 si) (cw_nt 6 ba) (cw_nt 6 ra) w p n v (n - 1 - m))) (nI m) h sp (nI C) yn co ba ra gu se on si st la pu pb sc he ou yb yl yf ya ys ye zf za zs ze wy pt su bb bu := by
        clear good hta ih hc ht
        generalize ro_am (cw_nt 16 si) (cw_nt 6 ba) (cw_nt 6 ra) w p n v (n - 1 - m) = A at hA bad ihh hcam ⊢
        generalize ro_sx (cw_nt 16 si) (w m) (ro_pt (cw_nt 16 si) w p m) = s at hsx esn bad ihh hcam
        simp (disch := omega) only [wY_brings_57, hwy m (by omega), hpt m (by omega), cw_m2, cw_m3, cw_m4, cw_m13, cw_2m, cw_3m, cw_12m, cw_24m, cw_36m, cw_a12, cw_a3, nI_add, nI_1, pk_sub, nI_clamp, vp_in_nI, forall_eq, nI_leI, nI_ltI, nI_eq, true_implies, forall_const, not_true_eq_false, not_false_eq_true, false_implies, and_true, true_and, implies_true, and_self, reduceIte]
        refine ys_now (by omega) el (ys_side (by omega) hsx esn hnem ?_)
        simp (disch := omega) only [cw_m2, cw_m3, cw_m4, cw_m13, cw_2m, cw_3m, cw_12m, cw_24m, cw_36m, cw_a12, cw_a3, nI_add, nI_1, pk_sub, nI_clamp, vp_in_nI, cw_m1s, forall_eq, nI_leI, nI_ltI, nI_eq, true_implies, forall_const, not_true_eq_false, not_false_eq_true, false_implies, and_true, true_and, implies_true, and_self, reduceIte]
        refine br_c (fun z => bad _ (fun y => (hcam.mp y).1 z)) (fun z1 => br_c (fun z => bad _ (fun y => (hcam.mp y).2.1 z)) (fun z2 => br_c (fun z3 => ihh (hcam.mpr ⟨z1, z2, z3⟩)) (fun z => bad _ (fun y => z (hcam.mp y).2.2))))
      rw [wY_brings_7, nI_pred]
      refine br_f q ?_
      have e1 : nI n - 1 = nI (n - 1) := pk_sub h1
      rw [e1]
      by_cases hl1 : n - 1 ≤ m
      · refine br_t (nI_le hl1 (by omega)) ?_
        rw [show n - 1 - (m + 1) = n - 1 - m by omega]
        exact step
      · refine br_f (nI_ge (by omega) (by omega)) ?_
        have eB := (cw_nt_e (N := 6) (B := 10) (f := ba) hP1 (by omega) (hD _ hP1).2.1).1
        have eR := (cw_nt_e (N := 6) (B := 21) (f := ra) hP1 (by omega) (hD _ hP1).2.2).1
        have nR := r20 (ro_pt (cw_nt 16 si) w p (m + 1))
        have nB := b9 (ro_pt (cw_nt 16 si) w p (m + 1))
        have eN : ro_am (cw_nt 16 si) (cw_nt 6 ba) (cw_nt 6 ra) w p n v (n - 1 - m) = ro_am (cw_nt 16 si) (cw_nt 6 ba) (cw_nt 6 ra) w p n v (n - 1 - (m + 1)) + (cw_nt 6 ba (ro_pt (cw_nt 16 si) w p (m + 1)) + ro_am (cw_nt 16 si) (cw_nt 6 ba) (cw_nt 6 ra) w p n v (n - 1 - (m + 1)) * cw_nt 6 ra (ro_pt (cw_nt 16 si) w p (m + 1)) / 100) := by
          rw [show n - 1 - m = (n - 1 - (m + 1)) + 1 by omega]
          show _ + (cw_nt 6 ba (ro_pt (cw_nt 16 si) w p (n - 1 - (n - 1 - (m + 1)))) + _ * cw_nt 6 ra (ro_pt (cw_nt 16 si) w p (n - 1 - (n - 1 - (m + 1)))) / 100) = _
          rw [show n - 1 - (n - 1 - (m + 1)) = m + 1 by omega]
        rw [eN] at step
        have hA' := ro_am_le4 (cw_nt 16 si) (cw_nt 6 ba) (cw_nt 6 ra) (w := w) (p := p) (n := n) (v := v) hv b9 r20 (d := n - 1 - (m + 1)) (by omega)
        clear ihh hta good bad hcam eN ih
        generalize ro_am (cw_nt 16 si) (cw_nt 6 ba) (cw_nt 6 ra) w p n v (n - 1 - (m + 1)) = A at hA' step ⊢
        generalize cw_nt 6 ra (ro_pt (cw_nt 16 si) w p (m + 1)) = R at eR nR step
        generalize cw_nt 6 ba (ro_pt (cw_nt 16 si) w p (m + 1)) = B at eB nB step
        have hAR : A * R ≤ 576 * 20 := Nat.mul_le_mul hA' nR
        simp (disch := omega) only [cw_m2, cw_m3, cw_m4, cw_m13, cw_2m, cw_3m, cw_12m, cw_24m, cw_36m, cw_a12, cw_a3, nI_add, nI_1, pk_sub, nI_clamp, vp_in_nI, hpt (m + 1) (by omega), eB, eR, cw_n100, pk_mul, cw_d100, forall_eq, nI_leI, nI_ltI, nI_eq, true_implies, forall_const, not_true_eq_false, not_false_eq_true, false_implies, and_true, true_and, implies_true, and_self, reduceIte]
        exact step
  have := L n (Nat.le_refl _) su (fun d hd => by omega) (fun i h1 h2 => by omega)
  rw [show n - 1 - n = 0 by omega] at this
  unfold wpY_brings
  dsimp only
  exact nm_e ⟨_, this⟩
theorem ys_behind {post : Int32 → Prop} {C d p : Nat} {w : Nat → Nat} (hC : C ≤ 8) (hsi : ∀ i, i < 16 → ∃ a, a < 6 ∧ si i = nI a) (hd : d ≤ 3) (hp : p < 6) (hwC : w d < C) (hpt : ∀ i, i ≤ d → pt i = nI (ro_pt (cw_nt 16 si) w p i))
    (H1 : ro_hop (cw_nt 16 si) C (cw_rd st on si) w p d → post (nI (ro_pt (cw_nt 16 si) w p (d + 1)))) (H0 : ¬ ro_hop (cw_nt 16 si) C (cw_rd st on si) w p d → post (-1)) : wpY_behind post (h, sp, nI C, yn, co, ba, ra, gu, se, on, si, st, la, pu, pb, sc, he, ou, yb, yl, yf, ya, ys, ye, zf, za, zs, ze, wy, pt, su, bb, bu) (nI d) (nI (w d)) := by
  have sd6 : ∀ i, cw_nt 16 si i < 6 := cw_nt_lt (by omega) (by omega) hsi
  have sde : ∀ i, i < 16 → si i = nI (cw_nt 16 si i) := fun i hi => (cw_nt_e hi (by omega) (hsi i hi)).1
  have p6 : ∀ i, ro_pt (cw_nt 16 si) w p i < 6 := ro_pt_lt (cw_nt 16 si) sd6 hp
  have hP := p6 d
  have hP1 := p6 (d + 1)
  have s0 := sde (2 * w d) (by omega)
  have s1 := sde (2 * w d + 1) (by omega)
  have loop : cw_rd st on si (w d) → (cw_nt 16 si (2 * w d) = ro_pt (cw_nt 16 si) w p d ∨ cw_nt 16 si (2 * w d + 1) = ro_pt (cw_nt 16 si) w p d) → ∃ f, wY_behind_47 post (nI d) (nI (ro_pt (cw_nt 16 si) w p (d + 1))) h sp (nI C) yn co ba ra gu se on si st la pu pb sc he ou yb yl yf ya ys ye zf za zs ze wy pt su bb bu f 0 := by
    intro hrd hside
    have K : ∀ k j, j + k = d + 1 → (∀ i, i < j → ro_pt (cw_nt 16 si) w p i ≠ ro_pt (cw_nt 16 si) w p (d + 1)) → wY_behind_47 post (nI d) (nI (ro_pt (cw_nt 16 si) w p (d + 1))) h sp (nI C) yn co ba ra gu se on si st la pu pb sc he ou yb yl yf ya ys ye zf za zs ze wy pt su bb bu (k + 1) (nI j) := by
      intro k
      induction k with
      | zero =>
        intro j hj hno
        have q : d < j := by omega
        rw [wY_behind_47]
        refine br_t (nI_lt q (by omega)) (H1 ⟨hwC, hside, hrd, fun i hi => hno i (by omega)⟩)
      | succ k ih =>
        intro j hj hno
        have q : ¬ d < j := by omega
        have hPj := p6 j
        rw [wY_behind_47]
        simp (disch := omega) only [q, cw_m2, cw_m3, cw_m4, cw_m13, cw_2m, cw_3m, cw_12m, cw_24m, cw_36m, cw_a12, cw_a3, nI_add, nI_1, pk_sub, nI_clamp, vp_in_nI, hpt j (by omega), forall_eq, nI_leI, nI_ltI, nI_eq, true_implies, forall_const, not_true_eq_false, not_false_eq_true, false_implies, and_true, true_and, implies_true, and_self, reduceIte]
        refine br_c (fun z => H0 (fun y => y.2.2.2 j (by omega) z)) (fun z => ih (j + 1) (by omega) (fun i hi => ?_))
        rcases Nat.lt_or_ge i j with h' | h'
        · exact hno i h'
        · have : i = j := by omega
          subst this
          exact z
    exact ⟨_, K (d + 1) 0 (by omega) (fun i hi => by omega)⟩
  simp (disch := omega) only [wpY_behind, hpt d (Nat.le_refl _), cw_m2, cw_m3, cw_m4, cw_m13, cw_2m, cw_3m, cw_12m, cw_24m, cw_36m, cw_a12, cw_a3, nI_add, nI_1, pk_sub, nI_clamp, vp_in_nI, forall_eq, nI_leI, nI_ltI, nI_eq, true_implies, forall_const, not_true_eq_false, not_false_eq_true, false_implies, and_true, true_and, implies_true, and_self, reduceIte]
  refine ys_sideOf (by omega) (fun a => ?_) (fun a b => ?_) (fun a b => ?_)
  · have e0 : cw_nt 16 si (2 * w d) = ro_pt (cw_nt 16 si) w p d := (nI_eq (by have := sd6 (2 * w d); omega) (by omega)).mp (s0.symm.trans a)
    have en : si (2 * w d + 1) = nI (ro_pt (cw_nt 16 si) w p (d + 1)) := by
      show si (2 * w d + 1) = nI (ro_nx (cw_nt 16 si) (w d) (ro_pt (cw_nt 16 si) w p d))
      unfold ro_nx
      rw [if_pos e0]
      exact s1
    refine ys_isReady (by omega) hsi (fun r => br_f (by decide) (br_f cw_n1 ?_)) (fun r => br_f (by decide) (br_t rfl (H0 (fun z => r z.2.2.1))))
    have em : nI (2 * w d + 1) - 0 = nI (2 * w d + 1) := Int32.sub_zero _
    rw [em]
    simp (disch := omega) only [cw_m2, cw_m3, cw_m4, cw_m13, cw_2m, cw_3m, cw_12m, cw_24m, cw_36m, cw_a12, cw_a3, nI_add, nI_1, pk_sub, nI_clamp, vp_in_nI, en, forall_eq, nI_leI, nI_ltI, nI_eq, true_implies, forall_const, not_true_eq_false, not_false_eq_true, false_implies, and_true, true_and, implies_true, and_self, reduceIte]
    exact loop r (Or.inl e0)
  · have e0 : ¬ cw_nt 16 si (2 * w d) = ro_pt (cw_nt 16 si) w p d := fun z => a (by rw [s0, z])
    have e1 : cw_nt 16 si (2 * w d + 1) = ro_pt (cw_nt 16 si) w p d := (nI_eq (by have := sd6 (2 * w d + 1); omega) (by omega)).mp (s1.symm.trans b)
    have en : si (2 * w d) = nI (ro_pt (cw_nt 16 si) w p (d + 1)) := by
      show si (2 * w d) = nI (ro_nx (cw_nt 16 si) (w d) (ro_pt (cw_nt 16 si) w p d))
      unfold ro_nx
      rw [if_neg e0]
      exact s0
    refine ys_isReady (by omega) hsi (fun r => br_f (by decide) (br_f cw_n1 ?_)) (fun r => br_f (by decide) (br_t rfl (H0 (fun z => r z.2.2.1))))
    rw [nI_pred]
    simp (disch := omega) only [cw_m2, cw_m3, cw_m4, cw_m13, cw_2m, cw_3m, cw_12m, cw_24m, cw_36m, cw_a12, cw_a3, nI_add, nI_1, pk_sub, nI_clamp, vp_in_nI, en, forall_eq, nI_leI, nI_ltI, nI_eq, true_implies, forall_const, not_true_eq_false, not_false_eq_true, false_implies, and_true, true_and, implies_true, and_self, reduceIte]
    exact loop r (Or.inr e1)
  · have hb : ¬ ro_hop (cw_nt 16 si) C (cw_rd st on si) w p d := by
      intro z
      rcases z.2.1 with y | y
      · exact a (by rw [s0, y])
      · exact b (by rw [s1, y])
    exact ys_isReady (by omega) hsi (fun r => br_t (by decide) (H0 hb)) (fun r => br_t (by decide) (H0 hb))
end YR
