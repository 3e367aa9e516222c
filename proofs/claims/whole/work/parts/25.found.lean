/-! part 25: what the reference's search finds; what is asked -/
section FND
variable {h sp ch bl yn : Int32} {co on ba ra gu se si st la pu ps sc he xb xc xi xf xa xe tc ts ta bc bs bm pb ou yb yl yf ya ys ye zf za zs ze wy pt su bb bu : Nat → Int32}
def yr_B (sd ba ra : Nat → Nat) (p v : Nat) (b : Nat → Nat) (m : Nat) (yn : Int32) (bb bu : Nat → Int32) : Prop :=
  yn = nI m ∧ m ≤ 4 ∧ ∀ i, i < m → bb i = nI (b i) ∧ bu i = nI (ro_am sd ba ra b p m v (m - 1 - i))
theorem ys_copyBest {post : Int32 → SY → Prop} {n : Nat} (hn : n ≤ 4) (H : ∀ bb' bu' : Nat → Int32, (∀ i, i < n → bb' i = wy i ∧ bu' i = su i) → post 0 (h, sp, ch, nI n, co, ba, ra, gu, se, on, si, st, la, pu, pb, sc, he, ou, yb, yl, yf, ya, ys, ye, zf, za, zs, ze, wy, pt, su, bb', bu')) : ∃ f, wY_reached_112 post (nI n) h sp ch (nI n) f 0 co ba ra gu se on si st la pu pb sc he ou yb yl yf ya ys ye zf za zs ze wy pt su bb bu := by
  have K : ∀ d j (bb bu : Nat → Int32), j + d = n → (∀ i, i < j → bb i = wy i ∧ bu i = su i) → wY_reached_112 post (nI n) h sp ch (nI n) (d + 1) (nI j) co ba ra gu se on si st la pu pb sc he ou yb yl yf ya ys ye zf za zs ze wy pt su bb bu := by
    intro d
    induction d with
    | zero =>
      intro j bb bu hj ht
      have e : j = n := by omega
      subst e
      rw [wY_reached_112]
      simp (disch := omega) only [Nat.le_refl, forall_eq, nI_leI, nI_ltI, nI_eq, true_implies, forall_const, not_true_eq_false, not_false_eq_true, false_implies, and_true, true_and, implies_true, and_self, reduceIte]
      exact H bb bu ht
    | succ d ih =>
      intro j bb bu hj ht
      have q : ¬ n ≤ j := by omega
      rw [wY_reached_112]
      simp (disch := omega) only [q, cw_m2, cw_m3, cw_m4, cw_m13, cw_2m, cw_3m, cw_12m, cw_24m, cw_36m, cw_a12, cw_a3, nI_add, nI_1, pk_sub, nI_clamp, vp_in_nI, forall_eq, nI_leI, nI_ltI, nI_eq, true_implies, forall_const, not_true_eq_false, not_false_eq_true, false_implies, and_true, true_and, implies_true, and_self, reduceIte]
      refine ih (j + 1) _ _ (by omega) (fun i hi => ?_)
      by_cases e : i = j
      · subst e
        exact ⟨pk_us, pk_us⟩
      · rw [pk_un e, pk_un e]
        exact ht i (by omega)
  exact ⟨_, K n 0 bb bu (by omega) (fun i hi => by omega)⟩
theorem ys_findV {post : Int32 → SY → Prop} {C p q v : Nat} {ca : Nat → Nat → Nat → Prop} (hC : C ≤ 8) (hsi : ∀ i, i < 16 → ∃ a, a < 6 ∧ si i = nI a) (hne : ∀ c, c < C → ¬ si (2 * c) = si (2 * c + 1)) (hD : cw_D on ba ra) (hla : ∀ c, c < 8 → ∃ l, l < 12 ∧ la c = nI l)
    (hca : ∀ c s a l, c < 8 → s < 2 → l < 12 → la c = nI l → (ca c s a ↔ (¬ yb (2 * (12 * c + l) + s) < nI a ∧ ¬ 2 < yl (12 * c + l) ∧ la c ≤ 10)))
    (hp : p < 6) (hq : q < 6) (h1 : 1 ≤ v) (hv : v ≤ 255)
    (H : ∀ (mo yn : Int32) (wy pt su bb bu : Nat → Int32) (b : Nat → Nat) (m : Nat), ro_min (cw_nt 16 si) (cw_nt 6 ba) (cw_nt 6 ra) C (cw_rd st on si) ca p q v ro_num (fun _ _ => True) b m → yr_B (cw_nt 16 si) (cw_nt 6 ba) (cw_nt 6 ra) p v b m yn bb bu → post mo (h, sp, nI C, yn, co, ba, ra, gu, se, on, si, st, la, pu, pb, sc, he, ou, yb, yl, yf, ya, ys, ye, zf, za, zs, ze, wy, pt, su, bb, bu)) :
    wpY_seek post (h, sp, nI C, yn, co, ba, ra, gu, se, on, si, st, la, pu, pb, sc, he, ou, yb, yl, yf, ya, ys, ye, zf, za, zs, ze, wy, pt, su, bb, bu) (nI p) (nI q) (nI v) := by
  obtain ⟨b9, r20⟩ := cw_D9 hD
  have nv : ¬ nI v = 0 := nI_ne0 (by omega) (by omega)
  refine ys_seek (Inv := fun N mo yn bb bu => ∃ b m, ro_JY (cw_nt 16 si) (cw_nt 6 ba) (cw_nt 6 ra) C (cw_rd st on si) ca p q v N b m ∧ yr_B (cw_nt 16 si) (cw_nt 6 ba) (cw_nt 6 ra) p v b m yn bb bu) hC hsi hp hq ?_ ?_ ?_ ?_
  · intro N N' mo yn bb bu hN hno hI
    obtain ⟨b, m, hJ, hb⟩ := hI
    exact ⟨b, m, ro_JY_mono (cw_nt 16 si) (cw_nt 6 ba) (cw_nt 6 ra) C (cw_rd st on si) ca hJ hN hno, hb⟩
  · intro w n N N' mo yn wy pt su bb bu hl hN hN' huq hwy hpt hI post' hpost
    obtain ⟨b, m, hJ, hb⟩ := hI
    unfold wpY_reached
    dsimp only
    refine br_f nv (ys_brings (w := w) hC hsi hne hD hla hca hl.1 hl.2.1 hp hv hwy hpt hl.2.2.1 (fun hcar su' hsu => ?_) (fun hno su' => ?_))
    · dsimp only
      refine br_f cw_n1 ?_
      have g : ro_good (cw_nt 16 si) (cw_nt 6 ba) (cw_nt 6 ra) C (cw_rd st on si) ca p q v w n := ⟨hl.1, hl.2.1, hl.2.2.1, hl.2.2.2, hcar⟩
      have n4 := hl.2.1
      have n1 := hl.1
      have cA : ro_cost (cw_nt 16 si) (cw_nt 6 ba) (cw_nt 6 ra) p v w n ≤ 576 := ro_am_le4 (cw_nt 16 si) (cw_nt 6 ba) (cw_nt 6 ra) hv b9 r20 (by omega)
      obtain ⟨eyn, hm4, hbb⟩ := hb
      have cB : ro_cost (cw_nt 16 si) (cw_nt 6 ba) (cw_nt 6 ra) p v b m ≤ 576 := ro_am_le4 (cw_nt 16 si) (cw_nt 6 ba) (cw_nt 6 ra) hv b9 r20 (by omega)
      have t0 : su' 0 = nI (ro_cost (cw_nt 16 si) (cw_nt 6 ba) (cw_nt 6 ra) p v w n) := hsu 0 (by omega)
      have copy : (0 < m → ro_cost (cw_nt 16 si) (cw_nt 6 ba) (cw_nt 6 ra) p v w n < ro_cost (cw_nt 16 si) (cw_nt 6 ba) (cw_nt 6 ra) p v b m ∨ (ro_cost (cw_nt 16 si) (cw_nt 6 ba) (cw_nt 6 ra) p v w n = ro_cost (cw_nt 16 si) (cw_nt 6 ba) (cw_nt 6 ra) p v b m ∧ n < m)) → ∃ f, wY_reached_112 post' (nI n) h sp (nI C) (nI n) f 0 co ba ra gu se on si st la pu pb sc he ou yb yl yf ya ys ye zf za zs ze wy pt (su') bb bu := by
        intro hk
        refine ys_copyBest n4 (fun bb' bu' hcp => hpost 0 (nI n) su' bb' bu' ⟨w, n, ro_JY_put (cw_nt 16 si) (cw_nt 6 ba) (cw_nt 6 ra) C (cw_rd st on si) ca hJ huq hN' g hk, rfl, n4, fun i hi => ?_⟩)
        obtain ⟨x1, x2⟩ := hcp i hi
        exact ⟨x1.trans (hwy i hi), x2.trans (hsu i hi)⟩
      have keep : 0 < m → (ro_cost (cw_nt 16 si) (cw_nt 6 ba) (cw_nt 6 ra) p v b m < ro_cost (cw_nt 16 si) (cw_nt 6 ba) (cw_nt 6 ra) p v w n ∨ (ro_cost (cw_nt 16 si) (cw_nt 6 ba) (cw_nt 6 ra) p v b m = ro_cost (cw_nt 16 si) (cw_nt 6 ba) (cw_nt 6 ra) p v w n ∧ m ≤ n)) → post' 0 (h, sp, nI C, yn, co, ba, ra, gu, se, on, si, st, la, pu, pb, sc, he, ou, yb, yl, yf, ya, ys, ye, zf, za, zs, ze, wy, pt, su', bb, bu) := by
        intro hm hk
        exact hpost 0 yn su' bb bu ⟨b, m, ro_JY_keep (cw_nt 16 si) (cw_nt 6 ba) (cw_nt 6 ra) C (cw_rd st on si) ca hJ (by omega) huq hN hm hk, eyn, hm4, hbb⟩
      rw [eyn] at keep ⊢
      rcases Nat.eq_zero_or_pos m with hm | hm
      · subst hm
        exact br_t (by decide) (copy (fun z => by omega))
      · have e0 : bu 0 = nI (ro_cost (cw_nt 16 si) (cw_nt 6 ba) (cw_nt 6 ra) p v b m) := (hbb 0 hm).2
        have hm0 : ¬ nI m ≤ 0 := nI_nle hm (by omega)
        rw [t0, e0]
        refine br_f hm0 ?_
        simp (disch := omega) only [nI_ltI, nI_eq]
        exact br_c (fun z => keep hm (Or.inl z)) (fun z => br_c (fun y => br_c (fun x => copy (fun _ => Or.inr ⟨y, x⟩)) (fun x => keep hm (Or.inr ⟨y.symm, by omega⟩))) (fun y => copy (fun _ => Or.inl (by omega))))
    · dsimp only
      exact br_t rfl (hpost 0 yn su' bb bu ⟨b, m, ro_JY_bad (cw_nt 16 si) (cw_nt 6 ba) (cw_nt 6 ra) C (cw_rd st on si) ca hJ (by omega) huq (fun g => hno g.2.2.2.2), hb⟩)
  · intro bb bu
    have := ro_JY_0 (cw_nt 16 si) (cw_nt 6 ba) (cw_nt 6 ra) C (cw_rd st on si) ca (p := p) (q := q) (v := v) (fun _ => 0) (fun _ => 0)
    rw [ro_N00] at this
    exact ⟨fun _ => 0, 0, this, rfl, by omega, fun i hi => by omega⟩
  · intro N mo yn wy pt su bb bu hI hno
    obtain ⟨b, m, hJ, hb⟩ := hI
    exact H mo yn wy pt su bb bu b m (ro_JY_end (cw_nt 16 si) (cw_nt 6 ba) (cw_nt 6 ra) C (cw_rd st on si) ca hJ hno) hb
theorem ys_findM {post : Int32 → SY → Prop} {C p q : Nat} {ca : Nat → Nat → Nat → Prop} (hC : C ≤ 8) (hsi : ∀ i, i < 16 → ∃ a, a < 6 ∧ si i = nI a) (hne : ∀ c, c < C → ¬ si (2 * c) = si (2 * c + 1)) (hD : cw_D on ba ra) (hla : ∀ c, c < 8 → ∃ l, l < 12 ∧ la c = nI l)
    (hca : ∀ c s a l, c < 8 → s < 2 → l < 12 → la c = nI l → (ca c s a ↔ (¬ yb (2 * (12 * c + l) + s) < nI a ∧ ¬ 2 < yl (12 * c + l) ∧ la c ≤ 10)))
    (hp : p < 6) (hq : q < 6)
    (H : ∀ (M : Nat) (yn : Int32) (wy pt su bb bu : Nat → Int32), (M = 0 ∨ ∃ w n, ro_good (cw_nt 16 si) (cw_nt 6 ba) (cw_nt 6 ra) C (cw_rd st on si) ca p q M w n) → M ≤ 255 → (∀ v, 1 ≤ v → v ≤ 255 → (∃ w n, ro_good (cw_nt 16 si) (cw_nt 6 ba) (cw_nt 6 ra) C (cw_rd st on si) ca p q v w n) → v ≤ M) → post (nI M) (h, sp, nI C, yn, co, ba, ra, gu, se, on, si, st, la, pu, pb, sc, he, ou, yb, yl, yf, ya, ys, ye, zf, za, zs, ze, wy, pt, su, bb, bu)) :
    wpY_seek post (h, sp, nI C, yn, co, ba, ra, gu, se, on, si, st, la, pu, pb, sc, he, ou, yb, yl, yf, ya, ys, ye, zf, za, zs, ze, wy, pt, su, bb, bu) (nI p) (nI q) 0 := by
  refine ys_seek (Inv := fun N mo yn bb bu => ∃ M, mo = nI M ∧ ro_JM (cw_nt 16 si) (cw_nt 6 ba) (cw_nt 6 ra) C (cw_rd st on si) ca p q N M) hC hsi hp hq ?_ ?_ ?_ ?_
  · intro N N' mo yn bb bu hN hno hI
    obtain ⟨M, e, hJ⟩ := hI
    exact ⟨M, e, ro_JM_mono (cw_nt 16 si) (cw_nt 6 ba) (cw_nt 6 ra) C (cw_rd st on si) ca hJ hno⟩
  · intro w n N N' mo yn wy pt su bb bu hl hN hN' huq hwy hpt hI post' hpost
    obtain ⟨M, e, hJ⟩ := hI
    subst e
    have hM := hJ.2.1
    have K : ∀ k, M + k ≤ 255 → (∀ v, M + k < v → v ≤ 255 → ¬ ro_good (cw_nt 16 si) (cw_nt 6 ba) (cw_nt 6 ra) C (cw_rd st on si) ca p q v w n) → ∀ su : Nat → Int32, wY_reached_9 post' (nI n) (nI M) (k + 1) (nI (M + k)) h sp (nI C) yn co ba ra gu se on si st la pu pb sc he ou yb yl yf ya ys ye zf za zs ze wy pt su bb bu := by
      intro k
      induction k with
      | zero =>
        intro _ hno su
        rw [wY_reached_9]
        simp (disch := omega) only [wY_reached_31, Nat.add_zero, Nat.le_refl, forall_eq, nI_leI, nI_ltI, nI_eq, true_implies, forall_const, not_true_eq_false, not_false_eq_true, false_implies, and_true, true_and, implies_true, and_self, reduceIte]
        exact hpost (nI M) yn su bb bu ⟨M, rfl, ro_JM_put (cw_nt 16 si) (cw_nt 6 ba) (cw_nt 6 ra) C (cw_rd st on si) ca hJ huq (Nat.le_refl _) hM (Or.inl rfl) (fun v h1 h2 => hno v (by omega) h2)⟩
      | succ k ih =>
        intro hk hno su
        have q1 : ¬ nI (M + (k + 1)) ≤ nI M := nI_ge (by omega) (by omega)
        rw [wY_reached_9]
        refine br_f q1 (ys_brings (w := w) hC hsi hne hD hla hca hl.1 hl.2.1 hp (by omega) hwy hpt hl.2.2.1 (fun hcar su' hsu => ?_) (fun hnc su' => ?_))
        · dsimp only
          refine br_f cw_n1 ?_
          unfold wY_reached_31
          refine br_f q1 (hpost _ yn su' bb bu ⟨M + (k + 1), rfl, ro_JM_put (cw_nt 16 si) (cw_nt 6 ba) (cw_nt 6 ra) C (cw_rd st on si) ca hJ huq (by omega) hk (Or.inr ⟨hl.1, hl.2.1, hl.2.2.1, hl.2.2.2, hcar⟩) hno⟩)
        · dsimp only
          refine br_t rfl (nm_r (pk_m1 (M + k)) (ih (by omega) (fun v h1 h2 g => ?_) su'))
          rcases Nat.lt_or_ge (M + (k + 1)) v with h' | h'
          · exact hno v h' h2 g
          · have : v = M + (k + 1) := by omega
            subst this
            exact hnc g.2.2.2.2
    unfold wpY_reached
    dsimp only
    refine br_t rfl ⟨255 - M + 1, ?_⟩
    have := K (255 - M) (by omega) (fun v h1 h2 => by omega) su
    rw [show M + (255 - M) = 255 by omega] at this
    exact this
  · intro bb bu
    have := ro_JM_0 (cw_nt 16 si) (cw_nt 6 ba) (cw_nt 6 ra) C (cw_rd st on si) ca (p := p) (q := q) (fun _ => 0)
    rw [ro_N00] at this
    exact ⟨0, rfl, this⟩
  · intro N mo yn wy pt su bb bu hI hno
    obtain ⟨M, e, hJ⟩ := hI
    subst e
    refine H M yn wy pt su bb bu hJ.1 hJ.2.1 (fun v h1 h2 hg => ?_)
    obtain ⟨w, n, g⟩ := hg
    rcases Nat.lt_or_ge (ro_num w n) N with h' | h'
    · exact hJ.2.2 v w n h1 h2 g h'
    · exact (hno w n (ro_good_lead (cw_nt 16 si) (cw_nt 6 ba) (cw_nt 6 ra) C (cw_rd st on si) ca g) h').elim
theorem cw_ca_y (hE : cw_E st la ps pb si) (hF : cw_F xb yb) (hG : cw_G sp xf xa xe xc xi yl yf ya ys ye) : ∀ c s a l, c < 8 → s < 2 → l < 12 → la c = nI l → (cw_ca la xc xb c s a ↔ (¬ yb (2 * (12 * c + l) + s) < nI a ∧ ¬ 2 < yl (12 * c + l) ∧ la c ≤ 10)) := by
  intro c s a l hc hs hl el
  obtain ⟨n, hn, e1, e2, _⟩ := hG c l hc hl
  have f := hF c l s hc hl hs
  unfold cw_ca
  rw [el, nI_clamp (by omega), e1, e2, f, cw_le11 (by omega), cw_el10 (by omega), cw_tl3 (by omega), cw_lt2 (by omega)]
  constructor
  · rintro ⟨h1, h2, h3⟩
    exact ⟨Int32.not_lt.mpr h3, by omega, by omega⟩
  · rintro ⟨h1, h2, h3⟩
    exact ⟨by omega, by omega, Int32.not_lt.mp h1⟩
end FND
