/-! part 22: the search of X, whole -/
section XF
variable {h sp ch bl yn : Int32} {co on ba ra gu se si st la pu ps sc he xb xc xi xf xa xe tc ts ta bc bs bm pb ou yb yl yf ya ys ye zf za zs ze wy pt su bb bu : Nat → Int32}
def xr_B (sd ba ra : Nat → Nat) (p v : Nat) (b : Nat → Nat) (m : Nat) (bl : Int32) (bc bs bm : Nat → Int32) : Prop :=
  bl = nI m ∧ m ≤ 4 ∧ ∀ i, i < m → bc i = nI (b i) ∧ bs i = nI (ro_sx sd (b i) (ro_pt sd b p i)) ∧ bm i = nI (ro_am sd ba ra b p m v (m - 1 - i))
theorem cw_p8 {n : Nat} (h : n ≤ 4) : 8 ^ n ≤ 4096 := by
  have : n = 0 ∨ n = 1 ∨ n = 2 ∨ n = 3 ∨ n = 4 := by omega
  rcases this with rfl | rfl | rfl | rfl | rfl <;> decide
theorem cw_D9 (hD : cw_D on ba ra) : (∀ i, cw_nt 6 ba i ≤ 9) ∧ (∀ i, cw_nt 6 ra i ≤ 20) := by
  refine ⟨fun i => ?_, fun i => ?_⟩
  · have := cw_nt_lt (N := 6) (B := 10) (f := ba) (by omega) (by omega) (fun i hi => (hD i hi).2.1) i
    omega
  · have := cw_nt_lt (N := 6) (B := 21) (f := ra) (by omega) (by omega) (fun i hi => (hD i hi).2.2) i
    omega
theorem xs_find27 {post : SX → Prop} {J : Int32 → Int32 → SX → Prop} {C n p q v : Nat} (hC : C ≤ 8) (hsi : ∀ i, i < 16 → ∃ a, a < 6 ∧ si i = nI a) (hD : cw_D on ba ra) (hla : ∀ c, c < 8 → ∃ l, l < 12 ∧ la c = nI l) (h1 : 1 ≤ n) (hn : n ≤ 4) (hp : p < 6) (hq : q < 6) (hv : v ≤ 255)
    (HJ : ∀ (tc ts ta bc bs bm : Nat → Int32) (bl : Int32) (b : Nat → Nat) (m : Nat), ro_JX (cw_nt 16 si) (cw_nt 6 ba) (cw_nt 6 ra) C (cw_rd st on si) (cw_ca la xc xb) p q v n (8 ^ n) b m → xr_B (cw_nt 16 si) (cw_nt 6 ba) (cw_nt 6 ra) p v b m bl bc bs bm → J (nI (8 ^ n)) (nI (n + 1)) (h, sp, nI C, bl, co, on, ba, ra, gu, se, si, st, la, pu, ps, sc, he, xb, xc, xi, xf, xa, xe, tc, ts, ta, bc, bs, bm)) :
    ∀ d code, code + d = 8 ^ n → ∀ (tc ts ta bc bs bm : Nat → Int32) (bl : Int32) (b : Nat → Nat) (m : Nat), ro_JX (cw_nt 16 si) (cw_nt 6 ba) (cw_nt 6 ra) C (cw_rd st on si) (cw_ca la xc xb) p q v n code b m → xr_B (cw_nt 16 si) (cw_nt 6 ba) (cw_nt 6 ra) p v b m bl bc bs bm →
      wX_findBestRoute_27 post (fun x y h sp ch bl co on ba ra gu se si st la pu ps sc he xb xc xi xf xa xe tc ts ta bc bs bm => J x y (h, sp, ch, bl, co, on, ba, ra, gu, se, si, st, la, pu, ps, sc, he, xb, xc, xi, xf, xa, xe, tc, ts, ta, bc, bs, bm)) (nI p) (nI q) (nI v) (nI (8 ^ n)) (nI n) (d + 1) (nI code) h sp (nI C) bl co on ba ra gu se si st la pu ps sc he xb xc xi xf xa xe tc ts ta bc bs bm := by
  have h8 := cw_p8 hn
  obtain ⟨b9, r20⟩ := cw_D9 hD
  intro d
  induction d with
  | zero =>
    intro code hcode tc ts ta bc bs bm bl b m hJ hb
    have e : code = 8 ^ n := by omega
    subst e
    rw [wX_findBestRoute_27]
    refine br_t (nI_le (Nat.le_refl _) (by omega)) (nm_r (nI_1 n) ?_)
    exact HJ tc ts ta bc bs bm bl b m hJ hb
  | succ d ih =>
    intro code hcode tc ts ta bc bs bm bl b m hJ hb
    have hlt : code < 8 ^ n := by omega
    rw [wX_findBestRoute_27]
    refine br_f (nI_ge (by omega) (by omega)) ?_
    refine xs_readRow hn (by omega) (fun tc' htc => ?_)
    dsimp only
    refine xs_leadsTo (w := ro_dig n code) hC hsi hn hp hq (fun i _ => ro_dig7 n code i) htc (fun hwk hpt ts' hts => ?_) (fun hno ts' => ?_)
    · dsimp only
      refine br_f cw_n1 (xs_carries (w := ro_dig n code) hC hsi hD hla hn hp hv htc hwk hts (fun hcar ta' hta => ?_) (fun hno ta' => ?_))
      · dsimp only
        refine br_f cw_n1 ?_
        have g : ro_good (cw_nt 16 si) (cw_nt 6 ba) (cw_nt 6 ra) C (cw_rd st on si) (cw_ca la xc xb) p q v (ro_dig n code) n := ⟨h1, hn, hwk, hpt, hcar⟩
        obtain ⟨ebl, hm4, hbb⟩ := hb
        have t0 := hta 0 (by omega)
        have cA : ro_cost (cw_nt 16 si) (cw_nt 6 ba) (cw_nt 6 ra) p v (ro_dig n code) n ≤ 576 := ro_am_le4 (cw_nt 16 si) (cw_nt 6 ba) (cw_nt 6 ra) hv b9 r20 (by omega)
        have cB : ro_cost (cw_nt 16 si) (cw_nt 6 ba) (cw_nt 6 ra) p v b m ≤ 576 := ro_am_le4 (cw_nt 16 si) (cw_nt 6 ba) (cw_nt 6 ra) hv b9 r20 (by omega)
        have t0' : ta' 0 = nI (ro_cost (cw_nt 16 si) (cw_nt 6 ba) (cw_nt 6 ra) p v (ro_dig n code) n) := t0
        refine xs_keep hn hm4 ebl (fun hbet bc' bs' bm' hcp => nm_r (nI_1 code) (ih (code + 1) (by omega) _ _ _ _ _ _ _ (ro_dig n code) n ?_ ?_)) (fun hm0 hnb => nm_r (nI_1 code) (ih (code + 1) (by omega) _ _ _ _ _ _ _ b m ?_ ⟨ebl, hm4, hbb⟩))
        · refine ro_JX_put (cw_nt 16 si) (cw_nt 6 ba) (cw_nt 6 ra) C (cw_rd st on si) (cw_ca la xc xb) hC hJ hlt g (fun hm => ?_)
          rcases hbet with z | z
          · omega
          · have e0 : bm 0 = nI (ro_cost (cw_nt 16 si) (cw_nt 6 ba) (cw_nt 6 ra) p v b m) := (hbb 0 hm).2.2
            rw [t0', e0, nI_ltI (by omega) (by omega)] at z
            exact z
        · refine ⟨rfl, hn, fun i hi => ?_⟩
          obtain ⟨x1, x2, x3⟩ := hcp i hi
          exact ⟨x1.trans (htc i hi), x2.trans (hts i hi), x3.trans (hta i hi)⟩
        · have e0 : bm 0 = nI (ro_cost (cw_nt 16 si) (cw_nt 6 ba) (cw_nt 6 ra) p v b m) := (hbb 0 (by omega)).2.2
          rw [t0', e0, nI_ltI (by omega) (by omega)] at hnb
          exact ro_JX_keep (cw_nt 16 si) (cw_nt 6 ba) (cw_nt 6 ra) C (cw_rd st on si) (cw_ca la xc xb) hC h1 hn hJ hlt (by omega) (by omega)
      · refine br_t rfl (nm_r (nI_1 code) (ih (code + 1) (by omega) _ _ _ _ _ _ _ b m ?_ hb))
        exact ro_JX_skip (cw_nt 16 si) (cw_nt 6 ba) (cw_nt 6 ra) C (cw_rd st on si) (cw_ca la xc xb) hC hJ hlt (fun g => hno g.2.2.2.2)
    · refine br_t rfl (nm_r (nI_1 code) (ih (code + 1) (by omega) _ _ _ _ _ _ _ b m ?_ hb))
      exact ro_JX_skip (cw_nt 16 si) (cw_nt 6 ba) (cw_nt 6 ra) C (cw_rd st on si) (cw_ca la xc xb) hC hJ hlt (fun g => hno ⟨g.2.2.1, g.2.2.2.1⟩)
theorem xs_find {post : SX → Prop} {C p q v : Nat} (hC : C ≤ 8) (hsi : ∀ i, i < 16 → ∃ a, a < 6 ∧ si i = nI a) (hD : cw_D on ba ra) (hla : ∀ c, c < 8 → ∃ l, l < 12 ∧ la c = nI l) (hp : p < 6) (hq : q < 6) (hv : v ≤ 255)
    (H : ∀ (tc ts ta bc bs bm : Nat → Int32) (bl : Int32) (b : Nat → Nat) (m : Nat), ro_min (cw_nt 16 si) (cw_nt 6 ba) (cw_nt 6 ra) C (cw_rd st on si) (cw_ca la xc xb) p q v ro_code (fun _ _ => True) b m → xr_B (cw_nt 16 si) (cw_nt 6 ba) (cw_nt 6 ra) p v b m bl bc bs bm → post (h, sp, nI C, bl, co, on, ba, ra, gu, se, si, st, la, pu, ps, sc, he, xb, xc, xi, xf, xa, xe, tc, ts, ta, bc, bs, bm)) : wpX_findBestRoute post (h, sp, nI C, bl, co, on, ba, ra, gu, se, si, st, la, pu, ps, sc, he, xb, xc, xi, xf, xa, xe, tc, ts, ta, bc, bs, bm) (nI p) (nI q) (nI v) := by
  have L : ∀ d n, n + d = 5 → 1 ≤ n → ∀ (tc ts ta bc bs bm : Nat → Int32) (bl : Int32) (b : Nat → Nat) (m : Nat), ro_JX (cw_nt 16 si) (cw_nt 6 ba) (cw_nt 6 ra) C (cw_rd st on si) (cw_ca la xc xb) p q v n 0 b m → xr_B (cw_nt 16 si) (cw_nt 6 ba) (cw_nt 6 ra) p v b m bl bc bs bm →
      wX_findBestRoute_11 post (nI p) (nI q) (nI v) (d + 1) (nI (8 ^ (n - 1))) (nI n) h sp (nI C) bl co on ba ra gu se si st la pu ps sc he xb xc xi xf xa xe tc ts ta bc bs bm := by
    intro d
    induction d with
    | zero =>
      intro n hn _ tc ts ta bc bs bm bl b m hJ hb
      have e : n = 5 := by omega
      subst e
      rw [wX_findBestRoute_11]
      refine br_t (by decide) ?_
      exact H tc ts ta bc bs bm bl b m (ro_JX_end (cw_nt 16 si) (cw_nt 6 ba) (cw_nt 6 ra) C (cw_rd st on si) (cw_ca la xc xb) hJ) hb
    | succ d ih =>
      intro n hn h1 tc ts ta bc bs bm bl b m hJ hb
      have q4 : ¬ (4 : Int32) < nI n := by rw [cw_lt4 (by omega)]; omega
      have e8 : 8 ^ (n - 1) * 8 = 8 ^ n := by
        obtain ⟨k, rfl⟩ : ∃ k, n = k + 1 := ⟨n - 1, by omega⟩
        exact (Nat.pow_succ ..).symm
      rw [wX_findBestRoute_11]
      refine br_f q4 (nm_r ((cw_m8 _).trans (congrArg nI e8)) ⟨8 ^ n + 1, ?_⟩)
      refine xs_find27 (J := fun x y u => match u with | (h, sp, ch, bl, co, on, ba, ra, gu, se, si, st, la, pu, ps, sc, he, xb, xc, xi, xf, xa, xe, tc, ts, ta, bc, bs, bm) => wX_findBestRoute_11 post (nI p) (nI q) (nI v) (d + 1) x y h sp ch bl co on ba ra gu se si st la pu ps sc he xb xc xi xf xa xe tc ts ta bc bs bm) hC hsi hD hla h1 (by omega) hp hq hv (fun tc ts ta bc bs bm bl b m hJ' hb' => ?_) (8 ^ n) 0 (by omega) tc ts ta bc bs bm bl b m hJ hb
      exact ih (n + 1) (by omega) (by omega) tc ts ta bc bs bm bl b m (ro_JX_next (cw_nt 16 si) (cw_nt 6 ba) (cw_nt 6 ra) C (cw_rd st on si) (cw_ca la xc xb) hC hJ') hb'
  unfold wpX_findBestRoute
  dsimp only
  refine ⟨5, ?_⟩
  exact L 4 1 rfl (Nat.le_refl _) tc ts ta bc bs bm 0 (fun _ => 0) 0 (ro_JX_0 (cw_nt 16 si) (cw_nt 6 ba) (cw_nt 6 ra) C (cw_rd st on si) (cw_ca la xc xb) (fun _ => 0)) ⟨rfl, by omega, fun i hi => by omega⟩
end XF
