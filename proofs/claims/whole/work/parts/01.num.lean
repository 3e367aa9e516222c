/-! part 01: numbers and bits (pk_, b_, bt, s_l: pasted from kit/rows) -/
theorem pk_us {f : Nat → Int32} {k : Nat} {x : Int32} : upd f k x k = x := if_pos rfl
theorem pk_un {f : Nat → Int32} {k j : Nat} {x : Int32} (h : j ≠ k) : upd f k x j = f j := if_neg h
theorem pk_sub {a b : Nat} (h : b ≤ a) : nI a - nI b = nI (a - b) := by
  obtain ⟨c, rfl⟩ : ∃ c, a = c + b := ⟨a - b, by omega⟩
  rw [← nI_add, Int32.add_sub_cancel, Nat.add_sub_cancel]
theorem pk_m1 (n : Nat) : nI (n + 1) + (-1) = nI n := by
  rw [← nI_1, Int32.add_assoc, show (1 : Int32) + (-1) = 0 from rfl, Int32.add_zero]
theorem pk_mul (a b : Nat) : nI a * nI b = nI (a * b) := (Int32.ofNat_mul a b).symm
theorem pk_div {a d : Nat} (ha : a < 2 ^ 31) (h0 : 0 < d) (hd : d < 2 ^ 31) : nI a / nI d = nI (a / d) := by
  apply Int32.toInt_inj.mp
  rw [lg_idiv_nonneg (by rw [nI_toInt ha]; omega) (by rw [nI_toInt hd]; omega), nI_toInt ha, nI_toInt hd, nI_toInt (Nat.lt_of_le_of_lt (Nat.div_le_self a d) ha)]
  first | rfl | exact (Int.natCast_ediv _ _).symm
theorem pk_rem {a d : Nat} (ha : a < 2 ^ 31) (h0 : 0 < d) (hd : d < 2 ^ 31) : nI a - nI a / nI d * nI d = nI (a % d) := by
  rw [pk_div ha h0 hd, pk_mul, pk_sub (Nat.div_mul_le_self a d)]
  exact congrArg nI (by have := Nat.div_add_mod' a d; omega)
theorem pk_sub_toInt {a b : Nat} (ha : a < 2 ^ 30) (hb : b < 2 ^ 30) : (nI a - nI b).toInt = (a : Int) - b := by
  rw [Int32.toInt_sub, nI_toInt (by omega), nI_toInt (by omega)]
  exact Int.bmod_eq_of_le (by omega) (by omega)
theorem pk_ix (x : Int32) {n : Nat} (hn : n < 2 ^ 31) : x < 0 ∨ nI n ≤ x ∨ ∃ j : Nat, j < n ∧ x = nI j := by
  by_cases h : x < 0
  · exact Or.inl h
  · obtain ⟨j, hj, rfl⟩ := nI_of h
    by_cases h2 : j < n
    · exact Or.inr (Or.inr ⟨j, h2, rfl⟩)
    · exact Or.inr (Or.inl (nI_le (by omega) hj))
theorem pk_le {x y : Int32} {A B : Prop} (a b : Nat) (f : a ≤ b → A) (g : b < a → B) (hx : x = nI a := by rfl) (hy : y = nI b := by rfl) (ha : a < 2 ^ 31 := by omega) (hb : b < 2 ^ 31 := by omega) : (x ≤ y → A) ∧ (¬ x ≤ y → B) := by
  subst hx hy
  rw [nI_leI ha hb]
  exact ⟨f, fun z => g (by omega)⟩
theorem pk_lt {x y : Int32} {A B : Prop} (a b : Nat) (f : a < b → A) (g : b ≤ a → B) (hx : x = nI a := by rfl) (hy : y = nI b := by rfl) (ha : a < 2 ^ 31 := by omega) (hb : b < 2 ^ 31 := by omega) : (x < y → A) ∧ (¬ x < y → B) := by
  subst hx hy
  rw [nI_ltI ha hb]
  exact ⟨f, fun z => g (by omega)⟩
theorem pk_eq {x y : Int32} {A B : Prop} (a b : Nat) (f : a = b → A) (g : a ≠ b → B) (hx : x = nI a := by rfl) (hy : y = nI b := by rfl) (ha : a < 2 ^ 31 := by omega) (hb : b < 2 ^ 31 := by omega) : (x = y → A) ∧ (¬ x = y → B) := by
  subst hx hy
  rw [nI_eq ha hb]
  exact ⟨f, g⟩
theorem pk_in {x : Int32} (n N : Nat) (h : n < N) (hx : x = nI n := by rfl) (hN : N < 2 ^ 31 := by omega) : vp_in x N := by
  subst hx
  exact vp_in_nI h hN
theorem pk_cl {x : Int32} (n : Nat) (hx : x = nI n := by rfl) (h : n < 2 ^ 31 := by omega) : x.toNatClampNeg = n := by
  subst hx
  exact nI_clamp h
theorem pk_tn {n : Nat} (h : n < 2 ^ 32) : (nI n).toBitVec.toNat = n := Nat.mod_eq_of_lt h
theorem pk_loop {σ : Type} (W : Nat → Nat → σ → Prop) (I : Nat → σ → Prop) (e i0 : Nat) (s : σ) (hi : i0 ≤ e) (h0 : I i0 s) (hx : ∀ n s, I e s → W (n + 1) e s)
    (hs : ∀ n i s, i < e → I i s → (∀ s', I (i + 1) s' → W n (i + 1) s') → W (n + 1) i s) : ∃ n, W n i0 s :=
  ⟨e + 1, loop_i W I e hx hs (e + 1) i0 s hi (by omega) h0⟩
theorem pk_loopD {σ : Type} (W : Nat → Nat → σ → Prop) (I : Nat → σ → Prop) (hx : ∀ n s, I 0 s → W (n + 1) 0 s)
    (hs : ∀ n i s, I (i + 1) s → (∀ s', I i s' → W n i s') → W (n + 1) (i + 1) s) : ∀ (e : Nat) (s : σ), I e s → W (e + 1) e s := by
  intro e
  induction e with
  | zero => exact fun s h => hx 0 s h
  | succ e ih => exact fun s h => hs (e + 1) e s h (fun s' h' => ih s' h')
theorem pk_shl (a s : Int32) (k : Nat) (hs : (s.toBitVec.smod 32).toNat = k) : (a <<< s).toBitVec.toNat = a.toBitVec.toNat * 2 ^ k % 2 ^ 32 := by
  show (a.toBitVec <<< (s.toBitVec.smod 32).toNat).toNat = _
  rw [hs, BitVec.toNat_shiftLeft, Nat.shiftLeft_eq]
theorem pk_shlN {n : Nat} (s : Int32) (k : Nat) (hs : (s.toBitVec.smod 32).toNat = k) (h : n * 2 ^ k < 2 ^ 32) : nI n <<< s = nI (n * 2 ^ k) := by
  apply Int32.toBitVec_inj.mp
  apply BitVec.eq_of_toNat_eq
  have hn : n < 2 ^ 32 := Nat.lt_of_le_of_lt (Nat.le_mul_of_pos_right n (Nat.two_pow_pos k)) h
  rw [pk_shl _ _ k hs, pk_tn hn, pk_tn h, Nat.mod_eq_of_lt h]
def bt (x : Int32) (i : Nat) : Bool := x.toBitVec.getLsbD i
theorem b_ext {x y : Int32} (h : ∀ i, i < 32 → bt x i = bt y i) : x = y := Int32.toBitVec_inj.mp (BitVec.eq_of_getLsbD_eq (fun i hi => h i hi))
theorem b_or (x y : Int32) (i : Nat) : bt (x ||| y) i = (bt x i || bt y i) := by unfold bt; rw [Int32.toBitVec_or, BitVec.getLsbD_or]
theorem b_and (x y : Int32) (i : Nat) : bt (x &&& y) i = (bt x i && bt y i) := by unfold bt; rw [Int32.toBitVec_and, BitVec.getLsbD_and]
theorem b_big {x : Int32} {i : Nat} (h : 32 ≤ i) : bt x i = false := BitVec.getLsbD_of_ge _ _ h
theorem b_0 (i : Nat) : bt 0 i = false := BitVec.getLsbD_zero
theorem s_l : ∀ n, n < 32 → ((nI n &&& 31).toBitVec.smod 32).toNat = n := by decide +kernel
theorem b_shl (n : Nat) (hn : n < 32) (x : Int32) {i : Nat} (hi : i < 32) : bt (x <<< (nI n &&& 31)) i = (decide (n ≤ i) && bt x (i - n)) := by
  unfold bt
  rw [Int32.toBitVec_shiftLeft]
  show (x.toBitVec <<< ((nI n &&& 31).toBitVec.smod 32).toNat).getLsbD i = _
  rw [s_l n hn, BitVec.getLsbD_shiftLeft]
  rcases Nat.lt_or_ge i n with h | h
  · simp [h, Nat.not_le.mpr h]
  · simp [hi, h, Nat.not_lt.mpr h]
theorem b_sshr (n : Nat) (hn : n < 32) (x : Int32) {i : Nat} (hi : i < 32) : bt (x >>> (nI n &&& 31)) i = if n + i < 32 then bt x (n + i) else bt x 31 := by
  unfold bt
  rw [Int32.toBitVec_shiftRight]
  show (x.toBitVec.sshiftRight ((nI n &&& 31).toBitVec.smod 32).toNat).getLsbD i = _
  rw [s_l n hn, BitVec.getLsbD_sshiftRight, BitVec.msb_eq_getLsbD_last]
  simp [hi]
theorem cw_b1 (j : Nat) : bt 1 j = decide (j = 0) := by
  rcases Nat.lt_or_ge j 32 with h | h
  · exact (by decide +kernel : ∀ i, i < 32 → bt 1 i = decide (i = 0)) j h
  · rw [b_big h, decide_eq_false (by omega)]
theorem cw_bit (x : Int32) {i : Nat} (hi : i < 32) : (x >>> (nI i &&& 31)) &&& 1 = if bt x i then 1 else 0 := by
  apply b_ext
  intro j hj
  rw [b_and, b_sshr i hi x hj, cw_b1]
  by_cases h0 : j = 0
  · subst h0
    cases hb : bt x i <;> simp [hi, hb, cw_b1, b_0]
  · cases hb : bt x i <;> simp [h0, cw_b1, b_0]
theorem cw_bit0 (x : Int32) {i : Nat} (hi : i < 32) : (x >>> (nI i &&& 31)) &&& 1 = 0 ↔ bt x i = false := by
  rw [cw_bit x hi]
  cases bt x i <;> decide
theorem cw_bit1 (x : Int32) {i : Nat} (hi : i < 32) : (x >>> (nI i &&& 31)) &&& 1 = 1 ↔ bt x i = true := by
  rw [cw_bit x hi]
  cases bt x i <;> decide
theorem cw_set (x : Int32) {i j : Nat} (hi : i < 32) (hj : j < 32) : bt (x ||| ((1 : Int32) <<< (nI i &&& 31))) j = (bt x j || decide (j = i)) := by
  rw [b_or, b_shl i hi 1 hj, cw_b1]
  congr 1
  by_cases h : j = i
  · subst h; simp
  · by_cases h2 : i ≤ j
    · have : ¬ j - i = 0 := by omega
      simp [h, this]
    · simp [h, h2]
theorem cw_one {i j : Nat} (hi : i < 32) (hj : j < 32) : bt ((1 : Int32) <<< (nI i &&& 31)) j = decide (j = i) := by
  rw [b_shl i hi 1 hj, cw_b1]
  by_cases h : j = i
  · subst h; simp
  · by_cases h2 : i ≤ j
    · have : ¬ j - i = 0 := by omega
      simp [h, this]
    · simp [h, h2]
/-! constants: every literal of the two classes as nI -/
theorem cw_m2 (a : Nat) : nI a * 2 = nI (2 * a) := by rw [Nat.mul_comm]; exact pk_mul a 2
theorem cw_m3 (a : Nat) : nI a * 3 = nI (3 * a) := by rw [Nat.mul_comm]; exact pk_mul a 3
theorem cw_m4 (a : Nat) : nI a * 4 = nI (4 * a) := by rw [Nat.mul_comm]; exact pk_mul a 4
theorem cw_m13 (a : Nat) : nI a * 13 = nI (13 * a) := by rw [Nat.mul_comm]; exact pk_mul a 13
theorem cw_2m (a : Nat) : 2 * nI a = nI (2 * a) := pk_mul 2 a
theorem cw_3m (a : Nat) : 3 * nI a = nI (3 * a) := pk_mul 3 a
theorem cw_12m (a : Nat) : 12 * nI a = nI (12 * a) := pk_mul 12 a
theorem cw_24m (a : Nat) : 24 * nI a = nI (24 * a) := pk_mul 24 a
theorem cw_36m (a : Nat) : 36 * nI a = nI (36 * a) := pk_mul 36 a
theorem cw_a12 (a : Nat) : nI a + 12 = nI (a + 12) := nI_add a 12
theorem cw_a3 (a : Nat) : nI a + 3 = nI (a + 3) := nI_add a 3
theorem cw_d4 {a : Nat} (h : a < 2 ^ 31) : nI a / 4 = nI (a / 4) := pk_div h (d := 4) (by omega) (by omega)
theorem cw_d8 {a : Nat} (h : a < 2 ^ 31) : nI a / 8 = nI (a / 8) := pk_div h (d := 8) (by omega) (by omega)
theorem cw_d100 {a : Nat} (h : a < 2 ^ 31) : nI a / 100 = nI (a / 100) := pk_div h (d := 100) (by omega) (by omega)
theorem cw_r8 {a : Nat} (h : a < 2 ^ 31) : nI a - nI a / 8 * 8 = nI (a % 8) := pk_rem h (d := 8) (by omega) (by omega)
theorem cw_s1 {a s : Nat} (h : s ≤ a + 1) : nI a + 1 - nI s = nI (a + 1 - s) := by rw [nI_1, pk_sub h]
theorem cw_n1 : ¬ (1 : Int32) = 0 := by decide
theorem cw_n4 : ¬ (4 : Int32) = 0 := by decide
theorem cw_n8 : ¬ (8 : Int32) = 0 := by decide
theorem cw_n10 : ¬ (10 : Int32) = 0 := by decide
theorem cw_n100 : ¬ (100 : Int32) = 0 := by decide
theorem cw_nm : ¬ (0 : Int32) = -1 := by decide
theorem cw_nm1 : ¬ (1 : Int32) = -1 := by decide
theorem cw_neg1 : ¬ (0 : Int32) ≤ -1 := by decide
theorem cw_neg1' : (-1 : Int32) < 0 := by decide
theorem cw_ne1 {a : Nat} (h : a < 2 ^ 31) : ¬ nI a = -1 := by
  intro e
  have := nI_pos (n := a) h
  rw [e] at this
  exact this cw_neg1'
theorem cw_pty {x : Int32} (h0 : ¬ x < 0) (h : x < 6) : ∃ j : Nat, j < 6 ∧ x = nI j := by
  obtain ⟨j, hj, rfl⟩ := nI_of h0
  exact ⟨j, (nI_ltI hj (b := 6) (by omega)).mp h, rfl⟩
theorem pk_us' {f : Nat → Int32} {k j : Nat} {x : Int32} (h : j = k) : upd f k x j = x := if_pos h
/-! copies and shifts of rows of three -/
def cw_cp2 (f g : Nat → Int32) (s t n : Nat) : Nat → Int32 := fun x => if t ≤ x ∧ x < t + n then f (x + s - t) else g x
def cw_shf (f : Nat → Int32) (lo hi : Nat) : Nat → Int32 := fun x => if lo ≤ x ∧ x < hi then f (x + 1) else f x
theorem cw_cp2_0 (f g : Nat → Int32) (s t : Nat) : cw_cp2 f g s t 0 = g := by
  funext x; unfold cw_cp2; rw [if_neg (by omega)]
theorem cw_cp2_S (f g : Nat → Int32) (s t n : Nat) : upd (cw_cp2 f g s t n) (t + n) (f (s + n)) = cw_cp2 f g s t (n + 1) := by
  funext x
  unfold upd cw_cp2
  by_cases h1 : x = t + n
  · subst h1
    rw [if_pos rfl, if_pos (by omega), show t + n + s - t = s + n by omega]
  · rw [if_neg h1]
    by_cases h2 : t ≤ x ∧ x < t + n
    · rw [if_pos h2, if_pos (by omega)]
    · rw [if_neg h2, if_neg (by omega)]
theorem cw_cp2_lo (f g : Nat → Int32) {s t n x : Nat} (h : x < t) : cw_cp2 f g s t n x = g x := by
  unfold cw_cp2; rw [if_neg (by omega)]
theorem cw_cp2_hi (f g : Nat → Int32) {s t n x : Nat} (h : t + n ≤ x) : cw_cp2 f g s t n x = g x := by
  unfold cw_cp2; rw [if_neg (by omega)]
theorem cw_cp2_in (f g : Nat → Int32) {s t n j : Nat} (h : j < n) : cw_cp2 f g s t n (t + j) = f (s + j) := by
  unfold cw_cp2; rw [if_pos (by omega), show t + j + s - t = s + j by omega]
theorem cw_cpyS (f : Nat → Int32) {s t n : Nat} (h : s + n < t) : upd (cw_cp2 f f s t n) (t + n) (cw_cp2 f f s t n (s + n)) = cw_cp2 f f s t (n + 1) := by
  rw [cw_cp2_lo f f h, cw_cp2_S]
theorem cw_shf_lo (f : Nat → Int32) {lo hi x : Nat} (h : x < lo) : cw_shf f lo hi x = f x := by
  unfold cw_shf; rw [if_neg (by omega)]
theorem cw_shf_hi (f : Nat → Int32) {lo hi x : Nat} (h : hi ≤ x) : cw_shf f lo hi x = f x := by
  unfold cw_shf; rw [if_neg (by omega)]
theorem cw_shf_in (f : Nat → Int32) {lo hi x : Nat} (h : lo ≤ x) (h2 : x < hi) : cw_shf f lo hi x = f (x + 1) := by
  unfold cw_shf; rw [if_pos ⟨h, h2⟩]
theorem cw_shfS (f : Nat → Int32) {lo hi : Nat} (h : lo ≤ hi) : upd (cw_shf f lo hi) hi (cw_shf f lo hi (hi + 1)) = cw_shf f lo (hi + 1) := by
  funext x
  unfold upd cw_shf
  rw [if_neg (show ¬ (lo ≤ hi + 1 ∧ hi + 1 < hi) by omega)]
  by_cases h1 : x = hi
  · subst h1
    rw [if_pos rfl, if_pos (by omega)]
  · rw [if_neg h1]
    by_cases h2 : lo ≤ x ∧ x < hi
    · rw [if_pos h2, if_pos (by omega)]
    · rw [if_neg h2, if_neg (by omega)]
theorem cw_shfE (f : Nat → Int32) {lo hi : Nat} (h : hi ≤ lo) : cw_shf f lo hi = f := by
  funext x; unfold cw_shf; rw [if_neg (by omega)]
/-! literals against nI -/
theorem cw_le0 {j : Nat} (h : j < 2 ^ 31) : (0 : Int32) ≤ nI j ↔ 0 ≤ j := nI_leI (a := 0) (by omega) h
theorem cw_lt0 {j : Nat} (h : j < 2 ^ 31) : (0 : Int32) < nI j ↔ 0 < j := nI_ltI (a := 0) (by omega) h
theorem cw_el0 {j : Nat} (h : j < 2 ^ 31) : nI j ≤ 0 ↔ j ≤ 0 := nI_leI (b := 0) h (by omega)
theorem cw_tl0 {j : Nat} (h : j < 2 ^ 31) : nI j < 0 ↔ j < 0 := nI_ltI (b := 0) h (by omega)
theorem cw_eq0 {j : Nat} (h : j < 2 ^ 31) : nI j = 0 ↔ j = 0 := nI_eq (b := 0) h (by omega)
theorem cw_le1 {j : Nat} (h : j < 2 ^ 31) : (1 : Int32) ≤ nI j ↔ 1 ≤ j := nI_leI (a := 1) (by omega) h
theorem cw_lt1 {j : Nat} (h : j < 2 ^ 31) : (1 : Int32) < nI j ↔ 1 < j := nI_ltI (a := 1) (by omega) h
theorem cw_el1 {j : Nat} (h : j < 2 ^ 31) : nI j ≤ 1 ↔ j ≤ 1 := nI_leI (b := 1) h (by omega)
theorem cw_tl1 {j : Nat} (h : j < 2 ^ 31) : nI j < 1 ↔ j < 1 := nI_ltI (b := 1) h (by omega)
theorem cw_eq1 {j : Nat} (h : j < 2 ^ 31) : nI j = 1 ↔ j = 1 := nI_eq (b := 1) h (by omega)
theorem cw_le2 {j : Nat} (h : j < 2 ^ 31) : (2 : Int32) ≤ nI j ↔ 2 ≤ j := nI_leI (a := 2) (by omega) h
theorem cw_lt2 {j : Nat} (h : j < 2 ^ 31) : (2 : Int32) < nI j ↔ 2 < j := nI_ltI (a := 2) (by omega) h
theorem cw_el2 {j : Nat} (h : j < 2 ^ 31) : nI j ≤ 2 ↔ j ≤ 2 := nI_leI (b := 2) h (by omega)
theorem cw_tl2 {j : Nat} (h : j < 2 ^ 31) : nI j < 2 ↔ j < 2 := nI_ltI (b := 2) h (by omega)
theorem cw_eq2 {j : Nat} (h : j < 2 ^ 31) : nI j = 2 ↔ j = 2 := nI_eq (b := 2) h (by omega)
theorem cw_le3 {j : Nat} (h : j < 2 ^ 31) : (3 : Int32) ≤ nI j ↔ 3 ≤ j := nI_leI (a := 3) (by omega) h
theorem cw_lt3 {j : Nat} (h : j < 2 ^ 31) : (3 : Int32) < nI j ↔ 3 < j := nI_ltI (a := 3) (by omega) h
theorem cw_el3 {j : Nat} (h : j < 2 ^ 31) : nI j ≤ 3 ↔ j ≤ 3 := nI_leI (b := 3) h (by omega)
theorem cw_tl3 {j : Nat} (h : j < 2 ^ 31) : nI j < 3 ↔ j < 3 := nI_ltI (b := 3) h (by omega)
theorem cw_eq3 {j : Nat} (h : j < 2 ^ 31) : nI j = 3 ↔ j = 3 := nI_eq (b := 3) h (by omega)
theorem cw_le4 {j : Nat} (h : j < 2 ^ 31) : (4 : Int32) ≤ nI j ↔ 4 ≤ j := nI_leI (a := 4) (by omega) h
theorem cw_lt4 {j : Nat} (h : j < 2 ^ 31) : (4 : Int32) < nI j ↔ 4 < j := nI_ltI (a := 4) (by omega) h
theorem cw_el4 {j : Nat} (h : j < 2 ^ 31) : nI j ≤ 4 ↔ j ≤ 4 := nI_leI (b := 4) h (by omega)
theorem cw_tl4 {j : Nat} (h : j < 2 ^ 31) : nI j < 4 ↔ j < 4 := nI_ltI (b := 4) h (by omega)
theorem cw_eq4 {j : Nat} (h : j < 2 ^ 31) : nI j = 4 ↔ j = 4 := nI_eq (b := 4) h (by omega)
theorem cw_le5 {j : Nat} (h : j < 2 ^ 31) : (5 : Int32) ≤ nI j ↔ 5 ≤ j := nI_leI (a := 5) (by omega) h
theorem cw_lt5 {j : Nat} (h : j < 2 ^ 31) : (5 : Int32) < nI j ↔ 5 < j := nI_ltI (a := 5) (by omega) h
theorem cw_el5 {j : Nat} (h : j < 2 ^ 31) : nI j ≤ 5 ↔ j ≤ 5 := nI_leI (b := 5) h (by omega)
theorem cw_tl5 {j : Nat} (h : j < 2 ^ 31) : nI j < 5 ↔ j < 5 := nI_ltI (b := 5) h (by omega)
theorem cw_eq5 {j : Nat} (h : j < 2 ^ 31) : nI j = 5 ↔ j = 5 := nI_eq (b := 5) h (by omega)
theorem cw_le6 {j : Nat} (h : j < 2 ^ 31) : (6 : Int32) ≤ nI j ↔ 6 ≤ j := nI_leI (a := 6) (by omega) h
theorem cw_lt6 {j : Nat} (h : j < 2 ^ 31) : (6 : Int32) < nI j ↔ 6 < j := nI_ltI (a := 6) (by omega) h
theorem cw_el6 {j : Nat} (h : j < 2 ^ 31) : nI j ≤ 6 ↔ j ≤ 6 := nI_leI (b := 6) h (by omega)
theorem cw_tl6 {j : Nat} (h : j < 2 ^ 31) : nI j < 6 ↔ j < 6 := nI_ltI (b := 6) h (by omega)
theorem cw_eq6 {j : Nat} (h : j < 2 ^ 31) : nI j = 6 ↔ j = 6 := nI_eq (b := 6) h (by omega)
theorem cw_le7 {j : Nat} (h : j < 2 ^ 31) : (7 : Int32) ≤ nI j ↔ 7 ≤ j := nI_leI (a := 7) (by omega) h
theorem cw_lt7 {j : Nat} (h : j < 2 ^ 31) : (7 : Int32) < nI j ↔ 7 < j := nI_ltI (a := 7) (by omega) h
theorem cw_el7 {j : Nat} (h : j < 2 ^ 31) : nI j ≤ 7 ↔ j ≤ 7 := nI_leI (b := 7) h (by omega)
theorem cw_tl7 {j : Nat} (h : j < 2 ^ 31) : nI j < 7 ↔ j < 7 := nI_ltI (b := 7) h (by omega)
theorem cw_eq7 {j : Nat} (h : j < 2 ^ 31) : nI j = 7 ↔ j = 7 := nI_eq (b := 7) h (by omega)
theorem cw_le8 {j : Nat} (h : j < 2 ^ 31) : (8 : Int32) ≤ nI j ↔ 8 ≤ j := nI_leI (a := 8) (by omega) h
theorem cw_lt8 {j : Nat} (h : j < 2 ^ 31) : (8 : Int32) < nI j ↔ 8 < j := nI_ltI (a := 8) (by omega) h
theorem cw_el8 {j : Nat} (h : j < 2 ^ 31) : nI j ≤ 8 ↔ j ≤ 8 := nI_leI (b := 8) h (by omega)
theorem cw_tl8 {j : Nat} (h : j < 2 ^ 31) : nI j < 8 ↔ j < 8 := nI_ltI (b := 8) h (by omega)
theorem cw_eq8 {j : Nat} (h : j < 2 ^ 31) : nI j = 8 ↔ j = 8 := nI_eq (b := 8) h (by omega)
theorem cw_le9 {j : Nat} (h : j < 2 ^ 31) : (9 : Int32) ≤ nI j ↔ 9 ≤ j := nI_leI (a := 9) (by omega) h
theorem cw_lt9 {j : Nat} (h : j < 2 ^ 31) : (9 : Int32) < nI j ↔ 9 < j := nI_ltI (a := 9) (by omega) h
theorem cw_el9 {j : Nat} (h : j < 2 ^ 31) : nI j ≤ 9 ↔ j ≤ 9 := nI_leI (b := 9) h (by omega)
theorem cw_tl9 {j : Nat} (h : j < 2 ^ 31) : nI j < 9 ↔ j < 9 := nI_ltI (b := 9) h (by omega)
theorem cw_eq9 {j : Nat} (h : j < 2 ^ 31) : nI j = 9 ↔ j = 9 := nI_eq (b := 9) h (by omega)
theorem cw_le10 {j : Nat} (h : j < 2 ^ 31) : (10 : Int32) ≤ nI j ↔ 10 ≤ j := nI_leI (a := 10) (by omega) h
theorem cw_lt10 {j : Nat} (h : j < 2 ^ 31) : (10 : Int32) < nI j ↔ 10 < j := nI_ltI (a := 10) (by omega) h
theorem cw_el10 {j : Nat} (h : j < 2 ^ 31) : nI j ≤ 10 ↔ j ≤ 10 := nI_leI (b := 10) h (by omega)
theorem cw_tl10 {j : Nat} (h : j < 2 ^ 31) : nI j < 10 ↔ j < 10 := nI_ltI (b := 10) h (by omega)
theorem cw_eq10 {j : Nat} (h : j < 2 ^ 31) : nI j = 10 ↔ j = 10 := nI_eq (b := 10) h (by omega)
theorem cw_le11 {j : Nat} (h : j < 2 ^ 31) : (11 : Int32) ≤ nI j ↔ 11 ≤ j := nI_leI (a := 11) (by omega) h
theorem cw_lt11 {j : Nat} (h : j < 2 ^ 31) : (11 : Int32) < nI j ↔ 11 < j := nI_ltI (a := 11) (by omega) h
theorem cw_el11 {j : Nat} (h : j < 2 ^ 31) : nI j ≤ 11 ↔ j ≤ 11 := nI_leI (b := 11) h (by omega)
theorem cw_tl11 {j : Nat} (h : j < 2 ^ 31) : nI j < 11 ↔ j < 11 := nI_ltI (b := 11) h (by omega)
theorem cw_eq11 {j : Nat} (h : j < 2 ^ 31) : nI j = 11 ↔ j = 11 := nI_eq (b := 11) h (by omega)
theorem cw_le16 {j : Nat} (h : j < 2 ^ 31) : (16 : Int32) ≤ nI j ↔ 16 ≤ j := nI_leI (a := 16) (by omega) h
theorem cw_lt16 {j : Nat} (h : j < 2 ^ 31) : (16 : Int32) < nI j ↔ 16 < j := nI_ltI (a := 16) (by omega) h
theorem cw_el16 {j : Nat} (h : j < 2 ^ 31) : nI j ≤ 16 ↔ j ≤ 16 := nI_leI (b := 16) h (by omega)
theorem cw_tl16 {j : Nat} (h : j < 2 ^ 31) : nI j < 16 ↔ j < 16 := nI_ltI (b := 16) h (by omega)
theorem cw_eq16 {j : Nat} (h : j < 2 ^ 31) : nI j = 16 ↔ j = 16 := nI_eq (b := 16) h (by omega)
theorem cw_le20 {j : Nat} (h : j < 2 ^ 31) : (20 : Int32) ≤ nI j ↔ 20 ≤ j := nI_leI (a := 20) (by omega) h
theorem cw_lt20 {j : Nat} (h : j < 2 ^ 31) : (20 : Int32) < nI j ↔ 20 < j := nI_ltI (a := 20) (by omega) h
theorem cw_el20 {j : Nat} (h : j < 2 ^ 31) : nI j ≤ 20 ↔ j ≤ 20 := nI_leI (b := 20) h (by omega)
theorem cw_tl20 {j : Nat} (h : j < 2 ^ 31) : nI j < 20 ↔ j < 20 := nI_ltI (b := 20) h (by omega)
theorem cw_eq20 {j : Nat} (h : j < 2 ^ 31) : nI j = 20 ↔ j = 20 := nI_eq (b := 20) h (by omega)
theorem cw_le255 {j : Nat} (h : j < 2 ^ 31) : (255 : Int32) ≤ nI j ↔ 255 ≤ j := nI_leI (a := 255) (by omega) h
theorem cw_lt255 {j : Nat} (h : j < 2 ^ 31) : (255 : Int32) < nI j ↔ 255 < j := nI_ltI (a := 255) (by omega) h
theorem cw_el255 {j : Nat} (h : j < 2 ^ 31) : nI j ≤ 255 ↔ j ≤ 255 := nI_leI (b := 255) h (by omega)
theorem cw_tl255 {j : Nat} (h : j < 2 ^ 31) : nI j < 255 ↔ j < 255 := nI_ltI (b := 255) h (by omega)
theorem cw_eq255 {j : Nat} (h : j < 2 ^ 31) : nI j = 255 ↔ j = 255 := nI_eq (b := 255) h (by omega)
theorem cw_le256 {j : Nat} (h : j < 2 ^ 31) : (256 : Int32) ≤ nI j ↔ 256 ≤ j := nI_leI (a := 256) (by omega) h
theorem cw_lt256 {j : Nat} (h : j < 2 ^ 31) : (256 : Int32) < nI j ↔ 256 < j := nI_ltI (a := 256) (by omega) h
theorem cw_el256 {j : Nat} (h : j < 2 ^ 31) : nI j ≤ 256 ↔ j ≤ 256 := nI_leI (b := 256) h (by omega)
theorem cw_tl256 {j : Nat} (h : j < 2 ^ 31) : nI j < 256 ↔ j < 256 := nI_ltI (b := 256) h (by omega)
theorem cw_eq256 {j : Nat} (h : j < 2 ^ 31) : nI j = 256 ↔ j = 256 := nI_eq (b := 256) h (by omega)
