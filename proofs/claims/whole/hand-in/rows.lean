section
/-! part 01: numbers and bits (pk_, b_, bt, s_l: pasted from kit/rows) -/
theorem pk_us {f : Nat → Int32} {k : Nat} {x : Int32} : upd f k x k = x := if_pos rfl
theorem pk_un {f : Nat → Int32} {k j : Nat} {x : Int32} (h : j ≠ k) : upd f k x j = f j := if_neg h
theorem pk_sub {a b : Nat} (h : b ≤ a) : nI a - nI b = nI (a - b) := by
  obtain ⟨c, rfl⟩ : ∃ c, a = c + b := ⟨a - b, by omega⟩
  rw [← nI_add, Int32.add_sub_cancel, Nat.add_sub_cancel]
theorem pk_m1 (n : Nat) : nI (n + 1) + (-1) = nI n := by
  rw [← nI_1, Int32.add_assoc, show (1 : Int32) + (-1) = 0 from rfl, Int32.add_zero]
theorem pk_mul (a b : Nat) : nI a * nI b = nI (a * b) := (Int32.ofNat_mul a b).symm
theorem pk_div {a d : Nat} (ha : a < 2 ^ 31) (h0 : 0 < d) (hd : d < 2 ^ 31) : nI a / nI d = nI (a / d) := by
  apply Int32.toInt_inj.mp
  rw [lg_idiv_nonneg (by rw [nI_toInt ha]; omega) (by rw [nI_toInt hd]; omega), nI_toInt ha, nI_toInt hd, nI_toInt (Nat.lt_of_le_of_lt (Nat.div_le_self a d) ha)]
  first | rfl | exact (Int.natCast_ediv _ _).symm
theorem pk_rem {a d : Nat} (ha : a < 2 ^ 31) (h0 : 0 < d) (hd : d < 2 ^ 31) : nI a - nI a / nI d * nI d = nI (a % d) := by
  rw [pk_div ha h0 hd, pk_mul, pk_sub (Nat.div_mul_le_self a d)]
  exact congrArg nI (by have := Nat.div_add_mod' a d; omega)
theorem pk_sub_toInt {a b : Nat} (ha : a < 2 ^ 30) (hb : b < 2 ^ 30) : (nI a - nI b).toInt = (a : Int) - b := by
  rw [Int32.toInt_sub, nI_toInt (by omega), nI_toInt (by omega)]
  exact Int.bmod_eq_of_le (by omega) (by omega)
theorem pk_ix (x : Int32) {n : Nat} (hn : n < 2 ^ 31) : x < 0 ∨ nI n ≤ x ∨ ∃ j : Nat, j < n ∧ x = nI j := by
  by_cases h : x < 0
  · exact Or.inl h
  · obtain ⟨j, hj, rfl⟩ := nI_of h
    by_cases h2 : j < n
    · exact Or.inr (Or.inr ⟨j, h2, rfl⟩)
    · exact Or.inr (Or.inl (nI_le (by omega) hj))
theorem pk_le {x y : Int32} {A B : Prop} (a b : Nat) (f : a ≤ b → A) (g : b < a → B) (hx : x = nI a := by rfl) (hy : y = nI b := by rfl) (ha : a < 2 ^ 31 := by omega) (hb : b < 2 ^ 31 := by omega) : (x ≤ y → A) ∧ (¬ x ≤ y → B) := by
  subst hx hy
  rw [nI_leI ha hb]
  exact ⟨f, fun z => g (by omega)⟩
theorem pk_lt {x y : Int32} {A B : Prop} (a b : Nat) (f : a < b → A) (g : b ≤ a → B) (hx : x = nI a := by rfl) (hy : y = nI b := by rfl) (ha : a < 2 ^ 31 := by omega) (hb : b < 2 ^ 31 := by omega) : (x < y → A) ∧ (¬ x < y → B) := by
  subst hx hy
  rw [nI_ltI ha hb]
  exact ⟨f, fun z => g (by omega)⟩
theorem pk_eq {x y : Int32} {A B : Prop} (a b : Nat) (f : a = b → A) (g : a ≠ b → B) (hx : x = nI a := by rfl) (hy : y = nI b := by rfl) (ha : a < 2 ^ 31 := by omega) (hb : b < 2 ^ 31 := by omega) : (x = y → A) ∧ (¬ x = y → B) := by
  subst hx hy
  rw [nI_eq ha hb]
  exact ⟨f, g⟩
theorem pk_in {x : Int32} (n N : Nat) (h : n < N) (hx : x = nI n := by rfl) (hN : N < 2 ^ 31 := by omega) : vp_in x N := by
  subst hx
  exact vp_in_nI h hN
theorem pk_cl {x : Int32} (n : Nat) (hx : x = nI n := by rfl) (h : n < 2 ^ 31 := by omega) : x.toNatClampNeg = n := by
  subst hx
  exact nI_clamp h
theorem pk_tn {n : Nat} (h : n < 2 ^ 32) : (nI n).toBitVec.toNat = n := Nat.mod_eq_of_lt h
theorem pk_loop {σ : Type} (W : Nat → Nat → σ → Prop) (I : Nat → σ → Prop) (e i0 : Nat) (s : σ) (hi : i0 ≤ e) (h0 : I i0 s) (hx : ∀ n s, I e s → W (n + 1) e s)
    (hs : ∀ n i s, i < e → I i s → (∀ s', I (i + 1) s' → W n (i + 1) s') → W (n + 1) i s) : ∃ n, W n i0 s :=
  ⟨e + 1, loop_i W I e hx hs (e + 1) i0 s hi (by omega) h0⟩
theorem pk_loopD {σ : Type} (W : Nat → Nat → σ → Prop) (I : Nat → σ → Prop) (hx : ∀ n s, I 0 s → W (n + 1) 0 s)
    (hs : ∀ n i s, I (i + 1) s → (∀ s', I i s' → W n i s') → W (n + 1) (i + 1) s) : ∀ (e : Nat) (s : σ), I e s → W (e + 1) e s := by
  intro e
  induction e with
  | zero => exact fun s h => hx 0 s h
  | succ e ih => exact fun s h => hs (e + 1) e s h (fun s' h' => ih s' h')
theorem pk_shl (a s : Int32) (k : Nat) (hs : (s.toBitVec.smod 32).toNat = k) : (a <<< s).toBitVec.toNat = a.toBitVec.toNat * 2 ^ k % 2 ^ 32 := by
  show (a.toBitVec <<< (s.toBitVec.smod 32).toNat).toNat = _
  rw [hs, BitVec.toNat_shiftLeft, Nat.shiftLeft_eq]
theorem pk_shlN {n : Nat} (s : Int32) (k : Nat) (hs : (s.toBitVec.smod 32).toNat = k) (h : n * 2 ^ k < 2 ^ 32) : nI n <<< s = nI (n * 2 ^ k) := by
  apply Int32.toBitVec_inj.mp
  apply BitVec.eq_of_toNat_eq
  have hn : n < 2 ^ 32 := Nat.lt_of_le_of_lt (Nat.le_mul_of_pos_right n (Nat.two_pow_pos k)) h
  rw [pk_shl _ _ k hs, pk_tn hn, pk_tn h, Nat.mod_eq_of_lt h]
def bt (x : Int32) (i : Nat) : Bool := x.toBitVec.getLsbD i
theorem b_ext {x y : Int32} (h : ∀ i, i < 32 → bt x i = bt y i) : x = y := Int32.toBitVec_inj.mp (BitVec.eq_of_getLsbD_eq (fun i hi => h i hi))
theorem b_or (x y : Int32) (i : Nat) : bt (x ||| y) i = (bt x i || bt y i) := by unfold bt; rw [Int32.toBitVec_or, BitVec.getLsbD_or]
theorem b_and (x y : Int32) (i : Nat) : bt (x &&& y) i = (bt x i && bt y i) := by unfold bt; rw [Int32.toBitVec_and, BitVec.getLsbD_and]
theorem b_big {x : Int32} {i : Nat} (h : 32 ≤ i) : bt x i = false := BitVec.getLsbD_of_ge _ _ h
theorem b_0 (i : Nat) : bt 0 i = false := BitVec.getLsbD_zero
theorem s_l : ∀ n, n < 32 → ((nI n &&& 31).toBitVec.smod 32).toNat = n := by decide +kernel
theorem b_shl (n : Nat) (hn : n < 32) (x : Int32) {i : Nat} (hi : i < 32) : bt (x <<< (nI n &&& 31)) i = (decide (n ≤ i) && bt x (i - n)) := by
  unfold bt
  rw [Int32.toBitVec_shiftLeft]
  show (x.toBitVec <<< ((nI n &&& 31).toBitVec.smod 32).toNat).getLsbD i = _
  rw [s_l n hn, BitVec.getLsbD_shiftLeft]
  rcases Nat.lt_or_ge i n with h | h
  · simp [h, Nat.not_le.mpr h]
  · simp [hi, h, Nat.not_lt.mpr h]
theorem b_sshr (n : Nat) (hn : n < 32) (x : Int32) {i : Nat} (hi : i < 32) : bt (x >>> (nI n &&& 31)) i = if n + i < 32 then bt x (n + i) else bt x 31 := by
  unfold bt
  rw [Int32.toBitVec_shiftRight]
  show (x.toBitVec.sshiftRight ((nI n &&& 31).toBitVec.smod 32).toNat).getLsbD i = _
  rw [s_l n hn, BitVec.getLsbD_sshiftRight, BitVec.msb_eq_getLsbD_last]
  simp [hi]
theorem cw_b1 (j : Nat) : bt 1 j = decide (j = 0) := by
  rcases Nat.lt_or_ge j 32 with h | h
  · exact (by decide +kernel : ∀ i, i < 32 → bt 1 i = decide (i = 0)) j h
  · rw [b_big h, decide_eq_false (by omega)]
theorem cw_bit (x : Int32) {i : Nat} (hi : i < 32) : (x >>> (nI i &&& 31)) &&& 1 = if bt x i then 1 else 0 := by
  apply b_ext
  intro j hj
  rw [b_and, b_sshr i hi x hj, cw_b1]
  by_cases h0 : j = 0
  · subst h0
    cases hb : bt x i <;> simp [hi, hb, cw_b1, b_0]
  · cases hb : bt x i <;> simp [h0, cw_b1, b_0]
theorem cw_bit0 (x : Int32) {i : Nat} (hi : i < 32) : (x >>> (nI i &&& 31)) &&& 1 = 0 ↔ bt x i = false := by
  rw [cw_bit x hi]
  cases bt x i <;> decide
theorem cw_bit1 (x : Int32) {i : Nat} (hi : i < 32) : (x >>> (nI i &&& 31)) &&& 1 = 1 ↔ bt x i = true := by
  rw [cw_bit x hi]
  cases bt x i <;> decide
theorem cw_set (x : Int32) {i j : Nat} (hi : i < 32) (hj : j < 32) : bt (x ||| ((1 : Int32) <<< (nI i &&& 31))) j = (bt x j || decide (j = i)) := by
  rw [b_or, b_shl i hi 1 hj, cw_b1]
  congr 1
  by_cases h : j = i
  · subst h; simp
  · by_cases h2 : i ≤ j
    · have : ¬ j - i = 0 := by omega
      simp [h, this]
    · simp [h, h2]
theorem cw_one {i j : Nat} (hi : i < 32) (hj : j < 32) : bt ((1 : Int32) <<< (nI i &&& 31)) j = decide (j = i) := by
  rw [b_shl i hi 1 hj, cw_b1]
  by_cases h : j = i
  · subst h; simp
  · by_cases h2 : i ≤ j
    · have : ¬ j - i = 0 := by omega
      simp [h, this]
    · simp [h, h2]
/-! constants: every literal of the two classes as nI -/
theorem cw_m2 (a : Nat) : nI a * 2 = nI (2 * a) := by rw [Nat.mul_comm]; exact pk_mul a 2
theorem cw_m3 (a : Nat) : nI a * 3 = nI (3 * a) := by rw [Nat.mul_comm]; exact pk_mul a 3
theorem cw_m4 (a : Nat) : nI a * 4 = nI (4 * a) := by rw [Nat.mul_comm]; exact pk_mul a 4
theorem cw_m13 (a : Nat) : nI a * 13 = nI (13 * a) := by rw [Nat.mul_comm]; exact pk_mul a 13
theorem cw_2m (a : Nat) : 2 * nI a = nI (2 * a) := pk_mul 2 a
theorem cw_3m (a : Nat) : 3 * nI a = nI (3 * a) := pk_mul 3 a
theorem cw_12m (a : Nat) : 12 * nI a = nI (12 * a) := pk_mul 12 a
theorem cw_24m (a : Nat) : 24 * nI a = nI (24 * a) := pk_mul 24 a
theorem cw_36m (a : Nat) : 36 * nI a = nI (36 * a) := pk_mul 36 a
theorem cw_a12 (a : Nat) : nI a + 12 = nI (a + 12) := nI_add a 12
theorem cw_a3 (a : Nat) : nI a + 3 = nI (a + 3) := nI_add a 3
theorem cw_d4 {a : Nat} (h : a < 2 ^ 31) : nI a / 4 = nI (a / 4) := pk_div h (d := 4) (by omega) (by omega)
theorem cw_d8 {a : Nat} (h : a < 2 ^ 31) : nI a / 8 = nI (a / 8) := pk_div h (d := 8) (by omega) (by omega)
theorem cw_d100 {a : Nat} (h : a < 2 ^ 31) : nI a / 100 = nI (a / 100) := pk_div h (d := 100) (by omega) (by omega)
theorem cw_r8 {a : Nat} (h : a < 2 ^ 31) : nI a - nI a / 8 * 8 = nI (a % 8) := pk_rem h (d := 8) (by omega) (by omega)
theorem cw_s1 {a s : Nat} (h : s ≤ a + 1) : nI a + 1 - nI s = nI (a + 1 - s) := by rw [nI_1, pk_sub h]
theorem cw_n1 : ¬ (1 : Int32) = 0 := by decide
theorem cw_n4 : ¬ (4 : Int32) = 0 := by decide
theorem cw_n8 : ¬ (8 : Int32) = 0 := by decide
theorem cw_n10 : ¬ (10 : Int32) = 0 := by decide
theorem cw_n100 : ¬ (100 : Int32) = 0 := by decide
theorem cw_nm : ¬ (0 : Int32) = -1 := by decide
theorem cw_nm1 : ¬ (1 : Int32) = -1 := by decide
theorem cw_neg1 : ¬ (0 : Int32) ≤ -1 := by decide
theorem cw_neg1' : (-1 : Int32) < 0 := by decide
theorem cw_ne1 {a : Nat} (h : a < 2 ^ 31) : ¬ nI a = -1 := by
  intro e
  have := nI_pos (n := a) h
  rw [e] at this
  exact this cw_neg1'
theorem cw_pty {x : Int32} (h0 : ¬ x < 0) (h : x < 6) : ∃ j : Nat, j < 6 ∧ x = nI j := by
  obtain ⟨j, hj, rfl⟩ := nI_of h0
  exact ⟨j, (nI_ltI hj (b := 6) (by omega)).mp h, rfl⟩
theorem pk_us' {f : Nat → Int32} {k j : Nat} {x : Int32} (h : j = k) : upd f k x j = x := if_pos h
/-! copies and shifts of rows of three -/
def cw_cp2 (f g : Nat → Int32) (s t n : Nat) : Nat → Int32 := fun x => if t ≤ x ∧ x < t + n then f (x + s - t) else g x
def cw_shf (f : Nat → Int32) (lo hi : Nat) : Nat → Int32 := fun x => if lo ≤ x ∧ x < hi then f (x + 1) else f x
theorem cw_cp2_0 (f g : Nat → Int32) (s t : Nat) : cw_cp2 f g s t 0 = g := by
  funext x; unfold cw_cp2; rw [if_neg (by omega)]
theorem cw_cp2_S (f g : Nat → Int32) (s t n : Nat) : upd (cw_cp2 f g s t n) (t + n) (f (s + n)) = cw_cp2 f g s t (n + 1) := by
  funext x
  unfold upd cw_cp2
  by_cases h1 : x = t + n
  · subst h1
    rw [if_pos rfl, if_pos (by omega), show t + n + s - t = s + n by omega]
  · rw [if_neg h1]
    by_cases h2 : t ≤ x ∧ x < t + n
    · rw [if_pos h2, if_pos (by omega)]
    · rw [if_neg h2, if_neg (by omega)]
theorem cw_cp2_lo (f g : Nat → Int32) {s t n x : Nat} (h : x < t) : cw_cp2 f g s t n x = g x := by
  unfold cw_cp2; rw [if_neg (by omega)]
theorem cw_cp2_hi (f g : Nat → Int32) {s t n x : Nat} (h : t + n ≤ x) : cw_cp2 f g s t n x = g x := by
  unfold cw_cp2; rw [if_neg (by omega)]
theorem cw_cp2_in (f g : Nat → Int32) {s t n j : Nat} (h : j < n) : cw_cp2 f g s t n (t + j) = f (s + j) := by
  unfold cw_cp2; rw [if_pos (by omega), show t + j + s - t = s + j by omega]
theorem cw_cpyS (f : Nat → Int32) {s t n : Nat} (h : s + n < t) : upd (cw_cp2 f f s t n) (t + n) (cw_cp2 f f s t n (s + n)) = cw_cp2 f f s t (n + 1) := by
  rw [cw_cp2_lo f f h, cw_cp2_S]
theorem cw_shf_lo (f : Nat → Int32) {lo hi x : Nat} (h : x < lo) : cw_shf f lo hi x = f x := by
  unfold cw_shf; rw [if_neg (by omega)]
theorem cw_shf_hi (f : Nat → Int32) {lo hi x : Nat} (h : hi ≤ x) : cw_shf f lo hi x = f x := by
  unfold cw_shf; rw [if_neg (by omega)]
theorem cw_shf_in (f : Nat → Int32) {lo hi x : Nat} (h : lo ≤ x) (h2 : x < hi) : cw_shf f lo hi x = f (x + 1) := by
  unfold cw_shf; rw [if_pos ⟨h, h2⟩]
theorem cw_shfS (f : Nat → Int32) {lo hi : Nat} (h : lo ≤ hi) : upd (cw_shf f lo hi) hi (cw_shf f lo hi (hi + 1)) = cw_shf f lo (hi + 1) := by
  funext x
  unfold upd cw_shf
  rw [if_neg (show ¬ (lo ≤ hi + 1 ∧ hi + 1 < hi) by omega)]
  by_cases h1 : x = hi
  · subst h1
    rw [if_pos rfl, if_pos (by omega)]
  · rw [if_neg h1]
    by_cases h2 : lo ≤ x ∧ x < hi
    · rw [if_pos h2, if_pos (by omega)]
    · rw [if_neg h2, if_neg (by omega)]
theorem cw_shfE (f : Nat → Int32) {lo hi : Nat} (h : hi ≤ lo) : cw_shf f lo hi = f := by
  funext x; unfold cw_shf; rw [if_neg (by omega)]
/-! literals against nI -/
theorem cw_le0 {j : Nat} (h : j < 2 ^ 31) : (0 : Int32) ≤ nI j ↔ 0 ≤ j := nI_leI (a := 0) (by omega) h
theorem cw_lt0 {j : Nat} (h : j < 2 ^ 31) : (0 : Int32) < nI j ↔ 0 < j := nI_ltI (a := 0) (by omega) h
theorem cw_el0 {j : Nat} (h : j < 2 ^ 31) : nI j ≤ 0 ↔ j ≤ 0 := nI_leI (b := 0) h (by omega)
theorem cw_tl0 {j : Nat} (h : j < 2 ^ 31) : nI j < 0 ↔ j < 0 := nI_ltI (b := 0) h (by omega)
theorem cw_eq0 {j : Nat} (h : j < 2 ^ 31) : nI j = 0 ↔ j = 0 := nI_eq (b := 0) h (by omega)
theorem cw_le1 {j : Nat} (h : j < 2 ^ 31) : (1 : Int32) ≤ nI j ↔ 1 ≤ j := nI_leI (a := 1) (by omega) h
theorem cw_lt1 {j : Nat} (h : j < 2 ^ 31) : (1 : Int32) < nI j ↔ 1 < j := nI_ltI (a := 1) (by omega) h
theorem cw_el1 {j : Nat} (h : j < 2 ^ 31) : nI j ≤ 1 ↔ j ≤ 1 := nI_leI (b := 1) h (by omega)
theorem cw_tl1 {j : Nat} (h : j < 2 ^ 31) : nI j < 1 ↔ j < 1 := nI_ltI (b := 1) h (by omega)
theorem cw_eq1 {j : Nat} (h : j < 2 ^ 31) : nI j = 1 ↔ j = 1 := nI_eq (b := 1) h (by omega)
theorem cw_le2 {j : Nat} (h : j < 2 ^ 31) : (2 : Int32) ≤ nI j ↔ 2 ≤ j := nI_leI (a := 2) (by omega) h
theorem cw_lt2 {j : Nat} (h : j < 2 ^ 31) : (2 : Int32) < nI j ↔ 2 < j := nI_ltI (a := 2) (by omega) h
theorem cw_el2 {j : Nat} (h : j < 2 ^ 31) : nI j ≤ 2 ↔ j ≤ 2 := nI_leI (b := 2) h (by omega)
theorem cw_tl2 {j : Nat} (h : j < 2 ^ 31) : nI j < 2 ↔ j < 2 := nI_ltI (b := 2) h (by omega)
theorem cw_eq2 {j : Nat} (h : j < 2 ^ 31) : nI j = 2 ↔ j = 2 := nI_eq (b := 2) h (by omega)
theorem cw_le3 {j : Nat} (h : j < 2 ^ 31) : (3 : Int32) ≤ nI j ↔ 3 ≤ j := nI_leI (a := 3) (by omega) h
theorem cw_lt3 {j : Nat} (h : j < 2 ^ 31) : (3 : Int32) < nI j ↔ 3 < j := nI_ltI (a := 3) (by omega) h
theorem cw_el3 {j : Nat} (h : j < 2 ^ 31) : nI j ≤ 3 ↔ j ≤ 3 := nI_leI (b := 3) h (by omega)
theorem cw_tl3 {j : Nat} (h : j < 2 ^ 31) : nI j < 3 ↔ j < 3 := nI_ltI (b := 3) h (by omega)
theorem cw_eq3 {j : Nat} (h : j < 2 ^ 31) : nI j = 3 ↔ j = 3 := nI_eq (b := 3) h (by omega)
theorem cw_le4 {j : Nat} (h : j < 2 ^ 31) : (4 : Int32) ≤ nI j ↔ 4 ≤ j := nI_leI (a := 4) (by omega) h
theorem cw_lt4 {j : Nat} (h : j < 2 ^ 31) : (4 : Int32) < nI j ↔ 4 < j := nI_ltI (a := 4) (by omega) h
theorem cw_el4 {j : Nat} (h : j < 2 ^ 31) : nI j ≤ 4 ↔ j ≤ 4 := nI_leI (b := 4) h (by omega)
theorem cw_tl4 {j : Nat} (h : j < 2 ^ 31) : nI j < 4 ↔ j < 4 := nI_ltI (b := 4) h (by omega)
theorem cw_eq4 {j : Nat} (h : j < 2 ^ 31) : nI j = 4 ↔ j = 4 := nI_eq (b := 4) h (by omega)
theorem cw_le5 {j : Nat} (h : j < 2 ^ 31) : (5 : Int32) ≤ nI j ↔ 5 ≤ j := nI_leI (a := 5) (by omega) h
theorem cw_lt5 {j : Nat} (h : j < 2 ^ 31) : (5 : Int32) < nI j ↔ 5 < j := nI_ltI (a := 5) (by omega) h
theorem cw_el5 {j : Nat} (h : j < 2 ^ 31) : nI j ≤ 5 ↔ j ≤ 5 := nI_leI (b := 5) h (by omega)
theorem cw_tl5 {j : Nat} (h : j < 2 ^ 31) : nI j < 5 ↔ j < 5 := nI_ltI (b := 5) h (by omega)
theorem cw_eq5 {j : Nat} (h : j < 2 ^ 31) : nI j = 5 ↔ j = 5 := nI_eq (b := 5) h (by omega)
theorem cw_le6 {j : Nat} (h : j < 2 ^ 31) : (6 : Int32) ≤ nI j ↔ 6 ≤ j := nI_leI (a := 6) (by omega) h
theorem cw_lt6 {j : Nat} (h : j < 2 ^ 31) : (6 : Int32) < nI j ↔ 6 < j := nI_ltI (a := 6) (by omega) h
theorem cw_el6 {j : Nat} (h : j < 2 ^ 31) : nI j ≤ 6 ↔ j ≤ 6 := nI_leI (b := 6) h (by omega)
theorem cw_tl6 {j : Nat} (h : j < 2 ^ 31) : nI j < 6 ↔ j < 6 := nI_ltI (b := 6) h (by omega)
theorem cw_eq6 {j : Nat} (h : j < 2 ^ 31) : nI j = 6 ↔ j = 6 := nI_eq (b := 6) h (by omega)
theorem cw_le7 {j : Nat} (h : j < 2 ^ 31) : (7 : Int32) ≤ nI j ↔ 7 ≤ j := nI_leI (a := 7) (by omega) h
theorem cw_lt7 {j : Nat} (h : j < 2 ^ 31) : (7 : Int32) < nI j ↔ 7 < j := nI_ltI (a := 7) (by omega) h
theorem cw_el7 {j : Nat} (h : j < 2 ^ 31) : nI j ≤ 7 ↔ j ≤ 7 := nI_leI (b := 7) h (by omega)
theorem cw_tl7 {j : Nat} (h : j < 2 ^ 31) : nI j < 7 ↔ j < 7 := nI_ltI (b := 7) h (by omega)
theorem cw_eq7 {j : Nat} (h : j < 2 ^ 31) : nI j = 7 ↔ j = 7 := nI_eq (b := 7) h (by omega)
theorem cw_le8 {j : Nat} (h : j < 2 ^ 31) : (8 : Int32) ≤ nI j ↔ 8 ≤ j := nI_leI (a := 8) (by omega) h
theorem cw_lt8 {j : Nat} (h : j < 2 ^ 31) : (8 : Int32) < nI j ↔ 8 < j := nI_ltI (a := 8) (by omega) h
theorem cw_el8 {j : Nat} (h : j < 2 ^ 31) : nI j ≤ 8 ↔ j ≤ 8 := nI_leI (b := 8) h (by omega)
theorem cw_tl8 {j : Nat} (h : j < 2 ^ 31) : nI j < 8 ↔ j < 8 := nI_ltI (b := 8) h (by omega)
theorem cw_eq8 {j : Nat} (h : j < 2 ^ 31) : nI j = 8 ↔ j = 8 := nI_eq (b := 8) h (by omega)
theorem cw_le9 {j : Nat} (h : j < 2 ^ 31) : (9 : Int32) ≤ nI j ↔ 9 ≤ j := nI_leI (a := 9) (by omega) h
theorem cw_lt9 {j : Nat} (h : j < 2 ^ 31) : (9 : Int32) < nI j ↔ 9 < j := nI_ltI (a := 9) (by omega) h
theorem cw_el9 {j : Nat} (h : j < 2 ^ 31) : nI j ≤ 9 ↔ j ≤ 9 := nI_leI (b := 9) h (by omega)
theorem cw_tl9 {j : Nat} (h : j < 2 ^ 31) : nI j < 9 ↔ j < 9 := nI_ltI (b := 9) h (by omega)
theorem cw_eq9 {j : Nat} (h : j < 2 ^ 31) : nI j = 9 ↔ j = 9 := nI_eq (b := 9) h (by omega)
theorem cw_le10 {j : Nat} (h : j < 2 ^ 31) : (10 : Int32) ≤ nI j ↔ 10 ≤ j := nI_leI (a := 10) (by omega) h
theorem cw_lt10 {j : Nat} (h : j < 2 ^ 31) : (10 : Int32) < nI j ↔ 10 < j := nI_ltI (a := 10) (by omega) h
theorem cw_el10 {j : Nat} (h : j < 2 ^ 31) : nI j ≤ 10 ↔ j ≤ 10 := nI_leI (b := 10) h (by omega)
theorem cw_tl10 {j : Nat} (h : j < 2 ^ 31) : nI j < 10 ↔ j < 10 := nI_ltI (b := 10) h (by omega)
theorem cw_eq10 {j : Nat} (h : j < 2 ^ 31) : nI j = 10 ↔ j = 10 := nI_eq (b := 10) h (by omega)
theorem cw_le11 {j : Nat} (h : j < 2 ^ 31) : (11 : Int32) ≤ nI j ↔ 11 ≤ j := nI_leI (a := 11) (by omega) h
theorem cw_lt11 {j : Nat} (h : j < 2 ^ 31) : (11 : Int32) < nI j ↔ 11 < j := nI_ltI (a := 11) (by omega) h
theorem cw_el11 {j : Nat} (h : j < 2 ^ 31) : nI j ≤ 11 ↔ j ≤ 11 := nI_leI (b := 11) h (by omega)
theorem cw_tl11 {j : Nat} (h : j < 2 ^ 31) : nI j < 11 ↔ j < 11 := nI_ltI (b := 11) h (by omega)
theorem cw_eq11 {j : Nat} (h : j < 2 ^ 31) : nI j = 11 ↔ j = 11 := nI_eq (b := 11) h (by omega)
theorem cw_le16 {j : Nat} (h : j < 2 ^ 31) : (16 : Int32) ≤ nI j ↔ 16 ≤ j := nI_leI (a := 16) (by omega) h
theorem cw_lt16 {j : Nat} (h : j < 2 ^ 31) : (16 : Int32) < nI j ↔ 16 < j := nI_ltI (a := 16) (by omega) h
theorem cw_el16 {j : Nat} (h : j < 2 ^ 31) : nI j ≤ 16 ↔ j ≤ 16 := nI_leI (b := 16) h (by omega)
theorem cw_tl16 {j : Nat} (h : j < 2 ^ 31) : nI j < 16 ↔ j < 16 := nI_ltI (b := 16) h (by omega)
theorem cw_eq16 {j : Nat} (h : j < 2 ^ 31) : nI j = 16 ↔ j = 16 := nI_eq (b := 16) h (by omega)
theorem cw_le20 {j : Nat} (h : j < 2 ^ 31) : (20 : Int32) ≤ nI j ↔ 20 ≤ j := nI_leI (a := 20) (by omega) h
theorem cw_lt20 {j : Nat} (h : j < 2 ^ 31) : (20 : Int32) < nI j ↔ 20 < j := nI_ltI (a := 20) (by omega) h
theorem cw_el20 {j : Nat} (h : j < 2 ^ 31) : nI j ≤ 20 ↔ j ≤ 20 := nI_leI (b := 20) h (by omega)
theorem cw_tl20 {j : Nat} (h : j < 2 ^ 31) : nI j < 20 ↔ j < 20 := nI_ltI (b := 20) h (by omega)
theorem cw_eq20 {j : Nat} (h : j < 2 ^ 31) : nI j = 20 ↔ j = 20 := nI_eq (b := 20) h (by omega)
theorem cw_le255 {j : Nat} (h : j < 2 ^ 31) : (255 : Int32) ≤ nI j ↔ 255 ≤ j := nI_leI (a := 255) (by omega) h
theorem cw_lt255 {j : Nat} (h : j < 2 ^ 31) : (255 : Int32) < nI j ↔ 255 < j := nI_ltI (a := 255) (by omega) h
theorem cw_el255 {j : Nat} (h : j < 2 ^ 31) : nI j ≤ 255 ↔ j ≤ 255 := nI_leI (b := 255) h (by omega)
theorem cw_tl255 {j : Nat} (h : j < 2 ^ 31) : nI j < 255 ↔ j < 255 := nI_ltI (b := 255) h (by omega)
theorem cw_eq255 {j : Nat} (h : j < 2 ^ 31) : nI j = 255 ↔ j = 255 := nI_eq (b := 255) h (by omega)
theorem cw_le256 {j : Nat} (h : j < 2 ^ 31) : (256 : Int32) ≤ nI j ↔ 256 ≤ j := nI_leI (a := 256) (by omega) h
theorem cw_lt256 {j : Nat} (h : j < 2 ^ 31) : (256 : Int32) < nI j ↔ 256 < j := nI_ltI (a := 256) (by omega) h
theorem cw_el256 {j : Nat} (h : j < 2 ^ 31) : nI j ≤ 256 ↔ j ≤ 256 := nI_leI (b := 256) h (by omega)
theorem cw_tl256 {j : Nat} (h : j < 2 ^ 31) : nI j < 256 ↔ j < 256 := nI_ltI (b := 256) h (by omega)
theorem cw_eq256 {j : Nat} (h : j < 2 ^ 31) : nI j = 256 ↔ j = 256 := nI_eq (b := 256) h (by omega)
end
section
/-! part 02: routes, pure. A route is a function w (channel at place i) and a length n -/
section RO
variable (sd ba ra : Nat → Nat) (C : Nat) (rd : Nat → Prop) (ca : Nat → Nat → Nat → Prop)
def ro_nx (sd : Nat → Nat) (c p : Nat) : Nat := if sd (2 * c) = p then sd (2 * c + 1) else sd (2 * c)
def ro_sx (sd : Nat → Nat) (c p : Nat) : Nat := if sd (2 * c) = p then 0 else 1
def ro_pt (sd : Nat → Nat) (w : Nat → Nat) (p : Nat) : Nat → Nat
  | 0 => p
  | i + 1 => ro_nx sd (w i) (ro_pt sd w p i)
def ro_hop (sd : Nat → Nat) (C : Nat) (rd : Nat → Prop) (w : Nat → Nat) (p i : Nat) : Prop :=
  w i < C ∧ (sd (2 * w i) = ro_pt sd w p i ∨ sd (2 * w i + 1) = ro_pt sd w p i) ∧ rd (w i) ∧ ∀ j, j ≤ i → ro_pt sd w p j ≠ ro_pt sd w p (i + 1)
def ro_walk (sd : Nat → Nat) (C : Nat) (rd : Nat → Prop) (w : Nat → Nat) (p n : Nat) : Prop := ∀ i, i < n → ro_hop sd C rd w p i
def ro_am (sd ba ra : Nat → Nat) (w : Nat → Nat) (p n v : Nat) : Nat → Nat
  | 0 => v
  | d + 1 => ro_am sd ba ra w p n v d + (ba (ro_pt sd w p (n - 1 - d)) + ro_am sd ba ra w p n v d * ra (ro_pt sd w p (n - 1 - d)) / 100)
def ro_car (sd ba ra : Nat → Nat) (ca : Nat → Nat → Nat → Prop) (w : Nat → Nat) (p n v : Nat) : Prop :=
  ∀ d, d < n → ca (w (n - 1 - d)) (ro_sx sd (w (n - 1 - d)) (ro_pt sd w p (n - 1 - d))) (ro_am sd ba ra w p n v d)
def ro_good (sd ba ra : Nat → Nat) (C : Nat) (rd : Nat → Prop) (ca : Nat → Nat → Nat → Prop) (p q v : Nat) (w : Nat → Nat) (n : Nat) : Prop :=
  1 ≤ n ∧ n ≤ 4 ∧ ro_walk sd C rd w p n ∧ ro_pt sd w p n = q ∧ ro_car sd ba ra ca w p n v
def ro_cost (sd ba ra : Nat → Nat) (p v : Nat) (w : Nat → Nat) (n : Nat) : Nat := ro_am sd ba ra w p n v (n - 1)
theorem ro_pt_c {w w' : Nat → Nat} {p n : Nat} (h : ∀ i, i < n → w i = w' i) : ∀ i, i ≤ n → ro_pt sd w p i = ro_pt sd w' p i := by
  intro i
  induction i with
  | zero => intro _; rfl
  | succ i ih =>
    intro hi
    show ro_nx sd (w i) (ro_pt sd w p i) = ro_nx sd (w' i) (ro_pt sd w' p i)
    rw [ih (by omega), h i (by omega)]
theorem ro_am_c {w w' : Nat → Nat} {p n v : Nat} (h : ∀ i, i < n → w i = w' i) : ∀ d, d ≤ n → ro_am sd ba ra w p n v d = ro_am sd ba ra w' p n v d := by
  intro d
  induction d with
  | zero => intro _; rfl
  | succ d ih =>
    intro hd
    unfold ro_am
    rw [ih (by omega), ro_pt_c sd h (n - 1 - d) (by omega)]
theorem ro_hop_c {w w' : Nat → Nat} {p i : Nat} (h : ∀ j, j < i + 1 → w j = w' j) (g : ro_hop sd C rd w p i) : ro_hop sd C rd w' p i := by
  have e := ro_pt_c sd (p := p) h
  obtain ⟨a, b, c, d⟩ := g
  rw [h i (by omega)] at a b c
  rw [e i (by omega)] at b
  refine ⟨a, b, c, fun j hj => ?_⟩
  have := d j hj
  rwa [e j (by omega), e (i + 1) (by omega)] at this
theorem ro_good_c {w w' : Nat → Nat} {p q n v : Nat} (h : ∀ i, i < n → w i = w' i) (g : ro_good sd ba ra C rd ca p q v w n) : ro_good sd ba ra C rd ca p q v w' n := by
  obtain ⟨h1, h4, hw, hq, hc⟩ := g
  refine ⟨h1, h4, fun i hi => ro_hop_c sd C rd (fun j hj => h j (by omega)) (hw i hi), ?_, fun d hd => ?_⟩
  · rw [← ro_pt_c sd h n (by omega)]; exact hq
  · have := hc d hd
    rwa [h _ (by omega), ro_pt_c sd h (n - 1 - d) (by omega), ro_am_c sd ba ra h d (by omega)] at this
theorem ro_cost_c {w w' : Nat → Nat} {p n v : Nat} (h : ∀ i, i < n → w i = w' i) : ro_cost sd ba ra p v w n = ro_cost sd ba ra p v w' n := ro_am_c sd ba ra h (n - 1) (by omega)
theorem ro_good_dig {p q v n : Nat} {w : Nat → Nat} (hC : C ≤ 8) (g : ro_good sd ba ra C rd ca p q v w n) : ∀ i, i < n → w i ≤ 7 := fun i hi => by
  have := (g.2.2.1 i hi).1; omega
/-! amounts: bounds and growth -/
theorem ro_am_le {w : Nat → Nat} {p n v : Nat} (hv : v ≤ 255) (hb : ∀ i, ba i ≤ 9) (hr : ∀ i, ra i ≤ 20) : ro_am sd ba ra w p n v 0 ≤ 255 ∧ ro_am sd ba ra w p n v 1 ≤ 315 ∧ ro_am sd ba ra w p n v 2 ≤ 387 ∧ ro_am sd ba ra w p n v 3 ≤ 473 ∧ ro_am sd ba ra w p n v 4 ≤ 576 := by
  have st : ∀ d B, ro_am sd ba ra w p n v d ≤ B → ro_am sd ba ra w p n v (d + 1) ≤ B + (9 + B * 20 / 100) := by
    intro d B h
    show ro_am sd ba ra w p n v d + (ba _ + ro_am sd ba ra w p n v d * ra _ / 100) ≤ _
    have h1 := hb (ro_pt sd w p (n - 1 - d))
    have h2 : ro_am sd ba ra w p n v d * ra (ro_pt sd w p (n - 1 - d)) / 100 ≤ B * 20 / 100 := Nat.div_le_div_right (Nat.mul_le_mul h (hr _))
    omega
  have a0 : ro_am sd ba ra w p n v 0 ≤ 255 := hv
  have a1 := st 0 255 a0
  have a2 := st 1 315 a1
  have a3 := st 2 387 a2
  have a4 := st 3 473 a3
  exact ⟨a0, a1, a2, a3, a4⟩
theorem ro_am_le4 {w : Nat → Nat} {p n v : Nat} (hv : v ≤ 255) (hb : ∀ i, ba i ≤ 9) (hr : ∀ i, ra i ≤ 20) {d : Nat} (hd : d ≤ 4) : ro_am sd ba ra w p n v d ≤ 576 := by
  obtain ⟨a0, a1, a2, a3, a4⟩ := ro_am_le sd ba ra (w := w) (p := p) (n := n) hv hb hr
  have : d = 0 ∨ d = 1 ∨ d = 2 ∨ d = 3 ∨ d = 4 := by omega
  rcases this with rfl | rfl | rfl | rfl | rfl <;> omega
theorem ro_am_mono {w : Nat → Nat} {p n v v' : Nat} (h : v ≤ v') : ∀ d, ro_am sd ba ra w p n v d ≤ ro_am sd ba ra w p n v' d := by
  intro d
  induction d with
  | zero => exact h
  | succ d ih =>
    unfold ro_am
    have : ro_am sd ba ra w p n v d * ra (ro_pt sd w p (n - 1 - d)) / 100 ≤ ro_am sd ba ra w p n v' d * ra (ro_pt sd w p (n - 1 - d)) / 100 := Nat.div_le_div_right (Nat.mul_le_mul ih (Nat.le_refl _))
    omega
theorem ro_good_mono {w : Nat → Nat} {p q n v v' : Nat} (hca : ∀ c s a a', a ≤ a' → a' ≤ 576 → ca c s a' → ca c s a) (hb : ∀ i, ba i ≤ 9) (hr : ∀ i, ra i ≤ 20) (hv : v' ≤ 255) (h : v ≤ v') (g : ro_good sd ba ra C rd ca p q v' w n) : ro_good sd ba ra C rd ca p q v w n := by
  obtain ⟨h1, h4, hw, hq, hc⟩ := g
  exact ⟨h1, h4, hw, hq, fun d hd => hca _ _ _ _ (ro_am_mono sd ba ra h d) (ro_am_le4 sd ba ra hv hb hr (by omega)) (hc d hd)⟩
/-! the two orders -/
def ro_code (w : Nat → Nat) : Nat → Nat
  | 0 => 0
  | n + 1 => ro_code w n * 8 + w n
def ro_dg (w : Nat → Nat) (n i : Nat) : Nat := if i < n then w i + 1 else 0
def ro_num (w : Nat → Nat) (n : Nat) : Nat := 1000 * ro_dg w n 0 + 100 * ro_dg w n 1 + 10 * ro_dg w n 2 + ro_dg w n 3
def ro_set (w : Nat → Nat) (d e : Nat) : Nat → Nat := fun i => if i = d then e else w i
def ro_N (w : Nat → Nat) (d e : Nat) : Nat := ro_num (ro_set w d e) (d + 1)
theorem ro_set_s (w : Nat → Nat) (d e : Nat) : ro_set w d e d = e := if_pos rfl
theorem ro_set_n (w : Nat → Nat) {d e i : Nat} (h : i ≠ d) : ro_set w d e i = w i := if_neg h
theorem ro_4 {n : Nat} (h1 : 1 ≤ n) (h4 : n ≤ 4) : n = 1 ∨ n = 2 ∨ n = 3 ∨ n = 4 := by omega
theorem ro_3 {d : Nat} (h : d ≤ 3) : d = 0 ∨ d = 1 ∨ d = 2 ∨ d = 3 := by omega
theorem ro_all {P : Nat → Prop} {d : Nat} (hd : d ≤ 4) (h : (0 < d → P 0) ∧ (1 < d → P 1) ∧ (2 < d → P 2) ∧ (3 < d → P 3)) : ∀ i, i < d → P i := by
  intro i hi
  have : i = 0 ∨ i = 1 ∨ i = 2 ∨ i = 3 := by omega
  rcases this with rfl | rfl | rfl | rfl
  · exact h.1 hi
  · exact h.2.1 hi
  · exact h.2.2.1 hi
  · exact h.2.2.2 hi
theorem ro_pre {w w' : Nat → Nat} {n d e : Nat} (hd : d ≤ 3) (h1 : 1 ≤ n) (h4 : n ≤ 4) (h7 : ∀ i, i < n → w' i ≤ 7) (hw : ∀ i, i < d → w i ≤ 7) (he : e ≤ 8)
    (hl : ro_N w d e ≤ ro_num w' n) (hr : ro_num w' n < ro_N w d (e + 1)) : d < n ∧ (∀ i, i < d → w' i = w i) ∧ w' d = e := by
  have a0 := h7 0
  have a1 := h7 1
  have a2 := h7 2
  have a3 := h7 3
  have b0 := hw 0
  have b1 := hw 1
  have b2 := hw 2
  clear h7 hw
  have : d < n ∧ ((0 < d → w' 0 = w 0) ∧ (1 < d → w' 1 = w 1) ∧ (2 < d → w' 2 = w 2) ∧ (3 < d → w' 3 = w 3)) ∧ w' d = e := by
    unfold ro_N ro_num ro_dg ro_set at hl hr
    rcases ro_3 hd with rfl | rfl | rfl | rfl <;> rcases ro_4 h1 h4 with rfl | rfl | rfl | rfl <;> simp at a0 a1 a2 a3 b0 b1 b2 hl hr ⊢ <;> omega
  exact ⟨this.1, ro_all (by omega) this.2.1, this.2.2⟩
theorem ro_back {w w' : Nat → Nat} {n d e : Nat} (hd : d + 1 ≤ 3) (h1 : 1 ≤ n) (h4 : n ≤ 4) (h7 : ∀ i, i < n → w' i ≤ 7) (hw : ∀ i, i < d + 1 → w i ≤ 7) (he : e ≤ 8)
    (hl : ro_N w (d + 1) e ≤ ro_num w' n) (hr : ro_num w' n < ro_N w d (w d + 1)) : d + 1 < n ∧ (∀ i, i < d + 1 → w' i = w i) ∧ e ≤ w' (d + 1) := by
  have a0 := h7 0
  have a1 := h7 1
  have a2 := h7 2
  have a3 := h7 3
  have b0 := hw 0
  have b1 := hw 1
  have b2 := hw 2
  clear h7 hw
  have : d + 1 < n ∧ ((0 < d + 1 → w' 0 = w 0) ∧ (1 < d + 1 → w' 1 = w 1) ∧ (2 < d + 1 → w' 2 = w 2) ∧ (3 < d + 1 → w' 3 = w 3)) ∧ e ≤ w' (d + 1) := by
    unfold ro_N ro_num ro_dg ro_set at hl hr
    have hd' : d = 0 ∨ d = 1 ∨ d = 2 := by omega
    rcases hd' with rfl | rfl | rfl <;> rcases ro_4 h1 h4 with rfl | rfl | rfl | rfl <;> simp at a0 a1 a2 a3 b0 b1 b2 hl hr ⊢ <;> omega
  exact ⟨this.1, ro_all (by omega) this.2.1, this.2.2⟩
theorem ro_back0 {w w' : Nat → Nat} {n e : Nat} (h1 : 1 ≤ n) (h4 : n ≤ 4) (h7 : ∀ i, i < n → w' i ≤ 7) (he : e ≤ 8)
    (hl : ro_N w 0 e ≤ ro_num w' n) : e ≤ w' 0 := by
  have a0 := h7 0
  have a1 := h7 1
  have a2 := h7 2
  have a3 := h7 3
  clear h7
  unfold ro_N ro_num ro_dg ro_set at hl
  rcases ro_4 h1 h4 with rfl | rfl | rfl | rfl <;> simp at a0 a1 a2 a3 hl ⊢ <;> omega
theorem ro_desc {w w' : Nat → Nat} {n d : Nat} (hd : d + 1 ≤ 3) (h1 : 1 ≤ n) (h4 : n ≤ 4) (h7 : ∀ i, i < n → w' i ≤ 7) (hw : ∀ i, i < d + 1 → w i ≤ 7)
    (hl : ro_N w d (w d) ≤ ro_num w' n) (hr : ro_num w' n < ro_N w (d + 1) 0) : n = d + 1 ∧ (∀ i, i < d + 1 → w' i = w i) := by
  have a0 := h7 0
  have a1 := h7 1
  have a2 := h7 2
  have a3 := h7 3
  have b0 := hw 0
  have b1 := hw 1
  have b2 := hw 2
  clear h7 hw
  have : n = d + 1 ∧ ((0 < d + 1 → w' 0 = w 0) ∧ (1 < d + 1 → w' 1 = w 1) ∧ (2 < d + 1 → w' 2 = w 2) ∧ (3 < d + 1 → w' 3 = w 3)) := by
    unfold ro_N ro_num ro_dg ro_set at hl hr
    have hd' : d = 0 ∨ d = 1 ∨ d = 2 := by omega
    rcases hd' with rfl | rfl | rfl <;> rcases ro_4 h1 h4 with rfl | rfl | rfl | rfl <;> simp at a0 a1 a2 a3 b0 b1 b2 hl hr ⊢ <;> omega
  exact ⟨this.1, ro_all (by omega) this.2⟩
theorem ro_N_c {w w' : Nat → Nat} {d e : Nat} (hd : d ≤ 3) (h : ∀ i, i < d → w i = w' i) : ro_N w d e = ro_N w' d e := by
  have b0 := h 0
  have b1 := h 1
  have b2 := h 2
  clear h
  unfold ro_N ro_num ro_dg ro_set
  rcases ro_3 hd with rfl | rfl | rfl | rfl <;> simp at b0 b1 b2 ⊢ <;> omega
theorem ro_N_lt {w : Nat → Nat} {d e e' : Nat} (hd : d ≤ 3) (h : e < e') : ro_N w d e < ro_N w d e' := by
  unfold ro_N ro_num ro_dg ro_set
  rcases ro_3 hd with rfl | rfl | rfl | rfl <;> simp <;> omega
theorem ro_N_back {w : Nat → Nat} {d e : Nat} (hd : d + 1 ≤ 3) (he : e ≤ 8) : ro_N w (d + 1) e < ro_N w d (w d + 1) := by
  unfold ro_N ro_num ro_dg ro_set
  have hd' : d = 0 ∨ d = 1 ∨ d = 2 := by omega
  rcases hd' with rfl | rfl | rfl <;> simp <;> omega
theorem ro_N_desc {w : Nat → Nat} {d : Nat} (hd : d + 1 ≤ 3) : ro_N w d (w d) < ro_N w (d + 1) 0 := by
  unfold ro_N ro_num ro_dg ro_set
  have hd' : d = 0 ∨ d = 1 ∨ d = 2 := by omega
  rcases hd' with rfl | rfl | rfl <;> simp <;> omega
theorem ro_N_max {w : Nat → Nat} {d e : Nat} (hd : d ≤ 3) (hw : ∀ i, i < d → w i ≤ 7) (he : e ≤ 8) : ro_N w d e < 10000 := by
  have b0 := hw 0
  have b1 := hw 1
  have b2 := hw 2
  clear hw
  unfold ro_N ro_num ro_dg ro_set
  rcases ro_3 hd with rfl | rfl | rfl | rfl <;> simp at b0 b1 b2 ⊢ <;> omega
/-- the number of a route that is found at depth d -/
theorem ro_num_N {w : Nat → Nat} {d : Nat} (hd : d ≤ 3) : ro_num w (d + 1) = ro_N w d (w d) := by
  unfold ro_N ro_num ro_dg ro_set
  rcases ro_3 hd with rfl | rfl | rfl | rfl <;> simp
theorem ro_num_c {w w' : Nat → Nat} {n : Nat} (h1 : 1 ≤ n) (h4 : n ≤ 4) (h : ∀ i, i < n → w i = w' i) : ro_num w n = ro_num w' n := by
  have b0 := h 0
  have b1 := h 1
  have b2 := h 2
  have b3 := h 3
  clear h
  unfold ro_num ro_dg
  rcases ro_4 h1 h4 with rfl | rfl | rfl | rfl <;> simp at b0 b1 b2 b3 ⊢ <;> omega
/-- the digits of a code -/
def ro_dig (n c : Nat) : Nat → Nat := fun i => c / 8 ^ (n - 1 - i) % 8
theorem ro_dig7 (n c i : Nat) : ro_dig n c i ≤ 7 := Nat.le_of_lt_succ (Nat.mod_lt _ (by decide))
theorem ro_dig_u {w : Nat → Nat} {n : Nat} (h1 : 1 ≤ n) (h4 : n ≤ 4) (h7 : ∀ i, i < n → w i ≤ 7) : ∀ i, i < n → w i = ro_dig n (ro_code w n) i := by
  have a0 := h7 0
  have a1 := h7 1
  have a2 := h7 2
  have a3 := h7 3
  clear h7
  refine ro_all (P := fun i => w i = ro_dig n (ro_code w n) i) h4 ?_
  unfold ro_dig
  rcases ro_4 h1 h4 with rfl | rfl | rfl | rfl <;> simp [ro_code] at a0 a1 a2 a3 ⊢ <;> omega
theorem ro_dig_code {n c : Nat} (h1 : 1 ≤ n) (h4 : n ≤ 4) (hc : c < 8 ^ n) : ro_code (ro_dig n c) n = c := by
  unfold ro_dig
  rcases ro_4 h1 h4 with rfl | rfl | rfl | rfl <;> simp [ro_code] at hc ⊢ <;> omega
theorem ro_code_lt {w : Nat → Nat} {n : Nat} (h1 : 1 ≤ n) (h4 : n ≤ 4) (h7 : ∀ i, i < n → w i ≤ 7) : ro_code w n < 8 ^ n := by
  have a0 := h7 0
  have a1 := h7 1
  have a2 := h7 2
  have a3 := h7 3
  clear h7
  rcases ro_4 h1 h4 with rfl | rfl | rfl | rfl <;> simp [ro_code] at a0 a1 a2 a3 ⊢ <;> omega
theorem ro_same {b b' : Nat → Nat} {n : Nat} (h1 : 1 ≤ n) (h4 : n ≤ 4) (h7 : ∀ i, i < n → b i ≤ 7) (h7' : ∀ i, i < n → b' i ≤ 7) (hc : ro_code b n ≤ ro_code b' n) (hn : ro_num b' n ≤ ro_num b n) : ∀ i, i < n → b i = b' i := by
  have a0 := h7 0
  have a1 := h7 1
  have a2 := h7 2
  have a3 := h7 3
  have c0 := h7' 0
  have c1 := h7' 1
  have c2 := h7' 2
  have c3 := h7' 3
  clear h7 h7'
  refine ro_all (P := fun i => b i = b' i) h4 ?_
  unfold ro_num ro_dg at hn
  rcases ro_4 h1 h4 with rfl | rfl | rfl | rfl <;> simp [ro_code] at a0 a1 a2 a3 c0 c1 c2 c3 hc hn ⊢ <;> omega
/-! the least route so far: by cost, length, key -/
def ro_min (sd ba ra : Nat → Nat) (C : Nat) (rd : Nat → Prop) (ca : Nat → Nat → Nat → Prop) (p q v : Nat) (K : (Nat → Nat) → Nat → Nat) (S : (Nat → Nat) → Nat → Prop) (b : Nat → Nat) (m : Nat) : Prop :=
  (m = 0 ∧ ∀ w n, S w n → ¬ ro_good sd ba ra C rd ca p q v w n) ∨
  (ro_good sd ba ra C rd ca p q v b m ∧ ∀ w n, S w n → ro_good sd ba ra C rd ca p q v w n →
    ro_cost sd ba ra p v b m < ro_cost sd ba ra p v w n ∨ (ro_cost sd ba ra p v b m = ro_cost sd ba ra p v w n ∧ (m < n ∨ (m = n ∧ K b m ≤ K w n))))
theorem ro_min_sub {p q v : Nat} {K : (Nat → Nat) → Nat → Nat} {S S' : (Nat → Nat) → Nat → Prop} {b : Nat → Nat} {m : Nat}
    (h : ro_min sd ba ra C rd ca p q v K S b m) (hS : ∀ w n, ro_good sd ba ra C rd ca p q v w n → S' w n → S w n) : ro_min sd ba ra C rd ca p q v K S' b m := by
  rcases h with ⟨h0, h⟩ | ⟨hg, h⟩
  · exact Or.inl ⟨h0, fun w n hs g => h w n (hS w n g hs) g⟩
  · exact Or.inr ⟨hg, fun w n hs g => h w n (hS w n g hs) g⟩
theorem ro_min_keep {p q v : Nat} {K : (Nat → Nat) → Nat → Nat} {S S' : (Nat → Nat) → Nat → Prop} {b : Nat → Nat} {m : Nat} {w0 : Nat → Nat} {n0 : Nat}
    (h : ro_min sd ba ra C rd ca p q v K S b m) (hm : 0 < m)
    (hS : ∀ w n, ro_good sd ba ra C rd ca p q v w n → S' w n → S w n ∨ (n = n0 ∧ K w n = K w0 n0 ∧ ∀ i, i < n → w i = w0 i))
    (hk : ro_cost sd ba ra p v b m < ro_cost sd ba ra p v w0 n0 ∨ (ro_cost sd ba ra p v b m = ro_cost sd ba ra p v w0 n0 ∧ (m < n0 ∨ (m = n0 ∧ K b m ≤ K w0 n0)))) : ro_min sd ba ra C rd ca p q v K S' b m := by
  rcases h with ⟨h0, h⟩ | ⟨hg, h⟩
  · omega
  · refine Or.inr ⟨hg, fun w n hs g => ?_⟩
    rcases hS w n g hs with h' | ⟨rfl, hK, he⟩
    · exact h w n h' g
    · rw [ro_cost_c sd ba ra he, hK]
      exact hk
theorem ro_min_put {p q v : Nat} {K : (Nat → Nat) → Nat → Nat} {S S' : (Nat → Nat) → Nat → Prop} {b : Nat → Nat} {m : Nat} {w0 : Nat → Nat} {n0 : Nat}
    (h : ro_min sd ba ra C rd ca p q v K S b m) (g0 : ro_good sd ba ra C rd ca p q v w0 n0)
    (hS : ∀ w n, ro_good sd ba ra C rd ca p q v w n → S' w n → S w n ∨ (n = n0 ∧ K w n = K w0 n0 ∧ ∀ i, i < n → w i = w0 i))
    (hk : 0 < m → ro_cost sd ba ra p v w0 n0 < ro_cost sd ba ra p v b m ∨ (ro_cost sd ba ra p v w0 n0 = ro_cost sd ba ra p v b m ∧ n0 < m)) : ro_min sd ba ra C rd ca p q v K S' w0 n0 := by
  refine Or.inr ⟨g0, fun w n hs g => ?_⟩
  rcases hS w n g hs with h' | ⟨rfl, hK, he⟩
  · rcases h with ⟨h0, h⟩ | ⟨hg, h⟩
    · exact absurd g (h w n h')
    · have h1 := h w n h' g
      have h2 := hk (by have := hg.1; omega)
      omega
  · rw [ro_cost_c sd ba ra he, hK]
    exact Or.inr ⟨rfl, Or.inr ⟨rfl, Nat.le_refl _⟩⟩
/-- the two least routes are one -/
theorem ro_min_one {p q v : Nat} {b b' : Nat → Nat} {m m' : Nat} (hC : C ≤ 8)
    (h : ro_min sd ba ra C rd ca p q v ro_code (fun _ _ => True) b m) (h' : ro_min sd ba ra C rd ca p q v ro_num (fun _ _ => True) b' m') :
    m = m' ∧ ∀ i, i < m → b i = b' i := by
  rcases h with ⟨h0, h⟩ | ⟨hg, h⟩ <;> rcases h' with ⟨h0', h'⟩ | ⟨hg', h'⟩
  · exact ⟨by omega, fun i hi => by omega⟩
  · exact absurd hg' (h _ _ trivial)
  · exact absurd hg (h' _ _ trivial)
  · have h1 := h _ _ trivial hg'
    have h2 := h' _ _ trivial hg
    have e : m = m' := by omega
    subst e
    exact ⟨rfl, ro_same hg.1 hg.2.1 (ro_good_dig sd ba ra C rd ca hC hg) (ro_good_dig sd ba ra C rd ca hC hg') (by omega) (by omega)⟩
/-! what lies between two heads of the search by depth -/
def ro_lead (sd : Nat → Nat) (C : Nat) (rd : Nat → Prop) (p q : Nat) (w : Nat → Nat) (n : Nat) : Prop :=
  1 ≤ n ∧ n ≤ 4 ∧ ro_walk sd C rd w p n ∧ ro_pt sd w p n = q
theorem ro_lead_dig {p q n : Nat} {w : Nat → Nat} (hC : C ≤ 8) (g : ro_lead sd C rd p q w n) : ∀ i, i < n → w i ≤ 7 := fun i hi => by
  have := (g.2.2.1 i hi).1; omega
theorem ro_good_lead {p q v n : Nat} {w : Nat → Nat} (g : ro_good sd ba ra C rd ca p q v w n) : ro_lead sd C rd p q w n := ⟨g.1, g.2.1, g.2.2.1, g.2.2.2.1⟩
theorem ro_dfs_back {p q n d e : Nat} {w w' : Nat → Nat} (hC : C ≤ 8) (hd : d + 1 ≤ 3) (hw : ∀ i, i < d + 1 → w i ≤ 7) (he : e ≤ 8) (hCe : C ≤ e)
    (g : ro_lead sd C rd p q w' n) (hl : ro_N w (d + 1) e ≤ ro_num w' n) (hr : ro_num w' n < ro_N w d (w d + 1)) : False := by
  obtain ⟨h1, h2, h3⟩ := ro_back hd g.1 g.2.1 (ro_lead_dig sd C rd hC g) hw he hl hr
  have := (g.2.2.1 (d + 1) h1).1
  omega
theorem ro_dfs_end {p q n e : Nat} {w w' : Nat → Nat} (hC : C ≤ 8) (he : e ≤ 8) (hCe : C ≤ e)
    (g : ro_lead sd C rd p q w' n) (hl : ro_N w 0 e ≤ ro_num w' n) : False := by
  have h := ro_back0 g.1 g.2.1 (ro_lead_dig sd C rd hC g) he hl
  have := (g.2.2.1 0 g.1).1
  omega
theorem ro_dfs_skip {p q n d : Nat} {w w' : Nat → Nat} (hC : C ≤ 8) (hd : d ≤ 3) (hw : ∀ i, i < d + 1 → w i ≤ 7) (hn : ¬ ro_hop sd C rd w p d)
    (g : ro_lead sd C rd p q w' n) (hl : ro_N w d (w d) ≤ ro_num w' n) (hr : ro_num w' n < ro_N w d (w d + 1)) : False := by
  have h7 := hw d (by omega)
  obtain ⟨h1, h2, h3⟩ := ro_pre hd g.1 g.2.1 (ro_lead_dig sd C rd hC g) (fun i hi => hw i (by omega)) (by omega) hl hr
  refine hn (ro_hop_c sd C rd (fun j hj => ?_) (g.2.2.1 d h1))
  rcases Nat.lt_or_ge j d with h | h
  · exact h2 j h
  · have : j = d := by omega
    subst this
    exact h3
theorem ro_dfs_found {p q n d : Nat} {w w' : Nat → Nat} (hC : C ≤ 8) (hd : d ≤ 3) (hw : ∀ i, i < d + 1 → w i ≤ 7) (hq : ro_pt sd w p (d + 1) = q)
    (g : ro_lead sd C rd p q w' n) (hl : ro_N w d (w d) ≤ ro_num w' n) (hr : ro_num w' n < ro_N w d (w d + 1)) : n = d + 1 ∧ ∀ i, i < n → w' i = w i := by
  have h7 := hw d (by omega)
  obtain ⟨h1, h2, h3⟩ := ro_pre hd g.1 g.2.1 (ro_lead_dig sd C rd hC g) (fun i hi => hw i (by omega)) (by omega) hl hr
  have e : ∀ j, j < d + 1 → w' j = w j := by
    intro j hj
    rcases Nat.lt_or_ge j d with h | h
    · exact h2 j h
    · have : j = d := by omega
      subst this
      exact h3
  have hn : n = d + 1 := by
    rcases Nat.lt_or_ge (d + 1) n with h | h
    · have hh := (g.2.2.1 (n - 1) (by omega)).2.2.2 (d + 1) (by omega)
      rw [show n - 1 + 1 = n by omega, g.2.2.2, ro_pt_c sd e (d + 1) (Nat.le_refl _), hq] at hh
      exact absurd rfl hh
    · omega
  subst hn
  exact ⟨rfl, e⟩
theorem ro_dfs_desc {p q n d : Nat} {w w' : Nat → Nat} (hC : C ≤ 8) (hd : d + 1 ≤ 3) (hw : ∀ i, i < d + 1 → w i ≤ 7) (hq : ro_pt sd w p (d + 1) ≠ q)
    (g : ro_lead sd C rd p q w' n) (hl : ro_N w d (w d) ≤ ro_num w' n) (hr : ro_num w' n < ro_N w (d + 1) 0) : False := by
  obtain ⟨rfl, h2⟩ := ro_desc hd g.1 g.2.1 (ro_lead_dig sd C rd hC g) hw hl hr
  have := g.2.2.2
  rw [ro_pt_c sd h2 (d + 1) (Nat.le_refl _)] at this
  exact hq this
theorem ro_dfs_leaf {p q n : Nat} {w w' : Nat → Nat} (hC : C ≤ 8) (hw : ∀ i, i < 4 → w i ≤ 7) (hq : ro_pt sd w p 4 ≠ q)
    (g : ro_lead sd C rd p q w' n) (hl : ro_N w 3 (w 3) ≤ ro_num w' n) (hr : ro_num w' n < ro_N w 3 (w 3 + 1)) : False := by
  have h7 := hw 3 (by omega)
  obtain ⟨h1, h2, h3⟩ := ro_pre (d := 3) (by omega) g.1 g.2.1 (ro_lead_dig sd C rd hC g) (fun i hi => hw i (by omega)) (by omega) hl hr
  have hn : n = 4 := by have := g.2.1; omega
  subst hn
  have e : ∀ j, j < 4 → w' j = w j := by
    intro j hj
    rcases Nat.lt_or_ge j 3 with h | h
    · exact h2 j h
    · have : j = 3 := by omega
      subst this
      exact h3
  have := g.2.2.2
  rw [ro_pt_c sd e 4 (Nat.le_refl _)] at this
  exact hq this
/-! parties met, as bits -/
theorem ro_pt_lt {p : Nat} {w : Nat → Nat} (hs : ∀ i, sd i < 6) (hp : p < 6) : ∀ i, ro_pt sd w p i < 6 := by
  intro i
  cases i with
  | zero => exact hp
  | succ i =>
    show ro_nx sd (w i) (ro_pt sd w p i) < 6
    unfold ro_nx
    by_cases h : sd (2 * w i) = ro_pt sd w p i
    · rw [if_pos h]; exact hs _
    · rw [if_neg h]; exact hs _
def ro_met (sd : Nat → Nat) (met : Int32) (w : Nat → Nat) (p i : Nat) : Prop := ∀ x, x < 32 → (bt met x = true ↔ ∃ j, j ≤ i ∧ ro_pt sd w p j = x)
theorem ro_met_0 {p : Nat} (w : Nat → Nat) (hp : p < 32) : ro_met sd ((1 : Int32) <<< (nI p &&& 31)) w p 0 := by
  intro x hx
  rw [cw_one hp hx, decide_eq_true_iff]
  constructor
  · intro e; exact ⟨0, Nat.le_refl _, e.symm⟩
  · rintro ⟨j, hj, e⟩
    have : j = 0 := by omega
    subst this
    exact e.symm
theorem ro_met_S {p i : Nat} {met : Int32} {w : Nat → Nat} (h : ro_met sd met w p i) (ha : ro_pt sd w p (i + 1) < 32) : ro_met sd (met ||| ((1 : Int32) <<< (nI (ro_pt sd w p (i + 1)) &&& 31))) w p (i + 1) := by
  intro x hx
  rw [cw_set met ha hx, Bool.or_eq_true, h x hx, decide_eq_true_iff]
  constructor
  · rintro (⟨j, hj, e⟩ | e)
    · exact ⟨j, by omega, e⟩
    · exact ⟨i + 1, Nat.le_refl _, e.symm⟩
  · rintro ⟨j, hj, e⟩
    rcases Nat.lt_or_ge i j with hh | hh
    · have : j = i + 1 := by omega
      subst this
      exact Or.inr e.symm
    · exact Or.inl ⟨j, hh, e⟩
/-- the greatest value by bits -/
theorem ro_top {G : Nat → Prop} {c m : Nat} (h1 : c = 0 ∨ G c) (h2 : c ≤ 255) (h3 : ∀ v, c + 1 ≤ v → v ≤ 255 → ¬ G v) (k1 : m = 0 ∨ G m) (k2 : m ≤ 255) (k3 : ∀ v, 1 ≤ v → v ≤ 255 → G v → v ≤ m) : c = m := by
  rcases Nat.lt_or_ge c m with h | h
  · rcases k1 with k | k
    · omega
    · exact absurd k (h3 m (by omega) k2)
  · rcases h1 with h' | h'
    · omega
    · rcases Nat.eq_zero_or_pos c with h0 | h0
      · omega
      · have := k3 c h0 h2 h'
        omega
end RO
end
section
/-! part 02s: the steps of the two searches, pure -/
section ROS
variable (sd ba ra : Nat → Nat) (C : Nat) (rd : Nat → Prop) (ca : Nat → Nat → Nat → Prop)
def ro_SX (n code : Nat) (w : Nat → Nat) (k : Nat) : Prop := k < n ∨ (k = n ∧ ro_code w k < code)
def ro_JX (sd ba ra : Nat → Nat) (C : Nat) (rd : Nat → Prop) (ca : Nat → Nat → Nat → Prop) (p q v n code : Nat) (b : Nat → Nat) (m : Nat) : Prop :=
  ro_min sd ba ra C rd ca p q v ro_code (ro_SX n code) b m ∧ m ≤ n ∧ (m = n → ro_code b m < code)
theorem ro_JX_0 {p q v : Nat} (b : Nat → Nat) : ro_JX sd ba ra C rd ca p q v 1 0 b 0 := by
  refine ⟨Or.inl ⟨rfl, fun w n hs g => ?_⟩, by omega, fun h => by omega⟩
  have := g.1
  rcases hs with h | ⟨h, h'⟩ <;> omega
theorem ro_SX_S {p q v n code : Nat} (hC : C ≤ 8) {w : Nat → Nat} {k : Nat} (g : ro_good sd ba ra C rd ca p q v w k) (hs : ro_SX n (code + 1) w k) (hc : code < 8 ^ n) :
    ro_SX n code w k ∨ (k = n ∧ ro_code w k = ro_code (ro_dig n code) n ∧ ∀ i, i < k → w i = ro_dig n code i) := by
  rcases hs with h | ⟨rfl, h⟩
  · exact Or.inl (Or.inl h)
  · rcases Nat.lt_or_ge (ro_code w k) code with h' | h'
    · exact Or.inl (Or.inr ⟨rfl, h'⟩)
    · have e : ro_code w k = code := by omega
      refine Or.inr ⟨rfl, ?_, ?_⟩
      · rw [e, ro_dig_code g.1 g.2.1 hc]
      · have := ro_dig_u g.1 g.2.1 (ro_good_dig sd ba ra C rd ca hC g)
        rw [e] at this
        exact this
theorem ro_JX_skip {p q v n code : Nat} {b : Nat → Nat} {m : Nat} (hC : C ≤ 8) (h : ro_JX sd ba ra C rd ca p q v n code b m) (hc : code < 8 ^ n) (ng : ¬ ro_good sd ba ra C rd ca p q v (ro_dig n code) n) : ro_JX sd ba ra C rd ca p q v n (code + 1) b m := by
  obtain ⟨h1, h2, h3⟩ := h
  refine ⟨ro_min_sub sd ba ra C rd ca h1 (fun w k g hs => ?_), h2, fun e => by have := h3 e; omega⟩
  rcases ro_SX_S sd ba ra C rd ca hC g hs hc with h' | ⟨rfl, _, he⟩
  · exact h'
  · exact absurd (ro_good_c sd ba ra C rd ca he g) ng
theorem ro_JX_keep {p q v n code : Nat} {b : Nat → Nat} {m : Nat} (hC : C ≤ 8) (h1n : 1 ≤ n) (h4 : n ≤ 4) (h : ro_JX sd ba ra C rd ca p q v n code b m) (hc : code < 8 ^ n) (hm : 0 < m) (hk : ro_cost sd ba ra p v b m ≤ ro_cost sd ba ra p v (ro_dig n code) n) : ro_JX sd ba ra C rd ca p q v n (code + 1) b m := by
  obtain ⟨h1, h2, h3⟩ := h
  refine ⟨ro_min_keep sd ba ra C rd ca h1 hm (fun w k g hs => ro_SX_S sd ba ra C rd ca hC g hs hc) ?_, h2, fun e => by have := h3 e; omega⟩
  rcases Nat.lt_or_ge (ro_cost sd ba ra p v b m) (ro_cost sd ba ra p v (ro_dig n code) n) with h' | h'
  · exact Or.inl h'
  · refine Or.inr ⟨by omega, ?_⟩
    rcases Nat.lt_or_ge m n with h'' | h''
    · exact Or.inl h''
    · have e : m = n := by omega
      refine Or.inr ⟨e, ?_⟩
      have := h3 e
      rw [ro_dig_code h1n h4 hc]
      omega
theorem ro_JX_put {p q v n code : Nat} {b : Nat → Nat} {m : Nat} (hC : C ≤ 8) (h : ro_JX sd ba ra C rd ca p q v n code b m) (hc : code < 8 ^ n) (g : ro_good sd ba ra C rd ca p q v (ro_dig n code) n) (hk : 0 < m → ro_cost sd ba ra p v (ro_dig n code) n < ro_cost sd ba ra p v b m) : ro_JX sd ba ra C rd ca p q v n (code + 1) (ro_dig n code) n := by
  obtain ⟨h1, h2, h3⟩ := h
  refine ⟨ro_min_put sd ba ra C rd ca h1 g (fun w k g hs => ro_SX_S sd ba ra C rd ca hC g hs hc) (fun h0 => Or.inl (hk h0)), Nat.le_refl _, fun _ => ?_⟩
  rw [ro_dig_code g.1 g.2.1 hc]
  omega
theorem ro_JX_next {p q v n : Nat} {b : Nat → Nat} {m : Nat} (hC : C ≤ 8) (h : ro_JX sd ba ra C rd ca p q v n (8 ^ n) b m) : ro_JX sd ba ra C rd ca p q v (n + 1) 0 b m := by
  obtain ⟨h1, h2, h3⟩ := h
  refine ⟨ro_min_sub sd ba ra C rd ca h1 (fun w k g hs => ?_), by omega, fun e => by omega⟩
  have hlt := ro_code_lt g.1 g.2.1 (ro_good_dig sd ba ra C rd ca hC g)
  rcases hs with h | ⟨h, h'⟩
  · rcases Nat.lt_or_ge k n with h' | h'
    · exact Or.inl h'
    · have : k = n := by omega
      subst this
      exact Or.inr ⟨rfl, hlt⟩
  · omega
theorem ro_JX_end {p q v : Nat} {b : Nat → Nat} {m : Nat} (h : ro_JX sd ba ra C rd ca p q v 5 0 b m) : ro_min sd ba ra C rd ca p q v ro_code (fun _ _ => True) b m :=
  ro_min_sub sd ba ra C rd ca h.1 (fun w k g _ => Or.inl (by have := g.2.1; omega))
/-! the reference's search -/
def ro_SY (N : Nat) (w : Nat → Nat) (k : Nat) : Prop := ro_num w k < N
def ro_JY (sd ba ra : Nat → Nat) (C : Nat) (rd : Nat → Prop) (ca : Nat → Nat → Nat → Prop) (p q v N : Nat) (b : Nat → Nat) (m : Nat) : Prop :=
  ro_min sd ba ra C rd ca p q v ro_num (ro_SY N) b m ∧ (0 < m → ro_num b m < N)
theorem ro_num_ge {w : Nat → Nat} {n : Nat} (h : 1 ≤ n) : 1000 ≤ ro_num w n := by
  unfold ro_num
  have : ro_dg w n 0 = w 0 + 1 := if_pos (by omega)
  omega
theorem ro_N00 (w : Nat → Nat) : ro_N w 0 0 = 1000 := by
  unfold ro_N ro_num ro_dg ro_set
  simp
theorem ro_JY_0 {p q v : Nat} (w b : Nat → Nat) : ro_JY sd ba ra C rd ca p q v (ro_N w 0 0) b 0 := by
  refine ⟨Or.inl ⟨rfl, fun w' n hs g => ?_⟩, fun h => by omega⟩
  have := ro_num_ge (w := w') g.1
  unfold ro_SY at hs
  rw [ro_N00] at hs
  omega
theorem ro_JY_mono {p q v N N' : Nat} {b : Nat → Nat} {m : Nat} (h : ro_JY sd ba ra C rd ca p q v N b m) (hN : N ≤ N')
    (hno : ∀ w n, ro_lead sd C rd p q w n → N ≤ ro_num w n → ro_num w n < N' → False) : ro_JY sd ba ra C rd ca p q v N' b m := by
  obtain ⟨h1, h2⟩ := h
  refine ⟨ro_min_sub sd ba ra C rd ca h1 (fun w k g hs => ?_), fun hm => by have := h2 hm; omega⟩
  rcases Nat.lt_or_ge (ro_num w k) N with h | h
  · exact h
  · exact (hno w k (ro_good_lead sd ba ra C rd ca g) h hs).elim
theorem ro_JY_bad {p q v N N' : Nat} {b : Nat → Nat} {m : Nat} {w0 : Nat → Nat} {n0 : Nat} (h : ro_JY sd ba ra C rd ca p q v N b m) (hN : N ≤ N')
    (hno : ∀ w n, ro_lead sd C rd p q w n → N ≤ ro_num w n → ro_num w n < N' → n = n0 ∧ ∀ i, i < n → w i = w0 i) (ng : ¬ ro_good sd ba ra C rd ca p q v w0 n0) : ro_JY sd ba ra C rd ca p q v N' b m := by
  obtain ⟨h1, h2⟩ := h
  refine ⟨ro_min_sub sd ba ra C rd ca h1 (fun w k g hs => ?_), fun hm => by have := h2 hm; omega⟩
  rcases Nat.lt_or_ge (ro_num w k) N with h | h
  · exact h
  · obtain ⟨rfl, e⟩ := hno w k (ro_good_lead sd ba ra C rd ca g) h hs
    exact absurd (ro_good_c sd ba ra C rd ca e g) ng
theorem ro_SY_S {p q v N N' : Nat} {w0 : Nat → Nat} {n0 : Nat}
    (hno : ∀ w n, ro_lead sd C rd p q w n → N ≤ ro_num w n → ro_num w n < N' → n = n0 ∧ ∀ i, i < n → w i = w0 i) {w : Nat → Nat} {n : Nat} (g : ro_good sd ba ra C rd ca p q v w n) (hs : ro_SY N' w n) :
    ro_SY N w n ∨ (n = n0 ∧ ro_num w n = ro_num w0 n0 ∧ ∀ i, i < n → w i = w0 i) := by
  rcases Nat.lt_or_ge (ro_num w n) N with h | h
  · exact Or.inl h
  · obtain ⟨rfl, e⟩ := hno w n (ro_good_lead sd ba ra C rd ca g) h hs
    exact Or.inr ⟨rfl, ro_num_c g.1 g.2.1 e, e⟩
theorem ro_JY_keep {p q v N N' : Nat} {b : Nat → Nat} {m : Nat} {w0 : Nat → Nat} {n0 : Nat} (h : ro_JY sd ba ra C rd ca p q v N b m) (hN : N ≤ N')
    (hno : ∀ w n, ro_lead sd C rd p q w n → N ≤ ro_num w n → ro_num w n < N' → n = n0 ∧ ∀ i, i < n → w i = w0 i) (hn : N ≤ ro_num w0 n0) (hm : 0 < m)
    (hk : ro_cost sd ba ra p v b m < ro_cost sd ba ra p v w0 n0 ∨ (ro_cost sd ba ra p v b m = ro_cost sd ba ra p v w0 n0 ∧ m ≤ n0)) : ro_JY sd ba ra C rd ca p q v N' b m := by
  obtain ⟨h1, h2⟩ := h
  have h3 := h2 hm
  refine ⟨ro_min_keep sd ba ra C rd ca h1 hm (fun w k g hs => ro_SY_S sd ba ra C rd ca hno g hs) ?_, fun hm => by omega⟩
  rcases hk with h | ⟨h, h'⟩
  · exact Or.inl h
  · refine Or.inr ⟨h, ?_⟩
    rcases Nat.lt_or_ge m n0 with h'' | h''
    · exact Or.inl h''
    · exact Or.inr ⟨by omega, by omega⟩
theorem ro_JY_put {p q v N N' : Nat} {b : Nat → Nat} {m : Nat} {w0 : Nat → Nat} {n0 : Nat} (h : ro_JY sd ba ra C rd ca p q v N b m)
    (hno : ∀ w n, ro_lead sd C rd p q w n → N ≤ ro_num w n → ro_num w n < N' → n = n0 ∧ ∀ i, i < n → w i = w0 i) (hn : ro_num w0 n0 < N') (g : ro_good sd ba ra C rd ca p q v w0 n0)
    (hk : 0 < m → ro_cost sd ba ra p v w0 n0 < ro_cost sd ba ra p v b m ∨ (ro_cost sd ba ra p v w0 n0 = ro_cost sd ba ra p v b m ∧ n0 < m)) : ro_JY sd ba ra C rd ca p q v N' w0 n0 :=
  ⟨ro_min_put sd ba ra C rd ca h.1 g (fun w k g hs => ro_SY_S sd ba ra C rd ca hno g hs) hk, fun _ => hn⟩
theorem ro_JY_end {p q v N : Nat} {b : Nat → Nat} {m : Nat} (h : ro_JY sd ba ra C rd ca p q v N b m) (hno : ∀ w n, ro_lead sd C rd p q w n → N ≤ ro_num w n → False) : ro_min sd ba ra C rd ca p q v ro_num (fun _ _ => True) b m := by
  refine ro_min_sub sd ba ra C rd ca h.1 (fun w k g _ => ?_)
  rcases Nat.lt_or_ge (ro_num w k) N with h | h
  · exact h
  · exact (hno w k (ro_good_lead sd ba ra C rd ca g) h).elim
/-! the reference's search for the most -/
def ro_JM (sd ba ra : Nat → Nat) (C : Nat) (rd : Nat → Prop) (ca : Nat → Nat → Nat → Prop) (p q N m : Nat) : Prop :=
  (m = 0 ∨ ∃ w n, ro_good sd ba ra C rd ca p q m w n) ∧ m ≤ 255 ∧ ∀ v w n, 1 ≤ v → v ≤ 255 → ro_good sd ba ra C rd ca p q v w n → ro_num w n < N → v ≤ m
theorem ro_JM_0 {p q : Nat} (w : Nat → Nat) : ro_JM sd ba ra C rd ca p q (ro_N w 0 0) 0 := by
  refine ⟨Or.inl rfl, by omega, fun v w' n _ _ g hs => ?_⟩
  have := ro_num_ge (w := w') g.1
  rw [ro_N00] at hs
  omega
theorem ro_JM_mono {p q N N' m : Nat} (h : ro_JM sd ba ra C rd ca p q N m)
    (hno : ∀ w n, ro_lead sd C rd p q w n → N ≤ ro_num w n → ro_num w n < N' → False) : ro_JM sd ba ra C rd ca p q N' m := by
  refine ⟨h.1, h.2.1, fun v w n h1 h2 g hs => ?_⟩
  rcases Nat.lt_or_ge (ro_num w n) N with h' | h'
  · exact h.2.2 v w n h1 h2 g h'
  · exact (hno w n (ro_good_lead sd ba ra C rd ca g) h' hs).elim
theorem ro_JM_put {p q N N' m m' : Nat} {w0 : Nat → Nat} {n0 : Nat} (h : ro_JM sd ba ra C rd ca p q N m)
    (hno : ∀ w n, ro_lead sd C rd p q w n → N ≤ ro_num w n → ro_num w n < N' → n = n0 ∧ ∀ i, i < n → w i = w0 i)
    (hm : m ≤ m') (h255 : m' ≤ 255) (hg : m' = m ∨ ro_good sd ba ra C rd ca p q m' w0 n0) (hmax : ∀ v, m' < v → v ≤ 255 → ¬ ro_good sd ba ra C rd ca p q v w0 n0) : ro_JM sd ba ra C rd ca p q N' m' := by
  refine ⟨?_, h255, fun v w n h1 h2 g hs => ?_⟩
  · rcases hg with rfl | hg
    · exact h.1
    · exact Or.inr ⟨w0, n0, hg⟩
  · rcases Nat.lt_or_ge (ro_num w n) N with h' | h'
    · have := h.2.2 v w n h1 h2 g h'
      omega
    · obtain ⟨rfl, e⟩ := hno w n (ro_good_lead sd ba ra C rd ca g) h' hs
      rcases Nat.lt_or_ge m' v with hh | hh
      · exact absurd (ro_good_c sd ba ra C rd ca e g) (hmax v hh h2)
      · exact hh
end ROS
end
section
/-! part 03: rows of locks, balances: pure -/
def cw_Lk (sp : Int32) (xf xa xe : Nat → Int32) (z f a s e : Int32) : Prop :=
  ∃ L, L < 64 ∧ z = nI L ∧ bt sp (L / 4) = true ∧ f = xf L ∧ (f = 0 ∨ f = 1) ∧ a = xa L ∧ s = nI (L / 4) ∧ e = xe L
def cw_Row (sp : Int32) (xf xa xe : Nat → Int32) (n yn : Int32) (xi yf ya ys ye : Nat → Int32) (x y : Nat) : Prop :=
  ∃ m, m ≤ 3 ∧ n = nI m ∧ yn = nI m ∧ ∀ j, j < m → cw_Lk sp xf xa xe (xi (x + j)) (yf (y + j)) (ya (y + j)) (ys (y + j)) (ye (y + j))
theorem cw_Row_move {sp : Int32} {xf xa xe : Nat → Int32} {n yn : Int32} {xi yf ya ys ye xi' yf' ya' ys' ye' : Nat → Int32} {x y x' y' : Nat}
    (h : cw_Row sp xf xa xe n yn xi yf ya ys ye x y) (hx : ∀ j, j < 3 → xi' (x' + j) = xi (x + j))
    (hy : ∀ j m, j < m → m ≤ 3 → n = nI m → yf' (y' + j) = yf (y + j) ∧ ya' (y' + j) = ya (y + j) ∧ ys' (y' + j) = ys (y + j) ∧ ye' (y' + j) = ye (y + j)) :
    cw_Row sp xf xa xe n yn xi' yf' ya' ys' ye' x' y' := by
  obtain ⟨m, hm, e1, e2, hj⟩ := h
  refine ⟨m, hm, e1, e2, fun j h => ?_⟩
  obtain ⟨a1, a2, a3, a4⟩ := hy j m h hm e1
  rw [hx j (by omega), a1, a2, a3, a4]
  exact hj j h
theorem cw_Row_rem {sp : Int32} {xf xa xe : Nat → Int32} {yn : Int32} {xi yf ya ys ye xi' yf' ya' ys' ye' : Nat → Int32} {x y x' y' m j0 : Nat}
    (h : cw_Row sp xf xa xe (nI (m + 1)) yn xi yf ya ys ye x y) (hm : m + 1 ≤ 3)
    (hx : ∀ j, j < m → xi' (x' + j) = if j < j0 then xi (x + j) else xi (x + (j + 1)))
    (hf : ∀ j, j < m → yf' (y' + j) = if j < j0 then yf (y + j) else yf (y + (j + 1)))
    (ha : ∀ j, j < m → ya' (y' + j) = if j < j0 then ya (y + j) else ya (y + (j + 1)))
    (hs : ∀ j, j < m → ys' (y' + j) = if j < j0 then ys (y + j) else ys (y + (j + 1)))
    (he : ∀ j, j < m → ye' (y' + j) = if j < j0 then ye (y + j) else ye (y + (j + 1))) :
    cw_Row sp xf xa xe (nI m) (nI m) xi' yf' ya' ys' ye' x' y' := by
  obtain ⟨m', hm', e1, e2, hj⟩ := h
  have : m + 1 = m' := (nI_eq (by omega) (by omega)).mp e1
  subst this
  refine ⟨m, by omega, rfl, rfl, fun j h => ?_⟩
  rw [hx j h, hf j h, ha j h, hs j h, he j h]
  by_cases h0 : j < j0
  · simp only [h0, if_true]; exact hj j (by omega)
  · simp only [h0, if_false]; exact hj (j + 1) (by omega)
theorem cw_Row_add {sp : Int32} {xf xa xe : Nat → Int32} {yn : Int32} {xi yf ya ys ye xi' yf' ya' ys' ye' : Nat → Int32} {x y x' y' m : Nat}
    (h : cw_Row sp xf xa xe (nI m) yn xi yf ya ys ye x y) (hm : m + 1 ≤ 3)
    (hx : ∀ j, j < m → xi' (x' + j) = xi (x + j))
    (hf : ∀ j, j < m → yf' (y' + j) = yf (y + j)) (ha : ∀ j, j < m → ya' (y' + j) = ya (y + j))
    (hs : ∀ j, j < m → ys' (y' + j) = ys (y + j)) (he : ∀ j, j < m → ye' (y' + j) = ye (y + j))
    (hn : cw_Lk sp xf xa xe (xi' (x' + m)) (yf' (y' + m)) (ya' (y' + m)) (ys' (y' + m)) (ye' (y' + m))) :
    cw_Row sp xf xa xe (nI (m + 1)) (nI (m + 1)) xi' yf' ya' ys' ye' x' y' := by
  obtain ⟨m', hm', e1, e2, hj⟩ := h
  have : m = m' := (nI_eq (by omega) (by omega)).mp e1
  subst this
  refine ⟨m + 1, hm, rfl, rfl, fun j h => ?_⟩
  rcases Nat.lt_or_ge j m with h' | h'
  · rw [hx j h', hf j h', ha j h', hs j h', he j h']; exact hj j h'
  · have : j = m := by omega
    subst this
    exact hn
theorem cw_Row_sp {sp sp' : Int32} {xf xa xe xf' xa' xe' : Nat → Int32} {n yn : Int32} {xi yf ya ys ye : Nat → Int32} {x y : Nat}
    (hL : ∀ L, L < 64 → bt sp (L / 4) = true → bt sp' (L / 4) = true ∧ xf' L = xf L ∧ xa' L = xa L ∧ xe' L = xe L)
    (h : cw_Row sp xf xa xe n yn xi yf ya ys ye x y) : cw_Row sp' xf' xa' xe' n yn xi yf ya ys ye x y := by
  obtain ⟨m, hm, e1, e2, hj⟩ := h
  refine ⟨m, hm, e1, e2, fun j h => ?_⟩
  obtain ⟨L, h64, ez, hb, ef, h01, ea, es, ee⟩ := hj j h
  obtain ⟨b1, b2, b3, b4⟩ := hL L h64 hb
  exact ⟨L, h64, ez, b1, by rw [b2]; exact ef, h01, by rw [b3]; exact ea, es, by rw [b4]; exact ee⟩
theorem cw_Row_0 {sp : Int32} {xf xa xe : Nat → Int32} {xi yf ya ys ye : Nat → Int32} {x y : Nat} : cw_Row sp xf xa xe 0 0 xi yf ya ys ye x y :=
  ⟨0, by omega, rfl, rfl, fun j h => by omega⟩
/-! all rows -/
def cw_G (sp : Int32) (xf xa xe xc xi yl yf ya ys ye : Nat → Int32) : Prop :=
  ∀ c k, c < 8 → k < 12 → cw_Row sp xf xa xe (xc (13 * c + k)) (yl (12 * c + k)) xi yf ya ys ye (3 * (13 * c + k)) (3 * (12 * c + k))
def cw_O (sp : Int32) (xf xa xe xc xi st ou zf za zs ze : Nat → Int32) : Prop :=
  ∀ c, c < 8 → cw_Row sp xf xa xe (xc (13 * c + 12)) (ou c) xi zf za zs ze (3 * (13 * c + 12)) (3 * c) ∧ (¬ st c = 1 → xc (13 * c + 12) = 0)
def cw_F (xb yb : Nat → Int32) : Prop := ∀ c k s, c < 8 → k < 12 → s < 2 → yb (2 * (12 * c + k) + s) = xb (2 * (13 * c + k) + s)
theorem cw_G_put {sp : Int32} {xf xa xe xc xi yl yf ya ys ye xc' xi' yl' yf' ya' ys' ye' : Nat → Int32} (h : cw_G sp xf xa xe xc xi yl yf ya ys ye) {c0 k0 : Nat} (hc0 : c0 < 8) (hk0 : k0 < 12)
    (hxc : ∀ i, i ≠ 13 * c0 + k0 → xc' i = xc i) (hyl : ∀ i, i ≠ 12 * c0 + k0 → yl' i = yl i)
    (hxi : ∀ i, (i < 3 * (13 * c0 + k0) ∨ 3 * (13 * c0 + k0) + 3 ≤ i) → xi' i = xi i)
    (hyf : ∀ i, (i < 3 * (12 * c0 + k0) ∨ 3 * (12 * c0 + k0) + 3 ≤ i) → yf' i = yf i ∧ ya' i = ya i ∧ ys' i = ys i ∧ ye' i = ye i)
    (hr : cw_Row sp xf xa xe (xc' (13 * c0 + k0)) (yl' (12 * c0 + k0)) xi' yf' ya' ys' ye' (3 * (13 * c0 + k0)) (3 * (12 * c0 + k0))) :
    cw_G sp xf xa xe xc' xi' yl' yf' ya' ys' ye' := by
  intro c k hc hk
  by_cases e : c = c0 ∧ k = k0
  · obtain ⟨rfl, rfl⟩ := e
    exact hr
  · rw [hxc (13 * c + k) (by omega), hyl (12 * c + k) (by omega)]
    exact cw_Row_move (h c k hc hk) (fun j hj => hxi _ (by omega)) (fun j m hj hm _ => hyf _ (by omega))
theorem cw_G_frame {sp : Int32} {xf xa xe xc xi yl yf ya ys ye xc' xi' : Nat → Int32} (h : cw_G sp xf xa xe xc xi yl yf ya ys ye)
    (hxc : ∀ c k, c < 8 → k < 12 → xc' (13 * c + k) = xc (13 * c + k)) (hxi : ∀ c k j, c < 8 → k < 12 → j < 3 → xi' (3 * (13 * c + k) + j) = xi (3 * (13 * c + k) + j)) :
    cw_G sp xf xa xe xc' xi' yl yf ya ys ye := by
  intro c k hc hk
  rw [hxc c k hc hk]
  exact cw_Row_move (h c k hc hk) (fun j hj => hxi c k j hc hk hj) (fun j m hj hm _ => ⟨rfl, rfl, rfl, rfl⟩)
theorem cw_O_put {sp : Int32} {xf xa xe xc xi st ou zf za zs ze xc' xi' st' ou' zf' za' zs' ze' : Nat → Int32} (h : cw_O sp xf xa xe xc xi st ou zf za zs ze) {c0 : Nat} (hc0 : c0 < 8)
    (hxc : ∀ i, i ≠ 13 * c0 + 12 → xc' i = xc i) (hou : ∀ i, i ≠ c0 → ou' i = ou i) (hst : ∀ i, i ≠ c0 → st' i = st i)
    (hxi : ∀ i, (i < 3 * (13 * c0 + 12) ∨ 3 * (13 * c0 + 12) + 3 ≤ i) → xi' i = xi i)
    (hyf : ∀ i, (i < 3 * c0 ∨ 3 * c0 + 3 ≤ i) → zf' i = zf i ∧ za' i = za i ∧ zs' i = zs i ∧ ze' i = ze i)
    (hr : cw_Row sp xf xa xe (xc' (13 * c0 + 12)) (ou' c0) xi' zf' za' zs' ze' (3 * (13 * c0 + 12)) (3 * c0) ∧ (¬ st' c0 = 1 → xc' (13 * c0 + 12) = 0)) :
    cw_O sp xf xa xe xc' xi' st' ou' zf' za' zs' ze' := by
  intro c hc
  by_cases e : c = c0
  · subst e
    exact hr
  · rw [hxc (13 * c + 12) (by omega), hou c e, hst c e]
    exact ⟨cw_Row_move (h c hc).1 (fun j hj => hxi _ (by omega)) (fun j m hj hm _ => hyf _ (by omega)), (h c hc).2⟩
theorem cw_O_frame {sp : Int32} {xf xa xe xc xi st ou zf za zs ze xc' xi' : Nat → Int32} (h : cw_O sp xf xa xe xc xi st ou zf za zs ze)
    (hxc : ∀ c, c < 8 → xc' (13 * c + 12) = xc (13 * c + 12)) (hxi : ∀ c j, c < 8 → j < 3 → xi' (3 * (13 * c + 12) + j) = xi (3 * (13 * c + 12) + j)) :
    cw_O sp xf xa xe xc' xi' st ou zf za zs ze := by
  intro c hc
  rw [hxc c hc]
  exact ⟨cw_Row_move (h c hc).1 (fun j hj => hxi c j hc hj) (fun j m hj hm _ => ⟨rfl, rfl, rfl, rfl⟩), (h c hc).2⟩
theorem cw_F_put {xb yb : Nat → Int32} (h : cw_F xb yb) {c k s x y : Nat} (hc : c < 8) (hk : k < 12) (hs : s < 2) {z z' : Int32} (hx : x = 2 * (13 * c + k) + s) (hy : y = 2 * (12 * c + k) + s) (hz : z' = z) : cw_F (upd xb x z) (upd yb y z') := by
  subst hx hy hz
  intro c' k' s' hc' hk' hs'
  unfold upd
  by_cases e : c' = c ∧ k' = k ∧ s' = s
  · obtain ⟨rfl, rfl, rfl⟩ := e
    rw [if_pos rfl, if_pos rfl]
  · rw [if_neg (by omega), if_neg (by omega)]
    exact h c' k' s' hc' hk' hs'
/-! removing a lock: after a copy, or in place -/
theorem cw_rem_cp (f : Nat → Int32) {s t n j i q : Nat} (hi : i < q) (hq : q + 1 ≤ n) : cw_shf (cw_cp2 f f s t n) (t + j) (t + q) (t + i) = if i < j then f (s + i) else f (s + (i + 1)) := by
  by_cases h : i < j
  · rw [if_pos h, cw_shf_lo _ (by omega), cw_cp2_in _ _ (by omega)]
  · rw [if_neg h, cw_shf_in _ (by omega) (by omega), Nat.add_assoc, cw_cp2_in _ _ (by omega)]
theorem cw_rem_in (f : Nat → Int32) {t j i q : Nat} (hi : i < q) : cw_shf f (t + j) (t + q) (t + i) = if i < j then f (t + i) else f (t + (i + 1)) := by
  by_cases h : i < j
  · rw [if_pos h, cw_shf_lo _ (by omega)]
  · rw [if_neg h, cw_shf_in _ (by omega) (by omega), Nat.add_assoc]
theorem cw_shf_out (f : Nat → Int32) {t j q i : Nat} (h : i < t ∨ t + 3 ≤ i) (hq : q ≤ 3) : cw_shf f (t + j) (t + q) i = f i := by
  rcases h with h | h
  · exact cw_shf_lo _ (by omega)
  · exact cw_shf_hi _ (by omega)
theorem cw_cp2_out (f g : Nat → Int32) {s t n i : Nat} (h : i < t ∨ t + 3 ≤ i) (hn : n ≤ 3) : cw_cp2 f g s t n i = g i := by
  rcases h with h | h
  · exact cw_cp2_lo _ _ h
  · exact cw_cp2_hi _ _ (by omega)
end
section
/-! part 04: the relation -/
section REL
variable {h sp ch bl yn : Int32} {co on ba ra gu se si st la pu ps sc he xb xc xi xf xa xe tc ts ta bc bs bm pb ou yb yl yf ya ys ye zf za zs ze wy pt su bb bu : Nat → Int32}
def cw_nt (N : Nat) (a : Nat → Int32) : Nat → Nat := fun i => if i < N then (a i).toNatClampNeg else 0
theorem cw_nt_e {N B i : Nat} {f : Nat → Int32} (hi : i < N) (hB : B < 2 ^ 31) (h : ∃ a, a < B ∧ f i = nI a) : f i = nI (cw_nt N f i) ∧ cw_nt N f i < B := by
  obtain ⟨a, ha, e⟩ := h
  unfold cw_nt
  rw [if_pos hi, e, nI_clamp (by omega)]
  exact ⟨rfl, ha⟩
theorem cw_nt_lt {N B : Nat} {f : Nat → Int32} (hB : B < 2 ^ 31) (h0 : 0 < B) (h : ∀ i, i < N → ∃ a, a < B ∧ f i = nI a) : ∀ i, cw_nt N f i < B := by
  intro i
  by_cases hi : i < N
  · exact (cw_nt_e hi hB (h i hi)).2
  · unfold cw_nt; rw [if_neg hi]; exact h0
def cw_S (H : Nat) (sc : Nat → Int32) : Prop := ∀ c, c < 8 → ∃ S, S ≤ H ∧ sc c = nI S
def cw_E (st la ps pb si : Nat → Int32) : Prop :=
  ∀ c, c < 8 → (∃ l, l < 12 ∧ la c = nI l) ∧ (st c = 0 ∨ st c = 1 ∨ st c = 2) ∧ (∃ s, s < 2 ∧ ps c = nI s ∧ (st c = 1 → pb c = si (2 * c + s)))
def cw_B (C : Nat) (si : Nat → Int32) : Prop := C ≤ 8 ∧ (∀ i, i < 16 → ∃ a, a < 6 ∧ si i = nI a) ∧ ∀ c, c < C → ¬ si (2 * c) = si (2 * c + 1)
def cw_D (on ba ra : Nat → Int32) : Prop := ∀ p, p < 6 → (on p = 0 ∨ on p = 1) ∧ (∃ b, b < 10 ∧ ba p = nI b) ∧ (∃ r, r < 21 ∧ ra p = nI r)
def cw_Z (C : Nat) (st : Nat → Int32) : Prop := ∀ c, C ≤ c → c < 8 → st c = 0
def cw_T (H C : Nat) (sp : Int32) (on ba ra gu si xf xa xe : Nat → Int32) (u : SX) (v : SY) : Prop :=
  ∃ (bl yn : Int32) (co se st la pu ps sc he xb xc xi tc ts ta bc bs bm pb ou yb yl yf ya ys ye zf za zs ze wy pt su bb bu : Nat → Int32),
    u = (nI H, sp, nI C, bl, co, on, ba, ra, gu, se, si, st, la, pu, ps, sc, he, xb, xc, xi, xf, xa, xe, tc, ts, ta, bc, bs, bm) ∧ v = (nI H, sp, nI C, yn, co, ba, ra, gu, se, on, si, st, la, pu, pb, sc, he, ou, yb, yl, yf, ya, ys, ye, zf, za, zs, ze, wy, pt, su, bb, bu) ∧
    cw_S H sc ∧ cw_E st la ps pb si ∧ cw_F xb yb ∧ cw_G sp xf xa xe xc xi yl yf ya ys ye ∧ cw_O sp xf xa xe xc xi st ou zf za zs ze ∧ cw_Z C st
def i_Rel (k : Nat) (u : SX) (v : SY) : Prop :=
  ∃ (H C : Nat) (sp : Int32) (on ba ra gu si xf xa xe : Nat → Int32), H ≤ 4 * k ∧ cw_B C si ∧ cw_D on ba ra ∧ cw_T H C sp on ba ra gu si xf xa xe u v
end REL
end
section
/-! part 05: the easy calls -/
section EASY
variable {h sp ch bl yn : Int32} {co on ba ra gu se si st la pu ps sc he xb xc xi xf xa xe tc ts ta bc bs bm pb ou yb yl yf ya ys ye zf za zs ze wy pt su bb bu : Nat → Int32}
theorem i_up {k : Nat} {u : SX} {v : SY} (h : i_Rel k u v) : i_Rel (k + 5) u v := by
  obtain ⟨H, C, sp, on, ba, ra, gu, si, xf, xa, xe, hH, hB, hD, bl, yn, co, se, st, la, pu, ps, sc, he, xb, xc, xi, tc, ts, ta, bc, bs, bm, pb, ou, yb, yl, yf, ya, ys, ye, zf, za, zs, ze, wy, pt, su, bb, bu, rfl, rfl, hS, hE, hF, hG, hO, hZ⟩ := h
  exact ⟨H, C, sp, on, ba, ra, gu, si, xf, xa, xe, by omega, hB, hD, bl, yn, co, se, st, la, pu, ps, sc, he, xb, xc, xi, tc, ts, ta, bc, bs, bm, pb, ou, yb, yl, yf, ya, ys, ye, zf, za, zs, ze, wy, pt, su, bb, bu, rfl, rfl, hS, hE, hF, hG, hO, hZ⟩
theorem cw_up {k : Nat} {u : SX} {v : SY} (h : i_Rel k u v) : i_Rel (k + 5) u v := i_up h
theorem cw_bz (v : Int32) : vp_nar .boolean (lw_bz v) = lw_bz v := by
  rcases lw_bz_01 v with h | h <;> rw [h] <;> decide
theorem i_vc_online {k : Nat} {u : SX} {v : SY} (I : i_Rel k u v) (hk : k + 5 ≤ 2560) (v1 : Int32) (v2 : Int32) : wpX_online (fun r u' => wpY_online (fun r' v' => r' = r ∧ i_Rel (k + 5) u' v') v v1 (lw_bz v2)) u v1 (lw_bz v2) := by
  have J := i_up I
  obtain ⟨H, C, sp, on, ba, ra, gu, si, xf, xa, xe, hH, hB, hD, bl, yn, co, se, st, la, pu, ps, sc, he, xb, xc, xi, tc, ts, ta, bc, bs, bm, pb, ou, yb, yl, yf, ya, ys, ye, zf, za, zs, ze, wy, pt, su, bb, bu, rfl, rfl, hS, hE, hF, hG, hO, hZ⟩ := I
  by_cases h0 : v1 < 0
  · simp only [wpX_online, wpX_isParty, wpY_online, wpY_isParty, h0, forall_eq, nI_leI, nI_ltI, nI_eq, true_implies, forall_const, not_true_eq_false, not_false_eq_true, false_implies, and_true, true_and, implies_true, and_self, reduceIte]
    exact J
  by_cases h6 : 6 ≤ v1
  · simp only [wpX_online, wpX_isParty, wpY_online, wpY_isParty, h0, h6, forall_eq, nI_leI, nI_ltI, nI_eq, true_implies, forall_const, not_true_eq_false, not_false_eq_true, false_implies, and_true, true_and, implies_true, and_self, reduceIte]
    exact J
  obtain ⟨j, hj, rfl⟩ := cw_pty h0 (Int32.not_le.mp h6)
  have n1 : ¬ (1 : Int32) = 0 := by decide
  by_cases hq : on j = lw_bz v2
  · simp (disch := omega) only [wpX_online, wpX_isParty, wpY_online, wpY_isParty, h0, h6, n1, nI_clamp, vp_in_nI, hq, forall_eq, nI_leI, nI_ltI, nI_eq, true_implies, forall_const, not_true_eq_false, not_false_eq_true, false_implies, and_true, true_and, implies_true, and_self, reduceIte]
    exact J
  · simp (disch := omega) only [wpX_online, wpX_isParty, wpY_online, wpY_isParty, h0, h6, n1, nI_clamp, vp_in_nI, hq, forall_eq, nI_leI, nI_ltI, nI_eq, true_implies, forall_const, not_true_eq_false, not_false_eq_true, false_implies, and_true, true_and, implies_true, and_self, reduceIte]
    have hD' : cw_D (upd on j (vp_nar .boolean (lw_bz v2))) ba ra := by
      intro p hp
      refine ⟨?_, (hD p hp).2⟩
      by_cases e : p = j
      · subst e
        rw [pk_us, cw_bz]
        exact lw_bz_01 v2
      · rw [pk_un e]
        exact (hD p hp).1
    exact ⟨H, C, sp, _, ba, ra, gu, si, xf, xa, xe, by omega, hB, hD', bl, yn, co, se, st, la, pu, ps, sc, he, xb, xc, xi, tc, ts, ta, bc, bs, bm, pb, ou, yb, yl, yf, ya, ys, ye, zf, za, zs, ze, wy, pt, su, bb, bu, rfl, rfl, hS, hE, hF, hG, hO, hZ⟩
theorem i_vc_height {k : Nat} {u : SX} {v : SY} (I : i_Rel k u v) (hk : k + 5 ≤ 2560) : wpX_height (fun r => wpY_height (fun r' => r' = r ∧ i_Rel (k + 5) u v) v) u := by
  have J := i_up I
  obtain ⟨H, C, sp, on, ba, ra, gu, si, xf, xa, xe, hH, hB, hD, bl, yn, co, se, st, la, pu, ps, sc, he, xb, xc, xi, tc, ts, ta, bc, bs, bm, pb, ou, yb, yl, yf, ya, ys, ye, zf, za, zs, ze, wy, pt, su, bb, bu, rfl, rfl, hS, hE, hF, hG, hO, hZ⟩ := I
  exact ⟨rfl, J⟩
end EASY
end
section
/-! part 06: walks of own methods of X (a general post) -/
section XW
variable {h sp ch bl yn : Int32} {co on ba ra gu se si st la pu ps sc he xb xc xi xf xa xe tc ts ta bc bs bm pb ou yb yl yf ya ys ye zf za zs ze wy pt su bb bu : Nat → Int32}
def cw_rd (st on si : Nat → Int32) (c : Nat) : Prop := st c = 0 ∧ ¬ on (si (2 * c)).toNatClampNeg = 0 ∧ ¬ on (si (2 * c + 1)).toNatClampNeg = 0
theorem xs_isReady {post : Int32 → Prop} {c : Nat} (hc : c < 8) (hsi : ∀ i, i < 16 → ∃ a, a < 6 ∧ si i = nI a) (h1 : cw_rd st on si c → post 1) (h0 : ¬ cw_rd st on si c → post 0) : wpX_isReady post (h, sp, ch, bl, co, on, ba, ra, gu, se, si, st, la, pu, ps, sc, he, xb, xc, xi, xf, xa, xe, tc, ts, ta, bc, bs, bm) (nI c) := by
  obtain ⟨a, ha, ea⟩ := hsi (2 * c) (by omega)
  obtain ⟨b, hb, eb⟩ := hsi (2 * c + 1) (by omega)
  unfold cw_rd at h1 h0
  rw [ea, eb, nI_clamp (by omega), nI_clamp (by omega)] at h1 h0
  simp (disch := omega) only [wpX_isReady, cw_m2, cw_m3, cw_m4, cw_m13, cw_2m, cw_3m, cw_12m, cw_24m, cw_36m, cw_a12, cw_a3, nI_add, nI_1, pk_sub, nI_clamp, vp_in_nI, ea, eb, forall_eq, nI_leI, nI_ltI, nI_eq, true_implies, forall_const, not_true_eq_false, not_false_eq_true, false_implies, and_true, true_and, implies_true, and_self, reduceIte]
  by_cases q1 : st c = 0
  · by_cases q2 : on a = 0
    · simp only [q1, q2, forall_eq, nI_leI, nI_ltI, nI_eq, true_implies, forall_const, not_true_eq_false, not_false_eq_true, false_implies, and_true, true_and, implies_true, and_self, reduceIte]
      exact h0 (fun z => z.2.1 q2)
    · by_cases q3 : on b = 0
      · simp only [q1, q2, q3, forall_eq, nI_leI, nI_ltI, nI_eq, true_implies, forall_const, not_true_eq_false, not_false_eq_true, false_implies, and_true, true_and, implies_true, and_self, reduceIte]
        exact h0 (fun z => z.2.2 q3)
      · simp only [q1, q2, q3, forall_eq, nI_leI, nI_ltI, nI_eq, true_implies, forall_const, not_true_eq_false, not_false_eq_true, false_implies, and_true, true_and, implies_true, and_self, reduceIte]
        exact h1 ⟨q1, q2, q3⟩
  · simp only [q1, forall_eq, nI_leI, nI_ltI, nI_eq, true_implies, forall_const, not_true_eq_false, not_false_eq_true, false_implies, and_true, true_and, implies_true, and_self, reduceIte]
    exact h0 (fun z => q1 z.1)
theorem xs_sideOf {post : Int32 → Prop} {c C : Nat} {p : Int32} (hc : c < 8) (hC : C ≤ 8) (h0 : c < C → si (2 * c) = p → post 0) (h1 : c < C → ¬ si (2 * c) = p → si (2 * c + 1) = p → post 1) (h2 : (c < C → ¬ si (2 * c) = p ∧ ¬ si (2 * c + 1) = p) → post (-1)) : wpX_sideOf post (h, sp, nI C, bl, co, on, ba, ra, gu, se, si, st, la, pu, ps, sc, he, xb, xc, xi, xf, xa, xe, tc, ts, ta, bc, bs, bm) (nI c) p := by
  have n0 : ¬ nI c < 0 := nI_pos (by omega)
  by_cases q : c < C
  · have q' : ¬ C ≤ c := by omega
    simp (disch := omega) only [wpX_sideOf, wpX_isChannel, cw_m2, cw_m3, cw_m4, cw_m13, cw_2m, cw_3m, cw_12m, cw_24m, cw_36m, cw_a12, cw_a3, nI_add, nI_1, pk_sub, nI_clamp, vp_in_nI, n0, q', cw_n1, forall_eq, nI_leI, nI_ltI, nI_eq, true_implies, forall_const, not_true_eq_false, not_false_eq_true, false_implies, and_true, true_and, implies_true, and_self, reduceIte]
    by_cases a : si (2 * c) = p
    · simp only [a, forall_eq, nI_leI, nI_ltI, nI_eq, true_implies, forall_const, not_true_eq_false, not_false_eq_true, false_implies, and_true, true_and, implies_true, and_self, reduceIte]
      exact h0 q a
    · by_cases b : si (2 * c + 1) = p
      · simp only [a, b, forall_eq, nI_leI, nI_ltI, nI_eq, true_implies, forall_const, not_true_eq_false, not_false_eq_true, false_implies, and_true, true_and, implies_true, and_self, reduceIte]
        exact h1 q a b
      · simp only [a, b, forall_eq, nI_leI, nI_ltI, nI_eq, true_implies, forall_const, not_true_eq_false, not_false_eq_true, false_implies, and_true, true_and, implies_true, and_self, reduceIte]
        exact h2 (fun _ => ⟨a, b⟩)
  · have q' : C ≤ c := by omega
    simp (disch := omega) only [wpX_sideOf, wpX_isChannel, n0, q', forall_eq, nI_leI, nI_ltI, nI_eq, true_implies, forall_const, not_true_eq_false, not_false_eq_true, false_implies, and_true, true_and, implies_true, and_self, reduceIte]
    exact h2 (fun z => absurd z q)
def cw_nb (b : Nat → Int32) (o r : Nat) : Nat → Int32 := upd (upd b (2 * r) (b (2 * o))) (2 * r + 1) (b (2 * o + 1))
theorem xs_mns56 {post : Int32 → SX → Prop} {c o r l : Nat} (hc : c < 8) (ho : o < r) (hr : r < 104) (el : la c = nI l) (H : post (nI r) (h, sp, ch, bl, co, on, ba, ra, gu, se, si, st, upd la c (nI (l + 1)), pu, ps, sc, he, xb, upd xc r (xc o), cw_cp2 xi xi (3 * o) (3 * r) 3, xf, xa, xe, tc, ts, ta, bc, bs, bm)) :
    ∀ d j, j + d = 3 → wX_makeNextState_56 post (nI c) (nI o) (nI r) h sp ch bl (d + 1) (nI j) co on ba ra gu se si st la pu ps sc he xb xc (cw_cp2 xi xi (3 * o) (3 * r) j) xf xa xe tc ts ta bc bs bm := by
  intro d
  induction d with
  | zero =>
    intro j hj
    have : j = 3 := by omega
    subst this
    simp (disch := omega) only [wX_makeNextState_56, cw_le3, cw_m2, cw_m3, cw_m4, cw_m13, cw_2m, cw_3m, cw_12m, cw_24m, cw_36m, cw_a12, cw_a3, nI_add, nI_1, pk_sub, nI_clamp, vp_in_nI, el, Nat.le_refl, forall_eq, nI_leI, nI_ltI, nI_eq, true_implies, forall_const, not_true_eq_false, not_false_eq_true, false_implies, and_true, true_and, implies_true, and_self, reduceIte]
    exact H
  | succ d ih =>
    intro j hj
    have q : ¬ 3 ≤ j := by omega
    have := ih (j + 1) (by omega)
    rw [← cw_cpyS xi (show 3 * o + j < 3 * r by omega)] at this
    rw [wX_makeNextState_56]
    simp (disch := omega) only [cw_le3, cw_m2, cw_m3, cw_m4, cw_m13, cw_2m, cw_3m, cw_12m, cw_24m, cw_36m, cw_a12, cw_a3, nI_add, nI_1, pk_sub, nI_clamp, vp_in_nI, q, forall_eq, nI_leI, nI_ltI, nI_eq, true_implies, forall_const, not_true_eq_false, not_false_eq_true, false_implies, and_true, true_and, implies_true, and_self, reduceIte]
    exact this
theorem xs_mns {post : Int32 → SX → Prop} {c l : Nat} (hc : c < 8) (hl : l < 11) (el : la c = nI l)
    (H : post (nI (13 * c + l + 1)) (h, sp, ch, bl, co, on, ba, ra, gu, se, si, st, upd la c (nI (l + 1)), pu, ps, sc, he, cw_nb xb (13 * c + l) (13 * c + l + 1), upd xc (13 * c + l + 1) (xc (13 * c + l)), cw_cp2 xi xi (3 * (13 * c + l)) (3 * (13 * c + l + 1)) 3, xf, xa, xe, tc, ts, ta, bc, bs, bm)) :
    wpX_makeNextState post (h, sp, ch, bl, co, on, ba, ra, gu, se, si, st, la, pu, ps, sc, he, xb, xc, xi, xf, xa, xe, tc, ts, ta, bc, bs, bm) (nI c) := by
  simp (disch := omega) only [wpX_makeNextState, cw_m2, cw_m3, cw_m4, cw_m13, cw_2m, cw_3m, cw_12m, cw_24m, cw_36m, cw_a12, cw_a3, nI_add, nI_1, pk_sub, nI_clamp, vp_in_nI, el, forall_eq, nI_leI, nI_ltI, nI_eq, true_implies, forall_const, not_true_eq_false, not_false_eq_true, false_implies, and_true, true_and, implies_true, and_self, reduceIte]
  refine ⟨3, ?_⟩
  have z0 : (0 : Int32) = nI 0 := rfl
  have q0 : ¬ (2 ≤ 0) := by omega
  have q1 : ¬ (2 ≤ 1) := by omega
  simp (disch := omega) only [wX_makeNextState_19, z0, cw_le2, cw_m2, cw_m3, cw_m4, cw_m13, cw_2m, cw_3m, cw_12m, cw_24m, cw_36m, cw_a12, cw_a3, nI_add, nI_1, pk_sub, nI_clamp, vp_in_nI, q0, q1, Nat.zero_add, Nat.add_zero, Nat.le_refl, pk_un, forall_eq, nI_leI, nI_ltI, nI_eq, true_implies, forall_const, not_true_eq_false, not_false_eq_true, false_implies, and_true, true_and, implies_true, and_self, reduceIte]
  refine ⟨4, ?_⟩
  have := xs_mns56 (post := post) (xi := xi) (xc := xc) (la := la) hc (show 13 * c + l < 13 * c + l + 1 by omega) (by omega) el H 3 0 rfl
  rw [cw_cp2_0] at this
  exact this
theorem xs_rem {post : SX → Prop} {r j m : Nat} (hr : r < 104) (hj : j ≤ 2) (en : xc r = nI (m + 1)) (H : post (h, sp, ch, bl, co, on, ba, ra, gu, se, si, st, la, pu, ps, sc, he, xb, upd xc r (nI m), cw_shf xi (3 * r + j) (3 * r + 2), xf, xa, xe, tc, ts, ta, bc, bs, bm)) : wpX_removeLock post (h, sp, ch, bl, co, on, ba, ra, gu, se, si, st, la, pu, ps, sc, he, xb, xc, xi, xf, xa, xe, tc, ts, ta, bc, bs, bm) (nI r) (nI j) := by
  have L : ∀ d i, i + d = 2 → j ≤ i → wX_removeLock_2 post (nI r) h sp ch bl (d + 1) (nI i) co on ba ra gu se si st la pu ps sc he xb xc (cw_shf xi (3 * r + j) (3 * r + i)) xf xa xe tc ts ta bc bs bm := by
    intro d
    induction d with
    | zero =>
      intro i hi _
      have : i = 2 := by omega
      subst this
      simp (disch := omega) only [wX_removeLock_2, cw_le2, cw_m2, cw_m3, cw_m4, cw_m13, cw_2m, cw_3m, cw_12m, cw_24m, cw_36m, cw_a12, cw_a3, nI_add, nI_1, pk_sub, nI_clamp, vp_in_nI, en, nI_pred, Nat.le_refl, forall_eq, nI_leI, nI_ltI, nI_eq, true_implies, forall_const, not_true_eq_false, not_false_eq_true, false_implies, and_true, true_and, implies_true, and_self, reduceIte]
      exact H
    | succ d ih =>
      intro i hi hji
      have q : ¬ 2 ≤ i := by omega
      have := ih (i + 1) (by omega) (by omega)
      rw [← Nat.add_assoc, ← cw_shfS xi (show 3 * r + j ≤ 3 * r + i by omega)] at this
      rw [wX_removeLock_2]
      simp (disch := omega) only [cw_le2, cw_m2, cw_m3, cw_m4, cw_m13, cw_2m, cw_3m, cw_12m, cw_24m, cw_36m, cw_a12, cw_a3, nI_add, nI_1, pk_sub, nI_clamp, vp_in_nI, q, forall_eq, nI_leI, nI_ltI, nI_eq, true_implies, forall_const, not_true_eq_false, not_false_eq_true, false_implies, and_true, true_and, implies_true, and_self, reduceIte]
      exact this
  have := L (2 - j) j (by omega) (Nat.le_refl _)
  rw [cw_shfE xi (Nat.le_refl _)] at this
  exact ⟨_, this⟩
theorem xs_put105 {post : SX → Prop} {o r : Nat} (ho : 3 * o + 2 < 3 * r) (hr : r < 104) (H : post (h, sp, ch, bl, co, on, ba, ra, gu, se, si, st, la, pu, ps, sc, he, xb, upd xc r (xc o), cw_cp2 xi xi (3 * o) (3 * r) 3, xf, xa, xe, tc, ts, ta, bc, bs, bm)) :
    ∀ d j, j + d = 3 → wX_putOnChain_105 post (nI o) (nI r) h sp ch bl (d + 1) (nI j) co on ba ra gu se si st la pu ps sc he xb xc (cw_cp2 xi xi (3 * o) (3 * r) j) xf xa xe tc ts ta bc bs bm := by
  intro d
  induction d with
  | zero =>
    intro j hj
    have : j = 3 := by omega
    subst this
    simp (disch := omega) only [wX_putOnChain_105, cw_le3, cw_m2, cw_m3, cw_m4, cw_m13, cw_2m, cw_3m, cw_12m, cw_24m, cw_36m, cw_a12, cw_a3, nI_add, nI_1, pk_sub, nI_clamp, vp_in_nI, Nat.le_refl, forall_eq, nI_leI, nI_ltI, nI_eq, true_implies, forall_const, not_true_eq_false, not_false_eq_true, false_implies, and_true, true_and, implies_true, and_self, reduceIte]
    exact H
  | succ d ih =>
    intro j hj
    have q : ¬ 3 ≤ j := by omega
    have := ih (j + 1) (by omega)
    rw [← cw_cpyS xi (show 3 * o + j < 3 * r by omega)] at this
    rw [wX_putOnChain_105]
    simp (disch := omega) only [cw_le3, cw_m2, cw_m3, cw_m4, cw_m13, cw_2m, cw_3m, cw_12m, cw_24m, cw_36m, cw_a12, cw_a3, nI_add, nI_1, pk_sub, nI_clamp, vp_in_nI, q, forall_eq, nI_leI, nI_ltI, nI_eq, true_implies, forall_const, not_true_eq_false, not_false_eq_true, false_implies, and_true, true_and, implies_true, and_self, reduceIte]
    exact this
theorem xs_put {post : SX → Prop} {c s k a : Nat} (hc : c < 8) (hs : s < 2) (hk : k < 12) (ha : a < 6) (ea : si (2 * c + 1 - s) = nI a)
    (H : post (h, sp, ch, bl, upd co a (co a + xb (2 * (13 * c + k) + 1 - s)), on, ba, ra, gu, se, si, upd st c 1, la, upd pu c (nI k), upd ps c (nI s), upd sc c h, upd he c (xb (2 * (13 * c + k) + s)), xb, upd xc (13 * c + 12) (xc (13 * c + k)), cw_cp2 xi xi (3 * (13 * c + k)) (3 * (13 * c + 12)) 3, xf, xa, xe, tc, ts, ta, bc, bs, bm)) :
    wpX_putOnChain post (h, sp, ch, bl, co, on, ba, ra, gu, se, si, st, la, pu, ps, sc, he, xb, xc, xi, xf, xa, xe, tc, ts, ta, bc, bs, bm) (nI c) (nI s) (nI k) := by
  simp (disch := omega) only [wpX_putOnChain, cw_m2, cw_m3, cw_m4, cw_m13, cw_2m, cw_3m, cw_12m, cw_24m, cw_36m, cw_a12, cw_a3, nI_add, nI_1, pk_sub, nI_clamp, vp_in_nI, ea, forall_eq, nI_leI, nI_ltI, nI_eq, true_implies, forall_const, not_true_eq_false, not_false_eq_true, false_implies, and_true, true_and, implies_true, and_self, reduceIte]
  refine ⟨4, ?_⟩
  have := xs_put105 (post := post) (xi := xi) (xc := xc) (show 3 * (13 * c + k) + 2 < 3 * (13 * c + 12) by omega) (by omega) H 3 0 rfl
  rw [cw_cp2_0] at this
  exact this
theorem xs_knows {post : Int32 → Prop} {L p : Nat} (hL : L < 64) (hp : p < 6) (h1 : bt (se p) (L / 4) = true → post 1) (h0 : ¬ bt (se p) (L / 4) = true → post 0) : wpX_knowsSecretOf post (h, sp, ch, bl, co, on, ba, ra, gu, se, si, st, la, pu, ps, sc, he, xb, xc, xi, xf, xa, xe, tc, ts, ta, bc, bs, bm) (nI L) (nI p) := by
  simp (disch := omega) only [wpX_knowsSecretOf, cw_n4, cw_d4, cw_bit0, cw_m2, cw_m3, cw_m4, cw_m13, cw_2m, cw_3m, cw_12m, cw_24m, cw_36m, cw_a12, cw_a3, nI_add, nI_1, pk_sub, nI_clamp, vp_in_nI, forall_eq, nI_leI, nI_ltI, nI_eq, true_implies, forall_const, not_true_eq_false, not_false_eq_true, false_implies, and_true, true_and, implies_true, and_self, reduceIte]
  cases q : bt (se p) (L / 4)
  · simp only [forall_eq, nI_leI, nI_ltI, nI_eq, true_implies, forall_const, not_true_eq_false, not_false_eq_true, false_implies, and_true, true_and, implies_true, and_self, reduceIte]
    exact h0 (by rw [q]; decide)
  · simp only [Bool.true_eq_false, forall_eq, nI_leI, nI_ltI, nI_eq, true_implies, forall_const, not_true_eq_false, not_false_eq_true, false_implies, and_true, true_and, implies_true, and_self, reduceIte]
    exact h1 q
theorem xs_due24 {post : Int32 → Prop} {c s L a : Nat} {z : Int32} (hc : c < 8) (hs : s < 2) (hL : L < 64) (ha : a < 6) (ea : si (2 * c + s) = nI a) (hz : z = 0 ∨ z = 1)
    (m0 : xf L = nI s → ¬ xe L ≤ h → post 0) (m2 : xf L = nI s → xe L ≤ h → z = 1 → post 2) (m3 : xf L = nI s → xe L ≤ h → z = 0 → post 3)
    (o0 : ¬ xf L = nI s → ¬ bt (se a) (L / 4) = true → post 0) (o1 : ¬ xf L = nI s → bt (se a) (L / 4) = true → z = 1 → post 1)
    (o2 : ¬ xf L = nI s → bt (se a) (L / 4) = true → z = 0 → h + 1 < xe L → post 0) (o3 : ¬ xf L = nI s → bt (se a) (L / 4) = true → z = 0 → ¬ h + 1 < xe L → post 3) :
    wX_dueAct_24 post (nI c) (nI s) (nI L) z h sp ch bl co on ba ra gu se si st la pu ps sc he xb xc xi xf xa xe tc ts ta bc bs bm := by
  simp (disch := omega) only [wX_dueAct_24, cw_m2, cw_m3, cw_m4, cw_m13, cw_2m, cw_3m, cw_12m, cw_24m, cw_36m, cw_a12, cw_a3, nI_add, nI_1, pk_sub, nI_clamp, vp_in_nI, ea, forall_eq, nI_leI, nI_ltI, nI_eq, true_implies, forall_const, not_true_eq_false, not_false_eq_true, false_implies, and_true, true_and, implies_true, and_self, reduceIte]
  refine br_c (fun q => ?_) (fun q => xs_knows hL ha (fun b => ?_) (fun b => ?_))
  · refine br_c (fun e => ?_) (fun e => m0 q e)
    rcases hz with rfl | rfl
    · exact br_t rfl (m3 q e rfl)
    · exact br_f cw_n1 (m2 q e rfl)
  · refine br_f cw_n1 ?_
    rcases hz with rfl | rfl
    · exact br_t rfl (br_c (fun e => o2 q b rfl e) (fun e => o3 q b rfl e))
    · exact br_f cw_n1 (o1 q b rfl)
  · exact br_t rfl (o0 q b)
def cw_can (st la on si : Nat → Int32) (c : Nat) : Prop := cw_rd st on si c ∧ ¬ 11 ≤ la c
theorem xs_due {post : Int32 → Prop} {c s L a : Nat} (hc : c < 8) (hs : s < 2) (hL : L < 64) (ha : a < 6) (ea : si (2 * c + s) = nI a) (hsi : ∀ i, i < 16 → ∃ a, a < 6 ∧ si i = nI a)
    (m0 : xf L = nI s → ¬ xe L ≤ h → post 0) (m2 : xf L = nI s → xe L ≤ h → cw_can st la on si c → post 2) (m3 : xf L = nI s → xe L ≤ h → ¬ cw_can st la on si c → post 3)
    (o0 : ¬ xf L = nI s → ¬ bt (se a) (L / 4) = true → post 0) (o1 : ¬ xf L = nI s → bt (se a) (L / 4) = true → cw_can st la on si c → post 1)
    (o2 : ¬ xf L = nI s → bt (se a) (L / 4) = true → ¬ cw_can st la on si c → h + 1 < xe L → post 0) (o3 : ¬ xf L = nI s → bt (se a) (L / 4) = true → ¬ cw_can st la on si c → ¬ h + 1 < xe L → post 3) :
    wpX_dueAct post (h, sp, ch, bl, co, on, ba, ra, gu, se, si, st, la, pu, ps, sc, he, xb, xc, xi, xf, xa, xe, tc, ts, ta, bc, bs, bm) (nI c) (nI s) (nI L) := by
  unfold wpX_dueAct
  dsimp only
  refine xs_isReady hc hsi (fun q => ?_) (fun q => ?_)
  · refine br_f cw_n1 ⟨pk_in c 8 hc, ?_⟩
    rw [nI_clamp (by omega)]
    refine br_c (fun l => ?_) (fun l => ?_)
    · have nc : ¬ cw_can st la on si c := fun z => z.2 l
      exact xs_due24 hc hs hL ha ea (Or.inl rfl) m0 (fun _ _ z => absurd z.symm cw_n1) (fun x y _ => m3 x y nc) o0 (fun _ _ z => absurd z.symm cw_n1) (fun x y _ => o2 x y nc) (fun x y _ => o3 x y nc)
    · exact xs_due24 hc hs hL ha ea (Or.inr rfl) m0 (fun x y _ => m2 x y ⟨q, l⟩) (fun _ _ z => absurd z cw_n1) o0 (fun x y _ => o1 x y ⟨q, l⟩) (fun _ _ z => absurd z cw_n1) (fun _ _ z => absurd z cw_n1)
  · have nc : ¬ cw_can st la on si c := fun z => q z.1
    refine br_t rfl ?_
    exact xs_due24 hc hs hL ha ea (Or.inl rfl) m0 (fun _ _ z => absurd z.symm cw_n1) (fun x y _ => m3 x y nc) o0 (fun _ _ z => absurd z.symm cw_n1) (fun x y _ => o2 x y nc) (fun x y _ => o3 x y nc)
theorem xs_end1 {post : SX → Prop} {c l j L f m a : Nat} (hc : c < 8) (hl : l < 11) (el : la c = nI l) (hj : j ≤ 2) (eL : xi (3 * (13 * c + l) + j) = nI L) (hL : L < 64) (ef : xf L = nI f) (hf : f < 2) (en : xc (13 * c + l) = nI (m + 1)) (ha : a < 6) (ea : si (2 * c + f) = nI a)
    (H : post (h, sp, ch, bl, co, on, ba, ra, gu, upd se a (se a ||| ((1 : Int32) <<< (nI (L / 4) &&& 31))), si, st, upd la c (nI (l + 1)), pu, ps, sc, he, upd (cw_nb xb (13 * c + l) (13 * c + l + 1)) (2 * (13 * c + l + 1) + 1 - f) ((cw_nb xb (13 * c + l) (13 * c + l + 1)) (2 * (13 * c + l + 1) + 1 - f) + xa L), upd (upd xc (13 * c + l + 1) (xc (13 * c + l))) (13 * c + l + 1) (nI m), cw_shf (cw_cp2 xi xi (3 * (13 * c + l)) (3 * (13 * c + l + 1)) 3) (3 * (13 * c + l + 1) + j) (3 * (13 * c + l + 1) + 2), xf, xa, xe, tc, ts, ta, bc, bs, bm)) : wpX_endLock post (h, sp, ch, bl, co, on, ba, ra, gu, se, si, st, la, pu, ps, sc, he, xb, xc, xi, xf, xa, xe, tc, ts, ta, bc, bs, bm) (nI c) (nI j) 1 := by
  unfold wpX_endLock
  dsimp only
  refine xs_mns hc hl el ?_
  have e1 : cw_cp2 xi xi (3 * (13 * c + l)) (3 * (13 * c + l + 1)) 3 (3 * (13 * c + l + 1) + j) = nI L := by rw [cw_cp2_in _ _ (by omega)]; exact eL
  simp (disch := omega) only [cw_m2, cw_m3, cw_m4, cw_m13, cw_2m, cw_3m, cw_12m, cw_24m, cw_36m, cw_a12, cw_a3, nI_add, nI_1, pk_sub, nI_clamp, vp_in_nI, e1, ef, ea, cw_n4, cw_d4, forall_eq, nI_leI, nI_ltI, nI_eq, true_implies, forall_const, not_true_eq_false, not_false_eq_true, false_implies, and_true, true_and, implies_true, and_self, reduceIte]
  unfold wX_endLock_108
  refine xs_rem (m := m) (by omega) hj (by rw [pk_us, en]) ?_
  exact H
theorem xs_end2 {post : SX → Prop} {c l j L f m : Nat} (hc : c < 8) (hl : l < 11) (el : la c = nI l) (hj : j ≤ 2) (eL : xi (3 * (13 * c + l) + j) = nI L) (hL : L < 64) (ef : xf L = nI f) (hf : f < 2) (en : xc (13 * c + l) = nI (m + 1))
    (H : post (h, sp, ch, bl, co, on, ba, ra, gu, se, si, st, upd la c (nI (l + 1)), pu, ps, sc, he, upd (cw_nb xb (13 * c + l) (13 * c + l + 1)) (2 * (13 * c + l + 1) + f) ((cw_nb xb (13 * c + l) (13 * c + l + 1)) (2 * (13 * c + l + 1) + f) + xa L), upd (upd xc (13 * c + l + 1) (xc (13 * c + l))) (13 * c + l + 1) (nI m), cw_shf (cw_cp2 xi xi (3 * (13 * c + l)) (3 * (13 * c + l + 1)) 3) (3 * (13 * c + l + 1) + j) (3 * (13 * c + l + 1) + 2), xf, xa, xe, tc, ts, ta, bc, bs, bm)) : wpX_endLock post (h, sp, ch, bl, co, on, ba, ra, gu, se, si, st, la, pu, ps, sc, he, xb, xc, xi, xf, xa, xe, tc, ts, ta, bc, bs, bm) (nI c) (nI j) 2 := by
  unfold wpX_endLock
  dsimp only
  refine xs_mns hc hl el ?_
  have e1 : cw_cp2 xi xi (3 * (13 * c + l)) (3 * (13 * c + l + 1)) 3 (3 * (13 * c + l + 1) + j) = nI L := by rw [cw_cp2_in _ _ (by omega)]; exact eL
  have n2 : ¬ (2 : Int32) = 1 := by decide
  simp (disch := omega) only [cw_m2, cw_m3, cw_m4, cw_m13, cw_2m, cw_3m, cw_12m, cw_24m, cw_36m, cw_a12, cw_a3, nI_add, nI_1, pk_sub, nI_clamp, vp_in_nI, e1, ef, n2, cw_n4, cw_d4, forall_eq, nI_leI, nI_ltI, nI_eq, true_implies, forall_const, not_true_eq_false, not_false_eq_true, false_implies, and_true, true_and, implies_true, and_self, reduceIte]
  unfold wX_endLock_108
  refine xs_rem (m := m) (by omega) hj (by rw [pk_us, en]) ?_
  exact H
end XW
end
section
/-! part 07: walks of own methods of Y (a general post) -/
section YW
variable {h sp ch bl yn : Int32} {co on ba ra gu se si st la pu ps sc he xb xc xi xf xa xe tc ts ta bc bs bm pb ou yb yl yf ya ys ye zf za zs ze wy pt su bb bu : Nat → Int32}
theorem ys_isReady {post : Int32 → Prop} {c : Nat} (hc : c < 8) (hsi : ∀ i, i < 16 → ∃ a, a < 6 ∧ si i = nI a) (h1 : cw_rd st on si c → post 1) (h0 : ¬ cw_rd st on si c → post 0) : wpY_isReady post (h, sp, ch, yn, co, ba, ra, gu, se, on, si, st, la, pu, pb, sc, he, ou, yb, yl, yf, ya, ys, ye, zf, za, zs, ze, wy, pt, su, bb, bu) (nI c) := by
  obtain ⟨a, ha, ea⟩ := hsi (2 * c) (by omega)
  obtain ⟨b, hb, eb⟩ := hsi (2 * c + 1) (by omega)
  unfold cw_rd at h1 h0
  rw [ea, eb, nI_clamp (by omega), nI_clamp (by omega)] at h1 h0
  simp (disch := omega) only [wpY_isReady, cw_m2, cw_m3, cw_m4, cw_m13, cw_2m, cw_3m, cw_12m, cw_24m, cw_36m, cw_a12, cw_a3, nI_add, nI_1, pk_sub, nI_clamp, vp_in_nI, ea, eb, forall_eq, nI_leI, nI_ltI, nI_eq, true_implies, forall_const, not_true_eq_false, not_false_eq_true, false_implies, and_true, true_and, implies_true, and_self, reduceIte]
  by_cases q1 : st c = 0
  · by_cases q2 : on a = 0
    · simp only [q1, q2, forall_eq, nI_leI, nI_ltI, nI_eq, true_implies, forall_const, not_true_eq_false, not_false_eq_true, false_implies, and_true, true_and, implies_true, and_self, reduceIte]
      exact h0 (fun z => z.2.1 q2)
    · by_cases q3 : on b = 0
      · simp only [q1, q2, q3, forall_eq, nI_leI, nI_ltI, nI_eq, true_implies, forall_const, not_true_eq_false, not_false_eq_true, false_implies, and_true, true_and, implies_true, and_self, reduceIte]
        exact h0 (fun z => z.2.2 q3)
      · simp only [q1, q2, q3, forall_eq, nI_leI, nI_ltI, nI_eq, true_implies, forall_const, not_true_eq_false, not_false_eq_true, false_implies, and_true, true_and, implies_true, and_self, reduceIte]
        exact h1 ⟨q1, q2, q3⟩
  · simp only [q1, forall_eq, nI_leI, nI_ltI, nI_eq, true_implies, forall_const, not_true_eq_false, not_false_eq_true, false_implies, and_true, true_and, implies_true, and_self, reduceIte]
    exact h0 (fun z => q1 z.1)
theorem ys_changes {post : Int32 → Prop} {c : Nat} (hc : c < 8) (hsi : ∀ i, i < 16 → ∃ a, a < 6 ∧ si i = nI a) (h1 : cw_can st la on si c → post 1) (h0 : ¬ cw_can st la on si c → post 0) : wpY_changes post (h, sp, ch, yn, co, ba, ra, gu, se, on, si, st, la, pu, pb, sc, he, ou, yb, yl, yf, ya, ys, ye, zf, za, zs, ze, wy, pt, su, bb, bu) (nI c) := by
  unfold wpY_changes
  dsimp only
  refine ys_isReady hc hsi (fun q => br_f cw_n1 ⟨pk_in c 8 hc, ?_⟩) (fun q => br_t rfl (h0 (fun z => q z.1)))
  rw [nI_clamp (by omega)]
  exact br_c (fun l => h0 (fun z => z.2 l)) (fun l => h1 ⟨q, l⟩)
theorem ys_sideOf {post : Int32 → Prop} {c : Nat} {p : Int32} (hc : c < 8) (h0 : si (2 * c) = p → post 0) (h1 : ¬ si (2 * c) = p → si (2 * c + 1) = p → post 1) (h2 : ¬ si (2 * c) = p → ¬ si (2 * c + 1) = p → post (-1)) : wpY_sideOf post (h, sp, ch, yn, co, ba, ra, gu, se, on, si, st, la, pu, pb, sc, he, ou, yb, yl, yf, ya, ys, ye, zf, za, zs, ze, wy, pt, su, bb, bu) (nI c) p := by
  simp (disch := omega) only [wpY_sideOf, cw_m2, cw_m3, cw_m4, cw_m13, cw_2m, cw_3m, cw_12m, cw_24m, cw_36m, cw_a12, cw_a3, nI_add, nI_1, pk_sub, nI_clamp, vp_in_nI, forall_eq, nI_leI, nI_ltI, nI_eq, true_implies, forall_const, not_true_eq_false, not_false_eq_true, false_implies, and_true, true_and, implies_true, and_self, reduceIte]
  exact br_c h0 (fun a => br_c (h1 a) (h2 a))
theorem ys_side {post : Int32 → Prop} {c s : Nat} {p : Int32} (hc : c < 8) (hs : s < 2) (es : si (2 * c + s) = p) (hne : ¬ si (2 * c) = si (2 * c + 1)) (H : post (nI s)) : wpY_sideOf post (h, sp, ch, yn, co, ba, ra, gu, se, on, si, st, la, pu, pb, sc, he, ou, yb, yl, yf, ya, ys, ye, zf, za, zs, ze, wy, pt, su, bb, bu) (nI c) p := by
  have : s = 0 ∨ s = 1 := by omega
  rcases this with rfl | rfl
  · exact ys_sideOf hc (fun _ => H) (fun a => absurd es a) (fun a => absurd es a)
  · exact ys_sideOf hc (fun a => absurd (a.trans es.symm) hne) (fun _ _ => H) (fun _ b => absurd es b)
theorem ys_now {post : Int32 → Prop} {c l : Nat} (hc : c < 8) (el : la c = nI l) (H : post (nI (12 * c + l))) : wpY_now post (h, sp, ch, yn, co, ba, ra, gu, se, on, si, st, la, pu, pb, sc, he, ou, yb, yl, yf, ya, ys, ye, zf, za, zs, ze, wy, pt, su, bb, bu) (nI c) := by
  simp (disch := omega) only [wpY_now, cw_m2, cw_m3, cw_m4, cw_m13, cw_2m, cw_3m, cw_12m, cw_24m, cw_36m, cw_a12, cw_a3, nI_add, nI_1, pk_sub, nI_clamp, vp_in_nI, el, forall_eq, nI_leI, nI_ltI, nI_eq, true_implies, forall_const, not_true_eq_false, not_false_eq_true, false_implies, and_true, true_and, implies_true, and_self, reduceIte]
  exact H
theorem ys_now1 {post : Int32 → Prop} {c l : Nat} (hc : c < 8) (el : la c = nI (l + 1)) (H : post (nI (12 * c + l + 1))) : wpY_now post (h, sp, ch, yn, co, ba, ra, gu, se, on, si, st, la, pu, pb, sc, he, ou, yb, yl, yf, ya, ys, ye, zf, za, zs, ze, wy, pt, su, bb, bu) (nI c) := ys_now hc el H
theorem ys_copy {post : SY → Prop} {s t : Nat} (hs : s < 288) (ht : t < 288) (H : post (h, sp, ch, yn, co, ba, ra, gu, se, on, si, st, la, pu, pb, sc, he, ou, yb, yl, upd yf t (yf s), upd ya t (ya s), upd ys t (ys s), upd ye t (ye s), zf, za, zs, ze, wy, pt, su, bb, bu)) : wpY_copy post (h, sp, ch, yn, co, ba, ra, gu, se, on, si, st, la, pu, pb, sc, he, ou, yb, yl, yf, ya, ys, ye, zf, za, zs, ze, wy, pt, su, bb, bu) (nI s) (nI t) := by
  simp (disch := omega) only [wpY_copy, cw_m2, cw_m3, cw_m4, cw_m13, cw_2m, cw_3m, cw_12m, cw_24m, cw_36m, cw_a12, cw_a3, nI_add, nI_1, pk_sub, nI_clamp, vp_in_nI, forall_eq, nI_leI, nI_ltI, nI_eq, true_implies, forall_const, not_true_eq_false, not_false_eq_true, false_implies, and_true, true_and, implies_true, and_self, reduceIte]
  exact H
theorem ys_change73 {post : SY → Prop} {o t n : Nat} (ho : o < t) (ht : t < 96) (hn : n ≤ 3) (en : yl o = nI n) (H : post (h, sp, ch, yn, co, ba, ra, gu, se, on, si, st, la, pu, pb, sc, he, ou, yb, yl, cw_cp2 yf yf (3 * o) (3 * t) n, cw_cp2 ya ya (3 * o) (3 * t) n, cw_cp2 ys ys (3 * o) (3 * t) n, cw_cp2 ye ye (3 * o) (3 * t) n, zf, za, zs, ze, wy, pt, su, bb, bu)) :
    ∀ d j, j + d = n → wY_change_73 post (nI o) (nI t) (d + 1) (nI j) h sp ch yn co ba ra gu se on si st la pu pb sc he ou yb yl (cw_cp2 yf yf (3 * o) (3 * t) j) (cw_cp2 ya ya (3 * o) (3 * t) j) (cw_cp2 ys ys (3 * o) (3 * t) j) (cw_cp2 ye ye (3 * o) (3 * t) j) zf za zs ze wy pt su bb bu := by
  intro d
  induction d with
  | zero =>
    intro j hj
    have : j = n := by omega
    subst this
    simp (disch := omega) only [wY_change_73, cw_m2, cw_m3, cw_m4, cw_m13, cw_2m, cw_3m, cw_12m, cw_24m, cw_36m, cw_a12, cw_a3, nI_add, nI_1, pk_sub, nI_clamp, vp_in_nI, en, Nat.le_refl, forall_eq, nI_leI, nI_ltI, nI_eq, true_implies, forall_const, not_true_eq_false, not_false_eq_true, false_implies, and_true, true_and, implies_true, and_self, reduceIte]
    exact H
  | succ d ih =>
    intro j hj
    have q : ¬ n ≤ j := by omega
    have := ih (j + 1) (by omega)
    rw [← cw_cpyS yf (show 3 * o + j < 3 * t by omega), ← cw_cpyS ya (show 3 * o + j < 3 * t by omega), ← cw_cpyS ys (show 3 * o + j < 3 * t by omega), ← cw_cpyS ye (show 3 * o + j < 3 * t by omega)] at this
    rw [wY_change_73]
    simp (disch := omega) only [cw_m2, cw_m3, cw_m4, cw_m13, cw_2m, cw_3m, cw_12m, cw_24m, cw_36m, cw_a12, cw_a3, nI_add, nI_1, pk_sub, nI_clamp, vp_in_nI, en, q, forall_eq, nI_leI, nI_ltI, nI_eq, true_implies, forall_const, not_true_eq_false, not_false_eq_true, false_implies, and_true, true_and, implies_true, and_self, reduceIte]
    exact ys_copy (by omega) (by omega) this
theorem ys_change {post : SY → Prop} {c l n : Nat} (hc : c < 8) (hl : l < 11) (el : la c = nI l) (hn : n ≤ 3) (en : yl (12 * c + l) = nI n)
    (H : post (h, sp, ch, yn, co, ba, ra, gu, se, on, si, st, upd la c (nI (l + 1)), pu, pb, sc, he, ou, cw_nb yb (12 * c + l) (12 * c + l + 1), upd yl (12 * c + l + 1) (nI n), cw_cp2 yf yf (3 * (12 * c + l)) (3 * (12 * c + l + 1)) n, cw_cp2 ya ya (3 * (12 * c + l)) (3 * (12 * c + l + 1)) n, cw_cp2 ys ys (3 * (12 * c + l)) (3 * (12 * c + l + 1)) n, cw_cp2 ye ye (3 * (12 * c + l)) (3 * (12 * c + l + 1)) n, zf, za, zs, ze, wy, pt, su, bb, bu)) : wpY_change post (h, sp, ch, yn, co, ba, ra, gu, se, on, si, st, la, pu, pb, sc, he, ou, yb, yl, yf, ya, ys, ye, zf, za, zs, ze, wy, pt, su, bb, bu) (nI c) := by
  unfold wpY_change
  dsimp only
  refine ys_now hc el ?_
  simp (disch := omega) only [cw_m2, cw_m3, cw_m4, cw_m13, cw_2m, cw_3m, cw_12m, cw_24m, cw_36m, cw_a12, cw_a3, nI_add, nI_1, pk_sub, nI_clamp, vp_in_nI, el, forall_eq, nI_leI, nI_ltI, nI_eq, true_implies, forall_const, not_true_eq_false, not_false_eq_true, false_implies, and_true, true_and, implies_true, and_self, reduceIte]
  refine ys_now1 (l := l) hc pk_us ?_
  simp (disch := omega) only [cw_m2, cw_m3, cw_m4, cw_m13, cw_2m, cw_3m, cw_12m, cw_24m, cw_36m, cw_a12, cw_a3, nI_add, nI_1, pk_sub, nI_clamp, vp_in_nI, en, pk_un, forall_eq, nI_leI, nI_ltI, nI_eq, true_implies, forall_const, not_true_eq_false, not_false_eq_true, false_implies, and_true, true_and, implies_true, and_self, reduceIte]
  refine ⟨n + 1, ?_⟩
  have := ys_change73 (post := post) (yl := upd yl (12 * c + l + 1) (nI n)) (yf := yf) (ya := ya) (ys := ys) (ye := ye) (show 12 * c + l < 12 * c + l + 1 by omega) (by omega) hn (by rw [pk_un (by omega)]; exact en) H n 0 (by omega)
  rw [cw_cp2_0, cw_cp2_0, cw_cp2_0, cw_cp2_0] at this
  exact this
theorem ys_end56 {post : SY → Prop} {t j m : Nat} (ht : t < 96) (hm : m ≤ 2) (en : yl t = nI m) (H : post (h, sp, ch, yn, co, ba, ra, gu, se, on, si, st, la, pu, pb, sc, he, ou, yb, yl, cw_shf yf (3 * t + j) (3 * t + m), cw_shf ya (3 * t + j) (3 * t + m), cw_shf ys (3 * t + j) (3 * t + m), cw_shf ye (3 * t + j) (3 * t + m), zf, za, zs, ze, wy, pt, su, bb, bu)) :
    ∀ d i, i + d = m → j ≤ i → wY_end_56 post (nI t) (d + 1) (nI (3 * t + i)) h sp ch yn co ba ra gu se on si st la pu pb sc he ou yb yl (cw_shf yf (3 * t + j) (3 * t + i)) (cw_shf ya (3 * t + j) (3 * t + i)) (cw_shf ys (3 * t + j) (3 * t + i)) (cw_shf ye (3 * t + j) (3 * t + i)) zf za zs ze wy pt su bb bu := by
  intro d
  induction d with
  | zero =>
    intro i hi _
    have : i = m := by omega
    subst this
    simp (disch := omega) only [wY_end_56, cw_m2, cw_m3, cw_m4, cw_m13, cw_2m, cw_3m, cw_12m, cw_24m, cw_36m, cw_a12, cw_a3, nI_add, nI_1, pk_sub, nI_clamp, vp_in_nI, en, Nat.le_refl, forall_eq, nI_leI, nI_ltI, nI_eq, true_implies, forall_const, not_true_eq_false, not_false_eq_true, false_implies, and_true, true_and, implies_true, and_self, reduceIte]
    exact H
  | succ d ih =>
    intro i hi hji
    have q : ¬ 3 * t + m ≤ 3 * t + i := by omega
    have := ih (i + 1) (by omega) (by omega)
    rw [← Nat.add_assoc, ← cw_shfS yf (show 3 * t + j ≤ 3 * t + i by omega), ← cw_shfS ya (show 3 * t + j ≤ 3 * t + i by omega), ← cw_shfS ys (show 3 * t + j ≤ 3 * t + i by omega), ← cw_shfS ye (show 3 * t + j ≤ 3 * t + i by omega)] at this
    rw [wY_end_56]
    simp (disch := omega) only [cw_m2, cw_m3, cw_m4, cw_m13, cw_2m, cw_3m, cw_12m, cw_24m, cw_36m, cw_a12, cw_a3, nI_add, nI_1, pk_sub, nI_clamp, vp_in_nI, en, q, forall_eq, nI_leI, nI_ltI, nI_eq, true_implies, forall_const, not_true_eq_false, not_false_eq_true, false_implies, and_true, true_and, implies_true, and_self, reduceIte]
    exact ys_copy (by omega) (by omega) this
theorem ys_end {post : SY → Prop} {c l j s m : Nat} (hc : c < 8) (hl : l < 11) (el : la c = nI l) (hj : j ≤ m) (hm : m ≤ 2) (hs : s < 2) (en : yl (12 * c + l) = nI (m + 1))
    (H : post (h, sp, ch, yn, co, ba, ra, gu, se, on, si, st, upd la c (nI (l + 1)), pu, pb, sc, he, ou, upd (cw_nb yb (12 * c + l) (12 * c + l + 1)) (2 * (12 * c + l + 1) + s) (cw_nb yb (12 * c + l) (12 * c + l + 1) (2 * (12 * c + l + 1) + s) + ya (3 * (12 * c + l) + j)), upd (upd yl (12 * c + l + 1) (nI (m + 1))) (12 * c + l + 1) (nI m), cw_shf (cw_cp2 yf yf (3 * (12 * c + l)) (3 * (12 * c + l + 1)) (m + 1)) (3 * (12 * c + l + 1) + j) (3 * (12 * c + l + 1) + m), cw_shf (cw_cp2 ya ya (3 * (12 * c + l)) (3 * (12 * c + l + 1)) (m + 1)) (3 * (12 * c + l + 1) + j) (3 * (12 * c + l + 1) + m), cw_shf (cw_cp2 ys ys (3 * (12 * c + l)) (3 * (12 * c + l + 1)) (m + 1)) (3 * (12 * c + l + 1) + j) (3 * (12 * c + l + 1) + m), cw_shf (cw_cp2 ye ye (3 * (12 * c + l)) (3 * (12 * c + l + 1)) (m + 1)) (3 * (12 * c + l + 1) + j) (3 * (12 * c + l + 1) + m), zf, za, zs, ze, wy, pt, su, bb, bu)) : wpY_end post (h, sp, ch, yn, co, ba, ra, gu, se, on, si, st, la, pu, pb, sc, he, ou, yb, yl, yf, ya, ys, ye, zf, za, zs, ze, wy, pt, su, bb, bu) (nI c) (nI j) (nI s) := by
  unfold wpY_end
  dsimp only
  refine ys_change hc hl el (by omega) en ?_
  dsimp only
  refine ys_now1 (l := l) hc pk_us ?_
  have e1 : cw_cp2 ya ya (3 * (12 * c + l)) (3 * (12 * c + l + 1)) (m + 1) (3 * (12 * c + l + 1) + j) = ya (3 * (12 * c + l) + j) := cw_cp2_in _ _ (by omega)
  simp (disch := omega) only [cw_m2, cw_m3, cw_m4, cw_m13, cw_2m, cw_3m, cw_12m, cw_24m, cw_36m, cw_a12, cw_a3, nI_add, nI_1, pk_sub, nI_clamp, vp_in_nI, e1, pk_us, nI_pred, forall_eq, nI_leI, nI_ltI, nI_eq, true_implies, forall_const, not_true_eq_false, not_false_eq_true, false_implies, and_true, true_and, implies_true, and_self, reduceIte]
  have := ys_end56 (post := post) (t := 12 * c + l + 1) (j := j) (yl := upd (upd yl (12 * c + l + 1) (nI (m + 1))) (12 * c + l + 1) (nI m)) (by omega) hm pk_us H (m - j) j (by omega) (Nat.le_refl _)
  rw [cw_shfE _ (Nat.le_refl _), cw_shfE _ (Nat.le_refl _), cw_shfE _ (Nat.le_refl _), cw_shfE _ (Nat.le_refl _)] at this
  exact ⟨_, this⟩
theorem ys_show116 {post : SY → Prop} {c o n : Nat} (hc : c < 8) (ho : o < 96) (hn : n ≤ 3) (en : yl o = nI n) (H : post (h, sp, ch, yn, co, ba, ra, gu, se, on, si, st, la, pu, pb, sc, he, ou, yb, yl, yf, ya, ys, ye, cw_cp2 yf zf (3 * o) (3 * c) n, cw_cp2 ya za (3 * o) (3 * c) n, cw_cp2 ys zs (3 * o) (3 * c) n, cw_cp2 ye ze (3 * o) (3 * c) n, wy, pt, su, bb, bu)) :
    ∀ d j, j + d = n → wY_show_116 post (nI c) (nI o) h sp ch yn (d + 1) (nI j) co ba ra gu se on si st la pu pb sc he ou yb yl yf ya ys ye (cw_cp2 yf zf (3 * o) (3 * c) j) (cw_cp2 ya za (3 * o) (3 * c) j) (cw_cp2 ys zs (3 * o) (3 * c) j) (cw_cp2 ye ze (3 * o) (3 * c) j) wy pt su bb bu := by
  intro d
  induction d with
  | zero =>
    intro j hj
    have : j = n := by omega
    subst this
    simp (disch := omega) only [wY_show_116, cw_m2, cw_m3, cw_m4, cw_m13, cw_2m, cw_3m, cw_12m, cw_24m, cw_36m, cw_a12, cw_a3, nI_add, nI_1, pk_sub, nI_clamp, vp_in_nI, en, Nat.le_refl, forall_eq, nI_leI, nI_ltI, nI_eq, true_implies, forall_const, not_true_eq_false, not_false_eq_true, false_implies, and_true, true_and, implies_true, and_self, reduceIte]
    exact H
  | succ d ih =>
    intro j hj
    have q : ¬ n ≤ j := by omega
    have := ih (j + 1) (by omega)
    rw [← cw_cp2_S yf zf, ← cw_cp2_S ya za, ← cw_cp2_S ys zs, ← cw_cp2_S ye ze] at this
    rw [wY_show_116]
    simp (disch := omega) only [cw_m2, cw_m3, cw_m4, cw_m13, cw_2m, cw_3m, cw_12m, cw_24m, cw_36m, cw_a12, cw_a3, nI_add, nI_1, pk_sub, nI_clamp, vp_in_nI, en, q, forall_eq, nI_leI, nI_ltI, nI_eq, true_implies, forall_const, not_true_eq_false, not_false_eq_true, false_implies, and_true, true_and, implies_true, and_self, reduceIte]
    exact this
theorem ys_show {post : SY → Prop} {c s k a n : Nat} {p : Int32} (hc : c < 8) (hs : s < 2) (hk : k < 12) (ha : a < 6) (ea : si (2 * c + 1 - s) = nI a) (es : si (2 * c + s) = p) (hne : ¬ si (2 * c) = si (2 * c + 1)) (hn : n ≤ 3) (en : yl (12 * c + k) = nI n)
    (H : post (h, sp, ch, yn, upd co a (co a + yb (2 * (12 * c + k) + 1 - s)), ba, ra, gu, se, on, si, upd st c 1, la, upd pu c (nI k), upd pb c p, upd sc c h, upd he c (yb (2 * (12 * c + k) + s)), upd ou c (nI n), yb, yl, yf, ya, ys, ye, cw_cp2 yf zf (3 * (12 * c + k)) (3 * c) n, cw_cp2 ya za (3 * (12 * c + k)) (3 * c) n, cw_cp2 ys zs (3 * (12 * c + k)) (3 * c) n, cw_cp2 ye ze (3 * (12 * c + k)) (3 * c) n, wy, pt, su, bb, bu)) :
    wpY_show post (h, sp, ch, yn, co, ba, ra, gu, se, on, si, st, la, pu, pb, sc, he, ou, yb, yl, yf, ya, ys, ye, zf, za, zs, ze, wy, pt, su, bb, bu) p (nI c) (nI k) := by
  simp (disch := omega) only [wpY_show, cw_m2, cw_m3, cw_m4, cw_m13, cw_2m, cw_3m, cw_12m, cw_24m, cw_36m, cw_a12, cw_a3, nI_add, nI_1, pk_sub, nI_clamp, vp_in_nI, forall_eq, nI_leI, nI_ltI, nI_eq, true_implies, forall_const, not_true_eq_false, not_false_eq_true, false_implies, and_true, true_and, implies_true, and_self, reduceIte]
  refine ys_side hc hs es hne ?_
  simp (disch := omega) only [cw_m2, cw_m3, cw_m4, cw_m13, cw_2m, cw_3m, cw_12m, cw_24m, cw_36m, cw_a12, cw_a3, nI_add, nI_1, pk_sub, nI_clamp, vp_in_nI, ea, en, forall_eq, nI_leI, nI_ltI, nI_eq, true_implies, forall_const, not_true_eq_false, not_false_eq_true, false_implies, and_true, true_and, implies_true, and_self, reduceIte]
  refine ⟨n + 1, ?_⟩
  have := ys_show116 (post := post) (c := c) (o := 12 * c + k) (yf := yf) (ya := ya) (ys := ys) (ye := ye) (zf := zf) (za := za) (zs := zs) (ze := ze) hc (by omega) hn en H n 0 (by omega)
  rw [cw_cp2_0, cw_cp2_0, cw_cp2_0, cw_cp2_0] at this
  exact this
end YW
end
section
/-! part 08: what the steps of a turn do to the relation's parts: pure -/
section INV
variable {h sp ch bl yn : Int32} {co on ba ra gu se si st la pu ps sc he xb xc xi xf xa xe tc ts ta bc bs bm pb ou yb yl yf ya ys ye zf za zs ze wy pt su bb bu : Nat → Int32}
theorem cw_E_la (hE : cw_E st la ps pb si) {c l : Nat} (hl : l < 12) : cw_E st (upd la c (nI l)) ps pb si := by
  intro c' hc'
  refine ⟨?_, (hE c' hc').2⟩
  by_cases e : c' = c
  · subst e
    exact ⟨l, hl, pk_us⟩
  · rw [pk_un e]
    exact (hE c' hc').1
theorem cw_F_nb (hF : cw_F xb yb) {c l : Nat} (hc : c < 8) (hl : l < 11) : cw_F (cw_nb xb (13 * c + l) (13 * c + l + 1)) (cw_nb yb (12 * c + l) (12 * c + l + 1)) := by
  unfold cw_nb
  refine cw_F_put (c := c) (k := l + 1) (s := 1) (cw_F_put (c := c) (k := l + 1) (s := 0) hF hc (by omega) (by omega) (by omega) (by omega) (hF c l 0 hc (by omega) (by omega))) hc (by omega) (by omega) (by omega) (by omega) (hF c l 1 hc (by omega) (by omega))
theorem cw_F_end (hF : cw_F xb yb) {c l s : Nat} {z : Int32} (hc : c < 8) (hl : l < 11) (hs : s < 2) : cw_F (upd (cw_nb xb (13 * c + l) (13 * c + l + 1)) (2 * (13 * c + l + 1) + s) (cw_nb xb (13 * c + l) (13 * c + l + 1) (2 * (13 * c + l + 1) + s) + z)) (upd (cw_nb yb (12 * c + l) (12 * c + l + 1)) (2 * (12 * c + l + 1) + s) (cw_nb yb (12 * c + l) (12 * c + l + 1) (2 * (12 * c + l + 1) + s) + z)) := by
  have h := cw_F_nb hF hc hl
  refine cw_F_put (c := c) (k := l + 1) (s := s) h hc (by omega) hs (by omega) (by omega) ?_
  rw [show 2 * (12 * c + l + 1) + s = 2 * (12 * c + (l + 1)) + s by omega, h c (l + 1) s hc (by omega) hs, show 2 * (13 * c + (l + 1)) + s = 2 * (13 * c + l + 1) + s by omega]
theorem cw_G_end (hG : cw_G sp xf xa xe xc xi yl yf ya ys ye) {c l j m : Nat} (hc : c < 8) (hl : l < 11) (hj : j ≤ m) (hm : m ≤ 2) (en : xc (13 * c + l) = nI (m + 1)) :
    cw_G sp xf xa xe (upd (upd xc (13 * c + l + 1) (xc (13 * c + l))) (13 * c + l + 1) (nI m)) (cw_shf (cw_cp2 xi xi (3 * (13 * c + l)) (3 * (13 * c + l + 1)) 3) (3 * (13 * c + l + 1) + j) (3 * (13 * c + l + 1) + 2)) (upd (upd yl (12 * c + l + 1) (nI (m + 1))) (12 * c + l + 1) (nI m))
      (cw_shf (cw_cp2 yf yf (3 * (12 * c + l)) (3 * (12 * c + l + 1)) (m + 1)) (3 * (12 * c + l + 1) + j) (3 * (12 * c + l + 1) + m)) (cw_shf (cw_cp2 ya ya (3 * (12 * c + l)) (3 * (12 * c + l + 1)) (m + 1)) (3 * (12 * c + l + 1) + j) (3 * (12 * c + l + 1) + m))
      (cw_shf (cw_cp2 ys ys (3 * (12 * c + l)) (3 * (12 * c + l + 1)) (m + 1)) (3 * (12 * c + l + 1) + j) (3 * (12 * c + l + 1) + m)) (cw_shf (cw_cp2 ye ye (3 * (12 * c + l)) (3 * (12 * c + l + 1)) (m + 1)) (3 * (12 * c + l + 1) + j) (3 * (12 * c + l + 1) + m)) := by
  have hr := hG c l hc (by omega)
  rw [en] at hr
  refine cw_G_put hG (c0 := c) (k0 := l + 1) hc (by omega) (fun i hi => by rw [pk_un (by omega), pk_un (by omega)]) (fun i hi => by rw [pk_un (by omega), pk_un (by omega)])
    (fun i hi => by rw [cw_shf_out _ (by omega) (by omega), cw_cp2_out _ _ (by omega) (by omega)])
    (fun i hi => ⟨by rw [cw_shf_out _ (by omega) (by omega), cw_cp2_out _ _ (by omega) (by omega)], by rw [cw_shf_out _ (by omega) (by omega), cw_cp2_out _ _ (by omega) (by omega)], by rw [cw_shf_out _ (by omega) (by omega), cw_cp2_out _ _ (by omega) (by omega)], by rw [cw_shf_out _ (by omega) (by omega), cw_cp2_out _ _ (by omega) (by omega)]⟩) ?_
  rw [pk_us' (show 13 * c + (l + 1) = 13 * c + l + 1 by omega), pk_us' (show 12 * c + (l + 1) = 12 * c + l + 1 by omega)]
  exact cw_Row_rem (j0 := j) hr (by omega) (fun i hi => cw_rem_cp xi (by omega) (by omega)) (fun i hi => cw_rem_cp yf (by omega) (by omega)) (fun i hi => cw_rem_cp ya (by omega) (by omega)) (fun i hi => cw_rem_cp ys (by omega) (by omega)) (fun i hi => cw_rem_cp ye (by omega) (by omega))
theorem cw_O_end (hO : cw_O sp xf xa xe xc xi st ou zf za zs ze) {c l j m : Nat} (hc : c < 8) (hl : l < 11) (hj : j ≤ 2) :
    cw_O sp xf xa xe (upd (upd xc (13 * c + l + 1) (xc (13 * c + l))) (13 * c + l + 1) (nI m)) (cw_shf (cw_cp2 xi xi (3 * (13 * c + l)) (3 * (13 * c + l + 1)) 3) (3 * (13 * c + l + 1) + j) (3 * (13 * c + l + 1) + 2)) st ou zf za zs ze :=
  cw_O_frame hO (fun c' hc' => by rw [pk_un (by omega), pk_un (by omega)]) (fun c' i hc' hi => by rw [cw_shf_out _ (by omega) (by omega), cw_cp2_out _ _ (by omega) (by omega)])
theorem cw_G_show (hG : cw_G sp xf xa xe xc xi yl yf ya ys ye) {c k : Nat} {z : Int32} (hc : c < 8) : cw_G sp xf xa xe (upd xc (13 * c + 12) z) (cw_cp2 xi xi (3 * (13 * c + k)) (3 * (13 * c + 12)) 3) yl yf ya ys ye :=
  cw_G_frame hG (fun c' k' hc' hk' => by rw [pk_un (by omega)]) (fun c' k' i hc' hk' hi => by rw [cw_cp2_out _ _ (by omega) (by omega)])
theorem cw_O_show (hG : cw_G sp xf xa xe xc xi yl yf ya ys ye) (hO : cw_O sp xf xa xe xc xi st ou zf za zs ze) {c k n : Nat} (hc : c < 8) (hk : k < 12) (hn : n ≤ 3) (en : xc (13 * c + k) = nI n) :
    cw_O sp xf xa xe (upd xc (13 * c + 12) (xc (13 * c + k))) (cw_cp2 xi xi (3 * (13 * c + k)) (3 * (13 * c + 12)) 3) (upd st c 1) (upd ou c (nI n)) (cw_cp2 yf zf (3 * (12 * c + k)) (3 * c) n) (cw_cp2 ya za (3 * (12 * c + k)) (3 * c) n) (cw_cp2 ys zs (3 * (12 * c + k)) (3 * c) n) (cw_cp2 ye ze (3 * (12 * c + k)) (3 * c) n) := by
  refine cw_O_put hO hc (fun i hi => pk_un hi) (fun i hi => pk_un hi) (fun i hi => pk_un hi) (fun i hi => cw_cp2_out _ _ (by omega) (by omega)) (fun i hi => ⟨cw_cp2_out _ _ (by omega) (by omega), cw_cp2_out _ _ (by omega) (by omega), cw_cp2_out _ _ (by omega) (by omega), cw_cp2_out _ _ (by omega) (by omega)⟩) ⟨?_, ?_⟩
  · rw [pk_us, pk_us]
    have hr := hG c k hc hk
    have hy : yl (12 * c + k) = nI n := by
      obtain ⟨m, hm, e1, e2, _⟩ := hr
      rw [e2, ← e1, en]
    rw [hy] at hr
    refine cw_Row_move hr (fun j hj => cw_cp2_in _ _ hj) (fun j m hj hm e => ?_)
    rw [en] at e
    have : n = m := (nI_eq (by omega) (by omega)).mp e
    subst this
    exact ⟨cw_cp2_in _ _ hj, cw_cp2_in _ _ hj, cw_cp2_in _ _ hj, cw_cp2_in _ _ hj⟩
  · intro z
    rw [pk_us] at z
    exact absurd rfl z
theorem cw_E_show (hE : cw_E st la ps pb si) {c s : Nat} (hs : s < 2) : cw_E (upd st c 1) la (upd ps c (nI s)) (upd pb c (si (2 * c + s))) si := by
  intro c' hc'
  by_cases e : c' = c
  · subst e
    rw [pk_us, pk_us, pk_us]
    exact ⟨(hE c' hc').1, Or.inr (Or.inl rfl), s, hs, rfl, fun _ => rfl⟩
  · rw [pk_un e, pk_un e, pk_un e]
    exact hE c' hc'
theorem cw_S_show {H c : Nat} (hS : cw_S H sc) : cw_S H (upd sc c (nI H)) := by
  intro c' hc'
  by_cases e : c' = c
  · subst e
    exact ⟨H, Nat.le_refl _, pk_us⟩
  · rw [pk_un e]
    exact hS c' hc'
theorem cw_Z_put {C c : Nat} {z : Int32} (hZ : cw_Z C st) (hc : c < C) : cw_Z C (upd st c z) := by
  intro c' h1 h2
  rw [pk_un (by omega)]
  exact hZ c' h1 h2
end INV
end
section
/-! part 09: the two turns in step -/
section TURN
variable {h sp ch bl yn : Int32} {co on ba ra gu se si st la pu ps sc he xb xc xi xf xa xe tc ts ta bc bs bm pb ou yb yl yf ya ys ye zf za zs ze wy pt su bb bu : Nat → Int32}
def cw_st (u : SX) : Nat → Int32 := match u with
  | (h, sp, ch, bl, co, on, ba, ra, gu, se, si, st, la, pu, ps, sc, he, xb, xc, xi, xf, xa, xe, tc, ts, ta, bc, bs, bm) => st
def cw_cn (u : SX) (c : Nat) : Nat := match u with
  | (h, sp, ch, bl, co, on, ba, ra, gu, se, si, st, la, pu, ps, sc, he, xb, xc, xi, xf, xa, xe, tc, ts, ta, bc, bs, bm) => (xc (13 * c + (la c).toNatClampNeg)).toNatClampNeg
theorem ls_show {H C : Nat} {u : SX} {v : SY} (hB : cw_B C si) (t : cw_T H C sp on ba ra gu si xf xa xe u v) {c s k : Nat} (hc : c < C) (hs : s < 2) (hk : k < 12) :
    ∃ u' v', cw_T H C sp on ba ra gu si xf xa xe u' v' ∧ cw_st u' c = 1 ∧ (∀ post : SX → Prop, post u' → wpX_putOnChain post u (nI c) (nI s) (nI k)) ∧ (∀ post : SY → Prop, post v' → wpY_show post v (si (2 * c + s)) (nI c) (nI k)) := by
  obtain ⟨hC, hsi, hne⟩ := hB
  obtain ⟨bl, yn, co, se, st, la, pu, ps, sc, he, xb, xc, xi, tc, ts, ta, bc, bs, bm, pb, ou, yb, yl, yf, ya, ys, ye, zf, za, zs, ze, wy, pt, su, bb, bu, rfl, rfl, hS, hE, hF, hG, hO, hZ⟩ := t
  obtain ⟨a, ha, ea⟩ := hsi (2 * c + 1 - s) (by omega)
  obtain ⟨n, hn, e1, e2, _⟩ := hG c k (by omega) hk
  have eb0 : yb (2 * (12 * c + k) + s) = xb (2 * (13 * c + k) + s) := hF c k s (by omega) hk hs
  have eb1 : yb (2 * (12 * c + k) + 1 - s) = xb (2 * (13 * c + k) + 1 - s) := by
    have := hF c k (1 - s) (by omega) hk (by omega)
    rwa [show 2 * (12 * c + k) + (1 - s) = 2 * (12 * c + k) + 1 - s by omega, show 2 * (13 * c + k) + (1 - s) = 2 * (13 * c + k) + 1 - s by omega] at this
  refine ⟨_, _, ⟨bl, yn, _, se, _, la, _, _, _, _, xb, _, _, tc, ts, ta, bc, bs, bm, _, _, yb, yl, yf, ya, ys, ye, _, _, _, _, wy, pt, su, bb, bu, rfl, rfl, cw_S_show hS, cw_E_show hE hs, hF, cw_G_show hG (by omega), cw_O_show hG hO (by omega) hk hn e1, cw_Z_put hZ hc⟩, ?_, fun post hp => xs_put (by omega) hs hk ha ea hp, fun post hp => ?_⟩
  · show upd st c 1 c = 1
    exact pk_us
  · refine ys_show (by omega) hs hk ha ea rfl (hne c hc) hn e2 ?_
    rw [eb0, eb1]
    exact hp
theorem ls_fail {H C c l j L s m : Nat} (hZ : cw_Z C st) (hS : cw_S H sc) (hE : cw_E st la ps pb si) (hF : cw_F xb yb) (hG : cw_G sp xf xa xe xc xi yl yf ya ys ye) (hO : cw_O sp xf xa xe xc xi st ou zf za zs ze)
    (hc : c < 8) (hl : l < 11) (el : la c = nI l) (hj : j ≤ m) (hm : m ≤ 2) (hs : s < 2) (eL : xi (3 * (13 * c + l) + j) = nI L) (hL : L < 64) (ef : xf L = nI s) (en : xc (13 * c + l) = nI (m + 1)) (ey : yl (12 * c + l) = nI (m + 1)) (ea : ya (3 * (12 * c + l) + j) = xa L) :
    ∃ u' v', cw_T H C sp on ba ra gu si xf xa xe u' v' ∧ cw_st u' c = st c ∧ cw_cn u' c = m ∧ (∀ post : SX → Prop, post u' → wpX_endLock post (nI H, sp, nI C, bl, co, on, ba, ra, gu, se, si, st, la, pu, ps, sc, he, xb, xc, xi, xf, xa, xe, tc, ts, ta, bc, bs, bm) (nI c) (nI j) 2) ∧ (∀ post : SY → Prop, post v' → wpY_end post (nI H, sp, nI C, yn, co, ba, ra, gu, se, on, si, st, la, pu, pb, sc, he, ou, yb, yl, yf, ya, ys, ye, zf, za, zs, ze, wy, pt, su, bb, bu) (nI c) (nI j) (nI s)) := by
  refine ⟨_, _, ⟨bl, yn, co, se, st, _, pu, ps, sc, he, _, _, _, tc, ts, ta, bc, bs, bm, pb, ou, _, _, _, _, _, _, zf, za, zs, ze, wy, pt, su, bb, bu, rfl, rfl, hS, cw_E_la hE (l := l + 1) (c := c) (by omega), cw_F_end hF (z := xa L) hc hl hs, cw_G_end hG hc hl hj hm en, cw_O_end hO (m := m) hc hl (by omega), hZ⟩, rfl, ?_, fun post hp => xs_end2 hc hl el (by omega) eL hL ef hs en hp, fun post hp => ys_end hc hl el hj hm hs ey ?_⟩
  · show (upd (upd xc (13 * c + l + 1) (xc (13 * c + l))) (13 * c + l + 1) (nI m) (13 * c + (upd la c (nI (l + 1)) c).toNatClampNeg)).toNatClampNeg = m
    rw [pk_us, nI_clamp (by omega), pk_us' (by omega), nI_clamp (by omega)]
  · rw [ea]
    exact hp
theorem ls_settle {H C c l j L s m a : Nat} (hZ : cw_Z C st) (hS : cw_S H sc) (hE : cw_E st la ps pb si) (hF : cw_F xb yb) (hG : cw_G sp xf xa xe xc xi yl yf ya ys ye) (hO : cw_O sp xf xa xe xc xi st ou zf za zs ze)
    (hc : c < 8) (hl : l < 11) (el : la c = nI l) (hj : j ≤ m) (hm : m ≤ 2) (hs : s < 2) (eL : xi (3 * (13 * c + l) + j) = nI L) (hL : L < 64) (ef : xf L = nI (1 - s)) (en : xc (13 * c + l) = nI (m + 1)) (ey : yl (12 * c + l) = nI (m + 1)) (ea : ya (3 * (12 * c + l) + j) = xa L)
    (ha : a < 6) (eo : si (2 * c + (1 - s)) = nI a) :
    ∃ u' v', cw_T H C sp on ba ra gu si xf xa xe u' v' ∧ cw_st u' c = st c ∧ cw_cn u' c = m ∧ (∀ post : SX → Prop, post u' → wpX_endLock post (nI H, sp, nI C, bl, co, on, ba, ra, gu, se, si, st, la, pu, ps, sc, he, xb, xc, xi, xf, xa, xe, tc, ts, ta, bc, bs, bm) (nI c) (nI j) 1) ∧ (∀ post : SY → Prop, post v' → wpY_end post (nI H, sp, nI C, yn, co, ba, ra, gu, upd se a (se a ||| ((1 : Int32) <<< (nI (L / 4) &&& 31))), on, si, st, la, pu, pb, sc, he, ou, yb, yl, yf, ya, ys, ye, zf, za, zs, ze, wy, pt, su, bb, bu) (nI c) (nI j) (nI s)) := by
  refine ⟨_, _, ⟨bl, yn, co, upd se a (se a ||| ((1 : Int32) <<< (nI (L / 4) &&& 31))), st, _, pu, ps, sc, he, _, _, _, tc, ts, ta, bc, bs, bm, pb, ou, _, _, _, _, _, _, zf, za, zs, ze, wy, pt, su, bb, bu, rfl, rfl, hS, cw_E_la hE (l := l + 1) (c := c) (by omega), cw_F_end hF (z := xa L) hc hl hs, cw_G_end hG hc hl hj hm en, cw_O_end hO (m := m) hc hl (by omega), hZ⟩, rfl, ?_, fun post hp => xs_end1 hc hl el (by omega) eL hL ef (by omega) en ha eo ?_, fun post hp => ys_end hc hl el hj hm hs ey ?_⟩
  · show (upd (upd xc (13 * c + l + 1) (xc (13 * c + l))) (13 * c + l + 1) (nI m) (13 * c + (upd la c (nI (l + 1)) c).toNatClampNeg)).toNatClampNeg = m
    rw [pk_us, nI_clamp (by omega), pk_us' (by omega), nI_clamp (by omega)]
  · rw [show 2 * (13 * c + l + 1) + 1 - (1 - s) = 2 * (13 * c + l + 1) + s by omega]
    exact hp
  · rw [ea]
    exact hp
theorem ls_act {H C : Nat} {u : SX} {v : SY} (hB : cw_B C si) (t : cw_T H C sp on ba ra gu si xf xa xe u v) {c s : Nat} (hc : c < C) (hs : s < 2) (h0 : cw_st u c = 0) :
    ∃ (u' : SX) (v' : SY) (r : Int32), cw_T H C sp on ba ra gu si xf xa xe u' v' ∧ ((r = 0 ∧ u' = u ∧ v' = v) ∨ (r = 1 ∧ 0 < cw_cn u c ∧ (cw_st u' c = 1 ∨ (cw_st u' c = 0 ∧ cw_cn u' c < cw_cn u c)))) ∧
      (∀ post : SX → Prop, post u' → wpX_actOnFirstDue post u (nI c) (nI s)) ∧ (∀ post : Int32 → SY → Prop, post r v' → wpY_act post v (si (2 * c + s)) (nI c)) := by
  have t0 := t
  have hB0 := hB
  obtain ⟨hC, hsi, hne⟩ := hB
  obtain ⟨bl, yn, co, se, st, la, pu, ps, sc, he, xb, xc, xi, tc, ts, ta, bc, bs, bm, pb, ou, yb, yl, yf, ya, ys, ye, zf, za, zs, ze, wy, pt, su, bb, bu, rfl, rfl, hS, hE, hF, hG, hO, hZ⟩ := t
  have h0' : st c = 0 := h0
  obtain ⟨a, ha, ea⟩ := hsi (2 * c + s) (by omega)
  obtain ⟨b, hb, eb⟩ := hsi (2 * c + (1 - s)) (by omega)
  obtain ⟨l, hl, el⟩ := (hE c (by omega)).1
  obtain ⟨n, hn, e1, e2, hrow⟩ := hG c l (by omega) hl
  have ecn : cw_cn (nI H, sp, nI C, bl, co, on, ba, ra, gu, se, si, st, la, pu, ps, sc, he, xb, xc, xi, xf, xa, xe, tc, ts, ta, bc, bs, bm) c = n := by
    show (xc (13 * c + (la c).toNatClampNeg)).toNatClampNeg = n
    rw [el, nI_clamp (by omega), e1, nI_clamp (by omega)]
  have hz : ∃ z : Int32, (cw_can st la on si c ∧ z = 1) ∨ (¬ cw_can st la on si c ∧ z = 0) := by
    by_cases q : cw_can st la on si c
    · exact ⟨1, Or.inl ⟨q, rfl⟩⟩
    · exact ⟨0, Or.inr ⟨q, rfl⟩⟩
  obtain ⟨z, hz⟩ := hz
  have key : ∀ d j, j + d = n → ∃ (u' : SX) (v' : SY) (r : Int32), cw_T H C sp on ba ra gu si xf xa xe u' v' ∧ ((r = 0 ∧ u' = (nI H, sp, nI C, bl, co, on, ba, ra, gu, se, si, st, la, pu, ps, sc, he, xb, xc, xi, xf, xa, xe, tc, ts, ta, bc, bs, bm) ∧ v' = (nI H, sp, nI C, yn, co, ba, ra, gu, se, on, si, st, la, pu, pb, sc, he, ou, yb, yl, yf, ya, ys, ye, zf, za, zs, ze, wy, pt, su, bb, bu)) ∨ (r = 1 ∧ 0 < n ∧ (cw_st u' c = 1 ∨ (cw_st u' c = 0 ∧ cw_cn u' c < n)))) ∧
      (∀ post : SX → Prop, post u' → wX_actOnFirstDue_15 post (nI c) (nI s) (nI (13 * c + l)) (d + 1) (nI j) (nI H) sp (nI C) bl co on ba ra gu se si st la pu ps sc he xb xc xi xf xa xe tc ts ta bc bs bm) ∧
      (∀ post : Int32 → SY → Prop, post r v' → wY_act_24 post (nI a) (nI c) (nI s) (nI (12 * c + l)) z (nI H) sp (nI C) yn co ba ra gu se on si st la pu pb sc he ou yb yl yf ya ys ye zf za zs ze wy pt su bb bu (d + 1) (nI j)) := by
    intro d
    induction d with
    | zero =>
      intro j hj
      have hjn : j = n := by omega
      subst hjn
      refine ⟨_, _, 0, t0, Or.inl ⟨rfl, rfl, rfl⟩, fun post hp => ?_, fun post hp => ?_⟩
      · by_cases q : 3 ≤ j
        · simp (disch := omega) only [wX_actOnFirstDue_15, cw_le3, q, forall_eq, nI_leI, nI_ltI, nI_eq, true_implies, forall_const, not_true_eq_false, not_false_eq_true, false_implies, and_true, true_and, implies_true, and_self, reduceIte]
          exact hp
        · simp (disch := omega) only [wX_actOnFirstDue_15, cw_le3, q, cw_m2, cw_m3, cw_m4, cw_m13, cw_2m, cw_3m, cw_12m, cw_24m, cw_36m, cw_a12, cw_a3, nI_add, nI_1, pk_sub, nI_clamp, vp_in_nI, e1, Nat.le_refl, forall_eq, nI_leI, nI_ltI, nI_eq, true_implies, forall_const, not_true_eq_false, not_false_eq_true, false_implies, and_true, true_and, implies_true, and_self, reduceIte]
          exact hp
      · simp (disch := omega) only [wY_act_24, cw_m2, cw_m3, cw_m4, cw_m13, cw_2m, cw_3m, cw_12m, cw_24m, cw_36m, cw_a12, cw_a3, nI_add, nI_1, pk_sub, nI_clamp, vp_in_nI, e2, Nat.le_refl, forall_eq, nI_leI, nI_ltI, nI_eq, true_implies, forall_const, not_true_eq_false, not_false_eq_true, false_implies, and_true, true_and, implies_true, and_self, reduceIte]
        exact hp
    | succ d ih =>
      intro j hj
      obtain ⟨L, hL, ez, hbit, efx, h01, eax, esx, eex⟩ := hrow j (by omega)
      have q3 : ¬ 3 ≤ j := by omega
      have qn : ¬ n ≤ j := by omega
      obtain ⟨m, rfl⟩ : ∃ m, n = m + 1 := ⟨n - 1, by omega⟩
      have leave : (∀ P : Int32 → Prop, P 0 → wpX_dueAct P (nI H, sp, nI C, bl, co, on, ba, ra, gu, se, si, st, la, pu, ps, sc, he, xb, xc, xi, xf, xa, xe, tc, ts, ta, bc, bs, bm) (nI c) (nI s) (nI L)) →
          (∀ post : Int32 → SY → Prop, wY_act_24 post (nI a) (nI c) (nI s) (nI (12 * c + l)) z (nI H) sp (nI C) yn co ba ra gu se on si st la pu pb sc he ou yb yl yf ya ys ye zf za zs ze wy pt su bb bu (d + 1) (nI (j + 1)) → wY_act_24 post (nI a) (nI c) (nI s) (nI (12 * c + l)) z (nI H) sp (nI C) yn co ba ra gu se on si st la pu pb sc he ou yb yl yf ya ys ye zf za zs ze wy pt su bb bu (d + 1 + 1) (nI j)) →
          ∃ (u' : SX) (v' : SY) (r : Int32), cw_T H C sp on ba ra gu si xf xa xe u' v' ∧ ((r = 0 ∧ u' = (nI H, sp, nI C, bl, co, on, ba, ra, gu, se, si, st, la, pu, ps, sc, he, xb, xc, xi, xf, xa, xe, tc, ts, ta, bc, bs, bm) ∧ v' = (nI H, sp, nI C, yn, co, ba, ra, gu, se, on, si, st, la, pu, pb, sc, he, ou, yb, yl, yf, ya, ys, ye, zf, za, zs, ze, wy, pt, su, bb, bu)) ∨ (r = 1 ∧ 0 < m + 1 ∧ (cw_st u' c = 1 ∨ (cw_st u' c = 0 ∧ cw_cn u' c < m + 1)))) ∧
          (∀ post : SX → Prop, post u' → wX_actOnFirstDue_15 post (nI c) (nI s) (nI (13 * c + l)) (d + 1 + 1) (nI j) (nI H) sp (nI C) bl co on ba ra gu se si st la pu ps sc he xb xc xi xf xa xe tc ts ta bc bs bm) ∧
          (∀ post : Int32 → SY → Prop, post r v' → wY_act_24 post (nI a) (nI c) (nI s) (nI (12 * c + l)) z (nI H) sp (nI C) yn co ba ra gu se on si st la pu pb sc he ou yb yl yf ya ys ye zf za zs ze wy pt su bb bu (d + 1 + 1) (nI j)) := by
        intro hx hy
        obtain ⟨u', v', r, h1, h2, h3, h4⟩ := ih (j + 1) (by omega)
        refine ⟨u', v', r, h1, h2, fun post hp => ?_, fun post hp => hy post (h4 post hp)⟩
        rw [wX_actOnFirstDue_15]
        simp (disch := omega) only [cw_le3, q3, cw_m2, cw_m3, cw_m4, cw_m13, cw_2m, cw_3m, cw_12m, cw_24m, cw_36m, cw_a12, cw_a3, nI_add, nI_1, pk_sub, nI_clamp, vp_in_nI, e1, qn, ez, forall_eq, nI_leI, nI_ltI, nI_eq, true_implies, forall_const, not_true_eq_false, not_false_eq_true, false_implies, and_true, true_and, implies_true, and_self, reduceIte]
        refine hx _ (br_f (by decide) (br_t rfl ?_))
        unfold wX_actOnFirstDue_86
        exact br_t rfl (nm_r (nI_1 j) (h3 post hp))
      by_cases mi : xf L = nI s
      · by_cases e : xe L ≤ nI H
        · rcases hz with ⟨can, rfl⟩ | ⟨can, rfl⟩
          · have hl11 : l < 11 := by
              have := can.2
              rw [el] at this
              rcases Nat.lt_or_ge l 11 with q | q
              · exact q
              · exact absurd (nI_le q (by omega)) this
            obtain ⟨u', v', T', s', n', hx, hy⟩ := ls_fail (C := C) (on := on) (ba := ba) (ra := ra) (gu := gu) (co := co) (se := se) (pu := pu) (he := he) (bl := bl) (yn := yn) (tc := tc) (ts := ts) (ta := ta) (bc := bc) (bs := bs) (bm := bm) (wy := wy) (pt := pt) (su := su) (bb := bb) (bu := bu) hZ hS hE hF hG hO (show c < 8 by omega) hl11 el (show j ≤ m by omega) (by omega) hs ez hL mi e1 e2 eax
            refine ⟨u', v', 1, T', Or.inr ⟨rfl, by omega, Or.inr ⟨by rw [s']; exact h0', by omega⟩⟩, fun post hp => ?_, fun post hp => ?_⟩
            · rw [wX_actOnFirstDue_15]
              simp (disch := omega) only [cw_le3, q3, cw_m2, cw_m3, cw_m4, cw_m13, cw_2m, cw_3m, cw_12m, cw_24m, cw_36m, cw_a12, cw_a3, nI_add, nI_1, pk_sub, nI_clamp, vp_in_nI, e1, qn, ez, forall_eq, nI_leI, nI_ltI, nI_eq, true_implies, forall_const, not_true_eq_false, not_false_eq_true, false_implies, and_true, true_and, implies_true, and_self, reduceIte]
              refine xs_due (by omega) hs hL ha ea hsi (fun _ x => absurd e x) (fun _ _ _ => ?_) (fun _ _ x => absurd can x) (fun x => absurd mi x) (fun x => absurd mi x) (fun x => absurd mi x) (fun x => absurd mi x)
              refine br_f (by decide) (br_f (by decide) (hx _ ?_))
              obtain ⟨h, sp, ch, bl, co, on, ba, ra, gu, se, si, st, la, pu, ps, sc, he, xb, xc, xi, xf, xa, xe, tc, ts, ta, bc, bs, bm⟩ := u'
              exact br_f (by decide) hp
            · rw [wY_act_24]
              simp (disch := omega) only [wY_act_61, wY_act_128, wY_act_182, cw_m2, cw_m3, cw_m4, cw_m13, cw_2m, cw_3m, cw_12m, cw_24m, cw_36m, cw_a12, cw_a3, nI_add, nI_1, pk_sub, nI_clamp, vp_in_nI, e2, qn, efx, mi, eex, e, cw_n1, forall_eq, nI_leI, nI_ltI, nI_eq, true_implies, forall_const, not_true_eq_false, not_false_eq_true, false_implies, and_true, true_and, implies_true, and_self, reduceIte]
              refine hy _ ?_
              obtain ⟨h, sp, ch, yn, co, ba, ra, gu, se, on, si, st, la, pu, pb, sc, he, ou, yb, yl, yf, ya, ys, ye, zf, za, zs, ze, wy, pt, su, bb, bu⟩ := v'
              exact hp
          · obtain ⟨u', v', T', s', hx, hy⟩ := ls_show hB0 t0 hc hs hl
            rw [ea] at hy
            refine ⟨u', v', 1, T', Or.inr ⟨rfl, by omega, Or.inl s'⟩, fun post hp => ?_, fun post hp => ?_⟩
            · rw [wX_actOnFirstDue_15]
              simp (disch := omega) only [cw_le3, q3, cw_m2, cw_m3, cw_m4, cw_m13, cw_2m, cw_3m, cw_12m, cw_24m, cw_36m, cw_a12, cw_a3, nI_add, nI_1, pk_sub, nI_clamp, vp_in_nI, e1, qn, ez, el, forall_eq, nI_leI, nI_ltI, nI_eq, true_implies, forall_const, not_true_eq_false, not_false_eq_true, false_implies, and_true, true_and, implies_true, and_self, reduceIte]
              refine xs_due (by omega) hs hL ha ea hsi (fun _ x => absurd e x) (fun _ _ x => absurd x can) (fun _ _ _ => ?_) (fun x => absurd mi x) (fun x => absurd mi x) (fun x => absurd mi x) (fun x => absurd mi x)
              refine br_t rfl (hx _ ?_)
              obtain ⟨h, sp, ch, bl, co, on, ba, ra, gu, se, si, st, la, pu, ps, sc, he, xb, xc, xi, xf, xa, xe, tc, ts, ta, bc, bs, bm⟩ := u'
              exact br_f (by decide) hp
            · rw [wY_act_24]
              simp (disch := omega) only [wY_act_61, wY_act_128, wY_act_182, cw_m2, cw_m3, cw_m4, cw_m13, cw_2m, cw_3m, cw_12m, cw_24m, cw_36m, cw_a12, cw_a3, nI_add, nI_1, pk_sub, nI_clamp, vp_in_nI, e2, qn, efx, mi, eex, e, el, cw_n1, forall_eq, nI_leI, nI_ltI, nI_eq, true_implies, forall_const, not_true_eq_false, not_false_eq_true, false_implies, and_true, true_and, implies_true, and_self, reduceIte]
              refine hy _ ?_
              obtain ⟨h, sp, ch, yn, co, ba, ra, gu, se, on, si, st, la, pu, pb, sc, he, ou, yb, yl, yf, ya, ys, ye, zf, za, zs, ze, wy, pt, su, bb, bu⟩ := v'
              exact hp
        · refine leave (fun P hP => xs_due (by omega) hs hL ha ea hsi (fun _ _ => hP) (fun _ x => absurd x e) (fun _ x => absurd x e) (fun x => absurd mi x) (fun x => absurd mi x) (fun x => absurd mi x) (fun x => absurd mi x)) (fun post hp => ?_)
          rw [wY_act_24]
          simp (disch := omega) only [wY_act_61, cw_m2, cw_m3, cw_m4, cw_m13, cw_2m, cw_3m, cw_12m, cw_24m, cw_36m, cw_a12, cw_a3, nI_add, nI_1, pk_sub, nI_clamp, vp_in_nI, e2, qn, efx, mi, eex, e, cw_n1, forall_eq, nI_leI, nI_ltI, nI_eq, true_implies, forall_const, not_true_eq_false, not_false_eq_true, false_implies, and_true, true_and, implies_true, and_self, reduceIte]
          exact hp
      · by_cases bb' : bt (se a) (L / 4) = true
        · rcases hz with ⟨can, rfl⟩ | ⟨can, rfl⟩
          · have hl11 : l < 11 := by
              have := can.2
              rw [el] at this
              rcases Nat.lt_or_ge l 11 with q | q
              · exact q
              · exact absurd (nI_le q (by omega)) this
            have ef' : xf L = nI (1 - s) := by
              rw [← efx]
              rw [← efx] at mi
              have : s = 0 ∨ s = 1 := by omega
              rcases this with rfl | rfl <;> rcases h01 with q | q
              · exact absurd q mi
              · exact q
              · exact q
              · exact absurd q mi
            obtain ⟨u', v', T', s', n', hx, hy⟩ := ls_settle (C := C) (on := on) (ba := ba) (ra := ra) (gu := gu) (co := co) (se := se) (pu := pu) (he := he) (bl := bl) (yn := yn) (tc := tc) (ts := ts) (ta := ta) (bc := bc) (bs := bs) (bm := bm) (wy := wy) (pt := pt) (su := su) (bb := bb) (bu := bu) hZ hS hE hF hG hO (show c < 8 by omega) hl11 el (show j ≤ m by omega) (by omega) hs ez hL ef' e1 e2 eax hb eb
            refine ⟨u', v', 1, T', Or.inr ⟨rfl, by omega, Or.inr ⟨by rw [s']; exact h0', by omega⟩⟩, fun post hp => ?_, fun post hp => ?_⟩
            · rw [wX_actOnFirstDue_15]
              simp (disch := omega) only [cw_le3, q3, cw_m2, cw_m3, cw_m4, cw_m13, cw_2m, cw_3m, cw_12m, cw_24m, cw_36m, cw_a12, cw_a3, nI_add, nI_1, pk_sub, nI_clamp, vp_in_nI, e1, qn, ez, forall_eq, nI_leI, nI_ltI, nI_eq, true_implies, forall_const, not_true_eq_false, not_false_eq_true, false_implies, and_true, true_and, implies_true, and_self, reduceIte]
              refine xs_due (by omega) hs hL ha ea hsi (fun x => absurd x mi) (fun x => absurd x mi) (fun x => absurd x mi) (fun _ x => absurd bb' x) (fun _ _ _ => ?_) (fun _ _ x => absurd can x) (fun _ _ x => absurd can x)
              refine br_f (by decide) (br_f (by decide) (hx _ ?_))
              obtain ⟨h, sp, ch, bl, co, on, ba, ra, gu, se, si, st, la, pu, ps, sc, he, xb, xc, xi, xf, xa, xe, tc, ts, ta, bc, bs, bm⟩ := u'
              exact br_f (by decide) hp
            · have e3 : si (2 * c + 1 - s) = nI b := by rw [show 2 * c + 1 - s = 2 * c + (1 - s) by omega]; exact eb
              rw [wY_act_24]
              simp (disch := omega) only [wY_act_61, wY_act_128, wY_act_182, cw_m2, cw_m3, cw_m4, cw_m13, cw_2m, cw_3m, cw_12m, cw_24m, cw_36m, cw_a12, cw_a3, nI_add, nI_1, pk_sub, nI_clamp, vp_in_nI, e2, qn, efx, mi, esx, cw_bit0, bb', Bool.true_eq_false, e3, cw_n1, forall_eq, nI_leI, nI_ltI, nI_eq, true_implies, forall_const, not_true_eq_false, not_false_eq_true, false_implies, and_true, true_and, implies_true, and_self, reduceIte]
              refine hy _ ?_
              obtain ⟨h, sp, ch, yn, co, ba, ra, gu, se, on, si, st, la, pu, pb, sc, he, ou, yb, yl, yf, ya, ys, ye, zf, za, zs, ze, wy, pt, su, bb, bu⟩ := v'
              exact hp
          · by_cases e : nI H + 1 < xe L
            · refine leave (fun P hP => xs_due (by omega) hs hL ha ea hsi (fun x => absurd x mi) (fun x => absurd x mi) (fun x => absurd x mi) (fun _ x => absurd bb' x) (fun _ _ x => absurd x can) (fun _ _ _ _ => hP) (fun _ _ _ x => absurd e x)) (fun post hp => ?_)
              have e' : ¬ xe L ≤ nI H + 1 := Int32.not_le.mpr e
              rw [nI_1] at e'
              rw [wY_act_24]
              simp (disch := omega) only [wY_act_61, cw_m2, cw_m3, cw_m4, cw_m13, cw_2m, cw_3m, cw_12m, cw_24m, cw_36m, cw_a12, cw_a3, nI_add, nI_1, pk_sub, nI_clamp, vp_in_nI, e2, qn, efx, mi, esx, eex, cw_bit0, bb', Bool.true_eq_false, e', cw_n1, forall_eq, nI_leI, nI_ltI, nI_eq, true_implies, forall_const, not_true_eq_false, not_false_eq_true, false_implies, and_true, true_and, implies_true, and_self, reduceIte]
              exact hp
            · obtain ⟨u', v', T', s', hx, hy⟩ := ls_show hB0 t0 hc hs hl
              rw [ea] at hy
              refine ⟨u', v', 1, T', Or.inr ⟨rfl, by omega, Or.inl s'⟩, fun post hp => ?_, fun post hp => ?_⟩
              · rw [wX_actOnFirstDue_15]
                simp (disch := omega) only [cw_le3, q3, cw_m2, cw_m3, cw_m4, cw_m13, cw_2m, cw_3m, cw_12m, cw_24m, cw_36m, cw_a12, cw_a3, nI_add, nI_1, pk_sub, nI_clamp, vp_in_nI, e1, qn, ez, el, forall_eq, nI_leI, nI_ltI, nI_eq, true_implies, forall_const, not_true_eq_false, not_false_eq_true, false_implies, and_true, true_and, implies_true, and_self, reduceIte]
                refine xs_due (by omega) hs hL ha ea hsi (fun x => absurd x mi) (fun x => absurd x mi) (fun x => absurd x mi) (fun _ x => absurd bb' x) (fun _ _ x => absurd x can) (fun _ _ _ x => absurd x e) (fun _ _ _ _ => ?_)
                refine br_t rfl (hx _ ?_)
                obtain ⟨h, sp, ch, bl, co, on, ba, ra, gu, se, si, st, la, pu, ps, sc, he, xb, xc, xi, xf, xa, xe, tc, ts, ta, bc, bs, bm⟩ := u'
                exact br_f (by decide) hp
              · have e' : xe L ≤ nI H + 1 := Int32.not_lt.mp e
                rw [nI_1] at e'
                rw [wY_act_24]
                simp (disch := omega) only [wY_act_61, wY_act_128, wY_act_182, cw_m2, cw_m3, cw_m4, cw_m13, cw_2m, cw_3m, cw_12m, cw_24m, cw_36m, cw_a12, cw_a3, nI_add, nI_1, pk_sub, nI_clamp, vp_in_nI, e2, qn, efx, mi, esx, eex, cw_bit0, bb', Bool.true_eq_false, e', el, cw_n1, forall_eq, nI_leI, nI_ltI, nI_eq, true_implies, forall_const, not_true_eq_false, not_false_eq_true, false_implies, and_true, true_and, implies_true, and_self, reduceIte]
                refine hy _ ?_
                obtain ⟨h, sp, ch, yn, co, ba, ra, gu, se, on, si, st, la, pu, pb, sc, he, ou, yb, yl, yf, ya, ys, ye, zf, za, zs, ze, wy, pt, su, bb, bu⟩ := v'
                exact hp
        · refine leave (fun P hP => xs_due (by omega) hs hL ha ea hsi (fun x => absurd x mi) (fun x => absurd x mi) (fun x => absurd x mi) (fun _ _ => hP) (fun _ x => absurd x bb') (fun _ x => absurd x bb') (fun _ x => absurd x bb')) (fun post hp => ?_)
          have b0 : bt (se a) (L / 4) = false := by
            cases q : bt (se a) (L / 4)
            · rfl
            · exact absurd q bb'
          rw [wY_act_24]
          simp (disch := omega) only [wY_act_61, cw_m2, cw_m3, cw_m4, cw_m13, cw_2m, cw_3m, cw_12m, cw_24m, cw_36m, cw_a12, cw_a3, nI_add, nI_1, pk_sub, nI_clamp, vp_in_nI, e2, qn, efx, mi, esx, cw_bit0, b0, cw_n1, forall_eq, nI_leI, nI_ltI, nI_eq, true_implies, forall_const, not_true_eq_false, not_false_eq_true, false_implies, and_true, true_and, implies_true, and_self, reduceIte]
          exact hp
  obtain ⟨u', v', r, h1, h2, h3, h4⟩ := key n 0 (by omega)
  refine ⟨u', v', r, h1, ?_, fun post hp => ?_, fun post hp => ?_⟩
  · rw [ecn]; exact h2
  · simp (disch := omega) only [wpX_actOnFirstDue, cw_m2, cw_m3, cw_m4, cw_m13, cw_2m, cw_3m, cw_12m, cw_24m, cw_36m, cw_a12, cw_a3, nI_add, nI_1, pk_sub, nI_clamp, vp_in_nI, el, forall_eq, nI_leI, nI_ltI, nI_eq, true_implies, forall_const, not_true_eq_false, not_false_eq_true, false_implies, and_true, true_and, implies_true, and_self, reduceIte]
    exact ⟨_, h3 post hp⟩
  · rw [ea]
    unfold wpY_act
    dsimp only
    refine ys_side (by omega) hs ea (hne c hc) (ys_now (by omega) el (ys_changes (by omega) hsi (fun q => ?_) (fun q => ?_)))
    · rcases hz with ⟨can, rfl⟩ | ⟨can, rfl⟩
      · exact ⟨_, h4 post hp⟩
      · exact absurd q can
    · rcases hz with ⟨can, rfl⟩ | ⟨can, rfl⟩
      · exact absurd can q
      · exact ⟨_, h4 post hp⟩
end TURN
end
section
/-! part 10: tending a channel in use, in step -/
section TEND
variable {h sp ch bl yn : Int32} {co on ba ra gu se si st la pu ps sc he xb xc xi xf xa xe tc ts ta bc bs bm pb ou yb yl yf ya ys ye zf za zs ze wy pt su bb bu : Nat → Int32}
def xw_tO (post : SX → Prop) (x1 x2 : Int32) (n : Nat) (x3 : Int32) (u : SX) : Prop := match u with
  | (h, sp, ch, bl, co, on, ba, ra, gu, se, si, st, la, pu, ps, sc, he, xb, xc, xi, xf, xa, xe, tc, ts, ta, bc, bs, bm) => wX_tendOpen_2 post x1 x2 n x3 h sp ch bl co on ba ra gu se si st la pu ps sc he xb xc xi xf xa xe tc ts ta bc bs bm
def yw_37 (post : SY → Prop) (J : Int32 → SY → Prop) (x1 x2 : Int32) (n : Nat) (x3 : Int32) (v : SY) : Prop := match v with
  | (h, sp, ch, yn, co, ba, ra, gu, se, on, si, st, la, pu, pb, sc, he, ou, yb, yl, yf, ya, ys, ye, zf, za, zs, ze, wy, pt, su, bb, bu) => wY_turn_37 post (fun x h sp ch yn co ba ra gu se on si st la pu pb sc he ou yb yl yf ya ys ye zf za zs ze wy pt su bb bu => J x (h, sp, ch, yn, co, ba, ra, gu, se, on, si, st, la, pu, pb, sc, he, ou, yb, yl, yf, ya, ys, ye, zf, za, zs, ze, wy, pt, su, bb, bu)) x1 x2 n x3 h sp ch yn co ba ra gu se on si st la pu pb sc he ou yb yl yf ya ys ye zf za zs ze wy pt su bb bu
theorem xs_tOi {u : SX} {c s : Nat} {post : SX → Prop} (hc : c < 8) (h0 : cw_st u c = 0) (hx : ∀ post : SX → Prop, post u → wpX_actOnFirstDue post u (nI c) (nI s)) (hp : post u) :
    ∀ d a, a + d = 3 → xw_tO post (nI c) (nI s) (d + 1) (nI a) u := by
  obtain ⟨h, sp, ch, bl, co, on, ba, ra, gu, se, si, st, la, pu, ps, sc, he, xb, xc, xi, xf, xa, xe, tc, ts, ta, bc, bs, bm⟩ := u
  have h0' : st c = 0 := h0
  intro d
  induction d with
  | zero =>
    intro a ha
    have e : a = 3 := by omega
    subst e
    unfold xw_tO
    dsimp only
    rw [wX_tendOpen_2]
    simp (disch := omega) only [cw_le3, Nat.le_refl, forall_eq, nI_leI, nI_ltI, nI_eq, true_implies, forall_const, not_true_eq_false, not_false_eq_true, false_implies, and_true, true_and, implies_true, and_self, reduceIte]
    exact hp
  | succ d ih =>
    intro a ha
    have q : ¬ 3 ≤ a := by omega
    unfold xw_tO
    dsimp only
    rw [wX_tendOpen_2]
    simp (disch := omega) only [cw_le3, q, cw_m2, cw_m3, cw_m4, cw_m13, cw_2m, cw_3m, cw_12m, cw_24m, cw_36m, cw_a12, cw_a3, nI_add, nI_1, pk_sub, nI_clamp, vp_in_nI, h0', forall_eq, nI_leI, nI_ltI, nI_eq, true_implies, forall_const, not_true_eq_false, not_false_eq_true, false_implies, and_true, true_and, implies_true, and_self, reduceIte]
    exact hx _ (ih (a + 1) (by omega))
theorem xs_tOx {u : SX} {c s : Nat} {post : SX → Prop} (hc : c < 8) (h0 : ¬ cw_st u c = 0) (hp : post u) : ∀ d a, a + d = 3 → xw_tO post (nI c) (nI s) (d + 1) (nI a) u := by
  obtain ⟨h, sp, ch, bl, co, on, ba, ra, gu, se, si, st, la, pu, ps, sc, he, xb, xc, xi, xf, xa, xe, tc, ts, ta, bc, bs, bm⟩ := u
  have h0' : ¬ st c = 0 := h0
  intro d a ha
  unfold xw_tO
  dsimp only
  rw [wX_tendOpen_2]
  by_cases q : 3 ≤ a
  · simp (disch := omega) only [cw_le3, q, forall_eq, nI_leI, nI_ltI, nI_eq, true_implies, forall_const, not_true_eq_false, not_false_eq_true, false_implies, and_true, true_and, implies_true, and_self, reduceIte]
    exact hp
  · simp (disch := omega) only [cw_le3, q, cw_m2, cw_m3, cw_m4, cw_m13, cw_2m, cw_3m, cw_12m, cw_24m, cw_36m, cw_a12, cw_a3, nI_add, nI_1, pk_sub, nI_clamp, vp_in_nI, h0', forall_eq, nI_leI, nI_ltI, nI_eq, true_implies, forall_const, not_true_eq_false, not_false_eq_true, false_implies, and_true, true_and, implies_true, and_self, reduceIte]
    exact hp
theorem xs_tOs {u u' : SX} {c s d a : Nat} {post : SX → Prop} (hc : c < 8) (h0 : cw_st u c = 0) (ha : a < 3) (hx : ∀ post : SX → Prop, post u' → wpX_actOnFirstDue post u (nI c) (nI s)) (hp : xw_tO post (nI c) (nI s) d (nI (a + 1)) u') :
    xw_tO post (nI c) (nI s) (d + 1) (nI a) u := by
  obtain ⟨h, sp, ch, bl, co, on, ba, ra, gu, se, si, st, la, pu, ps, sc, he, xb, xc, xi, xf, xa, xe, tc, ts, ta, bc, bs, bm⟩ := u
  have h0' : st c = 0 := h0
  have q : ¬ 3 ≤ a := by omega
  unfold xw_tO
  dsimp only
  rw [wX_tendOpen_2]
  simp (disch := omega) only [cw_le3, q, cw_m2, cw_m3, cw_m4, cw_m13, cw_2m, cw_3m, cw_12m, cw_24m, cw_36m, cw_a12, cw_a3, nI_add, nI_1, pk_sub, nI_clamp, vp_in_nI, h0', forall_eq, nI_leI, nI_ltI, nI_eq, true_implies, forall_const, not_true_eq_false, not_false_eq_true, false_implies, and_true, true_and, implies_true, and_self, reduceIte]
  refine hx _ ?_
  obtain ⟨h, sp, ch, bl, co, on, ba, ra, gu, se, si, st, la, pu, ps, sc, he, xb, xc, xi, xf, xa, xe, tc, ts, ta, bc, bs, bm⟩ := u'
  exact hp
theorem ys_37s {v v' : SY} {c : Nat} {p r : Int32} {post : SY → Prop} {J : Int32 → SY → Prop} {n : Nat} (hc : c < 8) (hy : ∀ post : Int32 → SY → Prop, post r v' → wpY_act post v p (nI c))
    (h1 : v'.2.2.2.2.2.2.2.2.2.2.2.1 c = 0 → yw_37 post J p (nI c) n r v') (h0 : ¬ v'.2.2.2.2.2.2.2.2.2.2.2.1 c = 0 → yw_37 post J p (nI c) n 0 v') : yw_37 post J p (nI c) (n + 1) 1 v := by
  obtain ⟨h, sp, ch, yn, co, ba, ra, gu, se, on, si, st, la, pu, pb, sc, he, ou, yb, yl, yf, ya, ys, ye, zf, za, zs, ze, wy, pt, su, bb, bu⟩ := v
  unfold yw_37
  dsimp only
  rw [wY_turn_37]
  refine br_f (by decide) (hy _ ?_)
  obtain ⟨h, sp, ch, yn, co, ba, ra, gu, se, on, si, st, la, pu, pb, sc, he, ou, yb, yl, yf, ya, ys, ye, zf, za, zs, ze, wy, pt, su, bb, bu⟩ := v'
  refine ⟨pk_in c 8 hc, ?_⟩
  rw [nI_clamp (by omega)]
  exact br_c h1 h0
theorem cw_T_st {H C : Nat} {u : SX} {v : SY} (t : cw_T H C sp on ba ra gu si xf xa xe u v) : v.2.2.2.2.2.2.2.2.2.2.2.1 = cw_st u := by
  obtain ⟨bl, yn, co, se, st, la, pu, ps, sc, he, xb, xc, xi, tc, ts, ta, bc, bs, bm, pb, ou, yb, yl, yf, ya, ys, ye, zf, za, zs, ze, wy, pt, su, bb, bu, rfl, rfl, hS, hE, hF, hG, hO, hZ⟩ := t
  rfl
theorem ls_tO {H C : Nat} (hB : cw_B C si) {c s : Nat} (hc : c < C) (hs : s < 2) : ∀ d a (u : SX) (v : SY), a + d = 3 → cw_T H C sp on ba ra gu si xf xa xe u v → cw_st u c = 0 → cw_cn u c ≤ d →
    ∃ u' v', cw_T H C sp on ba ra gu si xf xa xe u' v' ∧ (∀ post : SX → Prop, post u' → xw_tO post (nI c) (nI s) (d + 1) (nI a) u) ∧
      (∀ (post : SY → Prop) (J : Int32 → SY → Prop), (∃ f, yw_37 post J (si (2 * c + s)) (nI c) f 0 v') → ∃ f, yw_37 post J (si (2 * c + s)) (nI c) f 1 v) := by
  have hC := hB.1
  intro d
  induction d with
  | zero =>
    intro a u v ha t h0 hcn
    obtain ⟨u1, v1, r, t1, hr, hx, hy⟩ := ls_act hB t hc hs h0
    rcases hr with ⟨rfl, rfl, rfl⟩ | ⟨_, hpos, _⟩
    · refine ⟨u1, v1, t1, fun post hp => xs_tOi (by omega) h0 hx hp 0 a ha, fun post J hf => ?_⟩
      obtain ⟨f, hf⟩ := hf
      exact ⟨f + 1, ys_37s (by omega) hy (fun _ => hf) (fun _ => hf)⟩
    · omega
  | succ d ih =>
    intro a u v ha t h0 hcn
    obtain ⟨u1, v1, r, t1, hr, hx, hy⟩ := ls_act hB t hc hs h0
    rcases hr with ⟨rfl, rfl, rfl⟩ | ⟨rfl, hpos, hr | ⟨hr, hlt⟩⟩
    · refine ⟨u1, v1, t1, fun post hp => xs_tOi (by omega) h0 hx hp (d + 1) a ha, fun post J hf => ?_⟩
      obtain ⟨f, hf⟩ := hf
      exact ⟨f + 1, ys_37s (by omega) hy (fun _ => hf) (fun _ => hf)⟩
    · have n0 : ¬ cw_st u1 c = 0 := by rw [hr]; decide
      refine ⟨u1, v1, t1, fun post hp => xs_tOs (by omega) h0 (by omega) hx (xs_tOx (by omega) n0 hp d (a + 1) (by omega)), fun post J hf => ?_⟩
      obtain ⟨f, hf⟩ := hf
      refine ⟨f + 1, ys_37s (by omega) hy (fun z => ?_) (fun _ => hf)⟩
      rw [cw_T_st t1] at z
      exact absurd z n0
    · obtain ⟨u2, v2, t2, hx2, hy2⟩ := ih (a + 1) u1 v1 (by omega) t1 hr (by omega)
      refine ⟨u2, v2, t2, fun post hp => xs_tOs (by omega) h0 (by omega) hx (hx2 post hp), fun post J hf => ?_⟩
      obtain ⟨f, hf⟩ := hy2 post J hf
      refine ⟨f + 1, ys_37s (by omega) hy (fun _ => hf) (fun z => ?_)⟩
      rw [cw_T_st t1] at z
      exact absurd hr z
theorem cw_cn3 {H C : Nat} {u : SX} {v : SY} (t : cw_T H C sp on ba ra gu si xf xa xe u v) {c : Nat} (hc : c < 8) : cw_cn u c ≤ 3 := by
  obtain ⟨bl, yn, co, se, st, la, pu, ps, sc, he, xb, xc, xi, tc, ts, ta, bc, bs, bm, pb, ou, yb, yl, yf, ya, ys, ye, zf, za, zs, ze, wy, pt, su, bb, bu, rfl, rfl, hS, hE, hF, hG, hO, hZ⟩ := t
  obtain ⟨l, hl, el⟩ := (hE c hc).1
  obtain ⟨n, hn, e1, e2, hrow⟩ := hG c l hc hl
  show (xc (13 * c + (la c).toNatClampNeg)).toNatClampNeg ≤ 3
  rw [el, nI_clamp (by omega), e1, nI_clamp (by omega)]
  exact hn
theorem ls_open {H C : Nat} {u : SX} {v : SY} (hB : cw_B C si) (t : cw_T H C sp on ba ra gu si xf xa xe u v) {c s : Nat} (hc : c < C) (hs : s < 2) :
    ∃ u' v', cw_T H C sp on ba ra gu si xf xa xe u' v' ∧ (∀ post : SX → Prop, post u' → wpX_tendOpen post u (nI c) (nI s)) ∧
      (∀ (post : SY → Prop) (J : Int32 → SY → Prop), (∃ f, yw_37 post J (si (2 * c + s)) (nI c) f 0 v') → (cw_st u c = 0 → ∃ f, yw_37 post J (si (2 * c + s)) (nI c) f 1 v) ∧ (¬ cw_st u c = 0 → ∃ f, yw_37 post J (si (2 * c + s)) (nI c) f 0 v)) := by
  have hC := hB.1
  by_cases h0 : cw_st u c = 0
  · obtain ⟨u1, v1, t1, hx, hy⟩ := ls_tO hB hc hs 3 0 u v rfl t h0 (cw_cn3 t (by omega))
    refine ⟨u1, v1, t1, fun post hp => ?_, fun post J hf => ⟨fun _ => hy post J hf, fun z => absurd h0 z⟩⟩
    have := hx post hp
    obtain ⟨h, sp, ch, bl, co, on, ba, ra, gu, se, si, st, la, pu, ps, sc, he, xb, xc, xi, xf, xa, xe, tc, ts, ta, bc, bs, bm⟩ := u
    exact ⟨_, this⟩
  · refine ⟨u, v, t, fun post hp => ?_, fun post J hf => ⟨fun z => absurd z h0, fun _ => hf⟩⟩
    have := xs_tOx (s := s) (show c < 8 by omega) h0 hp 3 0 rfl
    obtain ⟨h, sp, ch, bl, co, on, ba, ra, gu, se, si, st, la, pu, ps, sc, he, xb, xc, xi, xf, xa, xe, tc, ts, ta, bc, bs, bm⟩ := u
    exact ⟨_, this⟩
end TEND
end
section
/-! part 11: tending a closed channel, in step -/
section CLOSED
variable {h sp ch bl yn : Int32} {co on ba ra gu se si st la pu ps sc he xb xc xi xf xa xe tc ts ta bc bs bm pb ou yb yl yf ya ys ye zf za zs ze wy pt su bb bu : Nat → Int32}
def cw_ps (u : SX) : Nat → Int32 := match u with
  | (h, sp, ch, bl, co, on, ba, ra, gu, se, si, st, la, pu, ps, sc, he, xb, xc, xi, xf, xa, xe, tc, ts, ta, bc, bs, bm) => ps
def cw_ou (u : SX) (c : Nat) : Nat := match u with
  | (h, sp, ch, bl, co, on, ba, ra, gu, se, si, st, la, pu, ps, sc, he, xb, xc, xi, xf, xa, xe, tc, ts, ta, bc, bs, bm) => (xc (13 * c + 12)).toNatClampNeg
theorem cw_G_out (hG : cw_G sp xf xa xe xc xi yl yf ya ys ye) {c : Nat} {z : Int32} (hc : c < 8) : cw_G sp xf xa xe (upd xc (13 * c + 12) z) xi yl yf ya ys ye :=
  cw_G_frame hG (fun c' k' hc' hk' => by rw [pk_un (by omega)]) (fun c' k' i hc' hk' hi => rfl)
theorem cw_O_pun (hO : cw_O sp xf xa xe xc xi st ou zf za zs ze) {c : Nat} (hc : c < 8) : cw_O sp xf xa xe (upd xc (13 * c + 12) 0) xi st (upd ou c 0) zf za zs ze := by
  refine cw_O_put hO hc (fun i hi => pk_un hi) (fun i hi => pk_un hi) (fun i hi => rfl) (fun i hi => rfl) (fun i hi => ⟨rfl, rfl, rfl, rfl⟩) ⟨?_, fun _ => pk_us⟩
  rw [pk_us, pk_us]
  exact cw_Row_0
theorem cw_G_drop (hG : cw_G sp xf xa xe xc xi yl yf ya ys ye) {c j : Nat} {z : Int32} (hc : c < 8) : cw_G sp xf xa xe (upd xc (13 * c + 12) z) (cw_shf xi (3 * (13 * c + 12) + j) (3 * (13 * c + 12) + 2)) yl yf ya ys ye :=
  cw_G_frame hG (fun c' k' hc' hk' => by rw [pk_un (by omega)]) (fun c' k' i hc' hk' hi => cw_shf_out _ (by omega) (by omega))
theorem cw_O_drop (hO : cw_O sp xf xa xe xc xi st ou zf za zs ze) {c j m : Nat} (hc : c < 8) (h1 : st c = 1) (hm : m ≤ 2) (en : xc (13 * c + 12) = nI (m + 1)) :
    cw_O sp xf xa xe (upd xc (13 * c + 12) (nI m)) (cw_shf xi (3 * (13 * c + 12) + j) (3 * (13 * c + 12) + 2)) st (upd ou c (nI m)) (cw_shf zf (3 * c + j) (3 * c + m)) (cw_shf za (3 * c + j) (3 * c + m)) (cw_shf zs (3 * c + j) (3 * c + m)) (cw_shf ze (3 * c + j) (3 * c + m)) := by
  refine cw_O_put hO hc (fun i hi => pk_un hi) (fun i hi => pk_un hi) (fun i hi => rfl) (fun i hi => cw_shf_out _ hi (by omega)) (fun i hi => ⟨cw_shf_out _ hi (by omega), cw_shf_out _ hi (by omega), cw_shf_out _ hi (by omega), cw_shf_out _ hi (by omega)⟩) ⟨?_, fun z => absurd h1 z⟩
  rw [pk_us, pk_us]
  have hr := (hO c hc).1
  rw [en] at hr
  exact cw_Row_rem (j0 := j) hr (by omega) (fun i hi => cw_rem_in xi (by omega)) (fun i hi => cw_rem_in zf (by omega)) (fun i hi => cw_rem_in za (by omega)) (fun i hi => cw_rem_in zs (by omega)) (fun i hi => cw_rem_in ze (by omega))
theorem ls_punish {H C : Nat} {u : SX} {v : SY} (hB : cw_B C si) (t : cw_T H C sp on ba ra gu si xf xa xe u v) {c q : Nat} (hc : c < C) (hq : q < 2) (eq : cw_ps u c = nI q) :
    ∃ u' v' r, cw_T H C sp on ba ra gu si xf xa xe u' v' ∧ (∀ post : Int32 → SX → Prop, post r u' → wpX_punish post u (nI c)) ∧ (∀ post : Int32 → SY → Prop, post r v' → wpY_punish post v (si (2 * c + 1 - q)) (nI c)) := by
  obtain ⟨hC, hsi, hne⟩ := hB
  obtain ⟨bl, yn, co, se, st, la, pu, ps, sc, he, xb, xc, xi, tc, ts, ta, bc, bs, bm, pb, ou, yb, yl, yf, ya, ys, ye, zf, za, zs, ze, wy, pt, su, bb, bu, rfl, rfl, hS, hE, hF, hG, hO, hZ⟩ := t
  have eq' : ps c = nI q := eq
  obtain ⟨a, ha, ea⟩ := hsi (2 * c + 1 - q) (by omega)
  obtain ⟨⟨n, hn, e1, e2, hrow⟩, hst⟩ := hO c (by omega)
  have key : ∀ d j r0, j + d = n → ∃ r : Int32, (∀ post : Int32 → SX → Prop, post r (nI H, sp, nI C, bl, upd co a (co a + r), on, ba, ra, gu, se, si, st, la, pu, ps, sc, upd he c 0, xb, upd xc (13 * c + 12) 0, xi, xf, xa, xe, tc, ts, ta, bc, bs, bm) → wX_punish_18 post (nI c) (nI (13 * c + 12)) (nI H) sp (nI C) bl co on ba ra gu se si st la pu ps sc he xb xc xi xf xa xe tc ts ta bc bs bm (d + 1) r0 (nI j)) ∧
      (∀ post : Int32 → SY → Prop, post r (nI H, sp, nI C, yn, upd co a (co a + r), ba, ra, gu, se, on, si, st, la, pu, pb, sc, upd he c 0, upd ou c 0, yb, yl, yf, ya, ys, ye, zf, za, zs, ze, wy, pt, su, bb, bu) → wY_punish_10 post (nI a) (nI c) (nI H) sp (nI C) yn co ba ra gu se on si st la pu pb sc he ou yb yl yf ya ys ye zf za zs ze wy pt su bb bu (d + 1) r0 (nI j)) := by
    intro d
    induction d with
    | zero =>
      intro j r0 hj
      have hjn : j = n := by omega
      subst hjn
      refine ⟨r0, fun post hp => ?_, fun post hp => ?_⟩
      · rw [wX_punish_18]
        by_cases q3 : 3 ≤ j
        · simp (disch := omega) only [wX_punish_60, cw_le3, q3, cw_m2, cw_m3, cw_m4, cw_m13, cw_2m, cw_3m, cw_12m, cw_24m, cw_36m, cw_a12, cw_a3, nI_add, nI_1, pk_sub, nI_clamp, vp_in_nI, eq', ea, forall_eq, nI_leI, nI_ltI, nI_eq, true_implies, forall_const, not_true_eq_false, not_false_eq_true, false_implies, and_true, true_and, implies_true, and_self, reduceIte]
          exact hp
        · simp (disch := omega) only [wX_punish_60, cw_le3, q3, cw_m2, cw_m3, cw_m4, cw_m13, cw_2m, cw_3m, cw_12m, cw_24m, cw_36m, cw_a12, cw_a3, nI_add, nI_1, pk_sub, nI_clamp, vp_in_nI, e1, eq', ea, Nat.le_refl, forall_eq, nI_leI, nI_ltI, nI_eq, true_implies, forall_const, not_true_eq_false, not_false_eq_true, false_implies, and_true, true_and, implies_true, and_self, reduceIte]
          exact hp
      · rw [wY_punish_10]
        simp (disch := omega) only [cw_m2, cw_m3, cw_m4, cw_m13, cw_2m, cw_3m, cw_12m, cw_24m, cw_36m, cw_a12, cw_a3, nI_add, nI_1, pk_sub, nI_clamp, vp_in_nI, e2, Nat.le_refl, forall_eq, nI_leI, nI_ltI, nI_eq, true_implies, forall_const, not_true_eq_false, not_false_eq_true, false_implies, and_true, true_and, implies_true, and_self, reduceIte]
        exact hp
    | succ d ih =>
      intro j r0 hj
      obtain ⟨L, hL, ez, hbit, efx, h01, eax, esx, eex⟩ := hrow j (by omega)
      have q3 : ¬ 3 ≤ j := by omega
      have qn : ¬ n ≤ j := by omega
      obtain ⟨r, hx, hy⟩ := ih (j + 1) (r0 + xa L) (by omega)
      refine ⟨r, fun post hp => ?_, fun post hp => ?_⟩
      · rw [wX_punish_18]
        simp (disch := omega) only [cw_le3, q3, cw_m2, cw_m3, cw_m4, cw_m13, cw_2m, cw_3m, cw_12m, cw_24m, cw_36m, cw_a12, cw_a3, nI_add, nI_1, pk_sub, nI_clamp, vp_in_nI, e1, qn, ez, forall_eq, nI_leI, nI_ltI, nI_eq, true_implies, forall_const, not_true_eq_false, not_false_eq_true, false_implies, and_true, true_and, implies_true, and_self, reduceIte]
        exact hx post hp
      · rw [wY_punish_10]
        simp (disch := omega) only [cw_m2, cw_m3, cw_m4, cw_m13, cw_2m, cw_3m, cw_12m, cw_24m, cw_36m, cw_a12, cw_a3, nI_add, nI_1, pk_sub, nI_clamp, vp_in_nI, e2, qn, eax, forall_eq, nI_leI, nI_ltI, nI_eq, true_implies, forall_const, not_true_eq_false, not_false_eq_true, false_implies, and_true, true_and, implies_true, and_self, reduceIte]
        exact hy post hp
  obtain ⟨r, hx, hy⟩ := key n 0 (he c) (by omega)
  refine ⟨_, _, r, ⟨bl, yn, upd co a (co a + r), se, st, la, pu, ps, sc, upd he c 0, xb, upd xc (13 * c + 12) 0, xi, tc, ts, ta, bc, bs, bm, pb, upd ou c 0, yb, yl, yf, ya, ys, ye, zf, za, zs, ze, wy, pt, su, bb, bu, rfl, rfl, hS, hE, hF, cw_G_out (c := c) hG (by omega), cw_O_pun (c := c) hO (by omega), hZ⟩, fun post hp => ?_, fun post hp => ?_⟩
  · simp (disch := omega) only [wpX_punish, cw_m2, cw_m3, cw_m4, cw_m13, cw_2m, cw_3m, cw_12m, cw_24m, cw_36m, cw_a12, cw_a3, nI_add, nI_1, pk_sub, nI_clamp, vp_in_nI, forall_eq, nI_leI, nI_ltI, nI_eq, true_implies, forall_const, not_true_eq_false, not_false_eq_true, false_implies, and_true, true_and, implies_true, and_self, reduceIte]
    exact ⟨_, hx post hp⟩
  · rw [ea]
    simp (disch := omega) only [wpY_punish, cw_m2, cw_m3, cw_m4, cw_m13, cw_2m, cw_3m, cw_12m, cw_24m, cw_36m, cw_a12, cw_a3, nI_add, nI_1, pk_sub, nI_clamp, vp_in_nI, forall_eq, nI_leI, nI_ltI, nI_eq, true_implies, forall_const, not_true_eq_false, not_false_eq_true, false_implies, and_true, true_and, implies_true, and_self, reduceIte]
    exact ⟨_, hy post hp⟩
theorem ys_drop16 {post : SY → Prop} {c j m : Nat} (hc : c < 8) (hm : m ≤ 2) (en : ou c = nI m) (H : post (h, sp, ch, yn, co, ba, ra, gu, se, on, si, st, la, pu, pb, sc, he, ou, yb, yl, yf, ya, ys, ye, cw_shf zf (3 * c + j) (3 * c + m), cw_shf za (3 * c + j) (3 * c + m), cw_shf zs (3 * c + j) (3 * c + m), cw_shf ze (3 * c + j) (3 * c + m), wy, pt, su, bb, bu)) :
    ∀ d i, i + d = m → j ≤ i → wY_drop_16 post (nI c) h sp ch yn (d + 1) (nI (3 * c + i)) co ba ra gu se on si st la pu pb sc he ou yb yl yf ya ys ye (cw_shf zf (3 * c + j) (3 * c + i)) (cw_shf za (3 * c + j) (3 * c + i)) (cw_shf zs (3 * c + j) (3 * c + i)) (cw_shf ze (3 * c + j) (3 * c + i)) wy pt su bb bu := by
  intro d
  induction d with
  | zero =>
    intro i hi _
    have : i = m := by omega
    subst this
    rw [wY_drop_16]
    simp (disch := omega) only [cw_m2, cw_m3, cw_m4, cw_m13, cw_2m, cw_3m, cw_12m, cw_24m, cw_36m, cw_a12, cw_a3, nI_add, nI_1, pk_sub, nI_clamp, vp_in_nI, en, Nat.le_refl, forall_eq, nI_leI, nI_ltI, nI_eq, true_implies, forall_const, not_true_eq_false, not_false_eq_true, false_implies, and_true, true_and, implies_true, and_self, reduceIte]
    exact H
  | succ d ih =>
    intro i hi hji
    have q : ¬ 3 * c + m ≤ 3 * c + i := by omega
    have := ih (i + 1) (by omega) (by omega)
    rw [← Nat.add_assoc, ← cw_shfS zf (show 3 * c + j ≤ 3 * c + i by omega), ← cw_shfS za (show 3 * c + j ≤ 3 * c + i by omega), ← cw_shfS zs (show 3 * c + j ≤ 3 * c + i by omega), ← cw_shfS ze (show 3 * c + j ≤ 3 * c + i by omega)] at this
    rw [wY_drop_16]
    simp (disch := omega) only [cw_m2, cw_m3, cw_m4, cw_m13, cw_2m, cw_3m, cw_12m, cw_24m, cw_36m, cw_a12, cw_a3, nI_add, nI_1, pk_sub, nI_clamp, vp_in_nI, en, q, forall_eq, nI_leI, nI_ltI, nI_eq, true_implies, forall_const, not_true_eq_false, not_false_eq_true, false_implies, and_true, true_and, implies_true, and_self, reduceIte]
    exact this
theorem ys_drop {post : SY → Prop} {c j m : Nat} (hc : c < 8) (hj : j ≤ m) (hm : m ≤ 2) (en : ou c = nI (m + 1)) (H : post (h, sp, ch, yn, co, ba, ra, gu, se, on, si, st, la, pu, pb, sc, he, upd ou c (nI m), yb, yl, yf, ya, ys, ye, cw_shf zf (3 * c + j) (3 * c + m), cw_shf za (3 * c + j) (3 * c + m), cw_shf zs (3 * c + j) (3 * c + m), cw_shf ze (3 * c + j) (3 * c + m), wy, pt, su, bb, bu)) : wpY_drop post (h, sp, ch, yn, co, ba, ra, gu, se, on, si, st, la, pu, pb, sc, he, ou, yb, yl, yf, ya, ys, ye, zf, za, zs, ze, wy, pt, su, bb, bu) (nI c) (nI j) := by
  simp (disch := omega) only [wpY_drop, cw_m2, cw_m3, cw_m4, cw_m13, cw_2m, cw_3m, cw_12m, cw_24m, cw_36m, cw_a12, cw_a3, nI_add, nI_1, pk_sub, nI_clamp, vp_in_nI, en, nI_pred, forall_eq, nI_leI, nI_ltI, nI_eq, true_implies, forall_const, not_true_eq_false, not_false_eq_true, false_implies, and_true, true_and, implies_true, and_self, reduceIte]
  have := ys_drop16 (post := post) (ou := upd ou c (nI m)) (j := j) hc hm pk_us H (m - j) j (by omega) (Nat.le_refl _)
  rw [cw_shfE _ (Nat.le_refl _), cw_shfE _ (Nat.le_refl _), cw_shfE _ (Nat.le_refl _), cw_shfE _ (Nat.le_refl _)] at this
  exact ⟨_, this⟩
end CLOSED
end
section
/-! part 12: outputs collected, in step -/
section COLL
variable {h sp ch bl yn : Int32} {co on ba ra gu se si st la pu ps sc he xb xc xi xf xa xe tc ts ta bc bs bm pb ou yb yl yf ya ys ye zf za zs ze wy pt su bb bu : Nat → Int32}
def xw_cO (post : SX → Prop) (x1 x2 x3 : Int32) (n : Nat) (x4 x5 : Int32) (u : SX) : Prop := match u with
  | (h, sp, ch, bl, co, on, ba, ra, gu, se, si, st, la, pu, ps, sc, he, xb, xc, xi, xf, xa, xe, tc, ts, ta, bc, bs, bm) => wX_collectOutputs_14 post x1 x2 x3 n x4 x5 h sp ch bl co on ba ra gu se si st la pu ps sc he xb xc xi xf xa xe tc ts ta bc bs bm
def yw_43 (post : SY → Prop) (x1 x2 x3 : Int32) (n : Nat) (x4 : Int32) (v : SY) : Prop := match v with
  | (h, sp, ch, yn, co, ba, ra, gu, se, on, si, st, la, pu, pb, sc, he, ou, yb, yl, yf, ya, ys, ye, zf, za, zs, ze, wy, pt, su, bb, bu) => wY_gather_43 post x1 x2 x3 n x4 h sp ch yn co ba ra gu se on si st la pu pb sc he ou yb yl yf ya ys ye zf za zs ze wy pt su bb bu
theorem xs_cOi {post : SX → Prop} {c n : Nat} {x1 x2 : Int32} (hc : c < 8) (hn : n ≤ 3) (en : xc (13 * c + 12) = nI n) (hp : post (h, sp, ch, bl, co, on, ba, ra, gu, se, si, st, la, pu, ps, sc, he, xb, xc, xi, xf, xa, xe, tc, ts, ta, bc, bs, bm)) :
    ∀ d j a, a + d = 3 → n ≤ j → j + d < 100 → wX_collectOutputs_14 post x1 x2 (nI (13 * c + 12)) (d + 1) (nI j) (nI a) h sp ch bl co on ba ra gu se si st la pu ps sc he xb xc xi xf xa xe tc ts ta bc bs bm := by
  intro d
  induction d with
  | zero =>
    intro j a ha _ _
    have e : a = 3 := by omega
    subst e
    rw [wX_collectOutputs_14]
    simp (disch := omega) only [cw_le3, Nat.le_refl, forall_eq, nI_leI, nI_ltI, nI_eq, true_implies, forall_const, not_true_eq_false, not_false_eq_true, false_implies, and_true, true_and, implies_true, and_self, reduceIte]
    exact hp
  | succ d ih =>
    intro j a ha hnj hj
    have q : ¬ 3 ≤ a := by omega
    rw [wX_collectOutputs_14]
    simp (disch := omega) only [cw_le3, q, cw_m2, cw_m3, cw_m4, cw_m13, cw_2m, cw_3m, cw_12m, cw_24m, cw_36m, cw_a12, cw_a3, nI_add, nI_1, pk_sub, nI_clamp, vp_in_nI, en, hnj, forall_eq, nI_leI, nI_ltI, nI_eq, true_implies, forall_const, not_true_eq_false, not_false_eq_true, false_implies, and_true, true_and, implies_true, and_self, reduceIte]
    exact ih (j + 1) (a + 1) (by omega) (by omega) (by omega)
theorem ls_cl {H C : Nat} (hB : cw_B C si) {c s q : Nat} (hc : c < C) (hs : s < 2) (hq : q < 2) : ∀ d j a (u : SX) (v : SY), a + d = 3 → j ≤ a → cw_T H C sp on ba ra gu si xf xa xe u v → cw_st u c = 1 → cw_ps u c = nI q → cw_ou u c ≤ j + d →
    ∃ u' v' j', cw_T H C sp on ba ra gu si xf xa xe u' v' ∧ cw_st u' c = 1 ∧ cw_ps u' c = nI q ∧ cw_ou u' c ≤ j' ∧ j' < 100 ∧ (∀ post : SX → Prop, post u' → xw_cO post (nI c) (nI s) (nI (13 * c + 12)) (d + 1) (nI j) (nI a) u) ∧
      (∀ post : SY → Prop, (∃ f, yw_43 post (si (2 * c + s)) (nI c) (nI s) f (nI j') v') → ∃ f, yw_43 post (si (2 * c + s)) (nI c) (nI s) f (nI j) v) := by
  obtain ⟨hC, hsi, hne⟩ := hB
  have hnec := hne c hc
  obtain ⟨a0, ha0, ea⟩ := hsi (2 * c + s) (by omega)
  obtain ⟨b0, hb0, eb⟩ := hsi (2 * c + 1 - s) (by omega)
  rw [ea]
  intro d
  induction d with
  | zero =>
    intro j a u v ha hj t h1 hps hou
    refine ⟨u, v, j, t, h1, hps, by omega, by omega, fun post hp => ?_, fun post hf => hf⟩
    obtain ⟨h, sp, ch, bl, co, on, ba, ra, gu, se, si, st, la, pu, ps, sc, he, xb, xc, xi, xf, xa, xe, tc, ts, ta, bc, bs, bm⟩ := u
    have e : a = 3 := by omega
    subst e
    unfold xw_cO
    dsimp only
    rw [wX_collectOutputs_14]
    simp (disch := omega) only [cw_le3, Nat.le_refl, forall_eq, nI_leI, nI_ltI, nI_eq, true_implies, forall_const, not_true_eq_false, not_false_eq_true, false_implies, and_true, true_and, implies_true, and_self, reduceIte]
    exact hp
  | succ d ih =>
    intro j a u v ha hj t h1 hps hou
    have t0 := t
    obtain ⟨bl, yn, co, se, st, la, pu, ps, sc, he, xb, xc, xi, tc, ts, ta, bc, bs, bm, pb, ou, yb, yl, yf, ya, ys, ye, zf, za, zs, ze, wy, pt, su, bb, bu, rfl, rfl, hS, hE, hF, hG, hO, hZ⟩ := t
    have h1' : st c = 1 := h1
    have hps' : ps c = nI q := hps
    obtain ⟨⟨n, hn, e1, e2, hrow⟩, hst⟩ := hO c (by omega)
    have hou' : n ≤ j + (d + 1) := by
      have : (xc (13 * c + 12)).toNatClampNeg ≤ j + (d + 1) := hou
      rwa [e1, nI_clamp (by omega)] at this
    by_cases qn : n ≤ j
    · refine ⟨_, _, j, t0, h1, hps, ?_, by omega, fun post hp => xs_cOi (by omega) hn e1 hp (d + 1) j a ha qn (by omega), fun post hf => hf⟩
      show (xc (13 * c + 12)).toNatClampNeg ≤ j
      rw [e1, nI_clamp (by omega)]
      exact qn
    have q3 : ¬ 3 ≤ a := by omega
    obtain ⟨L, hL, ez, hbit, efx, h01, eax, esx, eex⟩ := hrow j (by omega)
    obtain ⟨m, rfl⟩ : ∃ m, n = m + 1 := ⟨n - 1, by omega⟩
    have hpb : pb c = si (2 * c + q) := by
      obtain ⟨s', hs', es', hb'⟩ := (hE c (by omega)).2.2
      have : q = s' := (nI_eq (by omega) (by omega)).mp (hps'.symm.trans es')
      rw [this]
      exact hb' h1'
    have leave : (∀ P : Int32 → SX → Prop, P 0 (nI H, sp, nI C, bl, co, on, ba, ra, gu, se, si, st, la, pu, ps, sc, he, xb, xc, xi, xf, xa, xe, tc, ts, ta, bc, bs, bm) → wpX_collects P (nI H, sp, nI C, bl, co, on, ba, ra, gu, se, si, st, la, pu, ps, sc, he, xb, xc, xi, xf, xa, xe, tc, ts, ta, bc, bs, bm) (nI c) (nI s) (nI L)) →
        (∀ (post : SY → Prop) (f : Nat), wY_gather_43 post (nI a0) (nI c) (nI s) f (nI (j + 1)) (nI H) sp (nI C) yn co ba ra gu se on si st la pu pb sc he ou yb yl yf ya ys ye zf za zs ze wy pt su bb bu → wY_gather_43 post (nI a0) (nI c) (nI s) (f + 1) (nI j) (nI H) sp (nI C) yn co ba ra gu se on si st la pu pb sc he ou yb yl yf ya ys ye zf za zs ze wy pt su bb bu) →
        ∃ u' v' j', cw_T H C sp on ba ra gu si xf xa xe u' v' ∧ cw_st u' c = 1 ∧ cw_ps u' c = nI q ∧ cw_ou u' c ≤ j' ∧ j' < 100 ∧ (∀ post : SX → Prop, post u' → xw_cO post (nI c) (nI s) (nI (13 * c + 12)) (d + 1 + 1) (nI j) (nI a) (nI H, sp, nI C, bl, co, on, ba, ra, gu, se, si, st, la, pu, ps, sc, he, xb, xc, xi, xf, xa, xe, tc, ts, ta, bc, bs, bm)) ∧
          (∀ post : SY → Prop, (∃ f, yw_43 post (nI a0) (nI c) (nI s) f (nI j') v') → ∃ f, yw_43 post (nI a0) (nI c) (nI s) f (nI j) (nI H, sp, nI C, yn, co, ba, ra, gu, se, on, si, st, la, pu, pb, sc, he, ou, yb, yl, yf, ya, ys, ye, zf, za, zs, ze, wy, pt, su, bb, bu)) := by
      intro hx hy
      obtain ⟨u', v', j', k1, k2, k3, k4, k5, k6, k7⟩ := ih (j + 1) (a + 1) _ _ (by omega) (by omega) t0 h1 hps (by
        show (xc (13 * c + 12)).toNatClampNeg ≤ j + 1 + d
        rw [e1, nI_clamp (by omega)]
        omega)
      refine ⟨u', v', j', k1, k2, k3, k4, k5, fun post hp => ?_, fun post hf => ?_⟩
      · unfold xw_cO
        dsimp only
        rw [wX_collectOutputs_14]
        simp (disch := omega) only [cw_le3, q3, cw_m2, cw_m3, cw_m4, cw_m13, cw_2m, cw_3m, cw_12m, cw_24m, cw_36m, cw_a12, cw_a3, nI_add, nI_1, pk_sub, nI_clamp, vp_in_nI, e1, qn, ez, forall_eq, nI_leI, nI_ltI, nI_eq, true_implies, forall_const, not_true_eq_false, not_false_eq_true, false_implies, and_true, true_and, implies_true, and_self, reduceIte]
        exact hx _ (br_t rfl (k6 post hp))
      · obtain ⟨f, hf⟩ := k7 post hf
        exact ⟨f + 1, hy post f hf⟩
    have take : ∀ co' se' he' : Nat → Int32, (∀ P : Int32 → SX → Prop, P 1 (nI H, sp, nI C, bl, co', on, ba, ra, gu, se', si, st, la, pu, ps, sc, he', xb, xc, xi, xf, xa, xe, tc, ts, ta, bc, bs, bm) → wpX_collects P (nI H, sp, nI C, bl, co, on, ba, ra, gu, se, si, st, la, pu, ps, sc, he, xb, xc, xi, xf, xa, xe, tc, ts, ta, bc, bs, bm) (nI c) (nI s) (nI L)) →
        (∀ (post : SY → Prop) (f : Nat), wY_gather_224 post (wY_gather_43 post (nI a0) (nI c) (nI s) f) (nI a0) (nI c) (nI s) (nI j) (nI H) sp (nI C) yn (co') ba ra gu (se') on si st la pu pb sc (he') ou yb yl yf ya ys ye zf za zs ze wy pt su bb bu → wY_gather_43 post (nI a0) (nI c) (nI s) (f + 1) (nI j) (nI H) sp (nI C) yn co ba ra gu se on si st la pu pb sc he ou yb yl yf ya ys ye zf za zs ze wy pt su bb bu) →
        ∃ u' v' j', cw_T H C sp on ba ra gu si xf xa xe u' v' ∧ cw_st u' c = 1 ∧ cw_ps u' c = nI q ∧ cw_ou u' c ≤ j' ∧ j' < 100 ∧ (∀ post : SX → Prop, post u' → xw_cO post (nI c) (nI s) (nI (13 * c + 12)) (d + 1 + 1) (nI j) (nI a) (nI H, sp, nI C, bl, co, on, ba, ra, gu, se, si, st, la, pu, ps, sc, he, xb, xc, xi, xf, xa, xe, tc, ts, ta, bc, bs, bm)) ∧
          (∀ post : SY → Prop, (∃ f, yw_43 post (nI a0) (nI c) (nI s) f (nI j') v') → ∃ f, yw_43 post (nI a0) (nI c) (nI s) f (nI j) (nI H, sp, nI C, yn, co, ba, ra, gu, se, on, si, st, la, pu, pb, sc, he, ou, yb, yl, yf, ya, ys, ye, zf, za, zs, ze, wy, pt, su, bb, bu)) := by
      intro co' se' he' hx hy
      have t2 : cw_T H C sp on ba ra gu si xf xa xe (nI H, sp, nI C, bl, co', on, ba, ra, gu, se', si, st, la, pu, ps, sc, he', xb, upd xc (13 * c + 12) (nI m), cw_shf xi (3 * (13 * c + 12) + j) (3 * (13 * c + 12) + 2), xf, xa, xe, tc, ts, ta, bc, bs, bm) (nI H, sp, nI C, yn, co', ba, ra, gu, se', on, si, st, la, pu, pb, sc, he', upd ou c (nI m), yb, yl, yf, ya, ys, ye, cw_shf zf (3 * c + j) (3 * c + m), cw_shf za (3 * c + j) (3 * c + m), cw_shf zs (3 * c + j) (3 * c + m), cw_shf ze (3 * c + j) (3 * c + m), wy, pt, su, bb, bu) :=
        ⟨bl, yn, _, _, st, la, pu, ps, sc, _, xb, _, _, tc, ts, ta, bc, bs, bm, pb, _, yb, yl, yf, ya, ys, ye, _, _, _, _, wy, pt, su, bb, bu, rfl, rfl, hS, hE, hF, cw_G_drop (c := c) hG (by omega), cw_O_drop (c := c) hO (by omega) h1' (by omega) e1, hZ⟩
      obtain ⟨u', v', j', k1, k2, k3, k4, k5, k6, k7⟩ := ih j (a + 1) _ _ (by omega) (by omega) t2 h1 hps (by
        show (upd xc (13 * c + 12) (nI m) (13 * c + 12)).toNatClampNeg ≤ j + d
        rw [pk_us, nI_clamp (by omega)]
        omega)
      refine ⟨u', v', j', k1, k2, k3, k4, k5, fun post hp => ?_, fun post hf => ?_⟩
      · unfold xw_cO
        dsimp only
        rw [wX_collectOutputs_14]
        simp (disch := omega) only [cw_le3, q3, cw_m2, cw_m3, cw_m4, cw_m13, cw_2m, cw_3m, cw_12m, cw_24m, cw_36m, cw_a12, cw_a3, nI_add, nI_1, pk_sub, nI_clamp, vp_in_nI, e1, qn, ez, forall_eq, nI_leI, nI_ltI, nI_eq, true_implies, forall_const, not_true_eq_false, not_false_eq_true, false_implies, and_true, true_and, implies_true, and_self, reduceIte]
        refine hx _ (br_f cw_n1 (xs_rem (m := m) (by omega) (by omega) e1 ?_))
        exact k6 post hp
      · obtain ⟨f, hf⟩ := k7 post hf
        refine ⟨f + 1, hy post f ?_⟩
        unfold wY_gather_224
        exact ys_drop (by omega) (by omega) (by omega) e2 hf
    have qj : ¬ m + 1 ≤ j := qn
    by_cases mi : xf L = nI s
    · by_cases e : xe L ≤ nI H
      · have e' : ¬ nI H < xe L := Int32.not_lt.mpr e
        by_cases hqs : q = s
        · subst hqs
          refine take co se (upd he c (he c + xa L)) (fun P hP => ?_) (fun post f hf => ?_)
          · simp (disch := omega) only [wpX_collects, wX_collects_74, cw_m2, cw_m3, cw_m4, cw_m13, cw_2m, cw_3m, cw_12m, cw_24m, cw_36m, cw_a12, cw_a3, nI_add, nI_1, pk_sub, nI_clamp, vp_in_nI, mi, e, hps', forall_eq, nI_leI, nI_ltI, nI_eq, true_implies, forall_const, not_true_eq_false, not_false_eq_true, false_implies, and_true, true_and, implies_true, and_self, reduceIte]
            exact hP
          · rw [wY_gather_43]
            simp (disch := omega) only [wY_gather_78, wY_gather_132, wY_gather_179, cw_m2, cw_m3, cw_m4, cw_m13, cw_2m, cw_3m, cw_12m, cw_24m, cw_36m, cw_a12, cw_a3, nI_add, nI_1, pk_sub, nI_clamp, vp_in_nI, e2, qj, efx, mi, eex, e', hpb, ea, eax, cw_n1, forall_eq, nI_leI, nI_ltI, nI_eq, true_implies, forall_const, not_true_eq_false, not_false_eq_true, false_implies, and_true, true_and, implies_true, and_self, reduceIte]
            exact hf
        · have n1 : ¬ ps c = nI s := by rw [hps', nI_eq (by omega) (by omega)]; exact hqs
          have n2 : ¬ pb c = nI a0 := by
            rw [hpb, ← ea]
            have : (q = 0 ∧ s = 1) ∨ (q = 1 ∧ s = 0) := by omega
            rcases this with ⟨rfl, rfl⟩ | ⟨rfl, rfl⟩
            · exact hnec
            · exact fun z => hnec z.symm
          refine take (upd co a0 (co a0 + xa L)) se he (fun P hP => ?_) (fun post f hf => ?_)
          · simp (disch := omega) only [wpX_collects, wX_collects_74, cw_m2, cw_m3, cw_m4, cw_m13, cw_2m, cw_3m, cw_12m, cw_24m, cw_36m, cw_a12, cw_a3, nI_add, nI_1, pk_sub, nI_clamp, vp_in_nI, mi, e, n1, ea, forall_eq, nI_leI, nI_ltI, nI_eq, true_implies, forall_const, not_true_eq_false, not_false_eq_true, false_implies, and_true, true_and, implies_true, and_self, reduceIte]
            exact hP
          · rw [wY_gather_43]
            simp (disch := omega) only [wY_gather_78, wY_gather_132, wY_gather_179, cw_m2, cw_m3, cw_m4, cw_m13, cw_2m, cw_3m, cw_12m, cw_24m, cw_36m, cw_a12, cw_a3, nI_add, nI_1, pk_sub, nI_clamp, vp_in_nI, e2, qj, efx, mi, eex, e', n2, eax, cw_n1, forall_eq, nI_leI, nI_ltI, nI_eq, true_implies, forall_const, not_true_eq_false, not_false_eq_true, false_implies, and_true, true_and, implies_true, and_self, reduceIte]
            exact hf
      · have e' : nI H < xe L := Int32.not_le.mp e
        refine leave (fun P hP => ?_) (fun post f hf => ?_)
        · simp (disch := omega) only [wpX_collects, cw_m2, cw_m3, cw_m4, cw_m13, cw_2m, cw_3m, cw_12m, cw_24m, cw_36m, cw_a12, cw_a3, nI_add, nI_1, pk_sub, nI_clamp, vp_in_nI, mi, e, forall_eq, nI_leI, nI_ltI, nI_eq, true_implies, forall_const, not_true_eq_false, not_false_eq_true, false_implies, and_true, true_and, implies_true, and_self, reduceIte]
          exact hP
        · rw [wY_gather_43]
          simp (disch := omega) only [wY_gather_78, wY_gather_132, cw_m2, cw_m3, cw_m4, cw_m13, cw_2m, cw_3m, cw_12m, cw_24m, cw_36m, cw_a12, cw_a3, nI_add, nI_1, pk_sub, nI_clamp, vp_in_nI, e2, qj, efx, mi, eex, e', cw_n1, forall_eq, nI_leI, nI_ltI, nI_eq, true_implies, forall_const, not_true_eq_false, not_false_eq_true, false_implies, and_true, true_and, implies_true, and_self, reduceIte]
          exact hf
    · by_cases b : bt (se a0) (L / 4) = true
      · by_cases hqs : q = s
        · subst hqs
          refine take co (upd se b0 (se b0 ||| ((1 : Int32) <<< (nI (L / 4) &&& 31)))) (upd he c (he c + xa L)) (fun P hP => ?_) (fun post f hf => ?_)
          · simp (disch := omega) only [wpX_collects, wX_collects_74, wpX_knowsSecretOf, cw_m2, cw_m3, cw_m4, cw_m13, cw_2m, cw_3m, cw_12m, cw_24m, cw_36m, cw_a12, cw_a3, nI_add, nI_1, pk_sub, nI_clamp, vp_in_nI, mi, ea, eb, cw_n4, cw_d4, cw_bit0, b, Bool.true_eq_false, cw_n1, hps', forall_eq, nI_leI, nI_ltI, nI_eq, true_implies, forall_const, not_true_eq_false, not_false_eq_true, false_implies, and_true, true_and, implies_true, and_self, reduceIte]
            exact hP
          · rw [wY_gather_43]
            simp (disch := omega) only [wY_gather_78, wY_gather_132, wY_gather_179, cw_m2, cw_m3, cw_m4, cw_m13, cw_2m, cw_3m, cw_12m, cw_24m, cw_36m, cw_a12, cw_a3, nI_add, nI_1, pk_sub, nI_clamp, vp_in_nI, e2, qj, efx, mi, esx, cw_bit1, b, hpb, ea, eb, eax, cw_n1, forall_eq, nI_leI, nI_ltI, nI_eq, true_implies, forall_const, not_true_eq_false, not_false_eq_true, false_implies, and_true, true_and, implies_true, and_self, reduceIte]
            exact hf
        · have n1 : ¬ ps c = nI s := by rw [hps', nI_eq (by omega) (by omega)]; exact hqs
          have n2 : ¬ pb c = nI a0 := by
            rw [hpb, ← ea]
            have : (q = 0 ∧ s = 1) ∨ (q = 1 ∧ s = 0) := by omega
            rcases this with ⟨rfl, rfl⟩ | ⟨rfl, rfl⟩
            · exact hnec
            · exact fun z => hnec z.symm
          refine take (upd co a0 (co a0 + xa L)) (upd se b0 (se b0 ||| ((1 : Int32) <<< (nI (L / 4) &&& 31)))) he (fun P hP => ?_) (fun post f hf => ?_)
          · simp (disch := omega) only [wpX_collects, wX_collects_74, wpX_knowsSecretOf, cw_m2, cw_m3, cw_m4, cw_m13, cw_2m, cw_3m, cw_12m, cw_24m, cw_36m, cw_a12, cw_a3, nI_add, nI_1, pk_sub, nI_clamp, vp_in_nI, mi, ea, eb, cw_n4, cw_d4, cw_bit0, b, Bool.true_eq_false, cw_n1, n1, forall_eq, nI_leI, nI_ltI, nI_eq, true_implies, forall_const, not_true_eq_false, not_false_eq_true, false_implies, and_true, true_and, implies_true, and_self, reduceIte]
            exact hP
          · rw [wY_gather_43]
            simp (disch := omega) only [wY_gather_78, wY_gather_132, wY_gather_179, cw_m2, cw_m3, cw_m4, cw_m13, cw_2m, cw_3m, cw_12m, cw_24m, cw_36m, cw_a12, cw_a3, nI_add, nI_1, pk_sub, nI_clamp, vp_in_nI, e2, qj, efx, mi, esx, cw_bit1, b, n2, eb, eax, cw_n1, forall_eq, nI_leI, nI_ltI, nI_eq, true_implies, forall_const, not_true_eq_false, not_false_eq_true, false_implies, and_true, true_and, implies_true, and_self, reduceIte]
            exact hf
      · have b' : bt (se a0) (L / 4) = false := by
          cases z : bt (se a0) (L / 4)
          · rfl
          · exact absurd z b
        refine leave (fun P hP => ?_) (fun post f hf => ?_)
        · simp (disch := omega) only [wpX_collects, wpX_knowsSecretOf, cw_m2, cw_m3, cw_m4, cw_m13, cw_2m, cw_3m, cw_12m, cw_24m, cw_36m, cw_a12, cw_a3, nI_add, nI_1, pk_sub, nI_clamp, vp_in_nI, mi, ea, cw_n4, cw_d4, cw_bit0, b', forall_eq, nI_leI, nI_ltI, nI_eq, true_implies, forall_const, not_true_eq_false, not_false_eq_true, false_implies, and_true, true_and, implies_true, and_self, reduceIte]
          exact hP
        · rw [wY_gather_43]
          simp (disch := omega) only [wY_gather_78, wY_gather_132, cw_m2, cw_m3, cw_m4, cw_m13, cw_2m, cw_3m, cw_12m, cw_24m, cw_36m, cw_a12, cw_a3, nI_add, nI_1, pk_sub, nI_clamp, vp_in_nI, e2, qj, efx, mi, esx, cw_bit1, b', Bool.false_eq_true, cw_n1, forall_eq, nI_leI, nI_ltI, nI_eq, true_implies, forall_const, not_true_eq_false, not_false_eq_true, false_implies, and_true, true_and, implies_true, and_self, reduceIte]
          exact hf
end COLL
end
section
/-! part 13: a closed channel; the guards; in step -/
section CL2
variable {h sp ch bl yn : Int32} {co on ba ra gu se si st la pu ps sc he xb xc xi xf xa xe tc ts ta bc bs bm pb ou yb yl yf ya ys ye zf za zs ze wy pt su bb bu : Nat → Int32}
theorem ls_closed {H C : Nat} {u : SX} {v : SY} (hH : H < 100000) (hB : cw_B C si) (t : cw_T H C sp on ba ra gu si xf xa xe u v) {c s : Nat} (hc : c < C) (hs : s < 2) :
    ∃ u' v', cw_T H C sp on ba ra gu si xf xa xe u' v' ∧ (∀ post : SX → Prop, post u' → wpX_tendClosed post u (nI c) (nI s)) ∧
      (∀ (post : SY → Prop) (J : Int32 → SY → Prop), J (nI (c + 1)) v' → ∃ f, yw_37 post J (si (2 * c + s)) (nI c) f 0 v) := by
  have hB0 := hB
  obtain ⟨hC, hsi, hne⟩ := hB
  have hnec := hne c hc
  obtain ⟨a0, ha0, ea⟩ := hsi (2 * c + s) (by omega)
  have t0 := t
  obtain ⟨bl, yn, co, se, st, la, pu, ps, sc, he, xb, xc, xi, tc, ts, ta, bc, bs, bm, pb, ou, yb, yl, yf, ya, ys, ye, zf, za, zs, ze, wy, pt, su, bb, bu, rfl, rfl, hS, hE, hF, hG, hO, hZ⟩ := t
  by_cases h1 : st c = 1
  · obtain ⟨q, hq, hps, hpb⟩ := (hE c (by omega)).2.2
    have hpb := hpb h1
    by_cases hqs : q = s
    · -- the publisher itself
      subst hqs
      obtain ⟨⟨n, hn, e1, e2, _⟩, _⟩ := hO c (by omega)
      obtain ⟨u1, v1, j', k1, k2, k3, k4, k5, k6, k7⟩ := ls_cl hB0 hc hs hq 3 0 0 _ _ rfl (Nat.le_refl _) t0 h1 hps (by
        show (xc (13 * c + 12)).toNatClampNeg ≤ 0 + 3
        rw [e1, nI_clamp (by omega)]
        omega)
      rw [ea] at k7 hpb
      have Y1 : ∀ (post : SY → Prop) (J : Int32 → SY → Prop), (∃ f, yw_43 (fun v => J (nI (c + 1)) v) (nI a0) (nI c) (nI q) f 0 (nI H, sp, nI C, yn, co, ba, ra, gu, se, on, si, st, la, pu, pb, sc, he, ou, yb, yl, yf, ya, ys, ye, zf, za, zs, ze, wy, pt, su, bb, bu)) → ∃ f, yw_37 post J (nI a0) (nI c) f 0 (nI H, sp, nI C, yn, co, ba, ra, gu, se, on, si, st, la, pu, pb, sc, he, ou, yb, yl, yf, ya, ys, ye, zf, za, zs, ze, wy, pt, su, bb, bu) := by
        intro post J hf
        refine ⟨1, ?_⟩
        unfold yw_37
        dsimp only
        rw [wY_turn_37]
        simp (disch := omega) only [wpY_gather, wY_gather_33, cw_m2, cw_m3, cw_m4, cw_m13, cw_2m, cw_3m, cw_12m, cw_24m, cw_36m, cw_a12, cw_a3, nI_add, nI_1, pk_sub, nI_clamp, vp_in_nI, h1, hpb, forall_eq, nI_leI, nI_ltI, nI_eq, true_implies, forall_const, not_true_eq_false, not_false_eq_true, false_implies, and_true, true_and, implies_true, and_self, reduceIte]
        refine ys_side (by omega) hs ea hnec ?_
        exact hf
      rw [ea]
      have k1' := k1
      obtain ⟨bl, yn, co, se, st, la, pu, ps, sc, he, xb, xc, xi, tc, ts, ta, bc, bs, bm, pb, ou, yb, yl, yf, ya, ys, ye, zf, za, zs, ze, wy, pt, su, bb, bu, rfl, rfl, hS, hE, hF, hG, hO, hZ⟩ := k1
      have h1' : st c = 1 := k2
      have hps' : ps c = nI q := k3
      have hpb' : pb c = nI a0 := by
        obtain ⟨s', hs', es', hb'⟩ := (hE c (by omega)).2.2
        have : q = s' := (nI_eq (by omega) (by omega)).mp (hps'.symm.trans es')
        rw [hb' h1', ← this]
        exact ea
      obtain ⟨⟨n', hn', e1', e2', _⟩, _⟩ := hO c (by omega)
      have k4' : n' ≤ j' := by
        have : (xc (13 * c + 12)).toNatClampNeg ≤ j' := k4
        rwa [e1', nI_clamp (by omega)] at this
      obtain ⟨S, hSH, eS⟩ := hS c (by omega)
      by_cases hr : H - S < 3
      · have hr' : ¬ S + 3 ≤ H := by omega
        refine ⟨_, _, k1', fun post hp => ?_, fun post J hJ => Y1 post J (k7 _ ⟨1, ?_⟩)⟩
        · unfold wpX_tendClosed
          dsimp only
          refine ⟨pk_in c 8 (by omega), ?_⟩
          rw [nI_clamp (by omega)]
          refine br_t h1 ?_
          simp (disch := omega) only [wpX_isCheated, wpX_collectOutputs, nI_clamp, vp_in_nI, h1, hps, cw_m13, cw_a12, nI_add, forall_eq, true_implies, not_true_eq_false, not_false_eq_true, false_implies, and_true, true_and]
          refine ⟨_, k6 _ ?_⟩
          simp (disch := omega) only [cw_tl3, cw_m2, cw_m3, cw_m4, cw_m13, cw_2m, cw_3m, cw_12m, cw_24m, cw_36m, cw_a12, cw_a3, nI_add, nI_1, pk_sub, nI_clamp, vp_in_nI, hps', eS, hr, forall_eq, nI_leI, nI_ltI, nI_eq, true_implies, forall_const, not_true_eq_false, not_false_eq_true, false_implies, and_true, true_and, implies_true, and_self, reduceIte]
          exact hp
        · unfold yw_43
          dsimp only
          rw [wY_gather_43]
          simp (disch := omega) only [cw_m2, cw_m3, cw_m4, cw_m13, cw_2m, cw_3m, cw_12m, cw_24m, cw_36m, cw_a12, cw_a3, nI_add, nI_1, pk_sub, nI_clamp, vp_in_nI, e2', k4', hpb', eS, hr', forall_eq, nI_leI, nI_ltI, nI_eq, true_implies, forall_const, not_true_eq_false, not_false_eq_true, false_implies, and_true, true_and, implies_true, and_self, reduceIte]
          exact hJ
      · have hr' : S + 3 ≤ H := by omega
        refine ⟨_, _, ⟨bl, yn, upd co a0 (co a0 + he c), se, st, la, pu, ps, sc, upd he c 0, xb, xc, xi, tc, ts, ta, bc, bs, bm, pb, ou, yb, yl, yf, ya, ys, ye, zf, za, zs, ze, wy, pt, su, bb, bu, rfl, rfl, hS, hE, hF, hG, hO, hZ⟩, fun post hp => ?_, fun post J hJ => Y1 post J (k7 _ ⟨1, ?_⟩)⟩
        · unfold wpX_tendClosed
          dsimp only
          refine ⟨pk_in c 8 (by omega), ?_⟩
          rw [nI_clamp (by omega)]
          refine br_t h1 ?_
          simp (disch := omega) only [wpX_isCheated, wpX_collectOutputs, nI_clamp, vp_in_nI, h1, hps, cw_m13, cw_a12, nI_add, forall_eq, true_implies, not_true_eq_false, not_false_eq_true, false_implies, and_true, true_and]
          refine ⟨_, k6 _ ?_⟩
          simp (disch := omega) only [cw_tl3, cw_m2, cw_m3, cw_m4, cw_m13, cw_2m, cw_3m, cw_12m, cw_24m, cw_36m, cw_a12, cw_a3, nI_add, nI_1, pk_sub, nI_clamp, vp_in_nI, hps', eS, hr, ea, forall_eq, nI_leI, nI_ltI, nI_eq, true_implies, forall_const, not_true_eq_false, not_false_eq_true, false_implies, and_true, true_and, implies_true, and_self, reduceIte]
          exact hp
        · unfold yw_43
          dsimp only
          rw [wY_gather_43]
          simp (disch := omega) only [cw_m2, cw_m3, cw_m4, cw_m13, cw_2m, cw_3m, cw_12m, cw_24m, cw_36m, cw_a12, cw_a3, nI_add, nI_1, pk_sub, nI_clamp, vp_in_nI, e2', k4', hpb', eS, hr', forall_eq, nI_leI, nI_ltI, nI_eq, true_implies, forall_const, not_true_eq_false, not_false_eq_true, false_implies, and_true, true_and, implies_true, and_self, reduceIte]
          exact hJ
    · have n1 : ¬ ps c = nI s := by rw [hps, nI_eq (by omega) (by omega)]; exact hqs
      have n2 : ¬ pb c = nI a0 := by
        rw [hpb, ← ea]
        have : (q = 0 ∧ s = 1) ∨ (q = 1 ∧ s = 0) := by omega
        rcases this with ⟨rfl, rfl⟩ | ⟨rfl, rfl⟩
        · exact hnec
        · exact fun z => hnec z.symm
      by_cases hpl : pu c = la c
      · obtain ⟨⟨n, hn, e1, e2, _⟩, _⟩ := hO c (by omega)
        obtain ⟨u1, v1, j', k1, k2, k3, k4, k5, k6, k7⟩ := ls_cl hB0 hc hs hq 3 0 0 _ _ rfl (Nat.le_refl _) t0 h1 hps (by
          show (xc (13 * c + 12)).toNatClampNeg ≤ 0 + 3
          rw [e1, nI_clamp (by omega)]
          omega)
        rw [ea] at k7
        have Y1 : ∀ (post : SY → Prop) (J : Int32 → SY → Prop), (∃ f, yw_43 (fun v => J (nI (c + 1)) v) (nI a0) (nI c) (nI s) f 0 (nI H, sp, nI C, yn, co, ba, ra, gu, se, on, si, st, la, pu, pb, sc, he, ou, yb, yl, yf, ya, ys, ye, zf, za, zs, ze, wy, pt, su, bb, bu)) → ∃ f, yw_37 post J (nI a0) (nI c) f 0 (nI H, sp, nI C, yn, co, ba, ra, gu, se, on, si, st, la, pu, pb, sc, he, ou, yb, yl, yf, ya, ys, ye, zf, za, zs, ze, wy, pt, su, bb, bu) := by
          intro post J hf
          refine ⟨1, ?_⟩
          unfold yw_37
          dsimp only
          rw [wY_turn_37]
          simp (disch := omega) only [wpY_gather, wY_gather_33, cw_m2, cw_m3, cw_m4, cw_m13, cw_2m, cw_3m, cw_12m, cw_24m, cw_36m, cw_a12, cw_a3, nI_add, nI_1, pk_sub, nI_clamp, vp_in_nI, h1, n2, hpl, forall_eq, nI_leI, nI_ltI, nI_eq, true_implies, forall_const, not_true_eq_false, not_false_eq_true, false_implies, and_true, true_and, implies_true, and_self, reduceIte]
          refine ys_side (by omega) hs ea hnec ?_
          exact hf
        rw [ea]
        refine ⟨u1, v1, k1, fun post hp => ?_, fun post J hJ => Y1 post J (k7 _ ⟨1, ?_⟩)⟩
        · unfold wpX_tendClosed
          dsimp only
          refine ⟨pk_in c 8 (by omega), ?_⟩
          rw [nI_clamp (by omega)]
          refine br_t h1 ?_
          have n1' : ¬ nI q = nI s := by rw [← hps]; exact n1
          simp (disch := omega) only [wpX_isCheated, wpX_collectOutputs, nI_clamp, vp_in_nI, h1, n1, hpl, cw_m13, cw_a12, forall_eq, true_implies, not_true_eq_false, not_false_eq_true, false_implies, and_true, true_and]
          refine ⟨_, k6 _ ?_⟩
          obtain ⟨bl, yn, co, se, st, la, pu, ps, sc, he, xb, xc, xi, tc, ts, ta, bc, bs, bm, pb, ou, yb, yl, yf, ya, ys, ye, zf, za, zs, ze, wy, pt, su, bb, bu, rfl, rfl, hS, hE, hF, hG, hO, hZ⟩ := k1
          have hps' : ps c = nI q := k3
          have hqs' : ¬ q = s := hqs
          simp (disch := omega) only [cw_m2, cw_m3, cw_m4, cw_m13, cw_2m, cw_3m, cw_12m, cw_24m, cw_36m, cw_a12, cw_a3, nI_add, nI_1, pk_sub, nI_clamp, vp_in_nI, hps', hqs', forall_eq, nI_leI, nI_ltI, nI_eq, true_implies, forall_const, not_true_eq_false, not_false_eq_true, false_implies, and_true, true_and, implies_true, and_self, reduceIte]
          exact hp
        · obtain ⟨bl, yn, co, se, st, la, pu, ps, sc, he, xb, xc, xi, tc, ts, ta, bc, bs, bm, pb, ou, yb, yl, yf, ya, ys, ye, zf, za, zs, ze, wy, pt, su, bb, bu, rfl, rfl, hS, hE, hF, hG, hO, hZ⟩ := k1
          have h1' : st c = 1 := k2
          have hps' : ps c = nI q := k3
          have n2' : ¬ pb c = nI a0 := by
            obtain ⟨s', hs', es', hb'⟩ := (hE c (by omega)).2.2
            have : q = s' := (nI_eq (by omega) (by omega)).mp (hps'.symm.trans es')
            rw [hb' h1', ← this, ← hpb]
            exact n2
          obtain ⟨⟨n', hn', e1', e2', _⟩, _⟩ := hO c (by omega)
          have k4' : n' ≤ j' := by
            have : (xc (13 * c + 12)).toNatClampNeg ≤ j' := k4
            rwa [e1', nI_clamp (by omega)] at this
          unfold yw_43
          dsimp only
          rw [wY_gather_43]
          simp (disch := omega) only [cw_m2, cw_m3, cw_m4, cw_m13, cw_2m, cw_3m, cw_12m, cw_24m, cw_36m, cw_a12, cw_a3, nI_add, nI_1, pk_sub, nI_clamp, vp_in_nI, e2', k4', n2', forall_eq, nI_leI, nI_ltI, nI_eq, true_implies, forall_const, not_true_eq_false, not_false_eq_true, false_implies, and_true, true_and, implies_true, and_self, reduceIte]
          exact hJ
      · obtain ⟨u1, v1, r, k1, hx, hy⟩ := ls_punish hB0 t0 hc hq hps
        have e3 : si (2 * c + 1 - q) = nI a0 := by rw [show 2 * c + 1 - q = 2 * c + s by omega]; exact ea
        rw [e3] at hy
        rw [ea]
        refine ⟨u1, v1, k1, fun post hp => ?_, fun post J hJ => ⟨1, ?_⟩⟩
        · simp (disch := omega) only [wpX_tendClosed, wpX_isCheated, nI_clamp, vp_in_nI, h1, n1, hpl, cw_n1, true_implies, not_true_eq_false, not_false_eq_true, false_implies, and_true, true_and]
          refine hx _ ?_
          obtain ⟨h, sp, ch, bl, co, on, ba, ra, gu, se, si, st, la, pu, ps, sc, he, xb, xc, xi, xf, xa, xe, tc, ts, ta, bc, bs, bm⟩ := u1
          exact hp
        · unfold yw_37
          dsimp only
          rw [wY_turn_37]
          simp (disch := omega) only [wpY_gather, cw_m2, cw_m3, cw_m4, cw_m13, cw_2m, cw_3m, cw_12m, cw_24m, cw_36m, cw_a12, cw_a3, nI_add, nI_1, pk_sub, nI_clamp, vp_in_nI, h1, n2, hpl, forall_eq, nI_leI, nI_ltI, nI_eq, true_implies, forall_const, not_true_eq_false, not_false_eq_true, false_implies, and_true, true_and, implies_true, and_self, reduceIte]
          refine hy _ ?_
          obtain ⟨h, sp, ch, yn, co, ba, ra, gu, se, on, si, st, la, pu, pb, sc, he, ou, yb, yl, yf, ya, ys, ye, zf, za, zs, ze, wy, pt, su, bb, bu⟩ := v1
          exact hJ
  · refine ⟨_, _, t0, fun post hp => ?_, fun post J hJ => ⟨1, ?_⟩⟩
    · simp (disch := omega) only [wpX_tendClosed, cw_m2, cw_m3, cw_m4, cw_m13, cw_2m, cw_3m, cw_12m, cw_24m, cw_36m, cw_a12, cw_a3, nI_add, nI_1, pk_sub, nI_clamp, vp_in_nI, h1, forall_eq, nI_leI, nI_ltI, nI_eq, true_implies, forall_const, not_true_eq_false, not_false_eq_true, false_implies, and_true, true_and, implies_true, and_self, reduceIte]
      exact hp
    · unfold yw_37
      dsimp only
      rw [wY_turn_37]
      simp (disch := omega) only [cw_m2, cw_m3, cw_m4, cw_m13, cw_2m, cw_3m, cw_12m, cw_24m, cw_36m, cw_a12, cw_a3, nI_add, nI_1, pk_sub, nI_clamp, vp_in_nI, h1, forall_eq, nI_leI, nI_ltI, nI_eq, true_implies, forall_const, not_true_eq_false, not_false_eq_true, false_implies, and_true, true_and, implies_true, and_self, reduceIte]
      exact hJ
end CL2
end
section
/-! part 14: guards, a turn, a block, in step -/
section BLK
variable {h sp ch bl yn : Int32} {co on ba ra gu se si st la pu ps sc he xb xc xi xf xa xe tc ts ta bc bs bm pb ou yb yl yf ya ys ye zf za zs ze wy pt su bb bu : Nat → Int32}
def xw_gP (post : SX → Prop) (x1 x2 : Int32) (n : Nat) (x3 : Int32) (u : SX) : Prop := match u with
  | (h, sp, ch, bl, co, on, ba, ra, gu, se, si, st, la, pu, ps, sc, he, xb, xc, xi, xf, xa, xe, tc, ts, ta, bc, bs, bm) => wX_guardParty_2 post x1 x2 n x3 h sp ch bl co on ba ra gu se si st la pu ps sc he xb xc xi xf xa xe tc ts ta bc bs bm
def yw_116 (post : SY → Prop) (J : Int32 → SY → Prop) (x1 x2 : Int32) (n : Nat) (x3 : Int32) (v : SY) : Prop := match v with
  | (h, sp, ch, yn, co, ba, ra, gu, se, on, si, st, la, pu, pb, sc, he, ou, yb, yl, yf, ya, ys, ye, zf, za, zs, ze, wy, pt, su, bb, bu) => wY_turn_116 post (fun x h sp ch yn co ba ra gu se on si st la pu pb sc he ou yb yl yf ya ys ye zf za zs ze wy pt su bb bu => J x (h, sp, ch, yn, co, ba, ra, gu, se, on, si, st, la, pu, pb, sc, he, ou, yb, yl, yf, ya, ys, ye, zf, za, zs, ze, wy, pt, su, bb, bu)) x1 x2 n x3 h sp ch yn co ba ra gu se on si st la pu pb sc he ou yb yl yf ya ys ye zf za zs ze wy pt su bb bu
def xw_40 (post : SX → Prop) (x1 : Int32) (n : Nat) (x2 : Int32) (u : SX) : Prop := match u with
  | (h, sp, ch, bl, co, on, ba, ra, gu, se, si, st, la, pu, ps, sc, he, xb, xc, xi, xf, xa, xe, tc, ts, ta, bc, bs, bm) => wX_takeTurn_40 post x1 n x2 h sp ch bl co on ba ra gu se si st la pu ps sc he xb xc xi xf xa xe tc ts ta bc bs bm
def yw_86 (post : SY → Prop) (x1 : Int32) (n : Nat) (x2 : Int32) (v : SY) : Prop := match v with
  | (h, sp, ch, yn, co, ba, ra, gu, se, on, si, st, la, pu, pb, sc, he, ou, yb, yl, yf, ya, ys, ye, zf, za, zs, ze, wy, pt, su, bb, bu) => wY_turn_86 post x1 n x2 h sp ch yn co ba ra gu se on si st la pu pb sc he ou yb yl yf ya ys ye zf za zs ze wy pt su bb bu
def xw_2 (post : SX → Prop) (x1 : Int32) (n : Nat) (x2 : Int32) (u : SX) : Prop := match u with
  | (h, sp, ch, bl, co, on, ba, ra, gu, se, si, st, la, pu, ps, sc, he, xb, xc, xi, xf, xa, xe, tc, ts, ta, bc, bs, bm) => wX_takeTurn_2 post x1 n x2 h sp ch bl co on ba ra gu se si st la pu ps sc he xb xc xi xf xa xe tc ts ta bc bs bm
def yw_2 (post : SY → Prop) (x1 : Int32) (n : Nat) (x2 : Int32) (v : SY) : Prop := match v with
  | (h, sp, ch, yn, co, ba, ra, gu, se, on, si, st, la, pu, pb, sc, he, ou, yb, yl, yf, ya, ys, ye, zf, za, zs, ze, wy, pt, su, bb, bu) => wY_turn_2 post x1 n x2 h sp ch yn co ba ra gu se on si st la pu pb sc he ou yb yl yf ya ys ye zf za zs ze wy pt su bb bu
def xw_33 (post : Int32 → SX → Prop) (J : Int32 → SX → Prop) (x1 x2 : Int32) (n : Nat) (x3 : Int32) (u : SX) : Prop := match u with
  | (h, sp, ch, bl, co, on, ba, ra, gu, se, si, st, la, pu, ps, sc, he, xb, xc, xi, xf, xa, xe, tc, ts, ta, bc, bs, bm) => wX_block_33 post (fun x h sp ch bl co on ba ra gu se si st la pu ps sc he xb xc xi xf xa xe tc ts ta bc bs bm => J x (h, sp, ch, bl, co, on, ba, ra, gu, se, si, st, la, pu, ps, sc, he, xb, xc, xi, xf, xa, xe, tc, ts, ta, bc, bs, bm)) x1 x2 n x3 h sp ch bl co on ba ra gu se si st la pu ps sc he xb xc xi xf xa xe tc ts ta bc bs bm
def yw_33 (post : Int32 → SY → Prop) (J : Int32 → SY → Prop) (x1 x2 : Int32) (n : Nat) (x3 : Int32) (v : SY) : Prop := match v with
  | (h, sp, ch, yn, co, ba, ra, gu, se, on, si, st, la, pu, pb, sc, he, ou, yb, yl, yf, ya, ys, ye, zf, za, zs, ze, wy, pt, su, bb, bu) => wY_block_33 post (fun x h sp ch yn co ba ra gu se on si st la pu pb sc he ou yb yl yf ya ys ye zf za zs ze wy pt su bb bu => J x (h, sp, ch, yn, co, ba, ra, gu, se, on, si, st, la, pu, pb, sc, he, ou, yb, yl, yf, ya, ys, ye, zf, za, zs, ze, wy, pt, su, bb, bu)) x1 x2 n x3 h sp ch yn co ba ra gu se on si st la pu pb sc he ou yb yl yf ya ys ye zf za zs ze wy pt su bb bu
def xw_16 (post : Int32 → SX → Prop) (x1 : Int32) (n : Nat) (x2 : Int32) (u : SX) : Prop := match u with
  | (h, sp, ch, bl, co, on, ba, ra, gu, se, si, st, la, pu, ps, sc, he, xb, xc, xi, xf, xa, xe, tc, ts, ta, bc, bs, bm) => wX_block_16 post x1 n x2 h sp ch bl co on ba ra gu se si st la pu ps sc he xb xc xi xf xa xe tc ts ta bc bs bm
def yw_16 (post : Int32 → SY → Prop) (x1 : Int32) (n : Nat) (x2 : Int32) (v : SY) : Prop := match v with
  | (h, sp, ch, yn, co, ba, ra, gu, se, on, si, st, la, pu, pb, sc, he, ou, yb, yl, yf, ya, ys, ye, zf, za, zs, ze, wy, pt, su, bb, bu) => wY_block_16 post x1 n x2 h sp ch yn co ba ra gu se on si st la pu pb sc he ou yb yl yf ya ys ye zf za zs ze wy pt su bb bu
theorem xs_side {post : Int32 → Prop} {c s C : Nat} {p : Int32} (hc : c < C) (hC : C ≤ 8) (hs : s < 2) (es : si (2 * c + s) = p) (hne : ¬ si (2 * c) = si (2 * c + 1)) (H : post (nI s)) : wpX_sideOf post (h, sp, nI C, bl, co, on, ba, ra, gu, se, si, st, la, pu, ps, sc, he, xb, xc, xi, xf, xa, xe, tc, ts, ta, bc, bs, bm) (nI c) p := by
  have : s = 0 ∨ s = 1 := by omega
  rcases this with rfl | rfl
  · exact xs_sideOf (by omega) hC (fun _ _ => H) (fun _ a => absurd es a) (fun z => absurd es (z hc).1)
  · exact xs_sideOf (by omega) hC (fun _ a => absurd (a.trans es.symm) hne) (fun _ _ _ => H) (fun z => absurd es (z hc).2)
theorem xs_noside {post : Int32 → Prop} {c C : Nat} {p : Int32} (hc : c < 8) (hC : C ≤ 8) (hn : c < C → ¬ si (2 * c) = p ∧ ¬ si (2 * c + 1) = p) (H : post (-1)) : wpX_sideOf post (h, sp, nI C, bl, co, on, ba, ra, gu, se, si, st, la, pu, ps, sc, he, xb, xc, xi, xf, xa, xe, tc, ts, ta, bc, bs, bm) (nI c) p :=
  xs_sideOf hc hC (fun z a => absurd a (hn z).1) (fun z _ b => absurd b (hn z).2) (fun _ => H)
theorem cw_nsm {s : Nat} (hs : s < 2) : ¬ nI s = -1 := cw_ne1 (by omega)
theorem cw_nsl {s : Nat} (hs : s < 2) : ¬ nI s < 0 := nI_pos (by omega)
theorem cw_nsg {s : Nat} (hs : s < 2) : 0 ≤ nI s := nI_pos' (by omega)
theorem ls_watch {H C : Nat} {u : SX} {v : SY} (hB : cw_B C si) (t : cw_T H C sp on ba ra gu si xf xa xe u v) {c w g : Nat} (hc : c < C) (hw : w < 6) (hg : g < 6) :
    ∃ u' v', cw_T H C sp on ba ra gu si xf xa xe u' v' ∧ (∀ (post : SX → Prop) (n : Nat), xw_gP post (nI w) (nI g) n (nI (c + 1)) u' → xw_gP post (nI w) (nI g) (n + 1) (nI c) u) ∧ (∀ post : SY → Prop, post v' → wpY_watch post v (nI g) (nI w) (nI c)) := by
  have hB0 := hB
  obtain ⟨hC, hsi, hne⟩ := hB
  have hnec := hne c hc
  have t0 := t
  obtain ⟨bl, yn, co, se, st, la, pu, ps, sc, he, xb, xc, xi, tc, ts, ta, bc, bs, bm, pb, ou, yb, yl, yf, ya, ys, ye, zf, za, zs, ze, wy, pt, su, bb, bu, rfl, rfl, hS, hE, hF, hG, hO, hZ⟩ := t
  have q8 : ¬ 8 ≤ c := by omega
  by_cases hex : ∃ s, s < 2 ∧ si (2 * c + s) = nI w
  · obtain ⟨s, hs, es⟩ := hex
    have idle : (∀ P : Int32 → Prop, P 0 → wpX_isCheated P (nI H, sp, nI C, bl, co, on, ba, ra, gu, se, si, st, la, pu, ps, sc, he, xb, xc, xi, xf, xa, xe, tc, ts, ta, bc, bs, bm) (nI c) (nI s)) → (∀ post : SY → Prop, post (nI H, sp, nI C, yn, co, ba, ra, gu, se, on, si, st, la, pu, pb, sc, he, ou, yb, yl, yf, ya, ys, ye, zf, za, zs, ze, wy, pt, su, bb, bu) → wpY_watch post (nI H, sp, nI C, yn, co, ba, ra, gu, se, on, si, st, la, pu, pb, sc, he, ou, yb, yl, yf, ya, ys, ye, zf, za, zs, ze, wy, pt, su, bb, bu) (nI g) (nI w) (nI c)) →
        ∃ u' v', cw_T H C sp on ba ra gu si xf xa xe u' v' ∧ (∀ (post : SX → Prop) (n : Nat), xw_gP post (nI w) (nI g) n (nI (c + 1)) u' → xw_gP post (nI w) (nI g) (n + 1) (nI c) (nI H, sp, nI C, bl, co, on, ba, ra, gu, se, si, st, la, pu, ps, sc, he, xb, xc, xi, xf, xa, xe, tc, ts, ta, bc, bs, bm)) ∧ (∀ post : SY → Prop, post v' → wpY_watch post (nI H, sp, nI C, yn, co, ba, ra, gu, se, on, si, st, la, pu, pb, sc, he, ou, yb, yl, yf, ya, ys, ye, zf, za, zs, ze, wy, pt, su, bb, bu) (nI g) (nI w) (nI c)) := by
      intro hx hy
      refine ⟨_, _, t0, fun post n hp => ?_, hy⟩
      unfold xw_gP
      dsimp only
      rw [wX_guardParty_2]
      simp (disch := omega) only [cw_le8, q8, cw_m2, cw_m3, cw_m4, cw_m13, cw_2m, cw_3m, cw_12m, cw_24m, cw_36m, cw_a12, cw_a3, nI_add, nI_1, pk_sub, nI_clamp, vp_in_nI, forall_eq, nI_leI, nI_ltI, nI_eq, true_implies, forall_const, not_true_eq_false, not_false_eq_true, false_implies, and_true, true_and, implies_true, and_self, reduceIte]
      exact xs_side hc hC hs es hnec (br_f (cw_nsm hs) (hx _ (br_t rfl hp)))
    by_cases h1 : st c = 1
    · obtain ⟨q, hq, hps, hpb⟩ := (hE c (by omega)).2.2
      have hpb := hpb h1
      by_cases hqs : q = s
      · subst hqs
        rw [es] at hpb
        refine idle (fun P hP => ?_) (fun post hp => ?_)
        · simp (disch := omega) only [wpX_isCheated, cw_m2, cw_m3, cw_m4, cw_m13, cw_2m, cw_3m, cw_12m, cw_24m, cw_36m, cw_a12, cw_a3, nI_add, nI_1, pk_sub, nI_clamp, vp_in_nI, h1, hps, forall_eq, nI_leI, nI_ltI, nI_eq, true_implies, forall_const, not_true_eq_false, not_false_eq_true, false_implies, and_true, true_and, implies_true, and_self, reduceIte]
          exact hP
        · unfold wpY_watch
          dsimp only
          refine ys_side (by omega) hs es hnec (br_f (cw_nsl hs) ?_)
          simp (disch := omega) only [cw_m2, cw_m3, cw_m4, cw_m13, cw_2m, cw_3m, cw_12m, cw_24m, cw_36m, cw_a12, cw_a3, nI_add, nI_1, pk_sub, nI_clamp, vp_in_nI, h1, hpb, forall_eq, nI_leI, nI_ltI, nI_eq, true_implies, forall_const, not_true_eq_false, not_false_eq_true, false_implies, and_true, true_and, implies_true, and_self, reduceIte]
          exact hp
      · have n1 : ¬ ps c = nI s := by rw [hps, nI_eq (by omega) (by omega)]; exact hqs
        have n2 : ¬ pb c = nI w := by
          rw [hpb, ← es]
          have : (q = 0 ∧ s = 1) ∨ (q = 1 ∧ s = 0) := by omega
          rcases this with ⟨rfl, rfl⟩ | ⟨rfl, rfl⟩
          · exact hnec
          · exact fun z => hnec z.symm
        by_cases hpl : pu c = la c
        · refine idle (fun P hP => ?_) (fun post hp => ?_)
          · simp (disch := omega) only [wpX_isCheated, cw_m2, cw_m3, cw_m4, cw_m13, cw_2m, cw_3m, cw_12m, cw_24m, cw_36m, cw_a12, cw_a3, nI_add, nI_1, pk_sub, nI_clamp, vp_in_nI, h1, n1, hpl, forall_eq, nI_leI, nI_ltI, nI_eq, true_implies, forall_const, not_true_eq_false, not_false_eq_true, false_implies, and_true, true_and, implies_true, and_self, reduceIte]
            exact hP
          · unfold wpY_watch
            dsimp only
            refine ys_side (by omega) hs es hnec (br_f (cw_nsl hs) ?_)
            simp (disch := omega) only [cw_m2, cw_m3, cw_m4, cw_m13, cw_2m, cw_3m, cw_12m, cw_24m, cw_36m, cw_a12, cw_a3, nI_add, nI_1, pk_sub, nI_clamp, vp_in_nI, h1, n2, hpl, forall_eq, nI_leI, nI_ltI, nI_eq, true_implies, forall_const, not_true_eq_false, not_false_eq_true, false_implies, and_true, true_and, implies_true, and_self, reduceIte]
            exact hp
        · obtain ⟨u1, v1, r, k1, hx, hy⟩ := ls_punish hB0 t0 hc hq hps
          have e3 : si (2 * c + 1 - q) = nI w := by rw [show 2 * c + 1 - q = 2 * c + s by omega]; exact es
          rw [e3] at hy
          have k1' := k1
          obtain ⟨bl', yn', co', se', st', la', pu', ps', sc', he', xb', xc', xi', tc', ts', ta', bc', bs', bm', pb', ou', yb', yl', yf', ya', ys', ye', zf', za', zs', ze', wy', pt', su', bb', bu', rfl, rfl, hS', hE', hF', hG', hO', hZ'⟩ := k1
          refine ⟨_, _, ⟨bl', yn', upd (upd co' w (co' w - r / 10)) g (upd co' w (co' w - r / 10) g + r / 10), se', st', la', pu', ps', sc', he', xb', xc', xi', tc', ts', ta', bc', bs', bm', pb', ou', yb', yl', yf', ya', ys', ye', zf', za', zs', ze', wy', pt', su', bb', bu', rfl, rfl, hS', hE', hF', hG', hO', hZ'⟩, fun post n hp => ?_, fun post hp => ?_⟩
          · unfold xw_gP
            dsimp only
            rw [wX_guardParty_2]
            simp (disch := omega) only [cw_le8, q8, cw_m2, cw_m3, cw_m4, cw_m13, cw_2m, cw_3m, cw_12m, cw_24m, cw_36m, cw_a12, cw_a3, nI_add, nI_1, pk_sub, nI_clamp, vp_in_nI, forall_eq, nI_leI, nI_ltI, nI_eq, true_implies, forall_const, not_true_eq_false, not_false_eq_true, false_implies, and_true, true_and, implies_true, and_self, reduceIte]
            refine xs_side hc hC hs es hnec (br_f (cw_nsm hs) ?_)
            simp (disch := omega) only [wpX_isCheated, cw_m2, cw_m3, cw_m4, cw_m13, cw_2m, cw_3m, cw_12m, cw_24m, cw_36m, cw_a12, cw_a3, nI_add, nI_1, pk_sub, nI_clamp, vp_in_nI, h1, n1, hpl, cw_n1, forall_eq, nI_leI, nI_ltI, nI_eq, true_implies, forall_const, not_true_eq_false, not_false_eq_true, false_implies, and_true, true_and, implies_true, and_self, reduceIte]
            refine hx _ ?_
            simp (disch := omega) only [cw_m2, cw_m3, cw_m4, cw_m13, cw_2m, cw_3m, cw_12m, cw_24m, cw_36m, cw_a12, cw_a3, nI_add, nI_1, pk_sub, nI_clamp, vp_in_nI, cw_n10, forall_eq, nI_leI, nI_ltI, nI_eq, true_implies, forall_const, not_true_eq_false, not_false_eq_true, false_implies, and_true, true_and, implies_true, and_self, reduceIte]
            exact hp
          · unfold wpY_watch
            dsimp only
            refine ys_side (by omega) hs es hnec (br_f (cw_nsl hs) ?_)
            simp (disch := omega) only [cw_m2, cw_m3, cw_m4, cw_m13, cw_2m, cw_3m, cw_12m, cw_24m, cw_36m, cw_a12, cw_a3, nI_add, nI_1, pk_sub, nI_clamp, vp_in_nI, h1, n2, hpl, forall_eq, nI_leI, nI_ltI, nI_eq, true_implies, forall_const, not_true_eq_false, not_false_eq_true, false_implies, and_true, true_and, implies_true, and_self, reduceIte]
            refine hy _ ?_
            simp (disch := omega) only [cw_m2, cw_m3, cw_m4, cw_m13, cw_2m, cw_3m, cw_12m, cw_24m, cw_36m, cw_a12, cw_a3, nI_add, nI_1, pk_sub, nI_clamp, vp_in_nI, cw_n10, forall_eq, nI_leI, nI_ltI, nI_eq, true_implies, forall_const, not_true_eq_false, not_false_eq_true, false_implies, and_true, true_and, implies_true, and_self, reduceIte]
            exact hp
    · refine idle (fun P hP => ?_) (fun post hp => ?_)
      · simp (disch := omega) only [wpX_isCheated, cw_m2, cw_m3, cw_m4, cw_m13, cw_2m, cw_3m, cw_12m, cw_24m, cw_36m, cw_a12, cw_a3, nI_add, nI_1, pk_sub, nI_clamp, vp_in_nI, h1, forall_eq, nI_leI, nI_ltI, nI_eq, true_implies, forall_const, not_true_eq_false, not_false_eq_true, false_implies, and_true, true_and, implies_true, and_self, reduceIte]
        exact hP
      · unfold wpY_watch
        dsimp only
        refine ys_side (by omega) hs es hnec (br_f (cw_nsl hs) ?_)
        simp (disch := omega) only [cw_m2, cw_m3, cw_m4, cw_m13, cw_2m, cw_3m, cw_12m, cw_24m, cw_36m, cw_a12, cw_a3, nI_add, nI_1, pk_sub, nI_clamp, vp_in_nI, h1, forall_eq, nI_leI, nI_ltI, nI_eq, true_implies, forall_const, not_true_eq_false, not_false_eq_true, false_implies, and_true, true_and, implies_true, and_self, reduceIte]
        exact hp
  · have na : ¬ si (2 * c) = nI w := fun z => hex ⟨0, by omega, z⟩
    have nb : ¬ si (2 * c + 1) = nI w := fun z => hex ⟨1, by omega, z⟩
    refine ⟨_, _, t0, fun post n hp => ?_, fun post hp => ?_⟩
    · unfold xw_gP
      dsimp only
      rw [wX_guardParty_2]
      simp (disch := omega) only [cw_le8, q8, cw_m2, cw_m3, cw_m4, cw_m13, cw_2m, cw_3m, cw_12m, cw_24m, cw_36m, cw_a12, cw_a3, nI_add, nI_1, pk_sub, nI_clamp, vp_in_nI, forall_eq, nI_leI, nI_ltI, nI_eq, true_implies, forall_const, not_true_eq_false, not_false_eq_true, false_implies, and_true, true_and, implies_true, and_self, reduceIte]
      exact xs_noside (by omega) hC (fun _ => ⟨na, nb⟩) (br_t rfl hp)
    · unfold wpY_watch
      dsimp only
      exact ys_sideOf (by omega) (fun z => absurd z na) (fun _ z => absurd z nb) (fun _ _ => br_t (by decide) hp)
theorem xs_gPi {post : SX → Prop} {C w g : Nat} (hC : C ≤ 8) (hp : post (h, sp, nI C, bl, co, on, ba, ra, gu, se, si, st, la, pu, ps, sc, he, xb, xc, xi, xf, xa, xe, tc, ts, ta, bc, bs, bm)) : ∀ d c, c + d = 8 → C ≤ c → wX_guardParty_2 post (nI w) (nI g) (d + 1) (nI c) h sp (nI C) bl co on ba ra gu se si st la pu ps sc he xb xc xi xf xa xe tc ts ta bc bs bm := by
  intro d
  induction d with
  | zero =>
    intro c hc _
    have e : c = 8 := by omega
    subst e
    rw [wX_guardParty_2]
    simp (disch := omega) only [cw_le8, Nat.le_refl, forall_eq, nI_leI, nI_ltI, nI_eq, true_implies, forall_const, not_true_eq_false, not_false_eq_true, false_implies, and_true, true_and, implies_true, and_self, reduceIte]
    exact hp
  | succ d ih =>
    intro c hc hCc
    have q : ¬ 8 ≤ c := by omega
    rw [wX_guardParty_2]
    simp (disch := omega) only [cw_le8, q, cw_m2, cw_m3, cw_m4, cw_m13, cw_2m, cw_3m, cw_12m, cw_24m, cw_36m, cw_a12, cw_a3, nI_add, nI_1, pk_sub, nI_clamp, vp_in_nI, forall_eq, nI_leI, nI_ltI, nI_eq, true_implies, forall_const, not_true_eq_false, not_false_eq_true, false_implies, and_true, true_and, implies_true, and_self, reduceIte]
    exact xs_noside (by omega) hC (fun z => by omega) (br_t rfl (ih (c + 1) (by omega) (by omega)))
theorem ls_gP {H C : Nat} (hB : cw_B C si) {w g : Nat} (hw : w < 6) (hg : g < 6) : ∀ d c (u : SX) (v : SY), c + d = C → cw_T H C sp on ba ra gu si xf xa xe u v →
    ∃ u' v', cw_T H C sp on ba ra gu si xf xa xe u' v' ∧ (∀ post : SX → Prop, post u' → ∃ f, xw_gP post (nI w) (nI g) f (nI c) u) ∧ (∀ (post : SY → Prop) (J : Int32 → SY → Prop), J (nI (w + 1)) v' → ∃ f, yw_116 post J (nI g) (nI w) f (nI c) v) := by
  have hC := hB.1
  intro d
  induction d with
  | zero =>
    intro c u v hc t
    have t0 := t
    obtain ⟨bl, yn, co, se, st, la, pu, ps, sc, he, xb, xc, xi, tc, ts, ta, bc, bs, bm, pb, ou, yb, yl, yf, ya, ys, ye, zf, za, zs, ze, wy, pt, su, bb, bu, rfl, rfl, hS, hE, hF, hG, hO, hZ⟩ := t
    have e : c = C := by omega
    subst e
    refine ⟨_, _, t0, fun post hp => ⟨8 - c + 1, xs_gPi (w := w) (g := g) hC hp (8 - c) c (by omega) (Nat.le_refl _)⟩, fun post J hJ => ⟨1, ?_⟩⟩
    unfold yw_116
    dsimp only
    rw [wY_turn_116]
    simp (disch := omega) only [cw_m2, cw_m3, cw_m4, cw_m13, cw_2m, cw_3m, cw_12m, cw_24m, cw_36m, cw_a12, cw_a3, nI_add, nI_1, pk_sub, nI_clamp, vp_in_nI, Nat.le_refl, forall_eq, nI_leI, nI_ltI, nI_eq, true_implies, forall_const, not_true_eq_false, not_false_eq_true, false_implies, and_true, true_and, implies_true, and_self, reduceIte]
    exact hJ
  | succ d ih =>
    intro c u v hc t
    obtain ⟨u1, v1, t1, hx, hy⟩ := ls_watch hB t (show c < C by omega) hw hg
    obtain ⟨u2, v2, t2, hx2, hy2⟩ := ih (c + 1) u1 v1 (by omega) t1
    refine ⟨u2, v2, t2, fun post hp => ?_, fun post J hJ => ?_⟩
    · obtain ⟨f, hf⟩ := hx2 post hp
      exact ⟨f + 1, hx post f hf⟩
    · obtain ⟨f, hf⟩ := hy2 post J hJ
      refine ⟨f + 1, ?_⟩
      obtain ⟨bl, yn, co, se, st, la, pu, ps, sc, he, xb, xc, xi, tc, ts, ta, bc, bs, bm, pb, ou, yb, yl, yf, ya, ys, ye, zf, za, zs, ze, wy, pt, su, bb, bu, rfl, rfl, hS, hE, hF, hG, hO, hZ⟩ := t
      have q : ¬ C ≤ c := by omega
      unfold yw_116
      dsimp only
      rw [wY_turn_116]
      simp (disch := omega) only [cw_m2, cw_m3, cw_m4, cw_m13, cw_2m, cw_3m, cw_12m, cw_24m, cw_36m, cw_a12, cw_a3, nI_add, nI_1, pk_sub, nI_clamp, vp_in_nI, q, forall_eq, nI_leI, nI_ltI, nI_eq, true_implies, forall_const, not_true_eq_false, not_false_eq_true, false_implies, and_true, true_and, implies_true, and_self, reduceIte]
      refine hy _ ?_
      obtain ⟨h, sp, ch, yn, co, ba, ra, gu, se, on, si, st, la, pu, pb, sc, he, ou, yb, yl, yf, ya, ys, ye, zf, za, zs, ze, wy, pt, su, bb, bu⟩ := v1
      exact hf
end BLK
end
section
/-! part 15: a turn, a block, in step -/
section BLK2
variable {h sp ch bl yn : Int32} {co on ba ra gu se si st la pu ps sc he xb xc xi xf xa xe tc ts ta bc bs bm pb ou yb yl yf ya ys ye zf za zs ze wy pt su bb bu : Nat → Int32}
theorem ls_40 {H C : Nat} (hB : cw_B C si) {g : Nat} (hg : g < 6) : ∀ d w (u : SX) (v : SY), w + d = 6 → cw_T H C sp on ba ra gu si xf xa xe u v →
    ∃ u' v', cw_T H C sp on ba ra gu si xf xa xe u' v' ∧ (∀ post : SX → Prop, post u' → xw_40 post (nI g) (d + 1) (nI w) u) ∧ (∀ post : SY → Prop, post v' → yw_86 post (nI g) (d + 1) (nI w) v) := by
  intro d
  induction d with
  | zero =>
    intro w u v hw t
    have t0 := t
    obtain ⟨bl, yn, co, se, st, la, pu, ps, sc, he, xb, xc, xi, tc, ts, ta, bc, bs, bm, pb, ou, yb, yl, yf, ya, ys, ye, zf, za, zs, ze, wy, pt, su, bb, bu, rfl, rfl, hS, hE, hF, hG, hO, hZ⟩ := t
    have e : w = 6 := by omega
    subst e
    refine ⟨_, _, t0, fun post hp => ?_, fun post hp => ?_⟩
    · unfold xw_40
      dsimp only
      rw [wX_takeTurn_40]
      simp (disch := omega) only [cw_le6, Nat.le_refl, forall_eq, nI_leI, nI_ltI, nI_eq, true_implies, forall_const, not_true_eq_false, not_false_eq_true, false_implies, and_true, true_and, implies_true, and_self, reduceIte]
      exact hp
    · unfold yw_86
      dsimp only
      rw [wY_turn_86]
      simp (disch := omega) only [cw_le6, Nat.le_refl, forall_eq, nI_leI, nI_ltI, nI_eq, true_implies, forall_const, not_true_eq_false, not_false_eq_true, false_implies, and_true, true_and, implies_true, and_self, reduceIte]
      exact hp
  | succ d ih =>
    intro w u v hw t
    have q : ¬ 6 ≤ w := by omega
    by_cases hon : on w = 0
    · by_cases hgu : gu w = nI g
      · obtain ⟨u1, v1, t1, hx, hy⟩ := ls_gP hB (show w < 6 by omega) hg C 0 u v (by omega) t
        obtain ⟨u2, v2, t2, hx2, hy2⟩ := ih (w + 1) u1 v1 (by omega) t1
        refine ⟨u2, v2, t2, fun post hp => ?_, fun post hp => ?_⟩
        · have k := hx _ (hx2 post hp)
          obtain ⟨bl, yn, co, se, st, la, pu, ps, sc, he, xb, xc, xi, tc, ts, ta, bc, bs, bm, pb, ou, yb, yl, yf, ya, ys, ye, zf, za, zs, ze, wy, pt, su, bb, bu, rfl, rfl, hS, hE, hF, hG, hO, hZ⟩ := t
          unfold xw_40
          dsimp only
          rw [wX_takeTurn_40]
          simp (disch := omega) only [cw_le6, q, cw_m2, cw_m3, cw_m4, cw_m13, cw_2m, cw_3m, cw_12m, cw_24m, cw_36m, cw_a12, cw_a3, nI_add, nI_1, pk_sub, nI_clamp, vp_in_nI, hon, hgu, forall_eq, nI_leI, nI_ltI, nI_eq, true_implies, forall_const, not_true_eq_false, not_false_eq_true, false_implies, and_true, true_and, implies_true, and_self, reduceIte]
          unfold wpX_guardParty
          dsimp only
          obtain ⟨f, hf⟩ := k
          refine ⟨f, ?_⟩
          exact hf
        · have k := hy post (fun x v => yw_86 post (nI g) (d + 1) x v) (hy2 post hp)
          obtain ⟨bl, yn, co, se, st, la, pu, ps, sc, he, xb, xc, xi, tc, ts, ta, bc, bs, bm, pb, ou, yb, yl, yf, ya, ys, ye, zf, za, zs, ze, wy, pt, su, bb, bu, rfl, rfl, hS, hE, hF, hG, hO, hZ⟩ := t
          unfold yw_86
          dsimp only
          rw [wY_turn_86]
          simp (disch := omega) only [cw_le6, q, cw_m2, cw_m3, cw_m4, cw_m13, cw_2m, cw_3m, cw_12m, cw_24m, cw_36m, cw_a12, cw_a3, nI_add, nI_1, pk_sub, nI_clamp, vp_in_nI, hon, hgu, forall_eq, nI_leI, nI_ltI, nI_eq, true_implies, forall_const, not_true_eq_false, not_false_eq_true, false_implies, and_true, true_and, implies_true, and_self, reduceIte]
          obtain ⟨f, hf⟩ := k
          exact ⟨f, hf⟩
      · obtain ⟨u2, v2, t2, hx2, hy2⟩ := ih (w + 1) u v (by omega) t
        refine ⟨u2, v2, t2, fun post hp => ?_, fun post hp => ?_⟩
        · have k := hx2 post hp
          obtain ⟨bl, yn, co, se, st, la, pu, ps, sc, he, xb, xc, xi, tc, ts, ta, bc, bs, bm, pb, ou, yb, yl, yf, ya, ys, ye, zf, za, zs, ze, wy, pt, su, bb, bu, rfl, rfl, hS, hE, hF, hG, hO, hZ⟩ := t
          unfold xw_40
          dsimp only
          rw [wX_takeTurn_40]
          simp (disch := omega) only [cw_le6, q, cw_m2, cw_m3, cw_m4, cw_m13, cw_2m, cw_3m, cw_12m, cw_24m, cw_36m, cw_a12, cw_a3, nI_add, nI_1, pk_sub, nI_clamp, vp_in_nI, hon, hgu, forall_eq, nI_leI, nI_ltI, nI_eq, true_implies, forall_const, not_true_eq_false, not_false_eq_true, false_implies, and_true, true_and, implies_true, and_self, reduceIte]
          exact k
        · have k := hy2 post hp
          obtain ⟨bl, yn, co, se, st, la, pu, ps, sc, he, xb, xc, xi, tc, ts, ta, bc, bs, bm, pb, ou, yb, yl, yf, ya, ys, ye, zf, za, zs, ze, wy, pt, su, bb, bu, rfl, rfl, hS, hE, hF, hG, hO, hZ⟩ := t
          unfold yw_86
          dsimp only
          rw [wY_turn_86]
          simp (disch := omega) only [cw_le6, q, cw_m2, cw_m3, cw_m4, cw_m13, cw_2m, cw_3m, cw_12m, cw_24m, cw_36m, cw_a12, cw_a3, nI_add, nI_1, pk_sub, nI_clamp, vp_in_nI, hon, hgu, forall_eq, nI_leI, nI_ltI, nI_eq, true_implies, forall_const, not_true_eq_false, not_false_eq_true, false_implies, and_true, true_and, implies_true, and_self, reduceIte]
          exact k
    · obtain ⟨u2, v2, t2, hx2, hy2⟩ := ih (w + 1) u v (by omega) t
      refine ⟨u2, v2, t2, fun post hp => ?_, fun post hp => ?_⟩
      · have k := hx2 post hp
        obtain ⟨bl, yn, co, se, st, la, pu, ps, sc, he, xb, xc, xi, tc, ts, ta, bc, bs, bm, pb, ou, yb, yl, yf, ya, ys, ye, zf, za, zs, ze, wy, pt, su, bb, bu, rfl, rfl, hS, hE, hF, hG, hO, hZ⟩ := t
        unfold xw_40
        dsimp only
        rw [wX_takeTurn_40]
        simp (disch := omega) only [cw_le6, q, cw_m2, cw_m3, cw_m4, cw_m13, cw_2m, cw_3m, cw_12m, cw_24m, cw_36m, cw_a12, cw_a3, nI_add, nI_1, pk_sub, nI_clamp, vp_in_nI, hon, forall_eq, nI_leI, nI_ltI, nI_eq, true_implies, forall_const, not_true_eq_false, not_false_eq_true, false_implies, and_true, true_and, implies_true, and_self, reduceIte]
        exact k
      · have k := hy2 post hp
        obtain ⟨bl, yn, co, se, st, la, pu, ps, sc, he, xb, xc, xi, tc, ts, ta, bc, bs, bm, pb, ou, yb, yl, yf, ya, ys, ye, zf, za, zs, ze, wy, pt, su, bb, bu, rfl, rfl, hS, hE, hF, hG, hO, hZ⟩ := t
        unfold yw_86
        dsimp only
        rw [wY_turn_86]
        simp (disch := omega) only [cw_le6, q, cw_m2, cw_m3, cw_m4, cw_m13, cw_2m, cw_3m, cw_12m, cw_24m, cw_36m, cw_a12, cw_a3, nI_add, nI_1, pk_sub, nI_clamp, vp_in_nI, hon, forall_eq, nI_leI, nI_ltI, nI_eq, true_implies, forall_const, not_true_eq_false, not_false_eq_true, false_implies, and_true, true_and, implies_true, and_self, reduceIte]
        exact k
theorem xs_2i {post : SX → Prop} {C p : Nat} (hC : C ≤ 8) (hp : ∃ f, wX_takeTurn_40 post (nI p) f 0 h sp (nI C) bl co on ba ra gu se si st la pu ps sc he xb xc xi xf xa xe tc ts ta bc bs bm) : ∀ d c, c + d = 8 → C ≤ c → wX_takeTurn_2 post (nI p) (d + 1) (nI c) h sp (nI C) bl co on ba ra gu se si st la pu ps sc he xb xc xi xf xa xe tc ts ta bc bs bm := by
  intro d
  induction d with
  | zero =>
    intro c hc _
    have e : c = 8 := by omega
    subst e
    rw [wX_takeTurn_2]
    simp (disch := omega) only [cw_le8, Nat.le_refl, forall_eq, nI_leI, nI_ltI, nI_eq, true_implies, forall_const, not_true_eq_false, not_false_eq_true, false_implies, and_true, true_and, implies_true, and_self, reduceIte]
    exact hp
  | succ d ih =>
    intro c hc hCc
    have q : ¬ 8 ≤ c := by omega
    rw [wX_takeTurn_2]
    simp (disch := omega) only [cw_le8, q, cw_m2, cw_m3, cw_m4, cw_m13, cw_2m, cw_3m, cw_12m, cw_24m, cw_36m, cw_a12, cw_a3, nI_add, nI_1, pk_sub, nI_clamp, vp_in_nI, forall_eq, nI_leI, nI_ltI, nI_eq, true_implies, forall_const, not_true_eq_false, not_false_eq_true, false_implies, and_true, true_and, implies_true, and_self, reduceIte]
    exact xs_noside (by omega) hC (fun z => by omega) (br_t rfl (ih (c + 1) (by omega) (by omega)))
theorem ls_2 {H C : Nat} (hH : H < 100000) (hB : cw_B C si) {p : Nat} (hp6 : p < 6) : ∀ d c (u : SX) (v : SY), c + d = C → cw_T H C sp on ba ra gu si xf xa xe u v →
    ∃ u' v', cw_T H C sp on ba ra gu si xf xa xe u' v' ∧ (∀ post : SX → Prop, post u' → ∃ f, xw_2 post (nI p) f (nI c) u) ∧ (∀ post : SY → Prop, post v' → ∃ f, yw_2 post (nI p) f (nI c) v) := by
  have hC := hB.1
  intro d
  induction d with
  | zero =>
    intro c u v hc t
    have e : c = C := by omega
    subst e
    obtain ⟨u2, v2, t2, hx2, hy2⟩ := ls_40 hB hp6 6 0 u v rfl t
    refine ⟨u2, v2, t2, fun post hp => ⟨8 - c + 1, ?_⟩, fun post hp => ⟨1, ?_⟩⟩
    · have k := hx2 post hp
      obtain ⟨bl, yn, co, se, st, la, pu, ps, sc, he, xb, xc, xi, tc, ts, ta, bc, bs, bm, pb, ou, yb, yl, yf, ya, ys, ye, zf, za, zs, ze, wy, pt, su, bb, bu, rfl, rfl, hS, hE, hF, hG, hO, hZ⟩ := t
      exact xs_2i (p := p) hC ⟨_, k⟩ (8 - c) c (by omega) (Nat.le_refl _)
    · have k := hy2 post hp
      obtain ⟨bl, yn, co, se, st, la, pu, ps, sc, he, xb, xc, xi, tc, ts, ta, bc, bs, bm, pb, ou, yb, yl, yf, ya, ys, ye, zf, za, zs, ze, wy, pt, su, bb, bu, rfl, rfl, hS, hE, hF, hG, hO, hZ⟩ := t
      unfold yw_2
      dsimp only
      rw [wY_turn_2]
      simp (disch := omega) only [cw_m2, cw_m3, cw_m4, cw_m13, cw_2m, cw_3m, cw_12m, cw_24m, cw_36m, cw_a12, cw_a3, nI_add, nI_1, pk_sub, nI_clamp, vp_in_nI, Nat.le_refl, forall_eq, nI_leI, nI_ltI, nI_eq, true_implies, forall_const, not_true_eq_false, not_false_eq_true, false_implies, and_true, true_and, implies_true, and_self, reduceIte]
      exact ⟨_, k⟩
  | succ d ih =>
    intro c u v hc t
    have hcC : c < C := by omega
    have hnec := hB.2.2 c hcC
    have q8 : ¬ 8 ≤ c := by omega
    have qC : ¬ C ≤ c := by omega
    by_cases hex : ∃ s, s < 2 ∧ si (2 * c + s) = nI p
    · obtain ⟨s, hs, es⟩ := hex
      obtain ⟨u1, v1, t1, hx1, hy1⟩ := ls_open hB t hcC hs
      obtain ⟨u2, v2, t2, hx2, hy2⟩ := ls_closed hH hB t1 hcC hs
      obtain ⟨u3, v3, t3, hx3, hy3⟩ := ih (c + 1) u2 v2 (by omega) t2
      rw [es] at hy1 hy2
      refine ⟨u3, v3, t3, fun post hp => ?_, fun post hp => ?_⟩
      · obtain ⟨f, hf⟩ := hx3 post hp
        refine ⟨f + 1, ?_⟩
        obtain ⟨bl, yn, co, se, st, la, pu, ps, sc, he, xb, xc, xi, tc, ts, ta, bc, bs, bm, pb, ou, yb, yl, yf, ya, ys, ye, zf, za, zs, ze, wy, pt, su, bb, bu, rfl, rfl, hS, hE, hF, hG, hO, hZ⟩ := t
        unfold xw_2
        dsimp only
        rw [wX_takeTurn_2]
        simp (disch := omega) only [cw_le8, q8, cw_m2, cw_m3, cw_m4, cw_m13, cw_2m, cw_3m, cw_12m, cw_24m, cw_36m, cw_a12, cw_a3, nI_add, nI_1, pk_sub, nI_clamp, vp_in_nI, forall_eq, nI_leI, nI_ltI, nI_eq, true_implies, forall_const, not_true_eq_false, not_false_eq_true, false_implies, and_true, true_and, implies_true, and_self, reduceIte]
        refine xs_side hcC hC hs es hnec (br_f (cw_nsm hs) (hx1 _ ?_))
        obtain ⟨h, sp, ch, bl, co, on, ba, ra, gu, se, si, st, la, pu, ps, sc, he, xb, xc, xi, xf, xa, xe, tc, ts, ta, bc, bs, bm⟩ := u1
        refine hx2 _ ?_
        obtain ⟨h, sp, ch, bl, co, on, ba, ra, gu, se, si, st, la, pu, ps, sc, he, xb, xc, xi, xf, xa, xe, tc, ts, ta, bc, bs, bm⟩ := u2
        exact hf
      · obtain ⟨f, hf⟩ := hy3 post hp
        have k := hy1 post (fun x v => yw_2 post (nI p) f x v) (hy2 post (fun x v => yw_2 post (nI p) f x v) hf)
        refine ⟨f + 1, ?_⟩
        obtain ⟨bl, yn, co, se, st, la, pu, ps, sc, he, xb, xc, xi, tc, ts, ta, bc, bs, bm, pb, ou, yb, yl, yf, ya, ys, ye, zf, za, zs, ze, wy, pt, su, bb, bu, rfl, rfl, hS, hE, hF, hG, hO, hZ⟩ := t
        unfold yw_2
        dsimp only
        rw [wY_turn_2]
        simp (disch := omega) only [cw_m2, cw_m3, cw_m4, cw_m13, cw_2m, cw_3m, cw_12m, cw_24m, cw_36m, cw_a12, cw_a3, nI_add, nI_1, pk_sub, nI_clamp, vp_in_nI, qC, forall_eq, nI_leI, nI_ltI, nI_eq, true_implies, forall_const, not_true_eq_false, not_false_eq_true, false_implies, and_true, true_and, implies_true, and_self, reduceIte]
        refine ys_side (by omega) hs es hnec (br_t (cw_nsg hs) ?_)
        exact br_c (fun z => k.1 z) (fun z => k.2 z)
    · have na : ¬ si (2 * c) = nI p := fun z => hex ⟨0, by omega, z⟩
      have nb : ¬ si (2 * c + 1) = nI p := fun z => hex ⟨1, by omega, z⟩
      obtain ⟨u3, v3, t3, hx3, hy3⟩ := ih (c + 1) u v (by omega) t
      refine ⟨u3, v3, t3, fun post hp => ?_, fun post hp => ?_⟩
      · obtain ⟨f, hf⟩ := hx3 post hp
        refine ⟨f + 1, ?_⟩
        obtain ⟨bl, yn, co, se, st, la, pu, ps, sc, he, xb, xc, xi, tc, ts, ta, bc, bs, bm, pb, ou, yb, yl, yf, ya, ys, ye, zf, za, zs, ze, wy, pt, su, bb, bu, rfl, rfl, hS, hE, hF, hG, hO, hZ⟩ := t
        unfold xw_2
        dsimp only
        rw [wX_takeTurn_2]
        simp (disch := omega) only [cw_le8, q8, cw_m2, cw_m3, cw_m4, cw_m13, cw_2m, cw_3m, cw_12m, cw_24m, cw_36m, cw_a12, cw_a3, nI_add, nI_1, pk_sub, nI_clamp, vp_in_nI, forall_eq, nI_leI, nI_ltI, nI_eq, true_implies, forall_const, not_true_eq_false, not_false_eq_true, false_implies, and_true, true_and, implies_true, and_self, reduceIte]
        exact xs_noside (by omega) hC (fun _ => ⟨na, nb⟩) (br_t rfl hf)
      · obtain ⟨f, hf⟩ := hy3 post hp
        refine ⟨f + 1, ?_⟩
        obtain ⟨bl, yn, co, se, st, la, pu, ps, sc, he, xb, xc, xi, tc, ts, ta, bc, bs, bm, pb, ou, yb, yl, yf, ya, ys, ye, zf, za, zs, ze, wy, pt, su, bb, bu, rfl, rfl, hS, hE, hF, hG, hO, hZ⟩ := t
        unfold yw_2
        dsimp only
        rw [wY_turn_2]
        simp (disch := omega) only [cw_m2, cw_m3, cw_m4, cw_m13, cw_2m, cw_3m, cw_12m, cw_24m, cw_36m, cw_a12, cw_a3, nI_add, nI_1, pk_sub, nI_clamp, vp_in_nI, qC, forall_eq, nI_leI, nI_ltI, nI_eq, true_implies, forall_const, not_true_eq_false, not_false_eq_true, false_implies, and_true, true_and, implies_true, and_self, reduceIte]
        exact ys_sideOf (by omega) (fun z => absurd z na) (fun _ z => absurd z nb) (fun _ _ => br_f (by decide) hf)
theorem ls_turn {H C : Nat} {u : SX} {v : SY} (hH : H < 100000) (hB : cw_B C si) {p : Nat} (hp6 : p < 6) (t : cw_T H C sp on ba ra gu si xf xa xe u v) :
    ∃ u' v', cw_T H C sp on ba ra gu si xf xa xe u' v' ∧ (∀ post : SX → Prop, post u' → wpX_takeTurn post u (nI p)) ∧ (∀ post : SY → Prop, post v' → wpY_turn post v (nI p)) := by
  obtain ⟨u1, v1, t1, hx, hy⟩ := ls_2 hH hB hp6 C 0 u v (by omega) t
  refine ⟨u1, v1, t1, fun post hp => ?_, fun post hp => ?_⟩
  · obtain ⟨f, hf⟩ := hx post hp
    obtain ⟨bl, yn, co, se, st, la, pu, ps, sc, he, xb, xc, xi, tc, ts, ta, bc, bs, bm, pb, ou, yb, yl, yf, ya, ys, ye, zf, za, zs, ze, wy, pt, su, bb, bu, rfl, rfl, hS, hE, hF, hG, hO, hZ⟩ := t
    exact ⟨f, hf⟩
  · obtain ⟨f, hf⟩ := hy post hp
    obtain ⟨bl, yn, co, se, st, la, pu, ps, sc, he, xb, xc, xi, tc, ts, ta, bc, bs, bm, pb, ou, yb, yl, yf, ya, ys, ye, zf, za, zs, ze, wy, pt, su, bb, bu, rfl, rfl, hS, hE, hF, hG, hO, hZ⟩ := t
    exact ⟨f, hf⟩
theorem ls_33 {H C i : Nat} {x1 : Int32} (hH : H < 100000) (hB : cw_B C si) : ∀ d p (u : SX) (v : SY), p + d = 6 → cw_T H C sp on ba ra gu si xf xa xe u v →
    ∃ u' v', cw_T H C sp on ba ra gu si xf xa xe u' v' ∧ (∀ (post : Int32 → SX → Prop) (J : Int32 → SX → Prop), J (nI (i + 1)) u' → xw_33 post J x1 (nI i) (d + 1) (nI p) u) ∧
      (∀ (post : Int32 → SY → Prop) (J : Int32 → SY → Prop), J (nI (i + 1)) v' → yw_33 post J x1 (nI i) (d + 1) (nI p) v) := by
  intro d
  induction d with
  | zero =>
    intro p u v hp t
    have t0 := t
    obtain ⟨bl, yn, co, se, st, la, pu, ps, sc, he, xb, xc, xi, tc, ts, ta, bc, bs, bm, pb, ou, yb, yl, yf, ya, ys, ye, zf, za, zs, ze, wy, pt, su, bb, bu, rfl, rfl, hS, hE, hF, hG, hO, hZ⟩ := t
    have e : p = 6 := by omega
    subst e
    refine ⟨_, _, t0, fun post J hJ => ?_, fun post J hJ => ?_⟩
    · unfold xw_33
      dsimp only
      rw [wX_block_33]
      simp (disch := omega) only [cw_le6, cw_m2, cw_m3, cw_m4, cw_m13, cw_2m, cw_3m, cw_12m, cw_24m, cw_36m, cw_a12, cw_a3, nI_add, nI_1, pk_sub, nI_clamp, vp_in_nI, Nat.le_refl, forall_eq, nI_leI, nI_ltI, nI_eq, true_implies, forall_const, not_true_eq_false, not_false_eq_true, false_implies, and_true, true_and, implies_true, and_self, reduceIte]
      exact hJ
    · unfold yw_33
      dsimp only
      rw [wY_block_33]
      simp (disch := omega) only [cw_le6, cw_m2, cw_m3, cw_m4, cw_m13, cw_2m, cw_3m, cw_12m, cw_24m, cw_36m, cw_a12, cw_a3, nI_add, nI_1, pk_sub, nI_clamp, vp_in_nI, Nat.le_refl, forall_eq, nI_leI, nI_ltI, nI_eq, true_implies, forall_const, not_true_eq_false, not_false_eq_true, false_implies, and_true, true_and, implies_true, and_self, reduceIte]
      exact hJ
  | succ d ih =>
    intro p u v hp t
    have q : ¬ 6 ≤ p := by omega
    by_cases hon : on p = 0
    · obtain ⟨u2, v2, t2, hx2, hy2⟩ := ih (p + 1) u v (by omega) t
      refine ⟨u2, v2, t2, fun post J hJ => ?_, fun post J hJ => ?_⟩
      · have k := hx2 post J hJ
        obtain ⟨bl, yn, co, se, st, la, pu, ps, sc, he, xb, xc, xi, tc, ts, ta, bc, bs, bm, pb, ou, yb, yl, yf, ya, ys, ye, zf, za, zs, ze, wy, pt, su, bb, bu, rfl, rfl, hS, hE, hF, hG, hO, hZ⟩ := t
        unfold xw_33
        dsimp only
        rw [wX_block_33]
        simp (disch := omega) only [cw_le6, q, cw_m2, cw_m3, cw_m4, cw_m13, cw_2m, cw_3m, cw_12m, cw_24m, cw_36m, cw_a12, cw_a3, nI_add, nI_1, pk_sub, nI_clamp, vp_in_nI, hon, forall_eq, nI_leI, nI_ltI, nI_eq, true_implies, forall_const, not_true_eq_false, not_false_eq_true, false_implies, and_true, true_and, implies_true, and_self, reduceIte]
        exact k
      · have k := hy2 post J hJ
        obtain ⟨bl, yn, co, se, st, la, pu, ps, sc, he, xb, xc, xi, tc, ts, ta, bc, bs, bm, pb, ou, yb, yl, yf, ya, ys, ye, zf, za, zs, ze, wy, pt, su, bb, bu, rfl, rfl, hS, hE, hF, hG, hO, hZ⟩ := t
        unfold yw_33
        dsimp only
        rw [wY_block_33]
        simp (disch := omega) only [cw_le6, q, cw_m2, cw_m3, cw_m4, cw_m13, cw_2m, cw_3m, cw_12m, cw_24m, cw_36m, cw_a12, cw_a3, nI_add, nI_1, pk_sub, nI_clamp, vp_in_nI, hon, forall_eq, nI_leI, nI_ltI, nI_eq, true_implies, forall_const, not_true_eq_false, not_false_eq_true, false_implies, and_true, true_and, implies_true, and_self, reduceIte]
        exact k
    · obtain ⟨u1, v1, t1, hx1, hy1⟩ := ls_turn hH hB (show p < 6 by omega) t
      obtain ⟨u2, v2, t2, hx2, hy2⟩ := ih (p + 1) u1 v1 (by omega) t1
      refine ⟨u2, v2, t2, fun post J hJ => ?_, fun post J hJ => ?_⟩
      · have k := hx2 post J hJ
        obtain ⟨bl, yn, co, se, st, la, pu, ps, sc, he, xb, xc, xi, tc, ts, ta, bc, bs, bm, pb, ou, yb, yl, yf, ya, ys, ye, zf, za, zs, ze, wy, pt, su, bb, bu, rfl, rfl, hS, hE, hF, hG, hO, hZ⟩ := t
        unfold xw_33
        dsimp only
        rw [wX_block_33]
        simp (disch := omega) only [cw_le6, q, cw_m2, cw_m3, cw_m4, cw_m13, cw_2m, cw_3m, cw_12m, cw_24m, cw_36m, cw_a12, cw_a3, nI_add, nI_1, pk_sub, nI_clamp, vp_in_nI, hon, forall_eq, nI_leI, nI_ltI, nI_eq, true_implies, forall_const, not_true_eq_false, not_false_eq_true, false_implies, and_true, true_and, implies_true, and_self, reduceIte]
        refine hx1 _ ?_
        obtain ⟨h, sp, ch, bl, co, on, ba, ra, gu, se, si, st, la, pu, ps, sc, he, xb, xc, xi, xf, xa, xe, tc, ts, ta, bc, bs, bm⟩ := u1
        exact k
      · have k := hy2 post J hJ
        obtain ⟨bl, yn, co, se, st, la, pu, ps, sc, he, xb, xc, xi, tc, ts, ta, bc, bs, bm, pb, ou, yb, yl, yf, ya, ys, ye, zf, za, zs, ze, wy, pt, su, bb, bu, rfl, rfl, hS, hE, hF, hG, hO, hZ⟩ := t
        unfold yw_33
        dsimp only
        rw [wY_block_33]
        simp (disch := omega) only [cw_le6, q, cw_m2, cw_m3, cw_m4, cw_m13, cw_2m, cw_3m, cw_12m, cw_24m, cw_36m, cw_a12, cw_a3, nI_add, nI_1, pk_sub, nI_clamp, vp_in_nI, hon, forall_eq, nI_leI, nI_ltI, nI_eq, true_implies, forall_const, not_true_eq_false, not_false_eq_true, false_implies, and_true, true_and, implies_true, and_self, reduceIte]
        refine hy1 _ ?_
        obtain ⟨h, sp, ch, yn, co, ba, ra, gu, se, on, si, st, la, pu, pb, sc, he, ou, yb, yl, yf, ya, ys, ye, zf, za, zs, ze, wy, pt, su, bb, bu⟩ := v1
        exact k
theorem ls_16 {C N : Nat} (hN : N ≤ 20) (hB : cw_B C si) : ∀ d i H (u : SX) (v : SY), i + d = N → H + d < 100000 → cw_T H C sp on ba ra gu si xf xa xe u v →
    ∃ u' v', cw_T (H + d) C sp on ba ra gu si xf xa xe u' v' ∧ (∀ post : Int32 → SX → Prop, post (nI (H + d)) u' → xw_16 post (nI N) (d + 1) (nI i) u) ∧ (∀ post : Int32 → SY → Prop, post (nI (H + d)) v' → yw_16 post (nI N) (d + 1) (nI i) v) := by
  intro d
  induction d with
  | zero =>
    intro i H u v hi hH t
    have t0 := t
    obtain ⟨bl, yn, co, se, st, la, pu, ps, sc, he, xb, xc, xi, tc, ts, ta, bc, bs, bm, pb, ou, yb, yl, yf, ya, ys, ye, zf, za, zs, ze, wy, pt, su, bb, bu, rfl, rfl, hS, hE, hF, hG, hO, hZ⟩ := t
    have e : i = N := by omega
    subst e
    refine ⟨_, _, t0, fun post hp => ?_, fun post hp => ?_⟩
    · unfold xw_16
      dsimp only
      rw [wX_block_16]
      simp (disch := omega) only [Nat.le_refl, forall_eq, nI_leI, nI_ltI, nI_eq, true_implies, forall_const, not_true_eq_false, not_false_eq_true, false_implies, and_true, true_and, implies_true, and_self, reduceIte]
      exact hp
    · unfold yw_16
      dsimp only
      rw [wY_block_16]
      simp (disch := omega) only [Nat.le_refl, forall_eq, nI_leI, nI_ltI, nI_eq, true_implies, forall_const, not_true_eq_false, not_false_eq_true, false_implies, and_true, true_and, implies_true, and_self, reduceIte]
      exact hp
  | succ d ih =>
    intro i H u v hi hH t
    obtain ⟨bl, yn, co, se, st, la, pu, ps, sc, he, xb, xc, xi, tc, ts, ta, bc, bs, bm, pb, ou, yb, yl, yf, ya, ys, ye, zf, za, zs, ze, wy, pt, su, bb, bu, rfl, rfl, hS, hE, hF, hG, hO, hZ⟩ := t
    have q : ¬ N ≤ i := by omega
    have hS' : cw_S (H + 1) sc := fun c hc => by
      obtain ⟨S, h1, h2⟩ := hS c hc
      exact ⟨S, by omega, h2⟩
    have t1 : cw_T (H + 1) C sp on ba ra gu si xf xa xe (nI (H + 1), sp, nI C, bl, co, on, ba, ra, gu, se, si, st, la, pu, ps, sc, he, xb, xc, xi, xf, xa, xe, tc, ts, ta, bc, bs, bm) (nI (H + 1), sp, nI C, yn, co, ba, ra, gu, se, on, si, st, la, pu, pb, sc, he, ou, yb, yl, yf, ya, ys, ye, zf, za, zs, ze, wy, pt, su, bb, bu) := ⟨bl, yn, co, se, st, la, pu, ps, sc, he, xb, xc, xi, tc, ts, ta, bc, bs, bm, pb, ou, yb, yl, yf, ya, ys, ye, zf, za, zs, ze, wy, pt, su, bb, bu, rfl, rfl, hS', hE, hF, hG, hO, hZ⟩
    obtain ⟨u1, v1, t1, hx1, hy1⟩ := ls_33 (i := i) (x1 := nI N) (show H + 1 < 100000 by omega) hB 6 0 _ _ rfl t1
    obtain ⟨u2, v2, t2, hx2, hy2⟩ := ih (i + 1) (H + 1) u1 v1 (by omega) (by omega) t1
    rw [show H + 1 + d = H + (d + 1) by omega] at t2 hx2 hy2
    refine ⟨u2, v2, t2, fun post hp => ?_, fun post hp => ?_⟩
    · have k := hx1 post (fun x u => xw_16 post (nI N) (d + 1) x u) (hx2 post hp)
      unfold xw_16
      dsimp only
      rw [wX_block_16]
      simp (disch := omega) only [cw_m2, cw_m3, cw_m4, cw_m13, cw_2m, cw_3m, cw_12m, cw_24m, cw_36m, cw_a12, cw_a3, nI_add, nI_1, pk_sub, nI_clamp, vp_in_nI, q, forall_eq, nI_leI, nI_ltI, nI_eq, true_implies, forall_const, not_true_eq_false, not_false_eq_true, false_implies, and_true, true_and, implies_true, and_self, reduceIte]
      exact ⟨_, k⟩
    · have k := hy1 post (fun x u => yw_16 post (nI N) (d + 1) x u) (hy2 post hp)
      unfold yw_16
      dsimp only
      rw [wY_block_16]
      simp (disch := omega) only [cw_m2, cw_m3, cw_m4, cw_m13, cw_2m, cw_3m, cw_12m, cw_24m, cw_36m, cw_a12, cw_a3, nI_add, nI_1, pk_sub, nI_clamp, vp_in_nI, q, forall_eq, nI_leI, nI_ltI, nI_eq, true_implies, forall_const, not_true_eq_false, not_false_eq_true, false_implies, and_true, true_and, implies_true, and_self, reduceIte]
      exact ⟨_, k⟩
theorem i_vc_block {k : Nat} {u : SX} {v : SY} (I : i_Rel k u v) (hk : k + 5 ≤ 2560) (v1 : Int32) : wpX_block (fun r u' => wpY_block (fun r' v' => r' = r ∧ i_Rel (k + 5) u' v') v v1) u v1 := by
  have J := i_up I
  obtain ⟨H, C, sp, on, ba, ra, gu, si, xf, xa, xe, hH, hB, hD, t⟩ := I
  by_cases h1 : v1 < 1
  · obtain ⟨bl, yn, co, se, st, la, pu, ps, sc, he, xb, xc, xi, tc, ts, ta, bc, bs, bm, pb, ou, yb, yl, yf, ya, ys, ye, zf, za, zs, ze, wy, pt, su, bb, bu, rfl, rfl, hS, hE, hF, hG, hO, hZ⟩ := t
    simp only [wpX_block, wpY_block, h1, forall_eq, nI_leI, nI_ltI, nI_eq, true_implies, forall_const, not_true_eq_false, not_false_eq_true, false_implies, and_true, true_and, implies_true, and_self, reduceIte]
    exact J
  by_cases h20 : v1 ≤ 20
  · have h0 : ¬ v1 < 0 := fun z => h1 (Int32.lt_of_lt_of_le z (by decide))
    obtain ⟨N, hN, rfl⟩ := nI_of h0
    have hN20 : N ≤ 20 := (nI_leI hN (b := 20) (by omega)).mp h20
    obtain ⟨u1, v1, t1, hx, hy⟩ := ls_16 hN20 hB N 0 H u v (by omega) (by omega) t
    have R : i_Rel (k + 5) u1 v1 := ⟨H + N, C, sp, on, ba, ra, gu, si, xf, xa, xe, by omega, hB, hD, t1⟩
    obtain ⟨bl, yn, co, se, st, la, pu, ps, sc, he, xb, xc, xi, tc, ts, ta, bc, bs, bm, pb, ou, yb, yl, yf, ya, ys, ye, zf, za, zs, ze, wy, pt, su, bb, bu, rfl, rfl, hS, hE, hF, hG, hO, hZ⟩ := t
    simp only [wpX_block, h1, h20, forall_eq, nI_leI, nI_ltI, nI_eq, true_implies, forall_const, not_true_eq_false, not_false_eq_true, false_implies, and_true, true_and, implies_true, and_self, reduceIte]
    refine ⟨_, hx _ ?_⟩
    simp only [wpY_block, h1, h20, forall_eq, nI_leI, nI_ltI, nI_eq, true_implies, forall_const, not_true_eq_false, not_false_eq_true, false_implies, and_true, true_and, implies_true, and_self, reduceIte]
    exact ⟨_, hy _ ⟨rfl, R⟩⟩
  · obtain ⟨bl, yn, co, se, st, la, pu, ps, sc, he, xb, xc, xi, tc, ts, ta, bc, bs, bm, pb, ou, yb, yl, yf, ya, ys, ye, zf, za, zs, ze, wy, pt, su, bb, bu, rfl, rfl, hS, hE, hF, hG, hO, hZ⟩ := t
    simp only [wpX_block, wpY_block, h1, h20, forall_eq, nI_leI, nI_ltI, nI_eq, true_implies, forall_const, not_true_eq_false, not_false_eq_true, false_implies, and_true, true_and, implies_true, and_self, reduceIte]
    exact J
end BLK2
end
section
/-! part 16: the start; terms -/
section CALLS
variable {h sp ch bl yn : Int32} {co on ba ra gu se si st la pu ps sc he xb xc xi xf xa xe tc ts ta bc bs bm pb ou yb yl yf ya ys ye zf za zs ze wy pt su bb bu : Nat → Int32}
abbrev cw_z : Nat → Int32 := fun _ => 0
def cw_in (z : Int32) (j : Nat) : Nat → Int32 := fun i => if i < j then z else 0
theorem cw_in0 (z : Int32) : cw_in z 0 = cw_z := by
  funext i; unfold cw_in; rw [if_neg (by omega)]
theorem cw_inS (z : Int32) (j : Nat) : upd (cw_in z j) j z = cw_in z (j + 1) := by
  funext i
  unfold upd cw_in
  by_cases h : i = j
  · rw [if_pos h, if_pos (by omega)]
  · rw [if_neg h]
    by_cases h2 : i < j
    · rw [if_pos h2, if_pos (by omega)]
    · rw [if_neg h2, if_neg (by omega)]
theorem xs_init {post : SX → Prop} (H : post (0, 0, 0, 0, cw_in 1000 6, cw_in (vp_nar .boolean 1) 6, cw_in 1 6, cw_z, cw_in (-1) 6, cw_z, cw_z, cw_z, cw_z, cw_z, cw_z, cw_z, cw_z, cw_z, cw_z, cw_z, cw_z, cw_z, cw_z, cw_z, cw_z, cw_z, cw_z, cw_z, cw_z)) : wpX_init post := by
  have L : ∀ d j, j + d = 6 → wX_init_222 post 0 0 0 0 (d + 1) (nI j) (cw_in 1000 j) (cw_in (vp_nar .boolean 1) j) (cw_in 1 j) (cw_z) (cw_in (-1) j) (cw_z) (cw_z) (cw_z) (cw_z) (cw_z) (cw_z) (cw_z) (cw_z) (cw_z) (cw_z) (cw_z) (cw_z) (cw_z) (cw_z) (cw_z) (cw_z) (cw_z) (cw_z) (cw_z) (cw_z) := by
    intro d
    induction d with
    | zero =>
      intro j hj
      have : j = 6 := by omega
      subst this
      rw [wX_init_222]
      simp (disch := omega) only [cw_le6, Nat.le_refl, forall_eq, nI_leI, nI_ltI, nI_eq, true_implies, forall_const, not_true_eq_false, not_false_eq_true, false_implies, and_true, true_and, implies_true, and_self, reduceIte]
      exact H
    | succ d ih =>
      intro j hj
      have q : ¬ 6 ≤ j := by omega
      have := ih (j + 1) (by omega)
      rw [← cw_inS 1000 j, ← cw_inS (vp_nar .boolean 1) j, ← cw_inS 1 j, ← cw_inS (-1) j] at this
      rw [wX_init_222]
      simp (disch := omega) only [cw_le6, q, cw_m2, cw_m3, cw_m4, cw_m13, cw_2m, cw_3m, cw_12m, cw_24m, cw_36m, cw_a12, cw_a3, nI_add, nI_1, pk_sub, nI_clamp, vp_in_nI, forall_eq, nI_leI, nI_ltI, nI_eq, true_implies, forall_const, not_true_eq_false, not_false_eq_true, false_implies, and_true, true_and, implies_true, and_self, reduceIte]
      exact this
  have := L 6 0 rfl
  rw [cw_in0, cw_in0, cw_in0, cw_in0] at this
  exact ⟨_, this⟩
theorem ys_init {post : SY → Prop} (H : post (0, 0, 0, 0, cw_in 1000 6, cw_in 1 6, cw_z, cw_in (-1) 6, cw_z, cw_in (vp_nar .boolean 1) 6, cw_z, cw_z, cw_z, cw_z, cw_z, cw_z, cw_z, cw_z, cw_z, cw_z, cw_z, cw_z, cw_z, cw_z, cw_z, cw_z, cw_z, cw_z, cw_z, cw_z, cw_z, cw_z, cw_z)) : wpY_init post := by
  have L : ∀ d j, j + d = 6 → wY_init_239 post 0 0 0 0 (d + 1) (nI j) (cw_in 1000 j) (cw_in 1 j) (cw_z) (cw_in (-1) j) (cw_z) (cw_in (vp_nar .boolean 1) j) (cw_z) (cw_z) (cw_z) (cw_z) (cw_z) (cw_z) (cw_z) (cw_z) (cw_z) (cw_z) (cw_z) (cw_z) (cw_z) (cw_z) (cw_z) (cw_z) (cw_z) (cw_z) (cw_z) (cw_z) (cw_z) (cw_z) (cw_z) := by
    intro d
    induction d with
    | zero =>
      intro j hj
      have : j = 6 := by omega
      subst this
      rw [wY_init_239]
      simp (disch := omega) only [cw_le6, Nat.le_refl, forall_eq, nI_leI, nI_ltI, nI_eq, true_implies, forall_const, not_true_eq_false, not_false_eq_true, false_implies, and_true, true_and, implies_true, and_self, reduceIte]
      exact H
    | succ d ih =>
      intro j hj
      have q : ¬ 6 ≤ j := by omega
      have := ih (j + 1) (by omega)
      rw [← cw_inS 1000 j, ← cw_inS (vp_nar .boolean 1) j, ← cw_inS 1 j, ← cw_inS (-1) j] at this
      rw [wY_init_239]
      simp (disch := omega) only [cw_le6, q, cw_m2, cw_m3, cw_m4, cw_m13, cw_2m, cw_3m, cw_12m, cw_24m, cw_36m, cw_a12, cw_a3, nI_add, nI_1, pk_sub, nI_clamp, vp_in_nI, forall_eq, nI_leI, nI_ltI, nI_eq, true_implies, forall_const, not_true_eq_false, not_false_eq_true, false_implies, and_true, true_and, implies_true, and_self, reduceIte]
      exact this
  have := L 6 0 rfl
  rw [cw_in0, cw_in0, cw_in0, cw_in0] at this
  exact ⟨_, this⟩
theorem i_vc0 : wpX_init (fun u => wpY_init (fun v => i_Rel 0 u v)) := by
  refine xs_init (ys_init ?_)
  have hH : 0 ≤ 4 * 0 := by omega
  have hB : cw_B 0 cw_z := ⟨by omega, fun i _ => ⟨0, by omega, rfl⟩, fun c hc => by omega⟩
  have hD : cw_D (cw_in (vp_nar .boolean 1) 6) (cw_in 1 6) cw_z := fun p hp => ⟨Or.inr (by unfold cw_in; rw [if_pos hp]; decide), ⟨1, by omega, by unfold cw_in; rw [if_pos hp]; rfl⟩, ⟨0, by omega, rfl⟩⟩
  have hS : cw_S 0 cw_z := fun c _ => ⟨0, Nat.le_refl _, rfl⟩
  have hE : cw_E cw_z cw_z cw_z cw_z cw_z := fun c _ => ⟨⟨0, by omega, rfl⟩, Or.inl rfl, 0, by omega, rfl, fun _ => rfl⟩
  have hF : cw_F cw_z cw_z := fun _ _ _ _ _ _ => rfl
  have hG : cw_G 0 cw_z cw_z cw_z cw_z cw_z cw_z cw_z cw_z cw_z cw_z := fun c k _ _ => cw_Row_0
  have hO : cw_O 0 cw_z cw_z cw_z cw_z cw_z cw_z cw_z cw_z cw_z cw_z cw_z := fun c _ => ⟨cw_Row_0, fun _ => rfl⟩
  have hZ : cw_Z 0 cw_z := fun _ _ _ => rfl
  exact ⟨0, 0, 0, _, _, cw_z, _, cw_z, cw_z, cw_z, cw_z, hH, hB, hD, 0, 0, _, cw_z, cw_z, cw_z, cw_z, cw_z, cw_z, cw_z, cw_z, cw_z, cw_z, cw_z, cw_z, cw_z, cw_z, cw_z, cw_z, cw_z, cw_z, cw_z, cw_z, cw_z, cw_z, cw_z, cw_z, cw_z, cw_z, cw_z, cw_z, cw_z, cw_z, cw_z, cw_z, cw_z, rfl, rfl, hS, hE, hF, hG, hO, hZ⟩
theorem i_vc_terms {k : Nat} {u : SX} {v : SY} (I : i_Rel k u v) (hk : k + 5 ≤ 2560) (v1 : Int32) (v2 : Int32) (v3 : Int32) (v4 : Int32) : wpX_terms (fun r u' => wpY_terms (fun r' v' => r' = r ∧ i_Rel (k + 5) u' v') v v1 v2 v3 v4) u v1 v2 v3 v4 := by
  have J := i_up I
  obtain ⟨H, C, sp, on, ba, ra, gu, si, xf, xa, xe, hH, hB, hD, bl, yn, co, se, st, la, pu, ps, sc, he, xb, xc, xi, tc, ts, ta, bc, bs, bm, pb, ou, yb, yl, yf, ya, ys, ye, zf, za, zs, ze, wy, pt, su, bb, bu, rfl, rfl, hS, hE, hF, hG, hO, hZ⟩ := I
  by_cases h0 : v1 < 0
  · simp only [wpX_terms, wpX_isParty, wpY_terms, wpY_isParty, h0, forall_eq, nI_leI, nI_ltI, nI_eq, true_implies, forall_const, not_true_eq_false, not_false_eq_true, false_implies, and_true, true_and, implies_true, and_self, reduceIte]
    exact J
  by_cases h6 : 6 ≤ v1
  · simp only [wpX_terms, wpX_isParty, wpY_terms, wpY_isParty, h0, h6, forall_eq, nI_leI, nI_ltI, nI_eq, true_implies, forall_const, not_true_eq_false, not_false_eq_true, false_implies, and_true, true_and, implies_true, and_self, reduceIte]
    exact J
  obtain ⟨j, hj, rfl⟩ := cw_pty h0 (Int32.not_le.mp h6)
  by_cases b0 : v2 < 0
  · simp only [wpX_terms, wpX_isParty, wpY_terms, wpY_isParty, h0, h6, b0, cw_n1, forall_eq, nI_leI, nI_ltI, nI_eq, true_implies, forall_const, not_true_eq_false, not_false_eq_true, false_implies, and_true, true_and, implies_true, and_self, reduceIte]
    exact J
  by_cases b9 : 9 < v2
  · simp only [wpX_terms, wpX_isParty, wpY_terms, wpY_isParty, h0, h6, b0, b9, cw_n1, forall_eq, nI_leI, nI_ltI, nI_eq, true_implies, forall_const, not_true_eq_false, not_false_eq_true, false_implies, and_true, true_and, implies_true, and_self, reduceIte]
    exact J
  by_cases r0 : v3 < 0
  · simp only [wpX_terms, wpX_isParty, wpY_terms, wpY_isParty, h0, h6, b0, b9, r0, cw_n1, forall_eq, nI_leI, nI_ltI, nI_eq, true_implies, forall_const, not_true_eq_false, not_false_eq_true, false_implies, and_true, true_and, implies_true, and_self, reduceIte]
    exact J
  by_cases r20 : 20 < v3
  · have r20' : ¬ v3 ≤ 20 := Int32.not_le.mpr r20
    simp only [wpX_terms, wpX_isParty, wpY_terms, wpY_isParty, h0, h6, b0, b9, r0, r20, r20', cw_n1, forall_eq, nI_leI, nI_ltI, nI_eq, true_implies, forall_const, not_true_eq_false, not_false_eq_true, false_implies, and_true, true_and, implies_true, and_self, reduceIte]
    exact J
  have r20' : v3 ≤ 20 := Int32.not_lt.mp r20
  have hb : ∃ b, b < 10 ∧ v2 = nI b := by
    obtain ⟨b, hb, e⟩ := nI_of b0
    rw [e, cw_lt9 hb] at b9
    exact ⟨b, by omega, e⟩
  have hr : ∃ b, b < 21 ∧ v3 = nI b := by
    obtain ⟨b, hb, e⟩ := nI_of r0
    rw [e, cw_lt20 hb] at r20
    exact ⟨b, by omega, e⟩
  have hD' : cw_D on (upd ba j v2) (upd ra j v3) := by
    intro p hp
    by_cases e : p = j
    · subst e
      rw [pk_us, pk_us]
      exact ⟨(hD p hp).1, hb, hr⟩
    · rw [pk_un e, pk_un e]
      exact hD p hp
  have fin : i_Rel (k + 5) (nI H, sp, nI C, bl, co, on, upd ba j v2, upd ra j v3, upd gu j v4, se, si, st, la, pu, ps, sc, he, xb, xc, xi, xf, xa, xe, tc, ts, ta, bc, bs, bm) (nI H, sp, nI C, yn, co, upd ba j v2, upd ra j v3, upd gu j v4, se, on, si, st, la, pu, pb, sc, he, ou, yb, yl, yf, ya, ys, ye, zf, za, zs, ze, wy, pt, su, bb, bu) := ⟨H, C, sp, on, _, _, _, si, xf, xa, xe, by omega, hB, hD', bl, yn, co, se, st, la, pu, ps, sc, he, xb, xc, xi, tc, ts, ta, bc, bs, bm, pb, ou, yb, yl, yf, ya, ys, ye, zf, za, zs, ze, wy, pt, su, bb, bu, rfl, rfl, hS, hE, hF, hG, hO, hZ⟩
  by_cases g1 : v4 = -1
  · subst g1
    simp (disch := omega) only [wpX_terms, wX_terms_53, wpX_isParty, wpY_terms, wY_terms_49, wpY_isParty, h0, h6, b0, b9, r0, r20, r20', cw_n1, nI_clamp, vp_in_nI, forall_eq, nI_leI, nI_ltI, nI_eq, true_implies, forall_const, not_true_eq_false, not_false_eq_true, false_implies, and_true, true_and, implies_true, and_self, reduceIte]
    exact fin
  by_cases g2 : v4 < 0
  · simp (disch := omega) only [wpX_terms, wpX_isParty, wpY_terms, wpY_isParty, h0, h6, b0, b9, r0, r20, r20', g1, g2, cw_n1, forall_eq, nI_leI, nI_ltI, nI_eq, true_implies, forall_const, not_true_eq_false, not_false_eq_true, false_implies, and_true, true_and, implies_true, and_self, reduceIte]
    exact J
  by_cases g3 : 6 ≤ v4
  · simp (disch := omega) only [wpX_terms, wpX_isParty, wpY_terms, wpY_isParty, h0, h6, b0, b9, r0, r20, r20', g1, g2, g3, cw_n1, forall_eq, nI_leI, nI_ltI, nI_eq, true_implies, forall_const, not_true_eq_false, not_false_eq_true, false_implies, and_true, true_and, implies_true, and_self, reduceIte]
    exact J
  by_cases g4 : v4 = nI j
  · subst g4
    simp (disch := omega) only [wpX_terms, wpX_isParty, wpY_terms, wpY_isParty, h0, h6, b0, b9, r0, r20, r20', g1, cw_n1, forall_eq, nI_leI, nI_ltI, nI_eq, true_implies, forall_const, not_true_eq_false, not_false_eq_true, false_implies, and_true, true_and, implies_true, and_self, reduceIte]
    exact J
  · simp (disch := omega) only [wpX_terms, wX_terms_53, wpX_isParty, wpY_terms, wY_terms_49, wpY_isParty, h0, h6, b0, b9, r0, r20, r20', g1, g2, g3, g4, cw_n1, nI_clamp, vp_in_nI, forall_eq, nI_leI, nI_ltI, nI_eq, true_implies, forall_const, not_true_eq_false, not_false_eq_true, false_implies, and_true, true_and, implies_true, and_self, reduceIte]
    exact fin
theorem cw_F_start (hF : cw_F xb yb) {c : Nat} {x y : Int32} (hc : c < 8) : cw_F (upd (upd xb (2 * (13 * c)) x) (2 * (13 * c) + 1) y) (upd (upd yb (24 * c) x) (24 * c + 1) y) :=
  cw_F_put (c := c) (k := 0) (s := 1) (cw_F_put (c := c) (k := 0) (s := 0) hF hc (by omega) (by omega) (by omega) (by omega) rfl) hc (by omega) (by omega) (by omega) (by omega) rfl
theorem cw_G_start (hG : cw_G sp xf xa xe xc xi yl yf ya ys ye) {c : Nat} (hc : c < 8) : cw_G sp xf xa xe (upd xc (13 * c) 0) xi (upd yl (12 * c) 0) yf ya ys ye := by
  refine cw_G_put (c0 := c) (k0 := 0) hG hc (by omega) (fun i hi => pk_un hi) (fun i hi => pk_un hi) (fun i hi => rfl) (fun i hi => ⟨rfl, rfl, rfl, rfl⟩) ?_
  rw [pk_us' (by omega), pk_us' (by omega)]
  exact cw_Row_0
theorem cw_O_start (hO : cw_O sp xf xa xe xc xi st ou zf za zs ze) {c : Nat} (hc : c < 8) : cw_O sp xf xa xe (upd xc (13 * c) 0) xi st ou zf za zs ze :=
  cw_O_frame hO (fun c' hc' => pk_un (by omega)) (fun c' i hc' hi => rfl)
end CALLS
end
section
/-! part 17: calls on channels -/
section CALLS2
variable {h sp ch bl yn : Int32} {co on ba ra gu se si st la pu ps sc he xb xc xi xf xa xe tc ts ta bc bs bm pb ou yb yl yf ya ys ye zf za zs ze wy pt su bb bu : Nat → Int32}
theorem i_vc_open {k : Nat} {u : SX} {v : SY} (I : i_Rel k u v) (hk : k + 5 ≤ 2560) (v1 : Int32) (v2 : Int32) (v3 : Int32) (v4 : Int32) : wpX_open (fun r u' => wpY_open (fun r' v' => r' = r ∧ i_Rel (k + 5) u' v') v v1 v2 v3 v4) u v1 v2 v3 v4 := by
  have J := i_up I
  obtain ⟨H, C, sp, on, ba, ra, gu, si, xf, xa, xe, hH, hB, hD, bl, yn, co, se, st, la, pu, ps, sc, he, xb, xc, xi, tc, ts, ta, bc, bs, bm, pb, ou, yb, yl, yf, ya, ys, ye, zf, za, zs, ze, wy, pt, su, bb, bu, rfl, rfl, hS, hE, hF, hG, hO, hZ⟩ := I
  by_cases a0 : v1 < 0
  · simp (disch := omega) only [wpX_open, wpX_isParty, wpY_open, wpY_isParty, a0, nI_clamp, vp_in_nI, cw_n1, forall_eq, nI_leI, nI_ltI, nI_eq, true_implies, forall_const, not_true_eq_false, not_false_eq_true, false_implies, and_true, true_and, implies_true, and_self, reduceIte]
    exact J
  by_cases a6 : 6 ≤ v1
  · simp (disch := omega) only [wpX_open, wpX_isParty, wpY_open, wpY_isParty, a0, a6, nI_clamp, vp_in_nI, cw_n1, forall_eq, nI_leI, nI_ltI, nI_eq, true_implies, forall_const, not_true_eq_false, not_false_eq_true, false_implies, and_true, true_and, implies_true, and_self, reduceIte]
    exact J
  by_cases b0 : v2 < 0
  · simp (disch := omega) only [wpX_open, wpX_isParty, wpY_open, wpY_isParty, a0, a6, b0, nI_clamp, vp_in_nI, cw_n1, forall_eq, nI_leI, nI_ltI, nI_eq, true_implies, forall_const, not_true_eq_false, not_false_eq_true, false_implies, and_true, true_and, implies_true, and_self, reduceIte]
    exact J
  by_cases b6 : 6 ≤ v2
  · simp (disch := omega) only [wpX_open, wpX_isParty, wpY_open, wpY_isParty, a0, a6, b0, b6, nI_clamp, vp_in_nI, cw_n1, forall_eq, nI_leI, nI_ltI, nI_eq, true_implies, forall_const, not_true_eq_false, not_false_eq_true, false_implies, and_true, true_and, implies_true, and_self, reduceIte]
    exact J
  obtain ⟨a, ha, rfl⟩ := cw_pty a0 (Int32.not_le.mp a6)
  obtain ⟨b, hb, rfl⟩ := cw_pty b0 (Int32.not_le.mp b6)
  by_cases ab : a = b
  · subst ab
    simp (disch := omega) only [wpX_open, wpX_isParty, wpY_open, wpY_isParty, a0, a6, nI_clamp, vp_in_nI, cw_n1, forall_eq, nI_leI, nI_ltI, nI_eq, true_implies, forall_const, not_true_eq_false, not_false_eq_true, false_implies, and_true, true_and, implies_true, and_self, reduceIte]
    exact J
  by_cases oa : on a = 0
  · simp (disch := omega) only [wpX_open, wpX_isParty, wpY_open, wpY_isParty, a0, a6, b0, b6, ab, oa, nI_clamp, vp_in_nI, cw_n1, forall_eq, nI_leI, nI_ltI, nI_eq, true_implies, forall_const, not_true_eq_false, not_false_eq_true, false_implies, and_true, true_and, implies_true, and_self, reduceIte]
    exact J
  by_cases ob : on b = 0
  · simp (disch := omega) only [wpX_open, wpX_isParty, wpY_open, wpY_isParty, a0, a6, b0, b6, ab, oa, ob, nI_clamp, vp_in_nI, cw_n1, forall_eq, nI_leI, nI_ltI, nI_eq, true_implies, forall_const, not_true_eq_false, not_false_eq_true, false_implies, and_true, true_and, implies_true, and_self, reduceIte]
    exact J
  by_cases x0 : v3 < 0
  · simp (disch := omega) only [wpX_open, wpX_isParty, wpY_open, wpY_isParty, a0, a6, b0, b6, ab, oa, ob, x0, nI_clamp, vp_in_nI, cw_n1, forall_eq, nI_leI, nI_ltI, nI_eq, true_implies, forall_const, not_true_eq_false, not_false_eq_true, false_implies, and_true, true_and, implies_true, and_self, reduceIte]
    exact J
  by_cases y0 : v4 < 0
  · simp (disch := omega) only [wpX_open, wpX_isParty, wpY_open, wpY_isParty, a0, a6, b0, b6, ab, oa, ob, x0, y0, nI_clamp, vp_in_nI, cw_n1, forall_eq, nI_leI, nI_ltI, nI_eq, true_implies, forall_const, not_true_eq_false, not_false_eq_true, false_implies, and_true, true_and, implies_true, and_self, reduceIte]
    exact J
  by_cases ca : co a < v3
  · simp (disch := omega) only [wpX_open, wpX_isParty, wpY_open, wpY_isParty, a0, a6, b0, b6, ab, oa, ob, x0, y0, ca, nI_clamp, vp_in_nI, cw_n1, forall_eq, nI_leI, nI_ltI, nI_eq, true_implies, forall_const, not_true_eq_false, not_false_eq_true, false_implies, and_true, true_and, implies_true, and_self, reduceIte]
    exact J
  by_cases cb : co b < v4
  · simp (disch := omega) only [wpX_open, wpX_isParty, wpY_open, wpY_isParty, a0, a6, b0, b6, ab, oa, ob, x0, y0, ca, cb, nI_clamp, vp_in_nI, cw_n1, forall_eq, nI_leI, nI_ltI, nI_eq, true_implies, forall_const, not_true_eq_false, not_false_eq_true, false_implies, and_true, true_and, implies_true, and_self, reduceIte]
    exact J
  by_cases xy : v3 = 0 ∧ v4 = 0
  · obtain ⟨rfl, rfl⟩ := xy
    simp (disch := omega) only [wpX_open, wpX_isParty, wpY_open, wpY_isParty, a0, a6, b0, b6, ab, oa, ob, x0, y0, ca, cb, nI_clamp, vp_in_nI, cw_n1, forall_eq, nI_leI, nI_ltI, nI_eq, true_implies, forall_const, not_true_eq_false, not_false_eq_true, false_implies, and_true, true_and, implies_true, and_self, reduceIte]
    exact J
  have go : ∀ post : Int32 → SX → Prop, wX_open_84 post (nI a) (nI b) v3 v4 (nI H) sp (nI C) bl co on ba ra gu se si st la pu ps sc he xb xc xi xf xa xe tc ts ta bc bs bm → wpX_open post (nI H, sp, nI C, bl, co, on, ba, ra, gu, se, si, st, la, pu, ps, sc, he, xb, xc, xi, xf, xa, xe, tc, ts, ta, bc, bs, bm) (nI a) (nI b) v3 v4 := by
    intro post hp
    by_cases xz : v3 = 0
    · have yz : ¬ v4 = 0 := fun z => xy ⟨xz, z⟩
      simp (disch := omega) only [wpX_open, wpX_isParty, a0, a6, b0, b6, ab, oa, ob, x0, y0, ca, cb, xz, yz, nI_clamp, vp_in_nI, cw_n1, forall_eq, nI_leI, nI_ltI, nI_eq, true_implies, forall_const, not_true_eq_false, not_false_eq_true, false_implies, and_true, true_and, implies_true, and_self, reduceIte]
      rw [xz] at hp
      simp only [xz] at x0 ca
      simp (disch := omega) only [x0, ca, forall_eq, nI_leI, nI_ltI, nI_eq, true_implies, forall_const, not_true_eq_false, not_false_eq_true, false_implies, and_true, true_and, implies_true, and_self, reduceIte]
      exact hp
    · simp (disch := omega) only [wpX_open, wpX_isParty, a0, a6, b0, b6, ab, oa, ob, x0, y0, ca, cb, xz, nI_clamp, vp_in_nI, cw_n1, forall_eq, nI_leI, nI_ltI, nI_eq, true_implies, forall_const, not_true_eq_false, not_false_eq_true, false_implies, and_true, true_and, implies_true, and_self, reduceIte]
      exact hp
  have goY : ∀ post : Int32 → SY → Prop, wY_open_79 post (nI a) (nI b) v3 v4 (nI H) sp (nI C) yn co ba ra gu se on si st la pu pb sc he ou yb yl yf ya ys ye zf za zs ze wy pt su bb bu → wpY_open post (nI H, sp, nI C, yn, co, ba, ra, gu, se, on, si, st, la, pu, pb, sc, he, ou, yb, yl, yf, ya, ys, ye, zf, za, zs, ze, wy, pt, su, bb, bu) (nI a) (nI b) v3 v4 := by
    intro post hp
    by_cases xz : v3 = 0
    · have yz : ¬ v4 = 0 := fun z => xy ⟨xz, z⟩
      simp (disch := omega) only [wpY_open, wpY_isParty, a0, a6, b0, b6, ab, oa, ob, x0, y0, ca, cb, xz, yz, nI_clamp, vp_in_nI, cw_n1, forall_eq, nI_leI, nI_ltI, nI_eq, true_implies, forall_const, not_true_eq_false, not_false_eq_true, false_implies, and_true, true_and, implies_true, and_self, reduceIte]
      rw [xz] at hp
      simp only [xz] at x0 ca
      simp (disch := omega) only [x0, ca, forall_eq, nI_leI, nI_ltI, nI_eq, true_implies, forall_const, not_true_eq_false, not_false_eq_true, false_implies, and_true, true_and, implies_true, and_self, reduceIte]
      exact hp
    · simp (disch := omega) only [wpY_open, wpY_isParty, a0, a6, b0, b6, ab, oa, ob, x0, y0, ca, cb, xz, nI_clamp, vp_in_nI, cw_n1, forall_eq, nI_leI, nI_ltI, nI_eq, true_implies, forall_const, not_true_eq_false, not_false_eq_true, false_implies, and_true, true_and, implies_true, and_self, reduceIte]
      exact hp
  refine go _ ?_
  obtain ⟨hC, hsi, hne⟩ := hB
  by_cases c8 : C < 8
  · have c8' : ¬ C = 8 := by omega
    have hB' : cw_B (C + 1) (upd (upd si (2 * C) (nI a)) (2 * C + 1) (nI b)) := by
      refine ⟨by omega, fun i hi => ?_, fun c hc => ?_⟩
      · by_cases e1 : i = 2 * C + 1
        · exact ⟨b, hb, pk_us' e1⟩
        · rw [pk_un e1]
          by_cases e2 : i = 2 * C
          · exact ⟨a, ha, pk_us' e2⟩
          · rw [pk_un e2]
            exact hsi i hi
      · by_cases e : c = C
        · subst e
          rw [pk_un (by omega), pk_us, pk_us, nI_eq (by omega) (by omega)]
          exact ab
        · rw [pk_un (by omega), pk_un (by omega), pk_un (by omega), pk_un (by omega)]
          exact hne c (by omega)
    have hE' : cw_E st (upd la C 0) ps pb (upd (upd si (2 * C) (nI a)) (2 * C + 1) (nI b)) := by
      intro c hc
      by_cases e : c = C
      · subst e
        obtain ⟨_, h2, s, hs, es, _⟩ := hE c hc
        refine ⟨⟨0, by omega, pk_us⟩, h2, s, hs, es, fun z => ?_⟩
        rw [hZ c (Nat.le_refl _) hc] at z
        exact absurd z (by decide)
      · obtain ⟨h1, h2, s, hs, es, h3⟩ := hE c hc
        refine ⟨by rw [pk_un e]; exact h1, h2, s, hs, es, fun z => ?_⟩
        rw [pk_un (by omega), pk_un (by omega)]
        exact h3 z
    have hZ' : cw_Z (C + 1) st := fun c h1 h2 => hZ c (by omega) h2
    simp (disch := omega) only [wX_open_84, wpX_startStates, cw_tl8, cw_m2, cw_m3, cw_m4, cw_m13, cw_2m, cw_3m, cw_12m, cw_24m, cw_36m, cw_a12, cw_a3, nI_add, nI_1, pk_sub, nI_clamp, vp_in_nI, c8, forall_eq, nI_leI, nI_ltI, nI_eq, true_implies, forall_const, not_true_eq_false, not_false_eq_true, false_implies, and_true, true_and, implies_true, and_self, reduceIte]
    refine goY _ ?_
    simp (disch := omega) only [wY_open_79, wpY_first, cw_eq8, cw_m2, cw_m3, cw_m4, cw_m13, cw_2m, cw_3m, cw_12m, cw_24m, cw_36m, cw_a12, cw_a3, nI_add, nI_1, pk_sub, nI_clamp, vp_in_nI, c8', forall_eq, nI_leI, nI_ltI, nI_eq, true_implies, forall_const, not_true_eq_false, not_false_eq_true, false_implies, and_true, true_and, implies_true, and_self, reduceIte]
    exact ⟨H, C + 1, sp, on, ba, ra, gu, _, xf, xa, xe, by omega, hB', hD, bl, yn, _, se, st, _, pu, ps, sc, he, _, _, xi, tc, ts, ta, bc, bs, bm, pb, ou, _, _, yf, ya, ys, ye, zf, za, zs, ze, wy, pt, su, bb, bu, rfl, rfl, hS, hE', cw_F_start hF c8, cw_G_start hG c8, cw_O_start hO c8, hZ'⟩
  · have e8 : C = 8 := by omega
    simp (disch := omega) only [wX_open_84, cw_tl8, c8, forall_eq, nI_leI, nI_ltI, nI_eq, true_implies, forall_const, not_true_eq_false, not_false_eq_true, false_implies, and_true, true_and, implies_true, and_self, reduceIte]
    refine goY _ ?_
    simp (disch := omega) only [wY_open_79, cw_eq8, e8, forall_eq, nI_leI, nI_ltI, nI_eq, true_implies, forall_const, not_true_eq_false, not_false_eq_true, false_implies, and_true, true_and, implies_true, and_self, reduceIte]
    rw [e8] at J
    exact J
theorem xs_quiet {post : Int32 → Prop} {c C l n : Nat} (hc : c < C) (hC : C ≤ 8) (hsi : ∀ i, i < 16 → ∃ a, a < 6 ∧ si i = nI a) (hl : l < 12) (el : la c = nI l) (hn : n ≤ 3) (en : xc (13 * c + l) = nI n)
    (h1 : cw_rd st on si c → n = 0 → post 1) (h0 : ¬ (cw_rd st on si c ∧ n = 0) → post 0) : wpX_isQuiet post (h, sp, nI C, bl, co, on, ba, ra, gu, se, si, st, la, pu, ps, sc, he, xb, xc, xi, xf, xa, xe, tc, ts, ta, bc, bs, bm) (nI c) := by
  have n0 : ¬ nI c < 0 := nI_pos (by omega)
  have q : ¬ C ≤ c := by omega
  simp (disch := omega) only [wpX_isQuiet, wpX_isChannel, n0, q, cw_n1, cw_m2, cw_m3, cw_m4, cw_m13, cw_2m, cw_3m, cw_12m, cw_24m, cw_36m, cw_a12, cw_a3, nI_add, nI_1, pk_sub, nI_clamp, vp_in_nI, el, en, cw_eq0, forall_eq, nI_leI, nI_ltI, nI_eq, true_implies, forall_const, not_true_eq_false, not_false_eq_true, false_implies, and_true, true_and, implies_true, and_self, reduceIte]
  refine xs_isReady (by omega) hsi (fun r => br_f cw_n1 ?_) (fun r => br_t rfl (h0 (fun z => r z.1)))
  exact br_c (fun z => h1 r z) (fun z => h0 (fun y => z y.2))
theorem ys_plain {post : Int32 → Prop} {c C l n : Nat} (hc : c < C) (hC : C ≤ 8) (hsi : ∀ i, i < 16 → ∃ a, a < 6 ∧ si i = nI a) (hl : l < 12) (el : la c = nI l) (hn : n ≤ 3) (en : yl (12 * c + l) = nI n)
    (h1 : cw_rd st on si c → n = 0 → post 1) (h0 : ¬ (cw_rd st on si c ∧ n = 0) → post 0) : wpY_isPlain post (h, sp, nI C, yn, co, ba, ra, gu, se, on, si, st, la, pu, pb, sc, he, ou, yb, yl, yf, ya, ys, ye, zf, za, zs, ze, wy, pt, su, bb, bu) (nI c) := by
  have n0 : ¬ nI c < 0 := nI_pos (by omega)
  have q : ¬ C ≤ c := by omega
  simp (disch := omega) only [wpY_isPlain, wpY_isChannel, wpY_now, n0, q, cw_n1, cw_m2, cw_m3, cw_m4, cw_m13, cw_2m, cw_3m, cw_12m, cw_24m, cw_36m, cw_a12, cw_a3, nI_add, nI_1, pk_sub, nI_clamp, vp_in_nI, el, en, cw_eq0, forall_eq, nI_leI, nI_ltI, nI_eq, true_implies, forall_const, not_true_eq_false, not_false_eq_true, false_implies, and_true, true_and, implies_true, and_self, reduceIte]
  refine ys_isReady (by omega) hsi (fun r => br_f cw_n1 ?_) (fun r => br_t rfl (h0 (fun z => r z.1)))
  exact br_c (fun z => h1 r z) (fun z => h0 (fun y => z y.2))
theorem cw_chan {C : Nat} {x : Int32} (hC : C ≤ 8) (h0 : ¬ x < 0) (h1 : ¬ nI C ≤ x) : ∃ c, c < C ∧ x = nI c := by
  obtain ⟨c, hc, rfl⟩ := nI_of h0
  rw [nI_leI (by omega) hc] at h1
  exact ⟨c, by omega, rfl⟩
theorem i_vc_close {k : Nat} {u : SX} {v : SY} (I : i_Rel k u v) (hk : k + 5 ≤ 2560) (v1 : Int32) : wpX_close (fun r u' => wpY_close (fun r' v' => r' = r ∧ i_Rel (k + 5) u' v') v v1) u v1 := by
  have J := i_up I
  obtain ⟨H, C, sp, on, ba, ra, gu, si, xf, xa, xe, hH, hB, hD, bl, yn, co, se, st, la, pu, ps, sc, he, xb, xc, xi, tc, ts, ta, bc, bs, bm, pb, ou, yb, yl, yf, ya, ys, ye, zf, za, zs, ze, wy, pt, su, bb, bu, rfl, rfl, hS, hE, hF, hG, hO, hZ⟩ := I
  have hB0 := hB
  obtain ⟨hC, hsi, hne⟩ := hB
  by_cases c0 : v1 < 0
  · simp only [wpX_close, wpX_isQuiet, wpX_isChannel, wpY_close, wpY_isPlain, wpY_isChannel, c0, forall_eq, nI_leI, nI_ltI, nI_eq, true_implies, forall_const, not_true_eq_false, not_false_eq_true, false_implies, and_true, true_and, implies_true, and_self, reduceIte]
    exact J
  by_cases c1 : nI C ≤ v1
  · simp only [wpX_close, wpX_isQuiet, wpX_isChannel, wpY_close, wpY_isPlain, wpY_isChannel, c0, c1, forall_eq, nI_leI, nI_ltI, nI_eq, true_implies, forall_const, not_true_eq_false, not_false_eq_true, false_implies, and_true, true_and, implies_true, and_self, reduceIte]
    exact J
  obtain ⟨c, hc, rfl⟩ := cw_chan hC c0 c1
  obtain ⟨l, hl, el⟩ := (hE c (by omega)).1
  obtain ⟨n, hn, e1, e2, _⟩ := hG c l (by omega) hl
  obtain ⟨a, ha, ea⟩ := hsi (2 * c) (by omega)
  obtain ⟨b, hb, eb⟩ := hsi (2 * c + 1) (by omega)
  have f0 := hF c l 0 (by omega) hl (by omega)
  have f1 := hF c l 1 (by omega) hl (by omega)
  rw [Nat.add_zero, Nat.add_zero] at f0
  unfold wpX_close
  dsimp only
  refine xs_quiet hc hC hsi hl el hn e1 (fun r z => br_f cw_n1 ?_) (fun r => br_t rfl ?_)
  · have z0 : (0 : Int32) = nI 0 := rfl
    have q0 : ¬ (2 ≤ 0) := by omega
    have q1 : ¬ (2 ≤ 1) := by omega
    simp (disch := omega) only [cw_m2, cw_m3, cw_m4, cw_m13, cw_2m, cw_3m, cw_12m, cw_24m, cw_36m, cw_a12, cw_a3, nI_add, nI_1, pk_sub, nI_clamp, vp_in_nI, el, forall_eq, nI_leI, nI_ltI, nI_eq, true_implies, forall_const, not_true_eq_false, not_false_eq_true, false_implies, and_true, true_and, implies_true, and_self, reduceIte]
    refine ⟨3, ?_⟩
    simp (disch := omega) only [wX_close_24, z0, cw_le2, cw_m2, cw_m3, cw_m4, cw_m13, cw_2m, cw_3m, cw_12m, cw_24m, cw_36m, cw_a12, cw_a3, nI_add, nI_1, pk_sub, nI_clamp, vp_in_nI, q0, q1, Nat.zero_add, Nat.add_zero, Nat.le_refl, ea, eb, forall_eq, nI_leI, nI_ltI, nI_eq, true_implies, forall_const, not_true_eq_false, not_false_eq_true, false_implies, and_true, true_and, implies_true, and_self, reduceIte]
    unfold wpY_close
    dsimp only
    refine ys_plain hc hC hsi hl el hn e2 (fun _ _ => br_f cw_n1 (ys_now (by omega) el ⟨3, ?_⟩)) (fun r' => absurd ⟨r, z⟩ r')
    simp (disch := omega) only [wY_close_21, z0, cw_le2, cw_m2, cw_m3, cw_m4, cw_m13, cw_2m, cw_3m, cw_12m, cw_24m, cw_36m, cw_a12, cw_a3, nI_add, nI_1, pk_sub, nI_clamp, vp_in_nI, q0, q1, Nat.zero_add, Nat.add_zero, Nat.le_refl, ea, eb, f0, f1, forall_eq, nI_leI, nI_ltI, nI_eq, true_implies, forall_const, not_true_eq_false, not_false_eq_true, false_implies, and_true, true_and, implies_true, and_self, reduceIte]
    have hO' : cw_O sp xf xa xe xc xi (upd st c 2) ou zf za zs ze := by
      intro c' hc'
      refine ⟨(hO c' hc').1, fun y => (hO c' hc').2 (fun w => ?_)⟩
      by_cases e : c' = c
      · subst e
        have := r.1
        rw [this] at w
        exact absurd w (by decide)
      · rw [pk_un e] at y
        exact y w
    have hE' : cw_E (upd st c 2) la ps pb si := by
      intro c' hc'
      obtain ⟨h1, h2, s, hs, es, h3⟩ := hE c' hc'
      by_cases e : c' = c
      · subst e
        rw [pk_us]
        exact ⟨h1, Or.inr (Or.inr rfl), s, hs, es, fun w => absurd w (by decide)⟩
      · rw [pk_un e]
        exact ⟨h1, h2, s, hs, es, h3⟩
    exact ⟨H, C, sp, on, ba, ra, gu, si, xf, xa, xe, by omega, hB0, hD, bl, yn, _, se, _, la, pu, ps, sc, he, xb, xc, xi, tc, ts, ta, bc, bs, bm, pb, ou, yb, yl, yf, ya, ys, ye, zf, za, zs, ze, wy, pt, su, bb, bu, rfl, rfl, hS, hE', hF, hG, hO', cw_Z_put hZ hc⟩
  · unfold wpY_close
    dsimp only
    exact ys_plain hc hC hsi hl el hn e2 (fun r' z => absurd ⟨r', z⟩ r) (fun _ => br_t rfl ⟨rfl, J⟩)
end CALLS2
end
section
/-! part 18: renew, publish -/
section CALLS3
variable {h sp ch bl yn : Int32} {co on ba ra gu se si st la pu ps sc he xb xc xi xf xa xe tc ts ta bc bs bm pb ou yb yl yf ya ys ye zf za zs ze wy pt su bb bu : Nat → Int32}
theorem i_vc_renew {k : Nat} {u : SX} {v : SY} (I : i_Rel k u v) (hk : k + 5 ≤ 2560) (v1 : Int32) (v2 : Int32) (v3 : Int32) : wpX_renew (fun r u' => wpY_renew (fun r' v' => r' = r ∧ i_Rel (k + 5) u' v') v v1 v2 v3) u v1 v2 v3 := by
  have J := i_up I
  obtain ⟨H, C, sp, on, ba, ra, gu, si, xf, xa, xe, hH, hB, hD, bl, yn, co, se, st, la, pu, ps, sc, he, xb, xc, xi, tc, ts, ta, bc, bs, bm, pb, ou, yb, yl, yf, ya, ys, ye, zf, za, zs, ze, wy, pt, su, bb, bu, rfl, rfl, hS, hE, hF, hG, hO, hZ⟩ := I
  have hB0 := hB
  obtain ⟨hC, hsi, hne⟩ := hB
  by_cases c0 : v1 < 0
  · simp only [wpX_renew, wpX_isQuiet, wpX_isChannel, wpY_renew, wpY_isPlain, wpY_isChannel, c0, forall_eq, nI_leI, nI_ltI, nI_eq, true_implies, forall_const, not_true_eq_false, not_false_eq_true, false_implies, and_true, true_and, implies_true, and_self, reduceIte]
    exact J
  by_cases c1 : nI C ≤ v1
  · simp only [wpX_renew, wpX_isQuiet, wpX_isChannel, wpY_renew, wpY_isPlain, wpY_isChannel, c0, c1, forall_eq, nI_leI, nI_ltI, nI_eq, true_implies, forall_const, not_true_eq_false, not_false_eq_true, false_implies, and_true, true_and, implies_true, and_self, reduceIte]
    exact J
  obtain ⟨c, hc, rfl⟩ := cw_chan hC c0 c1
  obtain ⟨l, hl, el⟩ := (hE c (by omega)).1
  obtain ⟨n, hn, e1, e2, _⟩ := hG c l (by omega) hl
  obtain ⟨a, ha, ea⟩ := hsi (2 * c) (by omega)
  obtain ⟨b, hb, eb⟩ := hsi (2 * c + 1) (by omega)
  have f0 := hF c l 0 (by omega) hl (by omega)
  have f1 := hF c l 1 (by omega) hl (by omega)
  rw [Nat.add_zero, Nat.add_zero] at f0
  unfold wpX_renew
  dsimp only
  refine xs_quiet hc hC hsi hl el hn e1 (fun r z => br_f cw_n1 ?_) (fun r => br_t rfl ?_)
  ·
    by_cases x0 : v2 < -6000
    · simp (disch := omega) only [x0, cw_m2, cw_m3, cw_m4, cw_m13, cw_2m, cw_3m, cw_12m, cw_24m, cw_36m, cw_a12, cw_a3, nI_add, nI_1, pk_sub, nI_clamp, vp_in_nI, el, ea, eb, forall_eq, nI_leI, nI_ltI, nI_eq, true_implies, forall_const, not_true_eq_false, not_false_eq_true, false_implies, and_true, true_and, implies_true, and_self, reduceIte]
      unfold wpY_renew
      dsimp only
      refine ys_plain hc hC hsi hl el hn e2 (fun _ _ => br_f cw_n1 ?_) (fun r' => absurd ⟨r, z⟩ r')
      simp (disch := omega) only [x0, wpY_now, cw_m2, cw_m3, cw_m4, cw_m13, cw_2m, cw_3m, cw_12m, cw_24m, cw_36m, cw_a12, cw_a3, nI_add, nI_1, pk_sub, nI_clamp, vp_in_nI, el, ea, eb, f0, f1, forall_eq, nI_leI, nI_ltI, nI_eq, true_implies, forall_const, not_true_eq_false, not_false_eq_true, false_implies, and_true, true_and, implies_true, and_self, reduceIte]
      exact J
    by_cases x1 : 6000 < v2
    · simp (disch := omega) only [x0, x1, cw_m2, cw_m3, cw_m4, cw_m13, cw_2m, cw_3m, cw_12m, cw_24m, cw_36m, cw_a12, cw_a3, nI_add, nI_1, pk_sub, nI_clamp, vp_in_nI, el, ea, eb, forall_eq, nI_leI, nI_ltI, nI_eq, true_implies, forall_const, not_true_eq_false, not_false_eq_true, false_implies, and_true, true_and, implies_true, and_self, reduceIte]
      unfold wpY_renew
      dsimp only
      refine ys_plain hc hC hsi hl el hn e2 (fun _ _ => br_f cw_n1 ?_) (fun r' => absurd ⟨r, z⟩ r')
      simp (disch := omega) only [x0, x1, wpY_now, cw_m2, cw_m3, cw_m4, cw_m13, cw_2m, cw_3m, cw_12m, cw_24m, cw_36m, cw_a12, cw_a3, nI_add, nI_1, pk_sub, nI_clamp, vp_in_nI, el, ea, eb, f0, f1, forall_eq, nI_leI, nI_ltI, nI_eq, true_implies, forall_const, not_true_eq_false, not_false_eq_true, false_implies, and_true, true_and, implies_true, and_self, reduceIte]
      exact J
    by_cases y0 : v3 < -6000
    · simp (disch := omega) only [x0, x1, y0, cw_m2, cw_m3, cw_m4, cw_m13, cw_2m, cw_3m, cw_12m, cw_24m, cw_36m, cw_a12, cw_a3, nI_add, nI_1, pk_sub, nI_clamp, vp_in_nI, el, ea, eb, forall_eq, nI_leI, nI_ltI, nI_eq, true_implies, forall_const, not_true_eq_false, not_false_eq_true, false_implies, and_true, true_and, implies_true, and_self, reduceIte]
      unfold wpY_renew
      dsimp only
      refine ys_plain hc hC hsi hl el hn e2 (fun _ _ => br_f cw_n1 ?_) (fun r' => absurd ⟨r, z⟩ r')
      simp (disch := omega) only [x0, x1, y0, wpY_now, cw_m2, cw_m3, cw_m4, cw_m13, cw_2m, cw_3m, cw_12m, cw_24m, cw_36m, cw_a12, cw_a3, nI_add, nI_1, pk_sub, nI_clamp, vp_in_nI, el, ea, eb, f0, f1, forall_eq, nI_leI, nI_ltI, nI_eq, true_implies, forall_const, not_true_eq_false, not_false_eq_true, false_implies, and_true, true_and, implies_true, and_self, reduceIte]
      exact J
    by_cases y1 : v3 ≤ 6000
    rotate_left
    · simp (disch := omega) only [x0, x1, y0, y1, cw_m2, cw_m3, cw_m4, cw_m13, cw_2m, cw_3m, cw_12m, cw_24m, cw_36m, cw_a12, cw_a3, nI_add, nI_1, pk_sub, nI_clamp, vp_in_nI, el, ea, eb, forall_eq, nI_leI, nI_ltI, nI_eq, true_implies, forall_const, not_true_eq_false, not_false_eq_true, false_implies, and_true, true_and, implies_true, and_self, reduceIte]
      unfold wpY_renew
      dsimp only
      refine ys_plain hc hC hsi hl el hn e2 (fun _ _ => br_f cw_n1 ?_) (fun r' => absurd ⟨r, z⟩ r')
      simp (disch := omega) only [x0, x1, y0, y1, wpY_now, cw_m2, cw_m3, cw_m4, cw_m13, cw_2m, cw_3m, cw_12m, cw_24m, cw_36m, cw_a12, cw_a3, nI_add, nI_1, pk_sub, nI_clamp, vp_in_nI, el, ea, eb, f0, f1, forall_eq, nI_leI, nI_ltI, nI_eq, true_implies, forall_const, not_true_eq_false, not_false_eq_true, false_implies, and_true, true_and, implies_true, and_self, reduceIte]
      exact J
    by_cases ca : co a < v2
    · by_cases nx : xb (2 * (13 * c + l)) + v2 < 0
      · simp (disch := omega) only [x0, x1, y0, y1, ca, nx, cw_m2, cw_m3, cw_m4, cw_m13, cw_2m, cw_3m, cw_12m, cw_24m, cw_36m, cw_a12, cw_a3, nI_add, nI_1, pk_sub, nI_clamp, vp_in_nI, el, ea, eb, forall_eq, nI_leI, nI_ltI, nI_eq, true_implies, forall_const, not_true_eq_false, not_false_eq_true, false_implies, and_true, true_and, implies_true, and_self, reduceIte]
        unfold wpY_renew
        dsimp only
        refine ys_plain hc hC hsi hl el hn e2 (fun _ _ => br_f cw_n1 ?_) (fun r' => absurd ⟨r, z⟩ r')
        simp (disch := omega) only [x0, x1, y0, y1, ca, nx, wpY_now, cw_m2, cw_m3, cw_m4, cw_m13, cw_2m, cw_3m, cw_12m, cw_24m, cw_36m, cw_a12, cw_a3, nI_add, nI_1, pk_sub, nI_clamp, vp_in_nI, el, ea, eb, f0, f1, forall_eq, nI_leI, nI_ltI, nI_eq, true_implies, forall_const, not_true_eq_false, not_false_eq_true, false_implies, and_true, true_and, implies_true, and_self, reduceIte]
        exact J
      · by_cases ny : xb (2 * (13 * c + l) + 1) + v3 < 0
        · simp (disch := omega) only [x0, x1, y0, y1, ca, nx, ny, cw_m2, cw_m3, cw_m4, cw_m13, cw_2m, cw_3m, cw_12m, cw_24m, cw_36m, cw_a12, cw_a3, nI_add, nI_1, pk_sub, nI_clamp, vp_in_nI, el, ea, eb, forall_eq, nI_leI, nI_ltI, nI_eq, true_implies, forall_const, not_true_eq_false, not_false_eq_true, false_implies, and_true, true_and, implies_true, and_self, reduceIte]
          unfold wpY_renew
          dsimp only
          refine ys_plain hc hC hsi hl el hn e2 (fun _ _ => br_f cw_n1 ?_) (fun r' => absurd ⟨r, z⟩ r')
          simp (disch := omega) only [x0, x1, y0, y1, ca, nx, ny, wpY_now, cw_m2, cw_m3, cw_m4, cw_m13, cw_2m, cw_3m, cw_12m, cw_24m, cw_36m, cw_a12, cw_a3, nI_add, nI_1, pk_sub, nI_clamp, vp_in_nI, el, ea, eb, f0, f1, forall_eq, nI_leI, nI_ltI, nI_eq, true_implies, forall_const, not_true_eq_false, not_false_eq_true, false_implies, and_true, true_and, implies_true, and_self, reduceIte]
          exact J
        · simp (disch := omega) only [x0, x1, y0, y1, ca, nx, ny, cw_m2, cw_m3, cw_m4, cw_m13, cw_2m, cw_3m, cw_12m, cw_24m, cw_36m, cw_a12, cw_a3, nI_add, nI_1, pk_sub, nI_clamp, vp_in_nI, el, ea, eb, forall_eq, nI_leI, nI_ltI, nI_eq, true_implies, forall_const, not_true_eq_false, not_false_eq_true, false_implies, and_true, true_and, implies_true, and_self, reduceIte]
          unfold wpY_renew
          dsimp only
          refine ys_plain hc hC hsi hl el hn e2 (fun _ _ => br_f cw_n1 ?_) (fun r' => absurd ⟨r, z⟩ r')
          simp (disch := omega) only [x0, x1, y0, y1, ca, nx, ny, wpY_now, cw_m2, cw_m3, cw_m4, cw_m13, cw_2m, cw_3m, cw_12m, cw_24m, cw_36m, cw_a12, cw_a3, nI_add, nI_1, pk_sub, nI_clamp, vp_in_nI, el, ea, eb, f0, f1, forall_eq, nI_leI, nI_ltI, nI_eq, true_implies, forall_const, not_true_eq_false, not_false_eq_true, false_implies, and_true, true_and, implies_true, and_self, reduceIte]
          exact J
    by_cases cb : co b < v3
    · have cb' : ¬ v3 ≤ co b := Int32.not_le.mpr cb
      by_cases nx : xb (2 * (13 * c + l)) + v2 < 0
      · simp (disch := omega) only [x0, x1, y0, y1, ca, cb, cb', nx, cw_m2, cw_m3, cw_m4, cw_m13, cw_2m, cw_3m, cw_12m, cw_24m, cw_36m, cw_a12, cw_a3, nI_add, nI_1, pk_sub, nI_clamp, vp_in_nI, el, ea, eb, forall_eq, nI_leI, nI_ltI, nI_eq, true_implies, forall_const, not_true_eq_false, not_false_eq_true, false_implies, and_true, true_and, implies_true, and_self, reduceIte]
        unfold wpY_renew
        dsimp only
        refine ys_plain hc hC hsi hl el hn e2 (fun _ _ => br_f cw_n1 ?_) (fun r' => absurd ⟨r, z⟩ r')
        simp (disch := omega) only [x0, x1, y0, y1, ca, cb, cb', nx, wpY_now, cw_m2, cw_m3, cw_m4, cw_m13, cw_2m, cw_3m, cw_12m, cw_24m, cw_36m, cw_a12, cw_a3, nI_add, nI_1, pk_sub, nI_clamp, vp_in_nI, el, ea, eb, f0, f1, forall_eq, nI_leI, nI_ltI, nI_eq, true_implies, forall_const, not_true_eq_false, not_false_eq_true, false_implies, and_true, true_and, implies_true, and_self, reduceIte]
        exact J
      · by_cases ny : xb (2 * (13 * c + l) + 1) + v3 < 0
        · simp (disch := omega) only [x0, x1, y0, y1, ca, cb, cb', nx, ny, cw_m2, cw_m3, cw_m4, cw_m13, cw_2m, cw_3m, cw_12m, cw_24m, cw_36m, cw_a12, cw_a3, nI_add, nI_1, pk_sub, nI_clamp, vp_in_nI, el, ea, eb, forall_eq, nI_leI, nI_ltI, nI_eq, true_implies, forall_const, not_true_eq_false, not_false_eq_true, false_implies, and_true, true_and, implies_true, and_self, reduceIte]
          unfold wpY_renew
          dsimp only
          refine ys_plain hc hC hsi hl el hn e2 (fun _ _ => br_f cw_n1 ?_) (fun r' => absurd ⟨r, z⟩ r')
          simp (disch := omega) only [x0, x1, y0, y1, ca, cb, cb', nx, ny, wpY_now, cw_m2, cw_m3, cw_m4, cw_m13, cw_2m, cw_3m, cw_12m, cw_24m, cw_36m, cw_a12, cw_a3, nI_add, nI_1, pk_sub, nI_clamp, vp_in_nI, el, ea, eb, f0, f1, forall_eq, nI_leI, nI_ltI, nI_eq, true_implies, forall_const, not_true_eq_false, not_false_eq_true, false_implies, and_true, true_and, implies_true, and_self, reduceIte]
          exact J
        · simp (disch := omega) only [x0, x1, y0, y1, ca, cb, cb', nx, ny, cw_m2, cw_m3, cw_m4, cw_m13, cw_2m, cw_3m, cw_12m, cw_24m, cw_36m, cw_a12, cw_a3, nI_add, nI_1, pk_sub, nI_clamp, vp_in_nI, el, ea, eb, forall_eq, nI_leI, nI_ltI, nI_eq, true_implies, forall_const, not_true_eq_false, not_false_eq_true, false_implies, and_true, true_and, implies_true, and_self, reduceIte]
          unfold wpY_renew
          dsimp only
          refine ys_plain hc hC hsi hl el hn e2 (fun _ _ => br_f cw_n1 ?_) (fun r' => absurd ⟨r, z⟩ r')
          simp (disch := omega) only [x0, x1, y0, y1, ca, cb, cb', nx, ny, wpY_now, cw_m2, cw_m3, cw_m4, cw_m13, cw_2m, cw_3m, cw_12m, cw_24m, cw_36m, cw_a12, cw_a3, nI_add, nI_1, pk_sub, nI_clamp, vp_in_nI, el, ea, eb, f0, f1, forall_eq, nI_leI, nI_ltI, nI_eq, true_implies, forall_const, not_true_eq_false, not_false_eq_true, false_implies, and_true, true_and, implies_true, and_self, reduceIte]
          exact J
    have cb' : v3 ≤ co b := Int32.not_lt.mp cb
    by_cases nx : xb (2 * (13 * c + l)) + v2 < 0
    · simp (disch := omega) only [x0, x1, y0, y1, ca, cb, cb', nx, cw_m2, cw_m3, cw_m4, cw_m13, cw_2m, cw_3m, cw_12m, cw_24m, cw_36m, cw_a12, cw_a3, nI_add, nI_1, pk_sub, nI_clamp, vp_in_nI, el, ea, eb, forall_eq, nI_leI, nI_ltI, nI_eq, true_implies, forall_const, not_true_eq_false, not_false_eq_true, false_implies, and_true, true_and, implies_true, and_self, reduceIte]
      unfold wpY_renew
      dsimp only
      refine ys_plain hc hC hsi hl el hn e2 (fun _ _ => br_f cw_n1 ?_) (fun r' => absurd ⟨r, z⟩ r')
      simp (disch := omega) only [x0, x1, y0, y1, ca, cb, cb', nx, wpY_now, cw_m2, cw_m3, cw_m4, cw_m13, cw_2m, cw_3m, cw_12m, cw_24m, cw_36m, cw_a12, cw_a3, nI_add, nI_1, pk_sub, nI_clamp, vp_in_nI, el, ea, eb, f0, f1, forall_eq, nI_leI, nI_ltI, nI_eq, true_implies, forall_const, not_true_eq_false, not_false_eq_true, false_implies, and_true, true_and, implies_true, and_self, reduceIte]
      exact J
    by_cases ny : xb (2 * (13 * c + l) + 1) + v3 < 0
    · have ny' : ¬ 0 ≤ xb (2 * (13 * c + l) + 1) + v3 := Int32.not_le.mpr ny
      simp (disch := omega) only [x0, x1, y0, y1, ca, cb, cb', nx, ny, ny', cw_m2, cw_m3, cw_m4, cw_m13, cw_2m, cw_3m, cw_12m, cw_24m, cw_36m, cw_a12, cw_a3, nI_add, nI_1, pk_sub, nI_clamp, vp_in_nI, el, ea, eb, forall_eq, nI_leI, nI_ltI, nI_eq, true_implies, forall_const, not_true_eq_false, not_false_eq_true, false_implies, and_true, true_and, implies_true, and_self, reduceIte]
      unfold wpY_renew
      dsimp only
      refine ys_plain hc hC hsi hl el hn e2 (fun _ _ => br_f cw_n1 ?_) (fun r' => absurd ⟨r, z⟩ r')
      simp (disch := omega) only [x0, x1, y0, y1, ca, cb, cb', nx, ny, ny', wpY_now, cw_m2, cw_m3, cw_m4, cw_m13, cw_2m, cw_3m, cw_12m, cw_24m, cw_36m, cw_a12, cw_a3, nI_add, nI_1, pk_sub, nI_clamp, vp_in_nI, el, ea, eb, f0, f1, forall_eq, nI_leI, nI_ltI, nI_eq, true_implies, forall_const, not_true_eq_false, not_false_eq_true, false_implies, and_true, true_and, implies_true, and_self, reduceIte]
      exact J
    have ny' : 0 ≤ xb (2 * (13 * c + l) + 1) + v3 := Int32.not_lt.mp ny
    simp (disch := omega) only [x0, x1, y0, y1, ca, cb, cb', nx, ny, ny', wpX_startStates, cw_m2, cw_m3, cw_m4, cw_m13, cw_2m, cw_3m, cw_12m, cw_24m, cw_36m, cw_a12, cw_a3, nI_add, nI_1, pk_sub, nI_clamp, vp_in_nI, el, ea, eb, forall_eq, nI_leI, nI_ltI, nI_eq, true_implies, forall_const, not_true_eq_false, not_false_eq_true, false_implies, and_true, true_and, implies_true, and_self, reduceIte]
    unfold wpY_renew
    dsimp only
    refine ys_plain hc hC hsi hl el hn e2 (fun _ _ => br_f cw_n1 ?_) (fun r' => absurd ⟨r, z⟩ r')
    simp (disch := omega) only [x0, x1, y0, y1, ca, cb, cb', nx, ny, ny', wpY_now, wpY_first, cw_m2, cw_m3, cw_m4, cw_m13, cw_2m, cw_3m, cw_12m, cw_24m, cw_36m, cw_a12, cw_a3, nI_add, nI_1, pk_sub, nI_clamp, vp_in_nI, el, ea, eb, f0, f1, forall_eq, nI_leI, nI_ltI, nI_eq, true_implies, forall_const, not_true_eq_false, not_false_eq_true, false_implies, and_true, true_and, implies_true, and_self, reduceIte]
    exact ⟨H, C, sp, on, ba, ra, gu, si, xf, xa, xe, by omega, hB0, hD, bl, yn, _, se, st, _, pu, ps, sc, he, _, _, xi, tc, ts, ta, bc, bs, bm, pb, ou, _, _, yf, ya, ys, ye, zf, za, zs, ze, wy, pt, su, bb, bu, rfl, rfl, hS, cw_E_la hE (l := 0) (by omega), cw_F_start hF (by omega), cw_G_start hG (by omega), cw_O_start hO (by omega), hZ⟩
  · unfold wpY_renew
    dsimp only
    exact ys_plain hc hC hsi hl el hn e2 (fun r' z => absurd ⟨r', z⟩ r) (fun _ => br_t rfl ⟨rfl, J⟩)
theorem i_vc_publish {k : Nat} {u : SX} {v : SY} (I : i_Rel k u v) (hk : k + 5 ≤ 2560) (v1 : Int32) (v2 : Int32) (v3 : Int32) : wpX_publish (fun r u' => wpY_publish (fun r' v' => r' = r ∧ i_Rel (k + 5) u' v') v v1 v2 v3) u v1 v2 v3 := by
  have J := i_up I
  obtain ⟨H, C, sp, on, ba, ra, gu, si, xf, xa, xe, hH, hB, hD, t⟩ := I
  have t0 := t
  obtain ⟨bl, yn, co, se, st, la, pu, ps, sc, he, xb, xc, xi, tc, ts, ta, bc, bs, bm, pb, ou, yb, yl, yf, ya, ys, ye, zf, za, zs, ze, wy, pt, su, bb, bu, rfl, rfl, hS, hE, hF, hG, hO, hZ⟩ := t
  have hB0 := hB
  obtain ⟨hC, hsi, hne⟩ := hB
  have Yp : ∀ post : Int32 → SY → Prop, (v1 < 0 ∨ 6 ≤ v1) → post 0 (nI H, sp, nI C, yn, co, ba, ra, gu, se, on, si, st, la, pu, pb, sc, he, ou, yb, yl, yf, ya, ys, ye, zf, za, zs, ze, wy, pt, su, bb, bu) → wpY_publish post (nI H, sp, nI C, yn, co, ba, ra, gu, se, on, si, st, la, pu, pb, sc, he, ou, yb, yl, yf, ya, ys, ye, zf, za, zs, ze, wy, pt, su, bb, bu) v1 v2 v3 := by
    intro post h hp
    by_cases a0 : v1 < 0
    · simp only [wpY_publish, wpY_isParty, a0, forall_eq, nI_leI, nI_ltI, nI_eq, true_implies, forall_const, not_true_eq_false, not_false_eq_true, false_implies, and_true, true_and, implies_true, and_self, reduceIte]
      exact hp
    · have a6 : 6 ≤ v1 := h.resolve_left a0
      simp only [wpY_publish, wpY_isParty, a0, a6, forall_eq, nI_leI, nI_ltI, nI_eq, true_implies, forall_const, not_true_eq_false, not_false_eq_true, false_implies, and_true, true_and, implies_true, and_self, reduceIte]
      exact hp
  have Yc : ∀ post : Int32 → SY → Prop, (v2 < 0 ∨ nI C ≤ v2) → post 0 (nI H, sp, nI C, yn, co, ba, ra, gu, se, on, si, st, la, pu, pb, sc, he, ou, yb, yl, yf, ya, ys, ye, zf, za, zs, ze, wy, pt, su, bb, bu) → wpY_publish post (nI H, sp, nI C, yn, co, ba, ra, gu, se, on, si, st, la, pu, pb, sc, he, ou, yb, yl, yf, ya, ys, ye, zf, za, zs, ze, wy, pt, su, bb, bu) v1 v2 v3 := by
    intro post h hp
    by_cases a0 : v1 < 0
    · exact Yp post (Or.inl a0) hp
    by_cases a6 : 6 ≤ v1
    · exact Yp post (Or.inr a6) hp
    by_cases c0 : v2 < 0
    · simp only [wpY_publish, wpY_isParty, wpY_isChannel, a0, a6, c0, cw_n1, forall_eq, nI_leI, nI_ltI, nI_eq, true_implies, forall_const, not_true_eq_false, not_false_eq_true, false_implies, and_true, true_and, implies_true, and_self, reduceIte]
      exact hp
    · have c1 : nI C ≤ v2 := h.resolve_left c0
      simp only [wpY_publish, wpY_isParty, wpY_isChannel, a0, a6, c0, c1, cw_n1, forall_eq, nI_leI, nI_ltI, nI_eq, true_implies, forall_const, not_true_eq_false, not_false_eq_true, false_implies, and_true, true_and, implies_true, and_self, reduceIte]
      exact hp
  by_cases c0 : v2 < 0
  · simp only [wpX_publish, wpX_sideOf, wpX_isChannel, c0, forall_eq, nI_leI, nI_ltI, nI_eq, true_implies, forall_const, not_true_eq_false, not_false_eq_true, false_implies, and_true, true_and, implies_true, and_self, reduceIte]
    exact Yc _ (Or.inl c0) ⟨rfl, J⟩
  by_cases c1 : nI C ≤ v2
  · simp only [wpX_publish, wpX_sideOf, wpX_isChannel, c0, c1, forall_eq, nI_leI, nI_ltI, nI_eq, true_implies, forall_const, not_true_eq_false, not_false_eq_true, false_implies, and_true, true_and, implies_true, and_self, reduceIte]
    exact Yc _ (Or.inr c1) ⟨rfl, J⟩
  obtain ⟨c, hc, rfl⟩ := cw_chan hC c0 c1
  have hnec := hne c hc
  obtain ⟨l, hl, el⟩ := (hE c (by omega)).1
  have q0 : ¬ nI c < 0 := c0
  have q1 : ¬ C ≤ c := by omega
  by_cases hex : ∃ s, s < 2 ∧ si (2 * c + s) = v1
  · obtain ⟨s, hs, es⟩ := hex
    obtain ⟨a, ha, ea⟩ := hsi (2 * c + s) (by omega)
    have e1 : v1 = nI a := es.symm.trans ea
    subst e1
    have a0 : ¬ nI a < 0 := nI_pos (by omega)
    have a6 : ¬ 6 ≤ a := by omega
    have Y0 : ∀ post : Int32 → SY → Prop, (¬ st c = 0 ∨ v3 < 0 ∨ ¬ v3 ≤ la c) → post 0 (nI H, sp, nI C, yn, co, ba, ra, gu, se, on, si, st, la, pu, pb, sc, he, ou, yb, yl, yf, ya, ys, ye, zf, za, zs, ze, wy, pt, su, bb, bu) → wpY_publish post (nI H, sp, nI C, yn, co, ba, ra, gu, se, on, si, st, la, pu, pb, sc, he, ou, yb, yl, yf, ya, ys, ye, zf, za, zs, ze, wy, pt, su, bb, bu) (nI a) (nI c) v3 := by
      intro post h hp
      simp (disch := omega) only [wpY_publish, wpY_isParty, wpY_isChannel, a0, cw_le6, a6, q0, q1, cw_n1, cw_m2, cw_m3, cw_m4, cw_m13, cw_2m, cw_3m, cw_12m, cw_24m, cw_36m, cw_a12, cw_a3, nI_add, nI_1, pk_sub, nI_clamp, vp_in_nI, forall_eq, nI_leI, nI_ltI, nI_eq, true_implies, forall_const, not_true_eq_false, not_false_eq_true, false_implies, and_true, true_and, implies_true, and_self, reduceIte]
      refine br_c (fun z => ys_side (by omega) hs es hnec (br_f (cw_nsl hs) (br_c (fun _ => hp) (fun y => br_c (fun x => ?_) (fun _ => hp))))) (fun _ => hp)
      rcases h with h | h | h
      · exact absurd z h
      · exact absurd h y
      · exact absurd x h
    by_cases hst : st c = 0
    · by_cases k0 : v3 < 0
      · unfold wpX_publish
        dsimp only
        refine xs_side hc hC hs es hnec (br_f (cw_nsm hs) ?_)
        simp (disch := omega) only [cw_m2, cw_m3, cw_m4, cw_m13, cw_2m, cw_3m, cw_12m, cw_24m, cw_36m, cw_a12, cw_a3, nI_add, nI_1, pk_sub, nI_clamp, vp_in_nI, hst, k0, forall_eq, nI_leI, nI_ltI, nI_eq, true_implies, forall_const, not_true_eq_false, not_false_eq_true, false_implies, and_true, true_and, implies_true, and_self, reduceIte]
        exact Y0 _ (Or.inr (Or.inl k0)) ⟨rfl, J⟩
      · by_cases k1 : v3 ≤ la c
        · obtain ⟨kk, hkk, rfl⟩ := nI_of k0
          have k1' := k1
          rw [el, nI_leI (by omega) (by omega)] at k1'
          obtain ⟨u1, v1', t1, _, hx, hy⟩ := ls_show hB0 t0 hc hs (show kk < 12 by omega)
          rw [es] at hy
          have R : i_Rel (k + 5) u1 v1' := ⟨H, C, sp, on, ba, ra, gu, si, xf, xa, xe, by omega, hB0, hD, t1⟩
          unfold wpX_publish
          dsimp only
          refine xs_side hc hC hs es hnec (br_f (cw_nsm hs) ?_)
          simp (disch := omega) only [nI_clamp, vp_in_nI, hst, k0, k1, true_implies, not_true_eq_false, not_false_eq_true, false_implies, and_true, true_and]
          refine hx _ ?_
          obtain ⟨h, sp, ch, bl, co, on, ba, ra, gu, se, si, st, la, pu, ps, sc, he, xb, xc, xi, xf, xa, xe, tc, ts, ta, bc, bs, bm⟩ := u1
          dsimp only
          simp (disch := omega) only [wpY_publish, wpY_isParty, wpY_isChannel, a0, cw_le6, a6, q0, q1, cw_n1, nI_leI, nI_clamp, vp_in_nI, hst, k0, k1, true_implies, not_true_eq_false, not_false_eq_true, false_implies, and_true, true_and]
          refine ys_side (by omega) hs es hnec (br_f (cw_nsl hs) (hy _ ?_))
          obtain ⟨h, sp, ch, yn, co, ba, ra, gu, se, on, si, st, la, pu, pb, sc, he, ou, yb, yl, yf, ya, ys, ye, zf, za, zs, ze, wy, pt, su, bb, bu⟩ := v1'
          exact R
        · unfold wpX_publish
          dsimp only
          refine xs_side hc hC hs es hnec (br_f (cw_nsm hs) ?_)
          simp (disch := omega) only [nI_clamp, vp_in_nI, hst, k0, k1, true_implies, not_true_eq_false, not_false_eq_true, false_implies, and_true, true_and]
          exact Y0 _ (Or.inr (Or.inr k1)) ⟨rfl, J⟩
    · unfold wpX_publish
      dsimp only
      refine xs_side hc hC hs es hnec (br_f (cw_nsm hs) ?_)
      simp (disch := omega) only [cw_m2, cw_m3, cw_m4, cw_m13, cw_2m, cw_3m, cw_12m, cw_24m, cw_36m, cw_a12, cw_a3, nI_add, nI_1, pk_sub, nI_clamp, vp_in_nI, hst, forall_eq, nI_leI, nI_ltI, nI_eq, true_implies, forall_const, not_true_eq_false, not_false_eq_true, false_implies, and_true, true_and, implies_true, and_self, reduceIte]
      exact Y0 _ (Or.inl hst) ⟨rfl, J⟩
  · have na : ¬ si (2 * c) = v1 := fun z => hex ⟨0, by omega, z⟩
    have nb : ¬ si (2 * c + 1) = v1 := fun z => hex ⟨1, by omega, z⟩
    unfold wpX_publish
    dsimp only
    refine xs_noside (by omega) hC (fun _ => ⟨na, nb⟩) (br_t rfl ?_)
    by_cases a0 : v1 < 0
    · exact Yp _ (Or.inl a0) ⟨rfl, J⟩
    by_cases a6 : 6 ≤ v1
    · exact Yp _ (Or.inr a6) ⟨rfl, J⟩
    simp (disch := omega) only [wpY_publish, wpY_isParty, wpY_isChannel, a0, a6, q0, q1, cw_n1, cw_m2, cw_m3, cw_m4, cw_m13, cw_2m, cw_3m, cw_12m, cw_24m, cw_36m, cw_a12, cw_a3, nI_add, nI_1, pk_sub, nI_clamp, vp_in_nI, forall_eq, nI_leI, nI_ltI, nI_eq, true_implies, forall_const, not_true_eq_false, not_false_eq_true, false_implies, and_true, true_and, implies_true, and_self, reduceIte]
    exact br_c (fun z => ys_sideOf (by omega) (fun y => absurd y na) (fun _ y => absurd y nb) (fun _ _ => br_t (by decide) J)) (fun _ => J)
end CALLS3
end
section
/-! part 19: party, channel, state, lock -/
section READ
variable {h sp ch bl yn : Int32} {co on ba ra gu se si st la pu ps sc he xb xc xi xf xa xe tc ts ta bc bs bm pb ou yb yl yf ya ys ye zf za zs ze wy pt su bb bu : Nat → Int32}
theorem xs_owni {post : Int32 → Prop} {C p : Nat} {acc : Int32} (hC : C ≤ 8) (hp : post acc) : ∀ d c, c + d = 8 → C ≤ c → wX_ownedInChannels_4 post (nI p) h sp (nI C) bl co on ba ra gu se si st la pu ps sc he xb xc xi xf xa xe tc ts ta bc bs bm (d + 1) acc (nI c) := by
  intro d
  induction d with
  | zero =>
    intro c hc _
    have e : c = 8 := by omega
    subst e
    rw [wX_ownedInChannels_4]
    simp (disch := omega) only [cw_le8, Nat.le_refl, forall_eq, nI_leI, nI_ltI, nI_eq, true_implies, forall_const, not_true_eq_false, not_false_eq_true, false_implies, and_true, true_and, implies_true, and_self, reduceIte]
    exact hp
  | succ d ih =>
    intro c hc hCc
    have q : ¬ 8 ≤ c := by omega
    rw [wX_ownedInChannels_4]
    simp (disch := omega) only [cw_le8, q, cw_m2, cw_m3, cw_m4, cw_m13, cw_2m, cw_3m, cw_12m, cw_24m, cw_36m, cw_a12, cw_a3, nI_add, nI_1, pk_sub, nI_clamp, vp_in_nI, forall_eq, nI_leI, nI_ltI, nI_eq, true_implies, forall_const, not_true_eq_false, not_false_eq_true, false_implies, and_true, true_and, implies_true, and_self, reduceIte]
    refine xs_noside (by omega) hC (fun z => by omega) (br_t rfl ?_)
    unfold wX_ownedInChannels_64
    exact br_t rfl (nm_r (nI_1 c) (ih (c + 1) (by omega) (by omega)))
theorem ls_bound {H C p : Nat} (hB : cw_B C si) (hE : cw_E st la ps pb si) (hF : cw_F xb yb) : ∀ d c acc, c + d = C → ∃ r : Int32, (∀ post : Int32 → Prop, post r → ∃ f, wX_ownedInChannels_4 post (nI p) (nI H) sp (nI C) bl co on ba ra gu se si st la pu ps sc he xb xc xi xf xa xe tc ts ta bc bs bm f acc (nI c)) ∧
    (∀ post : Int32 → Prop, post r → ∃ f, wY_bound_4 post (nI p) (nI H) sp (nI C) yn co ba ra gu se on si st la pu pb sc he ou yb yl yf ya ys ye zf za zs ze wy pt su bb bu f acc (nI c)) := by
  obtain ⟨hC, hsi, hne⟩ := hB
  intro d
  induction d with
  | zero =>
    intro c acc hc
    have e : c = C := by omega
    subst e
    refine ⟨acc, fun post hp => ⟨8 - c + 1, xs_owni hC hp (8 - c) c (by omega) (Nat.le_refl _)⟩, fun post hp => ⟨1, ?_⟩⟩
    rw [wY_bound_4]
    simp (disch := omega) only [Nat.le_refl, forall_eq, nI_leI, nI_ltI, nI_eq, true_implies, forall_const, not_true_eq_false, not_false_eq_true, false_implies, and_true, true_and, implies_true, and_self, reduceIte]
    exact hp
  | succ d ih =>
    intro c acc hc
    have hcC : c < C := by omega
    have hnec := hne c hcC
    have q8 : ¬ 8 ≤ c := by omega
    have qC : ¬ C ≤ c := by omega
    by_cases hex : ∃ s, s < 2 ∧ si (2 * c + s) = nI p
    · obtain ⟨s, hs, es⟩ := hex
      obtain ⟨⟨l, hl, el⟩, hst, q, hq, hps, hpb⟩ := hE c (by omega)
      have f := hF c l s (by omega) hl hs
      by_cases h0 : st c = 0
      · have h1 : ¬ st c = 1 := by rw [h0]; decide
        obtain ⟨r, hx, hy⟩ := ih (c + 1) (acc + xb (2 * (13 * c + l) + s)) (by omega)
        refine ⟨r, fun post hp => ?_, fun post hp => ?_⟩
        · obtain ⟨g, hg⟩ := hx post hp
          refine ⟨g + 1, ?_⟩
          rw [wX_ownedInChannels_4]
          simp (disch := omega) only [cw_le8, q8, cw_m2, cw_m3, cw_m4, cw_m13, cw_2m, cw_3m, cw_12m, cw_24m, cw_36m, cw_a12, cw_a3, nI_add, nI_1, pk_sub, nI_clamp, vp_in_nI, forall_eq, nI_leI, nI_ltI, nI_eq, true_implies, forall_const, not_true_eq_false, not_false_eq_true, false_implies, and_true, true_and, implies_true, and_self, reduceIte]
          refine xs_side hcC hC hs es hnec (br_f (cw_nsm hs) ?_)
          simp (disch := omega) only [cw_m2, cw_m3, cw_m4, cw_m13, cw_2m, cw_3m, cw_12m, cw_24m, cw_36m, cw_a12, cw_a3, nI_add, nI_1, pk_sub, nI_clamp, vp_in_nI, h0, el, forall_eq, nI_leI, nI_ltI, nI_eq, true_implies, forall_const, not_true_eq_false, not_false_eq_true, false_implies, and_true, true_and, implies_true, and_self, reduceIte]
          exact hg
        · obtain ⟨g, hg⟩ := hy post hp
          refine ⟨g + 1, ?_⟩
          rw [wY_bound_4]
          simp (disch := omega) only [cw_m2, cw_m3, cw_m4, cw_m13, cw_2m, cw_3m, cw_12m, cw_24m, cw_36m, cw_a12, cw_a3, nI_add, nI_1, pk_sub, nI_clamp, vp_in_nI, qC, forall_eq, nI_leI, nI_ltI, nI_eq, true_implies, forall_const, not_true_eq_false, not_false_eq_true, false_implies, and_true, true_and, implies_true, and_self, reduceIte]
          refine ys_side (by omega) hs es hnec (br_t (cw_nsg hs) ?_)
          refine br_t h0 (ys_now (by omega) el ?_)
          simp (disch := omega) only [wY_bound_55, cw_m2, cw_m3, cw_m4, cw_m13, cw_2m, cw_3m, cw_12m, cw_24m, cw_36m, cw_a12, cw_a3, nI_add, nI_1, pk_sub, nI_clamp, vp_in_nI, h1, f, forall_eq, nI_leI, nI_ltI, nI_eq, true_implies, forall_const, not_true_eq_false, not_false_eq_true, false_implies, and_true, true_and, implies_true, and_self, reduceIte]
          exact hg
      · by_cases h1 : st c = 1
        · have hpb := hpb h1
          by_cases hqs : q = s
          · subst hqs
            rw [es] at hpb
            obtain ⟨r, hx, hy⟩ := ih (c + 1) (acc + he c) (by omega)
            refine ⟨r, fun post hp => ?_, fun post hp => ?_⟩
            · obtain ⟨g, hg⟩ := hx post hp
              refine ⟨g + 1, ?_⟩
              rw [wX_ownedInChannels_4]
              simp (disch := omega) only [cw_le8, q8, cw_m2, cw_m3, cw_m4, cw_m13, cw_2m, cw_3m, cw_12m, cw_24m, cw_36m, cw_a12, cw_a3, nI_add, nI_1, pk_sub, nI_clamp, vp_in_nI, forall_eq, nI_leI, nI_ltI, nI_eq, true_implies, forall_const, not_true_eq_false, not_false_eq_true, false_implies, and_true, true_and, implies_true, and_self, reduceIte]
              refine xs_side hcC hC hs es hnec (br_f (cw_nsm hs) (br_f h0 ?_))
              simp (disch := omega) only [wX_ownedInChannels_64, cw_nsm hs, cw_m2, cw_m3, cw_m4, cw_m13, cw_2m, cw_3m, cw_12m, cw_24m, cw_36m, cw_a12, cw_a3, nI_add, nI_1, pk_sub, nI_clamp, vp_in_nI, h1, hps, forall_eq, nI_leI, nI_ltI, nI_eq, true_implies, forall_const, not_true_eq_false, not_false_eq_true, false_implies, and_true, true_and, implies_true, and_self, reduceIte]
              exact hg
            · obtain ⟨g, hg⟩ := hy post hp
              refine ⟨g + 1, ?_⟩
              rw [wY_bound_4]
              simp (disch := omega) only [cw_m2, cw_m3, cw_m4, cw_m13, cw_2m, cw_3m, cw_12m, cw_24m, cw_36m, cw_a12, cw_a3, nI_add, nI_1, pk_sub, nI_clamp, vp_in_nI, qC, forall_eq, nI_leI, nI_ltI, nI_eq, true_implies, forall_const, not_true_eq_false, not_false_eq_true, false_implies, and_true, true_and, implies_true, and_self, reduceIte]
              refine ys_side (by omega) hs es hnec (br_t (cw_nsg hs) (br_f h0 ?_))
              simp (disch := omega) only [wY_bound_55, cw_m2, cw_m3, cw_m4, cw_m13, cw_2m, cw_3m, cw_12m, cw_24m, cw_36m, cw_a12, cw_a3, nI_add, nI_1, pk_sub, nI_clamp, vp_in_nI, h1, hpb, forall_eq, nI_leI, nI_ltI, nI_eq, true_implies, forall_const, not_true_eq_false, not_false_eq_true, false_implies, and_true, true_and, implies_true, and_self, reduceIte]
              exact hg
          · have n1 : ¬ ps c = nI s := by rw [hps, nI_eq (by omega) (by omega)]; exact hqs
            have n2 : ¬ pb c = nI p := by
              rw [hpb, ← es]
              have : (q = 0 ∧ s = 1) ∨ (q = 1 ∧ s = 0) := by omega
              rcases this with ⟨rfl, rfl⟩ | ⟨rfl, rfl⟩
              · exact hnec
              · exact fun z => hnec z.symm
            obtain ⟨r, hx, hy⟩ := ih (c + 1) acc (by omega)
            refine ⟨r, fun post hp => ?_, fun post hp => ?_⟩
            · obtain ⟨g, hg⟩ := hx post hp
              refine ⟨g + 1, ?_⟩
              rw [wX_ownedInChannels_4]
              simp (disch := omega) only [cw_le8, q8, cw_m2, cw_m3, cw_m4, cw_m13, cw_2m, cw_3m, cw_12m, cw_24m, cw_36m, cw_a12, cw_a3, nI_add, nI_1, pk_sub, nI_clamp, vp_in_nI, forall_eq, nI_leI, nI_ltI, nI_eq, true_implies, forall_const, not_true_eq_false, not_false_eq_true, false_implies, and_true, true_and, implies_true, and_self, reduceIte]
              refine xs_side hcC hC hs es hnec (br_f (cw_nsm hs) (br_f h0 ?_))
              simp (disch := omega) only [wX_ownedInChannels_64, cw_nsm hs, cw_m2, cw_m3, cw_m4, cw_m13, cw_2m, cw_3m, cw_12m, cw_24m, cw_36m, cw_a12, cw_a3, nI_add, nI_1, pk_sub, nI_clamp, vp_in_nI, h1, n1, forall_eq, nI_leI, nI_ltI, nI_eq, true_implies, forall_const, not_true_eq_false, not_false_eq_true, false_implies, and_true, true_and, implies_true, and_self, reduceIte]
              exact hg
            · obtain ⟨g, hg⟩ := hy post hp
              refine ⟨g + 1, ?_⟩
              rw [wY_bound_4]
              simp (disch := omega) only [cw_m2, cw_m3, cw_m4, cw_m13, cw_2m, cw_3m, cw_12m, cw_24m, cw_36m, cw_a12, cw_a3, nI_add, nI_1, pk_sub, nI_clamp, vp_in_nI, qC, forall_eq, nI_leI, nI_ltI, nI_eq, true_implies, forall_const, not_true_eq_false, not_false_eq_true, false_implies, and_true, true_and, implies_true, and_self, reduceIte]
              refine ys_side (by omega) hs es hnec (br_t (cw_nsg hs) (br_f h0 ?_))
              simp (disch := omega) only [wY_bound_55, cw_m2, cw_m3, cw_m4, cw_m13, cw_2m, cw_3m, cw_12m, cw_24m, cw_36m, cw_a12, cw_a3, nI_add, nI_1, pk_sub, nI_clamp, vp_in_nI, h1, n2, forall_eq, nI_leI, nI_ltI, nI_eq, true_implies, forall_const, not_true_eq_false, not_false_eq_true, false_implies, and_true, true_and, implies_true, and_self, reduceIte]
              exact hg
        · obtain ⟨r, hx, hy⟩ := ih (c + 1) acc (by omega)
          refine ⟨r, fun post hp => ?_, fun post hp => ?_⟩
          · obtain ⟨g, hg⟩ := hx post hp
            refine ⟨g + 1, ?_⟩
            rw [wX_ownedInChannels_4]
            simp (disch := omega) only [cw_le8, q8, cw_m2, cw_m3, cw_m4, cw_m13, cw_2m, cw_3m, cw_12m, cw_24m, cw_36m, cw_a12, cw_a3, nI_add, nI_1, pk_sub, nI_clamp, vp_in_nI, forall_eq, nI_leI, nI_ltI, nI_eq, true_implies, forall_const, not_true_eq_false, not_false_eq_true, false_implies, and_true, true_and, implies_true, and_self, reduceIte]
            refine xs_side hcC hC hs es hnec (br_f (cw_nsm hs) (br_f h0 ?_))
            simp (disch := omega) only [wX_ownedInChannels_64, cw_nsm hs, cw_m2, cw_m3, cw_m4, cw_m13, cw_2m, cw_3m, cw_12m, cw_24m, cw_36m, cw_a12, cw_a3, nI_add, nI_1, pk_sub, nI_clamp, vp_in_nI, h1, forall_eq, nI_leI, nI_ltI, nI_eq, true_implies, forall_const, not_true_eq_false, not_false_eq_true, false_implies, and_true, true_and, implies_true, and_self, reduceIte]
            exact hg
          · obtain ⟨g, hg⟩ := hy post hp
            refine ⟨g + 1, ?_⟩
            rw [wY_bound_4]
            simp (disch := omega) only [cw_m2, cw_m3, cw_m4, cw_m13, cw_2m, cw_3m, cw_12m, cw_24m, cw_36m, cw_a12, cw_a3, nI_add, nI_1, pk_sub, nI_clamp, vp_in_nI, qC, forall_eq, nI_leI, nI_ltI, nI_eq, true_implies, forall_const, not_true_eq_false, not_false_eq_true, false_implies, and_true, true_and, implies_true, and_self, reduceIte]
            refine ys_side (by omega) hs es hnec (br_t (cw_nsg hs) (br_f h0 ?_))
            simp (disch := omega) only [wY_bound_55, cw_m2, cw_m3, cw_m4, cw_m13, cw_2m, cw_3m, cw_12m, cw_24m, cw_36m, cw_a12, cw_a3, nI_add, nI_1, pk_sub, nI_clamp, vp_in_nI, h1, forall_eq, nI_leI, nI_ltI, nI_eq, true_implies, forall_const, not_true_eq_false, not_false_eq_true, false_implies, and_true, true_and, implies_true, and_self, reduceIte]
            exact hg
    · have na : ¬ si (2 * c) = nI p := fun z => hex ⟨0, by omega, z⟩
      have nb : ¬ si (2 * c + 1) = nI p := fun z => hex ⟨1, by omega, z⟩
      obtain ⟨r, hx, hy⟩ := ih (c + 1) acc (by omega)
      refine ⟨r, fun post hp => ?_, fun post hp => ?_⟩
      · obtain ⟨g, hg⟩ := hx post hp
        refine ⟨g + 1, ?_⟩
        rw [wX_ownedInChannels_4]
        simp (disch := omega) only [cw_le8, q8, cw_m2, cw_m3, cw_m4, cw_m13, cw_2m, cw_3m, cw_12m, cw_24m, cw_36m, cw_a12, cw_a3, nI_add, nI_1, pk_sub, nI_clamp, vp_in_nI, forall_eq, nI_leI, nI_ltI, nI_eq, true_implies, forall_const, not_true_eq_false, not_false_eq_true, false_implies, and_true, true_and, implies_true, and_self, reduceIte]
        refine xs_noside (by omega) hC (fun _ => ⟨na, nb⟩) (br_t rfl ?_)
        unfold wX_ownedInChannels_64
        exact br_t rfl (nm_r (nI_1 c) hg)
      · obtain ⟨g, hg⟩ := hy post hp
        refine ⟨g + 1, ?_⟩
        rw [wY_bound_4]
        simp (disch := omega) only [cw_m2, cw_m3, cw_m4, cw_m13, cw_2m, cw_3m, cw_12m, cw_24m, cw_36m, cw_a12, cw_a3, nI_add, nI_1, pk_sub, nI_clamp, vp_in_nI, qC, forall_eq, nI_leI, nI_ltI, nI_eq, true_implies, forall_const, not_true_eq_false, not_false_eq_true, false_implies, and_true, true_and, implies_true, and_self, reduceIte]
        exact ys_sideOf (by omega) (fun z => absurd z na) (fun _ z => absurd z nb) (fun _ _ => br_f (by decide) hg)
theorem cw_nat {x : Int32} {m : Nat} (hm : m < 2 ^ 31) (h0 : ¬ x < 0) (h1 : ¬ nI m < x) : ∃ w, w ≤ m ∧ x = nI w := by
  obtain ⟨w, hw, rfl⟩ := nI_of h0
  rw [nI_ltI hm hw] at h1
  exact ⟨w, by omega, rfl⟩
theorem i_vc_party {k : Nat} {u : SX} {v : SY} (I : i_Rel k u v) (hk : k + 5 ≤ 2560) (v1 : Int32) (v2 : Int32) : wpX_party (fun r => wpY_party (fun r' => r' = r ∧ i_Rel (k + 5) u v) v v1 v2) u v1 v2 := by
  have J := i_up I
  obtain ⟨H, C, sp, on, ba, ra, gu, si, xf, xa, xe, hH, hB, hD, bl, yn, co, se, st, la, pu, ps, sc, he, xb, xc, xi, tc, ts, ta, bc, bs, bm, pb, ou, yb, yl, yf, ya, ys, ye, zf, za, zs, ze, wy, pt, su, bb, bu, rfl, rfl, hS, hE, hF, hG, hO, hZ⟩ := I
  by_cases a0 : v1 < 0
  · simp only [wpX_party, wpX_isParty, wpY_party, wpY_isParty, a0, forall_eq, nI_leI, nI_ltI, nI_eq, true_implies, forall_const, not_true_eq_false, not_false_eq_true, false_implies, and_true, true_and, implies_true, and_self, reduceIte]
    exact J
  by_cases a6 : 6 ≤ v1
  · simp only [wpX_party, wpX_isParty, wpY_party, wpY_isParty, a0, a6, forall_eq, nI_leI, nI_ltI, nI_eq, true_implies, forall_const, not_true_eq_false, not_false_eq_true, false_implies, and_true, true_and, implies_true, and_self, reduceIte]
    exact J
  obtain ⟨p, hp, rfl⟩ := cw_pty a0 (Int32.not_le.mp a6)
  by_cases w0 : v2 < 0
  · simp only [wpX_party, wpX_isParty, wpY_party, wpY_isParty, a0, a6, w0, cw_n1, forall_eq, nI_leI, nI_ltI, nI_eq, true_implies, forall_const, not_true_eq_false, not_false_eq_true, false_implies, and_true, true_and, implies_true, and_self, reduceIte]
    exact J
  by_cases w6 : 6 < v2
  · simp only [wpX_party, wpX_isParty, wpY_party, wpY_isParty, a0, a6, w0, w6, cw_n1, forall_eq, nI_leI, nI_ltI, nI_eq, true_implies, forall_const, not_true_eq_false, not_false_eq_true, false_implies, and_true, true_and, implies_true, and_self, reduceIte]
    exact J
  obtain ⟨w, hw, rfl⟩ := cw_nat (m := 6) (by omega) w0 w6
  have hw' : w = 0 ∨ w = 1 ∨ w = 2 ∨ w = 3 ∨ w = 4 ∨ w = 5 ∨ w = 6 := by omega
  rcases hw' with rfl | rfl | rfl | rfl | rfl | rfl | rfl
  · skip
    simp (disch := omega) only [wpX_party, wpX_isParty, wpY_party, wpY_isParty, a0, a6, w0, w6, cw_n1, cw_eq0, cw_eq1, cw_eq2, cw_eq3, cw_eq4, cw_eq5, cw_eq6, nI_clamp, vp_in_nI, forall_eq, nI_leI, nI_ltI, nI_eq, true_implies, forall_const, not_true_eq_false, not_false_eq_true, false_implies, and_true, true_and, implies_true, and_self, reduceIte]
    exact J
  · skip
    have d0 : ¬ (1 = 0) := by omega
    by_cases o : on p = 0
    · simp (disch := omega) only [wpX_party, wpX_isParty, wpY_party, wpY_isParty, a0, a6, w0, w6, cw_n1, cw_eq0, cw_eq1, cw_eq2, cw_eq3, cw_eq4, cw_eq5, cw_eq6, nI_clamp, vp_in_nI, d0, o, forall_eq, nI_leI, nI_ltI, nI_eq, true_implies, forall_const, not_true_eq_false, not_false_eq_true, false_implies, and_true, true_and, implies_true, and_self, reduceIte]
      exact J
    · simp (disch := omega) only [wpX_party, wpX_isParty, wpY_party, wpY_isParty, a0, a6, w0, w6, cw_n1, cw_eq0, cw_eq1, cw_eq2, cw_eq3, cw_eq4, cw_eq5, cw_eq6, nI_clamp, vp_in_nI, d0, o, forall_eq, nI_leI, nI_ltI, nI_eq, true_implies, forall_const, not_true_eq_false, not_false_eq_true, false_implies, and_true, true_and, implies_true, and_self, reduceIte]
      exact J
  · skip
    have d0 : ¬ (2 = 0) := by omega
    have d1 : ¬ (2 = 1) := by omega
    simp (disch := omega) only [wpX_party, wpX_isParty, wpY_party, wpY_isParty, a0, a6, w0, w6, cw_n1, cw_eq0, cw_eq1, cw_eq2, cw_eq3, cw_eq4, cw_eq5, cw_eq6, nI_clamp, vp_in_nI, d0, d1, forall_eq, nI_leI, nI_ltI, nI_eq, true_implies, forall_const, not_true_eq_false, not_false_eq_true, false_implies, and_true, true_and, implies_true, and_self, reduceIte]
    exact J
  · skip
    have d0 : ¬ (3 = 0) := by omega
    have d1 : ¬ (3 = 1) := by omega
    have d2 : ¬ (3 = 2) := by omega
    simp (disch := omega) only [wpX_party, wpX_isParty, wpY_party, wpY_isParty, a0, a6, w0, w6, cw_n1, cw_eq0, cw_eq1, cw_eq2, cw_eq3, cw_eq4, cw_eq5, cw_eq6, nI_clamp, vp_in_nI, d0, d1, d2, forall_eq, nI_leI, nI_ltI, nI_eq, true_implies, forall_const, not_true_eq_false, not_false_eq_true, false_implies, and_true, true_and, implies_true, and_self, reduceIte]
    exact J
  · skip
    have d0 : ¬ (4 = 0) := by omega
    have d1 : ¬ (4 = 1) := by omega
    have d2 : ¬ (4 = 2) := by omega
    have d3 : ¬ (4 = 3) := by omega
    simp (disch := omega) only [wpX_party, wpX_isParty, wpY_party, wpY_isParty, a0, a6, w0, w6, cw_n1, cw_eq0, cw_eq1, cw_eq2, cw_eq3, cw_eq4, cw_eq5, cw_eq6, nI_clamp, vp_in_nI, d0, d1, d2, d3, forall_eq, nI_leI, nI_ltI, nI_eq, true_implies, forall_const, not_true_eq_false, not_false_eq_true, false_implies, and_true, true_and, implies_true, and_self, reduceIte]
    exact J
  · skip
    have d0 : ¬ (5 = 0) := by omega
    have d1 : ¬ (5 = 1) := by omega
    have d2 : ¬ (5 = 2) := by omega
    have d3 : ¬ (5 = 3) := by omega
    have d4 : ¬ (5 = 4) := by omega
    simp (disch := omega) only [wpX_party, wpX_isParty, wpY_party, wpY_isParty, a0, a6, w0, w6, cw_n1, cw_eq0, cw_eq1, cw_eq2, cw_eq3, cw_eq4, cw_eq5, cw_eq6, nI_clamp, vp_in_nI, d0, d1, d2, d3, d4, forall_eq, nI_leI, nI_ltI, nI_eq, true_implies, forall_const, not_true_eq_false, not_false_eq_true, false_implies, and_true, true_and, implies_true, and_self, reduceIte]
    exact J
  · skip
    have d0 : ¬ (6 = 0) := by omega
    have d1 : ¬ (6 = 1) := by omega
    have d2 : ¬ (6 = 2) := by omega
    have d3 : ¬ (6 = 3) := by omega
    have d4 : ¬ (6 = 4) := by omega
    have d5 : ¬ (6 = 5) := by omega
    simp (disch := omega) only [wpX_party, wpX_isParty, wpY_party, wpY_isParty, a0, a6, w0, w6, cw_n1, cw_eq0, cw_eq1, cw_eq2, cw_eq3, cw_eq4, cw_eq5, cw_eq6, nI_clamp, vp_in_nI, d0, d1, d2, d3, d4, d5, wpX_ownedInChannels, wpY_bound, forall_eq, nI_leI, nI_ltI, nI_eq, true_implies, forall_const, not_true_eq_false, not_false_eq_true, false_implies, and_true, true_and, implies_true, and_self, reduceIte]
    obtain ⟨r, hx, hy⟩ := ls_bound (H := H) (C := C) (p := p) (sp := sp) (bl := bl) (yn := yn) (co := co) (on := on) (ba := ba) (ra := ra) (gu := gu) (se := se) (pu := pu) (sc := sc) (he := he) (xc := xc) (xi := xi) (xf := xf) (xa := xa) (xe := xe) (tc := tc) (ts := ts) (ta := ta) (bc := bc) (bs := bs) (bm := bm) (ou := ou) (yl := yl) (yf := yf) (ya := ya) (ys := ys) (ye := ye) (zf := zf) (za := za) (zs := zs) (ze := ze) (wy := wy) (pt := pt) (su := su) (bb := bb) (bu := bu) hB hE hF C 0 0 (by omega)
    exact hx _ (hy _ ⟨rfl, J⟩)
end READ
end
section
/-! part 20: channel, state, lock -/
section READ2
variable {h sp ch bl yn : Int32} {co on ba ra gu se si st la pu ps sc he xb xc xi xf xa xe tc ts ta bc bs bm pb ou yb yl yf ya ys ye zf za zs ze wy pt su bb bu : Nat → Int32}
theorem i_vc_channel {k : Nat} {u : SX} {v : SY} (I : i_Rel k u v) (hk : k + 5 ≤ 2560) (v1 : Int32) (v2 : Int32) : wpX_channel (fun r => wpY_channel (fun r' => r' = r ∧ i_Rel (k + 5) u v) v v1 v2) u v1 v2 := by
  have J := i_up I
  obtain ⟨H, C, sp, on, ba, ra, gu, si, xf, xa, xe, hH, hB, hD, bl, yn, co, se, st, la, pu, ps, sc, he, xb, xc, xi, tc, ts, ta, bc, bs, bm, pb, ou, yb, yl, yf, ya, ys, ye, zf, za, zs, ze, wy, pt, su, bb, bu, rfl, rfl, hS, hE, hF, hG, hO, hZ⟩ := I
  obtain ⟨hC, hsi, hne⟩ := hB
  by_cases c0 : v1 < 0
  · simp only [wpX_channel, wpX_isChannel, wpY_channel, wpY_isChannel, c0, forall_eq, nI_leI, nI_ltI, nI_eq, true_implies, forall_const, not_true_eq_false, not_false_eq_true, false_implies, and_true, true_and, implies_true, and_self, reduceIte]
    exact J
  by_cases c1 : nI C ≤ v1
  · simp only [wpX_channel, wpX_isChannel, wpY_channel, wpY_isChannel, c0, c1, forall_eq, nI_leI, nI_ltI, nI_eq, true_implies, forall_const, not_true_eq_false, not_false_eq_true, false_implies, and_true, true_and, implies_true, and_self, reduceIte]
    exact J
  obtain ⟨c, hc, rfl⟩ := cw_chan hC c0 c1
  have q1 : ¬ C ≤ c := by omega
  by_cases w3 : v2 ≤ 3
  · by_cases w0 : v2 < 0
    · simp (disch := omega) only [wpX_channel, wpX_isChannel, wX_channel_25, wpY_channel, wpY_isChannel, wY_channel_27, c0, q1, w3, w0, cw_n1, forall_eq, nI_leI, nI_ltI, nI_eq, true_implies, forall_const, not_true_eq_false, not_false_eq_true, false_implies, and_true, true_and, implies_true, and_self, reduceIte]
      exact J
    obtain ⟨w, hw, rfl⟩ := nI_of w0
    have w3' : w ≤ 3 := (cw_el3 hw).mp w3
    have w8 : ¬ (8 : Int32) < nI w := by rw [cw_lt8 hw]; omega
    have hw' : w = 0 ∨ w = 1 ∨ w = 2 ∨ w = 3 := by omega
    rcases hw' with rfl | rfl | rfl | rfl
    · skip
      simp (disch := omega) only [wpX_channel, wpX_isChannel, wX_channel_25, wpY_channel, wpY_isChannel, wY_channel_27, c0, q1, w3, w0, w8, cw_n1, cw_eq0, cw_eq1, cw_eq2, cw_eq3, cw_eq4, cw_eq5, cw_eq6, cw_eq7, cw_eq8, cw_m2, cw_m3, cw_m4, cw_m13, cw_2m, cw_3m, cw_12m, cw_24m, cw_36m, cw_a12, cw_a3, nI_add, nI_1, pk_sub, nI_clamp, vp_in_nI, forall_eq, nI_leI, nI_ltI, nI_eq, true_implies, forall_const, not_true_eq_false, not_false_eq_true, false_implies, and_true, true_and, implies_true, and_self, reduceIte]
      exact J
    · skip
      have d0 : ¬ (1 = 0) := by omega
      simp (disch := omega) only [wpX_channel, wpX_isChannel, wX_channel_25, wpY_channel, wpY_isChannel, wY_channel_27, c0, q1, w3, w0, w8, cw_n1, cw_eq0, cw_eq1, cw_eq2, cw_eq3, cw_eq4, cw_eq5, cw_eq6, cw_eq7, cw_eq8, cw_m2, cw_m3, cw_m4, cw_m13, cw_2m, cw_3m, cw_12m, cw_24m, cw_36m, cw_a12, cw_a3, nI_add, nI_1, pk_sub, nI_clamp, vp_in_nI, d0, forall_eq, nI_leI, nI_ltI, nI_eq, true_implies, forall_const, not_true_eq_false, not_false_eq_true, false_implies, and_true, true_and, implies_true, and_self, reduceIte]
      exact J
    · skip
      have d0 : ¬ (2 = 0) := by omega
      have d1 : ¬ (2 = 1) := by omega
      simp (disch := omega) only [wpX_channel, wpX_isChannel, wX_channel_25, wpY_channel, wpY_isChannel, wY_channel_27, c0, q1, w3, w0, w8, cw_n1, cw_eq0, cw_eq1, cw_eq2, cw_eq3, cw_eq4, cw_eq5, cw_eq6, cw_eq7, cw_eq8, cw_m2, cw_m3, cw_m4, cw_m13, cw_2m, cw_3m, cw_12m, cw_24m, cw_36m, cw_a12, cw_a3, nI_add, nI_1, pk_sub, nI_clamp, vp_in_nI, d0, d1, forall_eq, nI_leI, nI_ltI, nI_eq, true_implies, forall_const, not_true_eq_false, not_false_eq_true, false_implies, and_true, true_and, implies_true, and_self, reduceIte]
      exact J
    · skip
      have d0 : ¬ (3 = 0) := by omega
      have d1 : ¬ (3 = 1) := by omega
      have d2 : ¬ (3 = 2) := by omega
      simp (disch := omega) only [wpX_channel, wpX_isChannel, wX_channel_25, wpY_channel, wpY_isChannel, wY_channel_27, c0, q1, w3, w0, w8, cw_n1, cw_eq0, cw_eq1, cw_eq2, cw_eq3, cw_eq4, cw_eq5, cw_eq6, cw_eq7, cw_eq8, cw_m2, cw_m3, cw_m4, cw_m13, cw_2m, cw_3m, cw_12m, cw_24m, cw_36m, cw_a12, cw_a3, nI_add, nI_1, pk_sub, nI_clamp, vp_in_nI, d0, d1, d2, forall_eq, nI_leI, nI_ltI, nI_eq, true_implies, forall_const, not_true_eq_false, not_false_eq_true, false_implies, and_true, true_and, implies_true, and_self, reduceIte]
      exact J
  · by_cases h1 : st c = 1
    · have w0 : ¬ v2 < 0 := fun z => w3 (Int32.le_of_lt (Int32.lt_of_lt_of_le z (by decide)))
      by_cases w8 : 8 < v2
      · simp (disch := omega) only [wpX_channel, wpX_isChannel, wX_channel_25, wpY_channel, wpY_isChannel, wY_channel_27, c0, q1, w3, w0, w8, h1, cw_n1, cw_m2, cw_m3, cw_m4, cw_m13, cw_2m, cw_3m, cw_12m, cw_24m, cw_36m, cw_a12, cw_a3, nI_add, nI_1, pk_sub, nI_clamp, vp_in_nI, forall_eq, nI_leI, nI_ltI, nI_eq, true_implies, forall_const, not_true_eq_false, not_false_eq_true, false_implies, and_true, true_and, implies_true, and_self, reduceIte]
        exact J
      obtain ⟨w, hw, rfl⟩ := nI_of w0
      have w3' : ¬ w ≤ 3 := fun z => w3 ((cw_el3 hw).mpr z)
      have w8' : ¬ 8 < w := fun z => w8 ((cw_lt8 hw).mpr z)
      obtain ⟨q, hq, hps, hpb⟩ := (hE c (by omega)).2.2
      have hpb := hpb h1
      obtain ⟨⟨n, hn, e1, e2, _⟩, _⟩ := hO c (by omega)
      have hw' : w = 4 ∨ w = 5 ∨ w = 6 ∨ w = 7 ∨ w = 8 := by omega
      rcases hw' with rfl | rfl | rfl | rfl | rfl
      · skip
        have d0 : ¬ (4 = 0) := by omega
        have d1 : ¬ (4 = 1) := by omega
        have d2 : ¬ (4 = 2) := by omega
        have d3 : ¬ (4 = 3) := by omega
        simp (disch := omega) only [wpX_channel, wpX_isChannel, wX_channel_25, wpY_channel, wpY_isChannel, wY_channel_27, c0, q1, w3, w0, w8, cw_n1, cw_eq0, cw_eq1, cw_eq2, cw_eq3, cw_eq4, cw_eq5, cw_eq6, cw_eq7, cw_eq8, cw_m2, cw_m3, cw_m4, cw_m13, cw_2m, cw_3m, cw_12m, cw_24m, cw_36m, cw_a12, cw_a3, nI_add, nI_1, pk_sub, nI_clamp, vp_in_nI, d0, d1, d2, d3, h1, hps, hpb, e1, e2, forall_eq, nI_leI, nI_ltI, nI_eq, true_implies, forall_const, not_true_eq_false, not_false_eq_true, false_implies, and_true, true_and, implies_true, and_self, reduceIte]
        exact J
      · skip
        have d0 : ¬ (5 = 0) := by omega
        have d1 : ¬ (5 = 1) := by omega
        have d2 : ¬ (5 = 2) := by omega
        have d3 : ¬ (5 = 3) := by omega
        have d4 : ¬ (5 = 4) := by omega
        simp (disch := omega) only [wpX_channel, wpX_isChannel, wX_channel_25, wpY_channel, wpY_isChannel, wY_channel_27, c0, q1, w3, w0, w8, cw_n1, cw_eq0, cw_eq1, cw_eq2, cw_eq3, cw_eq4, cw_eq5, cw_eq6, cw_eq7, cw_eq8, cw_m2, cw_m3, cw_m4, cw_m13, cw_2m, cw_3m, cw_12m, cw_24m, cw_36m, cw_a12, cw_a3, nI_add, nI_1, pk_sub, nI_clamp, vp_in_nI, d0, d1, d2, d3, d4, h1, hps, hpb, e1, e2, forall_eq, nI_leI, nI_ltI, nI_eq, true_implies, forall_const, not_true_eq_false, not_false_eq_true, false_implies, and_true, true_and, implies_true, and_self, reduceIte]
        exact J
      · skip
        have d0 : ¬ (6 = 0) := by omega
        have d1 : ¬ (6 = 1) := by omega
        have d2 : ¬ (6 = 2) := by omega
        have d3 : ¬ (6 = 3) := by omega
        have d4 : ¬ (6 = 4) := by omega
        have d5 : ¬ (6 = 5) := by omega
        simp (disch := omega) only [wpX_channel, wpX_isChannel, wX_channel_25, wpY_channel, wpY_isChannel, wY_channel_27, c0, q1, w3, w0, w8, cw_n1, cw_eq0, cw_eq1, cw_eq2, cw_eq3, cw_eq4, cw_eq5, cw_eq6, cw_eq7, cw_eq8, cw_m2, cw_m3, cw_m4, cw_m13, cw_2m, cw_3m, cw_12m, cw_24m, cw_36m, cw_a12, cw_a3, nI_add, nI_1, pk_sub, nI_clamp, vp_in_nI, d0, d1, d2, d3, d4, d5, h1, hps, hpb, e1, e2, forall_eq, nI_leI, nI_ltI, nI_eq, true_implies, forall_const, not_true_eq_false, not_false_eq_true, false_implies, and_true, true_and, implies_true, and_self, reduceIte]
        exact J
      · skip
        have d0 : ¬ (7 = 0) := by omega
        have d1 : ¬ (7 = 1) := by omega
        have d2 : ¬ (7 = 2) := by omega
        have d3 : ¬ (7 = 3) := by omega
        have d4 : ¬ (7 = 4) := by omega
        have d5 : ¬ (7 = 5) := by omega
        have d6 : ¬ (7 = 6) := by omega
        simp (disch := omega) only [wpX_channel, wpX_isChannel, wX_channel_25, wpY_channel, wpY_isChannel, wY_channel_27, c0, q1, w3, w0, w8, cw_n1, cw_eq0, cw_eq1, cw_eq2, cw_eq3, cw_eq4, cw_eq5, cw_eq6, cw_eq7, cw_eq8, cw_m2, cw_m3, cw_m4, cw_m13, cw_2m, cw_3m, cw_12m, cw_24m, cw_36m, cw_a12, cw_a3, nI_add, nI_1, pk_sub, nI_clamp, vp_in_nI, d0, d1, d2, d3, d4, d5, d6, h1, hps, hpb, e1, e2, forall_eq, nI_leI, nI_ltI, nI_eq, true_implies, forall_const, not_true_eq_false, not_false_eq_true, false_implies, and_true, true_and, implies_true, and_self, reduceIte]
        exact J
      · skip
        have d0 : ¬ (8 = 0) := by omega
        have d1 : ¬ (8 = 1) := by omega
        have d2 : ¬ (8 = 2) := by omega
        have d3 : ¬ (8 = 3) := by omega
        have d4 : ¬ (8 = 4) := by omega
        have d5 : ¬ (8 = 5) := by omega
        have d6 : ¬ (8 = 6) := by omega
        have d7 : ¬ (8 = 7) := by omega
        simp (disch := omega) only [wpX_channel, wpX_isChannel, wX_channel_25, wpY_channel, wpY_isChannel, wY_channel_27, c0, q1, w3, w0, w8, cw_n1, cw_eq0, cw_eq1, cw_eq2, cw_eq3, cw_eq4, cw_eq5, cw_eq6, cw_eq7, cw_eq8, cw_m2, cw_m3, cw_m4, cw_m13, cw_2m, cw_3m, cw_12m, cw_24m, cw_36m, cw_a12, cw_a3, nI_add, nI_1, pk_sub, nI_clamp, vp_in_nI, d0, d1, d2, d3, d4, d5, d6, d7, h1, hps, hpb, e1, e2, forall_eq, nI_leI, nI_ltI, nI_eq, true_implies, forall_const, not_true_eq_false, not_false_eq_true, false_implies, and_true, true_and, implies_true, and_self, reduceIte]
        exact J
    · simp (disch := omega) only [wpX_channel, wpX_isChannel, wpY_channel, wpY_isChannel, c0, q1, w3, h1, cw_n1, cw_m2, cw_m3, cw_m4, cw_m13, cw_2m, cw_3m, cw_12m, cw_24m, cw_36m, cw_a12, cw_a3, nI_add, nI_1, pk_sub, nI_clamp, vp_in_nI, forall_eq, nI_leI, nI_ltI, nI_eq, true_implies, forall_const, not_true_eq_false, not_false_eq_true, false_implies, and_true, true_and, implies_true, and_self, reduceIte]
      exact J
theorem i_vc_state {k : Nat} {u : SX} {v : SY} (I : i_Rel k u v) (hk : k + 5 ≤ 2560) (v1 : Int32) (v2 : Int32) (v3 : Int32) : wpX_state (fun r => wpY_state (fun r' => r' = r ∧ i_Rel (k + 5) u v) v v1 v2 v3) u v1 v2 v3 := by
  have J := i_up I
  obtain ⟨H, C, sp, on, ba, ra, gu, si, xf, xa, xe, hH, hB, hD, bl, yn, co, se, st, la, pu, ps, sc, he, xb, xc, xi, tc, ts, ta, bc, bs, bm, pb, ou, yb, yl, yf, ya, ys, ye, zf, za, zs, ze, wy, pt, su, bb, bu, rfl, rfl, hS, hE, hF, hG, hO, hZ⟩ := I
  obtain ⟨hC, hsi, hne⟩ := hB
  by_cases c0 : v1 < 0
  · simp only [wpX_state, wpX_isChannel, wpY_state, wpY_isChannel, c0, forall_eq, nI_leI, nI_ltI, nI_eq, true_implies, forall_const, not_true_eq_false, not_false_eq_true, false_implies, and_true, true_and, implies_true, and_self, reduceIte]
    exact J
  by_cases c1 : nI C ≤ v1
  · simp only [wpX_state, wpX_isChannel, wpY_state, wpY_isChannel, c0, c1, forall_eq, nI_leI, nI_ltI, nI_eq, true_implies, forall_const, not_true_eq_false, not_false_eq_true, false_implies, and_true, true_and, implies_true, and_self, reduceIte]
    exact J
  obtain ⟨c, hc, rfl⟩ := cw_chan hC c0 c1
  have q1 : ¬ C ≤ c := by omega
  obtain ⟨l, hl, el⟩ := (hE c (by omega)).1
  by_cases k0 : v2 < 0
  · simp (disch := omega) only [wpX_state, wpX_isChannel, wpY_state, wpY_isChannel, c0, q1, k0, cw_n1, forall_eq, nI_leI, nI_ltI, nI_eq, true_implies, forall_const, not_true_eq_false, not_false_eq_true, false_implies, and_true, true_and, implies_true, and_self, reduceIte]
    exact J
  by_cases k1 : v2 ≤ nI l
  · obtain ⟨kk, hkk, rfl⟩ := nI_of k0
    have k1' : kk ≤ l := (nI_leI hkk (by omega)).mp k1
    have k2 : ¬ l < kk := by omega
    by_cases w0 : v3 < 0
    · simp (disch := omega) only [wpX_state, wpX_isChannel, wpY_state, wpY_isChannel, c0, q1, k0, k1', k2, w0, cw_n1, cw_m2, cw_m3, cw_m4, cw_m13, cw_2m, cw_3m, cw_12m, cw_24m, cw_36m, cw_a12, cw_a3, nI_add, nI_1, pk_sub, nI_clamp, vp_in_nI, el, forall_eq, nI_leI, nI_ltI, nI_eq, true_implies, forall_const, not_true_eq_false, not_false_eq_true, false_implies, and_true, true_and, implies_true, and_self, reduceIte]
      exact J
    by_cases w2 : 2 < v3
    · have w2' : ¬ v3 ≤ 2 := Int32.not_le.mpr w2
      simp (disch := omega) only [wpX_state, wpX_isChannel, wpY_state, wpY_isChannel, c0, q1, k0, k1', k2, w0, w2, w2', cw_n1, cw_m2, cw_m3, cw_m4, cw_m13, cw_2m, cw_3m, cw_12m, cw_24m, cw_36m, cw_a12, cw_a3, nI_add, nI_1, pk_sub, nI_clamp, vp_in_nI, el, forall_eq, nI_leI, nI_ltI, nI_eq, true_implies, forall_const, not_true_eq_false, not_false_eq_true, false_implies, and_true, true_and, implies_true, and_self, reduceIte]
      exact J
    have w2' : v3 ≤ 2 := Int32.not_lt.mp w2
    obtain ⟨w, hw, rfl⟩ := cw_nat (m := 2) (by omega) w0 w2
    have f0 := hF c kk 0 (by omega) (by omega) (by omega)
    have f1 := hF c kk 1 (by omega) (by omega) (by omega)
    rw [Nat.add_zero, Nat.add_zero] at f0
    obtain ⟨n, hn, e1, e2, _⟩ := hG c kk (by omega) (by omega)
    have hw' : w = 0 ∨ w = 1 ∨ w = 2 := by omega
    rcases hw' with rfl | rfl | rfl
    · skip
      have d1 : ¬ (0 = 1) := by omega
      have d2 : ¬ (0 = 2) := by omega
      simp (disch := omega) only [wpX_state, wpX_isChannel, wpY_state, wpY_isChannel, c0, q1, k0, k1', k2, w0, w2, w2', cw_n1, cw_eq0, cw_eq1, cw_eq2, cw_m2, cw_m3, cw_m4, cw_m13, cw_2m, cw_3m, cw_12m, cw_24m, cw_36m, cw_a12, cw_a3, nI_add, nI_1, pk_sub, nI_clamp, vp_in_nI, el, Nat.add_zero, f0, f1, e1, e2, d1, d2, forall_eq, nI_leI, nI_ltI, nI_eq, true_implies, forall_const, not_true_eq_false, not_false_eq_true, false_implies, and_true, true_and, implies_true, and_self, reduceIte]
      exact J
    · skip
      have d0 : ¬ (1 = 0) := by omega
      have d2 : ¬ (1 = 2) := by omega
      simp (disch := omega) only [wpX_state, wpX_isChannel, wpY_state, wpY_isChannel, c0, q1, k0, k1', k2, w0, w2, w2', cw_n1, cw_eq0, cw_eq1, cw_eq2, cw_m2, cw_m3, cw_m4, cw_m13, cw_2m, cw_3m, cw_12m, cw_24m, cw_36m, cw_a12, cw_a3, nI_add, nI_1, pk_sub, nI_clamp, vp_in_nI, el, Nat.add_zero, f0, f1, e1, e2, d0, d2, forall_eq, nI_leI, nI_ltI, nI_eq, true_implies, forall_const, not_true_eq_false, not_false_eq_true, false_implies, and_true, true_and, implies_true, and_self, reduceIte]
      exact J
    · skip
      have d0 : ¬ (2 = 0) := by omega
      have d1 : ¬ (2 = 1) := by omega
      simp (disch := omega) only [wpX_state, wpX_isChannel, wpY_state, wpY_isChannel, c0, q1, k0, k1', k2, w0, w2, w2', cw_n1, cw_eq0, cw_eq1, cw_eq2, cw_m2, cw_m3, cw_m4, cw_m13, cw_2m, cw_3m, cw_12m, cw_24m, cw_36m, cw_a12, cw_a3, nI_add, nI_1, pk_sub, nI_clamp, vp_in_nI, el, Nat.add_zero, f0, f1, e1, e2, d0, d1, forall_eq, nI_leI, nI_ltI, nI_eq, true_implies, forall_const, not_true_eq_false, not_false_eq_true, false_implies, and_true, true_and, implies_true, and_self, reduceIte]
      exact J
  · have k2 : nI l < v2 := Int32.not_le.mp k1
    simp (disch := omega) only [wpX_state, wpX_isChannel, wpY_state, wpY_isChannel, c0, q1, k0, k1, k2, cw_n1, cw_m2, cw_m3, cw_m4, cw_m13, cw_2m, cw_3m, cw_12m, cw_24m, cw_36m, cw_a12, cw_a3, nI_add, nI_1, pk_sub, nI_clamp, vp_in_nI, el, forall_eq, nI_leI, nI_ltI, nI_eq, true_implies, forall_const, not_true_eq_false, not_false_eq_true, false_implies, and_true, true_and, implies_true, and_self, reduceIte]
    exact J
theorem xs_l40 {post : Int32 → Prop} {r j n L : Nat} {x4 z0 z1 : Int32} (hr : r < 104) (hz : z1 + z0 = nI r) (hn : n ≤ 3) (en : xc r = nI n) (hj : j < n) (eL : xi (3 * r + j) = nI L) (hL : L < 64)
    (w0 : x4 < 0 → post (-1)) (w4 : 3 < x4 → post (-1)) (p0 : x4 = 0 → post (xf L)) (p1 : x4 = 1 → post (xa L)) (p2 : x4 = 2 → post (nI (L / 4))) (p3 : x4 = 3 → post (xe L)) : wX_lock_40 post (nI j) x4 z0 z1 h sp ch bl co on ba ra gu se si st la pu ps sc he xb xc xi xf xa xe tc ts ta bc bs bm := by
  have j0 : ¬ nI j < 0 := nI_pos (by omega)
  simp (disch := omega) only [wX_lock_40, hz, j0, cw_m2, cw_m3, cw_m4, cw_m13, cw_2m, cw_3m, cw_12m, cw_24m, cw_36m, cw_a12, cw_a3, nI_add, nI_1, pk_sub, nI_clamp, vp_in_nI, en, hj, eL, cw_n4, cw_d4, forall_eq, nI_leI, nI_ltI, nI_eq, true_implies, forall_const, not_true_eq_false, not_false_eq_true, false_implies, and_true, true_and, implies_true, and_self, reduceIte]
  exact br_c w0 (fun _ => br_c w4 (fun _ => br_c p0 (fun _ => br_c p1 (fun _ => br_c p2 (fun _ => p3)))))
theorem xs_l40n {post : Int32 → Prop} {r n : Nat} {x3 x4 z0 z1 : Int32} (hr : r < 104) (hz : z1 + z0 = nI r) (en : xc r = nI n) (hj : x3 < 0 ∨ ¬ x3 < nI n) (hp : post (-1)) : wX_lock_40 post x3 x4 z0 z1 h sp ch bl co on ba ra gu se si st la pu ps sc he xb xc xi xf xa xe tc ts ta bc bs bm := by
  simp (disch := omega) only [wX_lock_40, hz, cw_m2, cw_m3, cw_m4, cw_m13, cw_2m, cw_3m, cw_12m, cw_24m, cw_36m, cw_a12, cw_a3, nI_add, nI_1, pk_sub, nI_clamp, vp_in_nI, en, forall_eq, nI_leI, nI_ltI, nI_eq, true_implies, forall_const, not_true_eq_false, not_false_eq_true, false_implies, and_true, true_and, implies_true, and_self, reduceIte]
  refine br_c (fun _ => hp) (fun j0 => br_c (fun h => ?_) (fun _ => hp))
  rcases hj with h' | h'
  · exact absurd h' j0
  · exact absurd h h'
theorem i_vc_lock {k : Nat} {u : SX} {v : SY} (I : i_Rel k u v) (hk : k + 5 ≤ 2560) (v1 : Int32) (v2 : Int32) (v3 : Int32) (v4 : Int32) : wpX_lock (fun r => wpY_lock (fun r' => r' = r ∧ i_Rel (k + 5) u v) v v1 v2 v3 v4) u v1 v2 v3 v4 := by
  have J := i_up I
  obtain ⟨H, C, sp, on, ba, ra, gu, si, xf, xa, xe, hH, hB, hD, bl, yn, co, se, st, la, pu, ps, sc, he, xb, xc, xi, tc, ts, ta, bc, bs, bm, pb, ou, yb, yl, yf, ya, ys, ye, zf, za, zs, ze, wy, pt, su, bb, bu, rfl, rfl, hS, hE, hF, hG, hO, hZ⟩ := I
  obtain ⟨hC, hsi, hne⟩ := hB
  by_cases c0 : v1 < 0
  · simp only [wpX_lock, wpX_isChannel, wpY_lock, wpY_isChannel, c0, forall_eq, nI_leI, nI_ltI, nI_eq, true_implies, forall_const, not_true_eq_false, not_false_eq_true, false_implies, and_true, true_and, implies_true, and_self, reduceIte]
    exact J
  by_cases c1 : nI C ≤ v1
  · simp only [wpX_lock, wpX_isChannel, wpY_lock, wpY_isChannel, c0, c1, forall_eq, nI_leI, nI_ltI, nI_eq, true_implies, forall_const, not_true_eq_false, not_false_eq_true, false_implies, and_true, true_and, implies_true, and_self, reduceIte]
    exact J
  obtain ⟨c, hc, rfl⟩ := cw_chan hC c0 c1
  have q1 : ¬ C ≤ c := by omega
  obtain ⟨l, hl, el⟩ := (hE c (by omega)).1
  by_cases k0 : v2 < -1
  · simp (disch := omega) only [wpX_lock, wpX_isChannel, wpY_lock, wpY_isChannel, c0, q1, k0, cw_n1, forall_eq, nI_leI, nI_ltI, nI_eq, true_implies, forall_const, not_true_eq_false, not_false_eq_true, false_implies, and_true, true_and, implies_true, and_self, reduceIte]
    exact br_c (fun _ => J) (fun _ => J)
  by_cases k1 : v2 ≤ nI l
  · by_cases km : v2 = -1
    · subst km
      obtain ⟨⟨n, hn, e1, e2, hrow⟩, hst⟩ := hO c (by omega)
      have hz : nI c * 13 + 12 = nI (13 * c + 12) := by rw [cw_m13, cw_a12]
      by_cases j0 : v3 < 0
      · simp (disch := omega) only [wpX_lock, wpX_isChannel, wpY_lock, wpY_isChannel, c0, q1, k0, k1, j0, nI_clamp, vp_in_nI, el, cw_n1, nI_leI, true_implies, not_true_eq_false, not_false_eq_true, false_implies, and_true, true_and]
        exact xs_l40n (by omega) hz e1 (Or.inl j0) ⟨rfl, J⟩
      · have Y0 : ∀ post : Int32 → Prop, post (-1) → ¬ v3 < nI n → wpY_lock post (nI H, sp, nI C, yn, co, ba, ra, gu, se, on, si, st, la, pu, pb, sc, he, ou, yb, yl, yf, ya, ys, ye, zf, za, zs, ze, wy, pt, su, bb, bu) (nI c) (-1) v3 v4 := by
          intro post hp hj
          by_cases h1 : st c = 1
          · simp (disch := omega) only [wpY_lock, wpY_isChannel, wY_lock_39, wY_lock_80, c0, q1, k0, k1, j0, nI_clamp, vp_in_nI, el, cw_n1, nI_leI, h1, e2, hj, true_implies, not_true_eq_false, not_false_eq_true, false_implies, and_true, true_and]
            exact hp
          · simp (disch := omega) only [wpY_lock, wpY_isChannel, wY_lock_39, wY_lock_80, c0, q1, k0, k1, j0, nI_clamp, vp_in_nI, el, cw_n1, nI_leI, h1, true_implies, not_true_eq_false, not_false_eq_true, false_implies, and_true, true_and]
            exact hp
        by_cases hj : v3 < nI n
        · obtain ⟨j, hjj, rfl⟩ := nI_of j0
          have hj' : j < n := (nI_ltI hjj (by omega)).mp hj
          obtain ⟨L, hL, ez, hbit, efx, h01, eax, esx, eex⟩ := hrow j hj'
          have h1 : st c = 1 := by
            by_cases h1 : st c = 1
            · exact h1
            · have := hst h1
              rw [e1] at this
              have : n = 0 := (nI_eq (b := 0) (by omega) (by omega)).mp this
              omega
          have Y1 : ∀ post : Int32 → Prop, wY_lock_113 post v4 1 (nI (3 * c + j)) (nI H) sp (nI C) yn co ba ra gu se on si st la pu pb sc he ou yb yl yf ya ys ye zf za zs ze wy pt su bb bu → wpY_lock post (nI H, sp, nI C, yn, co, ba, ra, gu, se, on, si, st, la, pu, pb, sc, he, ou, yb, yl, yf, ya, ys, ye, zf, za, zs, ze, wy, pt, su, bb, bu) (nI c) (-1) (nI j) v4 := by
            intro post hp
            simp (disch := omega) only [wpY_lock, wpY_isChannel, wY_lock_39, wY_lock_80, c0, q1, k0, k1, j0, el, cw_n1, h1, e2, hj', cw_m2, cw_m3, cw_m4, cw_m13, cw_2m, cw_3m, cw_12m, cw_24m, cw_36m, cw_a12, cw_a3, nI_add, nI_1, pk_sub, nI_clamp, vp_in_nI, forall_eq, nI_leI, nI_ltI, nI_eq, true_implies, forall_const, not_true_eq_false, not_false_eq_true, false_implies, and_true, true_and, implies_true, and_self, reduceIte]
            exact hp
          have d1 : ¬ (1 : Int32) < 0 := by decide
          have d2 : ¬ (2 : Int32) < 0 := by decide
          have d3 : ¬ (3 : Int32) < 0 := by decide
          have D0 : ¬ (0 : Int32) < 0 := by decide
          have g0 : ¬ (3 : Int32) < 0 := by decide
          have g1 : ¬ (3 : Int32) < 1 := by decide
          have g2 : ¬ (3 : Int32) < 2 := by decide
          have g3 : ¬ (3 : Int32) < 3 := by decide
          have x21 : ¬ (2 : Int32) = 0 := by decide
          have x22 : ¬ (2 : Int32) = 1 := by decide
          have x31 : ¬ (3 : Int32) = 0 := by decide
          have x32 : ¬ (3 : Int32) = 1 := by decide
          have x33 : ¬ (3 : Int32) = 2 := by decide
          simp (disch := omega) only [wpX_lock, wpX_isChannel, c0, q1, k0, k1, nI_clamp, vp_in_nI, el, cw_n1, nI_leI, true_implies, not_true_eq_false, not_false_eq_true, false_implies, and_true, true_and]
          refine xs_l40 (by omega) hz hn e1 hj' ez hL (fun w => Y1 _ ?_) (fun w => Y1 _ ?_) (fun w => Y1 _ ?_) (fun w => Y1 _ ?_) (fun w => Y1 _ ?_) (fun w => Y1 _ ?_)
          · simp only [wY_lock_113, w, forall_eq, nI_leI, nI_ltI, nI_eq, true_implies, forall_const, not_true_eq_false, not_false_eq_true, false_implies, and_true, true_and, implies_true, and_self, reduceIte]
            exact J
          · simp only [wY_lock_113, w, forall_eq, nI_leI, nI_ltI, nI_eq, true_implies, forall_const, not_true_eq_false, not_false_eq_true, false_implies, and_true, true_and, implies_true, and_self, reduceIte]
            exact br_c (fun _ => J) (fun _ => J)
          · subst w
            simp (disch := omega) only [wY_lock_113, D0, g0, cw_n1, cw_m2, cw_m3, cw_m4, cw_m13, cw_2m, cw_3m, cw_12m, cw_24m, cw_36m, cw_a12, cw_a3, nI_add, nI_1, pk_sub, nI_clamp, vp_in_nI, efx, forall_eq, nI_leI, nI_ltI, nI_eq, true_implies, forall_const, not_true_eq_false, not_false_eq_true, false_implies, and_true, true_and, implies_true, and_self, reduceIte]
            exact J
          · subst w
            simp (disch := omega) only [wY_lock_113, d1, g1, cw_n1, cw_m2, cw_m3, cw_m4, cw_m13, cw_2m, cw_3m, cw_12m, cw_24m, cw_36m, cw_a12, cw_a3, nI_add, nI_1, pk_sub, nI_clamp, vp_in_nI, eax, forall_eq, nI_leI, nI_ltI, nI_eq, true_implies, forall_const, not_true_eq_false, not_false_eq_true, false_implies, and_true, true_and, implies_true, and_self, reduceIte]
            exact J
          · subst w
            simp (disch := omega) only [wY_lock_113, d2, g2, x21, x22, cw_n1, cw_m2, cw_m3, cw_m4, cw_m13, cw_2m, cw_3m, cw_12m, cw_24m, cw_36m, cw_a12, cw_a3, nI_add, nI_1, pk_sub, nI_clamp, vp_in_nI, esx, forall_eq, nI_leI, nI_ltI, nI_eq, true_implies, forall_const, not_true_eq_false, not_false_eq_true, false_implies, and_true, true_and, implies_true, and_self, reduceIte]
            exact J
          · subst w
            simp (disch := omega) only [wY_lock_113, d3, g3, x31, x32, x33, cw_n1, cw_m2, cw_m3, cw_m4, cw_m13, cw_2m, cw_3m, cw_12m, cw_24m, cw_36m, cw_a12, cw_a3, nI_add, nI_1, pk_sub, nI_clamp, vp_in_nI, eex, forall_eq, nI_leI, nI_ltI, nI_eq, true_implies, forall_const, not_true_eq_false, not_false_eq_true, false_implies, and_true, true_and, implies_true, and_self, reduceIte]
            exact J
        · simp (disch := omega) only [wpX_lock, wpX_isChannel, c0, q1, k0, k1, nI_clamp, vp_in_nI, el, cw_n1, nI_leI, true_implies, not_true_eq_false, not_false_eq_true, false_implies, and_true, true_and]
          exact xs_l40n (by omega) hz e1 (Or.inr hj) (Y0 _ ⟨rfl, J⟩ hj)
    · have k0' : ¬ v2 < 0 := by
        intro z
        have h1 := Int32.lt_iff_toInt_lt.mp z
        have h2 : ¬ v2.toInt < (-1 : Int32).toInt := fun y => k0 (Int32.lt_iff_toInt_lt.mpr y)
        have h3 : ¬ v2.toInt = (-1 : Int32).toInt := fun y => km (Int32.toInt_inj.mp y)
        have h4 : (-1 : Int32).toInt = -1 := by decide
        have h5 : (0 : Int32).toInt = 0 := by decide
        rw [h4] at h2 h3
        rw [h5] at h1
        omega
      obtain ⟨kk, hkk, rfl⟩ := nI_of k0'
      have k1' : kk ≤ l := (nI_leI hkk (by omega)).mp k1
      obtain ⟨n, hn, e1, e2, hrow⟩ := hG c kk (by omega) (by omega)
      have hz : nI c * 13 + nI kk = nI (13 * c + kk) := by rw [cw_m13, nI_add]
      by_cases j0 : v3 < 0
      · simp (disch := omega) only [wpX_lock, wpX_isChannel, wpY_lock, wpY_isChannel, c0, q1, k0, k1', km, j0, nI_clamp, vp_in_nI, el, cw_n1, nI_leI, true_implies, not_true_eq_false, not_false_eq_true, false_implies, and_true, true_and]
        exact xs_l40n (by omega) hz e1 (Or.inl j0) ⟨rfl, J⟩
      · have Y0 : ∀ post : Int32 → Prop, post (-1) → ¬ v3 < nI n → wpY_lock post (nI H, sp, nI C, yn, co, ba, ra, gu, se, on, si, st, la, pu, pb, sc, he, ou, yb, yl, yf, ya, ys, ye, zf, za, zs, ze, wy, pt, su, bb, bu) (nI c) (nI kk) v3 v4 := by
          intro post hp hj
          simp (disch := omega) only [wpY_lock, wpY_isChannel, wY_lock_39, wY_lock_80, c0, q1, k0, k1', km, j0, cw_12m, nI_add, nI_clamp, vp_in_nI, el, cw_n1, nI_leI, e2, hj, true_implies, not_true_eq_false, not_false_eq_true, false_implies, and_true, true_and]
          exact hp
        by_cases hj : v3 < nI n
        · obtain ⟨j, hjj, rfl⟩ := nI_of j0
          have hj' : j < n := (nI_ltI hjj (by omega)).mp hj
          obtain ⟨L, hL, ez, hbit, efx, h01, eax, esx, eex⟩ := hrow j hj'
          have Y1 : ∀ post : Int32 → Prop, wY_lock_113 post v4 0 (nI (3 * (12 * c + kk) + j)) (nI H) sp (nI C) yn co ba ra gu se on si st la pu pb sc he ou yb yl yf ya ys ye zf za zs ze wy pt su bb bu → wpY_lock post (nI H, sp, nI C, yn, co, ba, ra, gu, se, on, si, st, la, pu, pb, sc, he, ou, yb, yl, yf, ya, ys, ye, zf, za, zs, ze, wy, pt, su, bb, bu) (nI c) (nI kk) (nI j) v4 := by
            intro post hp
            have ei : 36 * c + 3 * kk + j = 3 * (12 * c + kk) + j := by omega
            simp (disch := omega) only [wpY_lock, wpY_isChannel, wY_lock_39, wY_lock_80, c0, q1, k0, k1', km, j0, el, cw_n1, e2, hj', cw_m2, cw_m3, cw_m4, cw_m13, cw_2m, cw_3m, cw_12m, cw_24m, cw_36m, cw_a12, cw_a3, nI_add, nI_1, pk_sub, nI_clamp, vp_in_nI, ei, forall_eq, nI_leI, nI_ltI, nI_eq, true_implies, forall_const, not_true_eq_false, not_false_eq_true, false_implies, and_true, true_and, implies_true, and_self, reduceIte]
            exact hp
          have d1 : ¬ (1 : Int32) < 0 := by decide
          have d2 : ¬ (2 : Int32) < 0 := by decide
          have d3 : ¬ (3 : Int32) < 0 := by decide
          have D0 : ¬ (0 : Int32) < 0 := by decide
          have g0 : ¬ (3 : Int32) < 0 := by decide
          have g1 : ¬ (3 : Int32) < 1 := by decide
          have g2 : ¬ (3 : Int32) < 2 := by decide
          have g3 : ¬ (3 : Int32) < 3 := by decide
          have x21 : ¬ (2 : Int32) = 0 := by decide
          have x22 : ¬ (2 : Int32) = 1 := by decide
          have x31 : ¬ (3 : Int32) = 0 := by decide
          have x32 : ¬ (3 : Int32) = 1 := by decide
          have x33 : ¬ (3 : Int32) = 2 := by decide
          simp (disch := omega) only [wpX_lock, wpX_isChannel, c0, q1, k0, k1', km, nI_clamp, vp_in_nI, el, cw_n1, nI_leI, true_implies, not_true_eq_false, not_false_eq_true, false_implies, and_true, true_and]
          refine xs_l40 (by omega) hz hn e1 hj' ez hL (fun w => Y1 _ ?_) (fun w => Y1 _ ?_) (fun w => Y1 _ ?_) (fun w => Y1 _ ?_) (fun w => Y1 _ ?_) (fun w => Y1 _ ?_)
          · simp only [wY_lock_113, w, forall_eq, nI_leI, nI_ltI, nI_eq, true_implies, forall_const, not_true_eq_false, not_false_eq_true, false_implies, and_true, true_and, implies_true, and_self, reduceIte]
            exact J
          · simp only [wY_lock_113, w, forall_eq, nI_leI, nI_ltI, nI_eq, true_implies, forall_const, not_true_eq_false, not_false_eq_true, false_implies, and_true, true_and, implies_true, and_self, reduceIte]
            exact br_c (fun _ => J) (fun _ => J)
          · subst w
            simp (disch := omega) only [wY_lock_113, D0, g0, cw_n1, cw_m2, cw_m3, cw_m4, cw_m13, cw_2m, cw_3m, cw_12m, cw_24m, cw_36m, cw_a12, cw_a3, nI_add, nI_1, pk_sub, nI_clamp, vp_in_nI, efx, forall_eq, nI_leI, nI_ltI, nI_eq, true_implies, forall_const, not_true_eq_false, not_false_eq_true, false_implies, and_true, true_and, implies_true, and_self, reduceIte]
            exact J
          · subst w
            simp (disch := omega) only [wY_lock_113, d1, g1, cw_n1, cw_m2, cw_m3, cw_m4, cw_m13, cw_2m, cw_3m, cw_12m, cw_24m, cw_36m, cw_a12, cw_a3, nI_add, nI_1, pk_sub, nI_clamp, vp_in_nI, eax, forall_eq, nI_leI, nI_ltI, nI_eq, true_implies, forall_const, not_true_eq_false, not_false_eq_true, false_implies, and_true, true_and, implies_true, and_self, reduceIte]
            exact J
          · subst w
            simp (disch := omega) only [wY_lock_113, d2, g2, x21, x22, cw_n1, cw_m2, cw_m3, cw_m4, cw_m13, cw_2m, cw_3m, cw_12m, cw_24m, cw_36m, cw_a12, cw_a3, nI_add, nI_1, pk_sub, nI_clamp, vp_in_nI, esx, forall_eq, nI_leI, nI_ltI, nI_eq, true_implies, forall_const, not_true_eq_false, not_false_eq_true, false_implies, and_true, true_and, implies_true, and_self, reduceIte]
            exact J
          · subst w
            simp (disch := omega) only [wY_lock_113, d3, g3, x31, x32, x33, cw_n1, cw_m2, cw_m3, cw_m4, cw_m13, cw_2m, cw_3m, cw_12m, cw_24m, cw_36m, cw_a12, cw_a3, nI_add, nI_1, pk_sub, nI_clamp, vp_in_nI, eex, forall_eq, nI_leI, nI_ltI, nI_eq, true_implies, forall_const, not_true_eq_false, not_false_eq_true, false_implies, and_true, true_and, implies_true, and_self, reduceIte]
            exact J
        · simp (disch := omega) only [wpX_lock, wpX_isChannel, c0, q1, k0, k1', km, nI_clamp, vp_in_nI, el, cw_n1, nI_leI, true_implies, not_true_eq_false, not_false_eq_true, false_implies, and_true, true_and]
          exact xs_l40n (by omega) hz e1 (Or.inr hj) (Y0 _ ⟨rfl, J⟩ hj)
  · simp (disch := omega) only [wpX_lock, wpX_isChannel, wpY_lock, wpY_isChannel, c0, q1, k0, k1, nI_clamp, vp_in_nI, el, cw_n1, nI_leI, true_implies, not_true_eq_false, not_false_eq_true, false_implies, and_true, true_and]
    exact br_c (fun _ => J) (fun _ => J)
end READ2
end
section
/-! part 21: the search of X for a route -/
section XR
variable {h sp ch bl yn : Int32} {co on ba ra gu se si st la pu ps sc he xb xc xi xf xa xe tc ts ta bc bs bm pb ou yb yl yf ya ys ye zf za zs ze wy pt su bb bu : Nat → Int32}
def cw_ca (la xc xb : Nat → Int32) (c s a : Nat) : Prop := ¬ 11 ≤ la c ∧ xc (13 * c + (la c).toNatClampNeg) < 3 ∧ nI a ≤ xb (2 * (13 * c + (la c).toNatClampNeg) + s)
theorem cw_m1s (m : Nat) : nI m + (-1) = nI m - 1 := (Int32.sub_eq_add_neg (nI m) 1).symm
theorem cw_z1 : nI 0 - 1 < 0 := by decide
theorem cw_m8 (a : Nat) : nI a * 8 = nI (a * 8) := pk_mul a 8
theorem xs_readRow {post : SX → Prop} {n code : Nat} (hn : n ≤ 4) (hcode : code < 2 ^ 31) (H : ∀ tc' : Nat → Int32, (∀ i, i < n → tc' i = nI (ro_dig n code i)) → post (h, sp, ch, bl, co, on, ba, ra, gu, se, si, st, la, pu, ps, sc, he, xb, xc, xi, xf, xa, xe, tc', ts, ta, bc, bs, bm)) : wpX_readRow post (h, sp, ch, bl, co, on, ba, ra, gu, se, si, st, la, pu, ps, sc, he, xb, xc, xi, xf, xa, xe, tc, ts, ta, bc, bs, bm) (nI n) (nI code) := by
  have L : ∀ m, m ≤ n → ∀ tc : Nat → Int32, (∀ i, m ≤ i → i < n → tc i = nI (ro_dig n code i)) → wX_readRow_7 post h sp ch bl (m + 1) (nI (code / 8 ^ (n - m))) (nI m - 1) co on ba ra gu se si st la pu ps sc he xb xc xi xf xa xe tc ts ta bc bs bm := by
    intro m
    induction m with
    | zero =>
      intro _ tc ht
      rw [wX_readRow_7]
      exact br_t cw_z1 (H tc (fun i hi => ht i (Nat.zero_le _) hi))
    | succ m ih =>
      intro hm tc ht
      have hle : code / 8 ^ (n - (m + 1)) ≤ code := Nat.div_le_self _ _
      have hd : code / 8 ^ (n - (m + 1)) / 8 = code / 8 ^ (n - m) := by
        rw [Nat.div_div_eq_div_mul, ← Nat.pow_succ, show n - m = (n - (m + 1)) + 1 by omega]
      have q : ¬ nI m < 0 := nI_pos (by omega)
      rw [wX_readRow_7, nI_pred]
      simp (disch := omega) only [q, cw_n8, cw_r8, cw_d8, hd, cw_m2, cw_m3, cw_m4, cw_m13, cw_2m, cw_3m, cw_12m, cw_24m, cw_36m, cw_a12, cw_a3, nI_add, nI_1, pk_sub, nI_clamp, vp_in_nI, cw_m1s, forall_eq, nI_leI, nI_ltI, nI_eq, true_implies, forall_const, not_true_eq_false, not_false_eq_true, false_implies, and_true, true_and, implies_true, and_self, reduceIte]
      refine ih (by omega) _ (fun i h1 h2 => ?_)
      by_cases e : i = m
      · subst e
        rw [pk_us]
        unfold ro_dig
        rw [show n - 1 - i = n - (i + 1) by omega]
        have hh := cw_r8 (a := code / 8 ^ (n - (i + 1))) (by omega)
        rw [cw_d8 (by omega), hd] at hh
        exact hh
      · rw [pk_un e]
        exact ht i (by omega) h2
  have := L n (Nat.le_refl _) tc (fun i h1 h2 => by omega)
  rw [Nat.sub_self, Nat.pow_zero, Nat.div_one] at this
  unfold wpX_readRow
  dsimp only
  exact nm_e ⟨_, this⟩
theorem xs_leadsTo {post : Int32 → SX → Prop} {C n p q : Nat} {w : Nat → Nat} (hC : C ≤ 8) (hsi : ∀ i, i < 16 → ∃ a, a < 6 ∧ si i = nI a) (hn : n ≤ 4) (hp : p < 6) (hq : q < 6) (hw : ∀ i, i < n → w i ≤ 7) (hw' : ∀ i, i < n → tc i = nI (w i))
    (H1 : ro_walk (cw_nt 16 si) C (cw_rd st on si) w p n → ro_pt (cw_nt 16 si) w p n = q → ∀ ts' : Nat → Int32, (∀ i, i < n → ts' i = nI (ro_sx (cw_nt 16 si) (w i) (ro_pt (cw_nt 16 si) w p i))) → post 1 (h, sp, nI C, bl, co, on, ba, ra, gu, se, si, st, la, pu, ps, sc, he, xb, xc, xi, xf, xa, xe, tc, ts', ta, bc, bs, bm))
    (H0 : ¬ (ro_walk (cw_nt 16 si) C (cw_rd st on si) w p n ∧ ro_pt (cw_nt 16 si) w p n = q) → ∀ ts' : Nat → Int32, post 0 (h, sp, nI C, bl, co, on, ba, ra, gu, se, si, st, la, pu, ps, sc, he, xb, xc, xi, xf, xa, xe, tc, ts', ta, bc, bs, bm)) : wpX_leadsTo post (h, sp, nI C, bl, co, on, ba, ra, gu, se, si, st, la, pu, ps, sc, he, xb, xc, xi, xf, xa, xe, tc, ts, ta, bc, bs, bm) (nI n) (nI p) (nI q) := by
  have sd6 : ∀ i, cw_nt 16 si i < 6 := cw_nt_lt (by omega) (by omega) hsi
  have sde : ∀ i, i < 16 → si i = nI (cw_nt 16 si i) := fun i hi => (cw_nt_e hi (by omega) (hsi i hi)).1
  have p6 : ∀ i, ro_pt (cw_nt 16 si) w p i < 6 := ro_pt_lt (cw_nt 16 si) sd6 hp
  have L : ∀ d i (met : Int32) (ts : Nat → Int32), i + d = n → (∀ j, j < i → ro_hop (cw_nt 16 si) C (cw_rd st on si) w p j) → ro_met (cw_nt 16 si) met w p i → (∀ j, j < i → ts j = nI (ro_sx (cw_nt 16 si) (w j) (ro_pt (cw_nt 16 si) w p j))) →
      wX_leadsTo_11 post (nI n) (nI q) h sp (nI C) bl (d + 1) (nI (ro_pt (cw_nt 16 si) w p i)) met (nI i) co on ba ra gu se si st la pu ps sc he xb xc xi xf xa xe tc ts ta bc bs bm := by
    intro d
    induction d with
    | zero =>
      intro i met ts hi hh _ hts
      have e : i = n := by omega
      subst e
      have := p6 i
      rw [wX_leadsTo_11]
      simp (disch := omega) only [Nat.le_refl, forall_eq, nI_leI, nI_ltI, nI_eq, true_implies, forall_const, not_true_eq_false, not_false_eq_true, false_implies, and_true, true_and, implies_true, and_self, reduceIte]
      exact br_c (fun z => H1 hh z ts hts) (fun z => H0 (fun y => z y.2) ts)
    | succ d ih =>
      intro i met ts hi hh hmet hts
      have hwi := hw i (by omega)
      have q1 : ¬ n ≤ i := by omega
      have hP := p6 i
      have hP1 := p6 (i + 1)
      have bad : ¬ ro_hop (cw_nt 16 si) C (cw_rd st on si) w p i → post 0 (h, sp, nI C, bl, co, on, ba, ra, gu, se, si, st, la, pu, ps, sc, he, xb, xc, xi, xf, xa, xe, tc, ts, ta, bc, bs, bm) := fun z => H0 (fun y => z (y.1 i (by omega))) ts
      rw [wX_leadsTo_11]
      simp (disch := omega) only [q1, hw' i (by omega), cw_m2, cw_m3, cw_m4, cw_m13, cw_2m, cw_3m, cw_12m, cw_24m, cw_36m, cw_a12, cw_a3, nI_add, nI_1, pk_sub, nI_clamp, vp_in_nI, forall_eq, nI_leI, nI_ltI, nI_eq, true_implies, forall_const, not_true_eq_false, not_false_eq_true, false_implies, and_true, true_and, implies_true, and_self, reduceIte]
      have s0 := sde (2 * w i) (by omega)
      have s1 := sde (2 * w i + 1) (by omega)
      have go : ∀ (s : Nat) (P : Prop), s < 2 → s = ro_sx (cw_nt 16 si) (w i) (ro_pt (cw_nt 16 si) w p i) → si (2 * w i + 1 - s) = nI (ro_pt (cw_nt 16 si) w p (i + 1)) → w i < C → (cw_nt 16 si (2 * w i) = ro_pt (cw_nt 16 si) w p i ∨ cw_nt 16 si (2 * w i + 1) = ro_pt (cw_nt 16 si) w p i) → cw_rd st on si (w i) →
          (bt met (ro_pt (cw_nt 16 si) w p (i + 1)) = true → post 0 (h, sp, nI C, bl, co, on, ba, ra, gu, se, si, st, la, pu, ps, sc, he, xb, xc, xi, xf, xa, xe, tc, ts, ta, bc, bs, bm)) ∧ (bt met (ro_pt (cw_nt 16 si) w p (i + 1)) = false → wX_leadsTo_11 post (nI n) (nI q) h sp (nI C) bl (d + 1) (nI (ro_pt (cw_nt 16 si) w p (i + 1))) (met ||| ((1 : Int32) <<< (nI (ro_pt (cw_nt 16 si) w p (i + 1)) &&& 31))) (nI (i + 1)) co on ba ra gu se si st la pu ps sc he xb xc xi xf xa xe tc (upd ts i (nI s)) ta bc bs bm) := by
        intro s P hs es en hwC hside hrd
        refine ⟨fun hb => ?_, fun hb => ?_⟩
        · refine bad (fun z => ?_)
          obtain ⟨j, hj, ej⟩ := (hmet _ (by omega)).mp hb
          exact z.2.2.2 j hj ej
        · refine ih (i + 1) _ _ (by omega) (fun j hj => ?_) (ro_met_S (cw_nt 16 si) hmet (by omega)) (fun j hj => ?_)
          · rcases Nat.lt_or_ge j i with h' | h'
            · exact hh j h'
            · have : j = i := by omega
              subst this
              refine ⟨hwC, hside, hrd, fun j' hj' ej' => ?_⟩
              have := (hmet _ (by omega)).mpr ⟨j', hj', ej'⟩
              rw [hb] at this
              exact absurd this (by decide)
          · by_cases e : j = i
            · subst e
              rw [pk_us, es]
            · rw [pk_un e]
              exact hts j (by omega)
      refine xs_sideOf (by omega) hC (fun hwC a => ?_) (fun hwC a b => ?_) (fun hno => br_t rfl (bad (fun z => ?_)))
      · have e0 : cw_nt 16 si (2 * w i) = ro_pt (cw_nt 16 si) w p i := (nI_eq (by have := sd6 (2 * w i); omega) (by omega)).mp (s0.symm.trans a)
        have es : 0 = ro_sx (cw_nt 16 si) (w i) (ro_pt (cw_nt 16 si) w p i) := by unfold ro_sx; rw [if_pos e0]
        have en : si (2 * w i + 1) = nI (ro_pt (cw_nt 16 si) w p (i + 1)) := by
          show si (2 * w i + 1) = nI (ro_nx (cw_nt 16 si) (w i) (ro_pt (cw_nt 16 si) w p i))
          unfold ro_nx
          rw [if_pos e0]
          exact s1
        refine br_f cw_nm (xs_isReady (by omega) hsi (fun r => br_f cw_n1 ?_) (fun r => br_t rfl (bad (fun z => r z.2.2.1))))
        have g := go 0 True (by omega) es en hwC (Or.inl e0) r
        have z0 : (0 : Int32) = nI 0 := rfl
        have em : nI (2 * w i + 1) - 0 = nI (2 * w i + 1) := Int32.sub_zero _
        rw [em]
        simp (disch := omega) only [cw_m2, cw_m3, cw_m4, cw_m13, cw_2m, cw_3m, cw_12m, cw_24m, cw_36m, cw_a12, cw_a3, nI_add, nI_1, pk_sub, nI_clamp, vp_in_nI, en, cw_bit0, forall_eq, nI_leI, nI_ltI, nI_eq, true_implies, forall_const, not_true_eq_false, not_false_eq_true, false_implies, and_true, true_and, implies_true, and_self, reduceIte]
        refine br_c g.2 (fun z => g.1 ?_)
        cases hb : bt met (ro_pt (cw_nt 16 si) w p (i + 1))
        · exact absurd hb z
        · rfl
      · have e0 : ¬ cw_nt 16 si (2 * w i) = ro_pt (cw_nt 16 si) w p i := fun z => a (by rw [s0, z])
        have e1 : cw_nt 16 si (2 * w i + 1) = ro_pt (cw_nt 16 si) w p i := (nI_eq (by have := sd6 (2 * w i + 1); omega) (by omega)).mp (s1.symm.trans b)
        have es : 1 = ro_sx (cw_nt 16 si) (w i) (ro_pt (cw_nt 16 si) w p i) := by unfold ro_sx; rw [if_neg e0]
        have en : si (2 * w i) = nI (ro_pt (cw_nt 16 si) w p (i + 1)) := by
          show si (2 * w i) = nI (ro_nx (cw_nt 16 si) (w i) (ro_pt (cw_nt 16 si) w p i))
          unfold ro_nx
          rw [if_neg e0]
          exact s0
        refine br_f cw_nm1 (xs_isReady (by omega) hsi (fun r => br_f cw_n1 ?_) (fun r => br_t rfl (bad (fun z => r z.2.2.1))))
        have g := go 1 True (by omega) es en hwC (Or.inr e1) r
        rw [nI_pred]
        simp (disch := omega) only [cw_m2, cw_m3, cw_m4, cw_m13, cw_2m, cw_3m, cw_12m, cw_24m, cw_36m, cw_a12, cw_a3, nI_add, nI_1, pk_sub, nI_clamp, vp_in_nI, en, cw_bit0, forall_eq, nI_leI, nI_ltI, nI_eq, true_implies, forall_const, not_true_eq_false, not_false_eq_true, false_implies, and_true, true_and, implies_true, and_self, reduceIte]
        refine br_c g.2 (fun z => g.1 ?_)
        cases hb : bt met (ro_pt (cw_nt 16 si) w p (i + 1))
        · exact absurd hb z
        · rfl
      · obtain ⟨n1, n2⟩ := hno z.1
        rcases z.2.1 with y | y
        · exact n1 (by rw [s0, y])
        · exact n2 (by rw [s1, y])
  unfold wpX_leadsTo
  dsimp only
  exact nm_e ⟨_, L n 0 _ ts (by omega) (fun j hj => by omega) (ro_met_0 (cw_nt 16 si) w (by omega)) (fun j hj => by omega)⟩
theorem xs_carries {post : Int32 → SX → Prop} {C n p v : Nat} {w : Nat → Nat} (hC : C ≤ 8) (hsi : ∀ i, i < 16 → ∃ a, a < 6 ∧ si i = nI a) (hD : cw_D on ba ra) (hla : ∀ c, c < 8 → ∃ l, l < 12 ∧ la c = nI l) (hn : n ≤ 4) (hp : p < 6) (hv : v ≤ 255) (hw' : ∀ i, i < n → tc i = nI (w i))
    (hwk : ro_walk (cw_nt 16 si) C (cw_rd st on si) w p n) (hts : ∀ i, i < n → ts i = nI (ro_sx (cw_nt 16 si) (w i) (ro_pt (cw_nt 16 si) w p i)))
    (H1 : ro_car (cw_nt 16 si) (cw_nt 6 ba) (cw_nt 6 ra) (cw_ca la xc xb) w p n v → ∀ ta' : Nat → Int32, (∀ i, i < n → ta' i = nI (ro_am (cw_nt 16 si) (cw_nt 6 ba) (cw_nt 6 ra) w p n v (n - 1 - i))) → post 1 (h, sp, nI C, bl, co, on, ba, ra, gu, se, si, st, la, pu, ps, sc, he, xb, xc, xi, xf, xa, xe, tc, ts, ta', bc, bs, bm))
    (H0 : ¬ ro_car (cw_nt 16 si) (cw_nt 6 ba) (cw_nt 6 ra) (cw_ca la xc xb) w p n v → ∀ ta' : Nat → Int32, post 0 (h, sp, nI C, bl, co, on, ba, ra, gu, se, si, st, la, pu, ps, sc, he, xb, xc, xi, xf, xa, xe, tc, ts, ta', bc, bs, bm)) : wpX_carries post (h, sp, nI C, bl, co, on, ba, ra, gu, se, si, st, la, pu, ps, sc, he, xb, xc, xi, xf, xa, xe, tc, ts, ta, bc, bs, bm) (nI n) (nI v) := by
  have sd6 : ∀ i, cw_nt 16 si i < 6 := cw_nt_lt (by omega) (by omega) hsi
  have sde : ∀ i, i < 16 → si i = nI (cw_nt 16 si i) := fun i hi => (cw_nt_e hi (by omega) (hsi i hi)).1
  have p6 : ∀ i, ro_pt (cw_nt 16 si) w p i < 6 := ro_pt_lt (cw_nt 16 si) sd6 hp
  have b9 : ∀ i, cw_nt 6 ba i ≤ 9 := fun i => by
    have := cw_nt_lt (N := 6) (B := 10) (f := ba) (by omega) (by omega) (fun i hi => (hD i hi).2.1) i
    omega
  have r20 : ∀ i, cw_nt 6 ra i ≤ 20 := fun i => by
    have := cw_nt_lt (N := 6) (B := 21) (f := ra) (by omega) (by omega) (fun i hi => (hD i hi).2.2) i
    omega
  have L : ∀ m, m ≤ n → ∀ ta : Nat → Int32, (∀ d, d < n - m → cw_ca la xc xb (w (n - 1 - d)) (ro_sx (cw_nt 16 si) (w (n - 1 - d)) (ro_pt (cw_nt 16 si) w p (n - 1 - d))) (ro_am (cw_nt 16 si) (cw_nt 6 ba) (cw_nt 6 ra) w p n v d)) → (∀ i, m ≤ i → i < n → ta i = nI (ro_am (cw_nt 16 si) (cw_nt 6 ba) (cw_nt 6 ra) w p n v (n - 1 - i))) →
      wX_carries_7 post h sp (nI C) bl (m + 1) (nI (ro_am (cw_nt 16 si) (cw_nt 6 ba) (cw_nt 6 ra) w p n v (n - m))) (nI m - 1) co on ba ra gu se si st la pu ps sc he xb xc xi xf xa xe tc ts ta bc bs bm := by
    intro m
    induction m with
    | zero =>
      intro _ ta hc ht
      rw [wX_carries_7]
      exact br_t cw_z1 (H1 (fun d hd => hc d (by omega)) ta (fun i hi => ht i (Nat.zero_le _) hi))
    | succ m ih =>
      intro hm ta hc ht
      have q : ¬ nI m < 0 := nI_pos (by omega)
      have hop := hwk m (by omega)
      have hwC : w m < C := hop.1
      obtain ⟨l, hl, el⟩ := hla (w m) (by omega)
      have hP := p6 m
      have hsx : ro_sx (cw_nt 16 si) (w m) (ro_pt (cw_nt 16 si) w p m) < 2 := by
        unfold ro_sx
        by_cases z : cw_nt 16 si (2 * w m) = ro_pt (cw_nt 16 si) w p m
        · rw [if_pos z]; omega
        · rw [if_neg z]; omega
      have esn : si (2 * w m + ro_sx (cw_nt 16 si) (w m) (ro_pt (cw_nt 16 si) w p m)) = nI (ro_pt (cw_nt 16 si) w p m) := by
        unfold ro_sx
        by_cases z : cw_nt 16 si (2 * w m) = ro_pt (cw_nt 16 si) w p m
        · rw [if_pos z, Nat.add_zero, sde _ (by omega), z]
        · rw [if_neg z, sde _ (by omega)]
          rcases hop.2.1 with y | y
          · exact absurd y z
          · rw [y]
      have hts := hts m (by omega)
      have ea : n - (m + 1) = n - 1 - m := by omega
      have ea' : n - 1 - (n - 1 - m) = m := by omega
      have hA := ro_am_le4 (cw_nt 16 si) (cw_nt 6 ba) (cw_nt 6 ra) (w := w) (p := p) (n := n) (v := v) hv b9 r20 (d := n - 1 - m) (by omega)
      have eB := (cw_nt_e (N := 6) (B := 10) (f := ba) hP (by omega) (hD _ hP).2.1).1
      have eR := (cw_nt_e (N := 6) (B := 21) (f := ra) hP (by omega) (hD _ hP).2.2).1
      have nR := r20 (ro_pt (cw_nt 16 si) w p m)
      have nB := b9 (ro_pt (cw_nt 16 si) w p m)
      have eN : ro_am (cw_nt 16 si) (cw_nt 6 ba) (cw_nt 6 ra) w p n v (n - m) = ro_am (cw_nt 16 si) (cw_nt 6 ba) (cw_nt 6 ra) w p n v (n - 1 - m) + (cw_nt 6 ba (ro_pt (cw_nt 16 si) w p m) + ro_am (cw_nt 16 si) (cw_nt 6 ba) (cw_nt 6 ra) w p n v (n - 1 - m) * cw_nt 6 ra (ro_pt (cw_nt 16 si) w p m) / 100) := by
        rw [show n - m = (n - 1 - m) + 1 by omega]
        show _ + (cw_nt 6 ba (ro_pt (cw_nt 16 si) w p (n - 1 - (n - 1 - m))) + _ * cw_nt 6 ra (ro_pt (cw_nt 16 si) w p (n - 1 - (n - 1 - m))) / 100) = _
        rw [ea']
      have ih' := ih (by omega)
      rw [eN] at ih'
      have hca : ∀ P : Prop, (¬ cw_ca la xc xb (w m) (ro_sx (cw_nt 16 si) (w m) (ro_pt (cw_nt 16 si) w p m)) (ro_am (cw_nt 16 si) (cw_nt 6 ba) (cw_nt 6 ra) w p n v (n - 1 - m)) → P) → (cw_ca la xc xb (w m) (ro_sx (cw_nt 16 si) (w m) (ro_pt (cw_nt 16 si) w p m)) (ro_am (cw_nt 16 si) (cw_nt 6 ba) (cw_nt 6 ra) w p n v (n - 1 - m)) → P) → P := fun P a b => by
        by_cases z : cw_ca la xc xb (w m) (ro_sx (cw_nt 16 si) (w m) (ro_pt (cw_nt 16 si) w p m)) (ro_am (cw_nt 16 si) (cw_nt 6 ba) (cw_nt 6 ra) w p n v (n - 1 - m))
        · exact b z
        · exact a z
      have bad : ¬ cw_ca la xc xb (w m) (ro_sx (cw_nt 16 si) (w m) (ro_pt (cw_nt 16 si) w p m)) (ro_am (cw_nt 16 si) (cw_nt 6 ba) (cw_nt 6 ra) w p n v (n - 1 - m)) → post 0 (h, sp, nI C, bl, co, on, ba, ra, gu, se, si, st, la, pu, ps, sc, he, xb, xc, xi, xf, xa, xe, tc, ts, ta, bc, bs, bm) := by
        intro z
        refine H0 (fun y => ?_) ta
        have := y (n - 1 - m) (by omega)
        rw [ea'] at this
        exact z this
      have good : cw_ca la xc xb (w m) (ro_sx (cw_nt 16 si) (w m) (ro_pt (cw_nt 16 si) w p m)) (ro_am (cw_nt 16 si) (cw_nt 6 ba) (cw_nt 6 ra) w p n v (n - 1 - m)) → ∀ d, d < n - m → cw_ca la xc xb (w (n - 1 - d)) (ro_sx (cw_nt 16 si) (w (n - 1 - d)) (ro_pt (cw_nt 16 si) w p (n - 1 - d))) (ro_am (cw_nt 16 si) (cw_nt 6 ba) (cw_nt 6 ra) w p n v d) := by
        intro z d hd
        by_cases e : d = n - 1 - m
        · subst e
          rw [ea']
          exact z
        · exact hc d (by omega)
      have hta : ∀ i, m ≤ i → i < n → upd ta m (nI (ro_am (cw_nt 16 si) (cw_nt 6 ba) (cw_nt 6 ra) w p n v (n - 1 - m))) i = nI (ro_am (cw_nt 16 si) (cw_nt 6 ba) (cw_nt 6 ra) w p n v (n - 1 - i)) := by
        intro i h1 h2
        by_cases e : i = m
        · subst e
          exact pk_us
        · rw [pk_un e]
          exact ht i (by omega) h2
      have ihh := fun z => ih' (upd ta m (nI (ro_am (cw_nt 16 si) (cw_nt 6 ba) (cw_nt 6 ra) w p n v (n - 1 - m)))) (good z) hta
      clear good hta ih ih' hc ht hca eN
      unfold cw_ca at bad ihh
      rw [el, nI_clamp (by omega)] at bad ihh
      rw [ea]
      generalize ro_am (cw_nt 16 si) (cw_nt 6 ba) (cw_nt 6 ra) w p n v (n - 1 - m) = A at hA bad ihh ⊢
      generalize ro_sx (cw_nt 16 si) (w m) (ro_pt (cw_nt 16 si) w p m) = s at hsx esn hts bad ihh
      generalize cw_nt 6 ra (ro_pt (cw_nt 16 si) w p m) = R at eR nR ihh
      generalize cw_nt 6 ba (ro_pt (cw_nt 16 si) w p m) = B at eB nB ihh
      generalize ro_pt (cw_nt 16 si) w p m = P at hP esn eR eB
      have hAR : A * R ≤ 576 * 20 := Nat.mul_le_mul hA nR
      rw [wX_carries_7, nI_pred]
      simp (disch := omega) only [q, hw' m (by omega), cw_m2, cw_m3, cw_m4, cw_m13, cw_2m, cw_3m, cw_12m, cw_24m, cw_36m, cw_a12, cw_a3, nI_add, nI_1, pk_sub, nI_clamp, vp_in_nI, el, hts, esn, eB, eR, cw_n100, pk_mul, cw_d100, cw_m1s, forall_eq, nI_leI, nI_ltI, nI_eq, true_implies, forall_const, not_true_eq_false, not_false_eq_true, false_implies, and_true, true_and, implies_true, and_self, reduceIte]
      refine br_c (fun z => bad (fun y => ?_)) (fun z1 => br_c (fun z2 => br_c (fun z3 => ihh ⟨?_, z2, z3⟩) (fun z3 => bad (fun y => z3 y.2.2))) (fun z2 => bad (fun y => z2 y.2.1)))
      · exact y.1 z
      · exact z1
  have := L n (Nat.le_refl _) ta (fun d hd => by omega) (fun i h1 h2 => by omega)
  rw [Nat.sub_self] at this
  unfold wpX_carries
  dsimp only
  exact nm_e ⟨_, this⟩
theorem xs_keep {post : SX → Prop} {n m0 : Nat} (hn : n ≤ 4) (hm : m0 ≤ 4) (ebl : bl = nI m0)
    (H1 : (m0 = 0 ∨ ta 0 < bm 0) → ∀ bc' bs' bm' : Nat → Int32, (∀ i, i < n → bc' i = tc i ∧ bs' i = ts i ∧ bm' i = ta i) → post (h, sp, ch, nI n, co, on, ba, ra, gu, se, si, st, la, pu, ps, sc, he, xb, xc, xi, xf, xa, xe, tc, ts, ta, bc', bs', bm'))
    (H0 : ¬ m0 = 0 → ¬ ta 0 < bm 0 → post (h, sp, ch, bl, co, on, ba, ra, gu, se, si, st, la, pu, ps, sc, he, xb, xc, xi, xf, xa, xe, tc, ts, ta, bc, bs, bm)) : wpX_keepIfBetter post (h, sp, ch, bl, co, on, ba, ra, gu, se, si, st, la, pu, ps, sc, he, xb, xc, xi, xf, xa, xe, tc, ts, ta, bc, bs, bm) (nI n) := by
  have L : (m0 = 0 ∨ ta 0 < bm 0) → ∃ f, wX_keepIfBetter_30 post (nI n) h sp ch (nI n) f 0 co on ba ra gu se si st la pu ps sc he xb xc xi xf xa xe tc ts ta bc bs bm := by
    intro hb
    have K : ∀ d j (bc bs bm' : Nat → Int32), j + d = n → (∀ i, i < j → bc i = tc i ∧ bs i = ts i ∧ bm' i = ta i) → wX_keepIfBetter_30 post (nI n) h sp ch (nI n) (d + 1) (nI j) co on ba ra gu se si st la pu ps sc he xb xc xi xf xa xe tc ts ta bc bs (bm') := by
      intro d
      induction d with
      | zero =>
        intro j bc bs bm' hj ht
        have e : j = n := by omega
        subst e
        rw [wX_keepIfBetter_30]
        simp (disch := omega) only [Nat.le_refl, forall_eq, nI_leI, nI_ltI, nI_eq, true_implies, forall_const, not_true_eq_false, not_false_eq_true, false_implies, and_true, true_and, implies_true, and_self, reduceIte]
        exact H1 hb bc bs bm' ht
      | succ d ih =>
        intro j bc bs bm' hj ht
        have q : ¬ n ≤ j := by omega
        rw [wX_keepIfBetter_30]
        simp (disch := omega) only [q, cw_m2, cw_m3, cw_m4, cw_m13, cw_2m, cw_3m, cw_12m, cw_24m, cw_36m, cw_a12, cw_a3, nI_add, nI_1, pk_sub, nI_clamp, vp_in_nI, forall_eq, nI_leI, nI_ltI, nI_eq, true_implies, forall_const, not_true_eq_false, not_false_eq_true, false_implies, and_true, true_and, implies_true, and_self, reduceIte]
        refine ih (j + 1) _ _ _ (by omega) (fun i hi => ?_)
        by_cases e : i = j
        · subst e
          exact ⟨pk_us, pk_us, pk_us⟩
        · rw [pk_un e, pk_un e, pk_un e]
          exact ht i (by omega)
    exact ⟨_, K n 0 bc bs bm (by omega) (fun i hi => by omega)⟩
  unfold wpX_keepIfBetter
  dsimp only
  rw [ebl] at H0 ⊢
  refine br_c (fun z => L (Or.inl ?_)) (fun z => br_c (fun y => L (Or.inr y)) (fun y => H0 (fun x => z ?_) y))
  · have := (cw_el0 (show m0 < 2 ^ 31 by omega)).mp z
    omega
  · rw [x]
    decide
end XR
end
section
/-! part 22: the search of X, whole -/
section XF
variable {h sp ch bl yn : Int32} {co on ba ra gu se si st la pu ps sc he xb xc xi xf xa xe tc ts ta bc bs bm pb ou yb yl yf ya ys ye zf za zs ze wy pt su bb bu : Nat → Int32}
def xr_B (sd ba ra : Nat → Nat) (p v : Nat) (b : Nat → Nat) (m : Nat) (bl : Int32) (bc bs bm : Nat → Int32) : Prop :=
  bl = nI m ∧ m ≤ 4 ∧ ∀ i, i < m → bc i = nI (b i) ∧ bs i = nI (ro_sx sd (b i) (ro_pt sd b p i)) ∧ bm i = nI (ro_am sd ba ra b p m v (m - 1 - i))
theorem cw_p8 {n : Nat} (h : n ≤ 4) : 8 ^ n ≤ 4096 := by
  have : n = 0 ∨ n = 1 ∨ n = 2 ∨ n = 3 ∨ n = 4 := by omega
  rcases this with rfl | rfl | rfl | rfl | rfl <;> decide
theorem cw_D9 (hD : cw_D on ba ra) : (∀ i, cw_nt 6 ba i ≤ 9) ∧ (∀ i, cw_nt 6 ra i ≤ 20) := by
  refine ⟨fun i => ?_, fun i => ?_⟩
  · have := cw_nt_lt (N := 6) (B := 10) (f := ba) (by omega) (by omega) (fun i hi => (hD i hi).2.1) i
    omega
  · have := cw_nt_lt (N := 6) (B := 21) (f := ra) (by omega) (by omega) (fun i hi => (hD i hi).2.2) i
    omega
theorem xs_find27 {post : SX → Prop} {J : Int32 → Int32 → SX → Prop} {C n p q v : Nat} (hC : C ≤ 8) (hsi : ∀ i, i < 16 → ∃ a, a < 6 ∧ si i = nI a) (hD : cw_D on ba ra) (hla : ∀ c, c < 8 → ∃ l, l < 12 ∧ la c = nI l) (h1 : 1 ≤ n) (hn : n ≤ 4) (hp : p < 6) (hq : q < 6) (hv : v ≤ 255)
    (HJ : ∀ (tc ts ta bc bs bm : Nat → Int32) (bl : Int32) (b : Nat → Nat) (m : Nat), ro_JX (cw_nt 16 si) (cw_nt 6 ba) (cw_nt 6 ra) C (cw_rd st on si) (cw_ca la xc xb) p q v n (8 ^ n) b m → xr_B (cw_nt 16 si) (cw_nt 6 ba) (cw_nt 6 ra) p v b m bl bc bs bm → J (nI (8 ^ n)) (nI (n + 1)) (h, sp, nI C, bl, co, on, ba, ra, gu, se, si, st, la, pu, ps, sc, he, xb, xc, xi, xf, xa, xe, tc, ts, ta, bc, bs, bm)) :
    ∀ d code, code + d = 8 ^ n → ∀ (tc ts ta bc bs bm : Nat → Int32) (bl : Int32) (b : Nat → Nat) (m : Nat), ro_JX (cw_nt 16 si) (cw_nt 6 ba) (cw_nt 6 ra) C (cw_rd st on si) (cw_ca la xc xb) p q v n code b m → xr_B (cw_nt 16 si) (cw_nt 6 ba) (cw_nt 6 ra) p v b m bl bc bs bm →
      wX_findBestRoute_27 post (fun x y h sp ch bl co on ba ra gu se si st la pu ps sc he xb xc xi xf xa xe tc ts ta bc bs bm => J x y (h, sp, ch, bl, co, on, ba, ra, gu, se, si, st, la, pu, ps, sc, he, xb, xc, xi, xf, xa, xe, tc, ts, ta, bc, bs, bm)) (nI p) (nI q) (nI v) (nI (8 ^ n)) (nI n) (d + 1) (nI code) h sp (nI C) bl co on ba ra gu se si st la pu ps sc he xb xc xi xf xa xe tc ts ta bc bs bm := by
  have h8 := cw_p8 hn
  obtain ⟨b9, r20⟩ := cw_D9 hD
  intro d
  induction d with
  | zero =>
    intro code hcode tc ts ta bc bs bm bl b m hJ hb
    have e : code = 8 ^ n := by omega
    subst e
    rw [wX_findBestRoute_27]
    refine br_t (nI_le (Nat.le_refl _) (by omega)) (nm_r (nI_1 n) ?_)
    exact HJ tc ts ta bc bs bm bl b m hJ hb
  | succ d ih =>
    intro code hcode tc ts ta bc bs bm bl b m hJ hb
    have hlt : code < 8 ^ n := by omega
    rw [wX_findBestRoute_27]
    refine br_f (nI_ge (by omega) (by omega)) ?_
    refine xs_readRow hn (by omega) (fun tc' htc => ?_)
    dsimp only
    refine xs_leadsTo (w := ro_dig n code) hC hsi hn hp hq (fun i _ => ro_dig7 n code i) htc (fun hwk hpt ts' hts => ?_) (fun hno ts' => ?_)
    · dsimp only
      refine br_f cw_n1 (xs_carries (w := ro_dig n code) hC hsi hD hla hn hp hv htc hwk hts (fun hcar ta' hta => ?_) (fun hno ta' => ?_))
      · dsimp only
        refine br_f cw_n1 ?_
        have g : ro_good (cw_nt 16 si) (cw_nt 6 ba) (cw_nt 6 ra) C (cw_rd st on si) (cw_ca la xc xb) p q v (ro_dig n code) n := ⟨h1, hn, hwk, hpt, hcar⟩
        obtain ⟨ebl, hm4, hbb⟩ := hb
        have t0 := hta 0 (by omega)
        have cA : ro_cost (cw_nt 16 si) (cw_nt 6 ba) (cw_nt 6 ra) p v (ro_dig n code) n ≤ 576 := ro_am_le4 (cw_nt 16 si) (cw_nt 6 ba) (cw_nt 6 ra) hv b9 r20 (by omega)
        have cB : ro_cost (cw_nt 16 si) (cw_nt 6 ba) (cw_nt 6 ra) p v b m ≤ 576 := ro_am_le4 (cw_nt 16 si) (cw_nt 6 ba) (cw_nt 6 ra) hv b9 r20 (by omega)
        have t0' : ta' 0 = nI (ro_cost (cw_nt 16 si) (cw_nt 6 ba) (cw_nt 6 ra) p v (ro_dig n code) n) := t0
        refine xs_keep hn hm4 ebl (fun hbet bc' bs' bm' hcp => nm_r (nI_1 code) (ih (code + 1) (by omega) _ _ _ _ _ _ _ (ro_dig n code) n ?_ ?_)) (fun hm0 hnb => nm_r (nI_1 code) (ih (code + 1) (by omega) _ _ _ _ _ _ _ b m ?_ ⟨ebl, hm4, hbb⟩))
        · refine ro_JX_put (cw_nt 16 si) (cw_nt 6 ba) (cw_nt 6 ra) C (cw_rd st on si) (cw_ca la xc xb) hC hJ hlt g (fun hm => ?_)
          rcases hbet with z | z
          · omega
          · have e0 : bm 0 = nI (ro_cost (cw_nt 16 si) (cw_nt 6 ba) (cw_nt 6 ra) p v b m) := (hbb 0 hm).2.2
            rw [t0', e0, nI_ltI (by omega) (by omega)] at z
            exact z
        · refine ⟨rfl, hn, fun i hi => ?_⟩
          obtain ⟨x1, x2, x3⟩ := hcp i hi
          exact ⟨x1.trans (htc i hi), x2.trans (hts i hi), x3.trans (hta i hi)⟩
        · have e0 : bm 0 = nI (ro_cost (cw_nt 16 si) (cw_nt 6 ba) (cw_nt 6 ra) p v b m) := (hbb 0 (by omega)).2.2
          rw [t0', e0, nI_ltI (by omega) (by omega)] at hnb
          exact ro_JX_keep (cw_nt 16 si) (cw_nt 6 ba) (cw_nt 6 ra) C (cw_rd st on si) (cw_ca la xc xb) hC h1 hn hJ hlt (by omega) (by omega)
      · refine br_t rfl (nm_r (nI_1 code) (ih (code + 1) (by omega) _ _ _ _ _ _ _ b m ?_ hb))
        exact ro_JX_skip (cw_nt 16 si) (cw_nt 6 ba) (cw_nt 6 ra) C (cw_rd st on si) (cw_ca la xc xb) hC hJ hlt (fun g => hno g.2.2.2.2)
    · refine br_t rfl (nm_r (nI_1 code) (ih (code + 1) (by omega) _ _ _ _ _ _ _ b m ?_ hb))
      exact ro_JX_skip (cw_nt 16 si) (cw_nt 6 ba) (cw_nt 6 ra) C (cw_rd st on si) (cw_ca la xc xb) hC hJ hlt (fun g => hno ⟨g.2.2.1, g.2.2.2.1⟩)
theorem xs_find {post : SX → Prop} {C p q v : Nat} (hC : C ≤ 8) (hsi : ∀ i, i < 16 → ∃ a, a < 6 ∧ si i = nI a) (hD : cw_D on ba ra) (hla : ∀ c, c < 8 → ∃ l, l < 12 ∧ la c = nI l) (hp : p < 6) (hq : q < 6) (hv : v ≤ 255)
    (H : ∀ (tc ts ta bc bs bm : Nat → Int32) (bl : Int32) (b : Nat → Nat) (m : Nat), ro_min (cw_nt 16 si) (cw_nt 6 ba) (cw_nt 6 ra) C (cw_rd st on si) (cw_ca la xc xb) p q v ro_code (fun _ _ => True) b m → xr_B (cw_nt 16 si) (cw_nt 6 ba) (cw_nt 6 ra) p v b m bl bc bs bm → post (h, sp, nI C, bl, co, on, ba, ra, gu, se, si, st, la, pu, ps, sc, he, xb, xc, xi, xf, xa, xe, tc, ts, ta, bc, bs, bm)) : wpX_findBestRoute post (h, sp, nI C, bl, co, on, ba, ra, gu, se, si, st, la, pu, ps, sc, he, xb, xc, xi, xf, xa, xe, tc, ts, ta, bc, bs, bm) (nI p) (nI q) (nI v) := by
  have L : ∀ d n, n + d = 5 → 1 ≤ n → ∀ (tc ts ta bc bs bm : Nat → Int32) (bl : Int32) (b : Nat → Nat) (m : Nat), ro_JX (cw_nt 16 si) (cw_nt 6 ba) (cw_nt 6 ra) C (cw_rd st on si) (cw_ca la xc xb) p q v n 0 b m → xr_B (cw_nt 16 si) (cw_nt 6 ba) (cw_nt 6 ra) p v b m bl bc bs bm →
      wX_findBestRoute_11 post (nI p) (nI q) (nI v) (d + 1) (nI (8 ^ (n - 1))) (nI n) h sp (nI C) bl co on ba ra gu se si st la pu ps sc he xb xc xi xf xa xe tc ts ta bc bs bm := by
    intro d
    induction d with
    | zero =>
      intro n hn _ tc ts ta bc bs bm bl b m hJ hb
      have e : n = 5 := by omega
      subst e
      rw [wX_findBestRoute_11]
      refine br_t (by decide) ?_
      exact H tc ts ta bc bs bm bl b m (ro_JX_end (cw_nt 16 si) (cw_nt 6 ba) (cw_nt 6 ra) C (cw_rd st on si) (cw_ca la xc xb) hJ) hb
    | succ d ih =>
      intro n hn h1 tc ts ta bc bs bm bl b m hJ hb
      have q4 : ¬ (4 : Int32) < nI n := by rw [cw_lt4 (by omega)]; omega
      have e8 : 8 ^ (n - 1) * 8 = 8 ^ n := by
        obtain ⟨k, rfl⟩ : ∃ k, n = k + 1 := ⟨n - 1, by omega⟩
        exact (Nat.pow_succ ..).symm
      rw [wX_findBestRoute_11]
      refine br_f q4 (nm_r ((cw_m8 _).trans (congrArg nI e8)) ⟨8 ^ n + 1, ?_⟩)
      refine xs_find27 (J := fun x y u => match u with | (h, sp, ch, bl, co, on, ba, ra, gu, se, si, st, la, pu, ps, sc, he, xb, xc, xi, xf, xa, xe, tc, ts, ta, bc, bs, bm) => wX_findBestRoute_11 post (nI p) (nI q) (nI v) (d + 1) x y h sp ch bl co on ba ra gu se si st la pu ps sc he xb xc xi xf xa xe tc ts ta bc bs bm) hC hsi hD hla h1 (by omega) hp hq hv (fun tc ts ta bc bs bm bl b m hJ' hb' => ?_) (8 ^ n) 0 (by omega) tc ts ta bc bs bm bl b m hJ hb
      exact ih (n + 1) (by omega) (by omega) tc ts ta bc bs bm bl b m (ro_JX_next (cw_nt 16 si) (cw_nt 6 ba) (cw_nt 6 ra) C (cw_rd st on si) (cw_ca la xc xb) hC hJ') hb'
  unfold wpX_findBestRoute
  dsimp only
  refine ⟨5, ?_⟩
  exact L 4 1 rfl (Nat.le_refl _) tc ts ta bc bs bm 0 (fun _ => 0) 0 (ro_JX_0 (cw_nt 16 si) (cw_nt 6 ba) (cw_nt 6 ra) C (cw_rd st on si) (cw_ca la xc xb) (fun _ => 0)) ⟨rfl, by omega, fun i hi => by omega⟩
end XF
end
section
/-! part 23: the reference's search for a route -/
section YR
variable {h sp ch bl yn : Int32} {co on ba ra gu se si st la pu ps sc he xb xc xi xf xa xe tc ts ta bc bs bm pb ou yb yl yf ya ys ye zf za zs ze wy pt su bb bu : Nat → Int32}
theorem ys_brings {post : Int32 → SY → Prop} {C n p v : Nat} {w : Nat → Nat} {ca : Nat → Nat → Nat → Prop} (hC : C ≤ 8) (hsi : ∀ i, i < 16 → ∃ a, a < 6 ∧ si i = nI a) (hne : ∀ c, c < C → ¬ si (2 * c) = si (2 * c + 1)) (hD : cw_D on ba ra) (hla : ∀ c, c < 8 → ∃ l, l < 12 ∧ la c = nI l)
    (hca : ∀ c s a l, c < 8 → s < 2 → l < 12 → la c = nI l → (ca c s a ↔ (¬ yb (2 * (12 * c + l) + s) < nI a ∧ ¬ 2 < yl (12 * c + l) ∧ la c ≤ 10)))
    (h1 : 1 ≤ n) (hn : n ≤ 4) (hp : p < 6) (hv : v ≤ 255) (hwy : ∀ i, i < n → wy i = nI (w i)) (hpt : ∀ i, i ≤ n → pt i = nI (ro_pt (cw_nt 16 si) w p i))
    (hwk : ro_walk (cw_nt 16 si) C (cw_rd st on si) w p n)
    (H1 : ro_car (cw_nt 16 si) (cw_nt 6 ba) (cw_nt 6 ra) ca w p n v → ∀ su' : Nat → Int32, (∀ i, i < n → su' i = nI (ro_am (cw_nt 16 si) (cw_nt 6 ba) (cw_nt 6 ra) w p n v (n - 1 - i))) → post 1 (h, sp, nI C, yn, co, ba, ra, gu, se, on, si, st, la, pu, pb, sc, he, ou, yb, yl, yf, ya, ys, ye, zf, za, zs, ze, wy, pt, su', bb, bu))
    (H0 : ¬ ro_car (cw_nt 16 si) (cw_nt 6 ba) (cw_nt 6 ra) ca w p n v → ∀ su' : Nat → Int32, post 0 (h, sp, nI C, yn, co, ba, ra, gu, se, on, si, st, la, pu, pb, sc, he, ou, yb, yl, yf, ya, ys, ye, zf, za, zs, ze, wy, pt, su', bb, bu)) : wpY_brings post (h, sp, nI C, yn, co, ba, ra, gu, se, on, si, st, la, pu, pb, sc, he, ou, yb, yl, yf, ya, ys, ye, zf, za, zs, ze, wy, pt, su, bb, bu) (nI n) (nI v) := by
  have sd6 : ∀ i, cw_nt 16 si i < 6 := cw_nt_lt (by omega) (by omega) hsi
  have sde : ∀ i, i < 16 → si i = nI (cw_nt 16 si i) := fun i hi => (cw_nt_e hi (by omega) (hsi i hi)).1
  have p6 : ∀ i, ro_pt (cw_nt 16 si) w p i < 6 := ro_pt_lt (cw_nt 16 si) sd6 hp
  obtain ⟨b9, r20⟩ := cw_D9 hD
  have L : ∀ m, m ≤ n → ∀ su : Nat → Int32, (∀ d, d < n - m → ca (w (n - 1 - d)) (ro_sx (cw_nt 16 si) (w (n - 1 - d)) (ro_pt (cw_nt 16 si) w p (n - 1 - d))) (ro_am (cw_nt 16 si) (cw_nt 6 ba) (cw_nt 6 ra) w p n v d)) → (∀ i, m ≤ i → i < n → su i = nI (ro_am (cw_nt 16 si) (cw_nt 6 ba) (cw_nt 6 ra) w p n v (n - 1 - i))) →
      wY_brings_7 post (nI n) h sp (nI C) yn (m + 1) (nI (ro_am (cw_nt 16 si) (cw_nt 6 ba) (cw_nt 6 ra) w p n v (n - 1 - m))) (nI m - 1) co ba ra gu se on si st la pu pb sc he ou yb yl yf ya ys ye zf za zs ze wy pt su bb bu := by
    intro m
    induction m with
    | zero =>
      intro _ su hc ht
      rw [wY_brings_7]
      exact br_t cw_z1 (H1 (fun d hd => hc d (by omega)) su (fun i hi => ht i (Nat.zero_le _) hi))
    | succ m ih =>
      intro hm su hc ht
      have q : ¬ nI m < 0 := nI_pos (by omega)
      have hop := hwk m (by omega)
      have hwC : w m < C := hop.1
      obtain ⟨l, hl, el⟩ := hla (w m) (by omega)
      have hP := p6 m
      have hP1 := p6 (m + 1)
      have hsx : ro_sx (cw_nt 16 si) (w m) (ro_pt (cw_nt 16 si) w p m) < 2 := by
        unfold ro_sx
        by_cases z : cw_nt 16 si (2 * w m) = ro_pt (cw_nt 16 si) w p m
        · rw [if_pos z]; omega
        · rw [if_neg z]; omega
      have esn : si (2 * w m + ro_sx (cw_nt 16 si) (w m) (ro_pt (cw_nt 16 si) w p m)) = nI (ro_pt (cw_nt 16 si) w p m) := by
        unfold ro_sx
        by_cases z : cw_nt 16 si (2 * w m) = ro_pt (cw_nt 16 si) w p m
        · rw [if_pos z, Nat.add_zero, sde _ (by omega), z]
        · rw [if_neg z, sde _ (by omega)]
          rcases hop.2.1 with y | y
          · exact absurd y z
          · rw [y]
      have hnem := hne (w m) hwC
      have ea' : n - 1 - (n - 1 - m) = m := by omega
      have hA := ro_am_le4 (cw_nt 16 si) (cw_nt 6 ba) (cw_nt 6 ra) (w := w) (p := p) (n := n) (v := v) hv b9 r20 (d := n - 1 - m) (by omega)
      have hcam := hca (w m) (ro_sx (cw_nt 16 si) (w m) (ro_pt (cw_nt 16 si) w p m)) (ro_am (cw_nt 16 si) (cw_nt 6 ba) (cw_nt 6 ra) w p n v (n - 1 - m)) l (by omega) hsx hl el
      have bad : ∀ su', ¬ ca (w m) (ro_sx (cw_nt 16 si) (w m) (ro_pt (cw_nt 16 si) w p m)) (ro_am (cw_nt 16 si) (cw_nt 6 ba) (cw_nt 6 ra) w p n v (n - 1 - m)) → post 0 (h, sp, nI C, yn, co, ba, ra, gu, se, on, si, st, la, pu, pb, sc, he, ou, yb, yl, yf, ya, ys, ye, zf, za, zs, ze, wy, pt, su', bb, bu) := by
        intro su' z
        refine H0 (fun y => ?_) su'
        have := y (n - 1 - m) (by omega)
        rw [ea'] at this
        exact z this
      have good : ca (w m) (ro_sx (cw_nt 16 si) (w m) (ro_pt (cw_nt 16 si) w p m)) (ro_am (cw_nt 16 si) (cw_nt 6 ba) (cw_nt 6 ra) w p n v (n - 1 - m)) → ∀ d, d < n - m → ca (w (n - 1 - d)) (ro_sx (cw_nt 16 si) (w (n - 1 - d)) (ro_pt (cw_nt 16 si) w p (n - 1 - d))) (ro_am (cw_nt 16 si) (cw_nt 6 ba) (cw_nt 6 ra) w p n v d) := by
        intro z d hd
        by_cases e : d = n - 1 - m
        · subst e
          rw [ea']
          exact z
        · exact hc d (by omega)
      have hta : ∀ i, m ≤ i → i < n → upd su m (nI (ro_am (cw_nt 16 si) (cw_nt 6 ba) (cw_nt 6 ra) w p n v (n - 1 - m))) i = nI (ro_am (cw_nt 16 si) (cw_nt 6 ba) (cw_nt 6 ra) w p n v (n - 1 - i)) := by
        intro i h1 h2
        by_cases e : i = m
        · subst e
          exact pk_us
        · rw [pk_un e]
          exact ht i (by omega) h2
      have ihh := fun z => ih (by omega) (upd su m (nI (ro_am (cw_nt 16 si) (cw_nt 6 ba) (cw_nt 6 ra) w p n v (n - 1 - m)))) (good z) hta
      have step : wY_brings_57 post (wY_brings_7 post (nI n) h sp (nI C) yn (m + 1)) (nI n) (nI (ro_am (cw_nt 16 si) (cw_nt 6 ba) (cw_nt 6 ra) w p n v (n - 1 - m))) (nI m) h sp (nI C) yn co ba ra gu se on si st la pu pb sc he ou yb yl yf ya ys ye zf za zs ze wy pt su bb bu := by
        clear good hta ih hc ht
        generalize ro_am (cw_nt 16 si) (cw_nt 6 ba) (cw_nt 6 ra) w p n v (n - 1 - m) = A at hA bad ihh hcam ⊢
        generalize ro_sx (cw_nt 16 si) (w m) (ro_pt (cw_nt 16 si) w p m) = s at hsx esn bad ihh hcam
        simp (disch := omega) only [wY_brings_57, hwy m (by omega), hpt m (by omega), cw_m2, cw_m3, cw_m4, cw_m13, cw_2m, cw_3m, cw_12m, cw_24m, cw_36m, cw_a12, cw_a3, nI_add, nI_1, pk_sub, nI_clamp, vp_in_nI, forall_eq, nI_leI, nI_ltI, nI_eq, true_implies, forall_const, not_true_eq_false, not_false_eq_true, false_implies, and_true, true_and, implies_true, and_self, reduceIte]
        refine ys_now (by omega) el (ys_side (by omega) hsx esn hnem ?_)
        simp (disch := omega) only [cw_m2, cw_m3, cw_m4, cw_m13, cw_2m, cw_3m, cw_12m, cw_24m, cw_36m, cw_a12, cw_a3, nI_add, nI_1, pk_sub, nI_clamp, vp_in_nI, cw_m1s, forall_eq, nI_leI, nI_ltI, nI_eq, true_implies, forall_const, not_true_eq_false, not_false_eq_true, false_implies, and_true, true_and, implies_true, and_self, reduceIte]
        refine br_c (fun z => bad _ (fun y => (hcam.mp y).1 z)) (fun z1 => br_c (fun z => bad _ (fun y => (hcam.mp y).2.1 z)) (fun z2 => br_c (fun z3 => ihh (hcam.mpr ⟨z1, z2, z3⟩)) (fun z => bad _ (fun y => z (hcam.mp y).2.2))))
      rw [wY_brings_7, nI_pred]
      refine br_f q ?_
      have e1 : nI n - 1 = nI (n - 1) := pk_sub h1
      rw [e1]
      by_cases hl1 : n - 1 ≤ m
      · refine br_t (nI_le hl1 (by omega)) ?_
        rw [show n - 1 - (m + 1) = n - 1 - m by omega]
        exact step
      · refine br_f (nI_ge (by omega) (by omega)) ?_
        have eB := (cw_nt_e (N := 6) (B := 10) (f := ba) hP1 (by omega) (hD _ hP1).2.1).1
        have eR := (cw_nt_e (N := 6) (B := 21) (f := ra) hP1 (by omega) (hD _ hP1).2.2).1
        have nR := r20 (ro_pt (cw_nt 16 si) w p (m + 1))
        have nB := b9 (ro_pt (cw_nt 16 si) w p (m + 1))
        have eN : ro_am (cw_nt 16 si) (cw_nt 6 ba) (cw_nt 6 ra) w p n v (n - 1 - m) = ro_am (cw_nt 16 si) (cw_nt 6 ba) (cw_nt 6 ra) w p n v (n - 1 - (m + 1)) + (cw_nt 6 ba (ro_pt (cw_nt 16 si) w p (m + 1)) + ro_am (cw_nt 16 si) (cw_nt 6 ba) (cw_nt 6 ra) w p n v (n - 1 - (m + 1)) * cw_nt 6 ra (ro_pt (cw_nt 16 si) w p (m + 1)) / 100) := by
          rw [show n - 1 - m = (n - 1 - (m + 1)) + 1 by omega]
          show _ + (cw_nt 6 ba (ro_pt (cw_nt 16 si) w p (n - 1 - (n - 1 - (m + 1)))) + _ * cw_nt 6 ra (ro_pt (cw_nt 16 si) w p (n - 1 - (n - 1 - (m + 1)))) / 100) = _
          rw [show n - 1 - (n - 1 - (m + 1)) = m + 1 by omega]
        rw [eN] at step
        have hA' := ro_am_le4 (cw_nt 16 si) (cw_nt 6 ba) (cw_nt 6 ra) (w := w) (p := p) (n := n) (v := v) hv b9 r20 (d := n - 1 - (m + 1)) (by omega)
        clear ihh hta good bad hcam eN ih
        generalize ro_am (cw_nt 16 si) (cw_nt 6 ba) (cw_nt 6 ra) w p n v (n - 1 - (m + 1)) = A at hA' step ⊢
        generalize cw_nt 6 ra (ro_pt (cw_nt 16 si) w p (m + 1)) = R at eR nR step
        generalize cw_nt 6 ba (ro_pt (cw_nt 16 si) w p (m + 1)) = B at eB nB step
        have hAR : A * R ≤ 576 * 20 := Nat.mul_le_mul hA' nR
        simp (disch := omega) only [cw_m2, cw_m3, cw_m4, cw_m13, cw_2m, cw_3m, cw_12m, cw_24m, cw_36m, cw_a12, cw_a3, nI_add, nI_1, pk_sub, nI_clamp, vp_in_nI, hpt (m + 1) (by omega), eB, eR, cw_n100, pk_mul, cw_d100, forall_eq, nI_leI, nI_ltI, nI_eq, true_implies, forall_const, not_true_eq_false, not_false_eq_true, false_implies, and_true, true_and, implies_true, and_self, reduceIte]
        exact step
  have := L n (Nat.le_refl _) su (fun d hd => by omega) (fun i h1 h2 => by omega)
  rw [show n - 1 - n = 0 by omega] at this
  unfold wpY_brings
  dsimp only
  exact nm_e ⟨_, this⟩
theorem ys_behind {post : Int32 → Prop} {C d p : Nat} {w : Nat → Nat} (hC : C ≤ 8) (hsi : ∀ i, i < 16 → ∃ a, a < 6 ∧ si i = nI a) (hd : d ≤ 3) (hp : p < 6) (hwC : w d < C) (hpt : ∀ i, i ≤ d → pt i = nI (ro_pt (cw_nt 16 si) w p i))
    (H1 : ro_hop (cw_nt 16 si) C (cw_rd st on si) w p d → post (nI (ro_pt (cw_nt 16 si) w p (d + 1)))) (H0 : ¬ ro_hop (cw_nt 16 si) C (cw_rd st on si) w p d → post (-1)) : wpY_behind post (h, sp, nI C, yn, co, ba, ra, gu, se, on, si, st, la, pu, pb, sc, he, ou, yb, yl, yf, ya, ys, ye, zf, za, zs, ze, wy, pt, su, bb, bu) (nI d) (nI (w d)) := by
  have sd6 : ∀ i, cw_nt 16 si i < 6 := cw_nt_lt (by omega) (by omega) hsi
  have sde : ∀ i, i < 16 → si i = nI (cw_nt 16 si i) := fun i hi => (cw_nt_e hi (by omega) (hsi i hi)).1
  have p6 : ∀ i, ro_pt (cw_nt 16 si) w p i < 6 := ro_pt_lt (cw_nt 16 si) sd6 hp
  have hP := p6 d
  have hP1 := p6 (d + 1)
  have s0 := sde (2 * w d) (by omega)
  have s1 := sde (2 * w d + 1) (by omega)
  have loop : cw_rd st on si (w d) → (cw_nt 16 si (2 * w d) = ro_pt (cw_nt 16 si) w p d ∨ cw_nt 16 si (2 * w d + 1) = ro_pt (cw_nt 16 si) w p d) → ∃ f, wY_behind_47 post (nI d) (nI (ro_pt (cw_nt 16 si) w p (d + 1))) h sp (nI C) yn co ba ra gu se on si st la pu pb sc he ou yb yl yf ya ys ye zf za zs ze wy pt su bb bu f 0 := by
    intro hrd hside
    have K : ∀ k j, j + k = d + 1 → (∀ i, i < j → ro_pt (cw_nt 16 si) w p i ≠ ro_pt (cw_nt 16 si) w p (d + 1)) → wY_behind_47 post (nI d) (nI (ro_pt (cw_nt 16 si) w p (d + 1))) h sp (nI C) yn co ba ra gu se on si st la pu pb sc he ou yb yl yf ya ys ye zf za zs ze wy pt su bb bu (k + 1) (nI j) := by
      intro k
      induction k with
      | zero =>
        intro j hj hno
        have q : d < j := by omega
        rw [wY_behind_47]
        refine br_t (nI_lt q (by omega)) (H1 ⟨hwC, hside, hrd, fun i hi => hno i (by omega)⟩)
      | succ k ih =>
        intro j hj hno
        have q : ¬ d < j := by omega
        have hPj := p6 j
        rw [wY_behind_47]
        simp (disch := omega) only [q, cw_m2, cw_m3, cw_m4, cw_m13, cw_2m, cw_3m, cw_12m, cw_24m, cw_36m, cw_a12, cw_a3, nI_add, nI_1, pk_sub, nI_clamp, vp_in_nI, hpt j (by omega), forall_eq, nI_leI, nI_ltI, nI_eq, true_implies, forall_const, not_true_eq_false, not_false_eq_true, false_implies, and_true, true_and, implies_true, and_self, reduceIte]
        refine br_c (fun z => H0 (fun y => y.2.2.2 j (by omega) z)) (fun z => ih (j + 1) (by omega) (fun i hi => ?_))
        rcases Nat.lt_or_ge i j with h' | h'
        · exact hno i h'
        · have : i = j := by omega
          subst this
          exact z
    exact ⟨_, K (d + 1) 0 (by omega) (fun i hi => by omega)⟩
  simp (disch := omega) only [wpY_behind, hpt d (Nat.le_refl _), cw_m2, cw_m3, cw_m4, cw_m13, cw_2m, cw_3m, cw_12m, cw_24m, cw_36m, cw_a12, cw_a3, nI_add, nI_1, pk_sub, nI_clamp, vp_in_nI, forall_eq, nI_leI, nI_ltI, nI_eq, true_implies, forall_const, not_true_eq_false, not_false_eq_true, false_implies, and_true, true_and, implies_true, and_self, reduceIte]
  refine ys_sideOf (by omega) (fun a => ?_) (fun a b => ?_) (fun a b => ?_)
  · have e0 : cw_nt 16 si (2 * w d) = ro_pt (cw_nt 16 si) w p d := (nI_eq (by have := sd6 (2 * w d); omega) (by omega)).mp (s0.symm.trans a)
    have en : si (2 * w d + 1) = nI (ro_pt (cw_nt 16 si) w p (d + 1)) := by
      show si (2 * w d + 1) = nI (ro_nx (cw_nt 16 si) (w d) (ro_pt (cw_nt 16 si) w p d))
      unfold ro_nx
      rw [if_pos e0]
      exact s1
    refine ys_isReady (by omega) hsi (fun r => br_f (by decide) (br_f cw_n1 ?_)) (fun r => br_f (by decide) (br_t rfl (H0 (fun z => r z.2.2.1))))
    have em : nI (2 * w d + 1) - 0 = nI (2 * w d + 1) := Int32.sub_zero _
    rw [em]
    simp (disch := omega) only [cw_m2, cw_m3, cw_m4, cw_m13, cw_2m, cw_3m, cw_12m, cw_24m, cw_36m, cw_a12, cw_a3, nI_add, nI_1, pk_sub, nI_clamp, vp_in_nI, en, forall_eq, nI_leI, nI_ltI, nI_eq, true_implies, forall_const, not_true_eq_false, not_false_eq_true, false_implies, and_true, true_and, implies_true, and_self, reduceIte]
    exact loop r (Or.inl e0)
  · have e0 : ¬ cw_nt 16 si (2 * w d) = ro_pt (cw_nt 16 si) w p d := fun z => a (by rw [s0, z])
    have e1 : cw_nt 16 si (2 * w d + 1) = ro_pt (cw_nt 16 si) w p d := (nI_eq (by have := sd6 (2 * w d + 1); omega) (by omega)).mp (s1.symm.trans b)
    have en : si (2 * w d) = nI (ro_pt (cw_nt 16 si) w p (d + 1)) := by
      show si (2 * w d) = nI (ro_nx (cw_nt 16 si) (w d) (ro_pt (cw_nt 16 si) w p d))
      unfold ro_nx
      rw [if_neg e0]
      exact s0
    refine ys_isReady (by omega) hsi (fun r => br_f (by decide) (br_f cw_n1 ?_)) (fun r => br_f (by decide) (br_t rfl (H0 (fun z => r z.2.2.1))))
    rw [nI_pred]
    simp (disch := omega) only [cw_m2, cw_m3, cw_m4, cw_m13, cw_2m, cw_3m, cw_12m, cw_24m, cw_36m, cw_a12, cw_a3, nI_add, nI_1, pk_sub, nI_clamp, vp_in_nI, en, forall_eq, nI_leI, nI_ltI, nI_eq, true_implies, forall_const, not_true_eq_false, not_false_eq_true, false_implies, and_true, true_and, implies_true, and_self, reduceIte]
    exact loop r (Or.inr e1)
  · have hb : ¬ ro_hop (cw_nt 16 si) C (cw_rd st on si) w p d := by
      intro z
      rcases z.2.1 with y | y
      · exact a (by rw [s0, y])
      · exact b (by rw [s1, y])
    exact ys_isReady (by omega) hsi (fun r => br_t (by decide) (H0 hb)) (fun r => br_t (by decide) (H0 hb))
end YR
end
section
/-! part 24: the reference's search by depth -/
section SEEK
variable {h sp ch bl yn : Int32} {co on ba ra gu se si st la pu ps sc he xb xc xi xf xa xe tc ts ta bc bs bm pb ou yb yl yf ya ys ye zf za zs ze wy pt su bb bu : Nat → Int32}
theorem cw_s1a (e : Nat) : nI e - 1 + 1 = nI e := Int32.sub_add_cancel (nI e) 1
theorem cw_s1p (e : Nat) : nI e = nI (e + 1) - 1 := (nI_pred e).symm
theorem ys_seek {post : Int32 → SY → Prop} {C p q : Nat} {v : Int32} {Inv : Nat → Int32 → Int32 → (Nat → Int32) → (Nat → Int32) → Prop} (hC : C ≤ 8) (hsi : ∀ i, i < 16 → ∃ a, a < 6 ∧ si i = nI a) (hp : p < 6) (hq : q < 6)
    (hmono : ∀ N N' mo yn bb bu, N ≤ N' → (∀ w n, ro_lead (cw_nt 16 si) C (cw_rd st on si) p q w n → N ≤ ro_num w n → ro_num w n < N' → False) → Inv N mo yn bb bu → Inv N' mo yn bb bu)
    (hreach : ∀ (w : Nat → Nat) (n N N' : Nat) (mo yn : Int32) (wy pt su bb bu : Nat → Int32), ro_lead (cw_nt 16 si) C (cw_rd st on si) p q w n → N ≤ ro_num w n → ro_num w n < N' → (∀ w' n', ro_lead (cw_nt 16 si) C (cw_rd st on si) p q w' n' → N ≤ ro_num w' n' → ro_num w' n' < N' → n' = n ∧ ∀ i, i < n' → w' i = w i) →
      (∀ i, i < n → wy i = nI (w i)) → (∀ i, i ≤ n → pt i = nI (ro_pt (cw_nt 16 si) w p i)) → Inv N mo yn bb bu →
      ∀ post : Int32 → SY → Prop, (∀ (mo yn : Int32) (su bb bu : Nat → Int32), Inv N' mo yn bb bu → post mo (h, sp, nI C, yn, co, ba, ra, gu, se, on, si, st, la, pu, pb, sc, he, ou, yb, yl, yf, ya, ys, ye, zf, za, zs, ze, wy, pt, su, bb, bu)) → wpY_reached post (h, sp, nI C, yn, co, ba, ra, gu, se, on, si, st, la, pu, pb, sc, he, ou, yb, yl, yf, ya, ys, ye, zf, za, zs, ze, wy, pt, su, bb, bu) (nI n) v mo)
    (h0 : ∀ bb bu, Inv 1000 0 0 bb bu)
    (H : ∀ (N : Nat) (mo yn : Int32) (wy pt su bb bu : Nat → Int32), Inv N mo yn bb bu → (∀ w n, ro_lead (cw_nt 16 si) C (cw_rd st on si) p q w n → N ≤ ro_num w n → False) → post mo (h, sp, nI C, yn, co, ba, ra, gu, se, on, si, st, la, pu, pb, sc, he, ou, yb, yl, yf, ya, ys, ye, zf, za, zs, ze, wy, pt, su, bb, bu)) : wpY_seek post (h, sp, nI C, yn, co, ba, ra, gu, se, on, si, st, la, pu, pb, sc, he, ou, yb, yl, yf, ya, ys, ye, zf, za, zs, ze, wy, pt, su, bb, bu) (nI p) (nI q) v := by
  have sd6 : ∀ i, cw_nt 16 si i < 6 := cw_nt_lt (by omega) (by omega) hsi
  have L : ∀ f d e (w : Nat → Nat) (mo yn : Int32) (wy pt su bb bu : Nat → Int32), d ≤ 3 → (∀ i, i < d → w i < C) → e ≤ C → ro_walk (cw_nt 16 si) C (cw_rd st on si) w p d → (∀ i, i < d → wy i = nI (w i)) → wy d = nI e - 1 → (∀ i, i ≤ d → pt i = nI (ro_pt (cw_nt 16 si) w p i)) → Inv (ro_N w d e) mo yn bb bu → 10001 - ro_N w d e < f →
      wY_seek_25 post (nI q) v f mo (nI d) h sp (nI C) yn co ba ra gu se on si st la pu pb sc he ou yb yl yf ya ys ye zf za zs ze wy pt su bb bu := by
    intro f
    induction f with
    | zero => intro d e w mo yn wy pt su bb bu _ _ _ _ _ _ _ _ hf; omega
    | succ f ih =>
      intro d e w mo yn wy pt su bb bu hd hw hee hwk hwy hwd hpt hI hf
      have hNm := ro_N_max (w := w) hd (fun i hi => by have := hw i hi; omega) (show e ≤ 8 by omega)
      have q0 : ¬ nI d < 0 := nI_pos (by omega)
      rw [wY_seek_25]
      simp (disch := omega) only [q0, cw_m2, cw_m3, cw_m4, cw_m13, cw_2m, cw_3m, cw_12m, cw_24m, cw_36m, cw_a12, cw_a3, nI_add, nI_1, pk_sub, nI_clamp, vp_in_nI, hwd, cw_s1a, pk_us, forall_eq, nI_leI, nI_ltI, nI_eq, true_implies, forall_const, not_true_eq_false, not_false_eq_true, false_implies, and_true, true_and, implies_true, and_self, reduceIte]
      by_cases heC : e < C
      · -- the channel e is tried
        refine br_t heC ?_
        have w'e : ro_set w d e d = e := ro_set_s w d e
        have w'n : ∀ i, i < d → ro_set w d e i = w i := fun i hi => ro_set_n w (by omega)
        have w'7 : ∀ i, i < d + 1 → ro_set w d e i ≤ 7 := by
          intro i hi
          rcases Nat.lt_or_ge i d with h' | h'
          · rw [w'n i h']; have := hw i h'; omega
          · have : i = d := by omega
            subst this
            rw [w'e]; omega
        have w'C : ∀ i, i < d + 1 → ro_set w d e i < C := by
          intro i hi
          rcases Nat.lt_or_ge i d with h' | h'
          · rw [w'n i h']; exact hw i h'
          · have : i = d := by omega
            subst this
            rw [w'e]; omega
        have ptc : ∀ i, i ≤ d → ro_pt (cw_nt 16 si) w p i = ro_pt (cw_nt 16 si) (ro_set w d e) p i := ro_pt_c (cw_nt 16 si) (fun i hi => (w'n i hi).symm)
        have hpt' : ∀ i, i ≤ d → pt i = nI (ro_pt (cw_nt 16 si) (ro_set w d e) p i) := fun i hi => by rw [← ptc i hi]; exact hpt i hi
        have hwk' : ∀ i, i < d → ro_hop (cw_nt 16 si) C (cw_rd st on si) (ro_set w d e) p i := fun i hi => ro_hop_c (cw_nt 16 si) C (cw_rd st on si) (fun j hj => (w'n j (by omega)).symm) (hwk i hi)
        have eN : ro_N w d e = ro_N (ro_set w d e) d (ro_set w d e d) := by rw [w'e]; exact ro_N_c hd (fun i hi => (w'n i hi).symm)
        have eN1 : ro_N w d (e + 1) = ro_N (ro_set w d e) d (ro_set w d e d + 1) := by rw [w'e]; exact ro_N_c hd (fun i hi => (w'n i hi).symm)
        have hlt : ro_N w d e < ro_N w d (e + 1) := ro_N_lt hd (by omega)
        have hwy1 : ∀ i, i < d → upd wy d (nI e) i = nI (w i) := fun i hi => by rw [pk_un (by omega)]; exact hwy i hi
        have next : ∀ (mo yn : Int32) (pt su bb bu : Nat → Int32), (∀ i, i ≤ d → pt i = nI (ro_pt (cw_nt 16 si) w p i)) → Inv (ro_N w d (e + 1)) mo yn bb bu → wY_seek_25 post (nI q) v f mo (nI d) h sp (nI C) yn co ba ra gu se on si st la pu pb sc he ou yb yl yf ya ys ye zf za zs ze (upd wy d (nI e)) pt su bb bu :=
          fun mo yn pt su bb bu hpt hI => ih d (e + 1) w mo yn (upd wy d (nI e)) pt su bb bu hd hw (by omega) hwk hwy1 (by rw [pk_us]; exact cw_s1p e) hpt hI (by omega)
        have B := fun (P : Int32 → Prop) (H1 : ro_hop (cw_nt 16 si) C (cw_rd st on si) (ro_set w d e) p d → P (nI (ro_pt (cw_nt 16 si) (ro_set w d e) p (d + 1)))) (H0 : ¬ ro_hop (cw_nt 16 si) C (cw_rd st on si) (ro_set w d e) p d → P (-1)) =>
          ys_behind (h := h) (sp := sp) (yn := yn) (co := co) (on := on) (ba := ba) (ra := ra) (gu := gu) (se := se) (si := si) (st := st) (la := la) (pu := pu) (sc := sc) (he := he) (pb := pb) (ou := ou) (yb := yb) (yl := yl) (yf := yf) (ya := ya) (ys := ys) (ye := ye) (zf := zf) (za := za) (zs := zs) (ze := ze) (wy := upd wy d (nI e)) (pt := pt) (su := su) (bb := bb) (bu := bu) (post := P) hC hsi hd hp (by rw [w'e]; exact heC) hpt' H1 H0
        rw [w'e] at B
        refine B _ (fun hhop => ?_) (fun hno => ?_)
        · have p6 := ro_pt_lt (cw_nt 16 si) (w := ro_set w d e) sd6 hp (d + 1)
          refine br_t (nI_pos' (by omega)) ?_
          have hwkd : ro_walk (cw_nt 16 si) C (cw_rd st on si) (ro_set w d e) p (d + 1) := by
            intro i hi
            rcases Nat.lt_or_ge i d with h' | h'
            · exact hwk' i h'
            · have : i = d := by omega
              subst this
              exact hhop
          have hpt2 : ∀ i, i ≤ d + 1 → upd pt (d + 1) (nI (ro_pt (cw_nt 16 si) (ro_set w d e) p (d + 1))) i = nI (ro_pt (cw_nt 16 si) (ro_set w d e) p i) := by
            intro i hi
            by_cases e' : i = d + 1
            · subst e'
              exact pk_us
            · rw [pk_un e']
              exact hpt' i (by omega)
          have hpt3 : ∀ i, i ≤ d → upd pt (d + 1) (nI (ro_pt (cw_nt 16 si) (ro_set w d e) p (d + 1))) i = nI (ro_pt (cw_nt 16 si) w p i) := fun i hi => by
            rw [pk_un (by omega)]
            exact hpt i hi
          have hwy2 : ∀ i, i < d + 1 → upd wy d (nI e) i = nI (ro_set w d e i) := by
            intro i hi
            by_cases e' : i = d
            · subst e'
              rw [pk_us, w'e]
            · rw [pk_un e', w'n i (by omega)]
              exact hwy i (by omega)
          by_cases hto : ro_pt (cw_nt 16 si) (ro_set w d e) p (d + 1) = q
          · have heq : nI (ro_pt (cw_nt 16 si) (ro_set w d e) p (d + 1)) = nI q := by rw [hto]
            have hlead : ro_lead (cw_nt 16 si) C (cw_rd st on si) p q (ro_set w d e) (d + 1) := ⟨by omega, by omega, hwkd, hto⟩
            simp (disch := omega) only [cw_m2, cw_m3, cw_m4, cw_m13, cw_2m, cw_3m, cw_12m, cw_24m, cw_36m, cw_a12, cw_a3, nI_add, nI_1, pk_sub, nI_clamp, vp_in_nI, forall_eq, nI_leI, nI_ltI, nI_eq, true_implies, forall_const, not_true_eq_false, not_false_eq_true, false_implies, and_true, true_and, implies_true, and_self, reduceIte]
            refine br_t hto ?_
            refine hreach (ro_set w d e) (d + 1) (ro_N w d e) (ro_N w d (e + 1)) mo yn _ _ su bb bu hlead (by rw [ro_num_N hd, ← eN]; exact Nat.le_refl _) (by rw [ro_num_N hd, ← eN]; exact hlt) (fun w2 n2 hl2 h1 h2 => ?_) hwy2 hpt2 hI _ (fun mo yn su bb bu hI' => next mo yn _ su bb bu hpt3 hI')
            rw [eN] at h1
            rw [eN1] at h2
            exact ro_dfs_found (cw_nt 16 si) C (cw_rd st on si) hC hd w'7 hto hl2 h1 h2
          · simp (disch := omega) only [cw_m2, cw_m3, cw_m4, cw_m13, cw_2m, cw_3m, cw_12m, cw_24m, cw_36m, cw_a12, cw_a3, nI_add, nI_1, pk_sub, nI_clamp, vp_in_nI, cw_le3, forall_eq, nI_leI, nI_ltI, nI_eq, true_implies, forall_const, not_true_eq_false, not_false_eq_true, false_implies, and_true, true_and, implies_true, and_self, reduceIte]
            refine br_f hto ?_
            by_cases hd3 : 3 ≤ d
            · have d3 : d = 3 := by omega
              refine br_t hd3 (next mo yn _ su bb bu hpt3 (hmono _ _ mo yn bb bu (Nat.le_of_lt hlt) (fun w2 n2 hl2 h1 h2 => ?_) hI))
              rw [eN] at h1
              rw [eN1] at h2
              subst d3
              exact ro_dfs_leaf (cw_nt 16 si) C (cw_rd st on si) hC w'7 hto hl2 h1 h2
            · refine br_f hd3 ?_
              have hlt' : ro_N w d e < ro_N (ro_set w d e) (d + 1) 0 := by rw [eN]; exact ro_N_desc (by omega)
              refine ih (d + 1) 0 (ro_set w d e) mo yn _ _ su bb bu (by omega) w'C (by omega) hwkd (fun i hi => ?_) (by rw [pk_us]; rfl) hpt2 (hmono _ _ mo yn bb bu (Nat.le_of_lt hlt') (fun w2 n2 hl2 h1 h2 => ?_) hI) (by omega)
              · rw [pk_un (by omega)]
                exact hwy2 i hi
              · rw [eN] at h1
                exact ro_dfs_desc (cw_nt 16 si) C (cw_rd st on si) hC (by omega) w'7 hto hl2 h1 h2
        · refine br_f cw_neg1 (next mo yn pt su bb bu hpt (hmono _ _ mo yn bb bu (Nat.le_of_lt hlt) (fun w2 n2 hl2 h1 h2 => ?_) hI))
          rw [eN] at h1
          rw [eN1] at h2
          exact ro_dfs_skip (cw_nt 16 si) C (cw_rd st on si) hC hd w'7 hno hl2 h1 h2
      · -- no channel left at this depth
        refine br_f heC ?_
        have heC' : C ≤ e := by omega
        cases d with
        | zero =>
          cases f with
          | zero => omega
          | succ f =>
            have em : nI 0 + (-1) < 0 := by decide
            rw [wY_seek_25]
            refine br_t em (H (ro_N w 0 e) mo yn _ pt su bb bu hI (fun w2 n2 hl2 h1 => ?_))
            exact ro_dfs_end (cw_nt 16 si) C (cw_rd st on si) hC (by omega) heC' hl2 h1
        | succ d =>
          have hlt' : ro_N w (d + 1) e < ro_N w d (w d + 1) := ro_N_back hd (by omega)
          rw [pk_m1]
          refine ih d (w d + 1) w mo yn _ pt su bb bu (by omega) (fun i hi => hw i (by omega)) (by have := hw d (by omega); omega) (fun i hi => hwk i (by omega)) (fun i hi => ?_) ?_ (fun i hi => hpt i (by omega)) (hmono _ _ mo yn bb bu (Nat.le_of_lt hlt') (fun w2 n2 hl2 h1 h2 => ?_) hI) (by omega)
          · rw [pk_un (by omega)]
            exact hwy i (by omega)
          · rw [pk_un (by omega), hwy d (by omega)]
            exact cw_s1p (w d)
          · exact ro_dfs_back (cw_nt 16 si) C (cw_rd st on si) hC hd (fun i hi => by have := hw i hi; omega) (by omega) heC' hl2 h1 h2
  unfold wpY_seek
  dsimp only
  refine nm_e (nm_e ⟨10002, ?_⟩)
  refine L 10002 0 0 (fun _ => 0) 0 0 _ _ su bb bu (by omega) (fun i hi => by omega) (by omega) (fun i hi => by omega) (fun i hi => by omega) (by rw [pk_us]; rfl) (fun i hi => ?_) (by rw [ro_N00]; exact h0 bb bu) (by rw [ro_N00]; omega)
  have : i = 0 := by omega
  subst this
  rw [pk_us]
  rfl
end SEEK
end
section
/-! part 25: what the reference's search finds; what is asked -/
section FND
variable {h sp ch bl yn : Int32} {co on ba ra gu se si st la pu ps sc he xb xc xi xf xa xe tc ts ta bc bs bm pb ou yb yl yf ya ys ye zf za zs ze wy pt su bb bu : Nat → Int32}
def yr_B (sd ba ra : Nat → Nat) (p v : Nat) (b : Nat → Nat) (m : Nat) (yn : Int32) (bb bu : Nat → Int32) : Prop :=
  yn = nI m ∧ m ≤ 4 ∧ ∀ i, i < m → bb i = nI (b i) ∧ bu i = nI (ro_am sd ba ra b p m v (m - 1 - i))
theorem ys_copyBest {post : Int32 → SY → Prop} {n : Nat} (hn : n ≤ 4) (H : ∀ bb' bu' : Nat → Int32, (∀ i, i < n → bb' i = wy i ∧ bu' i = su i) → post 0 (h, sp, ch, nI n, co, ba, ra, gu, se, on, si, st, la, pu, pb, sc, he, ou, yb, yl, yf, ya, ys, ye, zf, za, zs, ze, wy, pt, su, bb', bu')) : ∃ f, wY_reached_112 post (nI n) h sp ch (nI n) f 0 co ba ra gu se on si st la pu pb sc he ou yb yl yf ya ys ye zf za zs ze wy pt su bb bu := by
  have K : ∀ d j (bb bu : Nat → Int32), j + d = n → (∀ i, i < j → bb i = wy i ∧ bu i = su i) → wY_reached_112 post (nI n) h sp ch (nI n) (d + 1) (nI j) co ba ra gu se on si st la pu pb sc he ou yb yl yf ya ys ye zf za zs ze wy pt su bb bu := by
    intro d
    induction d with
    | zero =>
      intro j bb bu hj ht
      have e : j = n := by omega
      subst e
      rw [wY_reached_112]
      simp (disch := omega) only [Nat.le_refl, forall_eq, nI_leI, nI_ltI, nI_eq, true_implies, forall_const, not_true_eq_false, not_false_eq_true, false_implies, and_true, true_and, implies_true, and_self, reduceIte]
      exact H bb bu ht
    | succ d ih =>
      intro j bb bu hj ht
      have q : ¬ n ≤ j := by omega
      rw [wY_reached_112]
      simp (disch := omega) only [q, cw_m2, cw_m3, cw_m4, cw_m13, cw_2m, cw_3m, cw_12m, cw_24m, cw_36m, cw_a12, cw_a3, nI_add, nI_1, pk_sub, nI_clamp, vp_in_nI, forall_eq, nI_leI, nI_ltI, nI_eq, true_implies, forall_const, not_true_eq_false, not_false_eq_true, false_implies, and_true, true_and, implies_true, and_self, reduceIte]
      refine ih (j + 1) _ _ (by omega) (fun i hi => ?_)
      by_cases e : i = j
      · subst e
        exact ⟨pk_us, pk_us⟩
      · rw [pk_un e, pk_un e]
        exact ht i (by omega)
  exact ⟨_, K n 0 bb bu (by omega) (fun i hi => by omega)⟩
theorem ys_findV {post : Int32 → SY → Prop} {C p q v : Nat} {ca : Nat → Nat → Nat → Prop} (hC : C ≤ 8) (hsi : ∀ i, i < 16 → ∃ a, a < 6 ∧ si i = nI a) (hne : ∀ c, c < C → ¬ si (2 * c) = si (2 * c + 1)) (hD : cw_D on ba ra) (hla : ∀ c, c < 8 → ∃ l, l < 12 ∧ la c = nI l)
    (hca : ∀ c s a l, c < 8 → s < 2 → l < 12 → la c = nI l → (ca c s a ↔ (¬ yb (2 * (12 * c + l) + s) < nI a ∧ ¬ 2 < yl (12 * c + l) ∧ la c ≤ 10)))
    (hp : p < 6) (hq : q < 6) (h1 : 1 ≤ v) (hv : v ≤ 255)
    (H : ∀ (mo yn : Int32) (wy pt su bb bu : Nat → Int32) (b : Nat → Nat) (m : Nat), ro_min (cw_nt 16 si) (cw_nt 6 ba) (cw_nt 6 ra) C (cw_rd st on si) ca p q v ro_num (fun _ _ => True) b m → yr_B (cw_nt 16 si) (cw_nt 6 ba) (cw_nt 6 ra) p v b m yn bb bu → post mo (h, sp, nI C, yn, co, ba, ra, gu, se, on, si, st, la, pu, pb, sc, he, ou, yb, yl, yf, ya, ys, ye, zf, za, zs, ze, wy, pt, su, bb, bu)) :
    wpY_seek post (h, sp, nI C, yn, co, ba, ra, gu, se, on, si, st, la, pu, pb, sc, he, ou, yb, yl, yf, ya, ys, ye, zf, za, zs, ze, wy, pt, su, bb, bu) (nI p) (nI q) (nI v) := by
  obtain ⟨b9, r20⟩ := cw_D9 hD
  have nv : ¬ nI v = 0 := nI_ne0 (by omega) (by omega)
  refine ys_seek (Inv := fun N mo yn bb bu => ∃ b m, ro_JY (cw_nt 16 si) (cw_nt 6 ba) (cw_nt 6 ra) C (cw_rd st on si) ca p q v N b m ∧ yr_B (cw_nt 16 si) (cw_nt 6 ba) (cw_nt 6 ra) p v b m yn bb bu) hC hsi hp hq ?_ ?_ ?_ ?_
  · intro N N' mo yn bb bu hN hno hI
    obtain ⟨b, m, hJ, hb⟩ := hI
    exact ⟨b, m, ro_JY_mono (cw_nt 16 si) (cw_nt 6 ba) (cw_nt 6 ra) C (cw_rd st on si) ca hJ hN hno, hb⟩
  · intro w n N N' mo yn wy pt su bb bu hl hN hN' huq hwy hpt hI post' hpost
    obtain ⟨b, m, hJ, hb⟩ := hI
    unfold wpY_reached
    dsimp only
    refine br_f nv (ys_brings (w := w) hC hsi hne hD hla hca hl.1 hl.2.1 hp hv hwy hpt hl.2.2.1 (fun hcar su' hsu => ?_) (fun hno su' => ?_))
    · dsimp only
      refine br_f cw_n1 ?_
      have g : ro_good (cw_nt 16 si) (cw_nt 6 ba) (cw_nt 6 ra) C (cw_rd st on si) ca p q v w n := ⟨hl.1, hl.2.1, hl.2.2.1, hl.2.2.2, hcar⟩
      have n4 := hl.2.1
      have n1 := hl.1
      have cA : ro_cost (cw_nt 16 si) (cw_nt 6 ba) (cw_nt 6 ra) p v w n ≤ 576 := ro_am_le4 (cw_nt 16 si) (cw_nt 6 ba) (cw_nt 6 ra) hv b9 r20 (by omega)
      obtain ⟨eyn, hm4, hbb⟩ := hb
      have cB : ro_cost (cw_nt 16 si) (cw_nt 6 ba) (cw_nt 6 ra) p v b m ≤ 576 := ro_am_le4 (cw_nt 16 si) (cw_nt 6 ba) (cw_nt 6 ra) hv b9 r20 (by omega)
      have t0 : su' 0 = nI (ro_cost (cw_nt 16 si) (cw_nt 6 ba) (cw_nt 6 ra) p v w n) := hsu 0 (by omega)
      have copy : (0 < m → ro_cost (cw_nt 16 si) (cw_nt 6 ba) (cw_nt 6 ra) p v w n < ro_cost (cw_nt 16 si) (cw_nt 6 ba) (cw_nt 6 ra) p v b m ∨ (ro_cost (cw_nt 16 si) (cw_nt 6 ba) (cw_nt 6 ra) p v w n = ro_cost (cw_nt 16 si) (cw_nt 6 ba) (cw_nt 6 ra) p v b m ∧ n < m)) → ∃ f, wY_reached_112 post' (nI n) h sp (nI C) (nI n) f 0 co ba ra gu se on si st la pu pb sc he ou yb yl yf ya ys ye zf za zs ze wy pt (su') bb bu := by
        intro hk
        refine ys_copyBest n4 (fun bb' bu' hcp => hpost 0 (nI n) su' bb' bu' ⟨w, n, ro_JY_put (cw_nt 16 si) (cw_nt 6 ba) (cw_nt 6 ra) C (cw_rd st on si) ca hJ huq hN' g hk, rfl, n4, fun i hi => ?_⟩)
        obtain ⟨x1, x2⟩ := hcp i hi
        exact ⟨x1.trans (hwy i hi), x2.trans (hsu i hi)⟩
      have keep : 0 < m → (ro_cost (cw_nt 16 si) (cw_nt 6 ba) (cw_nt 6 ra) p v b m < ro_cost (cw_nt 16 si) (cw_nt 6 ba) (cw_nt 6 ra) p v w n ∨ (ro_cost (cw_nt 16 si) (cw_nt 6 ba) (cw_nt 6 ra) p v b m = ro_cost (cw_nt 16 si) (cw_nt 6 ba) (cw_nt 6 ra) p v w n ∧ m ≤ n)) → post' 0 (h, sp, nI C, yn, co, ba, ra, gu, se, on, si, st, la, pu, pb, sc, he, ou, yb, yl, yf, ya, ys, ye, zf, za, zs, ze, wy, pt, su', bb, bu) := by
        intro hm hk
        exact hpost 0 yn su' bb bu ⟨b, m, ro_JY_keep (cw_nt 16 si) (cw_nt 6 ba) (cw_nt 6 ra) C (cw_rd st on si) ca hJ (by omega) huq hN hm hk, eyn, hm4, hbb⟩
      rw [eyn] at keep ⊢
      rcases Nat.eq_zero_or_pos m with hm | hm
      · subst hm
        exact br_t (by decide) (copy (fun z => by omega))
      · have e0 : bu 0 = nI (ro_cost (cw_nt 16 si) (cw_nt 6 ba) (cw_nt 6 ra) p v b m) := (hbb 0 hm).2
        have hm0 : ¬ nI m ≤ 0 := nI_nle hm (by omega)
        rw [t0, e0]
        refine br_f hm0 ?_
        simp (disch := omega) only [nI_ltI, nI_eq]
        exact br_c (fun z => keep hm (Or.inl z)) (fun z => br_c (fun y => br_c (fun x => copy (fun _ => Or.inr ⟨y, x⟩)) (fun x => keep hm (Or.inr ⟨y.symm, by omega⟩))) (fun y => copy (fun _ => Or.inl (by omega))))
    · dsimp only
      exact br_t rfl (hpost 0 yn su' bb bu ⟨b, m, ro_JY_bad (cw_nt 16 si) (cw_nt 6 ba) (cw_nt 6 ra) C (cw_rd st on si) ca hJ (by omega) huq (fun g => hno g.2.2.2.2), hb⟩)
  · intro bb bu
    have := ro_JY_0 (cw_nt 16 si) (cw_nt 6 ba) (cw_nt 6 ra) C (cw_rd st on si) ca (p := p) (q := q) (v := v) (fun _ => 0) (fun _ => 0)
    rw [ro_N00] at this
    exact ⟨fun _ => 0, 0, this, rfl, by omega, fun i hi => by omega⟩
  · intro N mo yn wy pt su bb bu hI hno
    obtain ⟨b, m, hJ, hb⟩ := hI
    exact H mo yn wy pt su bb bu b m (ro_JY_end (cw_nt 16 si) (cw_nt 6 ba) (cw_nt 6 ra) C (cw_rd st on si) ca hJ hno) hb
theorem ys_findM {post : Int32 → SY → Prop} {C p q : Nat} {ca : Nat → Nat → Nat → Prop} (hC : C ≤ 8) (hsi : ∀ i, i < 16 → ∃ a, a < 6 ∧ si i = nI a) (hne : ∀ c, c < C → ¬ si (2 * c) = si (2 * c + 1)) (hD : cw_D on ba ra) (hla : ∀ c, c < 8 → ∃ l, l < 12 ∧ la c = nI l)
    (hca : ∀ c s a l, c < 8 → s < 2 → l < 12 → la c = nI l → (ca c s a ↔ (¬ yb (2 * (12 * c + l) + s) < nI a ∧ ¬ 2 < yl (12 * c + l) ∧ la c ≤ 10)))
    (hp : p < 6) (hq : q < 6)
    (H : ∀ (M : Nat) (yn : Int32) (wy pt su bb bu : Nat → Int32), (M = 0 ∨ ∃ w n, ro_good (cw_nt 16 si) (cw_nt 6 ba) (cw_nt 6 ra) C (cw_rd st on si) ca p q M w n) → M ≤ 255 → (∀ v, 1 ≤ v → v ≤ 255 → (∃ w n, ro_good (cw_nt 16 si) (cw_nt 6 ba) (cw_nt 6 ra) C (cw_rd st on si) ca p q v w n) → v ≤ M) → post (nI M) (h, sp, nI C, yn, co, ba, ra, gu, se, on, si, st, la, pu, pb, sc, he, ou, yb, yl, yf, ya, ys, ye, zf, za, zs, ze, wy, pt, su, bb, bu)) :
    wpY_seek post (h, sp, nI C, yn, co, ba, ra, gu, se, on, si, st, la, pu, pb, sc, he, ou, yb, yl, yf, ya, ys, ye, zf, za, zs, ze, wy, pt, su, bb, bu) (nI p) (nI q) 0 := by
  refine ys_seek (Inv := fun N mo yn bb bu => ∃ M, mo = nI M ∧ ro_JM (cw_nt 16 si) (cw_nt 6 ba) (cw_nt 6 ra) C (cw_rd st on si) ca p q N M) hC hsi hp hq ?_ ?_ ?_ ?_
  · intro N N' mo yn bb bu hN hno hI
    obtain ⟨M, e, hJ⟩ := hI
    exact ⟨M, e, ro_JM_mono (cw_nt 16 si) (cw_nt 6 ba) (cw_nt 6 ra) C (cw_rd st on si) ca hJ hno⟩
  · intro w n N N' mo yn wy pt su bb bu hl hN hN' huq hwy hpt hI post' hpost
    obtain ⟨M, e, hJ⟩ := hI
    subst e
    have hM := hJ.2.1
    have K : ∀ k, M + k ≤ 255 → (∀ v, M + k < v → v ≤ 255 → ¬ ro_good (cw_nt 16 si) (cw_nt 6 ba) (cw_nt 6 ra) C (cw_rd st on si) ca p q v w n) → ∀ su : Nat → Int32, wY_reached_9 post' (nI n) (nI M) (k + 1) (nI (M + k)) h sp (nI C) yn co ba ra gu se on si st la pu pb sc he ou yb yl yf ya ys ye zf za zs ze wy pt su bb bu := by
      intro k
      induction k with
      | zero =>
        intro _ hno su
        rw [wY_reached_9]
        simp (disch := omega) only [wY_reached_31, Nat.add_zero, Nat.le_refl, forall_eq, nI_leI, nI_ltI, nI_eq, true_implies, forall_const, not_true_eq_false, not_false_eq_true, false_implies, and_true, true_and, implies_true, and_self, reduceIte]
        exact hpost (nI M) yn su bb bu ⟨M, rfl, ro_JM_put (cw_nt 16 si) (cw_nt 6 ba) (cw_nt 6 ra) C (cw_rd st on si) ca hJ huq (Nat.le_refl _) hM (Or.inl rfl) (fun v h1 h2 => hno v (by omega) h2)⟩
      | succ k ih =>
        intro hk hno su
        have q1 : ¬ nI (M + (k + 1)) ≤ nI M := nI_ge (by omega) (by omega)
        rw [wY_reached_9]
        refine br_f q1 (ys_brings (w := w) hC hsi hne hD hla hca hl.1 hl.2.1 hp (by omega) hwy hpt hl.2.2.1 (fun hcar su' hsu => ?_) (fun hnc su' => ?_))
        · dsimp only
          refine br_f cw_n1 ?_
          unfold wY_reached_31
          refine br_f q1 (hpost _ yn su' bb bu ⟨M + (k + 1), rfl, ro_JM_put (cw_nt 16 si) (cw_nt 6 ba) (cw_nt 6 ra) C (cw_rd st on si) ca hJ huq (by omega) hk (Or.inr ⟨hl.1, hl.2.1, hl.2.2.1, hl.2.2.2, hcar⟩) hno⟩)
        · dsimp only
          refine br_t rfl (nm_r (pk_m1 (M + k)) (ih (by omega) (fun v h1 h2 g => ?_) su'))
          rcases Nat.lt_or_ge (M + (k + 1)) v with h' | h'
          · exact hno v h' h2 g
          · have : v = M + (k + 1) := by omega
            subst this
            exact hnc g.2.2.2.2
    unfold wpY_reached
    dsimp only
    refine br_t rfl ⟨255 - M + 1, ?_⟩
    have := K (255 - M) (by omega) (fun v h1 h2 => by omega) su
    rw [show M + (255 - M) = 255 by omega] at this
    exact this
  · intro bb bu
    have := ro_JM_0 (cw_nt 16 si) (cw_nt 6 ba) (cw_nt 6 ra) C (cw_rd st on si) ca (p := p) (q := q) (fun _ => 0)
    rw [ro_N00] at this
    exact ⟨0, rfl, this⟩
  · intro N mo yn wy pt su bb bu hI hno
    obtain ⟨M, e, hJ⟩ := hI
    subst e
    refine H M yn wy pt su bb bu hJ.1 hJ.2.1 (fun v h1 h2 hg => ?_)
    obtain ⟨w, n, g⟩ := hg
    rcases Nat.lt_or_ge (ro_num w n) N with h' | h'
    · exact hJ.2.2 v w n h1 h2 g h'
    · exact (hno w n (ro_good_lead (cw_nt 16 si) (cw_nt 6 ba) (cw_nt 6 ra) C (cw_rd st on si) ca g) h').elim
theorem cw_ca_y (hE : cw_E st la ps pb si) (hF : cw_F xb yb) (hG : cw_G sp xf xa xe xc xi yl yf ya ys ye) : ∀ c s a l, c < 8 → s < 2 → l < 12 → la c = nI l → (cw_ca la xc xb c s a ↔ (¬ yb (2 * (12 * c + l) + s) < nI a ∧ ¬ 2 < yl (12 * c + l) ∧ la c ≤ 10)) := by
  intro c s a l hc hs hl el
  obtain ⟨n, hn, e1, e2, _⟩ := hG c l hc hl
  have f := hF c l s hc hl hs
  unfold cw_ca
  rw [el, nI_clamp (by omega), e1, e2, f, cw_le11 (by omega), cw_el10 (by omega), cw_tl3 (by omega), cw_lt2 (by omega)]
  constructor
  · rintro ⟨h1, h2, h3⟩
    exact ⟨Int32.not_lt.mpr h3, by omega, by omega⟩
  · rintro ⟨h1, h2, h3⟩
    exact ⟨by omega, by omega, Int32.not_lt.mp h1⟩
end FND
end
section
/-! part 26: route, most -/
section RM
variable {h sp ch bl yn : Int32} {co on ba ra gu se si st la pu ps sc he xb xc xi xf xa xe tc ts ta bc bs bm pb ou yb yl yf ya ys ye zf za zs ze wy pt su bb bu : Nat → Int32}
def cw_ask (v1 v2 v3 : Int32) : Prop := ∃ p q v, p < 6 ∧ q < 6 ∧ p ≠ q ∧ 1 ≤ v ∧ v ≤ 255 ∧ v1 = nI p ∧ v2 = nI q ∧ v3 = nI v
theorem cw_ask0 {v1 v2 v3 : Int32} (a0 : ¬ v1 < 0) (a6 : ¬ 6 ≤ v1) (b0 : ¬ v2 < 0) (b6 : ¬ 6 ≤ v2) (ab : ¬ v1 = v2) (c0 : ¬ v3 < 1) (c1 : ¬ 255 < v3) : cw_ask v1 v2 v3 := by
  obtain ⟨p, hp, rfl⟩ := cw_pty a0 (Int32.not_le.mp a6)
  obtain ⟨q, hq, rfl⟩ := cw_pty b0 (Int32.not_le.mp b6)
  have d0 : ¬ v3 < 0 := fun z => c0 (Int32.lt_of_lt_of_le z (by decide))
  obtain ⟨v, hv, rfl⟩ := nI_of d0
  rw [cw_tl1 hv] at c0
  rw [cw_lt255 hv] at c1
  exact ⟨p, q, v, hp, hq, fun z => ab (by rw [z]), by omega, by omega, rfl, rfl, rfl⟩
theorem cw_ask1 {v1 v2 v3 : Int32} (h : cw_ask v1 v2 v3) : ¬ v1 < 0 ∧ ¬ 6 ≤ v1 ∧ ¬ v2 < 0 ∧ ¬ 6 ≤ v2 ∧ ¬ v1 = v2 ∧ ¬ v3 < 1 ∧ ¬ 255 < v3 ∧ ¬ v3 ≤ 0 ∧ ¬ 256 ≤ v3 := by
  obtain ⟨p, q, v, hp, hq, hpq, h1, h2, rfl, rfl, rfl⟩ := h
  rw [cw_le6 (by omega), cw_le6 (by omega), nI_eq (by omega) (by omega), cw_tl1 (by omega), cw_lt255 (by omega), cw_el0 (by omega), cw_le256 (by omega)]
  exact ⟨nI_pos (by omega), by omega, nI_pos (by omega), by omega, hpq, by omega, by omega, by omega, by omega⟩
theorem xs_isPay {post : Int32 → Prop} {v1 v2 v3 : Int32} (h1 : cw_ask v1 v2 v3 → post 1) (h0 : ¬ cw_ask v1 v2 v3 → post 0) : wpX_isPayment post (h, sp, ch, bl, co, on, ba, ra, gu, se, si, st, la, pu, ps, sc, he, xb, xc, xi, xf, xa, xe, tc, ts, ta, bc, bs, bm) v1 v2 v3 := by
  by_cases q : cw_ask v1 v2 v3
  · obtain ⟨a0, a6, b0, b6, ab, c0, c1, _, _⟩ := cw_ask1 q
    simp only [wpX_isPayment, wpX_isParty, a0, a6, b0, b6, ab, c0, c1, cw_n1, forall_eq, nI_leI, nI_ltI, nI_eq, true_implies, forall_const, not_true_eq_false, not_false_eq_true, false_implies, and_true, true_and, implies_true, and_self, reduceIte]
    exact h1 q
  · have z := h0 q
    simp only [wpX_isPayment, wpX_isParty]
    refine br_c (fun _ => br_t trivial z) (fun a0 => br_c (fun _ => br_t trivial z) (fun a6 => br_f cw_n1 (br_c (fun _ => br_t trivial z) (fun b0 => br_c (fun _ => br_t trivial z) (fun b6 => br_f cw_n1 (br_c (fun _ => z) (fun ab => br_c (fun _ => z) (fun c0 => br_c (fun _ => z) (fun c1 => absurd (cw_ask0 a0 a6 b0 b6 ab c0 c1) q)))))))))
theorem ys_isAsk {post : Int32 → Prop} {v1 v2 v3 : Int32} (h1 : cw_ask v1 v2 v3 → post 1) (h0 : ¬ cw_ask v1 v2 v3 → post 0) : wpY_isAsked post (h, sp, ch, yn, co, ba, ra, gu, se, on, si, st, la, pu, pb, sc, he, ou, yb, yl, yf, ya, ys, ye, zf, za, zs, ze, wy, pt, su, bb, bu) v1 v2 v3 := by
  by_cases q : cw_ask v1 v2 v3
  · obtain ⟨a0, a6, b0, b6, ab, _, _, c0, c1⟩ := cw_ask1 q
    simp only [wpY_isAsked, wpY_isParty, a0, a6, b0, b6, ab, c0, c1, cw_n1, forall_eq, nI_leI, nI_ltI, nI_eq, true_implies, forall_const, not_true_eq_false, not_false_eq_true, false_implies, and_true, true_and, implies_true, and_self, reduceIte]
    exact h1 q
  · have z := h0 q
    simp only [wpY_isAsked, wpY_isParty]
    refine br_c (fun _ => br_t trivial z) (fun a0 => br_c (fun _ => br_t trivial z) (fun a6 => br_f cw_n1 (br_c (fun _ => br_t trivial z) (fun b0 => br_c (fun _ => br_t trivial z) (fun b6 => br_f cw_n1 (br_c (fun _ => z) (fun ab => br_c (fun _ => z) (fun c0 => br_c (fun _ => z) (fun c1 => absurd (cw_ask0 a0 a6 b0 b6 ab ?_ ?_) q)))))))))
    · intro y
      refine c0 ?_
      rw [Int32.le_iff_toInt_le]
      rw [Int32.lt_iff_toInt_lt] at y
      have e1 : (1 : Int32).toInt = 1 := by decide
      have e0 : (0 : Int32).toInt = 0 := by decide
      omega
    · intro y
      refine c1 ?_
      rw [Int32.le_iff_toInt_le]
      rw [Int32.lt_iff_toInt_lt] at y
      have e1 : (255 : Int32).toInt = 255 := by decide
      have e0 : (256 : Int32).toInt = 256 := by decide
      omega
/-- both searches, one route -/
theorem cw_same {C p q v m m' : Nat} {b b' : Nat → Nat} {bl yn : Int32} (hC : C ≤ 8)
    (h : ro_min (cw_nt 16 si) (cw_nt 6 ba) (cw_nt 6 ra) C (cw_rd st on si) (cw_ca la xc xb) p q v ro_code (fun _ _ => True) b m) (hb : xr_B (cw_nt 16 si) (cw_nt 6 ba) (cw_nt 6 ra) p v b m bl bc bs bm)
    (h' : ro_min (cw_nt 16 si) (cw_nt 6 ba) (cw_nt 6 ra) C (cw_rd st on si) (cw_ca la xc xb) p q v ro_num (fun _ _ => True) b' m') (hb' : yr_B (cw_nt 16 si) (cw_nt 6 ba) (cw_nt 6 ra) p v b' m' yn bb bu) :
    bl = nI m ∧ yn = nI m ∧ m ≤ 4 ∧ ∀ i, i < m → bb i = bc i ∧ bu i = bm i := by
  obtain ⟨rfl, he⟩ := ro_min_one (cw_nt 16 si) (cw_nt 6 ba) (cw_nt 6 ra) C (cw_rd st on si) (cw_ca la xc xb) hC h h'
  refine ⟨hb.1, hb'.1, hb.2.1, fun i hi => ?_⟩
  obtain ⟨x1, x2, x3⟩ := hb.2.2 i hi
  obtain ⟨y1, y2⟩ := hb'.2.2 i hi
  rw [x1, x3, y1, y2, he i hi, ro_am_c (cw_nt 16 si) (cw_nt 6 ba) (cw_nt 6 ra) he (m - 1 - i) (by omega)]
  exact ⟨rfl, rfl⟩
theorem i_vc_route {k : Nat} {u : SX} {v : SY} (I : i_Rel k u v) (hk : k + 5 ≤ 2560) (v1 : Int32) (v2 : Int32) (v3 : Int32) (v4 : Int32) : wpX_route (fun r u' => wpY_route (fun r' v' => r' = r ∧ i_Rel (k + 5) u' v') v v1 v2 v3 v4) u v1 v2 v3 v4 := by
  have J := i_up I
  obtain ⟨H, C, sp, on, ba, ra, gu, si, xf, xa, xe, hH, hB, hD, bl, yn, co, se, st, la, pu, ps, sc, he, xb, xc, xi, tc, ts, ta, bc, bs, bm, pb, ou, yb, yl, yf, ya, ys, ye, zf, za, zs, ze, wy, pt, su, bb, bu, rfl, rfl, hS, hE, hF, hG, hO, hZ⟩ := I
  have hB0 := hB
  obtain ⟨hC, hsi, hne⟩ := hB
  have hla : ∀ c, c < 8 → ∃ l, l < 12 ∧ la c = nI l := fun c hc => (hE c hc).1
  unfold wpX_route
  dsimp only
  refine xs_isPay (fun ask => br_f cw_n1 ?_) (fun ask => br_t rfl ?_)
  · obtain ⟨p, q, w, hp, hq, hpq, w1, w2, rfl, rfl, rfl⟩ := id ask
    refine xs_find hC hsi hD hla hp hq w2 (fun tc ts ta bc bs bm bl b m hmin hxB => ?_)
    dsimp only
    obtain ⟨ebl, hm4, hbb⟩ := id hxB
    subst ebl
    have J' : ∀ (yn : Int32) (wy pt su bb bu : Nat → Int32), i_Rel (k + 5) (nI H, sp, nI C, nI m, co, on, ba, ra, gu, se, si, st, la, pu, ps, sc, he, xb, xc, xi, xf, xa, xe, tc, ts, ta, bc, bs, bm) (nI H, sp, nI C, yn, co, ba, ra, gu, se, on, si, st, la, pu, pb, sc, he, ou, yb, yl, yf, ya, ys, ye, zf, za, zs, ze, wy, pt, su, bb, bu) := fun yn wy pt su bb bu => ⟨H, C, sp, on, ba, ra, gu, si, xf, xa, xe, by omega, hB0, hD, nI m, yn, co, se, st, la, pu, ps, sc, he, xb, xc, xi, tc, ts, ta, bc, bs, bm, pb, ou, yb, yl, yf, ya, ys, ye, zf, za, zs, ze, wy, pt, su, bb, bu, rfl, rfl, hS, hE, hF, hG, hO, hZ⟩
    have seek : ∀ post : Int32 → SY → Prop, (∀ (mo : Int32) (wy pt su bb bu : Nat → Int32), (∀ i, i < m → bb i = bc i ∧ bu i = bm i) → post mo (nI H, sp, nI C, nI m, co, ba, ra, gu, se, on, si, st, la, pu, pb, sc, he, ou, yb, yl, yf, ya, ys, ye, zf, za, zs, ze, wy, pt, su, bb, bu)) → wpY_seek post (nI H, sp, nI C, yn, co, ba, ra, gu, se, on, si, st, la, pu, pb, sc, he, ou, yb, yl, yf, ya, ys, ye, zf, za, zs, ze, wy, pt, su, bb, bu) (nI p) (nI q) (nI w) := by
      intro post hpost
      refine ys_findV hC hsi hne hD hla (cw_ca_y hE hF hG) hp hq w1 w2 (fun mo yn wy pt su bb bu b' m' hmin' hyB => ?_)
      obtain ⟨_, eyn, _, heq⟩ := cw_same hC hmin hxB hmin' hyB
      subst eyn
      exact hpost mo wy pt su bb bu heq
    clear hmin hbb
    rcases Nat.eq_zero_or_pos m with hm | hm
    · subst hm
      refine br_t rfl ?_
      unfold wpY_route
      dsimp only
      refine ys_isAsk (fun _ => br_f cw_n1 (seek _ (fun mo wy pt su bb bu heq => ?_))) (fun na => absurd ask na)
      dsimp only
      exact br_t rfl ⟨rfl, J' _ wy pt su bb bu⟩
    · have m0 : ¬ nI m = 0 := nI_ne0 hm (by omega)
      refine br_f m0 ?_
      have fin : ∀ r : Int32, (∀ (wy pt su bb bu : Nat → Int32) (post : Int32 → SY → Prop), (∀ i, i < m → bb i = bc i ∧ bu i = bm i) → post r (nI H, sp, nI C, nI m, co, ba, ra, gu, se, on, si, st, la, pu, pb, sc, he, ou, yb, yl, yf, ya, ys, ye, zf, za, zs, ze, wy, pt, su, bb, bu) →
          ((v4 < 0 → post (-1) (nI H, sp, nI C, nI m, co, ba, ra, gu, se, on, si, st, la, pu, pb, sc, he, ou, yb, yl, yf, ya, ys, ye, zf, za, zs, ze, wy, pt, su, bb, bu)) ∧ (¬ v4 < 0 → ((v4 ≤ 8 → ((v4 = 8 → post (nI m) (nI H, sp, nI C, nI m, co, ba, ra, gu, se, on, si, st, la, pu, pb, sc, he, ou, yb, yl, yf, ya, ys, ye, zf, za, zs, ze, wy, pt, su, bb, bu)) ∧ (¬ v4 = 8 → ∀ x5 : Int32, x5 = v4 &&& 3 → ((x5 < nI m → ((4 ≤ v4 → (vp_in x5 4 ∧ post (bu x5.toNatClampNeg) (nI H, sp, nI C, nI m, co, ba, ra, gu, se, on, si, st, la, pu, pb, sc, he, ou, yb, yl, yf, ya, ys, ye, zf, za, zs, ze, wy, pt, su, bb, bu))) ∧ (¬ 4 ≤ v4 → (vp_in x5 4 ∧ post (bb x5.toNatClampNeg) (nI H, sp, nI C, nI m, co, ba, ra, gu, se, on, si, st, la, pu, pb, sc, he, ou, yb, yl, yf, ya, ys, ye, zf, za, zs, ze, wy, pt, su, bb, bu))))) ∧ (¬ x5 < nI m → post (-1) (nI H, sp, nI C, nI m, co, ba, ra, gu, se, on, si, st, la, pu, pb, sc, he, ou, yb, yl, yf, ya, ys, ye, zf, za, zs, ze, wy, pt, su, bb, bu)))))) ∧ (¬ v4 ≤ 8 → post (-1) (nI H, sp, nI C, nI m, co, ba, ra, gu, se, on, si, st, la, pu, pb, sc, he, ou, yb, yl, yf, ya, ys, ye, zf, za, zs, ze, wy, pt, su, bb, bu)))))) →
          wpY_route (fun r' v' => r' = r ∧ i_Rel (k + 5) (nI H, sp, nI C, nI m, co, on, ba, ra, gu, se, si, st, la, pu, ps, sc, he, xb, xc, xi, xf, xa, xe, tc, ts, ta, bc, bs, bm) v') (nI H, sp, nI C, yn, co, ba, ra, gu, se, on, si, st, la, pu, pb, sc, he, ou, yb, yl, yf, ya, ys, ye, zf, za, zs, ze, wy, pt, su, bb, bu) (nI p) (nI q) (nI w) v4 := by
        intro r hr
        unfold wpY_route
        dsimp only
        refine ys_isAsk (fun _ => br_f cw_n1 (seek _ (fun mo wy pt su bb bu heq => ?_))) (fun na => absurd ask na)
        dsimp only
        exact br_f m0 (hr wy pt su bb bu (fun r' v' => r' = r ∧ i_Rel (k + 5) (nI H, sp, nI C, nI m, co, on, ba, ra, gu, se, si, st, la, pu, ps, sc, he, xb, xc, xi, xf, xa, xe, tc, ts, ta, bc, bs, bm) v') heq ⟨rfl, J' _ wy pt su bb bu⟩)
      by_cases s0 : v4 < 0
      · have s8 : ¬ v4 = 8 := fun z => by rw [z] at s0; exact absurd s0 (by decide)
        have s4 : v4 < 4 := Int32.lt_trans s0 (by decide)
        unfold wX_route_62
        refine br_f s8 (br_t s0 (br_t s4 (fin (-1) (fun wy pt su bb bu post heq hp => br_t s0 hp))))
      obtain ⟨x, hx, rfl⟩ := nI_of s0
      by_cases s8 : x = 8
      · subst s8
        refine br_t rfl (fin (nI m) (fun wy pt su bb bu post heq hp => br_f s0 (br_t (by decide) (br_t rfl hp))))
      have s8' : ¬ nI x = 8 := by rw [cw_eq8 hx]; exact s8
      by_cases s9 : 8 < x
      · have t1 : nI m ≤ nI x := nI_le (by omega) hx
        have t2 : ¬ nI x < 4 := by rw [cw_tl4 hx]; omega
        have t3 : 4 + nI m ≤ nI x := by rw [show (4 : Int32) + nI m = nI (4 + m) from nI_add 4 m]; exact nI_le (by omega) hx
        have t4 : ¬ nI x ≤ 8 := by rw [cw_el8 hx]; omega
        unfold wX_route_62
        exact br_f s8' (br_f s0 (br_t t1 (br_f t2 (br_t t3 (fin (-1) (fun wy pt su bb bu post heq hp => br_f s0 (br_f t4 hp)))))))
      have t8 : nI x ≤ 8 := by rw [cw_el8 hx]; omega
      by_cases x4 : x < 4
      · have a3 : nI x &&& 3 = nI x := by
          have : x = 0 ∨ x = 1 ∨ x = 2 ∨ x = 3 := by omega
          rcases this with rfl | rfl | rfl | rfl <;> decide
        have t4 : ¬ 4 ≤ nI x := by rw [cw_le4 hx]; omega
        by_cases xm : x < m
        · have t1 : ¬ nI m ≤ nI x := nI_ge xm (by omega)
          refine br_f s8' (br_f s0 (br_f t1 ⟨pk_in x 4 x4, ?_⟩))
          rw [nI_clamp hx]
          refine fin (bc x) (fun wy pt su bb bu post heq hp => br_f s0 (br_t t8 (br_f s8' (nm_r a3 (br_t (nI_lt xm (by omega)) (br_f t4 ⟨pk_in x 4 x4, ?_⟩))))))
          rw [nI_clamp hx, (heq x xm).1]
          exact hp
        · have t1 : nI m ≤ nI x := nI_le (by omega) hx
          have t2 : nI x < 4 := by rw [cw_tl4 hx]; omega
          unfold wX_route_62
          exact br_f s8' (br_f s0 (br_t t1 (br_t t2 (fin (-1) (fun wy pt su bb bu post heq hp => br_f s0 (br_t t8 (br_f s8' (nm_r a3 (br_f (nI_nlt (by omega) hx) hp)))))))))
      · obtain ⟨y, rfl⟩ : ∃ y, x = y + 4 := ⟨x - 4, by omega⟩
        have a3 : nI (y + 4) &&& 3 = nI y := by
          have : y = 0 ∨ y = 1 ∨ y = 2 ∨ y = 3 := by omega
          rcases this with rfl | rfl | rfl | rfl <;> decide
        have t4 : 4 ≤ nI (y + 4) := by rw [cw_le4 hx]; omega
        have t1 : nI m ≤ nI (y + 4) := nI_le (by omega) hx
        have t2 : ¬ nI (y + 4) < 4 := by rw [cw_tl4 hx]; omega
        have e4 : nI (y + 4) - 4 = nI y := by rw [show (4 : Int32) = nI 4 from rfl, pk_sub (by omega), Nat.add_sub_cancel]
        unfold wX_route_62
        by_cases xm : y < m
        · have t3 : ¬ 4 + nI m ≤ nI (y + 4) := by rw [show (4 : Int32) + nI m = nI (4 + m) from nI_add 4 m]; exact nI_ge (by omega) (by omega)
          refine br_f s8' (br_f s0 (br_t t1 (br_f t2 (br_f t3 ?_))))
          rw [e4, nI_clamp (by omega)]
          refine ⟨pk_in y 4 (by omega), fin (bm y) (fun wy pt su bb bu post heq hp => br_f s0 (br_t t8 (br_f s8' (nm_r a3 (br_t (nI_lt xm (by omega)) (br_t t4 ⟨pk_in y 4 (by omega), ?_⟩))))))⟩
          rw [nI_clamp (by omega), (heq y xm).2]
          exact hp
        · have t3 : 4 + nI m ≤ nI (y + 4) := by rw [show (4 : Int32) + nI m = nI (4 + m) from nI_add 4 m]; exact nI_le (by omega) hx
          exact br_f s8' (br_f s0 (br_t t1 (br_f t2 (br_t t3 (fin (-1) (fun wy pt su bb bu post heq hp => br_f s0 (br_t t8 (br_f s8' (nm_r a3 (br_f (nI_nlt (by omega) (by omega)) hp))))))))))
  · unfold wpY_route
    dsimp only
    exact ys_isAsk (fun y => absurd y ask) (fun _ => br_t rfl ⟨rfl, J⟩)
def xw_29 (post : Int32 → SX → Prop) (x1 x2 : Int32) (n : Nat) (x3 x4 : Int32) (u : SX) : Prop := match u with
  | (h, sp, ch, bl, co, on, ba, ra, gu, se, si, st, la, pu, ps, sc, he, xb, xc, xi, xf, xa, xe, tc, ts, ta, bc, bs, bm) => wX_most_29 post x1 x2 n x3 x4 h sp ch bl co on ba ra gu se si st la pu ps sc he xb xc xi xf xa xe tc ts ta bc bs bm
theorem cw_2p {b : Nat} (hb : b ≤ 7) : (1 : Int32) <<< (nI b &&& 31) = nI (2 ^ b) := by
  have : b = 0 ∨ b = 1 ∨ b = 2 ∨ b = 3 ∨ b = 4 ∨ b = 5 ∨ b = 6 ∨ b = 7 := by omega
  rcases this with rfl | rfl | rfl | rfl | rfl | rfl | rfl | rfl <;> decide
theorem cw_2q {b : Nat} (hb : b ≤ 8) : 2 ^ b ≤ 256 := by
  have : b = 0 ∨ b = 1 ∨ b = 2 ∨ b = 3 ∨ b = 4 ∨ b = 5 ∨ b = 6 ∨ b = 7 ∨ b = 8 := by omega
  rcases this with rfl | rfl | rfl | rfl | rfl | rfl | rfl | rfl | rfl <;> decide
theorem xs_most29 {post : Int32 → SX → Prop} {C p q : Nat} (hC : C ≤ 8) (hsi : ∀ i, i < 16 → ∃ a, a < 6 ∧ si i = nI a) (hD : cw_D on ba ra) (hla : ∀ c, c < 8 → ∃ l, l < 12 ∧ la c = nI l) (hp : p < 6) (hq : q < 6)
    (H : ∀ (c : Nat) (tc ts ta bc bs bm : Nat → Int32) (bl : Int32), (c = 0 ∨ ∃ w n, ro_good (cw_nt 16 si) (cw_nt 6 ba) (cw_nt 6 ra) C (cw_rd st on si) (cw_ca la xc xb) p q c w n) → c ≤ 255 → (∀ v, c + 1 ≤ v → v ≤ 255 → ¬ ∃ w n, ro_good (cw_nt 16 si) (cw_nt 6 ba) (cw_nt 6 ra) C (cw_rd st on si) (cw_ca la xc xb) p q v w n) → post (nI c) (h, sp, nI C, bl, co, on, ba, ra, gu, se, si, st, la, pu, ps, sc, he, xb, xc, xi, xf, xa, xe, tc, ts, ta, bc, bs, bm)) :
    ∀ b c (tc ts ta bc bs bm : Nat → Int32) (bl : Int32), b ≤ 8 → (c = 0 ∨ ∃ w n, ro_good (cw_nt 16 si) (cw_nt 6 ba) (cw_nt 6 ra) C (cw_rd st on si) (cw_ca la xc xb) p q c w n) → c + 2 ^ b ≤ 256 → (∀ v, c + 2 ^ b ≤ v → v ≤ 255 → ¬ ∃ w n, ro_good (cw_nt 16 si) (cw_nt 6 ba) (cw_nt 6 ra) C (cw_rd st on si) (cw_ca la xc xb) p q v w n) →
      wX_most_29 post (nI p) (nI q) (b + 1) (nI c) (nI b - 1) h sp (nI C) bl co on ba ra gu se si st la pu ps sc he xb xc xi xf xa xe tc ts ta bc bs bm := by
  obtain ⟨b9, r20⟩ := cw_D9 hD
  have mono : ∀ v v', v ≤ v' → v' ≤ 255 → (∃ w n, ro_good (cw_nt 16 si) (cw_nt 6 ba) (cw_nt 6 ra) C (cw_rd st on si) (cw_ca la xc xb) p q v' w n) → ∃ w n, ro_good (cw_nt 16 si) (cw_nt 6 ba) (cw_nt 6 ra) C (cw_rd st on si) (cw_ca la xc xb) p q v w n := by
    intro v v' h1 h2 h3
    obtain ⟨w, n, g⟩ := h3
    refine ⟨w, n, ro_good_mono (cw_nt 16 si) (cw_nt 6 ba) (cw_nt 6 ra) C (cw_rd st on si) (cw_ca la xc xb) (fun c s a a' x1 x2 x3 => ⟨x3.1, x3.2.1, Int32.le_trans (nI_le x1 (by omega)) x3.2.2⟩) b9 r20 h2 h1 g⟩
  intro b
  induction b with
  | zero =>
    intro c tc ts ta bc bs bm bl _ h1 h2 h3
    rw [wX_most_29]
    refine br_t cw_z1 (H c tc ts ta bc bs bm bl h1 (by omega) ?_)
    rw [Nat.pow_zero] at h3
    exact h3
  | succ b ih =>
    intro c tc ts ta bc bs bm bl hb h1 h2 h3
    have hq2 := cw_2q hb
    have q0 : ¬ nI b < 0 := nI_pos (by omega)
    have e2 : 2 ^ (b + 1) = 2 ^ b + 2 ^ b := by rw [Nat.pow_succ]; omega
    have h2p : 1 ≤ 2 ^ b := Nat.one_le_two_pow
    have et : nI c + ((1 : Int32) <<< (nI b &&& 31)) = nI (c + 2 ^ b) := by rw [cw_2p (by omega), nI_add]
    rw [wX_most_29, nI_pred]
    refine br_f q0 (nm_r et ?_)
    refine xs_find hC hsi hD hla hp hq (show c + 2 ^ b ≤ 255 by omega) (fun tc ts ta bc bs bm bl b' m hmin hxB => ?_)
    dsimp only
    obtain ⟨ebl, hm4, _⟩ := hxB
    subst ebl
    refine br_c (fun z => nm_r (cw_m1s b) (ih c tc ts ta bc bs bm _ (by omega) h1 (by omega) (fun v x1 x2 g => ?_))) (fun z => nm_r (cw_m1s b) (ih (c + 2 ^ b) tc ts ta bc bs bm _ (by omega) (Or.inr ?_) (by omega) (fun v x1 x2 => h3 v (by omega) x2)))
    · have hm : m = 0 := by
        have := (cw_el0 (show m < 2 ^ 31 by omega)).mp z
        omega
      obtain ⟨w, n, g'⟩ := mono (c + 2 ^ b) v x1 x2 g
      rcases hmin with ⟨_, hno⟩ | ⟨hg, _⟩
      · exact hno w n trivial g'
      · have := hg.1
        omega
    · rcases hmin with ⟨hm, _⟩ | ⟨hg, _⟩
      · subst hm
        exact absurd (by decide) z
      · exact ⟨b', m, hg⟩
theorem i_vc_most {k : Nat} {u : SX} {v : SY} (I : i_Rel k u v) (hk : k + 5 ≤ 2560) (v1 : Int32) (v2 : Int32) : wpX_most (fun r u' => wpY_most (fun r' v' => r' = r ∧ i_Rel (k + 5) u' v') v v1 v2) u v1 v2 := by
  have J := i_up I
  obtain ⟨H, C, sp, on, ba, ra, gu, si, xf, xa, xe, hH, hB, hD, bl, yn, co, se, st, la, pu, ps, sc, he, xb, xc, xi, tc, ts, ta, bc, bs, bm, pb, ou, yb, yl, yf, ya, ys, ye, zf, za, zs, ze, wy, pt, su, bb, bu, rfl, rfl, hS, hE, hF, hG, hO, hZ⟩ := I
  have hB0 := hB
  obtain ⟨hC, hsi, hne⟩ := hB
  have hla : ∀ c, c < 8 → ∃ l, l < 12 ∧ la c = nI l := fun c hc => (hE c hc).1
  have nask : ¬ cw_ask v1 v2 1 → wpY_most (fun r' v' => r' = 0 ∧ i_Rel (k + 5) (nI H, sp, nI C, bl, co, on, ba, ra, gu, se, si, st, la, pu, ps, sc, he, xb, xc, xi, xf, xa, xe, tc, ts, ta, bc, bs, bm) v') (nI H, sp, nI C, yn, co, ba, ra, gu, se, on, si, st, la, pu, pb, sc, he, ou, yb, yl, yf, ya, ys, ye, zf, za, zs, ze, wy, pt, su, bb, bu) v1 v2 := by
    intro na
    unfold wpY_most
    dsimp only
    exact ys_isAsk (fun y => absurd y na) (fun _ => br_t rfl ⟨rfl, J⟩)
  by_cases ask : cw_ask v1 v2 1
  · obtain ⟨a0, a6, b0, b6, ab, _, _, _, _⟩ := cw_ask1 ask
    obtain ⟨p, q, w, hp, hq, hpq, w1, w2, rfl, rfl, _⟩ := id ask
    simp only [wpX_most, wpX_isParty, a0, a6, b0, b6, ab, cw_n1, forall_eq, nI_leI, nI_ltI, nI_eq, true_implies, forall_const, not_true_eq_false, not_false_eq_true, false_implies, and_true, true_and, implies_true, and_self, reduceIte]
    refine ⟨9, ?_⟩
    refine xs_most29 (C := C) (p := p) (q := q) hC hsi hD hla hp hq (fun c tc ts ta bc bs bm bl h1 h2 h3 => ?_) 8 0 tc ts ta bc bs bm bl (by omega) (Or.inl rfl) (by omega) (fun v x1 x2 => by omega)
    unfold wpY_most
    dsimp only
    refine ys_isAsk (fun _ => br_f cw_n1 ?_) (fun na => absurd ask na)
    refine ys_findM hC hsi hne hD hla (cw_ca_y hE hF hG) hp hq (fun M yn wy pt su bb bu k1 k2 k3 => ?_)
    dsimp only
    have e : c = M := ro_top h1 h2 h3 k1 k2 k3
    subst e
    exact ⟨rfl, ⟨H, C, sp, on, ba, ra, gu, si, xf, xa, xe, by omega, hB0, hD, bl, yn, co, se, st, la, pu, ps, sc, he, xb, xc, xi, tc, ts, ta, bc, bs, bm, pb, ou, yb, yl, yf, ya, ys, ye, zf, za, zs, ze, wy, pt, su, bb, bu, rfl, rfl, hS, hE, hF, hG, hO, hZ⟩⟩
  · have z := nask ask
    simp only [wpX_most, wpX_isParty]
    have e1 : ¬ (1 : Int32) < 1 := by decide
    have e2 : ¬ (255 : Int32) < 1 := by decide
    refine br_c (fun _ => br_t trivial z) (fun a0 => br_c (fun _ => br_t trivial z) (fun a6 => br_f cw_n1 (br_c (fun _ => br_t trivial z) (fun b0 => br_c (fun _ => br_t trivial z) (fun b6 => br_f cw_n1 (br_c (fun _ => z) (fun ab => absurd (cw_ask0 a0 a6 b0 b6 ab e1 e2) ask)))))))
end RM
end
section
/-! part 27: pay -/
section PAY
variable {h sp ch bl yn : Int32} {co on ba ra gu se si st la pu ps sc he xb xc xi xf xa xe tc ts ta bc bs bm pb ou yb yl yf ya ys ye zf za zs ze wy pt su bb bu : Nat → Int32}
theorem xs_add {post : SX → Prop} {H c l n s sec i m : Nat} (hc : c < 8) (hl : l < 11) (el : la c = nI l) (hn : n ≤ 2) (en : xc (13 * c + l) = nI n) (hs : s < 2) (hsec : sec < 16) (hi : i < 4) (him : i < m) (hm : m ≤ 4) (ebc : bc i = nI c) (ebs : bs i = nI s)
    (Hp : post (nI H, sp, ch, nI m, co, on, ba, ra, gu, se, si, st, upd la c (nI (l + 1)), pu, ps, sc, he, upd (cw_nb xb (13 * c + l) (13 * c + l + 1)) (2 * (13 * c + l + 1) + s) (cw_nb xb (13 * c + l) (13 * c + l + 1) (2 * (13 * c + l + 1) + s) - bm i), upd (upd xc (13 * c + l + 1) (nI n)) (13 * c + l + 1) (nI (n + 1)), upd (cw_cp2 xi xi (3 * (13 * c + l)) (3 * (13 * c + l + 1)) 3) (3 * (13 * c + l + 1) + n) (nI (4 * sec + i)), upd xf (4 * sec + i) (nI s), upd xa (4 * sec + i) (bm i), upd xe (4 * sec + i) (nI (H + 3 * (m - i))), tc, ts, ta, bc, bs, bm)) : wpX_addLock post (nI H, sp, ch, nI m, co, on, ba, ra, gu, se, si, st, la, pu, ps, sc, he, xb, xc, xi, xf, xa, xe, tc, ts, ta, bc, bs, bm) (nI i) (nI sec) := by
  simp (disch := omega) only [wpX_addLock, cw_m2, cw_m3, cw_m4, cw_m13, cw_2m, cw_3m, cw_12m, cw_24m, cw_36m, cw_a12, cw_a3, nI_add, nI_1, pk_sub, nI_clamp, vp_in_nI, ebs, ebc, forall_eq, nI_leI, nI_ltI, nI_eq, true_implies, forall_const, not_true_eq_false, not_false_eq_true, false_implies, and_true, true_and, implies_true, and_self, reduceIte]
  refine xs_mns hc hl el ?_
  simp (disch := omega) only [cw_m2, cw_m3, cw_m4, cw_m13, cw_2m, cw_3m, cw_12m, cw_24m, cw_36m, cw_a12, cw_a3, nI_add, nI_1, pk_sub, nI_clamp, vp_in_nI, pk_us, en, forall_eq, nI_leI, nI_ltI, nI_eq, true_implies, forall_const, not_true_eq_false, not_false_eq_true, false_implies, and_true, true_and, implies_true, and_self, reduceIte]
  exact Hp
theorem ys_add {post : SY → Prop} {c l n s : Nat} {z y e : Int32} (hc : c < 8) (hl : l < 11) (el : la c = nI l) (hn : n ≤ 2) (en : yl (12 * c + l) = nI n) (hs : s < 2)
    (Hp : post (h, sp, ch, yn, co, ba, ra, gu, se, on, si, st, upd la c (nI (l + 1)), pu, pb, sc, he, ou, upd (cw_nb yb (12 * c + l) (12 * c + l + 1)) (2 * (12 * c + l + 1) + s) (cw_nb yb (12 * c + l) (12 * c + l + 1) (2 * (12 * c + l + 1) + s) - z), upd (upd yl (12 * c + l + 1) (nI n)) (12 * c + l + 1) (nI (n + 1)), upd (cw_cp2 yf yf (3 * (12 * c + l)) (3 * (12 * c + l + 1)) n) (3 * (12 * c + l + 1) + n) (nI s), upd (cw_cp2 ya ya (3 * (12 * c + l)) (3 * (12 * c + l + 1)) n) (3 * (12 * c + l + 1) + n) (z), upd (cw_cp2 ys ys (3 * (12 * c + l)) (3 * (12 * c + l + 1)) n) (3 * (12 * c + l + 1) + n) (y), upd (cw_cp2 ye ye (3 * (12 * c + l)) (3 * (12 * c + l + 1)) n) (3 * (12 * c + l + 1) + n) (e), zf, za, zs, ze, wy, pt, su, bb, bu)) : wpY_add post (h, sp, ch, yn, co, ba, ra, gu, se, on, si, st, la, pu, pb, sc, he, ou, yb, yl, yf, ya, ys, ye, zf, za, zs, ze, wy, pt, su, bb, bu) (nI c) (nI s) z y e := by
  unfold wpY_add
  dsimp only
  refine ys_change hc hl el (by omega) en ?_
  dsimp only
  refine ys_now1 (l := l) hc pk_us ?_
  simp (disch := omega) only [cw_m2, cw_m3, cw_m4, cw_m13, cw_2m, cw_3m, cw_12m, cw_24m, cw_36m, cw_a12, cw_a3, nI_add, nI_1, pk_sub, nI_clamp, vp_in_nI, pk_us, forall_eq, nI_leI, nI_ltI, nI_eq, true_implies, forall_const, not_true_eq_false, not_false_eq_true, false_implies, and_true, true_and, implies_true, and_self, reduceIte]
  exact Hp
theorem cw_F_sub (hF : cw_F xb yb) {c l s : Nat} {z : Int32} (hc : c < 8) (hl : l < 11) (hs : s < 2) : cw_F (upd (cw_nb xb (13 * c + l) (13 * c + l + 1)) (2 * (13 * c + l + 1) + s) (cw_nb xb (13 * c + l) (13 * c + l + 1) (2 * (13 * c + l + 1) + s) - z)) (upd (cw_nb yb (12 * c + l) (12 * c + l + 1)) (2 * (12 * c + l + 1) + s) (cw_nb yb (12 * c + l) (12 * c + l + 1) (2 * (12 * c + l + 1) + s) - z)) := by
  have h := cw_F_nb hF hc hl
  refine cw_F_put (c := c) (k := l + 1) (s := s) h hc (by omega) hs (by omega) (by omega) ?_
  rw [show 2 * (12 * c + l + 1) + s = 2 * (12 * c + (l + 1)) + s by omega, h c (l + 1) s hc (by omega) hs, show 2 * (13 * c + (l + 1)) + s = 2 * (13 * c + l + 1) + s by omega]
theorem cw_G_add (hG : cw_G sp xf xa xe xc xi yl yf ya ys ye) {c l n : Nat} {k f z y e : Int32} (hc : c < 8) (hl : l < 11) (hn : n ≤ 2) (en : xc (13 * c + l) = nI n) (hk : cw_Lk sp xf xa xe k f z y e) :
    cw_G sp xf xa xe (upd (upd xc (13 * c + l + 1) (nI n)) (13 * c + l + 1) (nI (n + 1))) (upd (cw_cp2 xi xi (3 * (13 * c + l)) (3 * (13 * c + l + 1)) 3) (3 * (13 * c + l + 1) + n) k) (upd (upd yl (12 * c + l + 1) (nI n)) (12 * c + l + 1) (nI (n + 1)))
      (upd (cw_cp2 yf yf (3 * (12 * c + l)) (3 * (12 * c + l + 1)) n) (3 * (12 * c + l + 1) + n) f) (upd (cw_cp2 ya ya (3 * (12 * c + l)) (3 * (12 * c + l + 1)) n) (3 * (12 * c + l + 1) + n) z) (upd (cw_cp2 ys ys (3 * (12 * c + l)) (3 * (12 * c + l + 1)) n) (3 * (12 * c + l + 1) + n) y) (upd (cw_cp2 ye ye (3 * (12 * c + l)) (3 * (12 * c + l + 1)) n) (3 * (12 * c + l + 1) + n) e) := by
  have hr := hG c l hc (by omega)
  rw [en] at hr
  refine cw_G_put hG (c0 := c) (k0 := l + 1) hc (by omega) (fun i hi => by rw [pk_un (by omega), pk_un (by omega)]) (fun i hi => by rw [pk_un (by omega), pk_un (by omega)])
    (fun i hi => by rw [pk_un (by omega), cw_cp2_out _ _ (by omega) (by omega)])
    (fun i hi => ⟨by rw [pk_un (by omega), cw_cp2_out _ _ (by omega) (by omega)], by rw [pk_un (by omega), cw_cp2_out _ _ (by omega) (by omega)], by rw [pk_un (by omega), cw_cp2_out _ _ (by omega) (by omega)], by rw [pk_un (by omega), cw_cp2_out _ _ (by omega) (by omega)]⟩) ?_
  rw [pk_us' (show 13 * c + (l + 1) = 13 * c + l + 1 by omega), pk_us' (show 12 * c + (l + 1) = 12 * c + l + 1 by omega)]
  refine cw_Row_add hr (by omega) (fun i hi => ?_) (fun i hi => ?_) (fun i hi => ?_) (fun i hi => ?_) (fun i hi => ?_) ?_
  · rw [pk_un (by omega)]; exact cw_cp2_in _ _ (by omega)
  · rw [pk_un (by omega)]; exact cw_cp2_in _ _ (by omega)
  · rw [pk_un (by omega)]; exact cw_cp2_in _ _ (by omega)
  · rw [pk_un (by omega)]; exact cw_cp2_in _ _ (by omega)
  · rw [pk_un (by omega)]; exact cw_cp2_in _ _ (by omega)
  · rw [pk_us' (by omega), pk_us' (by omega), pk_us' (by omega), pk_us' (by omega), pk_us' (by omega)]
    exact hk
theorem cw_O_add (hO : cw_O sp xf xa xe xc xi st ou zf za zs ze) {c l n : Nat} {k : Int32} (hc : c < 8) (hl : l < 11) (hn : n ≤ 2) :
    cw_O sp xf xa xe (upd (upd xc (13 * c + l + 1) (nI n)) (13 * c + l + 1) (nI (n + 1))) (upd (cw_cp2 xi xi (3 * (13 * c + l)) (3 * (13 * c + l + 1)) 3) (3 * (13 * c + l + 1) + n) k) st ou zf za zs ze :=
  cw_O_frame hO (fun c' hc' => by rw [pk_un (by omega), pk_un (by omega)]) (fun c' i hc' hi => by rw [pk_un (by omega), cw_cp2_out _ _ (by omega) (by omega)])
theorem ls_pay {H C sec m q : Nat} {sp1 : Int32} {b P : Nat → Nat} {EX se1 : Nat → Int32} (hC : C ≤ 8) (hne : ∀ c, c < C → ¬ si (2 * c) = si (2 * c + 1)) (hsec : sec < 16) (hm : m ≤ 4) (hEX : ∀ i, i < m → EX i = nI (H + 3 * (m - i))) (hbit : bt sp1 sec = true)
    (hop : ∀ i, i < m → b i < C ∧ ∃ s, s < 2 ∧ si (2 * b i + s) = nI (P i) ∧ si (2 * b i + 1 - s) = nI (P (i + 1)) ∧ bs i = nI s) (hbc : ∀ i, i < m → bc i = nI (b i)) (hdis : ∀ i j, i < j → j < m → b i ≠ b j) :
    ∀ d i (la xb xc xi yb yl yf ya ys ye : Nat → Int32), i + d = m → cw_E st la ps pb si → cw_F xb yb → cw_G sp1 (cw_cp2 bs xf 0 (4 * sec) m) (cw_cp2 bm xa 0 (4 * sec) m) (cw_cp2 EX xe 0 (4 * sec) m) xc xi yl yf ya ys ye → cw_O sp1 (cw_cp2 bs xf 0 (4 * sec) m) (cw_cp2 bm xa 0 (4 * sec) m) (cw_cp2 EX xe 0 (4 * sec) m) xc xi st ou zf za zs ze →
      (∀ j, i ≤ j → j < m → ∃ l n, l < 11 ∧ la (b j) = nI l ∧ n ≤ 2 ∧ xc (13 * b j + l) = nI n) →
      ∃ la' xb' xc' xi' yb' yl' yf' ya' ys' ye' : Nat → Int32, cw_E st la' ps pb si ∧ cw_F xb' yb' ∧ cw_G sp1 (cw_cp2 bs xf 0 (4 * sec) m) (cw_cp2 bm xa 0 (4 * sec) m) (cw_cp2 EX xe 0 (4 * sec) m) xc' xi' yl' yf' ya' ys' ye' ∧ cw_O sp1 (cw_cp2 bs xf 0 (4 * sec) m) (cw_cp2 bm xa 0 (4 * sec) m) (cw_cp2 EX xe 0 (4 * sec) m) xc' xi' st ou zf za zs ze ∧
      (∀ post : Int32 → SX → Prop, wX_pay_70 post (nI q) (nI sec) (nI H) sp (nI C) (nI m) co on ba ra gu se si st (la') pu ps sc he (xb') (xc') (xi') (cw_cp2 bs xf 0 (4 * sec) m) (cw_cp2 bm xa 0 (4 * sec) m) (cw_cp2 EX xe 0 (4 * sec) m) tc ts ta bc bs bm → wX_pay_41 post (nI q) (nI sec) (d + 1) (nI i) (nI H) sp (nI C) (nI m) co on ba ra gu se si st la pu ps sc he xb xc xi (cw_cp2 bs xf 0 (4 * sec) i) (cw_cp2 bm xa 0 (4 * sec) i) (cw_cp2 EX xe 0 (4 * sec) i) tc ts ta bc bs bm) ∧
      (∀ wy pt su bb bu : Nat → Int32, (∀ i, i < m → bb i = nI (b i) ∧ bu i = bm i) → ∀ post : Int32 → SY → Prop, post (bu 0) (nI H, sp1, nI C, nI m, co, ba, ra, gu, se1, on, si, st, la', pu, pb, sc, he, ou, yb', yl', yf', ya', ys', ye', zf, za, zs, ze, wy, pt, su, bb, bu) → wY_pay_87 post (nI sec) (d + 1) (nI (P i)) (nI i) (nI H) (sp1) (nI C) (nI m) co ba ra gu (se1) on si st la pu pb sc he ou yb yl yf ya ys ye zf za zs ze wy pt su bb bu) := by
  intro d
  induction d with
  | zero =>
    intro i la xb xc xi yb yl yf ya ys ye hi hE hF hG hO _
    have e : i = m := by omega
    subst e
    refine ⟨la, xb, xc, xi, yb, yl, yf, ya, ys, ye, hE, hF, hG, hO, fun post hp => ?_, fun wy pt su bb bu hbu post hp => ?_⟩
    · rw [wX_pay_41]
      simp (disch := omega) only [Nat.le_refl, forall_eq, nI_leI, nI_ltI, nI_eq, true_implies, forall_const, not_true_eq_false, not_false_eq_true, false_implies, and_true, true_and, implies_true, and_self, reduceIte]
      exact hp
    · rw [wY_pay_87]
      simp (disch := omega) only [Nat.le_refl, forall_eq, nI_leI, nI_ltI, nI_eq, true_implies, forall_const, not_true_eq_false, not_false_eq_true, false_implies, and_true, true_and, implies_true, and_self, reduceIte]
      exact hp
  | succ d ih =>
    intro i la xb xc xi yb yl yf ya ys ye hi hE hF hG hO hcap
    have him : i < m := by omega
    obtain ⟨hbC, s, hs, es, es', ebs⟩ := hop i him
    have ebc := hbc i him
    obtain ⟨l, n, hl, el, hn, en⟩ := hcap i (Nat.le_refl _) him
    have ey : yl (12 * b i + l) = nI n := by
      obtain ⟨n', hn', e1, e2, _⟩ := hG (b i) l (by omega) (by omega)
      rw [e2, ← e1, en]
    have hk : cw_Lk sp1 (cw_cp2 bs xf 0 (4 * sec) m) (cw_cp2 bm xa 0 (4 * sec) m) (cw_cp2 EX xe 0 (4 * sec) m) (nI (4 * sec + i)) (nI s) (bm i) (nI sec) (nI (H + 3 * (m - i))) := by
      refine ⟨4 * sec + i, by omega, rfl, ?_, ?_, ?_, ?_, ?_, ?_⟩
      · rw [show (4 * sec + i) / 4 = sec by omega]; exact hbit
      · rw [cw_cp2_in _ _ him, Nat.zero_add, ebs]
      · have : s = 0 ∨ s = 1 := by omega
        rcases this with rfl | rfl
        · exact Or.inl rfl
        · exact Or.inr rfl
      · rw [cw_cp2_in _ _ him, Nat.zero_add]
      · rw [show (4 * sec + i) / 4 = sec by omega]
      · rw [cw_cp2_in _ _ him, Nat.zero_add, hEX i him]
    obtain ⟨la', xb', xc', xi', yb', yl', yf', ya', ys', ye', k1, k2, k3, k4, kx, ky⟩ := ih (i + 1) _ _ _ _ _ _ _ _ _ _ (by omega) (cw_E_la hE (c := b i) (l := l + 1) (by omega)) (cw_F_sub hF (z := bm i) (c := b i) (by omega) hl hs) (cw_G_add hG (c := b i) (by omega) hl hn en hk) (cw_O_add hO (k := nI (4 * sec + i)) (c := b i) (by omega) hl hn) (by
      intro j hj1 hj2
      obtain ⟨l2, n2, hl2, el2, hn2, en2⟩ := hcap j (by omega) hj2
      have hd := hdis i j (by omega) hj2
      refine ⟨l2, n2, hl2, ?_, hn2, ?_⟩
      · rw [pk_un (fun z => hd z.symm)]; exact el2
      · rw [pk_un (by omega), pk_un (by omega)]; exact en2)
    refine ⟨la', xb', xc', xi', yb', yl', yf', ya', ys', ye', k1, k2, k3, k4, fun post hp => ?_, fun wy pt su bb bu hbu post hp => ?_⟩
    · have q1 : ¬ m ≤ i := by omega
      have q4 : ¬ 4 ≤ i := by omega
      rw [wX_pay_41]
      simp (disch := omega) only [q1, cw_le4, q4, cw_m2, cw_m3, cw_m4, cw_m13, cw_2m, cw_3m, cw_12m, cw_24m, cw_36m, cw_a12, cw_a3, nI_add, nI_1, pk_sub, nI_clamp, vp_in_nI, forall_eq, nI_leI, nI_ltI, nI_eq, true_implies, forall_const, not_true_eq_false, not_false_eq_true, false_implies, and_true, true_and, implies_true, and_self, reduceIte]
      refine xs_add (n := n) (by omega) hl el hn en hs hsec (by omega) him hm ebc ebs ?_
      have x1 : upd (cw_cp2 bs xf 0 (4 * sec) i) (4 * sec + i) (nI s) = cw_cp2 bs xf 0 (4 * sec) (i + 1) := by rw [← cw_cp2_S, Nat.zero_add, ebs]
      have x2 : upd (cw_cp2 bm xa 0 (4 * sec) i) (4 * sec + i) (bm i) = cw_cp2 bm xa 0 (4 * sec) (i + 1) := by rw [← cw_cp2_S, Nat.zero_add]
      have x3 : upd (cw_cp2 EX xe 0 (4 * sec) i) (4 * sec + i) (nI (H + 3 * (m - i))) = cw_cp2 EX xe 0 (4 * sec) (i + 1) := by rw [← cw_cp2_S, Nat.zero_add, hEX i him]
      rw [x1, x2, x3]
      exact kx post hp
    · have q1 : ¬ m ≤ i := by omega
      obtain ⟨ebb, ebu⟩ := hbu i him
      rw [wY_pay_87]
      simp (disch := omega) only [q1, cw_m2, cw_m3, cw_m4, cw_m13, cw_2m, cw_3m, cw_12m, cw_24m, cw_36m, cw_a12, cw_a3, nI_add, nI_1, pk_sub, nI_clamp, vp_in_nI, ebb, ebu, forall_eq, nI_leI, nI_ltI, nI_eq, true_implies, forall_const, not_true_eq_false, not_false_eq_true, false_implies, and_true, true_and, implies_true, and_self, reduceIte]
      refine ys_side (by omega) hs es (hne (b i) hbC) ?_
      refine ys_add (n := n) (by omega) hl el hn ey hs ?_
      simp (disch := omega) only [cw_m2, cw_m3, cw_m4, cw_m13, cw_2m, cw_3m, cw_12m, cw_24m, cw_36m, cw_a12, cw_a3, nI_add, nI_1, pk_sub, nI_clamp, vp_in_nI, es', forall_eq, nI_leI, nI_ltI, nI_eq, true_implies, forall_const, not_true_eq_false, not_false_eq_true, false_implies, and_true, true_and, implies_true, and_self, reduceIte]
      exact ky wy pt su bb bu hbu post hp
theorem cw_cp2_out' (f g : Nat → Int32) {s t n i : Nat} (h : i < t ∨ t + n ≤ i) : cw_cp2 f g s t n i = g i := by
  rcases h with h | h
  · exact cw_cp2_lo _ _ h
  · exact cw_cp2_hi _ _ h
theorem cw_distinct {sd : Nat → Nat} {C p m : Nat} {rd : Nat → Prop} {b : Nat → Nat} (h : ro_walk sd C rd b p m) : ∀ i j, i < j → j < m → b i ≠ b j := by
  intro i j hij hj e
  have hi := h i (by omega)
  have hjj := h j hj
  have a1 : ro_pt sd b p i ≠ ro_pt sd b p j := by
    have := (h (j - 1) (by omega)).2.2.2 i (by omega)
    rwa [show j - 1 + 1 = j by omega] at this
  have a2 : ro_pt sd b p i ≠ ro_pt sd b p (j + 1) := hjj.2.2.2 i (by omega)
  have n1 : ro_pt sd b p (i + 1) = ro_nx sd (b i) (ro_pt sd b p i) := rfl
  have n2 : ro_pt sd b p (j + 1) = ro_nx sd (b j) (ro_pt sd b p j) := rfl
  have s1 := hi.2.1
  have s2 := hjj.2.1
  rw [← e] at n2 s2
  unfold ro_nx at n1 n2
  by_cases z : sd (2 * b i) = ro_pt sd b p j
  · rw [if_pos z] at n2
    rcases s1 with y | y
    · exact a1 (y.symm.trans z)
    · exact a2 (y.symm.trans n2.symm)
  · rw [if_neg z] at n2
    rcases s1 with y | y
    · exact a2 (y.symm.trans n2.symm)
    · rcases s2 with x | x
      · exact z x
      · exact a1 (y.symm.trans x)
theorem cw_hops {C p m : Nat} {b : Nat → Nat} (hC : C ≤ 8) (hsi : ∀ i, i < 16 → ∃ a, a < 6 ∧ si i = nI a) (h : ro_walk (cw_nt 16 si) C (cw_rd st on si) b p m) (hbs : ∀ i, i < m → bs i = nI (ro_sx (cw_nt 16 si) (b i) (ro_pt (cw_nt 16 si) b p i))) :
    ∀ i, i < m → b i < C ∧ ∃ s, s < 2 ∧ si (2 * b i + s) = nI (ro_pt (cw_nt 16 si) b p i) ∧ si (2 * b i + 1 - s) = nI (ro_pt (cw_nt 16 si) b p (i + 1)) ∧ bs i = nI s := by
  intro i hi
  have sde : ∀ i, i < 16 → si i = nI (cw_nt 16 si i) := fun i hi => (cw_nt_e hi (by omega) (hsi i hi)).1
  have hop := h i hi
  have hbC := hop.1
  refine ⟨hbC, ro_sx (cw_nt 16 si) (b i) (ro_pt (cw_nt 16 si) b p i), ?_, ?_, ?_, hbs i hi⟩
  · unfold ro_sx
    by_cases z : cw_nt 16 si (2 * b i) = ro_pt (cw_nt 16 si) b p i
    · rw [if_pos z]; omega
    · rw [if_neg z]; omega
  · unfold ro_sx
    by_cases z : cw_nt 16 si (2 * b i) = ro_pt (cw_nt 16 si) b p i
    · rw [if_pos z, Nat.add_zero, sde _ (by omega), z]
    · rw [if_neg z, sde _ (by omega)]
      rcases hop.2.1 with y | y
      · exact absurd y z
      · rw [y]
  · show si (2 * b i + 1 - ro_sx (cw_nt 16 si) (b i) (ro_pt (cw_nt 16 si) b p i)) = nI (ro_nx (cw_nt 16 si) (b i) (ro_pt (cw_nt 16 si) b p i))
    unfold ro_sx ro_nx
    by_cases z : cw_nt 16 si (2 * b i) = ro_pt (cw_nt 16 si) b p i
    · rw [if_pos z, if_pos z, Nat.sub_zero, sde _ (by omega)]
    · rw [if_neg z, if_neg z, Nat.add_sub_cancel, sde _ (by omega)]
theorem i_vc_pay {k : Nat} {u : SX} {v : SY} (I : i_Rel k u v) (hk : k + 5 ≤ 2560) (v1 : Int32) (v2 : Int32) (v3 : Int32) (v4 : Int32) : wpX_pay (fun r u' => wpY_pay (fun r' v' => r' = r ∧ i_Rel (k + 5) u' v') v v1 v2 v3 v4) u v1 v2 v3 v4 := by
  have J := i_up I
  obtain ⟨H, C, sp, on, ba, ra, gu, si, xf, xa, xe, hH, hB, hD, bl, yn, co, se, st, la, pu, ps, sc, he, xb, xc, xi, tc, ts, ta, bc, bs, bm, pb, ou, yb, yl, yf, ya, ys, ye, zf, za, zs, ze, wy, pt, su, bb, bu, rfl, rfl, hS, hE, hF, hG, hO, hZ⟩ := I
  have hB0 := hB
  obtain ⟨hC, hsi, hne⟩ := hB
  have hla : ∀ c, c < 8 → ∃ l, l < 12 ∧ la c = nI l := fun c hc => (hE c hc).1
  unfold wpX_pay
  dsimp only
  refine xs_isPay (fun ask => br_f cw_n1 ?_) (fun ask => br_t rfl ?_)
  · by_cases s0 : v4 < 0
    · simp only [wpX_isUnusedSecret, s0, forall_eq, nI_leI, nI_ltI, nI_eq, true_implies, forall_const, not_true_eq_false, not_false_eq_true, false_implies, and_true, true_and, implies_true, and_self, reduceIte]
      unfold wpY_pay
      dsimp only
      exact ys_isAsk (fun _ => br_f cw_n1 (br_t s0 ⟨rfl, J⟩)) (fun na => absurd ask na)
    obtain ⟨sec, hsec, rfl⟩ := nI_of s0
    by_cases s16 : 16 ≤ sec
    · have s15 : 15 < nI sec := nI_lt (a := 15) (by omega) hsec
      simp (disch := omega) only [wpX_isUnusedSecret, s0, cw_le16, s16, forall_eq, nI_leI, nI_ltI, nI_eq, true_implies, forall_const, not_true_eq_false, not_false_eq_true, false_implies, and_true, true_and, implies_true, and_self, reduceIte]
      unfold wpY_pay
      dsimp only
      exact ys_isAsk (fun _ => br_f cw_n1 (br_f s0 (br_t s15 ⟨rfl, J⟩))) (fun na => absurd ask na)
    have s15 : ¬ 15 < nI sec := Int32.not_lt.mpr (nI_le (b := 15) (by omega) (by omega))
    by_cases hb1 : bt sp sec = true
    · simp (disch := omega) only [wpX_isUnusedSecret, s0, cw_le16, s16, cw_bit0, hb1, Bool.true_eq_false, forall_eq, nI_leI, nI_ltI, nI_eq, true_implies, forall_const, not_true_eq_false, not_false_eq_true, false_implies, and_true, true_and, implies_true, and_self, reduceIte]
      unfold wpY_pay
      dsimp only
      exact ys_isAsk (fun _ => br_f cw_n1 (br_f s0 (br_f s15 (br_t ((cw_bit1 sp (by omega)).mpr hb1) ⟨rfl, J⟩)))) (fun na => absurd ask na)
    have hb0 : bt sp sec = false := by
      cases z : bt sp sec
      · rfl
      · exact absurd z hb1
    have nb1 : ¬ (sp >>> (nI sec &&& 31)) &&& 1 = 1 := fun z => hb1 ((cw_bit1 sp (by omega)).mp z)
    obtain ⟨p, q, w, hp, hq, hpq, w1, w2, rfl, rfl, rfl⟩ := id ask
    simp (disch := omega) only [wpX_isUnusedSecret, s0, cw_le16, s16, cw_bit0, hb0, cw_n1, forall_eq, nI_leI, nI_ltI, nI_eq, true_implies, forall_const, not_true_eq_false, not_false_eq_true, false_implies, and_true, true_and, implies_true, and_self, reduceIte]
    refine xs_find hC hsi hD hla hp hq w2 (fun tc ts ta bc bs bm bl b m hmin hxB => ?_)
    dsimp only
    obtain ⟨ebl, hm4, hbb⟩ := id hxB
    subst ebl
    have seek : ∀ post : Int32 → SY → Prop, (∀ (mo : Int32) (wy pt su bb bu : Nat → Int32), (∀ i, i < m → bb i = bc i ∧ bu i = bm i) → post mo (nI H, sp, nI C, nI m, co, ba, ra, gu, se, on, si, st, la, pu, pb, sc, he, ou, yb, yl, yf, ya, ys, ye, zf, za, zs, ze, wy, pt, su, bb, bu)) → wpY_seek post (nI H, sp, nI C, yn, co, ba, ra, gu, se, on, si, st, la, pu, pb, sc, he, ou, yb, yl, yf, ya, ys, ye, zf, za, zs, ze, wy, pt, su, bb, bu) (nI p) (nI q) (nI w) := by
      intro post hpost
      refine ys_findV hC hsi hne hD hla (cw_ca_y hE hF hG) hp hq w1 w2 (fun mo yn wy pt su bb bu b' m' hmin' hyB => ?_)
      obtain ⟨_, eyn, _, heq⟩ := cw_same hC hmin hxB hmin' hyB
      subst eyn
      exact hpost mo wy pt su bb bu heq
    rcases Nat.eq_zero_or_pos m with hm | hm
    · subst hm
      refine br_t rfl ?_
      unfold wpY_pay
      dsimp only
      refine ys_isAsk (fun _ => br_f cw_n1 (br_f s0 (br_f s15 (br_f nb1 (seek _ (fun mo wy pt su bb bu heq => ?_)))))) (fun na => absurd ask na)
      dsimp only
      exact br_t rfl ⟨rfl, ⟨H, C, sp, on, ba, ra, gu, si, xf, xa, xe, by omega, hB0, hD, _, _, co, se, st, la, pu, ps, sc, he, xb, xc, xi, tc, ts, ta, bc, bs, bm, pb, ou, yb, yl, yf, ya, ys, ye, zf, za, zs, ze, wy, pt, su, bb, bu, rfl, rfl, hS, hE, hF, hG, hO, hZ⟩⟩
    · have m0 : ¬ nI m = 0 := nI_ne0 hm (by omega)
      refine br_f m0 ?_
      have g : ro_good (cw_nt 16 si) (cw_nt 6 ba) (cw_nt 6 ra) C (cw_rd st on si) (cw_ca la xc xb) p q w b m := by
        rcases hmin with ⟨z, _⟩ | ⟨g, _⟩
        · omega
        · exact g
      have hL : ∀ L, L < 64 → bt sp (L / 4) = true → bt (sp ||| ((1 : Int32) <<< (nI sec &&& 31))) (L / 4) = true ∧ cw_cp2 bs xf 0 (4 * sec) m L = xf L ∧ cw_cp2 bm xa 0 (4 * sec) m L = xa L ∧ cw_cp2 (fun j => nI (H + 3 * (m - j))) xe 0 (4 * sec) m L = xe L := by
        intro L hL hbt
        have hns : L / 4 ≠ sec := fun z => by
          rw [z, hb0] at hbt
          exact absurd hbt (by decide)
        refine ⟨?_, ?_, ?_, ?_⟩
        · rw [cw_set sp (by omega) (by omega), hbt]
          rfl
        · exact cw_cp2_out' _ _ (by omega)
        · exact cw_cp2_out' _ _ (by omega)
        · exact cw_cp2_out' _ _ (by omega)
      have hG1 : cw_G (sp ||| ((1 : Int32) <<< (nI sec &&& 31))) (cw_cp2 bs xf 0 (4 * sec) m) (cw_cp2 bm xa 0 (4 * sec) m) (cw_cp2 (fun j => nI (H + 3 * (m - j))) xe 0 (4 * sec) m) xc xi yl yf ya ys ye := fun c k hc hk => cw_Row_sp hL (hG c k hc hk)
      have hO1 : cw_O (sp ||| ((1 : Int32) <<< (nI sec &&& 31))) (cw_cp2 bs xf 0 (4 * sec) m) (cw_cp2 bm xa 0 (4 * sec) m) (cw_cp2 (fun j => nI (H + 3 * (m - j))) xe 0 (4 * sec) m) xc xi st ou zf za zs ze := fun c hc => ⟨cw_Row_sp hL (hO c hc).1, (hO c hc).2⟩
      have hbit : bt (sp ||| ((1 : Int32) <<< (nI sec &&& 31))) sec = true := by
        rw [cw_set sp (by omega) (by omega)]
        simp
      obtain ⟨la', xb', xc', xi', yb', yl', yf', ya', ys', ye', k1, k2, k3, k4, kx, ky⟩ := ls_pay (H := H) (C := C) (sec := sec) (m := m) (q := q) (sp1 := sp ||| ((1 : Int32) <<< (nI sec &&& 31))) (b := b) (P := ro_pt (cw_nt 16 si) b p) (EX := fun j => nI (H + 3 * (m - j))) (se1 := upd se q (se q ||| ((1 : Int32) <<< (nI sec &&& 31)))) (sp := sp) (co := co) (on := on) (ba := ba) (ra := ra) (gu := gu) (se := se) (pu := pu) (sc := sc) (he := he) (tc := tc) (ts := ts) (ta := ta)
        hC hne (by omega) hm4 (fun i _ => rfl) hbit (cw_hops hC hsi g.2.2.1 (fun i hi => (hbb i hi).2.1)) (fun i hi => (hbb i hi).1) (cw_distinct g.2.2.1) m 0 la xb xc xi yb yl yf ya ys ye (by omega) hE hF hG1 hO1 (by
          intro j _ hj
          have hbj : b j < C := (g.2.2.1 j hj).1
          obtain ⟨l, hl, el⟩ := hla (b j) (by omega)
          obtain ⟨n, hn, e1, e2, _⟩ := hG (b j) l (by omega) hl
          have hca := g.2.2.2.2 (m - 1 - j) (by omega)
          rw [show m - 1 - (m - 1 - j) = j by omega] at hca
          unfold cw_ca at hca
          rw [el, nI_clamp (by omega), e1, cw_le11 (by omega), cw_tl3 (by omega)] at hca
          exact ⟨l, n, by omega, el, by omega, e1⟩)
      rw [cw_cp2_0, cw_cp2_0, cw_cp2_0] at kx
      refine ⟨_, kx _ ?_⟩
      simp (disch := omega) only [wX_pay_70, cw_m2, cw_m3, cw_m4, cw_m13, cw_2m, cw_3m, cw_12m, cw_24m, cw_36m, cw_a12, cw_a3, nI_add, nI_1, pk_sub, nI_clamp, vp_in_nI, forall_eq, nI_leI, nI_ltI, nI_eq, true_implies, forall_const, not_true_eq_false, not_false_eq_true, false_implies, and_true, true_and, implies_true, and_self, reduceIte]
      unfold wpY_pay
      dsimp only
      refine ys_isAsk (fun _ => br_f cw_n1 (br_f s0 (br_f s15 (br_f nb1 (seek _ (fun mo wy pt su bb bu heq => ?_)))))) (fun na => absurd ask na)
      dsimp only
      refine br_f m0 ?_
      simp (disch := omega) only [cw_m2, cw_m3, cw_m4, cw_m13, cw_2m, cw_3m, cw_12m, cw_24m, cw_36m, cw_a12, cw_a3, nI_add, nI_1, pk_sub, nI_clamp, vp_in_nI, forall_eq, nI_leI, nI_ltI, nI_eq, true_implies, forall_const, not_true_eq_false, not_false_eq_true, false_implies, and_true, true_and, implies_true, and_self, reduceIte]
      refine ⟨_, ky wy pt su bb bu (fun i hi => ⟨(heq i hi).1.trans (hbb i hi).1, (heq i hi).2⟩) _ ?_⟩
      exact ⟨(heq 0 hm).2, ⟨H, C, _, on, ba, ra, gu, si, _, _, _, by omega, hB0, hD, _, _, co, _, st, la', pu, ps, sc, he, xb', xc', xi', tc, ts, ta, bc, bs, bm, pb, ou, yb', yl', yf', ya', ys', ye', zf, za, zs, ze, wy, pt, su, bb, bu, rfl, rfl, hS, k1, k2, k3, k4, hZ⟩⟩
  · unfold wpY_pay
    dsimp only
    exact ys_isAsk (fun y => absurd y ask) (fun _ => br_t rfl ⟨rfl, J⟩)
end PAY
end
section
/-! last part: nothing is owed any more -/
theorem cw_last : True := trivial
end
