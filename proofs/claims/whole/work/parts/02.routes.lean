/-! part 02: routes, pure. A route is a function w (channel at place i) and a length n -/
section RO
variable (sd ba ra : Nat → Nat) (C : Nat) (rd : Nat → Prop) (ca : Nat → Nat → Nat → Prop)
def ro_nx (sd : Nat → Nat) (c p : Nat) : Nat := if sd (2 * c) = p then sd (2 * c + 1) else sd (2 * c)
def ro_sx (sd : Nat → Nat) (c p : Nat) : Nat := if sd (2 * c) = p then 0 else 1
def ro_pt (sd : Nat → Nat) (w : Nat → Nat) (p : Nat) : Nat → Nat
  | 0 => p
  | i + 1 => ro_nx sd (w i) (ro_pt sd w p i)
def ro_hop (sd : Nat → Nat) (C : Nat) (rd : Nat → Prop) (w : Nat → Nat) (p i : Nat) : Prop :=
  w i < C ∧ (sd (2 * w i) = ro_pt sd w p i ∨ sd (2 * w i + 1) = ro_pt sd w p i) ∧ rd (w i) ∧ ∀ j, j ≤ i → ro_pt sd w p j ≠ ro_pt sd w p (i + 1)
def ro_walk (sd : Nat → Nat) (C : Nat) (rd : Nat → Prop) (w : Nat → Nat) (p n : Nat) : Prop := ∀ i, i < n → ro_hop sd C rd w p i
def ro_am (sd ba ra : Nat → Nat) (w : Nat → Nat) (p n v : Nat) : Nat → Nat
  | 0 => v
  | d + 1 => ro_am sd ba ra w p n v d + (ba (ro_pt sd w p (n - 1 - d)) + ro_am sd ba ra w p n v d * ra (ro_pt sd w p (n - 1 - d)) / 100)
def ro_car (sd ba ra : Nat → Nat) (ca : Nat → Nat → Nat → Prop) (w : Nat → Nat) (p n v : Nat) : Prop :=
  ∀ d, d < n → ca (w (n - 1 - d)) (ro_sx sd (w (n - 1 - d)) (ro_pt sd w p (n - 1 - d))) (ro_am sd ba ra w p n v d)
def ro_good (sd ba ra : Nat → Nat) (C : Nat) (rd : Nat → Prop) (ca : Nat → Nat → Nat → Prop) (p q v : Nat) (w : Nat → Nat) (n : Nat) : Prop :=
  1 ≤ n ∧ n ≤ 4 ∧ ro_walk sd C rd w p n ∧ ro_pt sd w p n = q ∧ ro_car sd ba ra ca w p n v
def ro_cost (sd ba ra : Nat → Nat) (p v : Nat) (w : Nat → Nat) (n : Nat) : Nat := ro_am sd ba ra w p n v (n - 1)
theorem ro_pt_c {w w' : Nat → Nat} {p n : Nat} (h : ∀ i, i < n → w i = w' i) : ∀ i, i ≤ n → ro_pt sd w p i = ro_pt sd w' p i := by
  intro i
  induction i with
  | zero => intro _; rfl
  | succ i ih =>
    intro hi
    show ro_nx sd (w i) (ro_pt sd w p i) = ro_nx sd (w' i) (ro_pt sd w' p i)
    rw [ih (by omega), h i (by omega)]
theorem ro_am_c {w w' : Nat → Nat} {p n v : Nat} (h : ∀ i, i < n → w i = w' i) : ∀ d, d ≤ n → ro_am sd ba ra w p n v d = ro_am sd ba ra w' p n v d := by
  intro d
  induction d with
  | zero => intro _; rfl
  | succ d ih =>
    intro hd
    unfold ro_am
    rw [ih (by omega), ro_pt_c sd h (n - 1 - d) (by omega)]
theorem ro_hop_c {w w' : Nat → Nat} {p i : Nat} (h : ∀ j, j < i + 1 → w j = w' j) (g : ro_hop sd C rd w p i) : ro_hop sd C rd w' p i := by
  have e := ro_pt_c sd (p := p) h
  obtain ⟨a, b, c, d⟩ := g
  rw [h i (by omega)] at a b c
  rw [e i (by omega)] at b
  refine ⟨a, b, c, fun j hj => ?_⟩
  have := d j hj
  rwa [e j (by omega), e (i + 1) (by omega)] at this
theorem ro_good_c {w w' : Nat → Nat} {p q n v : Nat} (h : ∀ i, i < n → w i = w' i) (g : ro_good sd ba ra C rd ca p q v w n) : ro_good sd ba ra C rd ca p q v w' n := by
  obtain ⟨h1, h4, hw, hq, hc⟩ := g
  refine ⟨h1, h4, fun i hi => ro_hop_c sd C rd (fun j hj => h j (by omega)) (hw i hi), ?_, fun d hd => ?_⟩
  · rw [← ro_pt_c sd h n (by omega)]; exact hq
  · have := hc d hd
    rwa [h _ (by omega), ro_pt_c sd h (n - 1 - d) (by omega), ro_am_c sd ba ra h d (by omega)] at this
theorem ro_cost_c {w w' : Nat → Nat} {p n v : Nat} (h : ∀ i, i < n → w i = w' i) : ro_cost sd ba ra p v w n = ro_cost sd ba ra p v w' n := ro_am_c sd ba ra h (n - 1) (by omega)
theorem ro_good_dig {p q v n : Nat} {w : Nat → Nat} (hC : C ≤ 8) (g : ro_good sd ba ra C rd ca p q v w n) : ∀ i, i < n → w i ≤ 7 := fun i hi => by
  have := (g.2.2.1 i hi).1; omega
/-! amounts: bounds and growth -/
theorem ro_am_le {w : Nat → Nat} {p n v : Nat} (hv : v ≤ 255) (hb : ∀ i, ba i ≤ 9) (hr : ∀ i, ra i ≤ 20) : ro_am sd ba ra w p n v 0 ≤ 255 ∧ ro_am sd ba ra w p n v 1 ≤ 315 ∧ ro_am sd ba ra w p n v 2 ≤ 387 ∧ ro_am sd ba ra w p n v 3 ≤ 473 ∧ ro_am sd ba ra w p n v 4 ≤ 576 := by
  have st : ∀ d B, ro_am sd ba ra w p n v d ≤ B → ro_am sd ba ra w p n v (d + 1) ≤ B + (9 + B * 20 / 100) := by
    intro d B h
    show ro_am sd ba ra w p n v d + (ba _ + ro_am sd ba ra w p n v d * ra _ / 100) ≤ _
    have h1 := hb (ro_pt sd w p (n - 1 - d))
    have h2 : ro_am sd ba ra w p n v d * ra (ro_pt sd w p (n - 1 - d)) / 100 ≤ B * 20 / 100 := Nat.div_le_div_right (Nat.mul_le_mul h (hr _))
    omega
  have a0 : ro_am sd ba ra w p n v 0 ≤ 255 := hv
  have a1 := st 0 255 a0
  have a2 := st 1 315 a1
  have a3 := st 2 387 a2
  have a4 := st 3 473 a3
  exact ⟨a0, a1, a2, a3, a4⟩
theorem ro_am_le4 {w : Nat → Nat} {p n v : Nat} (hv : v ≤ 255) (hb : ∀ i, ba i ≤ 9) (hr : ∀ i, ra i ≤ 20) {d : Nat} (hd : d ≤ 4) : ro_am sd ba ra w p n v d ≤ 576 := by
  obtain ⟨a0, a1, a2, a3, a4⟩ := ro_am_le sd ba ra (w := w) (p := p) (n := n) hv hb hr
  have : d = 0 ∨ d = 1 ∨ d = 2 ∨ d = 3 ∨ d = 4 := by omega
  rcases this with rfl | rfl | rfl | rfl | rfl <;> omega
theorem ro_am_mono {w : Nat → Nat} {p n v v' : Nat} (h : v ≤ v') : ∀ d, ro_am sd ba ra w p n v d ≤ ro_am sd ba ra w p n v' d := by
  intro d
  induction d with
  | zero => exact h
  | succ d ih =>
    unfold ro_am
    have : ro_am sd ba ra w p n v d * ra (ro_pt sd w p (n - 1 - d)) / 100 ≤ ro_am sd ba ra w p n v' d * ra (ro_pt sd w p (n - 1 - d)) / 100 := Nat.div_le_div_right (Nat.mul_le_mul ih (Nat.le_refl _))
    omega
theorem ro_good_mono {w : Nat → Nat} {p q n v v' : Nat} (hca : ∀ c s a a', a ≤ a' → a' ≤ 576 → ca c s a' → ca c s a) (hb : ∀ i, ba i ≤ 9) (hr : ∀ i, ra i ≤ 20) (hv : v' ≤ 255) (h : v ≤ v') (g : ro_good sd ba ra C rd ca p q v' w n) : ro_good sd ba ra C rd ca p q v w n := by
  obtain ⟨h1, h4, hw, hq, hc⟩ := g
  exact ⟨h1, h4, hw, hq, fun d hd => hca _ _ _ _ (ro_am_mono sd ba ra h d) (ro_am_le4 sd ba ra hv hb hr (by omega)) (hc d hd)⟩
/-! the two orders -/
def ro_code (w : Nat → Nat) : Nat → Nat
  | 0 => 0
  | n + 1 => ro_code w n * 8 + w n
def ro_dg (w : Nat → Nat) (n i : Nat) : Nat := if i < n then w i + 1 else 0
def ro_num (w : Nat → Nat) (n : Nat) : Nat := 1000 * ro_dg w n 0 + 100 * ro_dg w n 1 + 10 * ro_dg w n 2 + ro_dg w n 3
def ro_set (w : Nat → Nat) (d e : Nat) : Nat → Nat := fun i => if i = d then e else w i
def ro_N (w : Nat → Nat) (d e : Nat) : Nat := ro_num (ro_set w d e) (d + 1)
theorem ro_set_s (w : Nat → Nat) (d e : Nat) : ro_set w d e d = e := if_pos rfl
theorem ro_set_n (w : Nat → Nat) {d e i : Nat} (h : i ≠ d) : ro_set w d e i = w i := if_neg h
theorem ro_4 {n : Nat} (h1 : 1 ≤ n) (h4 : n ≤ 4) : n = 1 ∨ n = 2 ∨ n = 3 ∨ n = 4 := by omega
theorem ro_3 {d : Nat} (h : d ≤ 3) : d = 0 ∨ d = 1 ∨ d = 2 ∨ d = 3 := by omega
theorem ro_all {P : Nat → Prop} {d : Nat} (hd : d ≤ 4) (h : (0 < d → P 0) ∧ (1 < d → P 1) ∧ (2 < d → P 2) ∧ (3 < d → P 3)) : ∀ i, i < d → P i := by
  intro i hi
  have : i = 0 ∨ i = 1 ∨ i = 2 ∨ i = 3 := by omega
  rcases this with rfl | rfl | rfl | rfl
  · exact h.1 hi
  · exact h.2.1 hi
  · exact h.2.2.1 hi
  · exact h.2.2.2 hi
theorem ro_pre {w w' : Nat → Nat} {n d e : Nat} (hd : d ≤ 3) (h1 : 1 ≤ n) (h4 : n ≤ 4) (h7 : ∀ i, i < n → w' i ≤ 7) (hw : ∀ i, i < d → w i ≤ 7) (he : e ≤ 8)
    (hl : ro_N w d e ≤ ro_num w' n) (hr : ro_num w' n < ro_N w d (e + 1)) : d < n ∧ (∀ i, i < d → w' i = w i) ∧ w' d = e := by
  have a0 := h7 0
  have a1 := h7 1
  have a2 := h7 2
  have a3 := h7 3
  have b0 := hw 0
  have b1 := hw 1
  have b2 := hw 2
  clear h7 hw
  have : d < n ∧ ((0 < d → w' 0 = w 0) ∧ (1 < d → w' 1 = w 1) ∧ (2 < d → w' 2 = w 2) ∧ (3 < d → w' 3 = w 3)) ∧ w' d = e := by
    unfold ro_N ro_num ro_dg ro_set at hl hr
    rcases ro_3 hd with rfl | rfl | rfl | rfl <;> rcases ro_4 h1 h4 with rfl | rfl | rfl | rfl <;> simp at a0 a1 a2 a3 b0 b1 b2 hl hr ⊢ <;> omega
  exact ⟨this.1, ro_all (by omega) this.2.1, this.2.2⟩
theorem ro_back {w w' : Nat → Nat} {n d e : Nat} (hd : d + 1 ≤ 3) (h1 : 1 ≤ n) (h4 : n ≤ 4) (h7 : ∀ i, i < n → w' i ≤ 7) (hw : ∀ i, i < d + 1 → w i ≤ 7) (he : e ≤ 8)
    (hl : ro_N w (d + 1) e ≤ ro_num w' n) (hr : ro_num w' n < ro_N w d (w d + 1)) : d + 1 < n ∧ (∀ i, i < d + 1 → w' i = w i) ∧ e ≤ w' (d + 1) := by
  have a0 := h7 0
  have a1 := h7 1
  have a2 := h7 2
  have a3 := h7 3
  have b0 := hw 0
  have b1 := hw 1
  have b2 := hw 2
  clear h7 hw
  have : d + 1 < n ∧ ((0 < d + 1 → w' 0 = w 0) ∧ (1 < d + 1 → w' 1 = w 1) ∧ (2 < d + 1 → w' 2 = w 2) ∧ (3 < d + 1 → w' 3 = w 3)) ∧ e ≤ w' (d + 1) := by
    unfold ro_N ro_num ro_dg ro_set at hl hr
    have hd' : d = 0 ∨ d = 1 ∨ d = 2 := by omega
    rcases hd' with rfl | rfl | rfl <;> rcases ro_4 h1 h4 with rfl | rfl | rfl | rfl <;> simp at a0 a1 a2 a3 b0 b1 b2 hl hr ⊢ <;> omega
  exact ⟨this.1, ro_all (by omega) this.2.1, this.2.2⟩
theorem ro_back0 {w w' : Nat → Nat} {n e : Nat} (h1 : 1 ≤ n) (h4 : n ≤ 4) (h7 : ∀ i, i < n → w' i ≤ 7) (he : e ≤ 8)
    (hl : ro_N w 0 e ≤ ro_num w' n) : e ≤ w' 0 := by
  have a0 := h7 0
  have a1 := h7 1
  have a2 := h7 2
  have a3 := h7 3
  clear h7
  unfold ro_N ro_num ro_dg ro_set at hl
  rcases ro_4 h1 h4 with rfl | rfl | rfl | rfl <;> simp at a0 a1 a2 a3 hl ⊢ <;> omega
theorem ro_desc {w w' : Nat → Nat} {n d : Nat} (hd : d + 1 ≤ 3) (h1 : 1 ≤ n) (h4 : n ≤ 4) (h7 : ∀ i, i < n → w' i ≤ 7) (hw : ∀ i, i < d + 1 → w i ≤ 7)
    (hl : ro_N w d (w d) ≤ ro_num w' n) (hr : ro_num w' n < ro_N w (d + 1) 0) : n = d + 1 ∧ (∀ i, i < d + 1 → w' i = w i) := by
  have a0 := h7 0
  have a1 := h7 1
  have a2 := h7 2
  have a3 := h7 3
  have b0 := hw 0
  have b1 := hw 1
  have b2 := hw 2
  clear h7 hw
  have : n = d + 1 ∧ ((0 < d + 1 → w' 0 = w 0) ∧ (1 < d + 1 → w' 1 = w 1) ∧ (2 < d + 1 → w' 2 = w 2) ∧ (3 < d + 1 → w' 3 = w 3)) := by
    unfold ro_N ro_num ro_dg ro_set at hl hr
    have hd' : d = 0 ∨ d = 1 ∨ d = 2 := by omega
    rcases hd' with rfl | rfl | rfl <;> rcases ro_4 h1 h4 with rfl | rfl | rfl | rfl <;> simp at a0 a1 a2 a3 b0 b1 b2 hl hr ⊢ <;> omega
  exact ⟨this.1, ro_all (by omega) this.2⟩
theorem ro_N_c {w w' : Nat → Nat} {d e : Nat} (hd : d ≤ 3) (h : ∀ i, i < d → w i = w' i) : ro_N w d e = ro_N w' d e := by
  have b0 := h 0
  have b1 := h 1
  have b2 := h 2
  clear h
  unfold ro_N ro_num ro_dg ro_set
  rcases ro_3 hd with rfl | rfl | rfl | rfl <;> simp at b0 b1 b2 ⊢ <;> omega
theorem ro_N_lt {w : Nat → Nat} {d e e' : Nat} (hd : d ≤ 3) (h : e < e') : ro_N w d e < ro_N w d e' := by
  unfold ro_N ro_num ro_dg ro_set
  rcases ro_3 hd with rfl | rfl | rfl | rfl <;> simp <;> omega
theorem ro_N_back {w : Nat → Nat} {d e : Nat} (hd : d + 1 ≤ 3) (he : e ≤ 8) : ro_N w (d + 1) e < ro_N w d (w d + 1) := by
  unfold ro_N ro_num ro_dg ro_set
  have hd' : d = 0 ∨ d = 1 ∨ d = 2 := by omega
  rcases hd' with rfl | rfl | rfl <;> simp <;> omega
theorem ro_N_desc {w : Nat → Nat} {d : Nat} (hd : d + 1 ≤ 3) : ro_N w d (w d) < ro_N w (d + 1) 0 := by
  unfold ro_N ro_num ro_dg ro_set
  have hd' : d = 0 ∨ d = 1 ∨ d = 2 := by omega
  rcases hd' with rfl | rfl | rfl <;> simp <;> omega
theorem ro_N_max {w : Nat → Nat} {d e : Nat} (hd : d ≤ 3) (hw : ∀ i, i < d → w i ≤ 7) (he : e ≤ 8) : ro_N w d e < 10000 := by
  have b0 := hw 0
  have b1 := hw 1
  have b2 := hw 2
  clear hw
  unfold ro_N ro_num ro_dg ro_set
  rcases ro_3 hd with rfl | rfl | rfl | rfl <;> simp at b0 b1 b2 ⊢ <;> omega
/-- the number of a route that is found at depth d -/
theorem ro_num_N {w : Nat → Nat} {d : Nat} (hd : d ≤ 3) : ro_num w (d + 1) = ro_N w d (w d) := by
  unfold ro_N ro_num ro_dg ro_set
  rcases ro_3 hd with rfl | rfl | rfl | rfl <;> simp
theorem ro_num_c {w w' : Nat → Nat} {n : Nat} (h1 : 1 ≤ n) (h4 : n ≤ 4) (h : ∀ i, i < n → w i = w' i) : ro_num w n = ro_num w' n := by
  have b0 := h 0
  have b1 := h 1
  have b2 := h 2
  have b3 := h 3
  clear h
  unfold ro_num ro_dg
  rcases ro_4 h1 h4 with rfl | rfl | rfl | rfl <;> simp at b0 b1 b2 b3 ⊢ <;> omega
/-- the digits of a code -/
def ro_dig (n c : Nat) : Nat → Nat := fun i => c / 8 ^ (n - 1 - i) % 8
theorem ro_dig7 (n c i : Nat) : ro_dig n c i ≤ 7 := Nat.le_of_lt_succ (Nat.mod_lt _ (by decide))
theorem ro_dig_u {w : Nat → Nat} {n : Nat} (h1 : 1 ≤ n) (h4 : n ≤ 4) (h7 : ∀ i, i < n → w i ≤ 7) : ∀ i, i < n → w i = ro_dig n (ro_code w n) i := by
  have a0 := h7 0
  have a1 := h7 1
  have a2 := h7 2
  have a3 := h7 3
  clear h7
  refine ro_all (P := fun i => w i = ro_dig n (ro_code w n) i) h4 ?_
  unfold ro_dig
  rcases ro_4 h1 h4 with rfl | rfl | rfl | rfl <;> simp [ro_code] at a0 a1 a2 a3 ⊢ <;> omega
theorem ro_dig_code {n c : Nat} (h1 : 1 ≤ n) (h4 : n ≤ 4) (hc : c < 8 ^ n) : ro_code (ro_dig n c) n = c := by
  unfold ro_dig
  rcases ro_4 h1 h4 with rfl | rfl | rfl | rfl <;> simp [ro_code] at hc ⊢ <;> omega
theorem ro_code_lt {w : Nat → Nat} {n : Nat} (h1 : 1 ≤ n) (h4 : n ≤ 4) (h7 : ∀ i, i < n → w i ≤ 7) : ro_code w n < 8 ^ n := by
  have a0 := h7 0
  have a1 := h7 1
  have a2 := h7 2
  have a3 := h7 3
  clear h7
  rcases ro_4 h1 h4 with rfl | rfl | rfl | rfl <;> simp [ro_code] at a0 a1 a2 a3 ⊢ <;> omega
theorem ro_same {b b' : Nat → Nat} {n : Nat} (h1 : 1 ≤ n) (h4 : n ≤ 4) (h7 : ∀ i, i < n → b i ≤ 7) (h7' : ∀ i, i < n → b' i ≤ 7) (hc : ro_code b n ≤ ro_code b' n) (hn : ro_num b' n ≤ ro_num b n) : ∀ i, i < n → b i = b' i := by
  have a0 := h7 0
  have a1 := h7 1
  have a2 := h7 2
  have a3 := h7 3
  have c0 := h7' 0
  have c1 := h7' 1
  have c2 := h7' 2
  have c3 := h7' 3
  clear h7 h7'
  refine ro_all (P := fun i => b i = b' i) h4 ?_
  unfold ro_num ro_dg at hn
  rcases ro_4 h1 h4 with rfl | rfl | rfl | rfl <;> simp [ro_code] at a0 a1 a2 a3 c0 c1 c2 c3 hc hn ⊢ <;> omega
/-! the least route so far: by cost, length, key -/
def ro_min (sd ba ra : Nat → Nat) (C : Nat) (rd : Nat → Prop) (ca : Nat → Nat → Nat → Prop) (p q v : Nat) (K : (Nat → Nat) → Nat → Nat) (S : (Nat → Nat) → Nat → Prop) (b : Nat → Nat) (m : Nat) : Prop :=
  (m = 0 ∧ ∀ w n, S w n → ¬ ro_good sd ba ra C rd ca p q v w n) ∨
  (ro_good sd ba ra C rd ca p q v b m ∧ ∀ w n, S w n → ro_good sd ba ra C rd ca p q v w n →
    ro_cost sd ba ra p v b m < ro_cost sd ba ra p v w n ∨ (ro_cost sd ba ra p v b m = ro_cost sd ba ra p v w n ∧ (m < n ∨ (m = n ∧ K b m ≤ K w n))))
theorem ro_min_sub {p q v : Nat} {K : (Nat → Nat) → Nat → Nat} {S S' : (Nat → Nat) → Nat → Prop} {b : Nat → Nat} {m : Nat}
    (h : ro_min sd ba ra C rd ca p q v K S b m) (hS : ∀ w n, ro_good sd ba ra C rd ca p q v w n → S' w n → S w n) : ro_min sd ba ra C rd ca p q v K S' b m := by
  rcases h with ⟨h0, h⟩ | ⟨hg, h⟩
  · exact Or.inl ⟨h0, fun w n hs g => h w n (hS w n g hs) g⟩
  · exact Or.inr ⟨hg, fun w n hs g => h w n (hS w n g hs) g⟩
theorem ro_min_keep {p q v : Nat} {K : (Nat → Nat) → Nat → Nat} {S S' : (Nat → Nat) → Nat → Prop} {b : Nat → Nat} {m : Nat} {w0 : Nat → Nat} {n0 : Nat}
    (h : ro_min sd ba ra C rd ca p q v K S b m) (hm : 0 < m)
    (hS : ∀ w n, ro_good sd ba ra C rd ca p q v w n → S' w n → S w n ∨ (n = n0 ∧ K w n = K w0 n0 ∧ ∀ i, i < n → w i = w0 i))
    (hk : ro_cost sd ba ra p v b m < ro_cost sd ba ra p v w0 n0 ∨ (ro_cost sd ba ra p v b m = ro_cost sd ba ra p v w0 n0 ∧ (m < n0 ∨ (m = n0 ∧ K b m ≤ K w0 n0)))) : ro_min sd ba ra C rd ca p q v K S' b m := by
  rcases h with ⟨h0, h⟩ | ⟨hg, h⟩
  · omega
  · refine Or.inr ⟨hg, fun w n hs g => ?_⟩
    rcases hS w n g hs with h' | ⟨rfl, hK, he⟩
    · exact h w n h' g
    · rw [ro_cost_c sd ba ra he, hK]
      exact hk
theorem ro_min_put {p q v : Nat} {K : (Nat → Nat) → Nat → Nat} {S S' : (Nat → Nat) → Nat → Prop} {b : Nat → Nat} {m : Nat} {w0 : Nat → Nat} {n0 : Nat}
    (h : ro_min sd ba ra C rd ca p q v K S b m) (g0 : ro_good sd ba ra C rd ca p q v w0 n0)
    (hS : ∀ w n, ro_good sd ba ra C rd ca p q v w n → S' w n → S w n ∨ (n = n0 ∧ K w n = K w0 n0 ∧ ∀ i, i < n → w i = w0 i))
    (hk : 0 < m → ro_cost sd ba ra p v w0 n0 < ro_cost sd ba ra p v b m ∨ (ro_cost sd ba ra p v w0 n0 = ro_cost sd ba ra p v b m ∧ n0 < m)) : ro_min sd ba ra C rd ca p q v K S' w0 n0 := by
  refine Or.inr ⟨g0, fun w n hs g => ?_⟩
  rcases hS w n g hs with h' | ⟨rfl, hK, he⟩
  · rcases h with ⟨h0, h⟩ | ⟨hg, h⟩
    · exact absurd g (h w n h')
    · have h1 := h w n h' g
      have h2 := hk (by have := hg.1; omega)
      omega
  · rw [ro_cost_c sd ba ra he, hK]
    exact Or.inr ⟨rfl, Or.inr ⟨rfl, Nat.le_refl _⟩⟩
/-- the two least routes are one -/
theorem ro_min_one {p q v : Nat} {b b' : Nat → Nat} {m m' : Nat} (hC : C ≤ 8)
    (h : ro_min sd ba ra C rd ca p q v ro_code (fun _ _ => True) b m) (h' : ro_min sd ba ra C rd ca p q v ro_num (fun _ _ => True) b' m') :
    m = m' ∧ ∀ i, i < m → b i = b' i := by
  rcases h with ⟨h0, h⟩ | ⟨hg, h⟩ <;> rcases h' with ⟨h0', h'⟩ | ⟨hg', h'⟩
  · exact ⟨by omega, fun i hi => by omega⟩
  · exact absurd hg' (h _ _ trivial)
  · exact absurd hg (h' _ _ trivial)
  · have h1 := h _ _ trivial hg'
    have h2 := h' _ _ trivial hg
    have e : m = m' := by omega
    subst e
    exact ⟨rfl, ro_same hg.1 hg.2.1 (ro_good_dig sd ba ra C rd ca hC hg) (ro_good_dig sd ba ra C rd ca hC hg') (by omega) (by omega)⟩
/-! what lies between two heads of the search by depth -/
def ro_lead (sd : Nat → Nat) (C : Nat) (rd : Nat → Prop) (p q : Nat) (w : Nat → Nat) (n : Nat) : Prop :=
  1 ≤ n ∧ n ≤ 4 ∧ ro_walk sd C rd w p n ∧ ro_pt sd w p n = q
theorem ro_lead_dig {p q n : Nat} {w : Nat → Nat} (hC : C ≤ 8) (g : ro_lead sd C rd p q w n) : ∀ i, i < n → w i ≤ 7 := fun i hi => by
  have := (g.2.2.1 i hi).1; omega
theorem ro_good_lead {p q v n : Nat} {w : Nat → Nat} (g : ro_good sd ba ra C rd ca p q v w n) : ro_lead sd C rd p q w n := ⟨g.1, g.2.1, g.2.2.1, g.2.2.2.1⟩
theorem ro_dfs_back {p q n d e : Nat} {w w' : Nat → Nat} (hC : C ≤ 8) (hd : d + 1 ≤ 3) (hw : ∀ i, i < d + 1 → w i ≤ 7) (he : e ≤ 8) (hCe : C ≤ e)
    (g : ro_lead sd C rd p q w' n) (hl : ro_N w (d + 1) e ≤ ro_num w' n) (hr : ro_num w' n < ro_N w d (w d + 1)) : False := by
  obtain ⟨h1, h2, h3⟩ := ro_back hd g.1 g.2.1 (ro_lead_dig sd C rd hC g) hw he hl hr
  have := (g.2.2.1 (d + 1) h1).1
  omega
theorem ro_dfs_end {p q n e : Nat} {w w' : Nat → Nat} (hC : C ≤ 8) (he : e ≤ 8) (hCe : C ≤ e)
    (g : ro_lead sd C rd p q w' n) (hl : ro_N w 0 e ≤ ro_num w' n) : False := by
  have h := ro_back0 g.1 g.2.1 (ro_lead_dig sd C rd hC g) he hl
  have := (g.2.2.1 0 g.1).1
  omega
theorem ro_dfs_skip {p q n d : Nat} {w w' : Nat → Nat} (hC : C ≤ 8) (hd : d ≤ 3) (hw : ∀ i, i < d + 1 → w i ≤ 7) (hn : ¬ ro_hop sd C rd w p d)
    (g : ro_lead sd C rd p q w' n) (hl : ro_N w d (w d) ≤ ro_num w' n) (hr : ro_num w' n < ro_N w d (w d + 1)) : False := by
  have h7 := hw d (by omega)
  obtain ⟨h1, h2, h3⟩ := ro_pre hd g.1 g.2.1 (ro_lead_dig sd C rd hC g) (fun i hi => hw i (by omega)) (by omega) hl hr
  refine hn (ro_hop_c sd C rd (fun j hj => ?_) (g.2.2.1 d h1))
  rcases Nat.lt_or_ge j d with h | h
  · exact h2 j h
  · have : j = d := by omega
    subst this
    exact h3
theorem ro_dfs_found {p q n d : Nat} {w w' : Nat → Nat} (hC : C ≤ 8) (hd : d ≤ 3) (hw : ∀ i, i < d + 1 → w i ≤ 7) (hq : ro_pt sd w p (d + 1) = q)
    (g : ro_lead sd C rd p q w' n) (hl : ro_N w d (w d) ≤ ro_num w' n) (hr : ro_num w' n < ro_N w d (w d + 1)) : n = d + 1 ∧ ∀ i, i < n → w' i = w i := by
  have h7 := hw d (by omega)
  obtain ⟨h1, h2, h3⟩ := ro_pre hd g.1 g.2.1 (ro_lead_dig sd C rd hC g) (fun i hi => hw i (by omega)) (by omega) hl hr
  have e : ∀ j, j < d + 1 → w' j = w j := by
    intro j hj
    rcases Nat.lt_or_ge j d with h | h
    · exact h2 j h
    · have : j = d := by omega
      subst this
      exact h3
  have hn : n = d + 1 := by
    rcases Nat.lt_or_ge (d + 1) n with h | h
    · have hh := (g.2.2.1 (n - 1) (by omega)).2.2.2 (d + 1) (by omega)
      rw [show n - 1 + 1 = n by omega, g.2.2.2, ro_pt_c sd e (d + 1) (Nat.le_refl _), hq] at hh
      exact absurd rfl hh
    · omega
  subst hn
  exact ⟨rfl, e⟩
theorem ro_dfs_desc {p q n d : Nat} {w w' : Nat → Nat} (hC : C ≤ 8) (hd : d + 1 ≤ 3) (hw : ∀ i, i < d + 1 → w i ≤ 7) (hq : ro_pt sd w p (d + 1) ≠ q)
    (g : ro_lead sd C rd p q w' n) (hl : ro_N w d (w d) ≤ ro_num w' n) (hr : ro_num w' n < ro_N w (d + 1) 0) : False := by
  obtain ⟨rfl, h2⟩ := ro_desc hd g.1 g.2.1 (ro_lead_dig sd C rd hC g) hw hl hr
  have := g.2.2.2
  rw [ro_pt_c sd h2 (d + 1) (Nat.le_refl _)] at this
  exact hq this
theorem ro_dfs_leaf {p q n : Nat} {w w' : Nat → Nat} (hC : C ≤ 8) (hw : ∀ i, i < 4 → w i ≤ 7) (hq : ro_pt sd w p 4 ≠ q)
    (g : ro_lead sd C rd p q w' n) (hl : ro_N w 3 (w 3) ≤ ro_num w' n) (hr : ro_num w' n < ro_N w 3 (w 3 + 1)) : False := by
  have h7 := hw 3 (by omega)
  obtain ⟨h1, h2, h3⟩ := ro_pre (d := 3) (by omega) g.1 g.2.1 (ro_lead_dig sd C rd hC g) (fun i hi => hw i (by omega)) (by omega) hl hr
  have hn : n = 4 := by have := g.2.1; omega
  subst hn
  have e : ∀ j, j < 4 → w' j = w j := by
    intro j hj
    rcases Nat.lt_or_ge j 3 with h | h
    · exact h2 j h
    · have : j = 3 := by omega
      subst this
      exact h3
  have := g.2.2.2
  rw [ro_pt_c sd e 4 (Nat.le_refl _)] at this
  exact hq this
/-! parties met, as bits -/
theorem ro_pt_lt {p : Nat} {w : Nat → Nat} (hs : ∀ i, sd i < 6) (hp : p < 6) : ∀ i, ro_pt sd w p i < 6 := by
  intro i
  cases i with
  | zero => exact hp
  | succ i =>
    show ro_nx sd (w i) (ro_pt sd w p i) < 6
    unfold ro_nx
    by_cases h : sd (2 * w i) = ro_pt sd w p i
    · rw [if_pos h]; exact hs _
    · rw [if_neg h]; exact hs _
def ro_met (sd : Nat → Nat) (met : Int32) (w : Nat → Nat) (p i : Nat) : Prop := ∀ x, x < 32 → (bt met x = true ↔ ∃ j, j ≤ i ∧ ro_pt sd w p j = x)
theorem ro_met_0 {p : Nat} (w : Nat → Nat) (hp : p < 32) : ro_met sd ((1 : Int32) <<< (nI p &&& 31)) w p 0 := by
  intro x hx
  rw [cw_one hp hx, decide_eq_true_iff]
  constructor
  · intro e; exact ⟨0, Nat.le_refl _, e.symm⟩
  · rintro ⟨j, hj, e⟩
    have : j = 0 := by omega
    subst this
    exact e.symm
theorem ro_met_S {p i : Nat} {met : Int32} {w : Nat → Nat} (h : ro_met sd met w p i) (ha : ro_pt sd w p (i + 1) < 32) : ro_met sd (met ||| ((1 : Int32) <<< (nI (ro_pt sd w p (i + 1)) &&& 31))) w p (i + 1) := by
  intro x hx
  rw [cw_set met ha hx, Bool.or_eq_true, h x hx, decide_eq_true_iff]
  constructor
  · rintro (⟨j, hj, e⟩ | e)
    · exact ⟨j, by omega, e⟩
    · exact ⟨i + 1, Nat.le_refl _, e.symm⟩
  · rintro ⟨j, hj, e⟩
    rcases Nat.lt_or_ge i j with hh | hh
    · have : j = i + 1 := by omega
      subst this
      exact Or.inr e.symm
    · exact Or.inl ⟨j, hh, e⟩
/-- the greatest value by bits -/
theorem ro_top {G : Nat → Prop} {c m : Nat} (h1 : c = 0 ∨ G c) (h2 : c ≤ 255) (h3 : ∀ v, c + 1 ≤ v → v ≤ 255 → ¬ G v) (k1 : m = 0 ∨ G m) (k2 : m ≤ 255) (k3 : ∀ v, 1 ≤ v → v ≤ 255 → G v → v ≤ m) : c = m := by
  rcases Nat.lt_or_ge c m with h | h
  · rcases k1 with k | k
    · omega
    · exact absurd k (h3 m (by omega) k2)
  · rcases h1 with h' | h'
    · omega
    · rcases Nat.eq_zero_or_pos c with h0 | h0
      · omega
      · have := k3 c h0 h2 h'
        omega
end RO
