/-! part 02s: the steps of the two searches, pure -/
section ROS
variable (sd ba ra : Nat → Nat) (C : Nat) (rd : Nat → Prop) (ca : Nat → Nat → Nat → Prop)
def ro_SX (n code : Nat) (w : Nat → Nat) (k : Nat) : Prop := k < n ∨ (k = n ∧ ro_code w k < code)
def ro_JX (sd ba ra : Nat → Nat) (C : Nat) (rd : Nat → Prop) (ca : Nat → Nat → Nat → Prop) (p q v n code : Nat) (b : Nat → Nat) (m : Nat) : Prop :=
  ro_min sd ba ra C rd ca p q v ro_code (ro_SX n code) b m ∧ m ≤ n ∧ (m = n → ro_code b m < code)
theorem ro_JX_0 {p q v : Nat} (b : Nat → Nat) : ro_JX sd ba ra C rd ca p q v 1 0 b 0 := by
  refine ⟨Or.inl ⟨rfl, fun w n hs g => ?_⟩, by omega, fun h => by omega⟩
  have := g.1
  rcases hs with h | ⟨h, h'⟩ <;> omega
theorem ro_SX_S {p q v n code : Nat} (hC : C ≤ 8) {w : Nat → Nat} {k : Nat} (g : ro_good sd ba ra C rd ca p q v w k) (hs : ro_SX n (code + 1) w k) (hc : code < 8 ^ n) :
    ro_SX n code w k ∨ (k = n ∧ ro_code w k = ro_code (ro_dig n code) n ∧ ∀ i, i < k → w i = ro_dig n code i) := by
  rcases hs with h | ⟨rfl, h⟩
  · exact Or.inl (Or.inl h)
  · rcases Nat.lt_or_ge (ro_code w k) code with h' | h'
    · exact Or.inl (Or.inr ⟨rfl, h'⟩)
    · have e : ro_code w k = code := by omega
      refine Or.inr ⟨rfl, ?_, ?_⟩
      · rw [e, ro_dig_code g.1 g.2.1 hc]
      · have := ro_dig_u g.1 g.2.1 (ro_good_dig sd ba ra C rd ca hC g)
        rw [e] at this
        exact this
theorem ro_JX_skip {p q v n code : Nat} {b : Nat → Nat} {m : Nat} (hC : C ≤ 8) (h : ro_JX sd ba ra C rd ca p q v n code b m) (hc : code < 8 ^ n) (ng : ¬ ro_good sd ba ra C rd ca p q v (ro_dig n code) n) : ro_JX sd ba ra C rd ca p q v n (code + 1) b m := by
  obtain ⟨h1, h2, h3⟩ := h
  refine ⟨ro_min_sub sd ba ra C rd ca h1 (fun w k g hs => ?_), h2, fun e => by have := h3 e; omega⟩
  rcases ro_SX_S sd ba ra C rd ca hC g hs hc with h' | ⟨rfl, _, he⟩
  · exact h'
  · exact absurd (ro_good_c sd ba ra C rd ca he g) ng
theorem ro_JX_keep {p q v n code : Nat} {b : Nat → Nat} {m : Nat} (hC : C ≤ 8) (h1n : 1 ≤ n) (h4 : n ≤ 4) (h : ro_JX sd ba ra C rd ca p q v n code b m) (hc : code < 8 ^ n) (hm : 0 < m) (hk : ro_cost sd ba ra p v b m ≤ ro_cost sd ba ra p v (ro_dig n code) n) : ro_JX sd ba ra C rd ca p q v n (code + 1) b m := by
  obtain ⟨h1, h2, h3⟩ := h
  refine ⟨ro_min_keep sd ba ra C rd ca h1 hm (fun w k g hs => ro_SX_S sd ba ra C rd ca hC g hs hc) ?_, h2, fun e => by have := h3 e; omega⟩
  rcases Nat.lt_or_ge (ro_cost sd ba ra p v b m) (ro_cost sd ba ra p v (ro_dig n code) n) with h' | h'
  · exact Or.inl h'
  · refine Or.inr ⟨by omega, ?_⟩
    rcases Nat.lt_or_ge m n with h'' | h''
    · exact Or.inl h''
    · have e : m = n := by omega
      refine Or.inr ⟨e, ?_⟩
      have := h3 e
      rw [ro_dig_code h1n h4 hc]
      omega
theorem ro_JX_put {p q v n code : Nat} {b : Nat → Nat} {m : Nat} (hC : C ≤ 8) (h : ro_JX sd ba ra C rd ca p q v n code b m) (hc : code < 8 ^ n) (g : ro_good sd ba ra C rd ca p q v (ro_dig n code) n) (hk : 0 < m → ro_cost sd ba ra p v (ro_dig n code) n < ro_cost sd ba ra p v b m) : ro_JX sd ba ra C rd ca p q v n (code + 1) (ro_dig n code) n := by
  obtain ⟨h1, h2, h3⟩ := h
  refine ⟨ro_min_put sd ba ra C rd ca h1 g (fun w k g hs => ro_SX_S sd ba ra C rd ca hC g hs hc) (fun h0 => Or.inl (hk h0)), Nat.le_refl _, fun _ => ?_⟩
  rw [ro_dig_code g.1 g.2.1 hc]
  omega
theorem ro_JX_next {p q v n : Nat} {b : Nat → Nat} {m : Nat} (hC : C ≤ 8) (h : ro_JX sd ba ra C rd ca p q v n (8 ^ n) b m) : ro_JX sd ba ra C rd ca p q v (n + 1) 0 b m := by
  obtain ⟨h1, h2, h3⟩ := h
  refine ⟨ro_min_sub sd ba ra C rd ca h1 (fun w k g hs => ?_), by omega, fun e => by omega⟩
  have hlt := ro_code_lt g.1 g.2.1 (ro_good_dig sd ba ra C rd ca hC g)
  rcases hs with h | ⟨h, h'⟩
  · rcases Nat.lt_or_ge k n with h' | h'
    · exact Or.inl h'
    · have : k = n := by omega
      subst this
      exact Or.inr ⟨rfl, hlt⟩
  · omega
theorem ro_JX_end {p q v : Nat} {b : Nat → Nat} {m : Nat} (h : ro_JX sd ba ra C rd ca p q v 5 0 b m) : ro_min sd ba ra C rd ca p q v ro_code (fun _ _ => True) b m :=
  ro_min_sub sd ba ra C rd ca h.1 (fun w k g _ => Or.inl (by have := g.2.1; omega))
/-! the reference's search -/
def ro_SY (N : Nat) (w : Nat → Nat) (k : Nat) : Prop := ro_num w k < N
def ro_JY (sd ba ra : Nat → Nat) (C : Nat) (rd : Nat → Prop) (ca : Nat → Nat → Nat → Prop) (p q v N : Nat) (b : Nat → Nat) (m : Nat) : Prop :=
  ro_min sd ba ra C rd ca p q v ro_num (ro_SY N) b m ∧ (0 < m → ro_num b m < N)
theorem ro_num_ge {w : Nat → Nat} {n : Nat} (h : 1 ≤ n) : 1000 ≤ ro_num w n := by
  unfold ro_num
  have : ro_dg w n 0 = w 0 + 1 := if_pos (by omega)
  omega
theorem ro_N00 (w : Nat → Nat) : ro_N w 0 0 = 1000 := by
  unfold ro_N ro_num ro_dg ro_set
  simp
theorem ro_JY_0 {p q v : Nat} (w b : Nat → Nat) : ro_JY sd ba ra C rd ca p q v (ro_N w 0 0) b 0 := by
  refine ⟨Or.inl ⟨rfl, fun w' n hs g => ?_⟩, fun h => by omega⟩
  have := ro_num_ge (w := w') g.1
  unfold ro_SY at hs
  rw [ro_N00] at hs
  omega
theorem ro_JY_mono {p q v N N' : Nat} {b : Nat → Nat} {m : Nat} (h : ro_JY sd ba ra C rd ca p q v N b m) (hN : N ≤ N')
    (hno : ∀ w n, ro_lead sd C rd p q w n → N ≤ ro_num w n → ro_num w n < N' → False) : ro_JY sd ba ra C rd ca p q v N' b m := by
  obtain ⟨h1, h2⟩ := h
  refine ⟨ro_min_sub sd ba ra C rd ca h1 (fun w k g hs => ?_), fun hm => by have := h2 hm; omega⟩
  rcases Nat.lt_or_ge (ro_num w k) N with h | h
  · exact h
  · exact (hno w k (ro_good_lead sd ba ra C rd ca g) h hs).elim
theorem ro_JY_bad {p q v N N' : Nat} {b : Nat → Nat} {m : Nat} {w0 : Nat → Nat} {n0 : Nat} (h : ro_JY sd ba ra C rd ca p q v N b m) (hN : N ≤ N')
    (hno : ∀ w n, ro_lead sd C rd p q w n → N ≤ ro_num w n → ro_num w n < N' → n = n0 ∧ ∀ i, i < n → w i = w0 i) (ng : ¬ ro_good sd ba ra C rd ca p q v w0 n0) : ro_JY sd ba ra C rd ca p q v N' b m := by
  obtain ⟨h1, h2⟩ := h
  refine ⟨ro_min_sub sd ba ra C rd ca h1 (fun w k g hs => ?_), fun hm => by have := h2 hm; omega⟩
  rcases Nat.lt_or_ge (ro_num w k) N with h | h
  · exact h
  · obtain ⟨rfl, e⟩ := hno w k (ro_good_lead sd ba ra C rd ca g) h hs
    exact absurd (ro_good_c sd ba ra C rd ca e g) ng
theorem ro_SY_S {p q v N N' : Nat} {w0 : Nat → Nat} {n0 : Nat}
    (hno : ∀ w n, ro_lead sd C rd p q w n → N ≤ ro_num w n → ro_num w n < N' → n = n0 ∧ ∀ i, i < n → w i = w0 i) {w : Nat → Nat} {n : Nat} (g : ro_good sd ba ra C rd ca p q v w n) (hs : ro_SY N' w n) :
    ro_SY N w n ∨ (n = n0 ∧ ro_num w n = ro_num w0 n0 ∧ ∀ i, i < n → w i = w0 i) := by
  rcases Nat.lt_or_ge (ro_num w n) N with h | h
  · exact Or.inl h
  · obtain ⟨rfl, e⟩ := hno w n (ro_good_lead sd ba ra C rd ca g) h hs
    exact Or.inr ⟨rfl, ro_num_c g.1 g.2.1 e, e⟩
theorem ro_JY_keep {p q v N N' : Nat} {b : Nat → Nat} {m : Nat} {w0 : Nat → Nat} {n0 : Nat} (h : ro_JY sd ba ra C rd ca p q v N b m) (hN : N ≤ N')
    (hno : ∀ w n, ro_lead sd C rd p q w n → N ≤ ro_num w n → ro_num w n < N' → n = n0 ∧ ∀ i, i < n → w i = w0 i) (hn : N ≤ ro_num w0 n0) (hm : 0 < m)
    (hk : ro_cost sd ba ra p v b m < ro_cost sd ba ra p v w0 n0 ∨ (ro_cost sd ba ra p v b m = ro_cost sd ba ra p v w0 n0 ∧ m ≤ n0)) : ro_JY sd ba ra C rd ca p q v N' b m := by
  obtain ⟨h1, h2⟩ := h
  have h3 := h2 hm
  refine ⟨ro_min_keep sd ba ra C rd ca h1 hm (fun w k g hs => ro_SY_S sd ba ra C rd ca hno g hs) ?_, fun hm => by omega⟩
  rcases hk with h | ⟨h, h'⟩
  · exact Or.inl h
  · refine Or.inr ⟨h, ?_⟩
    rcases Nat.lt_or_ge m n0 with h'' | h''
    · exact Or.inl h''
    · exact Or.inr ⟨by omega, by omega⟩
theorem ro_JY_put {p q v N N' : Nat} {b : Nat → Nat} {m : Nat} {w0 : Nat → Nat} {n0 : Nat} (h : ro_JY sd ba ra C rd ca p q v N b m)
    (hno : ∀ w n, ro_lead sd C rd p q w n → N ≤ ro_num w n → ro_num w n < N' → n = n0 ∧ ∀ i, i < n → w i = w0 i) (hn : ro_num w0 n0 < N') (g : ro_good sd ba ra C rd ca p q v w0 n0)
    (hk : 0 < m → ro_cost sd ba ra p v w0 n0 < ro_cost sd ba ra p v b m ∨ (ro_cost sd ba ra p v w0 n0 = ro_cost sd ba ra p v b m ∧ n0 < m)) : ro_JY sd ba ra C rd ca p q v N' w0 n0 :=
  ⟨ro_min_put sd ba ra C rd ca h.1 g (fun w k g hs => ro_SY_S sd ba ra C rd ca hno g hs) hk, fun _ => hn⟩
theorem ro_JY_end {p q v N : Nat} {b : Nat → Nat} {m : Nat} (h : ro_JY sd ba ra C rd ca p q v N b m) (hno : ∀ w n, ro_lead sd C rd p q w n → N ≤ ro_num w n → False) : ro_min sd ba ra C rd ca p q v ro_num (fun _ _ => True) b m := by
  refine ro_min_sub sd ba ra C rd ca h.1 (fun w k g _ => ?_)
  rcases Nat.lt_or_ge (ro_num w k) N with h | h
  · exact h
  · exact (hno w k (ro_good_lead sd ba ra C rd ca g) h).elim
/-! the reference's search for the most -/
def ro_JM (sd ba ra : Nat → Nat) (C : Nat) (rd : Nat → Prop) (ca : Nat → Nat → Nat → Prop) (p q N m : Nat) : Prop :=
  (m = 0 ∨ ∃ w n, ro_good sd ba ra C rd ca p q m w n) ∧ m ≤ 255 ∧ ∀ v w n, 1 ≤ v → v ≤ 255 → ro_good sd ba ra C rd ca p q v w n → ro_num w n < N → v ≤ m
theorem ro_JM_0 {p q : Nat} (w : Nat → Nat) : ro_JM sd ba ra C rd ca p q (ro_N w 0 0) 0 := by
  refine ⟨Or.inl rfl, by omega, fun v w' n _ _ g hs => ?_⟩
  have := ro_num_ge (w := w') g.1
  rw [ro_N00] at hs
  omega
theorem ro_JM_mono {p q N N' m : Nat} (h : ro_JM sd ba ra C rd ca p q N m)
    (hno : ∀ w n, ro_lead sd C rd p q w n → N ≤ ro_num w n → ro_num w n < N' → False) : ro_JM sd ba ra C rd ca p q N' m := by
  refine ⟨h.1, h.2.1, fun v w n h1 h2 g hs => ?_⟩
  rcases Nat.lt_or_ge (ro_num w n) N with h' | h'
  · exact h.2.2 v w n h1 h2 g h'
  · exact (hno w n (ro_good_lead sd ba ra C rd ca g) h' hs).elim
theorem ro_JM_put {p q N N' m m' : Nat} {w0 : Nat → Nat} {n0 : Nat} (h : ro_JM sd ba ra C rd ca p q N m)
    (hno : ∀ w n, ro_lead sd C rd p q w n → N ≤ ro_num w n → ro_num w n < N' → n = n0 ∧ ∀ i, i < n → w i = w0 i)
    (hm : m ≤ m') (h255 : m' ≤ 255) (hg : m' = m ∨ ro_good sd ba ra C rd ca p q m' w0 n0) (hmax : ∀ v, m' < v → v ≤ 255 → ¬ ro_good sd ba ra C rd ca p q v w0 n0) : ro_JM sd ba ra C rd ca p q N' m' := by
  refine ⟨?_, h255, fun v w n h1 h2 g hs => ?_⟩
  · rcases hg with rfl | hg
    · exact h.1
    · exact Or.inr ⟨w0, n0, hg⟩
  · rcases Nat.lt_or_ge (ro_num w n) N with h' | h'
    · have := h.2.2 v w n h1 h2 g h'
      omega
    · obtain ⟨rfl, e⟩ := hno w n (ro_good_lead sd ba ra C rd ca g) h' hs
      rcases Nat.lt_or_ge m' v with hh | hh
      · exact absurd (ro_good_c sd ba ra C rd ca e g) (hmax v hh h2)
      · exact hh
end ROS
