/-! part 03: rows of locks, balances: pure -/
def cw_Lk (sp : Int32) (xf xa xe : Nat → Int32) (z f a s e : Int32) : Prop :=
  ∃ L, L < 64 ∧ z = nI L ∧ bt sp (L / 4) = true ∧ f = xf L ∧ (f = 0 ∨ f = 1) ∧ a = xa L ∧ s = nI (L / 4) ∧ e = xe L
def cw_Row (sp : Int32) (xf xa xe : Nat → Int32) (n yn : Int32) (xi yf ya ys ye : Nat → Int32) (x y : Nat) : Prop :=
  ∃ m, m ≤ 3 ∧ n = nI m ∧ yn = nI m ∧ ∀ j, j < m → cw_Lk sp xf xa xe (xi (x + j)) (yf (y + j)) (ya (y + j)) (ys (y + j)) (ye (y + j))
theorem cw_Row_move {sp : Int32} {xf xa xe : Nat → Int32} {n yn : Int32} {xi yf ya ys ye xi' yf' ya' ys' ye' : Nat → Int32} {x y x' y' : Nat}
    (h : cw_Row sp xf xa xe n yn xi yf ya ys ye x y) (hx : ∀ j, j < 3 → xi' (x' + j) = xi (x + j))
    (hy : ∀ j m, j < m → m ≤ 3 → n = nI m → yf' (y' + j) = yf (y + j) ∧ ya' (y' + j) = ya (y + j) ∧ ys' (y' + j) = ys (y + j) ∧ ye' (y' + j) = ye (y + j)) :
    cw_Row sp xf xa xe n yn xi' yf' ya' ys' ye' x' y' := by
  obtain ⟨m, hm, e1, e2, hj⟩ := h
  refine ⟨m, hm, e1, e2, fun j h => ?_⟩
  obtain ⟨a1, a2, a3, a4⟩ := hy j m h hm e1
  rw [hx j (by omega), a1, a2, a3, a4]
  exact hj j h
theorem cw_Row_rem {sp : Int32} {xf xa xe : Nat → Int32} {yn : Int32} {xi yf ya ys ye xi' yf' ya' ys' ye' : Nat → Int32} {x y x' y' m j0 : Nat}
    (h : cw_Row sp xf xa xe (nI (m + 1)) yn xi yf ya ys ye x y) (hm : m + 1 ≤ 3)
    (hx : ∀ j, j < m → xi' (x' + j) = if j < j0 then xi (x + j) else xi (x + (j + 1)))
    (hf : ∀ j, j < m → yf' (y' + j) = if j < j0 then yf (y + j) else yf (y + (j + 1)))
    (ha : ∀ j, j < m → ya' (y' + j) = if j < j0 then ya (y + j) else ya (y + (j + 1)))
    (hs : ∀ j, j < m → ys' (y' + j) = if j < j0 then ys (y + j) else ys (y + (j + 1)))
    (he : ∀ j, j < m → ye' (y' + j) = if j < j0 then ye (y + j) else ye (y + (j + 1))) :
    cw_Row sp xf xa xe (nI m) (nI m) xi' yf' ya' ys' ye' x' y' := by
  obtain ⟨m', hm', e1, e2, hj⟩ := h
  have : m + 1 = m' := (nI_eq (by omega) (by omega)).mp e1
  subst this
  refine ⟨m, by omega, rfl, rfl, fun j h => ?_⟩
  rw [hx j h, hf j h, ha j h, hs j h, he j h]
  by_cases h0 : j < j0
  · simp only [h0, if_true]; exact hj j (by omega)
  · simp only [h0, if_false]; exact hj (j + 1) (by omega)
theorem cw_Row_add {sp : Int32} {xf xa xe : Nat → Int32} {yn : Int32} {xi yf ya ys ye xi' yf' ya' ys' ye' : Nat → Int32} {x y x' y' m : Nat}
    (h : cw_Row sp xf xa xe (nI m) yn xi yf ya ys ye x y) (hm : m + 1 ≤ 3)
    (hx : ∀ j, j < m → xi' (x' + j) = xi (x + j))
    (hf : ∀ j, j < m → yf' (y' + j) = yf (y + j)) (ha : ∀ j, j < m → ya' (y' + j) = ya (y + j))
    (hs : ∀ j, j < m → ys' (y' + j) = ys (y + j)) (he : ∀ j, j < m → ye' (y' + j) = ye (y + j))
    (hn : cw_Lk sp xf xa xe (xi' (x' + m)) (yf' (y' + m)) (ya' (y' + m)) (ys' (y' + m)) (ye' (y' + m))) :
    cw_Row sp xf xa xe (nI (m + 1)) (nI (m + 1)) xi' yf' ya' ys' ye' x' y' := by
  obtain ⟨m', hm', e1, e2, hj⟩ := h
  have : m = m' := (nI_eq (by omega) (by omega)).mp e1
  subst this
  refine ⟨m + 1, hm, rfl, rfl, fun j h => ?_⟩
  rcases Nat.lt_or_ge j m with h' | h'
  · rw [hx j h', hf j h', ha j h', hs j h', he j h']; exact hj j h'
  · have : j = m := by omega
    subst this
    exact hn
theorem cw_Row_sp {sp sp' : Int32} {xf xa xe xf' xa' xe' : Nat → Int32} {n yn : Int32} {xi yf ya ys ye : Nat → Int32} {x y : Nat}
    (hL : ∀ L, L < 64 → bt sp (L / 4) = true → bt sp' (L / 4) = true ∧ xf' L = xf L ∧ xa' L = xa L ∧ xe' L = xe L)
    (h : cw_Row sp xf xa xe n yn xi yf ya ys ye x y) : cw_Row sp' xf' xa' xe' n yn xi yf ya ys ye x y := by
  obtain ⟨m, hm, e1, e2, hj⟩ := h
  refine ⟨m, hm, e1, e2, fun j h => ?_⟩
  obtain ⟨L, h64, ez, hb, ef, h01, ea, es, ee⟩ := hj j h
  obtain ⟨b1, b2, b3, b4⟩ := hL L h64 hb
  exact ⟨L, h64, ez, b1, by rw [b2]; exact ef, h01, by rw [b3]; exact ea, es, by rw [b4]; exact ee⟩
theorem cw_Row_0 {sp : Int32} {xf xa xe : Nat → Int32} {xi yf ya ys ye : Nat → Int32} {x y : Nat} : cw_Row sp xf xa xe 0 0 xi yf ya ys ye x y :=
  ⟨0, by omega, rfl, rfl, fun j h => by omega⟩
/-! all rows -/
def cw_G (sp : Int32) (xf xa xe xc xi yl yf ya ys ye : Nat → Int32) : Prop :=
  ∀ c k, c < 8 → k < 12 → cw_Row sp xf xa xe (xc (13 * c + k)) (yl (12 * c + k)) xi yf ya ys ye (3 * (13 * c + k)) (3 * (12 * c + k))
def cw_O (sp : Int32) (xf xa xe xc xi st ou zf za zs ze : Nat → Int32) : Prop :=
  ∀ c, c < 8 → cw_Row sp xf xa xe (xc (13 * c + 12)) (ou c) xi zf za zs ze (3 * (13 * c + 12)) (3 * c) ∧ (¬ st c = 1 → xc (13 * c + 12) = 0)
def cw_F (xb yb : Nat → Int32) : Prop := ∀ c k s, c < 8 → k < 12 → s < 2 → yb (2 * (12 * c + k) + s) = xb (2 * (13 * c + k) + s)
theorem cw_G_put {sp : Int32} {xf xa xe xc xi yl yf ya ys ye xc' xi' yl' yf' ya' ys' ye' : Nat → Int32} (h : cw_G sp xf xa xe xc xi yl yf ya ys ye) {c0 k0 : Nat} (hc0 : c0 < 8) (hk0 : k0 < 12)
    (hxc : ∀ i, i ≠ 13 * c0 + k0 → xc' i = xc i) (hyl : ∀ i, i ≠ 12 * c0 + k0 → yl' i = yl i)
    (hxi : ∀ i, (i < 3 * (13 * c0 + k0) ∨ 3 * (13 * c0 + k0) + 3 ≤ i) → xi' i = xi i)
    (hyf : ∀ i, (i < 3 * (12 * c0 + k0) ∨ 3 * (12 * c0 + k0) + 3 ≤ i) → yf' i = yf i ∧ ya' i = ya i ∧ ys' i = ys i ∧ ye' i = ye i)
    (hr : cw_Row sp xf xa xe (xc' (13 * c0 + k0)) (yl' (12 * c0 + k0)) xi' yf' ya' ys' ye' (3 * (13 * c0 + k0)) (3 * (12 * c0 + k0))) :
    cw_G sp xf xa xe xc' xi' yl' yf' ya' ys' ye' := by
  intro c k hc hk
  by_cases e : c = c0 ∧ k = k0
  · obtain ⟨rfl, rfl⟩ := e
    exact hr
  · rw [hxc (13 * c + k) (by omega), hyl (12 * c + k) (by omega)]
    exact cw_Row_move (h c k hc hk) (fun j hj => hxi _ (by omega)) (fun j m hj hm _ => hyf _ (by omega))
theorem cw_G_frame {sp : Int32} {xf xa xe xc xi yl yf ya ys ye xc' xi' : Nat → Int32} (h : cw_G sp xf xa xe xc xi yl yf ya ys ye)
    (hxc : ∀ c k, c < 8 → k < 12 → xc' (13 * c + k) = xc (13 * c + k)) (hxi : ∀ c k j, c < 8 → k < 12 → j < 3 → xi' (3 * (13 * c + k) + j) = xi (3 * (13 * c + k) + j)) :
    cw_G sp xf xa xe xc' xi' yl yf ya ys ye := by
  intro c k hc hk
  rw [hxc c k hc hk]
  exact cw_Row_move (h c k hc hk) (fun j hj => hxi c k j hc hk hj) (fun j m hj hm _ => ⟨rfl, rfl, rfl, rfl⟩)
theorem cw_O_put {sp : Int32} {xf xa xe xc xi st ou zf za zs ze xc' xi' st' ou' zf' za' zs' ze' : Nat → Int32} (h : cw_O sp xf xa xe xc xi st ou zf za zs ze) {c0 : Nat} (hc0 : c0 < 8)
    (hxc : ∀ i, i ≠ 13 * c0 + 12 → xc' i = xc i) (hou : ∀ i, i ≠ c0 → ou' i = ou i) (hst : ∀ i, i ≠ c0 → st' i = st i)
    (hxi : ∀ i, (i < 3 * (13 * c0 + 12) ∨ 3 * (13 * c0 + 12) + 3 ≤ i) → xi' i = xi i)
    (hyf : ∀ i, (i < 3 * c0 ∨ 3 * c0 + 3 ≤ i) → zf' i = zf i ∧ za' i = za i ∧ zs' i = zs i ∧ ze' i = ze i)
    (hr : cw_Row sp xf xa xe (xc' (13 * c0 + 12)) (ou' c0) xi' zf' za' zs' ze' (3 * (13 * c0 + 12)) (3 * c0) ∧ (¬ st' c0 = 1 → xc' (13 * c0 + 12) = 0)) :
    cw_O sp xf xa xe xc' xi' st' ou' zf' za' zs' ze' := by
  intro c hc
  by_cases e : c = c0
  · subst e
    exact hr
  · rw [hxc (13 * c + 12) (by omega), hou c e, hst c e]
    exact ⟨cw_Row_move (h c hc).1 (fun j hj => hxi _ (by omega)) (fun j m hj hm _ => hyf _ (by omega)), (h c hc).2⟩
theorem cw_O_frame {sp : Int32} {xf xa xe xc xi st ou zf za zs ze xc' xi' : Nat → Int32} (h : cw_O sp xf xa xe xc xi st ou zf za zs ze)
    (hxc : ∀ c, c < 8 → xc' (13 * c + 12) = xc (13 * c + 12)) (hxi : ∀ c j, c < 8 → j < 3 → xi' (3 * (13 * c + 12) + j) = xi (3 * (13 * c + 12) + j)) :
    cw_O sp xf xa xe xc' xi' st ou zf za zs ze := by
  intro c hc
  rw [hxc c hc]
  exact ⟨cw_Row_move (h c hc).1 (fun j hj => hxi c j hc hj) (fun j m hj hm _ => ⟨rfl, rfl, rfl, rfl⟩), (h c hc).2⟩
theorem cw_F_put {xb yb : Nat → Int32} (h : cw_F xb yb) {c k s x y : Nat} (hc : c < 8) (hk : k < 12) (hs : s < 2) {z z' : Int32} (hx : x = 2 * (13 * c + k) + s) (hy : y = 2 * (12 * c + k) + s) (hz : z' = z) : cw_F (upd xb x z) (upd yb y z') := by
  subst hx hy hz
  intro c' k' s' hc' hk' hs'
  unfold upd
  by_cases e : c' = c ∧ k' = k ∧ s' = s
  · obtain ⟨rfl, rfl, rfl⟩ := e
    rw [if_pos rfl, if_pos rfl]
  · rw [if_neg (by omega), if_neg (by omega)]
    exact h c' k' s' hc' hk' hs'
/-! removing a lock: after a copy, or in place -/
theorem cw_rem_cp (f : Nat → Int32) {s t n j i q : Nat} (hi : i < q) (hq : q + 1 ≤ n) : cw_shf (cw_cp2 f f s t n) (t + j) (t + q) (t + i) = if i < j then f (s + i) else f (s + (i + 1)) := by
  by_cases h : i < j
  · rw [if_pos h, cw_shf_lo _ (by omega), cw_cp2_in _ _ (by omega)]
  · rw [if_neg h, cw_shf_in _ (by omega) (by omega), Nat.add_assoc, cw_cp2_in _ _ (by omega)]
theorem cw_rem_in (f : Nat → Int32) {t j i q : Nat} (hi : i < q) : cw_shf f (t + j) (t + q) (t + i) = if i < j then f (t + i) else f (t + (i + 1)) := by
  by_cases h : i < j
  · rw [if_pos h, cw_shf_lo _ (by omega)]
  · rw [if_neg h, cw_shf_in _ (by omega) (by omega), Nat.add_assoc]
theorem cw_shf_out (f : Nat → Int32) {t j q i : Nat} (h : i < t ∨ t + 3 ≤ i) (hq : q ≤ 3) : cw_shf f (t + j) (t + q) i = f i := by
  rcases h with h | h
  · exact cw_shf_lo _ (by omega)
  · exact cw_shf_hi _ (by omega)
theorem cw_cp2_out (f g : Nat → Int32) {s t n i : Nat} (h : i < t ∨ t + 3 ≤ i) (hn : n ≤ 3) : cw_cp2 f g s t n i = g i := by
  rcases h with h | h
  · exact cw_cp2_lo _ _ h
  · exact cw_cp2_hi _ _ (by omega)
