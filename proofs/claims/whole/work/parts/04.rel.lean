/-! part 04: the relation -/
section REL
variable {h sp ch bl yn : Int32} {co on ba ra gu se si st la pu ps sc he xb xc xi xf xa xe tc ts ta bc bs bm pb ou yb yl yf ya ys ye zf za zs ze wy pt su bb bu : Nat → Int32}
def cw_nt (N : Nat) (a : Nat → Int32) : Nat → Nat := fun i => if i < N then (a i).toNatClampNeg else 0
theorem cw_nt_e {N B i : Nat} {f : Nat → Int32} (hi : i < N) (hB : B < 2 ^ 31) (h : ∃ a, a < B ∧ f i = nI a) : f i = nI (cw_nt N f i) ∧ cw_nt N f i < B := by
  obtain ⟨a, ha, e⟩ := h
  unfold cw_nt
  rw [if_pos hi, e, nI_clamp (by omega)]
  exact ⟨rfl, ha⟩
theorem cw_nt_lt {N B : Nat} {f : Nat → Int32} (hB : B < 2 ^ 31) (h0 : 0 < B) (h : ∀ i, i < N → ∃ a, a < B ∧ f i = nI a) : ∀ i, cw_nt N f i < B := by
  intro i
  by_cases hi : i < N
  · exact (cw_nt_e hi hB (h i hi)).2
  · unfold cw_nt; rw [if_neg hi]; exact h0
def cw_S (H : Nat) (sc : Nat → Int32) : Prop := ∀ c, c < 8 → ∃ S, S ≤ H ∧ sc c = nI S
def cw_E (st la ps pb si : Nat → Int32) : Prop :=
  ∀ c, c < 8 → (∃ l, l < 12 ∧ la c = nI l) ∧ (st c = 0 ∨ st c = 1 ∨ st c = 2) ∧ (∃ s, s < 2 ∧ ps c = nI s ∧ (st c = 1 → pb c = si (2 * c + s)))
def cw_B (C : Nat) (si : Nat → Int32) : Prop := C ≤ 8 ∧ (∀ i, i < 16 → ∃ a, a < 6 ∧ si i = nI a) ∧ ∀ c, c < C → ¬ si (2 * c) = si (2 * c + 1)
def cw_D (on ba ra : Nat → Int32) : Prop := ∀ p, p < 6 → (on p = 0 ∨ on p = 1) ∧ (∃ b, b < 10 ∧ ba p = nI b) ∧ (∃ r, r < 21 ∧ ra p = nI r)
def cw_Z (C : Nat) (st : Nat → Int32) : Prop := ∀ c, C ≤ c → c < 8 → st c = 0
def cw_T (H C : Nat) (sp : Int32) (on ba ra gu si xf xa xe : Nat → Int32) (u : SX) (v : SY) : Prop :=
  ∃ (bl yn : Int32) (co se st la pu ps sc he xb xc xi tc ts ta bc bs bm pb ou yb yl yf ya ys ye zf za zs ze wy pt su bb bu : Nat → Int32),
    u = (nI H, sp, nI C, bl, co, on, ba, ra, gu, se, si, st, la, pu, ps, sc, he, xb, xc, xi, xf, xa, xe, tc, ts, ta, bc, bs, bm) ∧ v = (nI H, sp, nI C, yn, co, ba, ra, gu, se, on, si, st, la, pu, pb, sc, he, ou, yb, yl, yf, ya, ys, ye, zf, za, zs, ze, wy, pt, su, bb, bu) ∧
    cw_S H sc ∧ cw_E st la ps pb si ∧ cw_F xb yb ∧ cw_G sp xf xa xe xc xi yl yf ya ys ye ∧ cw_O sp xf xa xe xc xi st ou zf za zs ze ∧ cw_Z C st
def i_Rel (k : Nat) (u : SX) (v : SY) : Prop :=
  ∃ (H C : Nat) (sp : Int32) (on ba ra gu si xf xa xe : Nat → Int32), H ≤ 4 * k ∧ cw_B C si ∧ cw_D on ba ra ∧ cw_T H C sp on ba ra gu si xf xa xe u v
end REL
