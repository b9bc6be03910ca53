/-! the model: isFact, noFact, length, isBarred, begins -/
/-- some sound of the first ones bars the part from a to b (u: music bars, too) -/
def brd (M : Nat → Nat → Int) (u a b : Int) : Nat → Bool
  | 0 => false
  | k + 1 => brd M u a b k || (decide (u ≠ 0 ∨ M 106 k ≠ 103) && decide (M 107 k < b) && decide (a < M 108 k))
def bar (M : Nat → Nat → Int) (u a b : Int) : Bool := brd M u a b (M 100 4).toNat
/-- a fact's length in a version -/
def lng (M : Nat → Nat → Int) (f v : Nat) : Int := (10 * M 120 (f * 3 + v) + M 100 2 - 1) / M 100 2
theorem lng_bd {K : Int} {M : Nat → Nat → Int} (hW : WFi K M) (hs : 2 ≤ M 100 2 ∧ M 100 2 ≤ 9) {f v : Nat} (h : f * 3 + v < 30) : 0 ≤ lng M f v ∧ lng M f v ≤ 500 := by
  have := wf_sy hW _ h
  unfold lng
  constructor
  · exact Int.ediv_nonneg (by omega) (by omega)
  · have h1 : (10 * M 120 (f * 3 + v) + M 100 2 - 1) / M 100 2 ≤ (10 * M 120 (f * 3 + v) + M 100 2 - 1) / 2 := by
      apply Int.le_ediv_of_mul_le (by omega)
      have h2 := Int.ediv_mul_le (10 * M 120 (f * 3 + v) + M 100 2 - 1) (b := M 100 2) (by omega)
      have h3 : 0 ≤ (10 * M 120 (f * 3 + v) + M 100 2 - 1) / M 100 2 := Int.ediv_nonneg (by omega) (by omega)
      have h4 : (10 * M 120 (f * 3 + v) + M 100 2 - 1) / M 100 2 * 2 ≤ (10 * M 120 (f * 3 + v) + M 100 2 - 1) / M 100 2 * M 100 2 := Int.mul_le_mul_of_nonneg_left (by omega) h3
      omega
    omega
theorem iI_div {a b : Int} (h : 0 ≤ a ∧ a ≤ 2147483647 ∧ 0 < b ∧ b ≤ 2147483647) : iI a / iI b = iI (a / b) := by
  have h1 := iI_toInt (a := a) ⟨by omega, h.2.1⟩
  have h2 := iI_toInt (a := b) ⟨by omega, h.2.2.2⟩
  have h3 : 0 ≤ a / b := Int.ediv_nonneg h.1 (by omega)
  have h4 : a / b ≤ a := Int.ediv_le_self _ h.1
  rw [← Int32.toInt_inj, Int32.toInt_div, h1, h2, iI_toInt ⟨by omega, by omega⟩, Int.tdiv_eq_ediv_of_nonneg h.1, Int.bmod_eq_of_le (by omega) (by omega)]
section
variable {st : List Value} {B : Nat} {I C : am_I} {P : am_P} {G : am_G} {k s d : Nat} {Q : am_Q} {M : Nat → Nat → Int} {K : Int}
theorem ty100 : (am_TY 100).1 = 99 := by rw [TY100]
theorem ty10 : (am_TY 10).1 = 8 := by rw [TY10]
theorem ty11 : (am_TY 11).1 = 2 := by rw [TY11]
theorem ty12 : (am_TY 12).1 = 0 := by rw [TY12]
theorem ty16 : (am_TY 16).1 = 7 := by rw [TY16]
theorem ty35 : (am_TY 35).1 = 4 := by rw [TY35]
theorem ty39 : (am_TY 39).1 = 6 := by rw [TY39]
theorem ty42 : (am_TY 42).1 = 3 := by rw [TY42]
end
