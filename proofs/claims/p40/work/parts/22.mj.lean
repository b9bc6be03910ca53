/-! the model: insert, edition -/
/-- where a tick is after an insertion -/
def ipd (t a m : Int) : Int := if a ≤ t then t + m else t
def INS (M : Nat → Nat → Int) (a m : Int) (M' : Nat → Nat → Int) : Prop :=
  (∀ r i, r ≠ 100 → ¬ (107 ≤ r ∧ r ≤ 109) → r ≠ 111 → r ≠ 112 → M' r i = M r i) ∧ (∀ i, i ≠ 0 → i ≠ 1 → i ≠ 20 → M' 100 i = M 100 i) ∧
  (M' 100 0 = 0 ∧ M' 100 1 = M 100 1 + m ∧ M' 100 20 = 0) ∧
  (∀ k : Nat, (k : Int) < M 100 4 → M' 107 k = ipd (M 107 k) a m ∧ M' 108 k = if a < M 108 k ∨ a ≤ M 107 k then M 108 k + m else M 108 k) ∧
  (∀ f, f < 10 → M' 111 f = ipd (M 111 f) a m ∧ M' 112 f = ipd (M 112 f) a m) ∧
  (∀ j, j < 10 → M' 109 j = if 0 < M 109 j ∧ a ≤ M 109 j - 1 then M 109 j + m else M 109 j)
section
variable {st : List Value} {B : Nat} {I C : am_I} {P : am_P} {G : am_G} {k s d : Nat} {Q : am_Q} {M : Nat → Nat → Int} {K : Int}
end
