/-! the model: cut, walked -/
section
variable {st : List Value} {B : Nat} {I C : am_I} {P : am_P} {G : am_G} {k s d : Nat} {Q : am_Q} {M : Nat → Nat → Int} {K : Int}
theorem gon_cg {M N : Nat → Nat → Int} {a m : Int} {f : Nat} (h : N 110 f = M 110 f) (h2 : N 111 f = M 111 f) : gon N a m f ↔ gon M a m f := by unfold gon; rw [h, h2]
def cgd (M : Nat → Nat → Int) (a m : Int) : Prop := 0 ≤ a ∧ 1 ≤ m ∧ a + m ≤ M 100 1 ∧ m < M 100 1
theorem gnc_bd (M : Nat → Nat → Int) (a m : Int) (f : Nat) : 0 ≤ gnc M a m f ∧ gnc M a m f ≤ f := by
  induction f with
  | zero => simp [gnc]
  | succ f ih => simp only [gnc]; split <;> omega
end
