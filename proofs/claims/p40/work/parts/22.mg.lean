/-! the model's calls: tick to isSound -/
/-- bounds along ticks -/
theorem tkn_bd {K : Int} {M : Nat → Nat → Int} (hW : WFs K M) (hK : K ≤ 1000000) : ∀ n : Nat, n ≤ 200 → ((tkn M n).1 100 48 = 0 ∨ (tkn M n).1 100 48 = 1) ∧ (-1 ≤ (tkn M n).1 100 50 ∧ (tkn M n).1 100 50 ≤ 9) ∧ (-200 ≤ (tkn M n).1 100 51 + (n : Int) - 200 + 200 ∧ (tkn M n).1 100 51 ≤ 500) ∧ (0 ≤ (tkn M n).1 100 52 ∧ (tkn M n).1 100 52 ≤ K + n) ∧ (0 ≤ (tkn M n).2 ∧ (tkn M n).2 ≤ n) ∧ (tkn M n).1 100 0 = 0 := by
  intro n; induction n with
  | zero =>
    intro _
    have h2 := hW.2.1; have h3 := hW.2.2.1; have h4 := hW.2.2.2.1; have h5 := hW.2.2.2.2.1
    simp only [tkn]
    rw [am_u_ni _ _ _ _ (show (48 : Nat) ≠ 0 by omega), am_u_ni _ _ _ _ (show (50 : Nat) ≠ 0 by omega), am_u_ni _ _ _ _ (show (51 : Nat) ≠ 0 by omega), am_u_ni _ _ _ _ (show (52 : Nat) ≠ 0 by omega), am_u_eq]
    omega
  | succ n ih =>
    intro hn
    have h := ih (by omega)
    simp only [tkn]
    generalize tkn M n = r at *
    unfold tks
    split
    · split
      · dsimp only
        simp [am_u]
        omega
      · dsimp only
        simp [am_u]
        omega
    · dsimp only
      simp [am_u]
      omega
section
variable {st : List Value} {B : Nat} {I C : am_I} {P : am_P} {G : am_G} {k s d : Nat} {Q : am_Q} {M : Nat → Nat → Int} {K : Int}
theorem tol_bd (x : Int) : 0 ≤ tol x ∧ tol x ≤ 65535 := by unfold tol; split; omega; split; omega; split <;> omega
end
