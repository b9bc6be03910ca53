/-! the model: edition, use -/
def EDI (M : Nat → Nat → Int) (e : Nat) (M' : Nat → Nat → Int) : Prop :=
  (∀ r i, r ≠ 100 → ¬ (131 ≤ r ∧ r ≤ 147) → M' r i = M r i) ∧ (∀ i, i ≠ 0 → i ≠ 29 → M' 100 i = M 100 i) ∧ (M' 100 0 = 0 ∧ M' 100 29 = (e : Int) + 1) ∧
  (M' 131 e = M 100 1 ∧ M' 132 e = M 100 4) ∧ (∀ i, i < e → M' 131 i = M 131 i ∧ M' 132 i = M 132 i) ∧
  (∀ k : Nat, (k : Int) < M 100 4 → M' 133 (e * 30 + k) = M 106 k ∧ M' 134 (e * 30 + k) = M 107 k ∧ M' 135 (e * 30 + k) = M 108 k) ∧ (∀ r i, 133 ≤ r → r ≤ 135 → i < e * 30 → M' r i = M r i) ∧
  (∀ r k, 136 ≤ r → r ≤ 146 → k < 10 → M' r (e * 10 + k) = M (r - 27) k) ∧ (∀ r i, 136 ≤ r → r ≤ 146 → i < e * 10 → M' r i = M r i) ∧
  (∀ i, i < 30 → M' 147 (e * 30 + i) = M 120 i) ∧ (∀ i, i < e * 30 → M' 147 i = M 147 i)
/-- the fields of a fact kept at a place -/
def edN (M N : Nat → Nat → Int) (at_ k : Nat) : Nat → Nat → Int := fun r i => if (136 ≤ r ∧ r ≤ 146) ∧ i = at_ then M (r - 27) k else N r i
theorem edN_e (M N : Nat → Nat → Int) (p k : Nat) : am_u (am_u (am_u (am_u (am_u (am_u (am_u (am_u (am_u (am_u (am_u N 136 p (M 109 k)) 137 p (M 110 k)) 138 p (M 111 k)) 139 p (M 112 k)) 140 p (M 113 k)) 141 p (M 114 k)) 142 p (M 115 k)) 143 p (M 116 k)) 144 p (M 117 k)) 145 p (M 118 k)) 146 p (M 119 k) = edN M N p k := by
  funext r i
  unfold edN
  by_cases h : 136 ≤ r ∧ r ≤ 146
  · by_cases h2 : i = p
    · subst h2
      rw [if_pos ⟨h, rfl⟩]
      rcases (show r = 136 ∨ r = 137 ∨ r = 138 ∨ r = 139 ∨ r = 140 ∨ r = 141 ∨ r = 142 ∨ r = 143 ∨ r = 144 ∨ r = 145 ∨ r = 146 by omega) with rfl | rfl | rfl | rfl | rfl | rfl | rfl | rfl | rfl | rfl | rfl <;> simp [am_u]
    · rw [if_neg (fun q => h2 q.2)]; simp [am_u, h2]
  · rw [if_neg (fun q => h q.1)]
    rw [am_u_na _ _ _ _ (by omega), am_u_na _ _ _ _ (by omega), am_u_na _ _ _ _ (by omega), am_u_na _ _ _ _ (by omega), am_u_na _ _ _ _ (by omega), am_u_na _ _ _ _ (by omega), am_u_na _ _ _ _ (by omega), am_u_na _ _ _ _ (by omega), am_u_na _ _ _ _ (by omega), am_u_na _ _ _ _ (by omega), am_u_na _ _ _ _ (by omega)]
theorem edN_o {M N : Nat → Nat → Int} {p k r i : Nat} (h : ¬ ((136 ≤ r ∧ r ≤ 146) ∧ i = p)) : edN M N p k r i = N r i := if_neg h
section
variable {st : List Value} {B : Nat} {I C : am_I} {P : am_P} {G : am_G} {k s d : Nat} {Q : am_Q} {M : Nat → Nat → Int} {K : Int}
end
