/-! the model's calls: fact, goes, drop, names, thing, version, ticks -/
theorem ffd_sp (M : Nat → Nat → Int) : ∀ (n f : Nat), (∃ i, f ≤ i ∧ i < f + n ∧ M 110 i = 0) → M 110 (ffd M n f) = 0 ∧ f ≤ ffd M n f ∧ ffd M n f < f + n ∧ ∀ i, f ≤ i → i < ffd M n f → M 110 i ≠ 0 := by
  intro n
  induction n with
  | zero => rintro f ⟨i, h1, h2, _⟩; omega
  | succ n ih =>
    rintro f ⟨i, h1, h2, h3⟩
    simp only [ffd]
    by_cases h : M 110 f = 0
    · rw [if_pos h]; exact ⟨h, Nat.le_refl _, by omega, fun i h1 h2 => by omega⟩
    · rw [if_neg h]
      obtain ⟨h4, h5, h6, h7⟩ := ih (f + 1) ⟨i, by rcases Nat.lt_or_eq_of_le h1 with q | q; exact q; exact absurd (q ▸ h3) h, by omega, h3⟩
      refine ⟨h4, by omega, by omega, fun i h8 h9 => ?_⟩
      rcases Nat.lt_or_eq_of_le h8 with q | q
      · exact h7 i q h9
      · exact q ▸ h
theorem fcn_all {M : Nat → Nat → Int} : ∀ n, (∀ i, i < n → M 110 i ≠ 0) → fcn M n = n
  | 0, _ => rfl
  | n + 1, h => by simp only [fcn]; rw [fcn_all n (fun i hi => h i (by omega)), if_neg (h n (by omega))]; rfl
theorem ffd_fr {M : Nat → Nat → Int} (h : fcn M 10 ≠ 10) : M 110 (ffd M 10 0) = 0 ∧ ffd M 10 0 < 10 ∧ ∀ i, i < ffd M 10 0 → M 110 i ≠ 0 := by
  have h1 : ∃ i, 0 ≤ i ∧ i < 0 + 10 ∧ M 110 i = 0 := by
    rcases Classical.em (∃ i, 0 ≤ i ∧ i < 0 + 10 ∧ M 110 i = 0) with q | q
    · exact q
    · exact absurd (fcn_all 10 (fun i hi e => q ⟨i, Nat.zero_le _, by omega, e⟩)) h
  obtain ⟨h2, h3, h4, h5⟩ := ffd_sp M 10 0 h1
  exact ⟨h2, by omega, fun i hi => h5 i (Nat.zero_le _) hi⟩
def d_names (M : Nat → Nat → Int) (f w : Int) : (Nat → Nat → Int) × Int :=
  if ¬ (0 ≤ f ∧ f ≤ 9 ∧ M 110 f.toNat = 1) then dno M 1 else if ¬ (-1 ≤ w ∧ w ≤ 9) then dno M 2 else (dch (am_u (am_u M 100 0 0) 116 f.toNat (w + 1)), M 116 f.toNat - 1)
def d_thing (M : Nat → Nat → Int) (f w a : Int) : (Nat → Nat → Int) × Int :=
  if ¬ (0 ≤ f ∧ f ≤ 9 ∧ M 110 f.toNat = 1) then dno M 1 else if ¬ ((-1 ≤ w ∧ w ≤ 9) ∧ (w = -1 ∨ 0 ≤ a ∧ a ≤ 9)) then dno M 2 else (dch (am_u (am_u (am_u M 100 0 0) 117 f.toNat (w + 1)) 118 f.toNat a), M 117 f.toNat - 1)
def d_version (M : Nat → Nat → Int) (f m : Int) : (Nat → Nat → Int) × Int :=
  if ¬ (0 ≤ f ∧ f ≤ 9 ∧ M 110 f.toNat = 1) then dno M 1 else if ¬ ((1 ≤ m ∧ m ≤ 80) ∧ (M 119 f.toNat = 0 ∨ M 120 (f * 3 + M 119 f.toNat - 1).toNat < m)) then dno M 2 else
  if M 119 f.toNat = 3 then dno M 3 else (dch (am_u (am_u (am_u M 100 0 0) 120 (f * 3 + M 119 f.toNat).toNat m) 119 f.toNat (M 119 f.toNat + 1)), M 119 f.toNat + 1)
/-- what is thrown for a fact and a version -/
def nvc (M : Nat → Nat → Int) (f v : Int) : Int := if 0 ≤ f ∧ f ≤ 9 ∧ M 110 f.toNat = 1 then (if 0 ≤ v ∧ v ≤ M 119 f.toNat - 1 then 0 else 2) else 1
def d_ticks (M : Nat → Nat → Int) (f v : Int) : (Nat → Nat → Int) × Int := (am_u M 100 0 (nvc M f v), if nvc M f v = 0 then lng M f.toNat v.toNat else 0)
section
variable {st : List Value} {B : Nat} {I C : am_I} {P : am_P} {G : am_G} {k s d : Nat} {Q : am_Q} {M : Nat → Nat → Int} {K : Int}
end
