/-! longs; the model's small methods -/
theorem bI_okT {b : Bool} : (b = false ∨ b = true) ↔ True := by cases b <;> simp
theorem am_u_u {α : Type} (f : Nat → Nat → α) (a i : Nat) (x y : α) : am_u (am_u f a i x) a i y = am_u f a i y := by funext b j; by_cases h : b = a ∧ j = i <;> simp [am_u, h]
theorem lI_lit (n : Nat) : (OfNat.ofNat n : Int64) = lI (OfNat.ofNat n) := rfl
theorem lI_0 : (0 : Int64) = lI 0 := rfl
theorem lI_1 : (1 : Int64) = lI 1 := rfl
theorem lI_neg (a : Int) : - lI a = lI (- a) := (Int64.ofInt_neg a).symm
theorem lI_add (a b : Int) : lI a + lI b = lI (a + b) := (Int64.ofInt_add a b).symm
theorem lI_sub (a b : Int) : lI a - lI b = lI (a - b) := (Int64.ofInt_sub a b).symm
theorem lI_mul (a b : Int) : lI a * lI b = lI (a * b) := (Int64.ofInt_mul a b).symm
theorem lI_of {a : Int} (h : -2147483648 ≤ a ∧ a ≤ 2147483647) : (iI a).toInt64 = lI a := by
  show Int64.ofInt (iI a).toInt = _
  rw [iI_toInt h]; rfl
theorem lI_toInt {a : Int} (h : -9000000000000000000 ≤ a ∧ a ≤ 9000000000000000000) : (lI a).toInt = a := Int64.toInt_ofInt_of_le (by omega) (by omega)
theorem lI_lt {a b : Int} (h : (-9000000000000000000 ≤ a ∧ a ≤ 9000000000000000000) ∧ -9000000000000000000 ≤ b ∧ b ≤ 9000000000000000000) : lI a < lI b ↔ a < b := by rw [Int64.lt_iff_toInt_lt, lI_toInt h.1, lI_toInt h.2]
theorem lI_eq {a b : Int} (h : (-9000000000000000000 ≤ a ∧ a ≤ 9000000000000000000) ∧ -9000000000000000000 ≤ b ∧ b ≤ 9000000000000000000) : lI a = lI b ↔ a = b := ⟨fun e => by rw [← lI_toInt h.1, e, lI_toInt h.2], fun e => by rw [e]⟩
theorem lg_lt {x y : Int64} : lg_cmp x y < iI 0 ↔ x < y := by
  unfold lg_cmp
  by_cases h : x < y
  · have h1 : ¬ y < x := fun q => absurd (Int64.lt_trans h q) Int64.lt_irrefl
    have h2 : ¬ x = y := fun q => Int64.lt_irrefl (q ▸ h)
    simp [h, h1, h2]; decide +kernel
  · by_cases h2 : x = y
    · subst h2; simp; decide +kernel
    · have : y < x := Int64.lt_of_le_of_ne (Int64.not_lt.mp h) (fun q => h2 q.symm)
      simp [h, this]; decide +kernel
theorem lg_gt {x y : Int64} : iI 0 < lg_cmp x y ↔ y < x := by
  unfold lg_cmp
  by_cases h : y < x
  · simp [h]; decide +kernel
  · by_cases h2 : x = y
    · subst h2; simp; decide +kernel
    · simp [h, h2]; decide +kernel
theorem lg_eq {x y : Int64} : lg_cmp x y = iI 0 ↔ x = y := by
  unfold lg_cmp
  by_cases h : y < x
  · have h2 : ¬ x = y := fun q => Int64.lt_irrefl (q ▸ h)
    simp [h, h2]; decide +kernel
  · by_cases h2 : x = y
    · subst h2; simp; decide +kernel
    · simp [h, h2]; decide +kernel
section
variable {st : List Value} {B : Nat} {I C : am_I} {P : am_P} {G : am_G} {k s d : Nat} {Q : am_Q} {M : Nat → Nat → Int} {K : Int}
end
