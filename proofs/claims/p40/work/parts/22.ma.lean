/-! the model: next starts, ways -/
/-- can the first version of a fact start at a tick -/
def isS (M : Nat → Nat → Int) (f : Nat) (t : Int) : Bool := decide (M 110 f = 1) && (decide (0 < M 119 f) && canM M f 0 t)
/-- the first start of a fact in the last n ticks -/
def nxw (M : Nat → Nat → Int) (f : Nat) : Nat → Int
  | 0 => -1
  | n + 1 => if isS M f (M 100 1 - ((n : Int) + 1)) = true then M 100 1 - ((n : Int) + 1) else nxw M f n
/-- the first start of a fact from a tick on -/
def nxt (M : Nat → Nat → Int) (f : Nat) (t : Int) : Int := if M 100 1 < t then -1 else nxw M f (M 100 1 - t).toNat
theorem isS_fa {M M' : Nat → Nat → Int} (h : FA M M') (f : Nat) (t : Int) : isS M' f t = isS M f t := by unfold isS; rw [canM_fa h, h.2 110 (by omega) (by omega), h.2 119 (by omega) (by omega)]
theorem nxw_fa {M M' : Nat → Nat → Int} (h : FA M M') (f : Nat) (n : Nat) : nxw M' f n = nxw M f n := by
  induction n with
  | zero => rfl
  | succ n ih => simp only [nxw]; rw [isS_fa h, h.1.1, ih]
theorem nxw_bd {M : Nat → Nat → Int} {f : Nat} : ∀ n : Nat, (n : Int) ≤ M 100 1 → nxw M f n = -1 ∨ (M 100 1 - n ≤ nxw M f n ∧ 0 ≤ nxw M f n ∧ nxw M f n < M 100 1 ∧ isS M f (nxw M f n) = true) := by
  intro n; induction n with
  | zero => intro _; exact Or.inl rfl
  | succ n ih =>
    intro h
    simp only [nxw]
    by_cases h1 : isS M f (M 100 1 - ((n : Int) + 1)) = true
    · rw [if_pos h1]; exact Or.inr ⟨by omega, by omega, by omega, h1⟩
    · rw [if_neg h1]
      rcases ih (by omega) with h2 | ⟨h2, h3, h4, h5⟩
      · exact Or.inl h2
      · exact Or.inr ⟨by omega, h3, h4, h5⟩
/-- the same but for some roles -/
def EX (r : Nat) (M M' : Nat → Nat → Int) : Prop := ∀ a i, a ≠ r → M' a i = M a i
theorem EX_fa {r : Nat} {M M' : Nat → Nat → Int} (h : EX r M M') (hr : r < 100 ∨ 120 < r) : FA M M' := ⟨⟨h _ _ (by omega), h _ _ (by omega), h _ _ (by omega), h _ _ (by omega)⟩, fun a h1 h2 j => h a j (by omega)⟩
theorem EX_u {r : Nat} {M M' : Nat → Nat → Int} (h : EX r M M') (i : Nat) (x : Int) : EX r M (am_u M' r i x) := fun a j ha => by rw [am_u_na _ _ _ _ ha]; exact h a j ha
/-- next starts laid -/
def NXS (M M' : Nat → Nat → Int) (j : Nat) : Prop := ∀ f, f < j → ∀ t : Nat, (t : Int) ≤ M 100 1 → M' 129 (f * 902 + t) = nxw M f ((M 100 1).toNat - t)
section
variable {st : List Value} {B : Nat} {I C : am_I} {P : am_P} {G : am_G} {k s d : Nat} {Q : am_Q} {M : Nat → Nat → Int} {K : Int}
end
