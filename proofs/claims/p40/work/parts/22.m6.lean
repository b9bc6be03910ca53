/-! films that agree; the model's calls: drop, names, thing, version, ticks -/
/-- the same film, the same voice -/
def FA (M M' : Nat → Nat → Int) : Prop := (M' 100 1 = M 100 1 ∧ M' 100 2 = M 100 2 ∧ M' 100 3 = M 100 3 ∧ M' 100 4 = M 100 4) ∧ ∀ a, 106 ≤ a → a ≤ 120 → ∀ j, M' a j = M a j
theorem FA_rfl {M : Nat → Nat → Int} : FA M M := ⟨⟨rfl, rfl, rfl, rfl⟩, fun _ _ _ _ => rfl⟩
theorem FA_u {M M' : Nat → Nat → Int} (h : FA M M') {a i : Nat} (x : Int) (ha : (a < 106 ∨ 120 < a) ∧ (a = 100 → i = 0 ∨ 4 < i)) : FA M (am_u M' a i x) := by
  obtain ⟨⟨h1, h2, h3, h4⟩, h5⟩ := h
  refine ⟨⟨?_, ?_, ?_, ?_⟩, fun b h6 h7 j => ?_⟩
  · rw [show am_u M' a i x 100 1 = M' 100 1 from if_neg (by omega)]; exact h1
  · rw [show am_u M' a i x 100 2 = M' 100 2 from if_neg (by omega)]; exact h2
  · rw [show am_u M' a i x 100 3 = M' 100 3 from if_neg (by omega)]; exact h3
  · rw [show am_u M' a i x 100 4 = M' 100 4 from if_neg (by omega)]; exact h4
  · rw [show am_u M' a i x b j = M' b j from if_neg (by omega)]; exact h5 b h6 h7 j
theorem FA_0 {M : Nat → Nat → Int} (x : Int) : FA M (am_u M 100 0 x) := FA_u FA_rfl x ⟨Or.inl (by omega), fun _ => Or.inl rfl⟩
theorem brd_fa {M M' : Nat → Nat → Int} (h : FA M M') (u a b : Int) (n : Nat) : brd M' u a b n = brd M u a b n := by
  induction n with
  | zero => rfl
  | succ n ih => simp only [brd]; rw [ih, h.2 106 (by omega) (by omega), h.2 107 (by omega) (by omega), h.2 108 (by omega) (by omega)]
theorem bar_fa {M M' : Nat → Nat → Int} (h : FA M M') (u a b : Int) : bar M' u a b = bar M u a b := by
  unfold bar; rw [h.1.2.2.2, brd_fa h]
theorem lng_fa {M M' : Nat → Nat → Int} (h : FA M M') (f v : Nat) : lng M' f v = lng M f v := by
  unfold lng; rw [h.1.2.1, h.2 120 (by omega) (by omega)]
theorem fcn_fa {M M' : Nat → Nat → Int} (h : FA M M') (n : Nat) : fcn M' n = fcn M n := by
  induction n with
  | zero => rfl
  | succ n ih => simp only [fcn]; rw [ih, h.2 110 (by omega) (by omega)]
theorem WFi_fa {K : Int} {M M' : Nat → Nat → Int} (h : FA M M') (hW : WFi K M) : WFi K M' := by
  obtain ⟨⟨h1, h2, h3, h4⟩, h5⟩ := h
  have e (a : Nat) (h6 : 106 ≤ a) (h7 : a ≤ 120) : M' a = M a := funext (h5 a h6 h7)
  unfold WFi at hW ⊢
  rw [h1, h4, e 106 (by omega) (by omega), e 107 (by omega) (by omega), e 108 (by omega) (by omega), e 109 (by omega) (by omega), e 110 (by omega) (by omega), e 111 (by omega) (by omega), e 112 (by omega) (by omega), e 113 (by omega) (by omega), e 114 (by omega) (by omega), e 115 (by omega) (by omega), e 116 (by omega) (by omega), e 117 (by omega) (by omega), e 118 (by omega) (by omega), e 119 (by omega) (by omega), e 120 (by omega) (by omega)]
  exact hW
section
variable {st : List Value} {B : Nat} {I C : am_I} {P : am_P} {G : am_G} {k s d : Nat} {Q : am_Q} {M : Nat → Nat → Int} {K : Int}
theorem mkz_110 (f : Nat) (n j : Nat) : mkz M f n 110 j = M 110 j := by
  induction n with
  | zero => rfl
  | succ n ih => simp only [mkz]; rw [am_u_na _ _ _ _ (by omega)]; exact ih
theorem goes_110 (f j : Nat) : goes M f 110 j = if j = f then 0 else M 110 j := by
  unfold goes
  rw [mkz_110]
  unfold goe1 goe0
  by_cases h : M 100 50 = f <;> by_cases h2 : j = f <;> simp [am_u, h, h2]
end
