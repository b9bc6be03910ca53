/-! a static call behind which roles are left out -/
section KB
variable {m pc len r1 r2 : Nat} {L : List (Option Value)} {st : List Value} {B : Nat} {I : am_I} {P : am_P} {G : am_G} {k s d : Nat} {Q : am_Q}
theorem k_sB {i id : Nat} {As : List Value} (hc : am_cod m pc = some (.invokestatic i, len, id, r2)) (hid : id < 900) (R : am_Q) (mc ms dd : Nat) (hn : am_na id = As.length) {E : List (Option Value)} (hE : am_en As (am_nL id) = E) (hEl : E.length = am_nL id) (hEk : am_lck id E 0) (h0 : st.length ≤ 4) (h1 : mc ≤ k) (h2 : ms ≤ s) (h3 : dd < d) (hx : ∀ x, am_hd m pc x = none)
    (h4 : am_Ev id 0 E [] B I P G mc ms dd R) (h5 : ∀ v B' I' P' G', R (.inl v) B' I' P' G' → ∃ B2, B' ≤ B2 ∧ am_Ev m (pc + 3) L (v.toList ++ st) B2 I' P' G' (k - mc) (s - ms) d Q) (h6 : ∀ x B' I' P' G', R (.inr x) B' I' P' G' → Q (.inr x) B' I' P' G') :
    am_Ev m pc L (As.reverse ++ st) B I P G k s d Q := by
  subst hE
  have e1 : (As.reverse ++ st).take (am_na id) = As.reverse := by rw [hn]; exact List.take_left' (by simp)
  have e2 : (As.reverse ++ st).drop (am_na id) = st := by rw [hn]; exact List.drop_left' (by simp)
  refine (am_step hc).mpr (Or.inr (Or.inr (Or.inr (Or.inr (Or.inr ⟨hid, by show am_na id ≤ _; rw [hn]; simp, ?_⟩)))))
  show am_Call am_Ev id (List.take (am_na id) _).reverse (List.drop (am_na id) _) m pc L B I P G k s d Q
  rw [e1, e2, List.reverse_reverse]
  exact ⟨R, mc, ms, dd, h0, hEl, hEk, h1, h2, h3, h4, h5, fun x B' I' P' G' h => by rw [hx]; exact h6 _ _ _ _ _ h⟩
end KB
