/-! the model: use -/
/-- the film of an edition -/
def kpF (M : Nat → Nat → Int) (e : Nat) : Nat → Nat → Int := fun r i => if r = 100 then (if i = 1 then M 131 e else if i = 4 then M 132 e else 0) else if r ≤ 108 then M (r + 27) (e * 30 + i) else if r = 120 then M 147 (e * 30 + i) else M (r + 27) (e * 10 + i)
def USE (M : Nat → Nat → Int) (e : Nat) (M' : Nat → Nat → Int) : Prop :=
  (∀ r i, r ≠ 100 → ¬ (106 ≤ r ∧ r ≤ 120) → r ≠ 154 → r ≠ 155 → M' r i = M r i) ∧ (∀ i, i ≠ 0 → i ≠ 1 → i ≠ 4 → i ≠ 20 → i ≠ 50 → i ≠ 52 → M' 100 i = M 100 i) ∧
  (M' 100 0 = 0 ∧ M' 100 1 = M 131 e ∧ M' 100 4 = M 132 e ∧ M' 100 20 = 0) ∧
  (∀ k : Nat, (k : Int) < M 132 e → M' 106 k = M 133 (e * 30 + k) ∧ M' 107 k = M 134 (e * 30 + k) ∧ M' 108 k = M 135 (e * 30 + k)) ∧
  (∀ r k, 109 ≤ r → r ≤ 119 → k < 10 → M' r k = M (r + 27) (e * 10 + k)) ∧ (∀ i, i < 30 → M' 120 i = M 147 (e * 30 + i)) ∧
  (∀ g, g < 10 → (M 137 (e * 10 + g) = 0 → M' 154 g = 0 ∧ ∀ l, l < 6 → M' 155 (g * 6 + l) = 0) ∧ (M 137 (e * 10 + g) ≠ 0 → M' 154 g = M 154 g ∧ ∀ l, l < 6 → M' 155 (g * 6 + l) = M 155 (g * 6 + l))) ∧
  ((∃ g : Nat, g < 10 ∧ M 137 (e * 10 + g) = 0 ∧ M 100 50 = g) → M' 100 50 = -1 ∧ M' 100 52 = 0) ∧ (¬ (∃ g : Nat, g < 10 ∧ M 137 (e * 10 + g) = 0 ∧ M 100 50 = g) → M' 100 50 = M 100 50 ∧ M' 100 52 = M 100 52)
def kfc (M : Nat → Nat → Int) (e : Nat) : Nat → Int
  | 0 => 0
  | k + 1 => kfc M e k + (if M 137 (e * 10 + k) = 0 then 0 else 1)
theorem kfc_e {M M' : Nat → Nat → Int} {e : Nat} (h : ∀ k, k < 10 → M' 110 k = M 137 (e * 10 + k)) : ∀ n, n ≤ 10 → fcn M' n = kfc M e n := by
  intro n; induction n with
  | zero => intro _; rfl
  | succ n ih => intro hn; simp only [fcn, kfc]; rw [ih (by omega), h n (by omega)]
/-- the fields of a fact taken back -/
def usN (M N : Nat → Nat → Int) (at_ k : Nat) : Nat → Nat → Int := fun r i => if (109 ≤ r ∧ r ≤ 119) ∧ i = k then M (r + 27) at_ else N r i
theorem usN_e (M N : Nat → Nat → Int) (p k : Nat) : am_u (am_u (am_u (am_u (am_u (am_u (am_u (am_u (am_u (am_u (am_u N 109 k (M 136 p)) 110 k (M 137 p)) 111 k (M 138 p)) 112 k (M 139 p)) 113 k (M 140 p)) 114 k (M 141 p)) 115 k (M 142 p)) 116 k (M 143 p)) 117 k (M 144 p)) 118 k (M 145 p)) 119 k (M 146 p) = usN M N p k := by
  funext r i
  unfold usN
  by_cases h : 109 ≤ r ∧ r ≤ 119
  · by_cases h2 : i = k
    · subst h2
      rw [if_pos ⟨h, rfl⟩]
      rcases (show r = 109 ∨ r = 110 ∨ r = 111 ∨ r = 112 ∨ r = 113 ∨ r = 114 ∨ r = 115 ∨ r = 116 ∨ r = 117 ∨ r = 118 ∨ r = 119 by omega) with rfl | rfl | rfl | rfl | rfl | rfl | rfl | rfl | rfl | rfl | rfl <;> simp [am_u]
    · rw [if_neg (fun q => h2 q.2)]; simp [am_u, h2]
  · rw [if_neg (fun q => h q.1)]
    rw [am_u_na _ _ _ _ (by omega), am_u_na _ _ _ _ (by omega), am_u_na _ _ _ _ (by omega), am_u_na _ _ _ _ (by omega), am_u_na _ _ _ _ (by omega), am_u_na _ _ _ _ (by omega), am_u_na _ _ _ _ (by omega), am_u_na _ _ _ _ (by omega), am_u_na _ _ _ _ (by omega), am_u_na _ _ _ _ (by omega), am_u_na _ _ _ _ (by omega)]
theorem usN_o {M N : Nat → Nat → Int} {p k r i : Nat} (h : ¬ ((109 ≤ r ∧ r ≤ 119) ∧ i = k)) : usN M N p k r i = N r i := if_neg h
/-- the stage and the marks after some facts -/
def US2 (M : Nat → Nat → Int) (e f : Nat) (M' : Nat → Nat → Int) : Prop :=
  (∀ g, g < f → (M 137 (e * 10 + g) = 0 → M' 154 g = 0 ∧ ∀ l, l < 6 → M' 155 (g * 6 + l) = 0) ∧ (M 137 (e * 10 + g) ≠ 0 → M' 154 g = M 154 g ∧ ∀ l, l < 6 → M' 155 (g * 6 + l) = M 155 (g * 6 + l))) ∧
  (∀ g, f ≤ g → M' 154 g = M 154 g ∧ ∀ l, l < 6 → M' 155 (g * 6 + l) = M 155 (g * 6 + l)) ∧
  ((∃ g : Nat, g < f ∧ M 137 (e * 10 + g) = 0 ∧ M 100 50 = g) → M' 100 50 = -1 ∧ M' 100 52 = 0) ∧ (¬ (∃ g : Nat, g < f ∧ M 137 (e * 10 + g) = 0 ∧ M 100 50 = g) → M' 100 50 = M 100 50 ∧ M' 100 52 = M 100 52)
theorem US2_cg {M M' N : Nat → Nat → Int} {e f : Nat} (h : US2 M e f M') (h1 : ∀ i, N 154 i = M' 154 i) (h2 : ∀ i, N 155 i = M' 155 i) (h3 : N 100 50 = M' 100 50) (h4 : N 100 52 = M' 100 52) : US2 M e f N := by
  unfold US2; simp only [h1, h2, h3, h4]; exact h
theorem US2_k {M M' : Nat → Nat → Int} {e f : Nat} (h : US2 M e f M') (hg : M 137 (e * 10 + f) ≠ 0) : US2 M e (f + 1) M' := by
  obtain ⟨h1, h2, h3, h4⟩ := h
  refine ⟨fun g hg2 => ?_, fun g hg2 => h2 g (by omega), fun ⟨g, q1, q2, q3⟩ => ?_, fun q => h4 (fun ⟨g, q1, q2⟩ => q ⟨g, by omega, q2⟩)⟩
  · rcases Nat.lt_or_eq_of_le (Nat.le_of_lt_succ hg2) with w | w
    · exact h1 g w
    · subst w; exact ⟨fun q => absurd q hg, fun _ => h2 g (Nat.le_refl _)⟩
  · refine h3 ⟨g, ?_, q2, q3⟩
    rcases Nat.lt_or_eq_of_le (Nat.le_of_lt_succ q1) with w | w
    · exact w
    · subst w; exact absurd q2 hg
theorem US2_s {M M' : Nat → Nat → Int} {e f : Nat} (h : US2 M e f M') (hg : M 137 (e * 10 + f) = 0) : US2 M e (f + 1) (goes M' f) := by
  obtain ⟨h1, h2, h3, h4⟩ := h
  have hu : M' 100 50 = f ↔ M 100 50 = f := by
    rcases Classical.em (∃ g : Nat, g < f ∧ M 137 (e * 10 + g) = 0 ∧ M 100 50 = g) with q | q
    · have := h3 q; obtain ⟨g, q1, q2, q3⟩ := q; constructor <;> intro h7 <;> omega
    · rw [(h4 q).1]
  have e1 : ∀ g, g ≠ f → goes M' f 154 g = M' 154 g := fun g hg => by rw [goes_at, if_neg (by omega), if_neg (by omega), if_neg (by omega), if_neg (by omega), if_neg (by omega)]
  have e2 : ∀ g, g ≠ f → ∀ l, l < 6 → goes M' f 155 (g * 6 + l) = M' 155 (g * 6 + l) := fun g hg l hl => by rw [goes_at, if_neg (by omega), if_neg (by omega), if_neg (by omega), if_neg (by omega), if_neg (by omega)]
  refine ⟨fun g hg2 => ?_, fun g hg2 => ?_, fun q => ?_, fun q => ?_⟩
  · rcases Nat.lt_or_eq_of_le (Nat.le_of_lt_succ hg2) with w | w
    · have h5 := h1 g w
      rw [e1 g (by omega)]
      exact ⟨fun q => ⟨(h5.1 q).1, fun l hl => by rw [e2 g (by omega) l hl]; exact (h5.1 q).2 l hl⟩, fun q => ⟨(h5.2 q).1, fun l hl => by rw [e2 g (by omega) l hl]; exact (h5.2 q).2 l hl⟩⟩
    · subst w
      refine ⟨fun _ => ⟨?_, fun l hl => ?_⟩, fun q => absurd hg q⟩
      · rw [goes_at, if_neg (by omega), if_pos ⟨rfl, rfl⟩]
      · rw [goes_at, if_neg (by omega), if_neg (by omega), if_pos (by omega)]
  · rw [e1 g (by omega)]; exact ⟨(h2 g (by omega)).1, fun l hl => by rw [e2 g (by omega) l hl]; exact (h2 g (by omega)).2 l hl⟩
  · rw [goes_50, goes_52]
    by_cases hf : M' 100 50 = f
    · rw [if_pos hf, if_pos hf]; exact ⟨rfl, rfl⟩
    · rw [if_neg hf, if_neg hf]
      refine h3 ?_
      obtain ⟨g, q1, q2, q3⟩ := q
      refine ⟨g, ?_, q2, q3⟩
      rcases Nat.lt_or_eq_of_le (Nat.le_of_lt_succ q1) with w | w
      · exact w
      · subst w; exact absurd (hu.mpr q3) hf
  · have hf : ¬ M' 100 50 = f := fun w => q ⟨f, by omega, hg, hu.mp w⟩
    rw [goes_50, goes_52, if_neg hf, if_neg hf]
    exact h4 (fun ⟨g, q1, q2⟩ => q ⟨g, by omega, q2⟩)
section
variable {st : List Value} {B : Nat} {I C : am_I} {P : am_P} {G : am_G} {k s d : Nat} {Q : am_Q} {M : Nat → Nat → Int} {K : Int}
end
