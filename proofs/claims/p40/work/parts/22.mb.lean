/-! the model: ways -/
def frS (M : Nat → Nat → Int) (T : Nat → Int) (R : Nat) : Int := if R = 0 then 0 else T R + M 100 3
def enS (M : Nat → Nat → Int) (T : Nat → Int) (f R : Nat) : Int := if nxt M f (frS M T R) = -1 then -1 else nxt M f (frS M T R) + lng M f 0
/-- the first ones tried as the last of a set: the end and the last -/
def wst (M : Nat → Nat → Int) (T : Nat → Int) (S : Nat) : Nat → Int × Int
  | 0 => (-1, 0)
  | f + 1 => if S.testBit f = true ∧ T (clr S f) ≠ -1 ∧ enS M T f (clr S f) ≠ -1 ∧ ((wst M T S f).1 = -1 ∨ enS M T f (clr S f) < (wst M T S f).1) then (enS M T f (clr S f), f) else wst M T S f
theorem clr_lt {S f : Nat} (h : S.testBit f = true) : clr S f < S := by
  unfold clr; rw [if_pos h]
  have h1 : 2 ^ f ≤ S := Nat.ge_two_pow_of_testBit h
  have h2 : 0 < 2 ^ f := Nat.two_pow_pos f
  omega
theorem clr_eq {S f : Nat} (h : ¬ S.testBit f = true) : clr S f = S := by unfold clr; rw [if_neg h]
/-- the end of a set's best way, -1: none -/
def wE (M : Nat → Nat → Int) (S : Nat) : Int := if S = 0 then 0 else (wst M (fun R => if R < S then wE M R else 0) S 10).1
termination_by S
decreasing_by assumption
theorem enS_cg {M : Nat → Nat → Int} {T T' : Nat → Int} {f R : Nat} (h : T R = T' R) : enS M T f R = enS M T' f R := by unfold enS frS; rw [h]
theorem wst_cg {M : Nat → Nat → Int} {T T' : Nat → Int} {S : Nat} (h : ∀ R, R < S → T R = T' R) (f : Nat) : wst M T S f = wst M T' S f := by
  induction f with
  | zero => rfl
  | succ f ih =>
    simp only [wst]
    rw [ih]
    by_cases hb : S.testBit f = true
    · have h1 := h _ (clr_lt hb)
      rw [h1, enS_cg h1]
    · rw [if_neg (fun q => hb q.1), if_neg (fun q => hb q.1)]
theorem wE_0 (M : Nat → Nat → Int) : wE M 0 = 0 := by rw [wE]; rfl
theorem wE_eq {M : Nat → Nat → Int} {S : Nat} (h : S ≠ 0) : wE M S = (wst M (wE M) S 10).1 := by
  rw [wE, if_neg h]
  rw [wst_cg (T' := wE M) (fun R hR => if_pos hR)]
def wL (M : Nat → Nat → Int) (S : Nat) : Int := (wst M (wE M) S 10).2
theorem isS_en {M : Nat → Nat → Int} {f : Nat} {t : Int} (h : isS M f t = true) : 0 ≤ t ∧ t + lng M f 0 ≤ M 100 1 := by
  unfold isS canM at h
  simp only [Bool.and_eq_true, decide_eq_true_eq] at h
  exact ⟨h.2.2.1.1, h.2.2.2.1⟩
theorem nxt_bd {M : Nat → Nat → Int} {f : Nat} {t : Int} (ht : 0 ≤ t) : nxt M f t = -1 ∨ (t ≤ nxt M f t ∧ nxt M f t < M 100 1 ∧ isS M f (nxt M f t) = true) := by
  unfold nxt
  split
  · exact Or.inl rfl
  · rcases nxw_bd (M := M) (f := f) (M 100 1 - t).toNat (by omega) with h | ⟨h1, h2, h3, h4⟩
    · exact Or.inl h
    · exact Or.inr ⟨by omega, h3, h4⟩
theorem enS_bd {K : Int} {M : Nat → Nat → Int} (hW : WFi K M) (hs : 2 ≤ M 100 2 ∧ M 100 2 ≤ 9) (hb : 0 ≤ M 100 3 ∧ M 100 3 ≤ 20) {T : Nat → Int} {f R : Nat} (hf : f < 10) (h : 0 ≤ T R) : enS M T f R = -1 ∨ (frS M T R ≤ enS M T f R ∧ enS M T f R ≤ M 100 1) := by
  unfold enS
  have h0 : 0 ≤ frS M T R := by unfold frS; split <;> omega
  have hl := lng_bd hW hs (f := f) (v := 0) (by omega)
  rcases nxt_bd (M := M) (f := f) h0 with h1 | ⟨h1, h2, h3⟩
  · rw [if_pos h1]; exact Or.inl rfl
  · have h4 := isS_en h3
    rw [if_neg (by omega)]; exact Or.inr ⟨by omega, h4.2⟩
theorem wst_bd {K : Int} {M : Nat → Nat → Int} (hW : WFi K M) (hs : 2 ≤ M 100 2 ∧ M 100 2 ≤ 9) (hb : 0 ≤ M 100 3 ∧ M 100 3 ≤ 20) {T : Nat → Int} {S : Nat} (h : ∀ R, R < S → T R = -1 ∨ 0 ≤ T R) : ∀ f, f ≤ 10 → (wst M T S f).1 = -1 ∨ (0 ≤ (wst M T S f).1 ∧ (wst M T S f).1 ≤ M 100 1) := by
  intro f; induction f with
  | zero => intro _; exact Or.inl rfl
  | succ f ih =>
    intro hf
    simp only [wst]
    split
    · next h1 =>
      have h2 := h _ (clr_lt h1.1)
      have h3 : 0 ≤ T (clr S f) := by have := h1.2.1; omega
      have h4 : 0 ≤ frS M T (clr S f) := by unfold frS; split <;> omega
      rcases enS_bd hW hs hb (T := T) (R := clr S f) (show f < 10 by omega) h3 with h5 | h5
      · exact Or.inl h5
      · exact Or.inr ⟨by show 0 ≤ enS M T f (clr S f); omega, h5.2⟩
    · exact ih (by omega)
theorem wE_bd {K : Int} {M : Nat → Nat → Int} (hW : WFi K M) (hs : 2 ≤ M 100 2 ∧ M 100 2 ≤ 9) (hb : 0 ≤ M 100 3 ∧ M 100 3 ≤ 20) (S : Nat) : wE M S = -1 ∨ (0 ≤ wE M S ∧ wE M S ≤ M 100 1) := by
  induction S using Nat.strongRecOn with
  | _ S ih =>
    by_cases h : S = 0
    · subst h; rw [wE_0]; have := wf_tk hW; exact Or.inr ⟨by omega, by omega⟩
    · rw [wE_eq h]
      exact wst_bd hW hs hb (fun R hR => (ih R hR).imp id (fun q => q.1)) 10 (Nat.le_refl _)
theorem nxt_fa {M M' : Nat → Nat → Int} (h : FA M M') (f : Nat) (t : Int) : nxt M' f t = nxt M f t := by unfold nxt; rw [h.1.1, nxw_fa h]
theorem enS_fa {M M' : Nat → Nat → Int} (h : FA M M') (T : Nat → Int) (f R : Nat) : enS M' T f R = enS M T f R := by unfold enS frS; rw [h.1.2.2.1, nxt_fa h, lng_fa h]
theorem wst_fa {M M' : Nat → Nat → Int} (h : FA M M') (T : Nat → Int) (S f : Nat) : wst M' T S f = wst M T S f := by
  induction f with
  | zero => rfl
  | succ f ih => simp only [wst]; rw [ih, enS_fa h]
theorem wE_fa {M M' : Nat → Nat → Int} (h : FA M M') (S : Nat) : wE M' S = wE M S := by
  induction S using Nat.strongRecOn with
  | _ S ih =>
    by_cases h0 : S = 0
    · subst h0; rw [wE_0, wE_0]
    · rw [wE_eq h0, wE_eq h0, wst_fa h, wst_cg (fun R hR => ih R hR)]
theorem wL_fa {M M' : Nat → Nat → Int} (h : FA M M') (S : Nat) : wL M' S = wL M S := by
  unfold wL; rw [wst_fa h, wst_cg (fun R _ => wE_fa h R)]
/-- the same but for the caches -/
def EX3 (M M' : Nat → Nat → Int) : Prop := ∀ a i, a ≠ 127 → a ≠ 128 → a ≠ 129 → M' a i = M a i
theorem EX3_fa {M M' : Nat → Nat → Int} (h : EX3 M M') : FA M M' := ⟨⟨h _ _ (by omega) (by omega) (by omega), h _ _ (by omega) (by omega) (by omega), h _ _ (by omega) (by omega) (by omega), h _ _ (by omega) (by omega) (by omega)⟩, fun a h1 h2 j => h a j (by omega) (by omega) (by omega)⟩
theorem EX3_u {M M' : Nat → Nat → Int} (h : EX3 M M') {r : Nat} (hr : r = 127 ∨ r = 128 ∨ r = 129) (i : Nat) (x : Int) : EX3 M (am_u M' r i x) := fun a j h1 h2 h3 => by rw [am_u_na _ _ _ _ (by omega)]; exact h a j h1 h2 h3
/-- ends laid for the sets below one -/
def WYS (M M' : Nat → Nat → Int) (n : Nat) : Prop := ∀ R, R < n → M' 127 R = wE M R ∧ (wE M R ≠ -1 → R ≠ 0 → M' 128 R = wL M R)
/-- a model's end -/
def Rm (p : (Nat → Nat → Int) → Prop) (o : am_O) (B : Nat) (C : am_I) (P : am_P) (G : am_G) : am_Q := fun o' B' I' P' G' => ∃ M', p M' ∧ o' = o ∧ B' = B ∧ I' = iM M' C ∧ P' = P ∧ G' = G
theorem am_k5r {q : Option Value → Nat → am_I → am_P → am_G → Prop} {p : (Nat → Nat → Int) → Prop} {w : Option Value} {B : Nat} {C : am_I} {P : am_P} {G : am_G} (h : ∀ M', p M' → q w B (iM M' C) P G) : ∀ v B' I' P' G', Rm p (.inl w) B C P G (.inl v) B' I' P' G' → q v B' I' P' G' := by
  rintro v B' I' P' G' ⟨M', h1, h2, rfl, rfl, rfl, rfl⟩; cases h2; exact h M' h1
theorem am_k6r {q : Nat → Nat → am_I → am_P → am_G → Prop} {p : (Nat → Nat → Int) → Prop} {w : Option Value} {B : Nat} {C : am_I} {P : am_P} {G : am_G} : ∀ v B' I' P' G', Rm p (.inl w) B C P G (.inr v) B' I' P' G' → q v B' I' P' G' := by
  rintro v B' I' P' G' ⟨M', h1, h2, _⟩; cases h2
theorem Rm_i {p : (Nat → Nat → Int) → Prop} {o : am_O} {B : Nat} {C : am_I} {P : am_P} {G : am_G} {M' : Nat → Nat → Int} (h : p M') : Rm p o B C P G o B (iM M' C) P G := ⟨M', h, rfl, rfl, rfl, rfl, rfl⟩
section
variable {st : List Value} {B : Nat} {I C : am_I} {P : am_P} {G : am_G} {k s d : Nat} {Q : am_Q} {M : Nat → Nat → Int} {K : Int}
end
