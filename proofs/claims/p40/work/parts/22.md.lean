/-! the model: plan -/
/-- the same but for the plan, what is thrown and the caches -/
def EXq (M M' : Nat → Nat → Int) : Prop := ∀ a i, ¬ (a = 100 ∧ (i = 0 ∨ i = 20 ∨ i = 21 ∨ i = 22)) → ¬ (124 ≤ a ∧ a ≤ 129) → M' a i = M a i
theorem EXq_fa {M M' : Nat → Nat → Int} (h : EXq M M') : FA M M' := ⟨⟨h _ _ (by omega) (by omega), h _ _ (by omega) (by omega), h _ _ (by omega) (by omega), h _ _ (by omega) (by omega)⟩, fun a h1 h2 j => h a j (by omega) (by omega)⟩
theorem EXq_u {M M' : Nat → Nat → Int} (h : EXq M M') {r i : Nat} (hr : (r = 100 ∧ (i = 0 ∨ i = 20 ∨ i = 21 ∨ i = 22)) ∨ (124 ≤ r ∧ r ≤ 129)) (x : Int) : EXq M (am_u M' r i x) := fun a j h1 h2 => by
  rw [show am_u M' r i x a j = M' a j from if_neg (fun q => by obtain ⟨q1, q2⟩ := q; subst q1; subst q2; rcases hr with hr | hr; exact h1 hr; exact h2 hr)]; exact h a j h1 h2
/-- the plan's roles -/
def PLN (M M' : Nat → Nat → Int) : Prop := EXq M M' ∧ M' 100 0 = 0 ∧ M' 100 20 = 1 ∧ M' 100 21 = ons (BS M) ∧ M' 100 22 = BS M ∧ ∀ k : Nat, (k : Int) < ons (BS M) → M' 124 k = ord M k ∧ M' 125 (ord M k) = sta M k ∧ M' 126 (ord M k) = chs M k
theorem sta_bd {K : Int} {M : Nat → Nat → Int} (hW : WFi K M) (hs : 2 ≤ M 100 2 ∧ M 100 2 ≤ 9) (hb : 0 ≤ M 100 3 ∧ M 100 3 ≤ 20) {k : Nat} (h : (k : Int) < ons (BS M)) : 0 ≤ sta M k ∧ sta M k < M 100 1 ∧ isS M (ord M k) (sta M k) = true ∧ sta M k = nxt M (ord M k) (frS M (wE M) (lft M (BS M) ((ons (BS M)).toNat - k))) := by
  obtain ⟨h1, h2, h3, h4, h5, h6⟩ := ord_sp h
  have h8 := lft_nx h
  have h9 : 0 ≤ wE M (clr (lft M (BS M) ((ons (BS M)).toNat - 1 - k)) (ord M k)) := by have := wE_bd hW hs hb (clr (lft M (BS M) ((ons (BS M)).toNat - 1 - k)) (ord M k)); omega
  have hfr : 0 ≤ frS M (wE M) (clr (lft M (BS M) ((ons (BS M)).toNat - 1 - k)) (ord M k)) := by unfold frS; split <;> omega
  have e : sta M k = nxt M (ord M k) (frS M (wE M) (clr (lft M (BS M) ((ons (BS M)).toNat - 1 - k)) (ord M k))) := by
    unfold sta; rw [h6]; unfold enS
    rw [if_neg (fun q => h5 (by unfold enS; rw [if_pos q]))]; omega
  have h10 : nxt M (ord M k) (frS M (wE M) (clr (lft M (BS M) ((ons (BS M)).toNat - 1 - k)) (ord M k))) ≠ -1 := fun q => h5 (by unfold enS; rw [if_pos q])
  rcases nxt_bd (M := M) (f := ord M k) hfr with h11 | ⟨h11, h12, h13⟩
  · exact absurd h11 h10
  · rw [h8, ← e]; rw [← e] at h11 h12 h13; exact ⟨by omega, h12, h13, rfl⟩
theorem isS_th {M : Nat → Nat → Int} {f : Nat} {t : Int} (h : isS M f t = true) : M 110 f = 1 ∧ 0 < M 119 f ∧ canM M f 0 t = true := by
  unfold isS at h
  simp only [Bool.and_eq_true, decide_eq_true_eq] at h
  exact h
section
variable {st : List Value} {B : Nat} {I C : am_I} {P : am_P} {G : am_G} {k s d : Nat} {Q : am_Q} {M : Nat → Nat → Int} {K : Int}
end
