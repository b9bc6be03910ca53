/-! sets as bits; the plan -/
theorem clr_x0 : ∀ S : Nat, S < 1024 → ∀ f : Nat, f < 10 → clr S f = if S.testBit f then S ^^^ 2 ^ f else S := by decide +kernel
theorem clr_tb {S f : Nat} (hS : S < 1024) (hf : f < 10) (g : Nat) : (clr S f).testBit g = (S.testBit g && !decide (f = g)) := by
  rw [clr_x0 S hS f hf]
  by_cases h : S.testBit f = true
  · rw [if_pos h, Nat.testBit_xor, Nat.testBit_two_pow]
    by_cases h2 : f = g
    · subst h2; rw [h]; simp
    · simp [h2]
  · rw [if_neg h]
    by_cases h2 : f = g
    · subst h2; simp at h; rw [h]; simp
    · simp [h2]
theorem onz_clr {S f : Nat} (hS : S < 1024) (hf : f < 10) (h : S.testBit f = true) : ∀ n, onz (clr S f) n = if f < n then onz S n - 1 else onz S n := by
  intro n; induction n with
  | zero => rfl
  | succ n ih =>
    simp only [onz]
    rw [ih, clr_tb hS hf]
    by_cases h2 : f = n
    · subst h2; rw [h]; simp
    · by_cases h3 : f < n
      · rw [if_pos h3, if_pos (show f < n + 1 by omega)]; simp [h2]; omega
      · rw [if_neg h3, if_neg (show ¬ f < n + 1 by omega)]; simp [h2]
theorem ons_clr {S f : Nat} (hS : S < 1024) (hf : f < 10) (h : S.testBit f = true) : ons (clr S f) = ons S - 1 := by unfold ons; rw [onz_clr hS hf h, if_pos hf]
theorem ons_0 : ∀ S : Nat, S < 1024 → (ons S = 0 ↔ S = 0) := by decide +kernel
theorem ons_bd (S : Nat) : 0 ≤ ons S ∧ ons S ≤ 10 := onz_bd S 10
theorem clr_le (S f : Nat) : clr S f ≤ S := by
  unfold clr
  split
  · exact Nat.sub_le _ _
  · exact Nat.le_refl _
theorem ot2_fa {M M' : Nat → Nat → Int} (h : FA M M') (S f : Nat) (b : Bool) (g : Nat) : ot2 M' S f b g = ot2 M S f b g := by
  induction g with
  | zero => rfl
  | succ g ih => simp only [ot2]; rw [ih, h.2 117 (by omega) (by omega), h.2 117 (by omega) (by omega), h.2 118 (by omega) (by omega), h.2 118 (by omega) (by omega)]
theorem ot1_fa {M M' : Nat → Nat → Int} (h : FA M M') (S : Nat) (g : Nat) : ot1 M' S g = ot1 M S g := by
  induction g with
  | zero => rfl
  | succ g ih => simp only [ot1]; rw [ih, ot2_fa h]
theorem otm_fa {M M' : Nat → Nat → Int} (h : FA M M') (S : Nat) : otm M' S = otm M S := ot1_fa h S 10
theorem wof_fa {M M' : Nat → Nat → Int} (h : FA M M') (S g : Nat) : wof M' S g = wof M S g := by
  induction g with
  | zero => rfl
  | succ g ih => simp only [wof]; rw [ih, h.2 113 (by omega) (by omega)]
theorem wgt_fa {M M' : Nat → Nat → Int} (h : FA M M') (S : Nat) : wgt M' S = wgt M S := wof_fa h S 10
/-- the best of the sets below one -/
def bst (M : Nat → Nat → Int) : Nat → Nat
  | 0 => 0
  | S + 1 => if S ≠ 0 ∧ wE M S ≠ -1 ∧ otm M S = true ∧ (wgt M (bst M S) < wgt M S ∨ wgt M S = wgt M (bst M S) ∧ ons S < ons (bst M S)) then S else bst M S
def BS (M : Nat → Nat → Int) : Nat := bst M 1024
theorem bst_lt (M : Nat → Nat → Int) : ∀ S, S ≠ 0 → bst M S < S := by
  intro S; induction S with
  | zero => intro h; exact absurd rfl h
  | succ S ih =>
    intro _
    simp only [bst]
    split
    · omega
    · by_cases h : S = 0
      · subst h; simp [bst]
      · have := ih h; omega
theorem BS_lt (M : Nat → Nat → Int) : BS M < 1024 := bst_lt M 1024 (by omega)
theorem bst_ok (M : Nat → Nat → Int) : ∀ S, wE M (bst M S) ≠ -1 := by
  intro S; induction S with
  | zero => simp only [bst]; rw [wE_0]; omega
  | succ S ih => simp only [bst]; split
                 · next h => exact h.2.1
                 · exact ih
/-- the last of a set's way -/
theorem wst_ls {M : Nat → Nat → Int} {T : Nat → Int} {S : Nat} : ∀ n, (wst M T S n).1 ≠ -1 → ∃ f : Nat, f < n ∧ (wst M T S n).2 = f ∧ S.testBit f = true ∧ T (clr S f) ≠ -1 ∧ enS M T f (clr S f) ≠ -1 ∧ (wst M T S n).1 = enS M T f (clr S f) := by
  intro n; induction n with
  | zero => intro h; exact absurd rfl h
  | succ n ih =>
    simp only [wst]
    split
    · next h => intro _; exact ⟨n, by omega, rfl, h.1, h.2.1, h.2.2.1, rfl⟩
    · next h =>
      intro h2
      obtain ⟨f, h3, h4⟩ := ih h2
      exact ⟨f, by omega, h4⟩
theorem wL_sp {M : Nat → Nat → Int} {S : Nat} (h0 : S ≠ 0) (h : wE M S ≠ -1) : ∃ f : Nat, f < 10 ∧ wL M S = f ∧ S.testBit f = true ∧ wE M (clr S f) ≠ -1 ∧ enS M (wE M) f (clr S f) ≠ -1 ∧ wE M S = enS M (wE M) f (clr S f) := by
  rw [wE_eq h0] at h ⊢
  exact wst_ls 10 h
/-- the sets that are left, from the best one down -/
def lft (M : Nat → Nat → Int) (S : Nat) : Nat → Nat
  | 0 => S
  | i + 1 => clr (lft M S i) (wL M (lft M S i)).toNat
theorem lft_sp {M : Nat → Nat → Int} {S : Nat} (hS : S < 1024) (h : wE M S ≠ -1) : ∀ i : Nat, (i : Int) ≤ ons S → lft M S i < 1024 ∧ wE M (lft M S i) ≠ -1 ∧ ons (lft M S i) = ons S - i := by
  intro i; induction i with
  | zero => intro _; exact ⟨hS, h, by simp [lft]⟩
  | succ i ih =>
    intro hi
    obtain ⟨h1, h2, h3⟩ := ih (by omega)
    have h4 : lft M S i ≠ 0 := fun e => by have := (ons_0 _ h1).mpr e; omega
    obtain ⟨f, h5, h6, h7, h8, h9, h10⟩ := wL_sp h4 h2
    have e : (wL M (lft M S i)).toNat = f := by rw [h6]; rfl
    simp only [lft]
    rw [e]
    refine ⟨Nat.lt_of_le_of_lt (clr_le _ _) h1, h8, ?_⟩
    rw [ons_clr h1 h5 h7, h3]; omega
/-- the plan's facts, their starts, by place -/
def ord (M : Nat → Nat → Int) (k : Nat) : Nat := (wL M (lft M (BS M) ((ons (BS M)).toNat - 1 - k))).toNat
def sta (M : Nat → Nat → Int) (k : Nat) : Int := wE M (lft M (BS M) ((ons (BS M)).toNat - 1 - k)) - lng M (ord M k) 0
/-- may a version stand at a place -/
def ftv (M : Nat → Nat → Int) (k v : Nat) : Bool := (decide ((k : Int) = ons (BS M) - 1) || decide (sta M k + lng M (ord M k) v + M 100 3 ≤ sta M (k + 1))) && canM M (ord M k) v (sta M k)
/-- the longest of the first versions -/
def chv (M : Nat → Nat → Int) (k : Nat) : Nat → Int
  | 0 => 0
  | v + 1 => if v ≠ 0 ∧ ftv M k v = true then v else chv M k v
def chs (M : Nat → Nat → Int) (k : Nat) : Int := chv M k (M 119 (ord M k)).toNat
theorem ord_sp {M : Nat → Nat → Int} {k : Nat} (h : (k : Int) < ons (BS M)) : ord M k < 10 ∧ wL M (lft M (BS M) ((ons (BS M)).toNat - 1 - k)) = ord M k ∧ (lft M (BS M) ((ons (BS M)).toNat - 1 - k)).testBit (ord M k) = true ∧
    wE M (clr (lft M (BS M) ((ons (BS M)).toNat - 1 - k)) (ord M k)) ≠ -1 ∧ enS M (wE M) (ord M k) (clr (lft M (BS M) ((ons (BS M)).toNat - 1 - k)) (ord M k)) ≠ -1 ∧ wE M (lft M (BS M) ((ons (BS M)).toNat - 1 - k)) = enS M (wE M) (ord M k) (clr (lft M (BS M) ((ons (BS M)).toNat - 1 - k)) (ord M k)) := by
  have hb := ons_bd (BS M)
  obtain ⟨h1, h2, h3⟩ := lft_sp (BS_lt M) (bst_ok M 1024) ((ons (BS M)).toNat - 1 - k) (by omega)
  have h4 : lft M (BS M) ((ons (BS M)).toNat - 1 - k) ≠ 0 := fun e => by have := (ons_0 _ h1).mpr e; change ons (lft M (BS M) _) = _ at h3; omega
  obtain ⟨f, h5, h6, h7⟩ := wL_sp h4 h2
  have e : ord M k = f := by unfold ord; rw [h6]; rfl
  rw [e]
  exact ⟨h5, h6, h7⟩
/-- where the next one's set comes from -/
theorem lft_nx {M : Nat → Nat → Int} {k : Nat} (h : (k : Int) < ons (BS M)) : lft M (BS M) ((ons (BS M)).toNat - k) = clr (lft M (BS M) ((ons (BS M)).toNat - 1 - k)) (ord M k) := by
  have : (ons (BS M)).toNat - k = ((ons (BS M)).toNat - 1 - k) + 1 := by omega
  rw [this]; rfl
theorem lft_tb {M : Nat → Nat → Int} {S : Nat} (hS : S < 1024) (h : wE M S ≠ -1) {i g : Nat} : ∀ n, ((i + n : Nat) : Int) ≤ ons S → (lft M S (i + n)).testBit g = true → (lft M S i).testBit g = true := by
  intro n; induction n with
  | zero => intro _ h; exact h
  | succ n ih =>
    intro h1 h2
    have h3 := lft_sp hS h (i + n) (by omega)
    have h4 : lft M S (i + n) ≠ 0 := fun e => by have := (ons_0 _ h3.1).mpr e; omega
    obtain ⟨f, h5, h6, h7⟩ := wL_sp h4 h3.2.1
    refine ih (by omega) ?_
    rw [show i + (n + 1) = (i + n) + 1 by omega] at h2
    simp only [lft] at h2
    rw [show (wL M (lft M S (i + n))).toNat = f by rw [h6]; rfl, clr_tb h3.1 h5] at h2
    simp at h2; exact h2.1
/-- places have different facts -/
theorem ord_ne {M : Nat → Nat → Int} {k l : Nat} (h : (k : Int) < ons (BS M)) (hl : l < k) : ord M l ≠ ord M k := by
  intro e
  have h1 := ord_sp h
  have h2 := ord_sp (M := M) (k := l) (by omega)
  have hb := ons_bd (BS M)
  have h3 := lft_nx h
  have h4 := lft_sp (BS_lt M) (bst_ok M 1024) ((ons (BS M)).toNat - 1 - k) (by omega)
  have h5 := lft_tb (BS_lt M) (bst_ok M 1024) (i := (ons (BS M)).toNat - k) (g := ord M l) (k - 1 - l) (by show _ ≤ ons (BS M); omega) (by rw [show (ons (BS M)).toNat - k + (k - 1 - l) = (ons (BS M)).toNat - 1 - l by omega]; exact h2.2.2.1)
  have h6 : (lft M (BS M) ((ons (BS M)).toNat - k)).testBit (ord M l) = true := h5
  rw [h3, clr_tb h4.1 h1.1, e] at h6
  simp at h6
