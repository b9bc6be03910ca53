/-! the model: cut -/
def tri (M : Nat → Nat → Int) (i : Nat) : Int × Int × Int := (M 106 i, M 107 i, M 108 i)
/-- the first sounds -/
def sl (M : Nat → Nat → Int) (n : Nat) : List (Int × Int × Int) := (List.range n).map (tri M)
def sls (M : Nat → Nat → Int) : List (Int × Int × Int) := sl M (M 100 4).toNat
theorem sl_s (M : Nat → Nat → Int) (n : Nat) : sl M (n + 1) = sl M n ++ [tri M n] := by unfold sl; rw [List.range_succ, List.map_append]; rfl
theorem sl_cg {M M' : Nat → Nat → Int} {n : Nat} (h : ∀ i, i < n → tri M' i = tri M i) : sl M' n = sl M n := by
  unfold sl; exact List.map_congr_left (fun i hi => h i (List.mem_range.mp hi))
theorem sl_len (M : Nat → Nat → Int) (n : Nat) : (sl M n).length = n := by unfold sl; rw [List.length_map, List.length_range]
/-- a sound in a cut -/
def cutS (a m : Int) (x : Int × Int × Int) : Option (Int × Int × Int) := if mpd x.2.1 a m < mpd x.2.2 a m then some (x.1, mpd x.2.1 a m, mpd x.2.2 a m) else none
/-- is a fact gone with a cut -/
def gon (M : Nat → Nat → Int) (a m : Int) (f : Nat) : Prop := M 110 f ≠ 0 ∧ a ≤ M 111 f ∧ M 111 f ≤ a + m - 1
theorem goes_at (M : Nat → Nat → Int) (f r i : Nat) : goes M f r i = if r = 110 ∧ i = f then 0 else if r = 154 ∧ i = f then 0 else if r = 155 ∧ f * 6 ≤ i ∧ i < f * 6 + 6 then 0 else if r = 100 ∧ i = 50 ∧ M 100 50 = f then -1 else if r = 100 ∧ i = 52 ∧ M 100 50 = f then 0 else M r i := by
  have h1 : ∀ n r i, mkz (goe1 M f) f n r i = if r = 155 ∧ f * 6 ≤ i ∧ i < f * 6 + n then 0 else goe1 M f r i := by
    intro n; induction n with
    | zero => intro r i; simp only [mkz]; rw [if_neg (by omega)]
    | succ n ih =>
      intro r i
      simp only [mkz]
      by_cases q : r = 155 ∧ i = f * 6 + n
      · obtain ⟨rfl, rfl⟩ := q
        rw [am_u_eq, if_pos (by omega)]
      · rw [show am_u (mkz (goe1 M f) f n) 155 (f * 6 + n) 0 r i = mkz (goe1 M f) f n r i from if_neg q, ih]
        by_cases q2 : r = 155 ∧ f * 6 ≤ i ∧ i < f * 6 + n
        · rw [if_pos q2, if_pos (by omega)]
        · rw [if_neg q2, if_neg (by omega)]
  unfold goes
  rw [h1]
  by_cases q : M 100 50 = f
  · unfold goe1; rw [if_pos q]; unfold goe0 am_u
    by_cases h2 : r = 155
    · subst h2; simp
    · by_cases h3 : r = 110
      · subst h3; simp
      · by_cases h4 : r = 154
        · subst h4; simp
        · by_cases h5 : r = 100
          · subst h5
            by_cases h6 : i = 50
            · subst h6; simp [q]
            · by_cases h7 : i = 52
              · subst h7; simp [q]
              · simp [h6, h7]
          · simp [h2, h3, h4, h5]
  · unfold goe1; rw [if_neg q]; unfold goe0 am_u
    by_cases h2 : r = 155
    · subst h2; simp
    · by_cases h3 : r = 110
      · subst h3; simp
      · by_cases h4 : r = 154
        · subst h4; simp
        · simp [h2, h3, h4, q]
theorem goes_50 (M : Nat → Nat → Int) (f : Nat) : goes M f 100 50 = if M 100 50 = f then -1 else M 100 50 := by rw [goes_at]; simp
theorem goes_52 (M : Nat → Nat → Int) (f : Nat) : goes M f 100 52 = if M 100 50 = f then 0 else M 100 52 := by rw [goes_at]; simp
/-- what a cut leaves -/
def CUT (M : Nat → Nat → Int) (a m : Int) (M' : Nat → Nat → Int) : Prop :=
  (∀ r i, r ≠ 100 → ¬ (106 ≤ r ∧ r ≤ 112) → r ≠ 154 → r ≠ 155 → M' r i = M r i) ∧
  (∀ i, i ≠ 0 → i ≠ 1 → i ≠ 4 → i ≠ 20 → i ≠ 50 → i ≠ 52 → M' 100 i = M 100 i) ∧
  (M' 100 0 = 0 ∧ M' 100 1 = M 100 1 - m ∧ M' 100 20 = 0) ∧ ((0 ≤ M' 100 4 ∧ M' 100 4 ≤ M 100 4) ∧ sls M' = (sls M).filterMap (cutS a m)) ∧
  (∀ f, f < 10 → (gon M a m f → M' 110 f = 0 ∧ M' 154 f = 0 ∧ ∀ k, k < 6 → M' 155 (f * 6 + k) = 0) ∧ (¬ gon M a m f → M' 110 f = M 110 f ∧ M' 154 f = M 154 f ∧ ∀ k, k < 6 → M' 155 (f * 6 + k) = M 155 (f * 6 + k)) ∧ M' 111 f = mpd (M 111 f) a m ∧ M' 112 f = mpd (M 112 f) a m) ∧
  ((∃ f : Nat, f < 10 ∧ gon M a m f ∧ M 100 50 = f) → M' 100 50 = -1 ∧ M' 100 52 = 0) ∧ (¬ (∃ f : Nat, f < 10 ∧ gon M a m f ∧ M 100 50 = f) → M' 100 50 = M 100 50 ∧ M' 100 52 = M 100 52) ∧
  (∀ j, j < 10 → M' 109 j = if M 109 j = 0 then 0 else mpd (M 109 j - 1) a m + 1)
/-- how many of the first ones are gone -/
def gnc (M : Nat → Nat → Int) (a m : Int) : Nat → Int
  | 0 => 0
  | f + 1 => gnc M a m f + (if M 110 f ≠ 0 ∧ a ≤ M 111 f ∧ M 111 f ≤ a + m - 1 then 1 else 0)
/-- after the sounds -/
def CU1 (M : Nat → Nat → Int) (a m : Int) (k c : Nat) (M' : Nat → Nat → Int) : Prop := (∀ r i, r ≠ 106 → r ≠ 107 → r ≠ 108 → M' r i = am_u M 100 0 0 r i) ∧ c ≤ k ∧ sl M' c = (sl M k).filterMap (cutS a m) ∧ ∀ i, k ≤ i → tri M' i = tri M i
/-- after some facts, from what the sounds left -/
def CU2 (N : Nat → Nat → Int) (a m : Int) (f : Nat) (M' : Nat → Nat → Int) : Prop :=
  (∀ r i, r ≠ 100 → ¬ (110 ≤ r ∧ r ≤ 112) → r ≠ 154 → r ≠ 155 → M' r i = N r i) ∧ (∀ i, i ≠ 50 → i ≠ 52 → M' 100 i = N 100 i) ∧
  (∀ g, g < f → (gon N a m g → M' 110 g = 0 ∧ M' 154 g = 0 ∧ ∀ k, k < 6 → M' 155 (g * 6 + k) = 0) ∧ (¬ gon N a m g → M' 110 g = N 110 g ∧ M' 154 g = N 154 g ∧ ∀ k, k < 6 → M' 155 (g * 6 + k) = N 155 (g * 6 + k)) ∧ M' 111 g = mpd (N 111 g) a m ∧ M' 112 g = mpd (N 112 g) a m) ∧
  (∀ g, f ≤ g → M' 110 g = N 110 g ∧ M' 154 g = N 154 g ∧ (∀ k, k < 6 → M' 155 (g * 6 + k) = N 155 (g * 6 + k)) ∧ M' 111 g = N 111 g ∧ M' 112 g = N 112 g) ∧
  ((∃ g : Nat, g < f ∧ gon N a m g ∧ N 100 50 = g) → M' 100 50 = -1 ∧ M' 100 52 = 0) ∧ (¬ (∃ g : Nat, g < f ∧ gon N a m g ∧ N 100 50 = g) → M' 100 50 = N 100 50 ∧ M' 100 52 = N 100 52)
theorem CU2_s {N M' : Nat → Nat → Int} {a m : Int} {f : Nat} (h : CU2 N a m f M') (hg : gon N a m f) : CU2 N a m (f + 1) (am_u (am_u (goes M' f) 111 f (mpd (N 111 f) a m)) 112 f (mpd (N 112 f) a m)) := by
  obtain ⟨h1, h2, h3, h4, h5, h6⟩ := h
  have hu : M' 100 50 = f ↔ N 100 50 = f := by
    rcases Classical.em (∃ g : Nat, g < f ∧ gon N a m g ∧ N 100 50 = g) with q | q
    · have := h5 q; obtain ⟨g, q1, q2, q3⟩ := q; constructor <;> intro h7 <;> omega
    · rw [(h6 q).1]
  refine ⟨fun r i q1 q2 q3 q4 => ?_, fun i q1 q2 => ?_, fun g hg2 => ?_, fun g hg2 => ?_, fun q => ?_, fun q => ?_⟩
  · rw [am_u_na _ _ _ _ (by omega), am_u_na _ _ _ _ (by omega), goes_at, if_neg (by omega), if_neg (by omega), if_neg (by omega), if_neg (by omega), if_neg (by omega)]; exact h1 r i q1 q2 q3 q4
  · rw [am_u_na _ _ _ _ (by omega), am_u_na _ _ _ _ (by omega), goes_at, if_neg (by omega), if_neg (by omega), if_neg (by omega), if_neg (by omega), if_neg (by omega)]; exact h2 i q1 q2
  · rcases Nat.lt_or_eq_of_le (Nat.le_of_lt_succ hg2) with q | q
    · have h7 := h3 g q
      have e1 : (am_u (am_u (goes M' f) 111 f (mpd (N 111 f) a m)) 112 f (mpd (N 112 f) a m)) 110 g = M' 110 g := by rw [am_u_na _ _ _ _ (by omega), am_u_na _ _ _ _ (by omega), goes_at, if_neg (by omega), if_neg (by omega), if_neg (by omega), if_neg (by omega), if_neg (by omega)]
      have e2 : (am_u (am_u (goes M' f) 111 f (mpd (N 111 f) a m)) 112 f (mpd (N 112 f) a m)) 154 g = M' 154 g := by rw [am_u_na _ _ _ _ (by omega), am_u_na _ _ _ _ (by omega), goes_at, if_neg (by omega), if_neg (by omega), if_neg (by omega), if_neg (by omega), if_neg (by omega)]
      have e3 : ∀ k, k < 6 → (am_u (am_u (goes M' f) 111 f (mpd (N 111 f) a m)) 112 f (mpd (N 112 f) a m)) 155 (g * 6 + k) = M' 155 (g * 6 + k) := by intro k hk; rw [am_u_na _ _ _ _ (by omega), am_u_na _ _ _ _ (by omega), goes_at, if_neg (by omega), if_neg (by omega), if_neg (by omega), if_neg (by omega), if_neg (by omega)]
      have e4 : (am_u (am_u (goes M' f) 111 f (mpd (N 111 f) a m)) 112 f (mpd (N 112 f) a m)) 111 g = M' 111 g := by rw [am_u_na _ _ _ _ (by omega), am_u_ni _ _ _ _ (by omega), goes_at, if_neg (by omega), if_neg (by omega), if_neg (by omega), if_neg (by omega), if_neg (by omega)]
      have e5 : (am_u (am_u (goes M' f) 111 f (mpd (N 111 f) a m)) 112 f (mpd (N 112 f) a m)) 112 g = M' 112 g := by rw [am_u_ni _ _ _ _ (by omega), am_u_na _ _ _ _ (by omega), goes_at, if_neg (by omega), if_neg (by omega), if_neg (by omega), if_neg (by omega), if_neg (by omega)]
      rw [e1, e2, e4, e5]
      refine ⟨fun w => ⟨(h7.1 w).1, (h7.1 w).2.1, fun k hk => by rw [e3 k hk]; exact (h7.1 w).2.2 k hk⟩, fun w => ⟨(h7.2.1 w).1, (h7.2.1 w).2.1, fun k hk => by rw [e3 k hk]; exact (h7.2.1 w).2.2 k hk⟩, h7.2.2⟩
    · subst q
      refine ⟨fun _ => ⟨?_, ?_, fun k hk => ?_⟩, fun w => absurd hg w, ?_, ?_⟩
      · rw [am_u_na _ _ _ _ (by omega), am_u_na _ _ _ _ (by omega), goes_at, if_pos ⟨rfl, rfl⟩]
      · rw [am_u_na _ _ _ _ (by omega), am_u_na _ _ _ _ (by omega), goes_at, if_neg (by omega), if_pos ⟨rfl, rfl⟩]
      · rw [am_u_na _ _ _ _ (by omega), am_u_na _ _ _ _ (by omega), goes_at, if_neg (by omega), if_neg (by omega), if_pos (by omega)]
      · rw [am_u_na _ _ _ _ (by omega), am_u_eq]
      · rw [am_u_eq]
  · have h7 := h4 g (by omega)
    refine ⟨?_, ?_, fun k hk => ?_, ?_, ?_⟩
    · rw [am_u_na _ _ _ _ (by omega), am_u_na _ _ _ _ (by omega), goes_at, if_neg (by omega), if_neg (by omega), if_neg (by omega), if_neg (by omega), if_neg (by omega)]; exact h7.1
    · rw [am_u_na _ _ _ _ (by omega), am_u_na _ _ _ _ (by omega), goes_at, if_neg (by omega), if_neg (by omega), if_neg (by omega), if_neg (by omega), if_neg (by omega)]; exact h7.2.1
    · rw [am_u_na _ _ _ _ (by omega), am_u_na _ _ _ _ (by omega), goes_at, if_neg (by omega), if_neg (by omega), if_neg (by omega), if_neg (by omega), if_neg (by omega)]; exact h7.2.2.1 k hk
    · rw [am_u_na _ _ _ _ (by omega), am_u_ni _ _ _ _ (by omega), goes_at, if_neg (by omega), if_neg (by omega), if_neg (by omega), if_neg (by omega), if_neg (by omega)]; exact h7.2.2.2.1
    · rw [am_u_ni _ _ _ _ (by omega), am_u_na _ _ _ _ (by omega), goes_at, if_neg (by omega), if_neg (by omega), if_neg (by omega), if_neg (by omega), if_neg (by omega)]; exact h7.2.2.2.2
  · rw [am_u_na _ _ _ _ (by omega), am_u_na _ _ _ _ (by omega), am_u_na _ _ _ _ (by omega), am_u_na _ _ _ _ (by omega), goes_50, goes_52]
    by_cases hf : M' 100 50 = f
    · rw [if_pos hf, if_pos hf]; exact ⟨rfl, rfl⟩
    · rw [if_neg hf, if_neg hf]
      refine h5 ?_
      obtain ⟨g, q1, q2, q3⟩ := q
      refine ⟨g, ?_, q2, q3⟩
      rcases Nat.lt_or_eq_of_le (Nat.le_of_lt_succ q1) with w | w
      · exact w
      · subst w; exact absurd (hu.mpr q3) hf
  · have hf : ¬ M' 100 50 = f := fun w => q ⟨f, by omega, hg, hu.mp w⟩
    rw [am_u_na _ _ _ _ (by omega), am_u_na _ _ _ _ (by omega), am_u_na _ _ _ _ (by omega), am_u_na _ _ _ _ (by omega), goes_50, goes_52, if_neg hf, if_neg hf]
    exact h6 (fun ⟨g, q1, q2⟩ => q ⟨g, by omega, q2⟩)
theorem CU2_k {N M' : Nat → Nat → Int} {a m : Int} {f : Nat} (h : CU2 N a m f M') (hg : ¬ gon N a m f) : CU2 N a m (f + 1) (am_u (am_u M' 111 f (mpd (N 111 f) a m)) 112 f (mpd (N 112 f) a m)) := by
  obtain ⟨h1, h2, h3, h4, h5, h6⟩ := h
  have he : (∃ g : Nat, g < f + 1 ∧ gon N a m g ∧ N 100 50 = g) → ∃ g : Nat, g < f ∧ gon N a m g ∧ N 100 50 = g := fun ⟨g, q1, q2, q3⟩ => by
    rcases Nat.lt_or_eq_of_le (Nat.le_of_lt_succ q1) with w | w
    · exact ⟨g, w, q2, q3⟩
    · subst w; exact absurd q2 hg
  refine ⟨fun r i q1 q2 q3 q4 => ?_, fun i q1 q2 => ?_, fun g hg2 => ?_, fun g hg2 => ?_, fun q => ?_, fun q => ?_⟩
  · rw [am_u_na _ _ _ _ (by omega), am_u_na _ _ _ _ (by omega)]; exact h1 r i q1 q2 q3 q4
  · rw [am_u_na _ _ _ _ (by omega), am_u_na _ _ _ _ (by omega)]; exact h2 i q1 q2
  · rw [am_u_na _ _ _ _ (show (110 : Nat) ≠ 112 by omega), am_u_na _ _ _ _ (show (110 : Nat) ≠ 111 by omega), am_u_na _ _ _ _ (show (154 : Nat) ≠ 112 by omega), am_u_na _ _ _ _ (show (154 : Nat) ≠ 111 by omega), am_u_na _ _ _ _ (show (111 : Nat) ≠ 112 by omega)]
    have e3 : ∀ i, (am_u (am_u M' 111 f (mpd (N 111 f) a m)) 112 f (mpd (N 112 f) a m)) 155 i = M' 155 i := fun i => by rw [am_u_na _ _ _ _ (by omega), am_u_na _ _ _ _ (by omega)]
    simp only [e3]
    rcases Nat.lt_or_eq_of_le (Nat.le_of_lt_succ hg2) with q | q
    · rw [am_u_ni _ _ _ _ (by omega), am_u_ni _ _ _ _ (by omega), am_u_na _ _ _ _ (show (112 : Nat) ≠ 111 by omega)]; exact h3 g q
    · subst q
      have h7 := h4 g (Nat.le_refl _)
      rw [am_u_eq, am_u_eq]
      exact ⟨fun w => absurd w hg, fun _ => ⟨h7.1, h7.2.1, h7.2.2.1⟩, rfl, rfl⟩
  · have h7 := h4 g (by omega)
    rw [am_u_na _ _ _ _ (show (110 : Nat) ≠ 112 by omega), am_u_na _ _ _ _ (show (110 : Nat) ≠ 111 by omega), am_u_na _ _ _ _ (show (154 : Nat) ≠ 112 by omega), am_u_na _ _ _ _ (show (154 : Nat) ≠ 111 by omega), am_u_na _ _ _ _ (show (111 : Nat) ≠ 112 by omega), am_u_ni _ _ _ _ (by omega), am_u_ni _ _ _ _ (by omega), am_u_na _ _ _ _ (show (112 : Nat) ≠ 111 by omega)]
    exact ⟨h7.1, h7.2.1, fun k hk => by rw [am_u_na _ _ _ _ (by omega), am_u_na _ _ _ _ (by omega)]; exact h7.2.2.1 k hk, h7.2.2.2⟩
  · rw [am_u_na _ _ _ _ (by omega), am_u_na _ _ _ _ (by omega), am_u_na _ _ _ _ (by omega), am_u_na _ _ _ _ (by omega)]; exact h5 (he q)
  · rw [am_u_na _ _ _ _ (by omega), am_u_na _ _ _ _ (by omega), am_u_na _ _ _ _ (by omega), am_u_na _ _ _ _ (by omega)]; exact h6 (fun ⟨g, q1, q2⟩ => q ⟨g, by omega, q2⟩)
