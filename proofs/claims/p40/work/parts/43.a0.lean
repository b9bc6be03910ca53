/-! p40, A FULL OBJECT: what it stands for -/
/-- n sounds -/
def SND (n : Nat) (M : Nat → Nat → Int) : Prop := M 100 4 = (n : Int) ∧ ∀ k : Nat, k < n → M 106 k = 103 ∧ M 107 k = 10 * (k : Int) ∧ M 108 k = 10 * (k : Int) + 5
/-- n facts -/
def FCT (n : Nat) (M : Nat → Nat → Int) : Prop := (∀ j : Nat, j < n → M 110 j = 1 ∧ M 112 j = 400 + (j : Int) ∧ M 119 j = 0) ∧ ∀ j : Nat, n ≤ j → j < 10 → M 110 j = 0
/-- the first edition -/
def KP (M : Nat → Nat → Int) : Prop := (M 131 0 = 600 ∧ M 132 0 = 30) ∧ (∀ k : Nat, k < 30 → M 135 k = 10 * (k : Int) + 5) ∧ ∀ j : Nat, j < 10 → M 137 j = 1 ∧ M 139 j = 400 + (j : Int)
def FU (t : Int) (n f e : Nat) (M : Nat → Nat → Int) : Prop := (M 100 1 = t ∧ M 100 50 = -1 ∧ M 100 29 = (e : Int)) ∧ SND n M ∧ FCT f M ∧ (1 ≤ e → KP M)
section
variable {M : Nat → Nat → Int} {t : Int} {n f e : Nat}
theorem KP_cg {M' : Nat → Nat → Int} (h : KP M) (hM : ∀ r i, 131 ≤ r → r ≤ 147 → M' r i = M r i) : KP M' :=
  ⟨⟨by rw [hM _ _ (by omega) (by omega)]; exact h.1.1, by rw [hM _ _ (by omega) (by omega)]; exact h.1.2⟩, fun k hk => by rw [hM _ _ (by omega) (by omega)]; exact h.2.1 k hk, fun j hj => by rw [hM _ _ (by omega) (by omega), hM _ _ (by omega) (by omega)]; exact h.2.2 j hj⟩
theorem FU_cg {M' : Nat → Nat → Int} {t' : Int} (h : FU t n f e M) (h1 : M' 100 1 = t') (h2 : M' 100 50 = M 100 50 ∧ M' 100 29 = M 100 29 ∧ M' 100 4 = M 100 4) (hM : ∀ r i, 106 ≤ r → r ≤ 147 → M' r i = M r i) : FU t' n f e M' := by
  obtain ⟨⟨a1, a2, a3⟩, ⟨b1, b2⟩, ⟨c1, c2⟩, d1⟩ := h
  refine ⟨⟨h1, by rw [h2.1]; exact a2, by rw [h2.2.1]; exact a3⟩, ⟨by rw [h2.2.2]; exact b1, fun k hk => ?_⟩, ⟨fun j hj => ?_, fun j q1 q2 => ?_⟩, fun he => KP_cg (d1 he) (fun r i q1 q2 => hM r i (by omega) (by omega))⟩
  · rw [hM 106 k (by omega) (by omega), hM 107 k (by omega) (by omega), hM 108 k (by omega) (by omega)]; exact b2 k hk
  · rw [hM 110 j (by omega) (by omega), hM 112 j (by omega) (by omega), hM 119 j (by omega) (by omega)]; exact c1 j hj
  · rw [hM 110 j (by omega) (by omega)]; exact c2 j q1 q2
theorem FU_0 (h : FU t n f e M) (c : Int) : FU t n f e (am_u M 100 0 c) := by
  have e9 : ∀ r i, ¬ (r = 100 ∧ i = 0) → am_u M 100 0 c r i = M r i := fun r i q => if_neg q
  exact FU_cg h ((e9 _ _ (by omega)).trans h.1.1) ⟨e9 _ _ (by omega), e9 _ _ (by omega), e9 _ _ (by omega)⟩ (fun r i q1 q2 => e9 _ _ (by omega))
theorem FU_new (h : NEW M) : FU 600 0 0 0 M := ⟨⟨h.1.2.1, h.1.2.2.2.2.2.2.2.2.2.1, h.1.2.2.2.2.2.2.1⟩, ⟨h.1.2.2.2.2.1, fun k hk => absurd hk (by omega)⟩, ⟨fun j hj => absurd hj (by omega), fun j _ _ => h.2.1 110 j (by omega) (by omega)⟩, fun he => absurd he (by omega)⟩
/-- one sound more -/
theorem FU_S (h : FU 600 n 0 0 M) (hn : n < 30) : qz 0 1 0 (d_sound M 103 (10 * (n : Int)) (10 * (n : Int) + 5)) = (n : Int) + 1 ∧ FU 600 (n + 1) 0 0 (d_sound M 103 (10 * (n : Int)) (10 * (n : Int) + 5)).1 := by
  obtain ⟨⟨a1, a2, a3⟩, ⟨b1, b2⟩, ⟨c1, c2⟩, d1⟩ := h
  have e0 : d_sound M 103 (10 * (n : Int)) (10 * (n : Int) + 5) = (dch (am_u (am_u (am_u (am_u (am_u M 100 0 0) 106 n 103) 107 n (10 * (n : Int))) 108 n (10 * (n : Int) + 5)) 100 4 ((n : Int) + 1)), (n : Int) + 1) := by
    unfold d_sound
    rw [if_neg (by rw [a1]; omega), if_neg (by rw [b1]; omega), b1, Int.toNat_natCast]
  rw [e0]
  obtain ⟨M', hM⟩ : ∃ M', M' = dch (am_u (am_u (am_u (am_u (am_u M 100 0 0) 106 n 103) 107 n (10 * (n : Int))) 108 n (10 * (n : Int) + 5)) 100 4 ((n : Int) + 1)) := ⟨_, rfl⟩
  rw [← hM]
  show qz 0 1 0 (M', (n : Int) + 1) = (n : Int) + 1 ∧ FU 600 (n + 1) 0 0 M'
  have eM : ∀ r i, ¬ (r = 100 ∧ (i = 0 ∨ i = 4 ∨ i = 20)) → ¬ ((106 ≤ r ∧ r ≤ 108) ∧ i = n) → M' r i = M r i := fun r i q q2 => by
    rw [hM]; unfold dch am_u; rw [if_neg (by omega), if_neg (by omega), if_neg (by omega), if_neg (by omega), if_neg (by omega), if_neg (by omega)]
  have e4 : M' 100 4 = (n : Int) + 1 := by rw [hM]; simp [dch, am_u]
  have e00 : M' 100 0 = 0 := by rw [hM]; simp [dch, am_u]
  have e6 : M' 106 n = 103 := by rw [hM]; simp [dch, am_u]
  have e7 : M' 107 n = 10 * (n : Int) := by rw [hM]; simp [dch, am_u]
  have e8 : M' 108 n = 10 * (n : Int) + 5 := by rw [hM]; simp [dch, am_u]
  refine ⟨qz_0 e00, ⟨by rw [eM _ _ (by omega) (by omega)]; exact a1, by rw [eM _ _ (by omega) (by omega)]; exact a2, by rw [eM _ _ (by omega) (by omega)]; exact a3⟩, ⟨by rw [e4]; omega, fun k hk => ?_⟩, ⟨fun j hj => absurd hj (by omega), fun j q1 q2 => by rw [eM _ _ (by omega) (by omega)]; exact c2 j q1 q2⟩, fun he => absurd he (by omega)⟩
  by_cases q : k = n
  · rw [q]; exact ⟨e6, e7, e8⟩
  · rw [eM 106 k (by omega) (by omega), eM 107 k (by omega) (by omega), eM 108 k (by omega) (by omega)]; exact b2 k (by omega)
theorem fcn_le (M : Nat → Nat → Int) : ∀ n : Nat, fcn M n ≤ n
  | 0 => by show (0 : Int) ≤ 0; omega
  | n + 1 => by have := fcn_le M n; rw [fcn]; split <;> omega
theorem fcn_lt (M : Nat → Nat → Int) {k : Nat} (hk : M 110 k = 0) : ∀ n : Nat, k < n → fcn M n < n
  | 0, q => by omega
  | n + 1, q => by
    rw [fcn]
    by_cases w : k = n
    · have := fcn_le M n
      rw [if_pos (by rw [← w]; exact hk)]; omega
    · have := fcn_lt M hk n (by omega)
      split <;> omega
theorem fcn_al1 (M : Nat → Nat → Int) : ∀ n : Nat, (∀ k, k < n → M 110 k = 1) → fcn M n = n
  | 0, _ => rfl
  | n + 1, q => by rw [fcn, fcn_al1 M n (fun k hk => q k (by omega)), if_neg (by rw [q n (by omega)]; decide)]; omega
theorem ffd_at (M : Nat → Nat → Int) {j : Nat} (h0 : M 110 j = 0) (h1 : ∀ i, i < j → M 110 i ≠ 0) : ∀ n i : Nat, i ≤ j → j < i + n → ffd M n i = j
  | 0, i, q1, q2 => by omega
  | n + 1, i, q1, q2 => by
    rw [ffd]
    by_cases w : i = j
    · rw [if_pos (by rw [w]; exact h0), w]
    · rw [if_neg (h1 i (by omega)), ffd_at M h0 h1 n (i + 1) (by omega) (by omega)]
/-- a fact at the first free number -/
theorem FU_fa {j : Nat} {x y : Int} (hj : j < 10) (h0 : M 110 j = 0) (h1 : ∀ i, i < j → M 110 i ≠ 0) (hg : 0 ≤ x ∧ x ≤ y - 1 ∧ y ≤ M 100 1) : qz 0 1 0 (d_fact M x y 1 0 0) = j ∧ ∀ r i, (d_fact M x y 1 0 0).1 r i = if r = 100 ∧ (i = 0 ∨ i = 20) then 0 else if r = 110 ∧ i = j then 1 else if r = 111 ∧ i = j then x else if r = 112 ∧ i = j then y else if r = 113 ∧ i = j then 1 else if (114 ≤ r ∧ r ≤ 119) ∧ i = j then 0 else M r i := by
  have e0 : d_fact M x y 1 0 0 = (dch (am_u (am_u (am_u (am_u (am_u (am_u (am_u (am_u (am_u (am_u (am_u M 100 0 0) 110 j 1) 111 j x) 112 j y) 113 j 1) 114 j 0) 115 j 0) 116 j 0) 117 j 0) 118 j 0) 119 j 0), (j : Int)) := by
    have := fcn_lt M h0 10 (by omega)
    unfold d_fact
    rw [if_neg (by omega), if_neg (by omega), ffd_at M h0 h1 10 0 (by omega) (by omega)]
  rw [e0]
  refine ⟨qz_0 (by simp [dch, am_u]), fun r i => ?_⟩
  unfold dch am_u
  dsimp only
  by_cases q : i = j
  · subst q
    by_cases r0 : r = 100
    · subst r0; by_cases w : i = 20 <;> by_cases w2 : i = 0 <;> simp [w, w2]
    · by_cases r1 : r = 110
      · simp [r1]
      · by_cases r2 : r = 111
        · simp [r2]
        · by_cases r3 : r = 112
          · simp [r3]
          · by_cases r4 : r = 113
            · simp [r4]
            · by_cases r5 : 114 ≤ r ∧ r ≤ 119
              · have : r = 114 ∨ r = 115 ∨ r = 116 ∨ r = 117 ∨ r = 118 ∨ r = 119 := by omega
                rcases this with rfl | rfl | rfl | rfl | rfl | rfl <;> simp
              · simp only [r0, r1, r2, r3, r4, false_and, if_false, show r ≠ 114 by omega, show r ≠ 115 by omega, show r ≠ 116 by omega, show r ≠ 117 by omega, show r ≠ 118 by omega, show r ≠ 119 by omega, r5]
  · simp only [q, and_false, if_false]
    by_cases r0 : r = 100
    · subst r0; by_cases w : i = 20 <;> by_cases w2 : i = 0 <;> simp [w, w2]
    · simp [r0]
theorem FU_f {j : Nat} (h : FU 600 30 j 0 M) (hj : j < 10) : qz 0 1 0 (d_fact M j (400 + (j : Int)) 1 0 0) = j ∧ FU 600 30 (j + 1) 0 (d_fact M j (400 + (j : Int)) 1 0 0).1 := by
  obtain ⟨⟨a1, a2, a3⟩, ⟨b1, b2⟩, ⟨c1, c2⟩, d1⟩ := h
  obtain ⟨hz, eM⟩ := FU_fa (M := M) (x := (j : Int)) (y := 400 + (j : Int)) hj (c2 j (by omega) hj) (fun i hi => by rw [(c1 i hi).1]; decide) (by omega)
  have eo : ∀ r i, ¬ (r = 100 ∧ (i = 0 ∨ i = 20)) → ¬ ((110 ≤ r ∧ r ≤ 119) ∧ i = j) → (d_fact M j (400 + (j : Int)) 1 0 0).1 r i = M r i := fun r i q q2 => by
    rw [eM, if_neg q, if_neg (by omega), if_neg (by omega), if_neg (by omega), if_neg (by omega), if_neg (by omega)]
  refine ⟨hz, ⟨by rw [eo _ _ (by omega) (by omega)]; exact a1, by rw [eo _ _ (by omega) (by omega)]; exact a2, by rw [eo _ _ (by omega) (by omega)]; exact a3⟩, ⟨by rw [eo _ _ (by omega) (by omega)]; exact b1, fun k hk => by rw [eo 106 k (by omega) (by omega), eo 107 k (by omega) (by omega), eo 108 k (by omega) (by omega)]; exact b2 k hk⟩, ⟨fun i hi => ?_, fun i q1 q2 => by rw [eo 110 i (by omega) (by omega)]; exact c2 i (by omega) q2⟩, fun he => absurd he (by omega)⟩
  by_cases q : i = j
  · subst q
    refine ⟨?_, ?_, ?_⟩
    · rw [eM]; simp
    · rw [eM]; simp
    · rw [eM]; simp
  · rw [eo 110 i (by omega) (by omega), eo 112 i (by omega) (by omega), eo 119 i (by omega) (by omega)]; exact c1 i (by omega)
/-- an edition -/
def edM (M : Nat → Nat → Int) (e : Nat) : Nat → Nat → Int := fun r i =>
  if r = 100 then (if i = 0 then 0 else if i = 29 then (e : Int) + 1 else M 100 i)
  else if r = 131 then (if i = e then M 100 1 else M r i) else if r = 132 then (if i = e then M 100 4 else M r i)
  else if 133 ≤ r ∧ r ≤ 135 then (if e * 30 ≤ i ∧ i < e * 30 + 30 then M (r - 27) (i - e * 30) else M r i)
  else if 136 ≤ r ∧ r ≤ 146 then (if e * 10 ≤ i ∧ i < e * 10 + 10 then M (r - 27) (i - e * 10) else M r i)
  else if r = 147 then (if e * 30 ≤ i ∧ i < e * 30 + 30 then M 120 (i - e * 30) else M r i) else M r i
theorem edM_0 (M : Nat → Nat → Int) (e : Nat) : edM M e 100 0 = 0 := rfl
theorem EDI_ed (M : Nat → Nat → Int) (hn : M 100 4 ≤ 30) (e : Nat) : EDI M e (edM M e) := by
  refine ⟨fun r i q1 q2 => ?_, fun i q1 q2 => ?_, ⟨rfl, rfl⟩, ⟨?_, ?_⟩, fun i hi => ⟨?_, ?_⟩, fun k hk => ⟨?_, ?_, ?_⟩, fun r i q1 q2 q3 => ?_, fun r k q1 q2 q3 => ?_, fun r i q1 q2 q3 => ?_, fun i hi => ?_, fun i hi => ?_⟩
  · unfold edM; rw [if_neg q1, if_neg (by omega), if_neg (by omega), if_neg (by omega), if_neg (by omega), if_neg (by omega)]
  · unfold edM; rw [if_pos rfl, if_neg q1, if_neg q2]
  · unfold edM; simp
  · unfold edM; simp
  · unfold edM; rw [if_neg (by omega), if_pos rfl, if_neg (by omega)]
  · unfold edM; rw [if_neg (by omega), if_neg (by omega), if_pos rfl, if_neg (by omega)]
  · unfold edM; rw [if_neg (by omega), if_neg (by omega), if_neg (by omega), if_pos (by omega), if_pos (by omega), Nat.add_sub_cancel_left]
  · unfold edM; rw [if_neg (by omega), if_neg (by omega), if_neg (by omega), if_pos (by omega), if_pos (by omega), Nat.add_sub_cancel_left]
  · unfold edM; rw [if_neg (by omega), if_neg (by omega), if_neg (by omega), if_pos (by omega), if_pos (by omega), Nat.add_sub_cancel_left]
  · unfold edM; rw [if_neg (by omega), if_neg (by omega), if_neg (by omega), if_pos (by omega), if_neg (by omega)]
  · unfold edM; rw [if_neg (by omega), if_neg (by omega), if_neg (by omega), if_neg (by omega), if_pos (by omega), if_pos (by omega), Nat.add_sub_cancel_left]
  · unfold edM; rw [if_neg (by omega), if_neg (by omega), if_neg (by omega), if_neg (by omega), if_pos (by omega), if_neg (by omega)]
  · unfold edM; rw [if_neg (by omega), if_neg (by omega), if_neg (by omega), if_neg (by omega), if_neg (by omega), if_pos rfl, if_pos (by omega), Nat.add_sub_cancel_left]
  · unfold edM; rw [if_neg (by omega), if_neg (by omega), if_neg (by omega), if_neg (by omega), if_neg (by omega), if_pos rfl, if_neg (by omega)]
theorem FU_E {e : Nat} (h : FU 600 30 10 e M) (he : e < 4) : qz 1 0 0 (edM M e, (e : Int)) = e ∧ FU 600 30 10 (e + 1) (edM M e) := by
  obtain ⟨⟨a1, a2, a3⟩, ⟨b1, b2⟩, ⟨c1, c2⟩, d1⟩ := h
  have eo : ∀ r i, r ≠ 100 → ¬ (131 ≤ r ∧ r ≤ 147) → edM M e r i = M r i := (EDI_ed M (by omega) e).1
  have e1 : ∀ i, i ≠ 0 → i ≠ 29 → edM M e 100 i = M 100 i := (EDI_ed M (by omega) e).2.1
  refine ⟨qz_0 rfl, ⟨by rw [e1 1 (by omega) (by omega)]; exact a1, by rw [e1 50 (by omega) (by omega)]; exact a2, rfl⟩, ⟨by rw [e1 4 (by omega) (by omega)]; exact b1, fun k hk => by rw [eo 106 k (by omega) (by omega), eo 107 k (by omega) (by omega), eo 108 k (by omega) (by omega)]; exact b2 k hk⟩, ⟨fun i hi => by rw [eo 110 i (by omega) (by omega), eo 112 i (by omega) (by omega), eo 119 i (by omega) (by omega)]; exact c1 i hi, fun i q1 q2 => absurd q1 (by omega)⟩, fun _ => ?_⟩
  by_cases q : e = 0
  · subst q
    refine ⟨⟨?_, ?_⟩, fun k hk => ?_, fun j hj => ⟨?_, ?_⟩⟩
    · show M 100 1 = 600; exact a1
    · show M 100 4 = 30; exact b1
    · unfold edM; rw [if_neg (by omega), if_neg (by omega), if_neg (by omega), if_pos (by omega), if_pos (by omega)]; exact (b2 k hk).2.2
    · unfold edM; rw [if_neg (by omega), if_neg (by omega), if_neg (by omega), if_neg (by omega), if_pos (by omega), if_pos (by omega)]; exact (c1 j hj).1
    · unfold edM; rw [if_neg (by omega), if_neg (by omega), if_neg (by omega), if_neg (by omega), if_pos (by omega), if_pos (by omega)]; exact (c1 j hj).2.1
  · have hk := d1 (by omega)
    refine ⟨⟨?_, ?_⟩, fun k hk2 => ?_, fun j hj => ⟨?_, ?_⟩⟩
    · unfold edM; rw [if_neg (by omega), if_pos rfl, if_neg (by omega)]; exact hk.1.1
    · unfold edM; rw [if_neg (by omega), if_neg (by omega), if_pos rfl, if_neg (by omega)]; exact hk.1.2
    · unfold edM; rw [if_neg (by omega), if_neg (by omega), if_neg (by omega), if_pos (by omega), if_neg (by omega)]; exact hk.2.1 k hk2
    · unfold edM; rw [if_neg (by omega), if_neg (by omega), if_neg (by omega), if_neg (by omega), if_pos (by omega), if_neg (by omega)]; exact (hk.2.2 j hj).1
    · unfold edM; rw [if_neg (by omega), if_neg (by omega), if_neg (by omega), if_neg (by omega), if_pos (by omega), if_neg (by omega)]; exact (hk.2.2 j hj).2
end
