/-! p40, MARKS OF LISTENERS: what the object stands for, what is asked of it -/
/-- fact 0 alone, marked by f -/
def SM (f : Nat → Int) (M : Nat → Nat → Int) : Prop := M 100 1 = 600 ∧ M 110 0 = 1 ∧ (∀ j : Nat, 1 ≤ j → j < 10 → M 110 j = 0) ∧ ∀ l : Nat, l < 6 → M 155 l = f l + 1
/-- no fact, no mark -/
def SZ (M : Nat → Nat → Int) : Prop := M 100 1 = 600 ∧ (∀ j : Nat, j < 10 → M 110 j = 0) ∧ ∀ l : Nat, l < 6 → M 155 l = 0
def m1 : Nat → Int := fun j => if j < 6 then -1 else 0
theorem MB_m1 : MB m1 := fun _ => by unfold m1; split <;> omega
/-- a review's answer -/
def rva (p : Int × Int × Int × Int) : Int := if p.1 < 3 then -2000000005 else 100 * (p.2.1 - p.2.2.1 - p.2.2.2) / (p.1 - 2)
section
variable {M : Nat → Nat → Int} {f : Nat → Int}
theorem SZ_new (h : NEW M) : SZ M := ⟨h.1.2.1, fun j hj => h.2.1 110 j (by omega) (by omega), fun l hl => h.2.2.2.2 l⟩
theorem SM_0 (h : SM f M) (c : Int) : SM f (am_u M 100 0 c) := by
  have e9 : ∀ r i, ¬ (r = 100 ∧ i = 0) → am_u M 100 0 c r i = M r i := fun r i q => if_neg q
  exact ⟨(e9 _ _ (by omega)).trans h.1, (e9 _ _ (by omega)).trans h.2.1, fun j q1 q2 => (e9 _ _ (by omega)).trans (h.2.2.1 j q1 q2), fun l hl => (e9 _ _ (by omega)).trans (h.2.2.2 l hl)⟩
theorem SZ_f (h : SZ M) {a b : Int} (ha : 0 ≤ a ∧ a ≤ b - 1 ∧ b ≤ 600) : qz 0 1 0 (d_fact M a b 1 0 0) = 0 ∧ SM m1 (d_fact M a b 1 0 0).1 := by
  obtain ⟨a1, a2, a3⟩ := h
  obtain ⟨hz, eM⟩ := FU_fa (M := M) (x := a) (y := b) (j := 0) (by omega) (a2 0 (by omega)) (fun i hi => absurd hi (by omega)) (by omega)
  have e9 : ∀ r i, ¬ (r = 100 ∧ (i = 0 ∨ i = 20)) → ¬ ((110 ≤ r ∧ r ≤ 119) ∧ i = 0) → (d_fact M a b 1 0 0).1 r i = M r i := fun r i q q2 => by
    rw [eM, if_neg q, if_neg (by omega), if_neg (by omega), if_neg (by omega), if_neg (by omega), if_neg (by omega)]
  refine ⟨hz, (e9 _ _ (by omega) (by omega)).trans a1, ?_, fun j q1 q2 => (e9 _ _ (by omega) (by omega)).trans (a2 j q2), fun l hl => ?_⟩
  · rw [eM]; simp
  · rw [e9 _ _ (by omega) (by omega), a3 l hl, m1, if_pos hl]; rfl
theorem rvw_mH (h : SM f M) : ∀ k, k ≤ 6 → rvw M 0 k = mH f k
  | 0, _ => rfl
  | k + 1, hk => by
    have e : M 155 (0 * 6 + k) - 1 = f k := by rw [Nat.zero_mul, Nat.zero_add, h.2.2.2 k (by omega)]; omega
    rw [rvw, rvw_mH h k (by omega), e]
    rfl
theorem SM_r (h : SM f M) : qz 4 3 0 (d_review M 0) = rva (mH f 6) ∧ SM f (d_review M 0).1 := by
  have e1 : ¬ ¬ ((0 : Int) ≤ 0 ∧ (0 : Int) ≤ 9 ∧ M 110 (0 : Int).toNat = 1) := fun q => q ⟨by omega, by omega, h.2.1⟩
  have e2 : rvw M (0 : Int).toNat 6 = mH f 6 := rvw_mH h 6 (by omega)
  unfold d_review rva
  rw [if_neg e1, e2]
  split
  · exact ⟨qz_2, SM_0 h _⟩
  · exact ⟨qz_0 (am_u_eq M 100 0 _), SM_0 h _⟩
theorem SM_m (h : SM f M) {l : Nat} (hl : l < 6) {m : Int} (hm : 0 ≤ m ∧ m ≤ 10) : qz 4 0 0 (d_mark M 0 l m) = f l ∧ SM (up f l m) (d_mark M 0 l m).1 := by
  have e0 : d_mark M 0 l m = (am_u (am_u M 100 0 0) 155 l (m + 1), f l) := by
    unfold d_mark
    rw [if_neg (fun q => q ⟨by omega, by omega, h.2.1⟩), if_neg (fun q => q ⟨by omega, by omega, by omega⟩), show ((0 : Int) * 6 + (l : Int)).toNat = l by omega, h.2.2.2 l hl, show f l + 1 - 1 = f l by omega]
  rw [e0]
  dsimp only
  have e9 : ∀ r i, ¬ (r = 100 ∧ i = 0) → ¬ (r = 155 ∧ i = l) → am_u (am_u M 100 0 0) 155 l (m + 1) r i = M r i := fun r i q q2 => by
    unfold am_u; rw [if_neg q2, if_neg q]
  refine ⟨qz_0 (by simp [am_u]), (e9 _ _ (by omega) (by omega)).trans h.1, (e9 _ _ (by omega) (by omega)).trans h.2.1, fun j q1 q2 => (e9 _ _ (by omega) (by omega)).trans (h.2.2.1 j q1 q2), fun j hj => ?_⟩
  by_cases q : j = l
  · subst q; rw [up_e, am_u_eq]
  · rw [up_n _ _ q, e9 _ _ (by omega) (by omega)]; exact h.2.2.2 j hj
theorem SM_b (h : SM f M) {l m : Int} (hb : ¬ ((0 ≤ l ∧ l ≤ 5) ∧ 0 ≤ m ∧ m ≤ 10)) : qz 4 0 0 (d_mark M 0 l m) = -2000000002 ∧ SM f (d_mark M 0 l m).1 := by
  have e0 : d_mark M 0 l m = dno M 2 := by
    unfold d_mark
    rw [if_neg (fun q => q ⟨by omega, by omega, h.2.1⟩), if_pos hb]
  rw [e0]
  exact ⟨qz_2, SM_0 h _⟩
theorem fcn_z (M : Nat → Nat → Int) (h : ∀ j : Nat, j < 10 → M 110 j = 0) : ∀ n : Nat, n ≤ 10 → fcn M n = 0
  | 0, _ => rfl
  | n + 1, q => by
    rw [fcn, fcn_z M h n (by omega), if_pos (h n (by omega))]
    rfl
theorem SM_d (h : SM f M) : qz 4 0 0 (d_drop M 0) = 0 ∧ SZ (d_drop M 0).1 := by
  obtain ⟨a1, a2, a3, a4⟩ := h
  have e0 : d_drop M 0 = (dch (goes (am_u M 100 0 0) 0), fcn (goes (am_u M 100 0 0) 0) 10) := by
    unfold d_drop
    rw [if_neg (fun q => q ⟨by omega, by omega, a2⟩)]; rfl
  rw [e0]
  dsimp only
  have eA := drop_at M 0
  have e110 : ∀ j : Nat, j < 10 → dch (goes (am_u M 100 0 0) 0) 110 j = 0 := fun j hj => by
    by_cases q : j = 0
    · rw [eA, if_neg (by omega), if_pos (by omega)]
    · rw [eA, if_neg (by omega), if_neg (by omega), if_neg (by omega), if_neg (by omega), if_neg (by omega), if_neg (by omega), if_neg (by omega)]
      exact a3 j (by omega) hj
  have e110' : ∀ j : Nat, j < 10 → goes (am_u M 100 0 0) 0 110 j = 0 := fun j hj => by
    have u := e110 j hj
    unfold dch at u
    rw [am_u_na _ _ _ _ (show 110 ≠ 100 by decide)] at u
    exact u
  have e00 : dch (goes (am_u M 100 0 0) 0) 100 0 = 0 := by
    rw [eA, if_neg (by omega), if_neg (by omega), if_neg (by omega), if_neg (by omega), if_neg (by omega), if_neg (by omega), if_pos (by omega)]
  refine ⟨(qz_0 e00).trans (fcn_z _ e110' 10 (by omega)), ?_, e110, fun l hl => ?_⟩
  · rw [eA, if_neg (by omega), if_neg (by omega), if_neg (by omega), if_neg (by omega), if_neg (by omega), if_neg (by omega), if_neg (by omega)]
    exact a1
  · rw [eA, if_neg (by omega), if_neg (by omega), if_neg (by omega), if_pos (by omega)]
end
/-- a row in order -/
def us (g : Nat → Int) (z : Nat) : Nat → Int
  | 0 => 0
  | n + 1 => us g z n + g (z + n)
theorem us_s (g : Nat → Int) (z : Nat) : ∀ n, us g z (n + 1) = g z + us g (z + 1) n
  | 0 => by simp only [us]; rw [Nat.add_zero]; omega
  | n + 1 => by
    rw [us, us_s g z n, us, show z + 1 + n = z + (n + 1) by omega]
    omega
theorem us_b {g : Nat → Int} (hg : MB g) (z : Nat) : ∀ n : Nat, -(n : Int) ≤ us g z n ∧ us g z n ≤ 10 * (n : Int)
  | 0 => ⟨by simp [us], by simp [us]⟩
  | n + 1 => by
    have h1 := us_b hg z n
    have h2 := hg (z + n)
    rw [us]
    omega
theorem us_nn {g : Nat → Int} {z : Nat} (h : ∀ j, z ≤ j → j < 6 → 0 ≤ g j) : ∀ n : Nat, z + n ≤ 6 → 0 ≤ us g z n
  | 0, _ => by simp [us]
  | n + 1, hn => by
    have h1 := us_nn h n (by omega)
    have h2 := h (z + n) (by omega) (by omega)
    rw [us]
    omega
theorem mH_z {g : Nat → Int} {z : Nat} (h : ∀ j, j < z → g j < 0) : ∀ n, n ≤ z → mH g n = (0, 0, -1, 11)
  | 0, _ => rfl
  | n + 1, hn => by
    rw [mH, mH_z h n (by omega), mst, if_pos (h n (by omega))]
theorem mH_p {g : Nat → Int} (hg : MB g) (hs : ∀ j, j + 1 ≤ 5 → g j ≤ g (j + 1)) {z : Nat} (h1 : ∀ j, j < z → g j < 0) (h2 : ∀ j, z ≤ j → j < 6 → 0 ≤ g j) : ∀ n : Nat, z + n + 1 ≤ 6 → mH g (z + n + 1) = ((n : Int) + 1, us g z (n + 1), g (z + n), g z)
  | 0, hn => by
    have b := hg z
    have c := h2 z (by omega) (by omega)
    rw [mH, Nat.add_zero, mH_z h1 z (by omega), mst, if_neg (by omega)]
    simp only [us, Nat.add_zero]
    rw [if_pos (by omega), if_pos (by omega)]
    rfl
  | n + 1, hn => by
    have b := h2 (z + n + 1) (by omega) (by omega)
    have c := hs (z + n) (by omega)
    have c2 : g z ≤ g (z + n + 1) := by
      have : ∀ m : Nat, z + m ≤ 5 → g z ≤ g (z + m) := by
        intro m
        induction m with
        | zero => intro _; exact Int.le_refl _
        | succ m ih => intro hm; exact Int.le_trans (ih (by omega)) (hs (z + m) (by omega))
      exact this (n + 1) (by omega)
    rw [mH, show z + (n + 1) = z + n + 1 from rfl, mH_p hg hs h1 h2 n (by omega), mst, if_neg (by omega)]
    refine Prod.ext ?_ (Prod.ext ?_ (Prod.ext ?_ ?_))
    · show (n : Int) + 1 + 1 = ((n + 1 : Nat) : Int) + 1
      omega
    · show us g z (n + 1) + g (z + n + 1) = us g z (n + 1) + g (z + (n + 1))
      rfl
    · show (if g (z + n) < g (z + n + 1) then g (z + n + 1) else g (z + n)) = g (z + n + 1)
      split <;> omega
    · show (if g (z + n + 1) < g z then g (z + n + 1) else g z) = g z
      rw [if_neg (by omega)]
theorem zz {g : Nat → Int} (hs : ∀ j, j + 1 ≤ 5 → g j ≤ g (j + 1)) : ∃ z : Nat, z ≤ 6 ∧ (∀ j, j < z → g j < 0) ∧ ∀ j, z ≤ j → j < 6 → 0 ≤ g j := by
  have h0 : g 0 ≤ g 1 := hs 0 (by omega)
  have h1 : g 1 ≤ g 2 := hs 1 (by omega)
  have h2 : g 2 ≤ g 3 := hs 2 (by omega)
  have h3 : g 3 ≤ g 4 := hs 3 (by omega)
  have h4 : g 4 ≤ g 5 := hs 4 (by omega)
  have key : ∀ z : Nat, z ≤ 6 → (z = 0 ∨ (z = 1 ∧ g 0 < 0) ∨ (z = 2 ∧ g 1 < 0) ∨ (z = 3 ∧ g 2 < 0) ∨ (z = 4 ∧ g 3 < 0) ∨ (z = 5 ∧ g 4 < 0) ∨ (z = 6 ∧ g 5 < 0)) → ((z = 0 ∧ 0 ≤ g 0) ∨ (z = 1 ∧ 0 ≤ g 1) ∨ (z = 2 ∧ 0 ≤ g 2) ∨ (z = 3 ∧ 0 ≤ g 3) ∨ (z = 4 ∧ 0 ≤ g 4) ∨ (z = 5 ∧ 0 ≤ g 5) ∨ z = 6) → (∀ j, j < z → g j < 0) ∧ ∀ j, z ≤ j → j < 6 → 0 ≤ g j := by
    intro z hz a b
    refine ⟨fun j hj => ?_, fun j q1 q2 => ?_⟩
    · have : j = 0 ∨ j = 1 ∨ j = 2 ∨ j = 3 ∨ j = 4 ∨ j = 5 := by omega
      rcases this with rfl | rfl | rfl | rfl | rfl | rfl <;> omega
    · have : j = 0 ∨ j = 1 ∨ j = 2 ∨ j = 3 ∨ j = 4 ∨ j = 5 := by omega
      rcases this with rfl | rfl | rfl | rfl | rfl | rfl <;> omega
  by_cases c0 : 0 ≤ g 0
  · exact ⟨0, by omega, key 0 (by omega) (by omega) (by omega)⟩
  by_cases c1 : 0 ≤ g 1
  · exact ⟨1, by omega, key 1 (by omega) (by omega) (by omega)⟩
  by_cases c2 : 0 ≤ g 2
  · exact ⟨2, by omega, key 2 (by omega) (by omega) (by omega)⟩
  by_cases c3 : 0 ≤ g 3
  · exact ⟨3, by omega, key 3 (by omega) (by omega) (by omega)⟩
  by_cases c4 : 0 ≤ g 4
  · exact ⟨4, by omega, key 4 (by omega) (by omega) (by omega)⟩
  by_cases c5 : 0 ≤ g 5
  · exact ⟨5, by omega, key 5 (by omega) (by omega) (by omega)⟩
  · exact ⟨6, by omega, key 6 (by omega) (by omega) (by omega)⟩
/-- what the law finds in the row: how many, and the sum but for the ends -/
theorem so_r {f g : Nat → Int} (h : SOR f g) : ∃ z : Nat, z ≤ 6 ∧ (mH g 6).1 = 6 - (z : Int) ∧ (∀ j, z ≤ j → j < 6 → 0 ≤ g j) ∧ rva (mH f 6) = if 4 ≤ z then -2000000005 else 100 * us g (z + 1) (4 - z) / (4 - (z : Int)) := by
  obtain ⟨h1, h2, h3⟩ := h
  obtain ⟨z, hz, z1, z2⟩ := zz h3
  by_cases c : z = 6
  · subst c
    have e : mH g 6 = (0, 0, -1, 11) := mH_z z1 6 (by omega)
    refine ⟨6, by omega, by rw [e]; rfl, z2, ?_⟩
    rw [← h2, e]
    rfl
  · have e := mH_p h1 h3 z1 z2 (5 - z) (by omega)
    rw [show z + (5 - z) + 1 = 6 by omega, show z + (5 - z) = 5 by omega] at e
    refine ⟨z, hz, by rw [e]; show (((5 - z : Nat)) : Int) + 1 = _; omega, z2, ?_⟩
    rw [← h2, e]
    unfold rva
    show (if (((5 - z : Nat)) : Int) + 1 < 3 then (-2000000005 : Int) else 100 * (us g z (5 - z + 1) - g 5 - g z) / ((((5 - z : Nat)) : Int) + 1 - 2)) = _
    by_cases c2 : 4 ≤ z
    · rw [if_pos (by omega), if_pos c2]
    · rw [if_neg (by omega), if_neg c2]
      have e3 : us g z (5 - z + 1) = g z + us g (z + 1) (4 - z) + g 5 := by
        rw [us, show z + (5 - z) = 5 by omega, show 5 - z = (4 - z) + 1 by omega, us_s]
      rw [e3, show g z + us g (z + 1) (4 - z) + g 5 - g 5 - g z = us g (z + 1) (4 - z) by omega, show (((5 - z : Nat)) : Int) + 1 - 2 = 4 - (z : Int) by omega]
