/-! p40, A FULL OBJECT: gaps, a shorter film, versions, an edition used -/
section
variable {M : Nat → Nat → Int} {t : Int} {e : Nat}
theorem brd_u0 (M : Nat → Nat → Int) (x y : Int) : ∀ n : Nat, (∀ k, k < n → M 106 k = 103) → brd M 0 x y n = false
  | 0, _ => rfl
  | n + 1, q => by
    rw [brd, brd_u0 M x y n (fun k hk => q k (by omega)), q n (by omega)]; simp
theorem FU_bar0 (h : FU t 30 10 e M) (x y : Int) : bar M 0 x y = false := by
  unfold bar; rw [h.2.1.1]; exact brd_u0 M x y _ (fun k hk => (h.2.1.2 k hk).1)
theorem gcn_nob {u : Int} (hb : ∀ x y, bar M u x y = false) : ∀ n : Nat, gcn M u (n + 1) = 1
  | 0 => by
    show gcn M u 0 + (if bgn M u (0 : Nat) then 1 else 0) = 1
    unfold bgn; rw [hb, hb]; rfl
  | n + 1 => by
    show gcn M u (n + 1) + (if bgn M u ((n + 1 : Nat) : Int) then 1 else 0) = 1
    rw [gcn_nob hb n]
    unfold bgn; rw [hb, hb, if_neg (by simp; omega)]; rfl
theorem brd_u1 (M : Nat → Nat → Int) (x y : Int) : ∀ n : Nat, (∀ k : Nat, k < n → M 107 k = 10 * (k : Int) ∧ M 108 k = 10 * (k : Int) + 5) → (brd M 1 x y n = true ↔ ∃ k : Nat, k < n ∧ 10 * (k : Int) < y ∧ x < 10 * (k : Int) + 5)
  | 0, _ => by
    rw [brd]
    exact ⟨fun q => absurd q (by decide), fun ⟨k, q, _⟩ => absurd q (by omega)⟩
  | n + 1, q => by
    obtain ⟨q1, q2⟩ := q n (by omega)
    rw [brd, Bool.or_eq_true, brd_u1 M x y n (fun k hk => q k (by omega)), q1, q2]
    simp only [Bool.and_eq_true, decide_eq_true_eq]
    constructor
    · rintro (⟨k, w1, w2⟩ | ⟨⟨_, w1⟩, w2⟩)
      · exact ⟨k, by omega, w2⟩
      · exact ⟨n, by omega, w1, w2⟩
    · rintro ⟨k, w1, w2, w3⟩
      by_cases e : k = n
      · subst e; exact Or.inr ⟨⟨Or.inl (by omega), w2⟩, w3⟩
      · exact Or.inl ⟨k, by omega, w2, w3⟩
theorem FU_bar1 (h : FU t 30 10 e M) (x : Nat) : bar M 1 (x : Int) ((x : Int) + 1) = true ↔ x < 300 ∧ x % 10 < 5 := by
  unfold bar
  rw [h.2.1.1, Int.toNat_natCast, brd_u1 M _ _ 30 (fun k hk => (h.2.1.2 k hk).2)]
  constructor
  · rintro ⟨k, w1, w2, w3⟩; omega
  · rintro ⟨w1, w2⟩; exact ⟨x / 10, by omega, by omega, by omega⟩
theorem FU_bgn1 (h : FU t 30 10 e M) (x : Nat) : bgn M 1 (x : Int) = true ↔ x < 300 ∧ x % 10 = 5 := by
  unfold bgn
  rw [Bool.and_eq_true, Bool.not_eq_true', Bool.or_eq_true, decide_eq_true_eq]
  have h1 := FU_bar1 h x
  rw [← Bool.not_eq_true, h1]
  cases x with
  | zero => exact ⟨fun q => absurd ⟨by omega, by omega⟩ q.1, fun q => by omega⟩
  | succ x =>
    have h2 := FU_bar1 h x
    rw [show (((x + 1 : Nat) : Int) - 1) = (x : Int) by omega, show (((x + 1 : Nat) : Int)) = (x : Int) + 1 by omega, h2]
    constructor
    · rintro ⟨w1, w2 | w2⟩ <;> omega
    · intro w; exact ⟨by omega, Or.inr (by omega)⟩
theorem FU_gcn1 (h : FU t 30 10 e M) : ∀ n : Nat, gcn M 1 n = if n < 300 then (((n + 4) / 10 : Nat) : Int) else 30
  | 0 => by show (0 : Int) = _; decide
  | n + 1 => by
    rw [gcn, FU_gcn1 h n]
    have h1 := FU_bgn1 h n
    by_cases q : n < 300 ∧ n % 10 = 5
    · rw [if_pos (h1.mpr q), if_pos q.1]
      split <;> omega
    · rw [if_neg (fun w => q (h1.mp w))]
      split <;> split <;> omega
theorem FU_g0 (h : FU 600 30 10 e M) : gcn M 0 (M 100 1).toNat = 1 := by rw [h.1.1]; exact gcn_nob (FU_bar0 h) 599
theorem FU_g1 (h : FU 600 30 10 e M) : gcn M 1 (M 100 1).toNat = 30 := by rw [h.1.1, FU_gcn1 h]; rfl
/-- no further sound, fact, edition -/
theorem FU_Sf (h : FU 600 30 10 e M) : d_sound M 103 0 1 = dno M 2 := by unfold d_sound; rw [if_neg (by rw [h.1.1]; omega), if_pos (show M 100 4 = 30 from h.2.1.1)]
theorem FU_ff (h : FU 600 30 10 e M) : d_fact M 0 1 1 0 0 = dno M 2 := by
  unfold d_fact; rw [if_neg (by rw [h.1.1]; omega), if_pos (show fcn M 10 = 10 from fcn_al1 M 10 (fun k hk => (h.2.2.1.1 k hk).1))]
theorem fit1_t (M : Nat → Nat → Int) (t : Int) : ∀ n : Nat, (∀ k : Nat, k < n → M 108 k ≤ t) → fit1 M t n = true
  | 0, _ => rfl
  | n + 1, q => by rw [fit1, fit1_t M t n (fun k hk => q k (by omega)), Bool.true_and, decide_eq_true_eq]; exact q n (by omega)
theorem fit2_t (M : Nat → Nat → Int) (t : Int) : ∀ n : Nat, (∀ k : Nat, k < n → M 112 k ≤ t) → fit2 M t true n = true
  | 0, _ => rfl
  | n + 1, q => by rw [fit2, fit2_t M t n (fun k hk => q k (by omega)), Bool.true_and, Bool.or_eq_true, decide_eq_true_eq, decide_eq_true_eq]; exact Or.inr (q n (by omega))
theorem FU_F8 (h : FU 600 30 10 e M) : d_film M 408 = dno M 2 := by
  unfold d_film
  have h9 := h.2.2.1.1 9 (by omega)
  rw [if_neg (by omega), if_pos]
  unfold fits
  exact fit2_f (k := 9) (by rw [h9.1]; decide) (by rw [h9.2.1]; omega) 10 (by omega)
theorem FU_F9 (h : FU 600 30 10 e M) : d_film M 409 = (dch (am_u (am_u M 100 0 0) 100 1 409), 600) := by
  have h9 : fits M 409 = true := by
    unfold fits
    rw [h.2.1.1, Int.toNat_natCast, fit1_t M 409 30 (fun k hk => by have := (h.2.1.2 k hk).2.2; omega)]
    exact fit2_t M 409 10 (fun k hk => by have := (h.2.2.1.1 k hk).2.1; omega)
  unfold d_film
  rw [if_neg (by omega), if_neg (by rw [h9]; decide), h.1.1]
/-- behind the shorter film: facts f, versions v of fact 9 -/
def FV (g v : Nat) (M : Nat → Nat → Int) : Prop := (M 100 1 = 409 ∧ M 100 50 = -1 ∧ M 100 29 = 4) ∧ KP M ∧ (∀ j : Nat, j < 10 → M 110 j = if j = g then 0 else 1) ∧ M 119 9 = (v : Int) ∧ (v = 1 → M 120 27 = 1) ∧ (v = 2 → M 120 28 = 2)
theorem FV_cg {M' : Nat → Nat → Int} {g v : Nat} (h : FV g v M) (h1 : M' 100 1 = M 100 1 ∧ M' 100 50 = M 100 50 ∧ M' 100 29 = M 100 29) (hM : ∀ r i, 106 ≤ r → r ≤ 147 → M' r i = M r i) : FV g v M' := by
  obtain ⟨⟨a1, a2, a3⟩, d1, c1, c2, c3, c4⟩ := h
  exact ⟨⟨h1.1.trans a1, h1.2.1.trans a2, h1.2.2.trans a3⟩, KP_cg d1 (fun r i q1 q2 => hM r i (by omega) (by omega)), fun j hj => (hM _ _ (by omega) (by omega)).trans (c1 j hj), (hM _ _ (by omega) (by omega)).trans c2, fun q => (hM _ _ (by omega) (by omega)).trans (c3 q), fun q => (hM _ _ (by omega) (by omega)).trans (c4 q)⟩
theorem FV_F9 (h : FU 600 30 10 4 M) : FV 10 0 (d_film M 409).1 := by
  rw [FU_F9 h]
  obtain ⟨⟨a1, a2, a3⟩, ⟨b1, b2⟩, ⟨c1, c2⟩, d1⟩ := h
  have e9 : ∀ r i, ¬ (r = 100 ∧ (i = 0 ∨ i = 1 ∨ i = 20)) → dch (am_u (am_u M 100 0 0) 100 1 409) r i = M r i := fun r i q => by
    unfold dch am_u; rw [if_neg (by omega), if_neg (by omega), if_neg (by omega)]
  refine ⟨⟨by simp [dch, am_u], (e9 _ _ (by omega)).trans a2, (e9 _ _ (by omega)).trans a3⟩, KP_cg (d1 (by omega)) (fun r i q1 q2 => e9 _ _ (by omega)), fun j hj => by rw [if_neg (by omega)]; exact (e9 _ _ (by omega)).trans (c1 j hj).1, (e9 _ _ (by omega)).trans (c1 9 (by omega)).2.2, fun q => absurd q (by omega), fun q => absurd q (by omega)⟩
theorem FV_v {v : Nat} {m : Int} (h : FV 10 v M) (hv : v < 3) (hm : (v = 0 ∧ m = 1) ∨ (v = 1 ∧ m = 2) ∨ (v = 2 ∧ m = 80)) : qz 4 0 1 (d_version M 9 m) = (v : Int) + 1 ∧ FV 10 (v + 1) (d_version M 9 m).1 := by
  obtain ⟨⟨a1, a2, a3⟩, d1, c1, c2, c3, c4⟩ := h
  have h9 := c1 9 (by omega)
  rw [if_neg (by omega)] at h9
  have e0 : d_version M 9 m = (dch (am_u (am_u (am_u M 100 0 0) 120 (27 + v) m) 119 9 ((v : Int) + 1)), (v : Int) + 1) := by
    unfold d_version
    rw [show (9 : Int).toNat = 9 from rfl, c2, show ((9 : Int) * 3 + (v : Int)).toNat = 27 + v by omega]
    have hc : (v : Int) = 0 ∨ M 120 ((9 : Int) * 3 + (v : Int) - 1).toNat < m := by
      rcases hm with ⟨q1, q2⟩ | ⟨q1, q2⟩ | ⟨q1, q2⟩
      · exact Or.inl (by omega)
      · right; rw [show ((9 : Int) * 3 + (v : Int) - 1).toNat = 27 by omega, c3 q1]; omega
      · right; rw [show ((9 : Int) * 3 + (v : Int) - 1).toNat = 28 by omega, c4 q1]; omega
    rw [if_neg (fun q => q ⟨by omega, by omega, h9⟩), if_neg (fun q => q ⟨by omega, hc⟩), if_neg (by omega)]
  rw [e0]
  have e9 : ∀ r i, ¬ (r = 100 ∧ (i = 0 ∨ i = 20)) → ¬ (r = 119 ∧ i = 9) → ¬ (r = 120 ∧ i = 27 + v) → dch (am_u (am_u (am_u M 100 0 0) 120 (27 + v) m) 119 9 ((v : Int) + 1)) r i = M r i := fun r i q q2 q3 => by
    unfold dch am_u; rw [if_neg (by omega), if_neg (by omega), if_neg (by omega), if_neg (by omega)]
  refine ⟨qz_0 (by simp [dch, am_u]), ⟨(e9 _ _ (by omega) (by omega) (by omega)).trans a1, (e9 _ _ (by omega) (by omega) (by omega)).trans a2, (e9 _ _ (by omega) (by omega) (by omega)).trans a3⟩, KP_cg d1 (fun r i q1 q2 => e9 _ _ (by omega) (by omega) (by omega)), fun j hj => (e9 _ _ (by omega) (by omega) (by omega)).trans (c1 j hj), by simp [dch, am_u], fun q => ?_, fun q => ?_⟩
  · have : v = 0 := by omega
    subst this
    simp [dch, am_u]; omega
  · have : v = 1 := by omega
    subst this
    simp [dch, am_u]; omega
theorem FV_vn {v : Nat} (h : FV 10 v M) : d_version M 9 81 = dno M 2 := by
  have h9 := h.2.2.1 9 (by omega)
  rw [if_neg (by omega)] at h9
  unfold d_version
  rw [if_neg (fun q => q ⟨by omega, by omega, h9⟩), if_pos (by omega)]
theorem FV_0 {g v : Nat} (h : FV g v M) (c : Int) : FV g v (am_u M 100 0 c) := by
  have e9 : ∀ r i, ¬ (r = 100 ∧ i = 0) → am_u M 100 0 c r i = M r i := fun r i q => if_neg q
  exact FV_cg h ⟨e9 _ _ (by omega), e9 _ _ (by omega), e9 _ _ (by omega)⟩ (fun r i q1 q2 => e9 _ _ (by omega))
theorem fcn_one (M : Nat → Nat → Int) {g : Nat} (h : ∀ j : Nat, j < 10 → M 110 j = if j = g then 0 else 1) : ∀ n : Nat, n ≤ 10 → fcn M n = if g < n then (n : Int) - 1 else n
  | 0, _ => by rw [if_neg (by omega)]; rfl
  | n + 1, q => by
    rw [fcn, fcn_one M h n (by omega), h n (by omega)]
    by_cases w : n = g
    · rw [if_pos w, if_pos rfl, if_neg (by omega), if_pos (by omega)]; omega
    · rw [if_neg w, if_neg (show ¬ (1 : Int) = 0 by decide)]
      split <;> split <;> omega
theorem FV_d {v : Nat} (h : FV 10 v M) : qz 4 0 0 (d_drop M 4) = 9 ∧ FV 4 v (d_drop M 4).1 := by
  obtain ⟨⟨a1, a2, a3⟩, d1, c1, c2, c3, c4⟩ := h
  have h4 := c1 4 (by omega)
  rw [if_neg (by omega)] at h4
  have e0 : d_drop M 4 = (dch (goes (am_u M 100 0 0) 4), fcn (goes (am_u M 100 0 0) 4) 10) := by
    unfold d_drop
    rw [if_neg (fun q => q ⟨by omega, by omega, h4⟩)]; rfl
  rw [e0]
  have eA := drop_at M 4
  have e9 : ∀ r i, ¬ (r = 100 ∧ (i = 0 ∨ i = 20)) → ¬ (r = 110 ∧ i = 4) → r ≠ 154 → r ≠ 155 → dch (goes (am_u M 100 0 0) 4) r i = M r i := fun r i q q2 q3 q4 => by
    have h50 : ¬ M 100 50 = ((4 : Nat) : Int) := by omega
    rw [eA, if_neg (by omega), if_neg q2, if_neg (by omega), if_neg (by omega), if_neg (by omega), if_neg (by omega), if_neg (by omega)]
  have e00 : dch (goes (am_u M 100 0 0) 4) 100 0 = 0 := by
    have h50 : ¬ M 100 50 = ((4 : Nat) : Int) := by omega
    rw [eA, if_neg (by omega), if_neg (by omega), if_neg (by omega), if_neg (by omega), if_neg (by omega), if_neg (by omega), if_pos (by omega)]
  have e110 : ∀ j : Nat, j < 10 → dch (goes (am_u M 100 0 0) 4) 110 j = if j = 4 then 0 else 1 := fun j hj => by
    by_cases q : j = 4
    · rw [if_pos q, eA, if_neg (by omega), if_pos (by omega)]
    · rw [if_neg q, e9 _ _ (by omega) (by omega) (by omega) (by omega)]
      have := c1 j hj; rw [if_neg (by omega)] at this; exact this
  have e110' : ∀ j : Nat, j < 10 → goes (am_u M 100 0 0) 4 110 j = if j = 4 then 0 else 1 := fun j hj => by
    rw [← e110 j hj]; unfold dch; exact (am_u_na _ _ _ _ (by omega)).symm
  refine ⟨(qz_0 e00).trans (by show fcn (goes (am_u M 100 0 0) 4) 10 = 9; rw [fcn_one _ e110' 10 (by omega)]; rfl), ⟨(e9 _ _ (by omega) (by omega) (by omega) (by omega)).trans a1, (e9 _ _ (by omega) (by omega) (by omega) (by omega)).trans a2, (e9 _ _ (by omega) (by omega) (by omega) (by omega)).trans a3⟩, KP_cg d1 (fun r i q1 q2 => e9 _ _ (by omega) (by omega) (by omega) (by omega)), e110, (e9 _ _ (by omega) (by omega) (by omega) (by omega)).trans c2, fun q => (e9 _ _ (by omega) (by omega) (by omega) (by omega)).trans (c3 q), fun q => (e9 _ _ (by omega) (by omega) (by omega) (by omega)).trans (c4 q)⟩
/-- what use(0) needs -/
def FW (M : Nat → Nat → Int) : Prop := (M 100 50 = -1 ∧ M 100 29 = 4) ∧ KP M
theorem FV_f {v : Nat} (h : FV 4 v M) : qz 0 1 0 (d_fact M 0 9 1 0 0) = 4 ∧ FW (d_fact M 0 9 1 0 0).1 := by
  obtain ⟨⟨a1, a2, a3⟩, d1, c1, c2, c3, c4⟩ := h
  have h4 := c1 4 (by omega)
  rw [if_pos rfl] at h4
  obtain ⟨hz, eM⟩ := FU_fa (M := M) (x := 0) (y := 9) (j := 4) (by omega) h4 (fun i hi => by have := c1 i (by omega); rw [if_neg (by omega)] at this; rw [this]; decide) (by omega)
  have e9 : ∀ r i, ¬ (r = 100 ∧ (i = 0 ∨ i = 20)) → ¬ (110 ≤ r ∧ r ≤ 119) → (d_fact M 0 9 1 0 0).1 r i = M r i := fun r i q q2 => by
    rw [eM, if_neg q, if_neg (by omega), if_neg (by omega), if_neg (by omega), if_neg (by omega), if_neg (by omega)]
  exact ⟨hz, ⟨(e9 _ _ (by omega) (by omega)).trans a2, (e9 _ _ (by omega) (by omega)).trans a3⟩, KP_cg d1 (fun r i q1 q2 => e9 _ _ (by omega) (by omega))⟩
/-- the first edition used -/
def usM (M : Nat → Nat → Int) : Nat → Nat → Int := fun r i =>
  if r = 100 then (if i = 0 then 0 else if i = 1 then M 131 0 else if i = 4 then M 132 0 else if i = 20 then 0 else M 100 i)
  else if 106 ≤ r ∧ r ≤ 119 then M (r + 27) i else if r = 120 then M 147 i
  else if r = 154 then (if i < 10 ∧ M 137 i = 0 then 0 else M r i)
  else if r = 155 then (if i < 60 ∧ M 137 (i / 6) = 0 then 0 else M r i) else M r i
theorem USE_us (h50 : M 100 50 = -1) : USE M 0 (usM M) := by
  refine ⟨fun r i q1 q2 q3 q4 => ?_, fun i q0 q1 q4 q20 q50 q52 => ?_, ⟨rfl, rfl, rfl, rfl⟩, fun k hk => ⟨?_, ?_, ?_⟩, fun r k q1 q2 q3 => ?_, fun i hi => ?_, fun g hg => ⟨fun q => ⟨?_, fun l hl => ?_⟩, fun q => ⟨?_, fun l hl => ?_⟩⟩, fun q => ?_, fun q => ⟨rfl, rfl⟩⟩
  · unfold usM; rw [if_neg q1, if_neg (by omega), if_neg (by omega), if_neg q3, if_neg q4]
  · unfold usM; rw [if_pos rfl, if_neg q0, if_neg q1, if_neg q4, if_neg q20]
  · unfold usM; rw [if_neg (by omega), if_pos (by omega), Nat.zero_mul, Nat.zero_add]
  · unfold usM; rw [if_neg (by omega), if_pos (by omega), Nat.zero_mul, Nat.zero_add]
  · unfold usM; rw [if_neg (by omega), if_pos (by omega), Nat.zero_mul, Nat.zero_add]
  · unfold usM; rw [if_neg (by omega), if_pos (by omega), Nat.zero_mul, Nat.zero_add]
  · unfold usM; rw [if_neg (by omega), if_neg (by omega), if_pos rfl, Nat.zero_mul, Nat.zero_add]
  · rw [Nat.zero_mul, Nat.zero_add] at q
    unfold usM; rw [if_neg (by omega), if_neg (by omega), if_neg (by omega), if_pos rfl, if_pos ⟨hg, q⟩]
  · rw [Nat.zero_mul, Nat.zero_add] at q
    unfold usM; rw [if_neg (by omega), if_neg (by omega), if_neg (by omega), if_neg (by omega), if_pos rfl, show (g * 6 + l) / 6 = g by omega, if_pos ⟨by omega, q⟩]
  · rw [Nat.zero_mul, Nat.zero_add] at q
    unfold usM; rw [if_neg (by omega), if_neg (by omega), if_neg (by omega), if_pos rfl, if_neg (fun w => q w.2)]
  · rw [Nat.zero_mul, Nat.zero_add] at q
    unfold usM; rw [if_neg (by omega), if_neg (by omega), if_neg (by omega), if_neg (by omega), if_pos rfl, show (g * 6 + l) / 6 = g by omega, if_neg (fun w => q w.2)]
  · obtain ⟨g, _, _, q3⟩ := q
    rw [h50] at q3; omega
theorem kfc_al (h : ∀ j : Nat, j < 10 → M 137 j = 1) : ∀ n : Nat, n ≤ 10 → kfc M 0 n = n
  | 0, _ => rfl
  | n + 1, q => by rw [kfc, kfc_al h n (by omega), Nat.zero_mul, Nat.zero_add, if_neg (by rw [h n (by omega)]; decide)]; omega
theorem FW_F (h : FW M) : d_film (usM M) 600 = (dch (am_u (am_u (usM M) 100 0 0) 100 1 600), 600) := by
  obtain ⟨h1, ⟨k1, k2⟩, k3, k4⟩ := h
  have h9 : fits (usM M) 600 = true := by
    unfold fits
    rw [show usM M 100 4 = M 132 0 from rfl, k2, show (30 : Int).toNat = 30 from rfl, fit1_t (usM M) 600 30 (fun k hk => by
      rw [show usM M 108 k = M 135 k from rfl, k3 k hk]; omega)]
    exact fit2_t (usM M) 600 10 (fun k hk => by
      rw [show usM M 112 k = M 139 k from rfl, (k4 k hk).2]; omega)
  unfold d_film
  rw [if_neg (by omega), if_neg (by rw [h9]; decide), show usM M 100 1 = M 131 0 from rfl, k1]
end
