/-! p40, A LIVE STAGE: what the object stands for, call by call -/
/-- voice and n facts with a version and a person -/
def S1 (b : Int) (sy pe : Nat → Int) (n : Nat) (M : Nat → Nat → Int) : Prop := (M 100 1 = 600 ∧ M 100 2 = 5 ∧ M 100 3 = b) ∧ (∀ j : Nat, j < n → M 110 j = 1 ∧ M 119 j = 1 ∧ M 120 (3 * j) = sy j ∧ M 116 j = pe j + 1) ∧ ∀ j : Nat, n ≤ j → j < 10 → M 110 j = 0
/-- the fact made last has no version yet (v 0), or one (v 1) -/
def S1a (b : Int) (sy pe : Nat → Int) (n v : Nat) (M : Nat → Nat → Int) : Prop := (M 100 1 = 600 ∧ M 100 2 = 5 ∧ M 100 3 = b) ∧ (∀ j : Nat, j < n → M 110 j = 1 ∧ M 119 j = 1 ∧ M 120 (3 * j) = sy j ∧ M 116 j = pe j + 1) ∧ (∀ j : Nat, n + 1 ≤ j → j < 10 → M 110 j = 0) ∧ M 110 n = 1 ∧ M 116 n = 0 ∧ M 119 n = (v : Int) ∧ (v = 1 → M 120 (3 * n) = sy n)
/-- the stage, live -/
def S3 (b : Int) (sy pe : Nat → Int) (sp un lf si : Int) (ca bc : Nat → Int) (M : Nat → Nat → Int) : Prop :=
  (M 100 1 = 600 ∧ M 100 2 = 5 ∧ M 100 3 = b ∧ M 100 47 = 1 ∧ M 100 48 = sp ∧ M 100 50 = un) ∧ (un ≠ -1 → M 100 51 = lf) ∧ (M 100 52 = si ∨ (100 ≤ si ∧ 100 ≤ M 100 52)) ∧ ((∀ j : Nat, j < 4 → M 110 j = 1) ∧ ∀ j : Nat, 4 ≤ j → j < 10 → M 110 j = 0) ∧
  ((∀ j : Nat, j < 3 → M 119 j = 1 ∧ M 120 (3 * j) = sy j ∧ M 116 j = pe j + 1) ∧ M 119 3 = 0) ∧ (∀ w : Nat, w < 2 → M 150 w = ca w) ∧ ∀ j : Nat, j < 4 → bc j = tol (M 154 j) ∧ 0 ≤ M 154 j ∧ M 154 j ≤ 3
/-- the law's own numbers -/
def LW (sp un lf si : Int) (ca : Nat → Int) (i : Nat) : Prop := (sp = 0 ∨ sp = 1) ∧ (un = -1 ∨ ((0 ≤ un ∧ un < 3) ∧ sp = 0 ∧ 1 ≤ lf)) ∧ (0 ≤ lf ∧ lf ≤ 500) ∧ (0 ≤ si ∧ si ≤ 100 + 7 * (i : Int)) ∧ ∀ w : Nat, w < 2 → ca w = 0 ∨ ca w = 1
/-- one number changed -/
def up (f : Nat → Int) (i : Nat) (x : Int) : Nat → Int := fun j => if j = i then x else f j
section
variable {M : Nat → Nat → Int} {b : Int} {sy pe : Nat → Int} {sp un lf si : Int} {ca bc : Nat → Int}
theorem S1_V (h : NEW M) (hb : 0 ≤ b ∧ b ≤ 5) : qz 0 0 0 (d_voice M 5 b) = 4 ∧ S1 b sy pe 0 (d_voice M 5 b).1 := by
  have e0 : d_voice M 5 b = (dch (am_u (am_u (am_u M 100 0 0) 100 2 5) 100 3 b), 4) := by unfold d_voice; rw [if_neg (by omega), h.1.2.2.1]
  rw [e0]
  dsimp only
  have e9 : ∀ r i, ¬ (r = 100 ∧ (i = 0 ∨ i = 2 ∨ i = 3 ∨ i = 20)) → dch (am_u (am_u (am_u M 100 0 0) 100 2 5) 100 3 b) r i = M r i := fun r i q => by
    unfold dch am_u; rw [if_neg (by omega), if_neg (by omega), if_neg (by omega), if_neg (by omega)]
  exact ⟨qz_0 (by simp [dch, am_u]), ⟨(e9 _ _ (by omega)).trans h.1.2.1, by simp [dch, am_u], by simp [dch, am_u]⟩, fun j hj => absurd hj (by omega), fun j _ _ => (e9 _ _ (by omega)).trans (h.2.1 110 j (by omega) (by omega))⟩
theorem S1_f {n : Nat} (h : S1 b sy pe n M) (hn : n < 4) : qz 0 1 0 (d_fact M 0 600 1 0 0) = n ∧ S1a b sy pe n 0 (d_fact M 0 600 1 0 0).1 := by
  obtain ⟨⟨a1, a2, a3⟩, b1, b2⟩ := h
  obtain ⟨hz, eM⟩ := FU_fa (M := M) (x := 0) (y := 600) (j := n) (by omega) (b2 n (by omega) (by omega)) (fun i hi => by rw [(b1 i hi).1]; decide) (by omega)
  have e9 : ∀ r i, ¬ (r = 100 ∧ (i = 0 ∨ i = 20)) → ¬ ((110 ≤ r ∧ r ≤ 119) ∧ i = n) → (d_fact M 0 600 1 0 0).1 r i = M r i := fun r i q q2 => by
    rw [eM, if_neg q, if_neg (by omega), if_neg (by omega), if_neg (by omega), if_neg (by omega), if_neg (by omega)]
  refine ⟨hz, ⟨(e9 _ _ (by omega) (by omega)).trans a1, (e9 _ _ (by omega) (by omega)).trans a2, (e9 _ _ (by omega) (by omega)).trans a3⟩, fun j hj => ?_, fun j q1 q2 => (e9 _ _ (by omega) (by omega)).trans (b2 j (by omega) q2), ?_, ?_, ?_, fun q => absurd q (by omega)⟩
  · rw [e9 110 j (by omega) (by omega), e9 119 j (by omega) (by omega), e9 120 _ (by omega) (by omega), e9 116 j (by omega) (by omega)]; exact b1 j hj
  · rw [eM]; simp
  · rw [eM]; simp
  · rw [eM]; simp
theorem S1_v {n : Nat} (h : S1a b sy pe n 0 M) (hn : n < 3) (hs : 1 ≤ sy n ∧ sy n ≤ 80) : qz 4 0 1 (d_version M n (sy n)) = 1 ∧ S1a b sy pe n 1 (d_version M n (sy n)).1 := by
  obtain ⟨⟨a1, a2, a3⟩, b1, b2, c1, c2, c3, c4⟩ := h
  have e0 : d_version M n (sy n) = (dch (am_u (am_u (am_u M 100 0 0) 120 (3 * n) (sy n)) 119 n 1), 1) := by
    unfold d_version
    rw [Int.toNat_natCast, c3, show (((n : Int) * 3 + ((0 : Nat) : Int)).toNat) = 3 * n by omega, if_neg (fun q => q ⟨by omega, by omega, c1⟩), if_neg (fun q => q ⟨hs, Or.inl rfl⟩), if_neg (by decide)]
    rfl
  rw [e0]
  dsimp only
  have e9 : ∀ r i, ¬ (r = 100 ∧ (i = 0 ∨ i = 20)) → ¬ (r = 119 ∧ i = n) → ¬ (r = 120 ∧ i = 3 * n) → dch (am_u (am_u (am_u M 100 0 0) 120 (3 * n) (sy n)) 119 n 1) r i = M r i := fun r i q q2 q3 => by
    unfold dch am_u; rw [if_neg (by omega), if_neg (by omega), if_neg (by omega), if_neg (by omega)]
  refine ⟨qz_0 (by simp [dch, am_u]), ⟨(e9 _ _ (by omega) (by omega) (by omega)).trans a1, (e9 _ _ (by omega) (by omega) (by omega)).trans a2, (e9 _ _ (by omega) (by omega) (by omega)).trans a3⟩, fun j hj => ?_, fun j q1 q2 => (e9 _ _ (by omega) (by omega) (by omega)).trans (b2 j q1 q2), (e9 _ _ (by omega) (by omega) (by omega)).trans c1, (e9 _ _ (by omega) (by omega) (by omega)).trans c2, by simp [dch, am_u], fun _ => by simp [dch, am_u]⟩
  rw [e9 110 j (by omega) (by omega) (by omega), e9 119 j (by omega) (by omega) (by omega), e9 120 _ (by omega) (by omega) (by omega), e9 116 j (by omega) (by omega) (by omega)]; exact b1 j hj
theorem S1_n {n : Nat} (h : S1a b sy pe n 1 M) (hn : n < 3) (hp : -1 ≤ pe n ∧ pe n ≤ 9) : qz 4 0 0 (d_names M n (pe n)) = -1 ∧ S1 b sy pe (n + 1) (d_names M n (pe n)).1 := by
  obtain ⟨⟨a1, a2, a3⟩, b1, b2, c1, c2, c3, c4⟩ := h
  have e0 : d_names M n (pe n) = (dch (am_u (am_u M 100 0 0) 116 n (pe n + 1)), -1) := by
    unfold d_names
    rw [Int.toNat_natCast, c2, if_neg (fun q => q ⟨by omega, by omega, c1⟩), if_neg (fun q => q hp)]
    rfl
  rw [e0]
  dsimp only
  have e9 : ∀ r i, ¬ (r = 100 ∧ (i = 0 ∨ i = 20)) → ¬ (r = 116 ∧ i = n) → dch (am_u (am_u M 100 0 0) 116 n (pe n + 1)) r i = M r i := fun r i q q2 => by
    unfold dch am_u; rw [if_neg (by omega), if_neg (by omega), if_neg (by omega)]
  refine ⟨qz_0 (by simp [dch, am_u]), ⟨(e9 _ _ (by omega) (by omega)).trans a1, (e9 _ _ (by omega) (by omega)).trans a2, (e9 _ _ (by omega) (by omega)).trans a3⟩, fun j hj => ?_, fun j q1 q2 => (e9 _ _ (by omega) (by omega)).trans (b2 j q1 q2)⟩
  by_cases q : j = n
  · subst q
    refine ⟨(e9 _ _ (by omega) (by omega)).trans c1, (e9 _ _ (by omega) (by omega)).trans c3, (e9 _ _ (by omega) (by omega)).trans (c4 rfl), by simp [dch, am_u]⟩
  · rw [e9 110 j (by omega) (by omega), e9 119 j (by omega) (by omega), e9 120 _ (by omega) (by omega), e9 116 j (by omega) (by omega)]; exact b1 j (by omega)
/-- live -/
theorem lvn_3 (h : S1a b sy pe 3 0 M) : lvn M 10 = 3 := by
  obtain ⟨_, b1, b2, c1, c2, c3, c4⟩ := h
  have z : ∀ k : Nat, 4 ≤ k → k < 10 → (if M 110 k ≠ 0 ∧ 0 < M 119 k then (1 : Int) else 0) = 0 := fun k q1 q2 => if_neg (fun w => w.1 (b2 k q1 q2))
  have y : ∀ k : Nat, k < 3 → (if M 110 k ≠ 0 ∧ 0 < M 119 k then (1 : Int) else 0) = 1 := fun k q => if_pos ⟨by rw [(b1 k q).1]; decide, by rw [(b1 k q).2.1]; decide⟩
  have x3 : (if M 110 3 ≠ 0 ∧ 0 < M 119 3 then (1 : Int) else 0) = 0 := if_neg (fun w => by rw [c3] at w; exact absurd w.2 (by decide))
  simp only [lvn]
  rw [y 0 (by omega), y 1 (by omega), y 2 (by omega), x3, z 4 (by omega) (by omega), z 5 (by omega) (by omega), z 6 (by omega) (by omega), z 7 (by omega) (by omega), z 8 (by omega) (by omega), z 9 (by omega) (by omega)]
  rfl
theorem S3_0 (h : S1a b sy pe 3 0 M) : S3 b sy pe 0 (-1) 0 100 (fun _ => 0) (fun _ => 45) (d_live M).1 := by
  obtain ⟨⟨a1, a2, a3⟩, b1, b2, c1, c2, c3, c4⟩ := h
  obtain ⟨l1, ⟨l2, l3, l4, l5, l6⟩, l7⟩ := lvz_at M 10
  have e9 : ∀ r i, ¬ (r = 100 ∧ (i = 0 ∨ i = 47 ∨ i = 48 ∨ i = 50 ∨ i = 52)) → r ≠ 150 → r ≠ 154 → (d_live M).1 r i = M r i := l1
  refine ⟨⟨(e9 _ _ (by omega) (by omega) (by omega)).trans a1, (e9 _ _ (by omega) (by omega) (by omega)).trans a2, (e9 _ _ (by omega) (by omega) (by omega)).trans a3, l3, l4, l5⟩, fun q => absurd rfl q, Or.inr ⟨by omega, by show 100 ≤ lvz M 10 100 52; omega⟩, ⟨fun j hj => ?_, fun j q1 q2 => (e9 _ _ (by omega) (by omega) (by omega)).trans (b2 j q1 q2)⟩, ⟨fun j hj => ?_, (e9 _ _ (by omega) (by omega) (by omega)).trans c3⟩, fun w hw => (l7 w (by omega)).1, fun j hj => ?_⟩
  · rw [e9 110 j (by omega) (by omega) (by omega)]
    by_cases q : j = 3
    · rw [q]; exact c1
    · exact (b1 j (by omega)).1
  · rw [e9 119 j (by omega) (by omega) (by omega), e9 120 _ (by omega) (by omega) (by omega), e9 116 j (by omega) (by omega) (by omega)]; exact (b1 j hj).2
  · have e : (d_live M).1 154 j = 0 := (l7 j (by omega)).2
    rw [e]; exact ⟨rfl, by omega, by omega⟩
/-- what the stage's calls leave of the film -/
theorem S3_cg {M' : Nat → Nat → Int} {sp' un' lf' si' : Int} {ca' bc' : Nat → Int} (h : S3 b sy pe sp un lf si ca bc M) (h9 : ∀ r i, ¬ (r = 100 ∧ (i = 0 ∨ i = 48 ∨ i = 50 ∨ i = 51 ∨ i = 52)) → r ≠ 150 → r ≠ 154 → M' r i = M r i) (h48 : M' 100 48 = sp') (h50 : M' 100 50 = un') (h51 : un' ≠ -1 → M' 100 51 = lf') (h52 : M' 100 52 = si' ∨ (100 ≤ si' ∧ 100 ≤ M' 100 52)) (h150 : ∀ w : Nat, w < 2 → M' 150 w = ca' w) (h154 : ∀ j : Nat, j < 4 → bc' j = tol (M' 154 j) ∧ 0 ≤ M' 154 j ∧ M' 154 j ≤ 3) : S3 b sy pe sp' un' lf' si' ca' bc' M' := by
  obtain ⟨⟨a1, a2, a3, a4, a5, a6⟩, b1, b2, ⟨c1, c2⟩, ⟨d1, d2⟩, e1, f1⟩ := h
  refine ⟨⟨(h9 _ _ (by omega) (by omega) (by omega)).trans a1, (h9 _ _ (by omega) (by omega) (by omega)).trans a2, (h9 _ _ (by omega) (by omega) (by omega)).trans a3, (h9 _ _ (by omega) (by omega) (by omega)).trans a4, h48, h50⟩, h51, h52, ⟨fun j hj => (h9 _ _ (by omega) (by omega) (by omega)).trans (c1 j hj), fun j q1 q2 => (h9 _ _ (by omega) (by omega) (by omega)).trans (c2 j q1 q2)⟩, ⟨fun j hj => ?_, (h9 _ _ (by omega) (by omega) (by omega)).trans d2⟩, h150, h154⟩
  rw [h9 119 j (by omega) (by omega) (by omega), h9 120 _ (by omega) (by omega) (by omega), h9 116 j (by omega) (by omega) (by omega)]; exact d1 j hj
theorem S3_c (h : S3 b sy pe sp un lf si ca bc M) (c : Int) : S3 b sy pe sp un lf si ca bc (am_u M 100 0 c) := by
  have e9 : ∀ r i, ¬ (r = 100 ∧ i = 0) → am_u M 100 0 c r i = M r i := fun r i q => if_neg q
  obtain ⟨⟨a1, a2, a3, a4, a5, a6⟩, b1, b2, c1, d1, e1, f1⟩ := id h
  exact S3_cg h (fun r i q _ _ => e9 _ _ (by omega)) ((e9 _ _ (by omega)).trans a5) ((e9 _ _ (by omega)).trans a6) (fun q => (e9 _ _ (by omega)).trans (b1 q)) (by rw [e9 _ _ (by omega)]; exact b2) (fun w hw => (e9 _ _ (by omega)).trans (e1 w hw)) (fun j hj => by rw [e9 154 j (by omega)]; exact f1 j hj)
/-- told -/
theorem S3_b (h : S3 b sy pe sp un lf si ca bc M) {j : Nat} (hj : j < 4) : qz 1 4 0 (d_told M j) = bc j ∧ S3 b sy pe sp un lf si ca bc (d_told M j).1 := by
  have e0 : d_told M j = (am_u M 100 0 0, tol (M 154 j)) := by
    unfold d_told
    rw [Int.toNat_natCast, if_neg (by rw [h.1.2.2.2.1]; decide), if_neg (fun q => q ⟨by omega, by omega, h.2.2.2.1.1 j hj⟩)]
  rw [e0]
  dsimp only
  exact ⟨(qz_0 (am_u_eq M 100 0 0)).trans (h.2.2.2.2.2.2 j hj).1.symm, S3_c h 0⟩
/-- call -/
theorem S3_a (h : S3 b sy pe sp un lf si ca bc M) {w : Nat} (hw : w < 2) : qz 1 0 0 (d_call M w) = ca w ∧ S3 b sy pe sp un lf si (up ca w 1) bc (d_call M w).1 := by
  have e0 : d_call M w = (am_u (am_u M 100 0 0) 150 w 1, M 150 w) := by
    unfold d_call
    rw [Int.toNat_natCast, if_neg (by rw [h.1.2.2.2.1]; decide), if_neg (by omega)]
  rw [e0]
  dsimp only
  have e9 : ∀ r i, ¬ (r = 100 ∧ i = 0) → ¬ (r = 150 ∧ i = w) → am_u (am_u M 100 0 0) 150 w 1 r i = M r i := fun r i q q2 => by unfold am_u; rw [if_neg q2, if_neg q]
  obtain ⟨⟨a1, a2, a3, a4, a5, a6⟩, b1, b2, c1, d1, e1, f1⟩ := id h
  refine ⟨(qz_0 (by simp [am_u])).trans (e1 w hw), S3_cg h (fun r i q q2 _ => e9 _ _ (by omega) (by omega)) ((e9 _ _ (by omega) (by omega)).trans a5) ((e9 _ _ (by omega) (by omega)).trans a6) (fun q => (e9 _ _ (by omega) (by omega)).trans (b1 q)) (by rw [e9 _ _ (by omega) (by omega)]; exact b2) (fun v hv => ?_) (fun j hj => by rw [e9 154 j (by omega) (by omega)]; exact f1 j hj)⟩
  unfold up
  by_cases q : v = w
  · rw [if_pos q, q]; exact am_u_eq _ _ _ _
  · rw [if_neg q, e9 _ _ (by omega) (by omega)]; exact e1 v hv
/-- speak -/
theorem S3_P0 (h : S3 b sy pe sp un lf si ca bc M) {u : Int} (hu : u = 0 ∨ un = -1) : qz 1 0 0 (d_speak M u) = sp ∧ S3 b sy pe u un lf si ca bc (d_speak M u).1 := by
  obtain ⟨⟨a1, a2, a3, a4, a5, a6⟩, b1, b2, c1, d1, e1, f1⟩ := id h
  have e0 : d_speak M u = (am_u (am_u M 100 0 0) 100 48 u, M 100 48) := by
    unfold d_speak
    rw [if_neg (by rw [a4]; decide), if_neg (by rw [a6]; omega)]
  rw [e0]
  dsimp only
  have e9 : ∀ r i, ¬ (r = 100 ∧ (i = 0 ∨ i = 48)) → am_u (am_u M 100 0 0) 100 48 u r i = M r i := fun r i q => by unfold am_u; rw [if_neg (by omega), if_neg (by omega)]
  exact ⟨(qz_0 (by simp [am_u])).trans a5, S3_cg h (fun r i q _ _ => e9 _ _ (by omega)) (am_u_eq _ _ _ _) ((e9 _ _ (by omega)).trans a6) (fun q => (e9 _ _ (by omega)).trans (b1 q)) (by rw [e9 _ _ (by omega)]; exact b2) (fun w hw => (e9 _ _ (by omega)).trans (e1 w hw)) (fun j hj => by rw [e9 154 j (by omega)]; exact f1 j hj)⟩
theorem S3_P1 (h : S3 b sy pe sp un lf si ca bc M) {n : Nat} (hn : un = n) (hn4 : n < 4) : qz 1 0 0 (d_speak M 1) = sp ∧ S3 b sy pe 1 (-1) lf 0 ca (up bc n 108) (d_speak M 1).1 := by
  obtain ⟨⟨a1, a2, a3, a4, a5, a6⟩, b1, b2, c1, d1, e1, f1⟩ := id h
  have e0 : d_speak M 1 = (am_u (am_u (am_u (am_u (am_u M 100 0 0) 100 48 1) 154 n 3) 100 50 (-1)) 100 52 0, M 100 48) := by
    unfold d_speak
    rw [if_neg (by rw [a4]; decide), if_pos ⟨by decide, by rw [a6]; omega⟩, a6, hn, Int.toNat_natCast]
  rw [e0]
  dsimp only
  have e9 : ∀ r i, ¬ (r = 100 ∧ (i = 0 ∨ i = 48 ∨ i = 50 ∨ i = 52)) → ¬ (r = 154 ∧ i = n) → am_u (am_u (am_u (am_u (am_u M 100 0 0) 100 48 1) 154 n 3) 100 50 (-1)) 100 52 0 r i = M r i := fun r i q q2 => by unfold am_u; rw [if_neg (by omega), if_neg (by omega), if_neg (by omega), if_neg (by omega), if_neg (by omega)]
  refine ⟨(qz_0 (by simp [am_u])).trans a5, S3_cg h (fun r i q _ q3 => e9 _ _ (by omega) (by omega)) (by simp [am_u]) (by simp [am_u]) (fun q => absurd rfl q) (Or.inl (by simp [am_u])) (fun w hw => (e9 _ _ (by omega) (by omega)).trans (e1 w hw)) (fun j hj => ?_)⟩
  unfold up
  by_cases q : j = n
  · subst q
    rw [if_pos rfl, show am_u (am_u (am_u (am_u (am_u M 100 0 0) 100 48 1) 154 j 3) 100 50 (-1)) 100 52 0 154 j = 3 by simp [am_u]]
    exact ⟨rfl, by omega, by omega⟩
  · rw [if_neg q, e9 154 j (by omega) (by omega)]; exact f1 j hj
/-- may it be cued -/
def canQ (b : Int) (pe : Nat → Int) (sp un si : Int) (ca bc : Nat → Int) (f : Nat) : Prop := f < 3 ∧ un = -1 ∧ sp = 0 ∧ b ≤ si ∧ bc f ≠ 116 ∧ (pe f = -1 ∨ ca (pe f).toNat ≠ 0)
theorem tol_t {x : Int} (h : 0 ≤ x ∧ x ≤ 3) : tol x = 116 ↔ x = 2 := by
  have : x = 0 ∨ x = 1 ∨ x = 2 ∨ x = 3 := by omega
  rcases this with rfl | rfl | rfl | rfl <;> decide
theorem S3_q (h : S3 b sy pe sp un lf si ca bc M) (hb : 0 ≤ b ∧ b ≤ 5) (hpe : ∀ j : Nat, j < 3 → -1 ≤ pe j ∧ pe j ≤ 1) {f : Nat} (hf : f < 4) : (0 < M 119 f ∧ M 100 50 = -1 ∧ M 100 48 = 0 ∧ M 100 3 ≤ M 100 52 ∧ M 154 f ≠ 2 ∧ (M 116 f = 0 ∨ M 150 (M 116 f - 1).toNat ≠ 0)) ↔ canQ b pe sp un si ca bc f := by
  obtain ⟨⟨a1, a2, a3, a4, a5, a6⟩, b1, b2, c1, ⟨d1, d2⟩, e1, f1⟩ := id h
  obtain ⟨g1, g2⟩ := f1 f hf
  have ht := tol_t g2
  unfold canQ
  rw [a6, a5, a3, g1]
  by_cases q : f = 3
  · subst q
    rw [d2]
    exact ⟨fun w => absurd w.1 (by decide), fun w => absurd w.1 (by decide)⟩
  · obtain ⟨k1, k2, k3⟩ := d1 f (by omega)
    have hp := hpe f (by omega)
    rw [k1, k3, show pe f + 1 - 1 = pe f by omega]
    have hc : pe f = -1 ∨ M 150 (pe f).toNat = ca (pe f).toNat := by
      by_cases w : pe f = -1
      · exact Or.inl w
      · exact Or.inr (e1 _ (by omega))
    constructor
    · rintro ⟨_, w2, w3, w4, w5, w6⟩
      refine ⟨by omega, w2, w3, by omega, fun z => w5 (ht.mp z), ?_⟩
      rcases w6 with w6 | w6
      · exact Or.inl (by omega)
      · rcases hc with hc | hc
        · exact Or.inl hc
        · exact Or.inr (by rw [← hc]; exact w6)
    · rintro ⟨_, w2, w3, w4, w5, w6⟩
      refine ⟨by omega, w2, w3, by omega, fun z => w5 (ht.mpr z), ?_⟩
      rcases w6 with w6 | w6
      · exact Or.inl (by omega)
      · rcases hc with hc | hc
        · exact Or.inl (by omega)
        · exact Or.inr (by rw [hc]; exact w6)
theorem S3_Qn (h : S3 b sy pe sp un lf si ca bc M) (hb : 0 ≤ b ∧ b ≤ 5) (hpe : ∀ j : Nat, j < 3 → -1 ≤ pe j ∧ pe j ≤ 1) {f : Nat} (hf : f < 4) (hc : ¬ canQ b pe sp un si ca bc f) : qz 1 4 2 (d_cue M f) = -2000000004 ∧ S3 b sy pe sp un lf si ca bc (d_cue M f).1 := by
  have e0 : d_cue M f = dno M 3 := by
    unfold d_cue
    rw [Int.toNat_natCast, if_neg (by rw [h.1.2.2.2.1]; decide), if_neg (fun q => q ⟨by omega, by omega, h.2.2.2.1.1 f hf⟩), if_neg (fun q => hc ((S3_q h hb hpe hf).mp q))]
  rw [e0]
  exact ⟨qz_3, S3_c h 3⟩
theorem S3_Qy (h : S3 b sy pe sp un lf si ca bc M) (hb : 0 ≤ b ∧ b ≤ 5) (hpe : ∀ j : Nat, j < 3 → -1 ≤ pe j ∧ pe j ≤ 1) {f : Nat} (hc : canQ b pe sp un si ca bc f) : qz 1 4 2 (d_cue M f) = 2 * sy f ∧ S3 b sy pe sp f (2 * sy f) si ca (up bc f 117) (d_cue M f).1 := by
  have hf : f < 4 := by have := hc.1; omega
  obtain ⟨⟨a1, a2, a3, a4, a5, a6⟩, b1, b2, c1, ⟨d1, d2⟩, e1, f1⟩ := id h
  have hl : lng M f 0 = 2 * sy f := by
    unfold lng
    rw [show f * 3 + 0 = 3 * f by omega, (d1 f hc.1).2.1, a2]; omega
  have e0 : d_cue M f = (am_u (am_u (am_u (am_u M 100 0 0) 100 50 f) 100 51 (2 * sy f)) 154 f 1, 2 * sy f) := by
    unfold d_cue
    rw [Int.toNat_natCast, if_neg (by rw [a4]; decide), if_neg (fun q => q ⟨by omega, by omega, h.2.2.2.1.1 f hf⟩), if_pos ((S3_q h hb hpe hf).mpr hc), hl]
  rw [e0]
  dsimp only
  have e9 : ∀ r i, ¬ (r = 100 ∧ (i = 0 ∨ i = 50 ∨ i = 51)) → ¬ (r = 154 ∧ i = f) → am_u (am_u (am_u (am_u M 100 0 0) 100 50 f) 100 51 (2 * sy f)) 154 f 1 r i = M r i := fun r i q q2 => by unfold am_u; rw [if_neg (by omega), if_neg (by omega), if_neg (by omega), if_neg (by omega)]
  refine ⟨qz_0 (by simp [am_u]), S3_cg h (fun r i q _ q3 => e9 _ _ (by omega) (by omega)) ((e9 _ _ (by omega) (by omega)).trans a5) (by simp [am_u]) (fun _ => by simp [am_u]) (by rw [e9 _ _ (by omega) (by omega)]; exact b2) (fun w hw => (e9 _ _ (by omega) (by omega)).trans (e1 w hw)) (fun j hj => ?_)⟩
  unfold up
  by_cases q : j = f
  · subst q
    rw [if_pos rfl, show am_u (am_u (am_u (am_u M 100 0 0) 100 50 j) 100 51 (2 * sy j)) 154 j 1 154 j = 1 by simp [am_u]]
    exact ⟨rfl, by omega, by omega⟩
  · rw [if_neg q, e9 154 j (by omega) (by omega)]; exact f1 j hj
/-- a tick in which nothing ends -/
theorem S3_k0 {r : (Nat → Nat → Int) × Int} (h : S3 b sy pe sp un lf si ca bc r.1) (hw : un = -1 ∨ (sp = 0 ∧ 2 ≤ lf)) : (tks r).2 = r.2 ∧ (tks r).1 100 0 = r.1 100 0 ∧ S3 b sy pe sp un (if un = -1 then lf else lf - 1) (si + 1) ca bc (tks r).1 := by
  obtain ⟨⟨a1, a2, a3, a4, a5, a6⟩, b1, b2, c1, d1, e1, f1⟩ := id h
  by_cases q : un = -1
  · have e0 : tks r = (am_u r.1 100 52 (r.1 100 52 + 1), r.2) := by unfold tks; rw [if_neg (fun w => w.2 (a6.trans q))]
    rw [e0, if_pos q]
    dsimp only
    have e9 : ∀ s i, ¬ (s = 100 ∧ i = 52) → am_u r.1 100 52 (r.1 100 52 + 1) s i = r.1 s i := fun s i w => if_neg w
    exact ⟨rfl, e9 _ _ (by omega), S3_cg h (fun s i w _ _ => e9 _ _ (by omega)) ((e9 _ _ (by omega)).trans a5) ((e9 _ _ (by omega)).trans a6) (fun w => (e9 _ _ (by omega)).trans (b1 w)) (by rw [am_u_eq]; omega) (fun w hw => (e9 _ _ (by omega)).trans (e1 w hw)) (fun j hj => by rw [e9 154 j (by omega)]; exact f1 j hj)⟩
  · obtain ⟨w1, w2⟩ := hw.resolve_left q
    have hl := b1 q
    have e0 : tks r = (am_u (am_u r.1 100 52 (r.1 100 52 + 1)) 100 51 (r.1 100 51 - 1), r.2) := by
      unfold tks; rw [if_pos ⟨a5.trans w1, fun w => q (a6.symm.trans w)⟩, if_neg (by rw [hl]; omega)]
    rw [e0, if_neg q]
    dsimp only
    have e9 : ∀ s i, ¬ (s = 100 ∧ (i = 52 ∨ i = 51)) → am_u (am_u r.1 100 52 (r.1 100 52 + 1)) 100 51 (r.1 100 51 - 1) s i = r.1 s i := fun s i w => by unfold am_u; rw [if_neg (by omega), if_neg (by omega)]
    exact ⟨rfl, e9 _ _ (by omega), S3_cg h (fun s i w _ _ => e9 _ _ (by omega)) ((e9 _ _ (by omega)).trans a5) ((e9 _ _ (by omega)).trans a6) (fun _ => by rw [am_u_eq, hl]) (by rw [show am_u (am_u r.1 100 52 (r.1 100 52 + 1)) 100 51 (r.1 100 51 - 1) 100 52 = r.1 100 52 + 1 by simp [am_u]]; omega) (fun w hw => (e9 _ _ (by omega)).trans (e1 w hw)) (fun j hj => by rw [e9 154 j (by omega)]; exact f1 j hj)⟩
/-- a tick in which a text ends -/
theorem S3_k1 {r : (Nat → Nat → Int) × Int} (h : S3 b sy pe sp un lf si ca bc r.1) {n : Nat} (hn : un = n) (hn4 : n < 4) (hw : sp = 0 ∧ lf = 1) : (tks r).2 = r.2 + 1 ∧ (tks r).1 100 0 = r.1 100 0 ∧ S3 b sy pe sp (-1) 0 0 ca (up bc n 116) (tks r).1 := by
  obtain ⟨⟨a1, a2, a3, a4, a5, a6⟩, b1, b2, c1, d1, e1, f1⟩ := id h
  have hl := b1 (by omega)
  have e0 : tks r = (am_u (am_u (am_u (am_u (am_u r.1 100 52 (r.1 100 52 + 1)) 100 51 (r.1 100 51 - 1)) 154 n 2) 100 50 (-1)) 100 52 0, r.2 + 1) := by
    unfold tks; rw [if_pos ⟨a5.trans hw.1, fun w => by rw [a6] at w; omega⟩, if_pos (by rw [hl]; omega), a6, hn, Int.toNat_natCast]
  rw [e0]
  dsimp only
  have e9 : ∀ s i, ¬ (s = 100 ∧ (i = 52 ∨ i = 51 ∨ i = 50)) → ¬ (s = 154 ∧ i = n) → am_u (am_u (am_u (am_u (am_u r.1 100 52 (r.1 100 52 + 1)) 100 51 (r.1 100 51 - 1)) 154 n 2) 100 50 (-1)) 100 52 0 s i = r.1 s i := fun s i w w2 => by unfold am_u; rw [if_neg (by omega), if_neg (by omega), if_neg (by omega), if_neg (by omega), if_neg (by omega)]
  refine ⟨rfl, e9 _ _ (by omega) (by omega), S3_cg h (fun s i w _ w3 => e9 _ _ (by omega) (by omega)) ((e9 _ _ (by omega) (by omega)).trans a5) (by simp [am_u]) (fun w => absurd rfl w) (Or.inl (by simp [am_u])) (fun w hw => (e9 _ _ (by omega) (by omega)).trans (e1 w hw)) (fun j hj => ?_)⟩
  unfold up
  by_cases q : j = n
  · subst q
    rw [if_pos rfl, show am_u (am_u (am_u (am_u (am_u r.1 100 52 (r.1 100 52 + 1)) 100 51 (r.1 100 51 - 1)) 154 j 2) 100 50 (-1)) 100 52 0 154 j = 2 by simp [am_u]]
    exact ⟨rfl, by omega, by omega⟩
  · rw [if_neg q, e9 154 j (by omega) (by omega)]; exact f1 j hj
/-- the last questions -/
theorem S3_b4 (h : S3 b sy pe sp un lf si ca bc M) : qz 1 4 0 (d_told M 4) = -2000000001 ∧ S3 b sy pe sp un lf si ca bc (d_told M 4).1 := by
  have e0 : d_told M 4 = (am_u M 100 0 2, 32) := by
    unfold d_told
    rw [if_neg (by rw [h.1.2.2.2.1]; decide), if_pos (fun q => by have := h.2.2.2.1.2 4 (by omega) (by omega); rw [show (4 : Int).toNat = 4 from rfl, this] at q; exact absurd q.2.2 (by decide))]
  rw [e0]
  dsimp only
  exact ⟨qz_c2 (am_u_eq M 100 0 2), S3_c h 2⟩
theorem S3_K201 (h : S3 b sy pe sp un lf si ca bc M) : qz 1 0 0 (d_tick M 201) = -2000000002 ∧ S3 b sy pe sp un lf si ca bc (d_tick M 201).1 := by
  have e0 : d_tick M 201 = dno M 2 := by
    unfold d_tick
    rw [if_neg (by rw [h.1.2.2.2.1]; decide), if_pos (by omega)]
  rw [e0]
  exact ⟨qz_2, S3_c h 2⟩
/-- live once more -/
theorem S3_live (h : S3 b sy pe sp un lf si ca bc M) : lvn M 10 = 3 ∧ S3 b sy pe 0 (-1) 0 100 (fun _ => 0) (fun _ => 45) (d_live M).1 := by
  obtain ⟨⟨a1, a2, a3, a4, a5, a6⟩, b1, b2, ⟨c1, c2⟩, ⟨d1, d2⟩, e1, f1⟩ := id h
  constructor
  · have z : ∀ k : Nat, 4 ≤ k → k < 10 → (if M 110 k ≠ 0 ∧ 0 < M 119 k then (1 : Int) else 0) = 0 := fun k q1 q2 => if_neg (fun w => w.1 (c2 k q1 q2))
    have y : ∀ k : Nat, k < 3 → (if M 110 k ≠ 0 ∧ 0 < M 119 k then (1 : Int) else 0) = 1 := fun k q => if_pos ⟨by rw [c1 k (by omega)]; decide, by rw [(d1 k q).1]; decide⟩
    have x3 : (if M 110 3 ≠ 0 ∧ 0 < M 119 3 then (1 : Int) else 0) = 0 := if_neg (fun w => by rw [d2] at w; exact absurd w.2 (by decide))
    simp only [lvn]
    rw [y 0 (by omega), y 1 (by omega), y 2 (by omega), x3, z 4 (by omega) (by omega), z 5 (by omega) (by omega), z 6 (by omega) (by omega), z 7 (by omega) (by omega), z 8 (by omega) (by omega), z 9 (by omega) (by omega)]
    rfl
  · obtain ⟨l1, ⟨l2, l3, l4, l5, l6⟩, l7⟩ := lvz_at M 10
    have e9 : ∀ r i, ¬ (r = 100 ∧ (i = 0 ∨ i = 47 ∨ i = 48 ∨ i = 50 ∨ i = 52)) → r ≠ 150 → r ≠ 154 → (d_live M).1 r i = M r i := l1
    refine ⟨⟨(e9 _ _ (by omega) (by omega) (by omega)).trans a1, (e9 _ _ (by omega) (by omega) (by omega)).trans a2, (e9 _ _ (by omega) (by omega) (by omega)).trans a3, l3, l4, l5⟩, fun q => absurd rfl q, Or.inr ⟨by omega, by show 100 ≤ lvz M 10 100 52; omega⟩, ⟨fun j hj => (e9 _ _ (by omega) (by omega) (by omega)).trans (c1 j hj), fun j q1 q2 => (e9 _ _ (by omega) (by omega) (by omega)).trans (c2 j q1 q2)⟩, ⟨fun j hj => ?_, (e9 _ _ (by omega) (by omega) (by omega)).trans d2⟩, fun w hw => (l7 w (by omega)).1, fun j hj => ?_⟩
    · rw [e9 119 j (by omega) (by omega) (by omega), e9 120 _ (by omega) (by omega) (by omega), e9 116 j (by omega) (by omega) (by omega)]; exact d1 j hj
    · have e : (d_live M).1 154 j = 0 := (l7 j (by omega)).2
      rw [e]; exact ⟨rfl, by omega, by omega⟩
end
