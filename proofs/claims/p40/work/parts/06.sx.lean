/-! more step rules: new rows, arraycopy, copyOf, calls under a table -/
section AMSX
variable {m pc len r1 r2 : Nat} {L : List (Option Value)} {st : List Value} {B : Nat} {I : am_I} {P : am_P} {G : am_G} {k s d : Nat} {Q : am_Q}
theorem am_nI_inj {n n' : Nat} (h : n < 2 ^ 31) (h' : n' < 2 ^ 31) (e : nI n = nI n') : n = n' := by
  rw [← nI_clamp h, e, nI_clamp h']
theorem s_newarray {t : ArrayType} {n : Nat} (hc : am_cod m pc = some (.newarray t, len, r1, r2)) (hn : n < 65536) : am_Ev m pc L (.int (nI n) :: st) B I P G k s d Q ↔ (1 ≤ k ∧ n ≤ s ∧ ∃ a, B ≤ a ∧ a % 4096 ≠ 4000 ∧ am_TY a = (r1, n) ∧ am_Ev m (pc + 2) L (.ref a :: st) (a + 1) (am_c I a 0) (am_c P a none) (am_c G a 0) (k - 1) (s - n) d Q) := by
  refine (am_step hc).trans ⟨fun ⟨n', st', a, h1, h2, h3, h4, h5, h6, h7, h8⟩ => ?_, fun ⟨h3, h4, a, h⟩ => ⟨n, st, a, rfl, hn, h3, h4, h⟩⟩
  injection h1 with e1 e2
  injection e1 with e1
  obtain rfl := am_nI_inj (by omega) (by omega) e1
  subst e2
  exact ⟨h3, h4, a, h5, h6, h7, h8⟩
theorem s_anewarray {i n : Nat} (hc : am_cod m pc = some (.anewarray i, len, r1, r2)) (hn : n < 65536) (h14 : 14 ≤ r1) (h16 : r1 ≤ 16) : am_Ev m pc L (.int (nI n) :: st) B I P G k s d Q ↔ (1 ≤ k ∧ n ≤ s ∧ ∃ a, B ≤ a ∧ a % 4096 ≠ 4000 ∧ am_TY a = (r1, n) ∧ am_Ev m (pc + 3) L (.ref a :: st) (a + 1) (am_c I a 0) (am_c P a none) G (k - 1) (s - n) d Q) := by
  refine (am_step hc).trans ⟨fun ⟨n', st', a, h1, h2, h3, h4, h5, h6, h7, _, _, h8⟩ => ?_, fun ⟨h3, h4, a, h5, h6, h7, h8⟩ => ⟨n, st, a, rfl, hn, h3, h4, h5, h6, h7, h14, h16, h8⟩⟩
  injection h1 with e1 e2
  injection e1 with e1
  obtain rfl := am_nI_inj (by omega) (by omega) e1
  subst e2
  exact ⟨h3, h4, a, h5, h6, h7, h8⟩
theorem s_multi {i j0 n j : Nat} (hc : am_cod m pc = some (.multianewarray i j0, len, r1, r2)) (a : Nat) (h1 : n < 4096) (h2 : j < 4096) (h3 : 1 + n ≤ k) (h4 : n + n * j ≤ s) (h5 : B ≤ a) (h6 : a % 4096 + n < 4000) (h7 : am_TY a = (17, n)) (h8 : ∀ i, i < n → am_TY (a + 1 + i) = (10, j))
    (h9 : am_Ev m (pc + 4) L (.ref a :: st) (a + 1 + n) (fun b i => if a ≤ b ∧ b ≤ a + n then 0 else I b i) (fun b i => if b = a then (if i < n then some (a + 1 + i) else none) else if a < b ∧ b ≤ a + n then none else P b i) G (k - (1 + n)) (s - (n + n * j)) d Q) : am_Ev m pc L (.int (nI j) :: .int (nI n) :: st) B I P G k s d Q :=
  (am_step hc).mpr ⟨n, j, st, a, rfl, h1, h2, h3, h4, h5, h6, h7, h8, h9⟩
theorem s_copy {i a b n sp dp : Nat} (hc : am_cod m pc = some (.invokestatic i, len, 904, r2)) (h0 : st.length ≤ 8) (ha : (am_TY a).1 = 14) (hb : (am_TY b).1 = 14) (h1 : n < 65536) (h2 : sp < 65536) (h3 : dp < 65536) (h4 : sp + n ≤ (am_TY a).2) (h5 : dp + n ≤ (am_TY b).2) (h6 : ∀ i r, i < n → P a (sp + i) = some r → (am_TY r).1 = 5)
    (h7 : am_Ev m (pc + 3) L st B I (fun c i => if c = b then va_cpy (P a) (P b) sp dp n i else P c i) G k s d Q) : am_Ev m pc L (.int (nI n) :: .int (nI dp) :: .ref b :: .int (nI sp) :: .ref a :: st) B I P G k s d Q :=
  (am_step hc).mpr (Or.inr (Or.inr (Or.inr (Or.inl ⟨rfl, n, a, b, sp, dp, st, rfl, h0, ha, hb, h1, h2, h3, h4, h5, h6, h7⟩))))
theorem k_copyOf {i a n : Nat} (hc : am_cod m pc = some (.invokestatic i, len, 903, r2)) (R : am_Q) (mc ms dd : Nat) (h0 : st.length ≤ 4) (ha : (am_TY a).1 = 14) (hn : n < 65536) (h1 : mc ≤ k) (h2 : ms ≤ s) (h3 : dd + 1 < d) (h4 : am_Ev 192 6 [some (.ref a), some (.int (nI n)), none, none] [] B I P G mc ms dd R)
    (h5 : ∀ v B' I' P' G', R (.inl v) B' I' P' G' → (∃ b, v = some (.ref b)) ∧ am_Ev m (pc + 3) L (v.toList ++ st) B' I' P' G' (k - mc) (s - ms) d Q) (h6 : ∀ x B' I' P' G', ¬ R (.inr x) B' I' P' G') : am_Ev m pc L (.int (nI n) :: .ref a :: st) B I P G k s d Q :=
  (am_step hc).mpr (Or.inr (Or.inr (Or.inl ⟨rfl, n, a, st, rfl, h0, ha, hn, R, mc, ms, dd, h1, h2, h3, h4, h5, h6⟩)))
/-- calls in a method with a table (the law's helpers) -/
theorem k_vH {i id : Nat} {As : List Value} {a : Nat} (hc : am_cod m pc = some (.invokevirtual i, len, id, r2)) (hid : id < 900) (R : am_Q) (mc ms dd : Nat) (hn : am_na id = As.length + 1) (ha : (am_TY a).1 = am_own id) {E : List (Option Value)} (hE : am_en (.ref a :: As) (am_nL id) = E) (hEl : E.length = am_nL id) (hEk : am_lck id E 0) (h0 : st.length ≤ 4) (h1 : mc ≤ k) (h2 : ms ≤ s) (h3 : dd < d)
    (h4 : am_Ev id 0 E [] B I P G mc ms dd R) (h5 : ∀ v B' I' P' G', R (.inl v) B' I' P' G' → am_Ev m (pc + 3) L (v.toList ++ st) B' I' P' G' (k - mc) (s - ms) d Q) (h6 : ∀ x B' I' P' G', R (.inr x) B' I' P' G' → Q (match am_hd m pc x with | some c => .inl (some (.int c)) | none => .inr x) B' I' P' G') :
    am_Ev m pc L (As.reverse ++ .ref a :: st) B I P G k s d Q := by
  subst hE
  have e1 : (As.reverse ++ .ref a :: st).take (am_na id) = (Value.ref a :: As).reverse := by rw [hn, show As.reverse ++ .ref a :: st = (Value.ref a :: As).reverse ++ st by simp]; exact List.take_left' (by simp)
  have e2 : (As.reverse ++ .ref a :: st).drop (am_na id) = st := by rw [hn, show As.reverse ++ .ref a :: st = (Value.ref a :: As).reverse ++ st by simp]; exact List.drop_left' (by simp)
  refine (am_step hc).mpr (Or.inr ⟨hid, by show am_na id ≤ _; rw [hn]; simp, ⟨a, by show (List.take (am_na id) _).getLast? = _; rw [e1]; simp, ha⟩, ?_⟩)
  show am_Call am_Ev id (List.take (am_na id) _).reverse (List.drop (am_na id) _) m pc L B I P G k s d Q
  rw [e1, e2, List.reverse_reverse]
  exact ⟨R, mc, ms, dd, h0, hEl, hEk, h1, h2, h3, h4, fun v B' I' P' G' h => ⟨B', Nat.le_refl _, h5 v B' I' P' G' h⟩, h6⟩
/-- a static call in a method with a table -/
theorem k_sH {i id : Nat} {As : List Value} (hc : am_cod m pc = some (.invokestatic i, len, id, r2)) (hid : id < 900) (R : am_Q) (mc ms dd : Nat) (hn : am_na id = As.length) {E : List (Option Value)} (hE : am_en As (am_nL id) = E) (hEl : E.length = am_nL id) (hEk : am_lck id E 0) (h0 : st.length ≤ 4) (h1 : mc ≤ k) (h2 : ms ≤ s) (h3 : dd < d)
    (h4 : am_Ev id 0 E [] B I P G mc ms dd R) (h5 : ∀ v B' I' P' G', R (.inl v) B' I' P' G' → am_Ev m (pc + 3) L (v.toList ++ st) B' I' P' G' (k - mc) (s - ms) d Q) (h6 : ∀ x B' I' P' G', R (.inr x) B' I' P' G' → Q (match am_hd m pc x with | some c => .inl (some (.int c)) | none => .inr x) B' I' P' G') :
    am_Ev m pc L (As.reverse ++ st) B I P G k s d Q := by
  subst hE
  have e1 : (As.reverse ++ st).take (am_na id) = As.reverse := by rw [hn]; exact List.take_left' (by simp)
  have e2 : (As.reverse ++ st).drop (am_na id) = st := by rw [hn]; exact List.drop_left' (by simp)
  refine (am_step hc).mpr (Or.inr (Or.inr (Or.inr (Or.inr (Or.inr ⟨hid, by show am_na id ≤ _; rw [hn]; simp, ?_⟩)))))
  show am_Call am_Ev id (List.take (am_na id) _).reverse (List.drop (am_na id) _) m pc L B I P G k s d Q
  rw [e1, e2, List.reverse_reverse]
  exact ⟨R, mc, ms, dd, h0, hEl, hEk, h1, h2, h3, h4, fun v B' I' P' G' h => ⟨B', Nat.le_refl _, h5 v B' I' P' G' h⟩, h6⟩
/-- calls behind which roles are left out -/
theorem k_vB {i id : Nat} {As : List Value} {a : Nat} (hc : am_cod m pc = some (.invokevirtual i, len, id, r2)) (hid : id < 900) (R : am_Q) (mc ms dd : Nat) (hn : am_na id = As.length + 1) (ha : (am_TY a).1 = am_own id) {E : List (Option Value)} (hE : am_en (.ref a :: As) (am_nL id) = E) (hEl : E.length = am_nL id) (hEk : am_lck id E 0) (h0 : st.length ≤ 4) (h1 : mc ≤ k) (h2 : ms ≤ s) (h3 : dd < d) (hx : ∀ x, am_hd m pc x = none)
    (h4 : am_Ev id 0 E [] B I P G mc ms dd R) (h5 : ∀ v B' I' P' G', R (.inl v) B' I' P' G' → ∃ B2, B' ≤ B2 ∧ am_Ev m (pc + 3) L (v.toList ++ st) B2 I' P' G' (k - mc) (s - ms) d Q) (h6 : ∀ x B' I' P' G', R (.inr x) B' I' P' G' → Q (.inr x) B' I' P' G') :
    am_Ev m pc L (As.reverse ++ .ref a :: st) B I P G k s d Q := by
  subst hE
  have e1 : (As.reverse ++ .ref a :: st).take (am_na id) = (Value.ref a :: As).reverse := by rw [hn, show As.reverse ++ .ref a :: st = (Value.ref a :: As).reverse ++ st by simp]; exact List.take_left' (by simp)
  have e2 : (As.reverse ++ .ref a :: st).drop (am_na id) = st := by rw [hn, show As.reverse ++ .ref a :: st = (Value.ref a :: As).reverse ++ st by simp]; exact List.drop_left' (by simp)
  refine (am_step hc).mpr (Or.inr ⟨hid, by show am_na id ≤ _; rw [hn]; simp, ⟨a, by show (List.take (am_na id) _).getLast? = _; rw [e1]; simp, ha⟩, ?_⟩)
  show am_Call am_Ev id (List.take (am_na id) _).reverse (List.drop (am_na id) _) m pc L B I P G k s d Q
  rw [e1, e2, List.reverse_reverse]
  exact ⟨R, mc, ms, dd, h0, hEl, hEk, h1, h2, h3, h4, h5, fun x B' I' P' G' h => by rw [hx]; exact h6 _ _ _ _ _ h⟩
theorem k_iB {i id : Nat} {As : List Value} {a : Nat} (hc : am_cod m pc = some (.invokespecial i, len, id, r2)) (hid : id < 900) (R : am_Q) (mc ms dd : Nat) (hn : am_na id = As.length + 1) {E : List (Option Value)} (hE : am_en (.ref a :: As) (am_nL id) = E) (hEl : E.length = am_nL id) (hEk : am_lck id E 0) (h0 : st.length ≤ 4) (h1 : mc ≤ k) (h2 : ms ≤ s) (h3 : dd < d) (hx : ∀ x, am_hd m pc x = none)
    (h4 : am_Ev id 0 E [] B I P G mc ms dd R) (h5 : ∀ v B' I' P' G', R (.inl v) B' I' P' G' → ∃ B2, B' ≤ B2 ∧ am_Ev m (pc + 3) L (v.toList ++ st) B2 I' P' G' (k - mc) (s - ms) d Q) (h6 : ∀ x B' I' P' G', R (.inr x) B' I' P' G' → Q (.inr x) B' I' P' G') :
    am_Ev m pc L (As.reverse ++ .ref a :: st) B I P G k s d Q := by
  subst hE
  have e1 : (As.reverse ++ .ref a :: st).take (am_na id) = (Value.ref a :: As).reverse := by rw [hn, show As.reverse ++ .ref a :: st = (Value.ref a :: As).reverse ++ st by simp]; exact List.take_left' (by simp)
  have e2 : (As.reverse ++ .ref a :: st).drop (am_na id) = st := by rw [hn, show As.reverse ++ .ref a :: st = (Value.ref a :: As).reverse ++ st by simp]; exact List.drop_left' (by simp)
  refine (am_step hc).mpr (Or.inr ⟨hid, by show am_na id ≤ _; rw [hn]; simp, ⟨a, by show (List.take (am_na id) _).getLast? = _; rw [e1]; simp⟩, ?_⟩)
  show am_Call am_Ev id (List.take (am_na id) _).reverse (List.drop (am_na id) _) m pc L B I P G k s d Q
  rw [e1, e2, List.reverse_reverse]
  exact ⟨R, mc, ms, dd, h0, hEl, hEk, h1, h2, h3, h4, h5, fun x B' I' P' G' h => by rw [hx]; exact h6 _ _ _ _ _ h⟩
theorem s_irem {x y : Int32} (hc : am_cod m pc = some (.irem, len, r1, r2)) : am_Ev m pc L (.int y :: .int x :: st) B I P G k s d Q ↔ (y ≠ 0 ∧ am_Ev m (pc + 1) L (.int (x - x / y * y) :: st) B I P G k s d Q) := (am_step hc).trans ⟨fun ⟨_, _, _, h1, h2⟩ => by cases h1; exact h2, fun h => ⟨x, y, st, rfl, h⟩⟩
theorem s_clone {i a n : Nat} (hc : am_cod m pc = some (.invokevirtual i, len, 905, r2)) (h0 : st.length ≤ 8) (ha : am_TY a = (10, n)) (hn : n < 65536) (h1 : 1 ≤ k) (h2 : n ≤ s) (b : Nat) (h3 : B ≤ b) (h4 : b % 4096 ≠ 4000) (h5 : am_TY b = (10, n))
    (h6 : am_Ev m (pc + 3) L (.ref b :: st) (b + 1) (fun c i => if c = b then I a i else I c i) (am_c P b none) G (k - 1) (s - n) d Q) : am_Ev m pc L (.ref a :: st) B I P G k s d Q :=
  (am_step hc).mpr (Or.inl ⟨rfl, n, a, b, st, rfl, h0, ha, hn, h1, h2, h3, h4, h5, h6⟩)
/-- a call in a world of its own -/
theorem k_f {i id : Nat} {As : List Value} (hc : am_cod m pc = some (.invokestatic i, len, 906, id)) (R : am_Q) (mc ms dd : Nat) (hn : am_na id = As.length) {E : List (Option Value)} (hE : am_en As (am_nL id) = E) (hEl : E.length = am_nL id) (hEk : am_lck id E 0) (h0 : st.length ≤ 4) (h1 : mc ≤ k) (h2 : ms ≤ s) (h3 : dd < d) (hA : ∀ v ∈ As, ∃ r, v = .ref r ∧ r % 4096 = 4000 ∧ 4096 ≤ r)
    (h4 : am_Ev id 0 E [] 10 I (fun _ _ => none) G mc ms dd R) (h5 : ∀ v B' I' P' G', R (.inl v) B' I' P' G' → ∃ x, v = some (.int x) ∧ am_Ev m (pc + 3) L (.int x :: st) B I P G (k - mc) (s - ms) d Q) (h6 : ∀ x B' I' P' G', ¬ R (.inr x) B' I' P' G') :
    am_Ev m pc L (As.reverse ++ st) B I P G k s d Q := by
  subst hE
  have e1 : (As.reverse ++ st).take (am_na id) = As.reverse := by rw [hn]; exact List.take_left' (by simp)
  have e2 : (As.reverse ++ st).drop (am_na id) = st := by rw [hn]; exact List.drop_left' (by simp)
  refine (am_step hc).mpr (Or.inr (Or.inr (Or.inr (Or.inr (Or.inl ⟨rfl, by show am_na id ≤ _; rw [hn]; simp, ?_⟩)))))
  show am_Fresh am_Ev id (List.take (am_na id) _).reverse (List.drop (am_na id) _) m pc L B I P G k s d Q
  rw [e1, e2, List.reverse_reverse]
  exact ⟨R, mc, ms, dd, h0, hEl, hEk, h1, h2, h3, hA, h4, h5, h6⟩
end AMSX
