/-! THE CLASS: sound, unsound -/
section
variable {st : List Value} {B : Nat} {I C : am_I} {P : am_P} {G : am_G} {k s d : Nat} {Q : am_Q} {M : Nat → Nat → Int} {K : Int} {sh : Nat → Nat → Nat} {se : Nat → Nat → Nat → Nat}
theorem c40 {r : Nat} (hr : (am_TY r).1 = 5) {c a b : Int} (hc : 0 ≤ c ∧ c ≤ 65535) : am_Ev 40 0 [some (.ref r), some (.int (iI c)), some (.int (iI a)), some (.int (iI b))] [] B I P G k s d (am_one (.inl none) B (am_u (am_u (am_u I r 0 (iI c)) r 1 (iI a)) r 2 (iI b)) P G) := by
  have h := iI_chq hc
  simp (disch := (first | exact am_rf_ref | exact am_rf_rf | exact am_cat_int | exact am_cat_ref | exact am_cat_rf | exact am_rf_null | exact am_cat_null | omega)) only [e40_0, e40_1, e40_4, e40_5, e40_6, e40_9, e40_10, e40_11, e40_14, e40_15, e40_16, e40_19, List.length_cons, List.length_nil, Nat.zero_add, Nat.reduceAdd, Nat.reduceLeDiff, Nat.zero_le, Option.toList_some, Option.toList_none, List.cons_append, List.nil_append, am_rf_ref, am_rf_rf, am_rf_null, am_cat_rf, am_cat_ref, am_cat_int, am_cat_null, va_rf_some, va_rf_none, true_and, and_true, true_or, or_true, am_ia10, TY9, TY10, TY11, TY12, TY13, TY14, TY15, TY16, TY17, TY18, TY19, TY20, TY21, TY22, TY23, TY24, TY25, TY26, TY27, TY28, TY29, TY30, TY31, TY32, TY33, TY34, TY35, TY36, TY37, TY38, TY39, TY40, TY41, TY42, TY43, TY100, TY106, TY107, TY108, TY109, TY110, TY111, TY112, TY113, TY114, TY115, TY116, TY117, TY118, TY119, TY120, TY124, TY125, TY126, TY127, TY128, TY129, TY131, TY132, TY133, TY134, TY135, TY136, TY137, TY138, TY139, TY140, TY141, TY142, TY143, TY144, TY145, TY146, TY147, TY150, TY154, TY155, TY160, hr]
  exact ⟨iI_char hc, am_q⟩
/-- a film with a sound more -/
theorem FM_add {M M' : Nat → Nat → Int} {I0 I I' : am_I} {P0 P P' : am_P} {B0 B' : Nat} {n r b : Nat} (h : FM M sh I0 P0 B0) (hn : M 100 4 = n) (hn29 : n ≤ 29) (hB0 : 161 ≤ B0)
    (hr : (4096 ≤ r ∧ r % 4096 = 1 ∧ B0 ≤ r ∧ r < B') ∧ (am_TY r).1 = 5) (hI0 : ∀ a, a < B0 → ∀ j, I a j = I0 a j) (hP0 : ∀ a, a < B0 → ∀ j, P a j = P0 a j) (hrs : I r 0 = iI (M' 106 n) ∧ I r 1 = iI (M' 107 n) ∧ I r 2 = iI (M' 108 n))
    (hA : ADD 12 (sh 0 0) n (r + 1) r I P b B' I' P') (h1 : M' 100 1 = M 100 1) (h4 : M' 100 4 = (n : Int) + 1) (hM : ∀ q i, 106 ≤ q → q ≤ 120 → (i = n → 109 ≤ q) → M' q i = M q i) : FM M' (am_u (am_u sh 0 0 b) 1 n r) I' P' B' := by
  obtain ⟨a1, a2, a3, a4, a5, a6, a7, a8, a9, a10⟩ := hA
  have hcap := fm_cap h
  have hl := fm_l h
  rw [hn] at hl
  have hBr : r + 1 ≤ B' := by rcases a1 with q | q <;> omega
  have e0 : (am_u (am_u sh 0 0 b) 1 n r) 0 0 = b := by rw [am_u_na _ _ _ _ (by omega), am_u_eq]
  have e1 : ∀ k, k ≠ n → (am_u (am_u sh 0 0 b) 1 n r) 1 k = sh 1 k := fun k hk => by rw [am_u_ni _ _ _ _ hk, am_u_na _ _ _ _ (by omega)]
  have e1n : (am_u (am_u sh 0 0 b) 1 n r) 1 n = r := am_u_eq _ _ _ _
  have e2 : ∀ k, (am_u (am_u sh 0 0 b) 1 n r) 2 k = sh 2 k := fun k => by rw [am_u_na _ _ _ _ (by omega), am_u_na _ _ _ _ (by omega)]
  have e3 : ∀ k, (am_u (am_u sh 0 0 b) 1 n r) 3 k = sh 3 k := fun k => by rw [am_u_na _ _ _ _ (by omega), am_u_na _ _ _ _ (by omega)]
  have hb : 4096 ≤ b := by
    rcases a1 with ⟨q, _⟩ | q
    · rcases hcap with w | w
      · omega
      · omega
    · omega
  have iI' : ∀ a, a < B0 → a ≠ 12 → ∀ j, I' a j = I0 a j := fun a q1 q2 j => by rw [a5 a (by omega) q2 j]; exact hI0 a q1 j
  have iP' : ∀ a, a < B0 → a ≠ sh 0 0 → ∀ j, (a = 12 → j ≠ 1) → P' a j = P0 a j := fun a q1 q2 j q3 => by rw [a7 a (by omega) q2 j q3]; exact hP0 a q1 j
  have hsb : sh 0 0 < B0 := by rcases hl.2.2.2.1 with q | q <;> omega
  refine ⟨?_, ⟨?_, ?_, ?_⟩, ⟨⟨a8, ?_, ?_, Or.inr ?_, fun k hk => ?_⟩, Or.inr ?_⟩, fun k hk => ?_, fun j hj => ?_, fun j hj w => ?_, fun j hj w => ?_⟩
  · rw [iI' 11 (by omega) (by omega), h1]; exact fm_tk h
  · rw [iP' 11 (by omega) (by omega) _ (by omega)]; exact fm_1 h
  · rw [iP' 11 (by omega) (by omega) _ (by omega)]; exact fm_2 h
  · rw [iP' 11 (by omega) (by omega) _ (by omega)]; exact fm_3 h
  · rw [a6, h4]; congr 1
  · omega
  · rw [e0]; exact ⟨a2.1, by omega, by omega, by omega, hb, by rcases a1 with q | q <;> omega⟩
  · rw [e0]
    rcases Nat.lt_or_eq_of_le (show k ≤ n by omega) with w | w
    · rw [e1 k (by omega), a9 k w, hP0 _ hsb]; exact hl.2.2.2.2 k (by rw [nat_toNat]; exact w)
    · subst w; rw [e1n]; exact ⟨a10, hr.2⟩
  · rw [e0]; exact ⟨hb, a3, a4⟩
  · rcases Nat.lt_or_eq_of_le (show k ≤ n by omega) with w | w
    · obtain ⟨⟨q1, q2, q3⟩, q4, q5, q6⟩ := fm_s h k (by omega)
      rw [e1 k (by omega), iI' _ q6 (by omega), iI' _ q6 (by omega), iI' _ q6 (by omega), hM 106 k (by omega) (by omega) (by omega), hM 107 k (by omega) (by omega) (by omega), hM 108 k (by omega) (by omega) (by omega)]
      exact ⟨⟨q1, q2, q3⟩, q4, q5, by omega⟩
    · subst w
      rw [e1n, a5 r (by omega) (by omega), a5 r (by omega) (by omega), a5 r (by omega) (by omega)]
      exact ⟨hrs, hr.1.1, hr.1.2.1, hr.1.2.2.2⟩
  · rw [iI' 13 (by omega) (by omega), hM 109 j (by omega) (by omega) (by omega)]; exact fm_n h j hj
  · rw [hM 110 j (by omega) (by omega) (by omega)] at w
    rw [iP' 14 (by omega) (by omega) _ (by omega)]; exact fm_f0 h j hj w
  · rw [hM 110 j (by omega) (by omega) (by omega)] at w
    obtain ⟨q1, q2, q3⟩ := fm_f1 h j hj w
    unfold FL at q2
    rw [iP' 14 (by omega) (by omega) _ (by omega), e2, e3]
    refine ⟨q1, ⟨⟨q2.1.1, q2.1.2.1, by omega⟩, q2.2.1, q2.2.2.1, by omega⟩, ?_⟩
    unfold FC at q3 ⊢
    rw [hM 111 j (by omega) (by omega) (by omega), hM 112 j (by omega) (by omega) (by omega), hM 113 j (by omega) (by omega) (by omega), hM 114 j (by omega) (by omega) (by omega), hM 115 j (by omega) (by omega) (by omega), hM 116 j (by omega) (by omega) (by omega), hM 117 j (by omega) (by omega) (by omega), hM 118 j (by omega) (by omega) (by omega), hM 119 j (by omega) (by omega) (by omega)]
    rw [iI' _ q2.1.2.2 (by omega), iI' _ q2.1.2.2 (by omega), iI' _ q2.1.2.2 (by omega), iI' _ q2.1.2.2 (by omega), iI' _ q2.1.2.2 (by omega), iI' _ q2.1.2.2 (by omega), iI' _ q2.1.2.2 (by omega), iI' _ q2.1.2.2 (by omega), iI' _ q2.1.2.2 (by omega), iP' _ q2.1.2.2 (by omega) _ (by omega)]
    exact ⟨q3.1, q3.2.1, fun v hv => by rw [iI' _ q2.2.2.2 (by omega), hM 120 _ (by omega) (by omega) (by omega)]; exact q3.2.2 v hv⟩
end
