/-! longs; the model's small methods -/
theorem bI_okT {b : Bool} : (b = false ∨ b = true) ↔ True := by cases b <;> simp
theorem am_u_u {α : Type} (f : Nat → Nat → α) (a i : Nat) (x y : α) : am_u (am_u f a i x) a i y = am_u f a i y := by funext b j; by_cases h : b = a ∧ j = i <;> simp [am_u, h]
theorem lI_lit (n : Nat) : (OfNat.ofNat n : Int64) = lI (OfNat.ofNat n) := rfl
theorem lI_0 : (0 : Int64) = lI 0 := rfl
theorem lI_1 : (1 : Int64) = lI 1 := rfl
theorem lI_neg (a : Int) : - lI a = lI (- a) := (Int64.ofInt_neg a).symm
theorem lI_add (a b : Int) : lI a + lI b = lI (a + b) := (Int64.ofInt_add a b).symm
theorem lI_sub (a b : Int) : lI a - lI b = lI (a - b) := (Int64.ofInt_sub a b).symm
theorem lI_mul (a b : Int) : lI a * lI b = lI (a * b) := (Int64.ofInt_mul a b).symm
theorem lI_of {a : Int} (h : -2147483648 ≤ a ∧ a ≤ 2147483647) : (iI a).toInt64 = lI a := by
  show Int64.ofInt (iI a).toInt = _
  rw [iI_toInt h]; rfl
theorem lI_toInt {a : Int} (h : -9000000000000000000 ≤ a ∧ a ≤ 9000000000000000000) : (lI a).toInt = a := Int64.toInt_ofInt_of_le (by omega) (by omega)
theorem lI_lt {a b : Int} (h : (-9000000000000000000 ≤ a ∧ a ≤ 9000000000000000000) ∧ -9000000000000000000 ≤ b ∧ b ≤ 9000000000000000000) : lI a < lI b ↔ a < b := by rw [Int64.lt_iff_toInt_lt, lI_toInt h.1, lI_toInt h.2]
theorem lI_eq {a b : Int} (h : (-9000000000000000000 ≤ a ∧ a ≤ 9000000000000000000) ∧ -9000000000000000000 ≤ b ∧ b ≤ 9000000000000000000) : lI a = lI b ↔ a = b := ⟨fun e => by rw [← lI_toInt h.1, e, lI_toInt h.2], fun e => by rw [e]⟩
theorem lg_lt {x y : Int64} : lg_cmp x y < iI 0 ↔ x < y := by
  unfold lg_cmp
  by_cases h : x < y
  · have h1 : ¬ y < x := fun q => absurd (Int64.lt_trans h q) Int64.lt_irrefl
    have h2 : ¬ x = y := fun q => Int64.lt_irrefl (q ▸ h)
    simp [h, h1, h2]; decide +kernel
  · by_cases h2 : x = y
    · subst h2; simp; decide +kernel
    · have : y < x := Int64.lt_of_le_of_ne (Int64.not_lt.mp h) (fun q => h2 q.symm)
      simp [h, this]; decide +kernel
theorem lg_gt {x y : Int64} : iI 0 < lg_cmp x y ↔ y < x := by
  unfold lg_cmp
  by_cases h : y < x
  · simp [h]; decide +kernel
  · by_cases h2 : x = y
    · subst h2; simp; decide +kernel
    · simp [h, h2]; decide +kernel
theorem lg_eq {x y : Int64} : lg_cmp x y = iI 0 ↔ x = y := by
  unfold lg_cmp
  by_cases h : y < x
  · have h2 : ¬ x = y := fun q => Int64.lt_irrefl (q ▸ h)
    simp [h, h2]; decide +kernel
  · by_cases h2 : x = y
    · subst h2; simp; decide +kernel
    · simp [h, h2]; decide +kernel
section
variable {st : List Value} {B : Nat} {I C : am_I} {P : am_P} {G : am_G} {k s d : Nat} {Q : am_Q} {M : Nat → Nat → Int} {K : Int}
theorem m115 {v lo hi : Int} (hv : (-9000000000000000000 ≤ v ∧ v ≤ 9000000000000000000) ∧ (-9000000000000000000 ≤ lo ∧ lo ≤ 9000000000000000000) ∧ -9000000000000000000 ≤ hi ∧ hi ≤ 9000000000000000000) :
    am_Ev 115 0 [some (.long (lI v)), none, some (.long (lI lo)), none, some (.long (lI hi)), none] [] B I P G k s d (am_one (.inl (some (.int (bI (decide (lo ≤ v ∧ v ≤ hi)))))) B I P G) := by
  simp (disch := (first | exact am_rf_ref | exact am_rf_rf | exact am_cat_int | exact am_cat_ref | exact am_cat_rf | exact am_rf_null | exact am_cat_null | omega)) only [e115_0, e115_1, e115_2, e115_3, e115_6, e115_7, e115_9, e115_10, e115_13, e115_14, e115_17, e115_18, Option.toList_some, Option.toList_none, List.cons_append, List.nil_append, am_rf_ref, am_rf_rf, am_rf_null, am_cat_rf, am_cat_ref, am_cat_int, am_cat_null, va_rf_some, va_rf_none, true_and, and_true, true_or, or_true, am_ia10, TY9, TY10, TY11, TY12, TY13, TY14, TY15, TY16, TY17, TY18, TY19, TY20, TY21, TY22, TY23, TY24, TY25, TY26, TY27, TY28, TY29, TY30, TY31, TY32, TY33, TY34, TY35, TY36, TY37, TY38, TY39, TY40, TY41, TY42, TY43, TY100, TY106, TY107, TY108, TY109, TY110, TY111, TY112, TY113, TY114, TY115, TY116, TY117, TY118, TY119, TY120, TY124, TY125, TY126, TY127, TY128, TY129, TY131, TY132, TY133, TY134, TY135, TY136, TY137, TY138, TY139, TY140, TY141, TY142, TY143, TY144, TY145, TY146, TY147, TY150, TY154, TY155, TY160, iI_lit, iI_0, iI_1, iI_neg, iI_nI, iI_add, iI_sub, iI_mul, iI_lt, iI_le, iI_eq, iI_clamp, iI_in, nat_toNat, bI_0, bI_1, bI_okT, bI_ok, bI_ok0, bI_ok1, iM_r, iM_w, am_u_u, am_u_eq, am_u_na, am_u_ni, ne_eq, not_true_eq_false, not_false_eq_true, forall_const, false_imp_iff, Classical.not_not, Int.reduceLE, Int.reduceLT, Int.reduceEq, Int.reduceNe, Int.reduceAdd, Int.reduceSub, Int.reduceMul, Int.reduceNeg, Int.reduceToNat, Nat.reduceAdd, Nat.reduceMul, Nat.reduceEqDiff, Nat.reduceLT, Nat.reduceLeDiff, true_imp_iff, decide_eq_true_eq, decide_eq_false_iff_not, Bool.not_eq_false, Bool.not_eq_true, lg_lt, lg_gt, lI_lt]
  have h1 : ∀ b : Bool, b = decide (lo ≤ v ∧ v ≤ hi) → am_one (.inl (some (.int (bI (decide (lo ≤ v ∧ v ≤ hi)))))) B I P G (.inl (some (.int (bI b)))) B I P G := by rintro _ rfl; exact am_q
  refine ⟨fun h => h1 false ?_, fun h => ⟨fun h2 => h1 false ?_, fun h2 => h1 true ?_⟩⟩
  · symm; simp; omega
  · symm; simp; omega
  · symm; simp; omega
theorem m114 : am_Ev 114 0 [some (.ref 100)] [] B (iM M C) P G k s d (am_one (.inl (some (.int (iI (M 100 0))))) B (iM M C) P G) := by
  simp (disch := (first | exact am_rf_ref | exact am_rf_rf | exact am_cat_int | exact am_cat_ref | exact am_cat_rf | exact am_rf_null | exact am_cat_null | omega)) only [e114_0, e114_1, e114_4, Option.toList_some, Option.toList_none, List.cons_append, List.nil_append, am_rf_ref, am_rf_rf, am_rf_null, am_cat_rf, am_cat_ref, am_cat_int, am_cat_null, va_rf_some, va_rf_none, true_and, and_true, true_or, or_true, am_ia10, TY9, TY10, TY11, TY12, TY13, TY14, TY15, TY16, TY17, TY18, TY19, TY20, TY21, TY22, TY23, TY24, TY25, TY26, TY27, TY28, TY29, TY30, TY31, TY32, TY33, TY34, TY35, TY36, TY37, TY38, TY39, TY40, TY41, TY42, TY43, TY100, TY106, TY107, TY108, TY109, TY110, TY111, TY112, TY113, TY114, TY115, TY116, TY117, TY118, TY119, TY120, TY124, TY125, TY126, TY127, TY128, TY129, TY131, TY132, TY133, TY134, TY135, TY136, TY137, TY138, TY139, TY140, TY141, TY142, TY143, TY144, TY145, TY146, TY147, TY150, TY154, TY155, TY160, iI_lit, iI_0, iI_1, iI_neg, iI_nI, iI_add, iI_sub, iI_mul, iI_lt, iI_le, iI_eq, iI_clamp, iI_in, nat_toNat, bI_0, bI_1, bI_okT, bI_ok, bI_ok0, bI_ok1, iM_r, iM_w, am_u_u, am_u_eq, am_u_na, am_u_ni, ne_eq, not_true_eq_false, not_false_eq_true, forall_const, false_imp_iff, Classical.not_not, Int.reduceLE, Int.reduceLT, Int.reduceEq, Int.reduceNe, Int.reduceAdd, Int.reduceSub, Int.reduceMul, Int.reduceNeg, Int.reduceToNat, Nat.reduceAdd, Nat.reduceMul, Nat.reduceEqDiff, Nat.reduceLT, Nat.reduceLeDiff, true_imp_iff, decide_eq_true_eq, decide_eq_false_iff_not, Bool.not_eq_false, Bool.not_eq_true]
  exact am_q
theorem m118 : am_Ev 118 0 [some (.ref 100)] [] B (iM M C) P G k s d (am_one (.inl none) B (iM (am_u M 100 20 0) C) P G) := by
  simp (disch := (first | exact am_rf_ref | exact am_rf_rf | exact am_cat_int | exact am_cat_ref | exact am_cat_rf | exact am_rf_null | exact am_cat_null | omega)) only [e118_0, e118_1, e118_2, e118_5, Option.toList_some, Option.toList_none, List.cons_append, List.nil_append, am_rf_ref, am_rf_rf, am_rf_null, am_cat_rf, am_cat_ref, am_cat_int, am_cat_null, va_rf_some, va_rf_none, true_and, and_true, true_or, or_true, am_ia10, TY9, TY10, TY11, TY12, TY13, TY14, TY15, TY16, TY17, TY18, TY19, TY20, TY21, TY22, TY23, TY24, TY25, TY26, TY27, TY28, TY29, TY30, TY31, TY32, TY33, TY34, TY35, TY36, TY37, TY38, TY39, TY40, TY41, TY42, TY43, TY100, TY106, TY107, TY108, TY109, TY110, TY111, TY112, TY113, TY114, TY115, TY116, TY117, TY118, TY119, TY120, TY124, TY125, TY126, TY127, TY128, TY129, TY131, TY132, TY133, TY134, TY135, TY136, TY137, TY138, TY139, TY140, TY141, TY142, TY143, TY144, TY145, TY146, TY147, TY150, TY154, TY155, TY160, iI_lit, iI_0, iI_1, iI_neg, iI_nI, iI_add, iI_sub, iI_mul, iI_lt, iI_le, iI_eq, iI_clamp, iI_in, nat_toNat, bI_0, bI_1, bI_okT, bI_ok, bI_ok0, bI_ok1, iM_r, iM_w, am_u_u, am_u_eq, am_u_na, am_u_ni, ne_eq, not_true_eq_false, not_false_eq_true, forall_const, false_imp_iff, Classical.not_not, Int.reduceLE, Int.reduceLT, Int.reduceEq, Int.reduceNe, Int.reduceAdd, Int.reduceSub, Int.reduceMul, Int.reduceNeg, Int.reduceToNat, Nat.reduceAdd, Nat.reduceMul, Nat.reduceEqDiff, Nat.reduceLT, Nat.reduceLeDiff, true_imp_iff, decide_eq_true_eq, decide_eq_false_iff_not, Bool.not_eq_false, Bool.not_eq_true]
  exact am_q
end
