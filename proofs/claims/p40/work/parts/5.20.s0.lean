/-! p40, A ROW IN ORDER: the row of marks sorted, whatever is asked of it the same -/
/-- one mark more: how many, the sum, the greatest, the least -/
def mst (p : Int × Int × Int × Int) (x : Int) : Int × Int × Int × Int := if x < 0 then p else (p.1 + 1, p.2.1 + x, if p.2.2.1 < x then x else p.2.2.1, if x < p.2.2.2 then x else p.2.2.2)
def mH (f : Nat → Int) : Nat → Int × Int × Int × Int
  | 0 => (0, 0, -1, 11)
  | k + 1 => mst (mH f k) (f k)
theorem mst_c (p : Int × Int × Int × Int) (x y : Int) : mst (mst p x) y = mst (mst p y) x := by
  unfold mst
  by_cases hx : x < 0
  · by_cases hy : y < 0
    · simp only [if_pos hx, if_pos hy]
    · simp only [if_pos hx, if_neg hy]
  · by_cases hy : y < 0
    · simp only [if_neg hx, if_pos hy]
    · simp only [if_neg hx, if_neg hy]
      refine Prod.ext rfl (Prod.ext ?_ (Prod.ext ?_ ?_))
      · show p.2.1 + x + y = p.2.1 + y + x
        omega
      · show (if (if p.2.2.1 < x then x else p.2.2.1) < y then y else (if p.2.2.1 < x then x else p.2.2.1)) = (if (if p.2.2.1 < y then y else p.2.2.1) < x then x else (if p.2.2.1 < y then y else p.2.2.1))
        repeat' split
        all_goals omega
      · show (if y < (if x < p.2.2.2 then x else p.2.2.2) then y else (if x < p.2.2.2 then x else p.2.2.2)) = (if x < (if y < p.2.2.2 then y else p.2.2.2) then x else (if y < p.2.2.2 then y else p.2.2.2))
        repeat' split
        all_goals omega
theorem mH_le {f g : Nat → Int} {i : Nat} (h0 : ∀ j, j < i → f j = g j) : ∀ n, n ≤ i → mH f n = mH g n
  | 0, _ => rfl
  | n + 1, h => by
    show mst (mH f n) (f n) = mst (mH g n) (g n)
    rw [mH_le h0 n (by omega), h0 n (by omega)]
theorem mH_sw {f g : Nat → Int} {i : Nat} (h0 : ∀ j, j ≠ i → j ≠ i + 1 → f j = g j) (h1 : f i = g (i + 1)) (h2 : f (i + 1) = g i) : ∀ n, mH f (i + 2 + n) = mH g (i + 2 + n)
  | 0 => by
    show mst (mst (mH f i) (f i)) (f (i + 1)) = mst (mst (mH g i) (g i)) (g (i + 1))
    rw [mH_le (g := g) (i := i) (fun j hj => h0 j (by omega) (by omega)) i (by omega), h1, h2, mst_c]
  | n + 1 => by
    show mst (mH f (i + 2 + n)) (f (i + 2 + n)) = mst (mH g (i + 2 + n)) (g (i + 2 + n))
    rw [mH_sw h0 h1 h2 n, h0 (i + 2 + n) (by omega) (by omega)]
theorem up_e (f : Nat → Int) (i : Nat) (x : Int) : up f i x i = x := if_pos rfl
theorem up_n (f : Nat → Int) {i j : Nat} (x : Int) (h : j ≠ i) : up f i x j = f j := if_neg h
/-- a row of marks -/
def MB (f : Nat → Int) : Prop := ∀ j, -1 ≤ f j ∧ f j ≤ 10
theorem MB_up {f : Nat → Int} (h : MB f) (i : Nat) {x : Int} (hx : -1 ≤ x ∧ x ≤ 10) : MB (up f i x) := fun j => by
  by_cases q : j = i
  · subst q; rw [up_e]; exact hx
  · rw [up_n _ _ q]; exact h j
/-- row a holds f -/
def rs (I : am_I) (a : Nat) (f : Nat → Int) : am_I := fun r j => if r = a then iI (f j) else I r j
theorem rs_e (I : am_I) (a : Nat) (f : Nat → Int) (j : Nat) : rs I a f a j = iI (f j) := if_pos rfl
theorem rs_n (I : am_I) {a r : Nat} (f : Nat → Int) (j : Nat) (h : r ≠ a) : rs I a f r j = I r j := if_neg h
theorem rs_u (I : am_I) (a : Nat) (f : Nat → Int) (i : Nat) (x : Int) : am_u (rs I a f) a i (iI x) = rs I a (up f i x) := by
  funext r j
  unfold am_u rs up
  by_cases h1 : r = a <;> by_cases h2 : j = i <;> simp [h1, h2]
theorem rs_of {I : am_I} {a : Nat} {f : Nat → Int} (h : ∀ j, I a j = iI (f j)) : I = rs I a f := by
  funext r j
  unfold rs
  split
  · next q => subst q; exact h j
  · rfl
/-- sorted up to n -/
def OS (f0 : Nat → Int) (n : Nat) (f : Nat → Int) : Prop := MB f ∧ mH f 6 = mH f0 6 ∧ ∀ j, j + 1 ≤ n → f j ≤ f (j + 1)
/-- x is on its way down, now before i -/
def IS (f0 : Nat → Int) (n i : Nat) (x : Int) (f : Nat → Int) : Prop := MB f ∧ mH (up f i x) 6 = mH f0 6 ∧ (∀ j, j + 1 ≤ n → j + 1 ≠ i → up f i x j ≤ up f i x (j + 1)) ∧ ∀ j, j + 1 = i → i + 1 ≤ n → f j ≤ f (i + 1)
theorem IS_0 {f0 f : Nat → Int} {n : Nat} {x : Int} (h : IS f0 n 0 x f) (hx : -1 ≤ x ∧ x ≤ 10) : OS f0 n (up f 0 x) := ⟨MB_up h.1 _ hx, h.2.1, fun j hj => h.2.2.1 j hj (by omega)⟩
theorem IS_e {f0 f : Nat → Int} {n i : Nat} {x : Int} (h : IS f0 n (i + 1) x f) (hx : -1 ≤ x ∧ x ≤ 10) (hq : f i ≤ x) : OS f0 n (up f (i + 1) x) := ⟨MB_up h.1 _ hx, h.2.1, fun j hj => by
  by_cases q : j = i
  · subst q
    rw [up_e, up_n _ _ (by omega)]
    exact hq
  · exact h.2.2.1 j hj (by omega)⟩
theorem IS_s {f0 f : Nat → Int} {n i : Nat} {x : Int} (h : IS f0 n (i + 1) x f) (hn : n ≤ 5) (hi : i + 1 ≤ n) (hq : ¬ f i ≤ x) : IS f0 n i x (up f (i + 1) (f i)) := by
  refine ⟨MB_up h.1 _ (h.1 i), ?_, fun j hj1 hj2 => ?_, fun j hj1 hj2 => ?_⟩
  · rw [← h.2.1]
    have e := mH_sw (f := up (up f (i + 1) (f i)) i x) (g := up f (i + 1) x) (i := i) (fun j q1 q2 => by rw [up_n _ _ q1, up_n _ _ q2, up_n _ _ q2]) (by rw [up_e, up_e]) (by rw [up_n _ _ (by omega), up_e, up_n _ _ (by omega)]) (4 - i)
    rw [show i + 2 + (4 - i) = 6 by omega] at e
    exact e
  · by_cases q1 : j = i
    · subst q1
      rw [up_e, up_n _ _ (by omega), up_e]
      omega
    · by_cases q2 : j = i + 1
      · subst q2
        rw [up_n _ _ (by omega), up_e, up_n _ _ (by omega), up_n _ _ (by omega)]
        exact h.2.2.2 i rfl (by omega)
      · have u := h.2.2.1 j hj1 (by omega)
        rw [up_n _ _ (by omega), up_n _ _ (by omega)] at u
        rw [up_n _ _ (by omega), up_n _ _ (by omega), up_n _ _ (by omega), up_n _ _ (by omega)]
        exact u
  · have u := h.2.2.1 j (by omega) (by omega)
    rw [up_n _ _ (by omega), up_n _ _ (by omega)] at u
    rw [up_n _ _ (by omega), up_e, ← hj1]
    exact u
theorem IS_of {f0 f : Nat → Int} {n : Nat} (h : OS f0 n f) : IS f0 (n + 1) (n + 1) (f (n + 1)) f := by
  have e : up f (n + 1) (f (n + 1)) = f := by
    funext j
    by_cases q : j = n + 1
    · subst q; rw [up_e]
    · rw [up_n _ _ q]
  refine ⟨h.1, by rw [e]; exact h.2.1, fun j q1 q2 => by rw [e]; exact h.2.2 j (by omega), fun j q1 q2 => absurd q2 (by omega)⟩
/-- the end of the sorting -/
def SOR (f0 f : Nat → Int) : Prop := OS f0 5 f
def srq (f0 : Nat → Int) (a B : Nat) (I : am_I) (P : am_P) (G : am_G) : am_Q := fun o B' I' P' G' => o = .inl none ∧ B' = B ∧ P' = P ∧ G' = G ∧ ∃ g, I' = rs I a g ∧ SOR f0 g
section
variable {a : Nat} {B : Nat} {I : am_I} {P : am_P} {G : am_G} {k s d : Nat} {f0 : Nat → Int} {Q : am_Q}
theorem is_in (hT : am_TY a = (10, 6)) {n : Nat} (hn : n ≤ 5) {x : Int} (hx : -1 ≤ x ∧ x ≤ 10) (h : ∀ f x3, OS f0 n f → am_Ev 116 3 [some (.ref a), some (.int (iI 0)), some (.int (iI 6)), x3, some (.int (iI (n : Int))), some (.int (iI x))] [] B (rs I a f) P G k s d Q) : ∀ (i : Nat) (f : Nat → Int), i ≤ n → IS f0 n i x f → am_Ev 116 30 [some (.ref a), some (.int (iI 0)), some (.int (iI 6)), some (.int (iI (i : Int))), some (.int (iI (n : Int))), some (.int (iI x))] [] B (rs I a f) P G k s d Q
  | 0, f, hi, hs => by
    have e0 : ((0 : Nat) : Int) = 0 := rfl
    simp (disch := (first | exact am_rf_ref | exact am_rf_rf | exact am_cat_int | exact am_cat_ref | exact am_cat_rf | exact am_rf_null | exact am_cat_null | omega)) only [e116_30, e116_33, e116_34, e116_35, List.length_cons, List.length_nil, Nat.zero_add, Nat.reduceAdd, Nat.reduceLeDiff, Nat.zero_le, Option.toList_some, Option.toList_none, List.cons_append, List.nil_append, am_rf_ref, am_rf_rf, am_rf_null, am_cat_rf, am_cat_ref, am_cat_int, am_cat_null, va_rf_some, va_rf_none, true_and, and_true, true_or, or_true, am_ia10, TY9, TY10, TY11, TY12, TY13, TY14, TY15, TY16, TY17, TY18, TY19, TY20, TY21, TY22, TY23, TY24, TY25, TY26, TY27, TY28, TY29, TY30, TY31, TY32, TY33, TY34, TY35, TY36, TY37, TY38, TY39, TY40, TY41, TY42, TY43, TY100, TY106, TY107, TY108, TY109, TY110, TY111, TY112, TY113, TY114, TY115, TY116, TY117, TY118, TY119, TY120, TY124, TY125, TY126, TY127, TY128, TY129, TY131, TY132, TY133, TY134, TY135, TY136, TY137, TY138, TY139, TY140, TY141, TY142, TY143, TY144, TY145, TY146, TY147, TY150, TY154, TY155, TY160, iI_lit, iI_0, iI_1, iI_neg, iI_nI, iI_add, iI_sub, iI_mul, iI_lt, iI_le, iI_eq, iI_clamp, iI_in, nat_toNat, bI_0, bI_1, bI_okT, bI_ok, bI_ok0, bI_ok1, iM_r, iM_w, am_u_u, am_u_eq, am_u_na, am_u_ni, ne_eq, not_true_eq_false, not_false_eq_true, forall_const, false_imp_iff, Classical.not_not, Int.reduceLE, Int.reduceLT, Int.reduceEq, Int.reduceNe, Int.reduceAdd, Int.reduceSub, Int.reduceMul, Int.reduceNeg, Int.reduceToNat, Nat.reduceAdd, Nat.reduceMul, Nat.reduceEqDiff, Nat.reduceLT, Nat.reduceLeDiff, true_imp_iff, decide_eq_true_eq, decide_eq_false_iff_not, Bool.not_eq_false, Bool.not_eq_true, Bool.not_eq_false', Bool.not_eq_true', e0]
    simp (disch := (first | exact am_rf_ref | exact am_rf_rf | exact am_cat_int | exact am_cat_ref | exact am_cat_rf | exact am_rf_null | exact am_cat_null | omega)) only [e116_57, e116_58, e116_59, e116_60, e116_61, e116_63, e116_64, List.length_cons, List.length_nil, Nat.zero_add, Nat.reduceAdd, Nat.reduceLeDiff, Nat.zero_le, Option.toList_some, Option.toList_none, List.cons_append, List.nil_append, am_rf_ref, am_rf_rf, am_rf_null, am_cat_rf, am_cat_ref, am_cat_int, am_cat_null, va_rf_some, va_rf_none, true_and, and_true, true_or, or_true, am_ia10, TY9, TY10, TY11, TY12, TY13, TY14, TY15, TY16, TY17, TY18, TY19, TY20, TY21, TY22, TY23, TY24, TY25, TY26, TY27, TY28, TY29, TY30, TY31, TY32, TY33, TY34, TY35, TY36, TY37, TY38, TY39, TY40, TY41, TY42, TY43, TY100, TY106, TY107, TY108, TY109, TY110, TY111, TY112, TY113, TY114, TY115, TY116, TY117, TY118, TY119, TY120, TY124, TY125, TY126, TY127, TY128, TY129, TY131, TY132, TY133, TY134, TY135, TY136, TY137, TY138, TY139, TY140, TY141, TY142, TY143, TY144, TY145, TY146, TY147, TY150, TY154, TY155, TY160, iI_lit, iI_0, iI_1, iI_neg, iI_nI, iI_add, iI_sub, iI_mul, iI_lt, iI_le, iI_eq, iI_clamp, iI_in, nat_toNat, bI_0, bI_1, bI_okT, bI_ok, bI_ok0, bI_ok1, iM_r, iM_w, am_u_u, am_u_eq, am_u_na, am_u_ni, ne_eq, not_true_eq_false, not_false_eq_true, forall_const, false_imp_iff, Classical.not_not, Int.reduceLE, Int.reduceLT, Int.reduceEq, Int.reduceNe, Int.reduceAdd, Int.reduceSub, Int.reduceMul, Int.reduceNeg, Int.reduceToNat, Nat.reduceAdd, Nat.reduceMul, Nat.reduceEqDiff, Nat.reduceLT, Nat.reduceLeDiff, true_imp_iff, decide_eq_true_eq, decide_eq_false_iff_not, Bool.not_eq_false, Bool.not_eq_true, Bool.not_eq_false', Bool.not_eq_true', hT, rs_u]
    exact h _ _ (IS_0 hs hx)
  | i + 1, f, hi, hs => by
    have hb := hs.1 i
    have e0 : (((i + 1 : Nat)) : Int) + -1 = (i : Int) := by omega
    have e1 : ((i : Int) + 1).toNat = i + 1 := by omega
    have e2 : ¬ (i : Int) < 0 := by omega
    simp (disch := (first | exact am_rf_ref | exact am_rf_rf | exact am_cat_int | exact am_cat_ref | exact am_cat_rf | exact am_rf_null | exact am_cat_null | omega)) only [e116_30, e116_33, e116_34, e116_35, e116_38, e116_40, e116_41, e116_42, e116_43, List.length_cons, List.length_nil, Nat.zero_add, Nat.reduceAdd, Nat.reduceLeDiff, Nat.zero_le, Option.toList_some, Option.toList_none, List.cons_append, List.nil_append, am_rf_ref, am_rf_rf, am_rf_null, am_cat_rf, am_cat_ref, am_cat_int, am_cat_null, va_rf_some, va_rf_none, true_and, and_true, true_or, or_true, am_ia10, TY9, TY10, TY11, TY12, TY13, TY14, TY15, TY16, TY17, TY18, TY19, TY20, TY21, TY22, TY23, TY24, TY25, TY26, TY27, TY28, TY29, TY30, TY31, TY32, TY33, TY34, TY35, TY36, TY37, TY38, TY39, TY40, TY41, TY42, TY43, TY100, TY106, TY107, TY108, TY109, TY110, TY111, TY112, TY113, TY114, TY115, TY116, TY117, TY118, TY119, TY120, TY124, TY125, TY126, TY127, TY128, TY129, TY131, TY132, TY133, TY134, TY135, TY136, TY137, TY138, TY139, TY140, TY141, TY142, TY143, TY144, TY145, TY146, TY147, TY150, TY154, TY155, TY160, iI_lit, iI_0, iI_1, iI_neg, iI_nI, iI_add, iI_sub, iI_mul, iI_lt, iI_le, iI_eq, iI_clamp, iI_in, nat_toNat, bI_0, bI_1, bI_okT, bI_ok, bI_ok0, bI_ok1, iM_r, iM_w, am_u_u, am_u_eq, am_u_na, am_u_ni, ne_eq, not_true_eq_false, not_false_eq_true, forall_const, false_imp_iff, Classical.not_not, Int.reduceLE, Int.reduceLT, Int.reduceEq, Int.reduceNe, Int.reduceAdd, Int.reduceSub, Int.reduceMul, Int.reduceNeg, Int.reduceToNat, Nat.reduceAdd, Nat.reduceMul, Nat.reduceEqDiff, Nat.reduceLT, Nat.reduceLeDiff, true_imp_iff, decide_eq_true_eq, decide_eq_false_iff_not, Bool.not_eq_false, Bool.not_eq_true, Bool.not_eq_false', Bool.not_eq_true', hT, e0, e2, rs_e]
    refine ⟨fun hq => ?_, fun hq => ?_⟩
    · simp (disch := (first | exact am_rf_ref | exact am_rf_rf | exact am_cat_int | exact am_cat_ref | exact am_cat_rf | exact am_rf_null | exact am_cat_null | omega)) only [e116_57, e116_58, e116_59, e116_60, e116_61, e116_63, e116_64, List.length_cons, List.length_nil, Nat.zero_add, Nat.reduceAdd, Nat.reduceLeDiff, Nat.zero_le, Option.toList_some, Option.toList_none, List.cons_append, List.nil_append, am_rf_ref, am_rf_rf, am_rf_null, am_cat_rf, am_cat_ref, am_cat_int, am_cat_null, va_rf_some, va_rf_none, true_and, and_true, true_or, or_true, am_ia10, TY9, TY10, TY11, TY12, TY13, TY14, TY15, TY16, TY17, TY18, TY19, TY20, TY21, TY22, TY23, TY24, TY25, TY26, TY27, TY28, TY29, TY30, TY31, TY32, TY33, TY34, TY35, TY36, TY37, TY38, TY39, TY40, TY41, TY42, TY43, TY100, TY106, TY107, TY108, TY109, TY110, TY111, TY112, TY113, TY114, TY115, TY116, TY117, TY118, TY119, TY120, TY124, TY125, TY126, TY127, TY128, TY129, TY131, TY132, TY133, TY134, TY135, TY136, TY137, TY138, TY139, TY140, TY141, TY142, TY143, TY144, TY145, TY146, TY147, TY150, TY154, TY155, TY160, iI_lit, iI_0, iI_1, iI_neg, iI_nI, iI_add, iI_sub, iI_mul, iI_lt, iI_le, iI_eq, iI_clamp, iI_in, nat_toNat, bI_0, bI_1, bI_okT, bI_ok, bI_ok0, bI_ok1, iM_r, iM_w, am_u_u, am_u_eq, am_u_na, am_u_ni, ne_eq, not_true_eq_false, not_false_eq_true, forall_const, false_imp_iff, Classical.not_not, Int.reduceLE, Int.reduceLT, Int.reduceEq, Int.reduceNe, Int.reduceAdd, Int.reduceSub, Int.reduceMul, Int.reduceNeg, Int.reduceToNat, Nat.reduceAdd, Nat.reduceMul, Nat.reduceEqDiff, Nat.reduceLT, Nat.reduceLeDiff, true_imp_iff, decide_eq_true_eq, decide_eq_false_iff_not, Bool.not_eq_false, Bool.not_eq_true, Bool.not_eq_false', Bool.not_eq_true', hT, e1, rs_u]
      exact h _ _ (IS_e hs hx hq)
    · simp (disch := (first | exact am_rf_ref | exact am_rf_rf | exact am_cat_int | exact am_cat_ref | exact am_cat_rf | exact am_rf_null | exact am_cat_null | omega)) only [e116_46, e116_47, e116_48, e116_49, e116_50, e116_51, e116_52, e116_53, e116_54, List.length_cons, List.length_nil, Nat.zero_add, Nat.reduceAdd, Nat.reduceLeDiff, Nat.zero_le, Option.toList_some, Option.toList_none, List.cons_append, List.nil_append, am_rf_ref, am_rf_rf, am_rf_null, am_cat_rf, am_cat_ref, am_cat_int, am_cat_null, va_rf_some, va_rf_none, true_and, and_true, true_or, or_true, am_ia10, TY9, TY10, TY11, TY12, TY13, TY14, TY15, TY16, TY17, TY18, TY19, TY20, TY21, TY22, TY23, TY24, TY25, TY26, TY27, TY28, TY29, TY30, TY31, TY32, TY33, TY34, TY35, TY36, TY37, TY38, TY39, TY40, TY41, TY42, TY43, TY100, TY106, TY107, TY108, TY109, TY110, TY111, TY112, TY113, TY114, TY115, TY116, TY117, TY118, TY119, TY120, TY124, TY125, TY126, TY127, TY128, TY129, TY131, TY132, TY133, TY134, TY135, TY136, TY137, TY138, TY139, TY140, TY141, TY142, TY143, TY144, TY145, TY146, TY147, TY150, TY154, TY155, TY160, iI_lit, iI_0, iI_1, iI_neg, iI_nI, iI_add, iI_sub, iI_mul, iI_lt, iI_le, iI_eq, iI_clamp, iI_in, nat_toNat, bI_0, bI_1, bI_okT, bI_ok, bI_ok0, bI_ok1, iM_r, iM_w, am_u_u, am_u_eq, am_u_na, am_u_ni, ne_eq, not_true_eq_false, not_false_eq_true, forall_const, false_imp_iff, Classical.not_not, Int.reduceLE, Int.reduceLT, Int.reduceEq, Int.reduceNe, Int.reduceAdd, Int.reduceSub, Int.reduceMul, Int.reduceNeg, Int.reduceToNat, Nat.reduceAdd, Nat.reduceMul, Nat.reduceEqDiff, Nat.reduceLT, Nat.reduceLeDiff, true_imp_iff, decide_eq_true_eq, decide_eq_false_iff_not, Bool.not_eq_false, Bool.not_eq_true, Bool.not_eq_false', Bool.not_eq_true', hT, e1, rs_u, rs_e]
      exact is_in hT hn hx h i _ (by omega) (IS_s hs hn hi hq)
theorem is_out (hT : am_TY a = (10, 6)) : ∀ (w n : Nat) (f : Nat → Int) (x3 x5 : Option Value), n + w = 5 → OS f0 n f → am_Ev 116 3 [some (.ref a), some (.int (iI 0)), some (.int (iI 6)), x3, some (.int (iI (n : Int))), x5] [] B (rs I a f) P G k s d (srq f0 a B I P G)
  | 0, n, f, x3, x5, hn, hs => by
    have e : n = 5 := by omega
    subst e
    have e5 : ((5 : Nat) : Int) = 5 := rfl
    simp (disch := (first | exact am_rf_ref | exact am_rf_rf | exact am_cat_int | exact am_cat_ref | exact am_cat_rf | exact am_rf_null | exact am_cat_null | omega)) only [e116_3, e116_6, e116_8, e116_9, e116_67, List.length_cons, List.length_nil, Nat.zero_add, Nat.reduceAdd, Nat.reduceLeDiff, Nat.zero_le, Option.toList_some, Option.toList_none, List.cons_append, List.nil_append, am_rf_ref, am_rf_rf, am_rf_null, am_cat_rf, am_cat_ref, am_cat_int, am_cat_null, va_rf_some, va_rf_none, true_and, and_true, true_or, or_true, am_ia10, TY9, TY10, TY11, TY12, TY13, TY14, TY15, TY16, TY17, TY18, TY19, TY20, TY21, TY22, TY23, TY24, TY25, TY26, TY27, TY28, TY29, TY30, TY31, TY32, TY33, TY34, TY35, TY36, TY37, TY38, TY39, TY40, TY41, TY42, TY43, TY100, TY106, TY107, TY108, TY109, TY110, TY111, TY112, TY113, TY114, TY115, TY116, TY117, TY118, TY119, TY120, TY124, TY125, TY126, TY127, TY128, TY129, TY131, TY132, TY133, TY134, TY135, TY136, TY137, TY138, TY139, TY140, TY141, TY142, TY143, TY144, TY145, TY146, TY147, TY150, TY154, TY155, TY160, iI_lit, iI_0, iI_1, iI_neg, iI_nI, iI_add, iI_sub, iI_mul, iI_lt, iI_le, iI_eq, iI_clamp, iI_in, nat_toNat, bI_0, bI_1, bI_okT, bI_ok, bI_ok0, bI_ok1, iM_r, iM_w, am_u_u, am_u_eq, am_u_na, am_u_ni, ne_eq, not_true_eq_false, not_false_eq_true, forall_const, false_imp_iff, Classical.not_not, Int.reduceLE, Int.reduceLT, Int.reduceEq, Int.reduceNe, Int.reduceAdd, Int.reduceSub, Int.reduceMul, Int.reduceNeg, Int.reduceToNat, Nat.reduceAdd, Nat.reduceMul, Nat.reduceEqDiff, Nat.reduceLT, Nat.reduceLeDiff, true_imp_iff, decide_eq_true_eq, decide_eq_false_iff_not, Bool.not_eq_false, Bool.not_eq_true, Bool.not_eq_false', Bool.not_eq_true', e5]
    exact ⟨rfl, rfl, rfl, rfl, f, rfl, hs⟩
  | w + 1, n, f, x3, x5, hn, hs => by
    have hb := hs.1 n
    have hb1 := hs.1 (n + 1)
    have e1 : ((n : Int) + 1).toNat = n + 1 := by omega
    have e2 : ¬ (6 : Int) ≤ (n : Int) + 1 := by omega
    have e3 : (n : Int) + 1 - 1 = (n : Int) := by omega
    simp (disch := (first | exact am_rf_ref | exact am_rf_rf | exact am_cat_int | exact am_cat_ref | exact am_cat_rf | exact am_rf_null | exact am_cat_null | omega)) only [e116_3, e116_6, e116_8, e116_9, e116_12, e116_13, e116_15, e116_16, e116_17, e116_18, e116_20, e116_22, e116_23, e116_24, e116_25, e116_26, e116_27, List.length_cons, List.length_nil, Nat.zero_add, Nat.reduceAdd, Nat.reduceLeDiff, Nat.zero_le, Option.toList_some, Option.toList_none, List.cons_append, List.nil_append, am_rf_ref, am_rf_rf, am_rf_null, am_cat_rf, am_cat_ref, am_cat_int, am_cat_null, va_rf_some, va_rf_none, true_and, and_true, true_or, or_true, am_ia10, TY9, TY10, TY11, TY12, TY13, TY14, TY15, TY16, TY17, TY18, TY19, TY20, TY21, TY22, TY23, TY24, TY25, TY26, TY27, TY28, TY29, TY30, TY31, TY32, TY33, TY34, TY35, TY36, TY37, TY38, TY39, TY40, TY41, TY42, TY43, TY100, TY106, TY107, TY108, TY109, TY110, TY111, TY112, TY113, TY114, TY115, TY116, TY117, TY118, TY119, TY120, TY124, TY125, TY126, TY127, TY128, TY129, TY131, TY132, TY133, TY134, TY135, TY136, TY137, TY138, TY139, TY140, TY141, TY142, TY143, TY144, TY145, TY146, TY147, TY150, TY154, TY155, TY160, iI_lit, iI_0, iI_1, iI_neg, iI_nI, iI_add, iI_sub, iI_mul, iI_lt, iI_le, iI_eq, iI_clamp, iI_in, nat_toNat, bI_0, bI_1, bI_okT, bI_ok, bI_ok0, bI_ok1, iM_r, iM_w, am_u_u, am_u_eq, am_u_na, am_u_ni, ne_eq, not_true_eq_false, not_false_eq_true, forall_const, false_imp_iff, Classical.not_not, Int.reduceLE, Int.reduceLT, Int.reduceEq, Int.reduceNe, Int.reduceAdd, Int.reduceSub, Int.reduceMul, Int.reduceNeg, Int.reduceToNat, Nat.reduceAdd, Nat.reduceMul, Nat.reduceEqDiff, Nat.reduceLT, Nat.reduceLeDiff, true_imp_iff, decide_eq_true_eq, decide_eq_false_iff_not, Bool.not_eq_false, Bool.not_eq_true, Bool.not_eq_false', Bool.not_eq_true', hT, e1, e2, e3, rs_e]
    refine ⟨fun hq => ?_, fun hq => ?_⟩
    · simp (disch := (first | exact am_rf_ref | exact am_rf_rf | exact am_cat_int | exact am_cat_ref | exact am_cat_rf | exact am_rf_null | exact am_cat_null | omega)) only [e116_64, List.length_cons, List.length_nil, Nat.zero_add, Nat.reduceAdd, Nat.reduceLeDiff, Nat.zero_le, Option.toList_some, Option.toList_none, List.cons_append, List.nil_append, am_rf_ref, am_rf_rf, am_rf_null, am_cat_rf, am_cat_ref, am_cat_int, am_cat_null, va_rf_some, va_rf_none, true_and, and_true, true_or, or_true, am_ia10, TY9, TY10, TY11, TY12, TY13, TY14, TY15, TY16, TY17, TY18, TY19, TY20, TY21, TY22, TY23, TY24, TY25, TY26, TY27, TY28, TY29, TY30, TY31, TY32, TY33, TY34, TY35, TY36, TY37, TY38, TY39, TY40, TY41, TY42, TY43, TY100, TY106, TY107, TY108, TY109, TY110, TY111, TY112, TY113, TY114, TY115, TY116, TY117, TY118, TY119, TY120, TY124, TY125, TY126, TY127, TY128, TY129, TY131, TY132, TY133, TY134, TY135, TY136, TY137, TY138, TY139, TY140, TY141, TY142, TY143, TY144, TY145, TY146, TY147, TY150, TY154, TY155, TY160, iI_lit, iI_0, iI_1, iI_neg, iI_nI, iI_add, iI_sub, iI_mul, iI_lt, iI_le, iI_eq, iI_clamp, iI_in, nat_toNat, bI_0, bI_1, bI_okT, bI_ok, bI_ok0, bI_ok1, iM_r, iM_w, am_u_u, am_u_eq, am_u_na, am_u_ni, ne_eq, not_true_eq_false, not_false_eq_true, forall_const, false_imp_iff, Classical.not_not, Int.reduceLE, Int.reduceLT, Int.reduceEq, Int.reduceNe, Int.reduceAdd, Int.reduceSub, Int.reduceMul, Int.reduceNeg, Int.reduceToNat, Nat.reduceAdd, Nat.reduceMul, Nat.reduceEqDiff, Nat.reduceLT, Nat.reduceLeDiff, true_imp_iff, decide_eq_true_eq, decide_eq_false_iff_not, Bool.not_eq_false, Bool.not_eq_true, Bool.not_eq_false', Bool.not_eq_true']
      rw [show (n : Int) + 1 = ((n + 1 : Nat) : Int) by omega]
      refine is_out hT w (n + 1) f _ _ (by omega) ⟨hs.1, hs.2.1, fun j hj => ?_⟩
      by_cases q : j = n
      · subst q; exact hq
      · exact hs.2.2 j (by omega)
    · rw [show (n : Int) + 1 = ((n + 1 : Nat) : Int) by omega]
      exact is_in hT (by omega) hb1 (fun f' x3 h' => is_out hT w (n + 1) f' x3 _ (by omega) h') (n + 1) f (by omega) (IS_of hs)
theorem c_is (hT : am_TY a = (10, 6)) {f : Nat → Int} (hf : MB f) : am_Ev 116 0 [some (.ref a), some (.int (iI 0)), some (.int (iI 6)), none, none, none] [] B (rs I a f) P G k s d (srq f a B I P G) := by
  simp (disch := (first | exact am_rf_ref | exact am_rf_rf | exact am_cat_int | exact am_cat_ref | exact am_cat_rf | exact am_rf_null | exact am_cat_null | omega)) only [e116_0, e116_1, List.length_cons, List.length_nil, Nat.zero_add, Nat.reduceAdd, Nat.reduceLeDiff, Nat.zero_le, Option.toList_some, Option.toList_none, List.cons_append, List.nil_append, am_rf_ref, am_rf_rf, am_rf_null, am_cat_rf, am_cat_ref, am_cat_int, am_cat_null, va_rf_some, va_rf_none, true_and, and_true, true_or, or_true, am_ia10, TY9, TY10, TY11, TY12, TY13, TY14, TY15, TY16, TY17, TY18, TY19, TY20, TY21, TY22, TY23, TY24, TY25, TY26, TY27, TY28, TY29, TY30, TY31, TY32, TY33, TY34, TY35, TY36, TY37, TY38, TY39, TY40, TY41, TY42, TY43, TY100, TY106, TY107, TY108, TY109, TY110, TY111, TY112, TY113, TY114, TY115, TY116, TY117, TY118, TY119, TY120, TY124, TY125, TY126, TY127, TY128, TY129, TY131, TY132, TY133, TY134, TY135, TY136, TY137, TY138, TY139, TY140, TY141, TY142, TY143, TY144, TY145, TY146, TY147, TY150, TY154, TY155, TY160, iI_lit, iI_0, iI_1, iI_neg, iI_nI, iI_add, iI_sub, iI_mul, iI_lt, iI_le, iI_eq, iI_clamp, iI_in, nat_toNat, bI_0, bI_1, bI_okT, bI_ok, bI_ok0, bI_ok1, iM_r, iM_w, am_u_u, am_u_eq, am_u_na, am_u_ni, ne_eq, not_true_eq_false, not_false_eq_true, forall_const, false_imp_iff, Classical.not_not, Int.reduceLE, Int.reduceLT, Int.reduceEq, Int.reduceNe, Int.reduceAdd, Int.reduceSub, Int.reduceMul, Int.reduceNeg, Int.reduceToNat, Nat.reduceAdd, Nat.reduceMul, Nat.reduceEqDiff, Nat.reduceLT, Nat.reduceLeDiff, true_imp_iff, decide_eq_true_eq, decide_eq_false_iff_not, Bool.not_eq_false, Bool.not_eq_true, Bool.not_eq_false', Bool.not_eq_true']
  exact is_out hT 5 0 f none none (by omega) ⟨hf, rfl, fun j hj => absurd hj (by omega)⟩
theorem srq_k5 {f : Nat → Int} {p : Option Value → Nat → am_I → am_P → am_G → Prop} (h : ∀ g, SOR f g → p none B (rs I a g) P G) : ∀ v B' I' P' G', srq f a B I P G (.inl v) B' I' P' G' → p v B' I' P' G' := by
  rintro v B' I' P' G' ⟨e0, rfl, rfl, rfl, g, rfl, hg⟩
  cases e0
  exact h g hg
theorem srq_k6 {f : Nat → Int} {p : Nat → Nat → am_I → am_P → am_G → Prop} : ∀ x B' I' P' G', srq f a B I P G (.inr x) B' I' P' G' → p x B' I' P' G' := by
  rintro x B' I' P' G' ⟨e0, _⟩
  cases e0
theorem and01 : iI 0 &&& iI 1 = iI 0 := by decide +kernel
theorem c_sort (hT : am_TY a = (10, 6)) {f : Nat → Int} (hf : MB f) (hd : 5 ≤ d) : am_Ev 113 0 [some (.ref a)] [] B (rs I a f) P G k s d (srq f a B I P G) := by
  simp (disch := (first | exact am_rf_ref | exact am_rf_rf | exact am_cat_int | exact am_cat_ref | exact am_cat_rf | exact am_rf_null | exact am_cat_null | omega)) only [e113_0, e113_1, e113_2, e113_3, e113_4, List.length_cons, List.length_nil, Nat.zero_add, Nat.reduceAdd, Nat.reduceLeDiff, Nat.zero_le, Option.toList_some, Option.toList_none, List.cons_append, List.nil_append, am_rf_ref, am_rf_rf, am_rf_null, am_cat_rf, am_cat_ref, am_cat_int, am_cat_null, va_rf_some, va_rf_none, true_and, and_true, true_or, or_true, am_ia10, TY9, TY10, TY11, TY12, TY13, TY14, TY15, TY16, TY17, TY18, TY19, TY20, TY21, TY22, TY23, TY24, TY25, TY26, TY27, TY28, TY29, TY30, TY31, TY32, TY33, TY34, TY35, TY36, TY37, TY38, TY39, TY40, TY41, TY42, TY43, TY100, TY106, TY107, TY108, TY109, TY110, TY111, TY112, TY113, TY114, TY115, TY116, TY117, TY118, TY119, TY120, TY124, TY125, TY126, TY127, TY128, TY129, TY131, TY132, TY133, TY134, TY135, TY136, TY137, TY138, TY139, TY140, TY141, TY142, TY143, TY144, TY145, TY146, TY147, TY150, TY154, TY155, TY160, iI_lit, iI_0, iI_1, iI_neg, iI_nI, iI_add, iI_sub, iI_mul, iI_lt, iI_le, iI_eq, iI_clamp, iI_in, nat_toNat, bI_0, bI_1, bI_okT, bI_ok, bI_ok0, bI_ok1, iM_r, iM_w, am_u_u, am_u_eq, am_u_na, am_u_ni, ne_eq, not_true_eq_false, not_false_eq_true, forall_const, false_imp_iff, Classical.not_not, Int.reduceLE, Int.reduceLT, Int.reduceEq, Int.reduceNe, Int.reduceAdd, Int.reduceSub, Int.reduceMul, Int.reduceNeg, Int.reduceToNat, Nat.reduceAdd, Nat.reduceMul, Nat.reduceEqDiff, Nat.reduceLT, Nat.reduceLeDiff, true_imp_iff, decide_eq_true_eq, decide_eq_false_iff_not, Bool.not_eq_false, Bool.not_eq_true, Bool.not_eq_false', Bool.not_eq_true', hT]
  refine k113_5 am_cat_ref _ 0 0 4 (Nat.le_of_ble_eq_true rfl) (Nat.zero_le _) (Nat.zero_le _) (by omega) ?_ (srq_k5 fun g hg => ?_) srq_k6
  · simp (disch := (first | exact am_rf_ref | exact am_rf_rf | exact am_cat_int | exact am_cat_ref | exact am_cat_rf | exact am_rf_null | exact am_cat_null | omega)) only [e114_0, e114_1, e114_2, e114_3, e114_5, e114_6, e114_7, e114_68, e114_69, e114_70, e114_71, e114_72, List.length_cons, List.length_nil, Nat.zero_add, Nat.reduceAdd, Nat.reduceLeDiff, Nat.zero_le, Option.toList_some, Option.toList_none, List.cons_append, List.nil_append, am_rf_ref, am_rf_rf, am_rf_null, am_cat_rf, am_cat_ref, am_cat_int, am_cat_null, va_rf_some, va_rf_none, true_and, and_true, true_or, or_true, am_ia10, TY9, TY10, TY11, TY12, TY13, TY14, TY15, TY16, TY17, TY18, TY19, TY20, TY21, TY22, TY23, TY24, TY25, TY26, TY27, TY28, TY29, TY30, TY31, TY32, TY33, TY34, TY35, TY36, TY37, TY38, TY39, TY40, TY41, TY42, TY43, TY100, TY106, TY107, TY108, TY109, TY110, TY111, TY112, TY113, TY114, TY115, TY116, TY117, TY118, TY119, TY120, TY124, TY125, TY126, TY127, TY128, TY129, TY131, TY132, TY133, TY134, TY135, TY136, TY137, TY138, TY139, TY140, TY141, TY142, TY143, TY144, TY145, TY146, TY147, TY150, TY154, TY155, TY160, iI_lit, iI_0, iI_1, iI_neg, iI_nI, iI_add, iI_sub, iI_mul, iI_lt, iI_le, iI_eq, iI_clamp, iI_in, nat_toNat, bI_0, bI_1, bI_okT, bI_ok, bI_ok0, bI_ok1, iM_r, iM_w, am_u_u, am_u_eq, am_u_na, am_u_ni, ne_eq, not_true_eq_false, not_false_eq_true, forall_const, false_imp_iff, Classical.not_not, Int.reduceLE, Int.reduceLT, Int.reduceEq, Int.reduceNe, Int.reduceAdd, Int.reduceSub, Int.reduceMul, Int.reduceNeg, Int.reduceToNat, Nat.reduceAdd, Nat.reduceMul, Nat.reduceEqDiff, Nat.reduceLT, Nat.reduceLeDiff, true_imp_iff, decide_eq_true_eq, decide_eq_false_iff_not, Bool.not_eq_false, Bool.not_eq_true, Bool.not_eq_false', Bool.not_eq_true']
    refine k114_73 am_cat_null am_cat_ref _ 0 0 3 (Nat.le_of_ble_eq_true rfl) (Nat.zero_le _) (Nat.zero_le _) (by omega) ?_ (srq_k5 fun g hg => ?_) srq_k6
    · simp (disch := (first | exact am_rf_ref | exact am_rf_rf | exact am_cat_int | exact am_cat_ref | exact am_cat_rf | exact am_rf_null | exact am_cat_null | omega)) only [e115_0, e115_2, e115_3, e115_4, e115_6, e115_8, e115_9, e115_10, e115_12, e115_14, e115_16, e115_17, e115_18, e115_21, e115_22, e115_23, e115_24, e115_46, e115_48, e115_50, e115_53, e115_54, e115_55, List.length_cons, List.length_nil, Nat.zero_add, Nat.reduceAdd, Nat.reduceLeDiff, Nat.zero_le, Option.toList_some, Option.toList_none, List.cons_append, List.nil_append, am_rf_ref, am_rf_rf, am_rf_null, am_cat_rf, am_cat_ref, am_cat_int, am_cat_null, va_rf_some, va_rf_none, true_and, and_true, true_or, or_true, am_ia10, TY9, TY10, TY11, TY12, TY13, TY14, TY15, TY16, TY17, TY18, TY19, TY20, TY21, TY22, TY23, TY24, TY25, TY26, TY27, TY28, TY29, TY30, TY31, TY32, TY33, TY34, TY35, TY36, TY37, TY38, TY39, TY40, TY41, TY42, TY43, TY100, TY106, TY107, TY108, TY109, TY110, TY111, TY112, TY113, TY114, TY115, TY116, TY117, TY118, TY119, TY120, TY124, TY125, TY126, TY127, TY128, TY129, TY131, TY132, TY133, TY134, TY135, TY136, TY137, TY138, TY139, TY140, TY141, TY142, TY143, TY144, TY145, TY146, TY147, TY150, TY154, TY155, TY160, iI_lit, iI_0, iI_1, iI_neg, iI_nI, iI_add, iI_sub, iI_mul, iI_lt, iI_le, iI_eq, iI_clamp, iI_in, nat_toNat, bI_0, bI_1, bI_okT, bI_ok, bI_ok0, bI_ok1, iM_r, iM_w, am_u_u, am_u_eq, am_u_na, am_u_ni, ne_eq, not_true_eq_false, not_false_eq_true, forall_const, false_imp_iff, Classical.not_not, Int.reduceLE, Int.reduceLT, Int.reduceEq, Int.reduceNe, Int.reduceAdd, Int.reduceSub, Int.reduceMul, Int.reduceNeg, Int.reduceToNat, Nat.reduceAdd, Nat.reduceMul, Nat.reduceEqDiff, Nat.reduceLT, Nat.reduceLeDiff, true_imp_iff, decide_eq_true_eq, decide_eq_false_iff_not, Bool.not_eq_false, Bool.not_eq_true, Bool.not_eq_false', Bool.not_eq_true', and01]
      refine k115_57 am_cat_ref _ 0 0 2 (Nat.le_of_ble_eq_true rfl) (Nat.zero_le _) (Nat.zero_le _) (by omega) (c_is hT hf) (srq_k5 fun g hg => ?_) srq_k6
      simp (disch := (first | exact am_rf_ref | exact am_rf_rf | exact am_cat_int | exact am_cat_ref | exact am_cat_rf | exact am_rf_null | exact am_cat_null | omega)) only [e115_60, List.length_cons, List.length_nil, Nat.zero_add, Nat.reduceAdd, Nat.reduceLeDiff, Nat.zero_le, Option.toList_some, Option.toList_none, List.cons_append, List.nil_append, am_rf_ref, am_rf_rf, am_rf_null, am_cat_rf, am_cat_ref, am_cat_int, am_cat_null, va_rf_some, va_rf_none, true_and, and_true, true_or, or_true, am_ia10, TY9, TY10, TY11, TY12, TY13, TY14, TY15, TY16, TY17, TY18, TY19, TY20, TY21, TY22, TY23, TY24, TY25, TY26, TY27, TY28, TY29, TY30, TY31, TY32, TY33, TY34, TY35, TY36, TY37, TY38, TY39, TY40, TY41, TY42, TY43, TY100, TY106, TY107, TY108, TY109, TY110, TY111, TY112, TY113, TY114, TY115, TY116, TY117, TY118, TY119, TY120, TY124, TY125, TY126, TY127, TY128, TY129, TY131, TY132, TY133, TY134, TY135, TY136, TY137, TY138, TY139, TY140, TY141, TY142, TY143, TY144, TY145, TY146, TY147, TY150, TY154, TY155, TY160]
      exact ⟨rfl, rfl, rfl, rfl, g, rfl, hg⟩
    · simp (disch := (first | exact am_rf_ref | exact am_rf_rf | exact am_cat_int | exact am_cat_ref | exact am_cat_rf | exact am_rf_null | exact am_cat_null | omega)) only [e114_76, List.length_cons, List.length_nil, Nat.zero_add, Nat.reduceAdd, Nat.reduceLeDiff, Nat.zero_le, Option.toList_some, Option.toList_none, List.cons_append, List.nil_append, am_rf_ref, am_rf_rf, am_rf_null, am_cat_rf, am_cat_ref, am_cat_int, am_cat_null, va_rf_some, va_rf_none, true_and, and_true, true_or, or_true, am_ia10, TY9, TY10, TY11, TY12, TY13, TY14, TY15, TY16, TY17, TY18, TY19, TY20, TY21, TY22, TY23, TY24, TY25, TY26, TY27, TY28, TY29, TY30, TY31, TY32, TY33, TY34, TY35, TY36, TY37, TY38, TY39, TY40, TY41, TY42, TY43, TY100, TY106, TY107, TY108, TY109, TY110, TY111, TY112, TY113, TY114, TY115, TY116, TY117, TY118, TY119, TY120, TY124, TY125, TY126, TY127, TY128, TY129, TY131, TY132, TY133, TY134, TY135, TY136, TY137, TY138, TY139, TY140, TY141, TY142, TY143, TY144, TY145, TY146, TY147, TY150, TY154, TY155, TY160]
      exact ⟨rfl, rfl, rfl, rfl, g, rfl, hg⟩
  · simp (disch := (first | exact am_rf_ref | exact am_rf_rf | exact am_cat_int | exact am_cat_ref | exact am_cat_rf | exact am_rf_null | exact am_cat_null | omega)) only [e113_8, List.length_cons, List.length_nil, Nat.zero_add, Nat.reduceAdd, Nat.reduceLeDiff, Nat.zero_le, Option.toList_some, Option.toList_none, List.cons_append, List.nil_append, am_rf_ref, am_rf_rf, am_rf_null, am_cat_rf, am_cat_ref, am_cat_int, am_cat_null, va_rf_some, va_rf_none, true_and, and_true, true_or, or_true, am_ia10, TY9, TY10, TY11, TY12, TY13, TY14, TY15, TY16, TY17, TY18, TY19, TY20, TY21, TY22, TY23, TY24, TY25, TY26, TY27, TY28, TY29, TY30, TY31, TY32, TY33, TY34, TY35, TY36, TY37, TY38, TY39, TY40, TY41, TY42, TY43, TY100, TY106, TY107, TY108, TY109, TY110, TY111, TY112, TY113, TY114, TY115, TY116, TY117, TY118, TY119, TY120, TY124, TY125, TY126, TY127, TY128, TY129, TY131, TY132, TY133, TY134, TY135, TY136, TY137, TY138, TY139, TY140, TY141, TY142, TY143, TY144, TY145, TY146, TY147, TY150, TY154, TY155, TY160]
    exact ⟨rfl, rfl, rfl, rfl, g, rfl, hg⟩
end
