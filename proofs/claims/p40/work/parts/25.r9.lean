/-! THE CLASS: fact -/
theorem tyq_f (q e j : Nat) (hq : 1 ≤ q) (he : e < 5) (hj : j < 10) : am_TY (4096 * q + (200 + 10 * e + j)) = (1, 10) := by
  rw [tyq _ _ hq (by omega)]
  unfold am_tl; rw [if_neg (by omega), if_neg (by omega), if_neg (by omega), if_neg (by omega), if_neg (by omega), if_neg (by omega), if_pos (by omega)]
theorem tyq_y (q e j : Nat) (hq : 1 ≤ q) (he : e < 5) (hj : j < 10) : am_TY (4096 * q + (300 + 10 * e + j)) = (10, 3) := by
  rw [tyq _ _ hq (by omega)]
  unfold am_tl; rw [if_neg (by omega), if_neg (by omega), if_neg (by omega), if_neg (by omega), if_neg (by omega), if_neg (by omega), if_neg (by omega), if_pos (by omega)]
section
variable {st : List Value} {B : Nat} {I C : am_I} {P : am_P} {G : am_G} {k s d : Nat} {Q : am_Q} {M : Nat → Nat → Int} {K : Int} {sh : Nat → Nat → Nat} {se : Nat → Nat → Nat → Nat}
/-- a film with a fact more -/
theorem FM_new {M M' : Nat → Nat → Int} {I I' : am_I} {P P' : am_P} {B B' : Nat} {j r y : Nat} (hB : 161 ≤ B) (h : FM M sh I P B) (hj : j < 10) (h110 : M' 110 j = 1) (hM : ∀ q i, (q = 100 → i = 1 ∨ i = 4) → (q = 100 ∨ (106 ≤ q ∧ q ≤ 120)) → ¬ ((110 ≤ q ∧ q ≤ 119) ∧ i = j) → M' q i = M q i)
    (hI : ∀ a i, a < B → a ≠ 35 → a ≠ 16 → I' a i = I a i) (hP : ∀ a i, a < B → ¬ (a = 14 ∧ i = j) → P' a i = P a i) (hr : P' 14 j = some r) (hfl : FL 0 j r y B') (hc : FC M' j r y I' P') (hBB : B ≤ B') (hvs : ∀ i, i < 10 → M 119 i ≤ 3) : FM M' (am_u (am_u sh 2 j r) 3 j y) I' P' B' := by
  have hcap := fm_cap h
  have hl := fm_l h
  have e0 : (am_u (am_u sh 2 j r) 3 j y) 0 0 = sh 0 0 := by rw [am_u_na _ _ _ _ (by omega), am_u_na _ _ _ _ (by omega)]
  have e1 : ∀ k, (am_u (am_u sh 2 j r) 3 j y) 1 k = sh 1 k := fun k => by rw [am_u_na _ _ _ _ (by omega), am_u_na _ _ _ _ (by omega)]
  have e2 : ∀ k, k ≠ j → (am_u (am_u sh 2 j r) 3 j y) 2 k = sh 2 k := fun k hk => by rw [am_u_na _ _ _ _ (by omega), am_u_ni _ _ _ _ hk]
  have e2j : (am_u (am_u sh 2 j r) 3 j y) 2 j = r := by rw [am_u_na _ _ _ _ (by omega), am_u_eq]
  have e3 : ∀ k, k ≠ j → (am_u (am_u sh 2 j r) 3 j y) 3 k = sh 3 k := fun k hk => by rw [am_u_ni _ _ _ _ hk, am_u_na _ _ _ _ (by omega)]
  have e3j : (am_u (am_u sh 2 j r) 3 j y) 3 j = y := am_u_eq _ _ _ _
  have h4 := hM 100 4 (by omega) (by omega) (by omega)
  have hsb : sh 0 0 < B := by rcases hl.2.2.2.1 with q | q <;> omega
  refine ⟨?_, ⟨?_, ?_, ?_⟩, ⟨⟨?_, ?_, ?_, ?_, fun k hk => ?_⟩, ?_⟩, fun k hk => ?_, fun i hi => ?_, fun i hi w => ?_, fun i hi w => ?_⟩
  · rw [hI 11 _ (by omega) (by omega) (by omega), hM _ _ (by omega) (by omega) (by omega)]; exact fm_tk h
  · rw [hP 11 _ (by omega) (by omega)]; exact fm_1 h
  · rw [hP 11 _ (by omega) (by omega)]; exact fm_2 h
  · rw [hP 11 _ (by omega) (by omega)]; exact fm_3 h
  · rw [hP 12 _ (by omega) (by omega), e0]; exact hl.1
  · rw [hI 12 _ (by omega) (by omega) (by omega), h4]; exact hl.2.1
  · rw [h4]; exact hl.2.2.1
  · rw [h4, e0]
    rcases hl.2.2.2.1 with q | q
    · exact Or.inl q
    · exact Or.inr ⟨q.1, q.2.1, q.2.2.1, q.2.2.2.1, q.2.2.2.2.1, by omega⟩
  · rw [h4] at hk; rw [e0, e1, hP _ _ hsb (by rcases hcap with w | w <;> omega)]; exact hl.2.2.2.2 k hk
  · rw [e0]; exact hcap
  · rw [h4] at hk
    obtain ⟨q1, q4, q5, q6⟩ := fm_s h k hk
    rw [e1, hI _ _ q6 (by omega) (by omega), hI _ _ q6 (by omega) (by omega), hI _ _ q6 (by omega) (by omega), hM 106 k (by omega) (by omega) (by omega), hM 107 k (by omega) (by omega) (by omega), hM 108 k (by omega) (by omega) (by omega)]
    exact ⟨q1, q4, q5, by omega⟩
  · rw [hI 13 _ (by omega) (by omega) (by omega), hM 109 i (by omega) (by omega) (by omega)]; exact fm_n h i hi
  · by_cases hij : i = j
    · subst hij; omega
    · rw [hM 110 i (by omega) (by omega) (by omega)] at w
      rw [hP 14 _ (by omega) (by omega)]; exact fm_f0 h i hi w
  · by_cases hij : i = j
    · subst hij; rw [e2j, e3j]; exact ⟨hr, hfl, hc⟩
    · rw [hM 110 i (by omega) (by omega) (by omega)] at w
      obtain ⟨q1, q2, q3⟩ := fm_f1 h i hi w
      unfold FL at q2
      rw [hP 14 _ (by omega) (by omega), e2 i hij, e3 i hij]
      refine ⟨q1, ⟨⟨q2.1.1, q2.1.2.1, by omega⟩, q2.2.1, q2.2.2.1, by omega⟩, ?_⟩
      unfold FC at q3 ⊢
      rw [hM 111 i (by omega) (by omega) (by omega), hM 112 i (by omega) (by omega) (by omega), hM 113 i (by omega) (by omega) (by omega), hM 114 i (by omega) (by omega) (by omega), hM 115 i (by omega) (by omega) (by omega), hM 116 i (by omega) (by omega) (by omega), hM 117 i (by omega) (by omega) (by omega), hM 118 i (by omega) (by omega) (by omega), hM 119 i (by omega) (by omega) (by omega)]
      rw [hI _ _ q2.1.2.2 (by omega) (by omega), hI _ _ q2.1.2.2 (by omega) (by omega), hI _ _ q2.1.2.2 (by omega) (by omega), hI _ _ q2.1.2.2 (by omega) (by omega), hI _ _ q2.1.2.2 (by omega) (by omega), hI _ _ q2.1.2.2 (by omega) (by omega), hI _ _ q2.1.2.2 (by omega) (by omega), hI _ _ q2.1.2.2 (by omega) (by omega), hI _ _ q2.1.2.2 (by omega) (by omega), hP _ _ q2.1.2.2 (by omega)]
      exact ⟨q3.1, q3.2.1, fun v hv => by rw [hI _ _ q2.2.2.2 (by omega) (by omega), hM 120 _ (by omega) (by omega) (by omega)]; exact q3.2.2 v hv⟩
theorem f76 (hW : WFi K M) (h : RC K M sh se I P B) (hk : 100 ≤ k) (hs : 1000 ≤ s) (hd : 10 ≤ d) {a b w e o : Int} (ha : -2147483648 ≤ a ∧ a ≤ 2147483647) (hb : -2147483648 ≤ b ∧ b ≤ 2147483647) (hw : -2147483648 ≤ w ∧ w ≤ 2147483647) (he : -2147483648 ≤ e ∧ e ≤ 2147483647) (ho : o = 0 ∨ o = 1) :
    am_Ev 76 0 [some (.ref 10), some (.int (iI a)), some (.int (iI b)), some (.int (iI w)), some (.int (iI e)), some (.int (iI o)), none] [] B I P G k s d (cq K (fun M' => M' = (d_fact M a b w e o).1) (oc 0 1 0 (d_fact M a b w e o)) I P G) := by
  have hk1 := wf_tk hW
  have hp := rc_p h
  have hf := rc_f h
  have hB := rc_b h
  have hfc := fcn_bd M 10
  by_cases hg : (0 ≤ a ∧ a ≤ b - 1) ∧ b ≤ M 100 1 ∧ (1 ≤ w ∧ w ≤ 99) ∧ 0 ≤ e ∧ e ≤ 60
  · simp (disch := (first | exact am_rf_ref | exact am_rf_rf | exact am_cat_int | exact am_cat_ref | exact am_cat_rf | exact am_rf_null | exact am_cat_null | omega)) only [e76_0, e76_1, e76_2, e76_5, e76_6, e76_8, e76_11, e76_13, e76_16, e76_18, e76_20, e76_23, e76_26, e76_33, e76_34, e76_37, e76_38, e76_39, e76_42, e76_43, e76_44, e76_47, e76_50, e76_53, e76_56, e76_63, e76_64, List.length_cons, List.length_nil, Nat.zero_add, Nat.reduceAdd, Nat.reduceLeDiff, Nat.zero_le, Option.toList_some, Option.toList_none, List.cons_append, List.nil_append, am_rf_ref, am_rf_rf, am_rf_null, am_cat_rf, am_cat_ref, am_cat_int, am_cat_null, va_rf_some, va_rf_none, true_and, and_true, true_or, or_true, am_ia10, TY9, TY10, TY11, TY12, TY13, TY14, TY15, TY16, TY17, TY18, TY19, TY20, TY21, TY22, TY23, TY24, TY25, TY26, TY27, TY28, TY29, TY30, TY31, TY32, TY33, TY34, TY35, TY36, TY37, TY38, TY39, TY40, TY41, TY42, TY43, TY100, TY106, TY107, TY108, TY109, TY110, TY111, TY112, TY113, TY114, TY115, TY116, TY117, TY118, TY119, TY120, TY124, TY125, TY126, TY127, TY128, TY129, TY131, TY132, TY133, TY134, TY135, TY136, TY137, TY138, TY139, TY140, TY141, TY142, TY143, TY144, TY145, TY146, TY147, TY150, TY154, TY155, TY160, iI_lit, iI_0, iI_1, iI_neg, iI_nI, iI_add, iI_sub, iI_mul, iI_lt, iI_le, iI_eq, iI_clamp, iI_in, nat_toNat, bI_0, bI_1, bI_okT, bI_ok, bI_ok0, bI_ok1, iM_r, iM_w, am_u_u, am_u_eq, am_u_na, am_u_ni, ne_eq, not_true_eq_false, not_false_eq_true, forall_const, false_imp_iff, Classical.not_not, Int.reduceLE, Int.reduceLT, Int.reduceEq, Int.reduceNe, Int.reduceAdd, Int.reduceSub, Int.reduceMul, Int.reduceNeg, Int.reduceToNat, Nat.reduceAdd, Nat.reduceMul, Nat.reduceEqDiff, Nat.reduceLT, Nat.reduceLeDiff, true_imp_iff, decide_eq_true_eq, decide_eq_false_iff_not, Bool.not_eq_false, Bool.not_eq_true, Bool.not_eq_false', Bool.not_eq_true', cp_0 hp, fm_tk hf]
    refine ⟨fun _ => by omega, fun _ => ⟨fun _ => by omega, fun _ => ⟨fun _ => by omega, fun _ => ⟨fun _ => ⟨fun _ => by omega, fun _ => ⟨fun _ => by omega, fun _ => ⟨fun _ => ?_, fun _ => by omega⟩⟩⟩, fun _ => by omega⟩⟩⟩⟩
    refine k76_67 _ 0 0 0 ty11 (Nat.le_of_ble_eq_true rfl) (Nat.zero_le _) (Nat.zero_le _) (by omega) (c12 hW hf) (am_k5 ?_) am_k6
    by_cases hfu : fcn M 10 = 10
    · rw [if_pos hfu]
      simp (disch := (first | exact am_rf_ref | exact am_rf_rf | exact am_cat_int | exact am_cat_ref | exact am_cat_rf | exact am_rf_null | exact am_cat_null | omega)) only [e76_70, e76_72, e76_74, e76_77, e76_79, e76_80, e76_83, e76_86, e76_87, e76_90, List.length_cons, List.length_nil, Nat.zero_add, Nat.reduceAdd, Nat.reduceLeDiff, Nat.zero_le, Option.toList_some, Option.toList_none, List.cons_append, List.nil_append, am_rf_ref, am_rf_rf, am_rf_null, am_cat_rf, am_cat_ref, am_cat_int, am_cat_null, va_rf_some, va_rf_none, true_and, and_true, true_or, or_true, am_ia10, TY9, TY10, TY11, TY12, TY13, TY14, TY15, TY16, TY17, TY18, TY19, TY20, TY21, TY22, TY23, TY24, TY25, TY26, TY27, TY28, TY29, TY30, TY31, TY32, TY33, TY34, TY35, TY36, TY37, TY38, TY39, TY40, TY41, TY42, TY43, TY100, TY106, TY107, TY108, TY109, TY110, TY111, TY112, TY113, TY114, TY115, TY116, TY117, TY118, TY119, TY120, TY124, TY125, TY126, TY127, TY128, TY129, TY131, TY132, TY133, TY134, TY135, TY136, TY137, TY138, TY139, TY140, TY141, TY142, TY143, TY144, TY145, TY146, TY147, TY150, TY154, TY155, TY160, iI_lit, iI_0, iI_1, iI_neg, iI_nI, iI_add, iI_sub, iI_mul, iI_lt, iI_le, iI_eq, iI_clamp, iI_in, nat_toNat, bI_0, bI_1, bI_okT, bI_ok, bI_ok0, bI_ok1, iM_r, iM_w, am_u_u, am_u_eq, am_u_na, am_u_ni, ne_eq, not_true_eq_false, not_false_eq_true, forall_const, false_imp_iff, Classical.not_not, Int.reduceLE, Int.reduceLT, Int.reduceEq, Int.reduceNe, Int.reduceAdd, Int.reduceSub, Int.reduceMul, Int.reduceNeg, Int.reduceToNat, Nat.reduceAdd, Nat.reduceMul, Nat.reduceEqDiff, Nat.reduceLT, Nat.reduceLeDiff, true_imp_iff, decide_eq_true_eq, decide_eq_false_iff_not, Bool.not_eq_false, Bool.not_eq_true, Bool.not_eq_false', Bool.not_eq_true']
      exact ⟨by omega, by omega, cq_no h (by unfold d_fact; rw [if_neg (not_not_intro hg), if_pos hfu]; rfl) (Or.inr (Or.inl ⟨rfl, rfl⟩))⟩
    · rw [if_neg hfu]
      obtain ⟨h7, h8, h9⟩ := ffd_fr hfu
      have hd0 : d_fact M a b w e o = (dch (am_u (am_u (am_u (am_u (am_u (am_u (am_u (am_u (am_u (am_u (am_u M 100 0 0) 110 (ffd M 10 0) 1) 111 (ffd M 10 0) a) 112 (ffd M 10 0) b) 113 (ffd M 10 0) w) 114 (ffd M 10 0) e) 115 (ffd M 10 0) o) 116 (ffd M 10 0) 0) 117 (ffd M 10 0) 0) 118 (ffd M 10 0) 0) 119 (ffd M 10 0) 0), ((ffd M 10 0 : Nat) : Int)) := by unfold d_fact; rw [if_neg (not_not_intro hg), if_neg hfu]
      generalize ffd M 10 0 = j at *
      have eM : ∀ r i, (r = 100 → i ≠ 0 ∧ i ≠ 20) → ¬ ((110 ≤ r ∧ r ≤ 119) ∧ i = j) → (d_fact M a b w e o).1 r i = M r i := fun r i q q' => by
        rw [hd0]; show am_u (am_u (am_u (am_u (am_u (am_u (am_u (am_u (am_u (am_u (am_u (am_u M 100 0 0) 110 j 1) 111 j a) 112 j b) 113 j w) 114 j e) 115 j o) 116 j 0) 117 j 0) 118 j 0) 119 j 0) 100 20 0 r i = M r i
        unfold am_u; rw [if_neg (by omega), if_neg (by omega), if_neg (by omega), if_neg (by omega), if_neg (by omega), if_neg (by omega), if_neg (by omega), if_neg (by omega), if_neg (by omega), if_neg (by omega), if_neg (by omega), if_neg (by omega)]
      have eF : (d_fact M a b w e o).1 110 j = 1 ∧ (d_fact M a b w e o).1 111 j = a ∧ (d_fact M a b w e o).1 112 j = b ∧ (d_fact M a b w e o).1 113 j = w ∧ (d_fact M a b w e o).1 114 j = e ∧ (d_fact M a b w e o).1 115 j = o ∧ (d_fact M a b w e o).1 116 j = 0 ∧ (d_fact M a b w e o).1 117 j = 0 ∧ (d_fact M a b w e o).1 118 j = 0 ∧ (d_fact M a b w e o).1 119 j = 0 := by
        rw [hd0]; unfold dch am_u; simp
      simp (disch := (first | exact am_rf_ref | exact am_rf_rf | exact am_cat_int | exact am_cat_ref | exact am_cat_rf | exact am_rf_null | exact am_cat_null | omega)) only [e76_70, e76_72, e76_74, e76_77, e76_79, e76_80, e76_83, e76_86, e76_87, e76_90, e76_93, e76_100, e76_101, e76_104, e76_107, e76_109, List.length_cons, List.length_nil, Nat.zero_add, Nat.reduceAdd, Nat.reduceLeDiff, Nat.zero_le, Option.toList_some, Option.toList_none, List.cons_append, List.nil_append, am_rf_ref, am_rf_rf, am_rf_null, am_cat_rf, am_cat_ref, am_cat_int, am_cat_null, va_rf_some, va_rf_none, true_and, and_true, true_or, or_true, am_ia10, TY9, TY10, TY11, TY12, TY13, TY14, TY15, TY16, TY17, TY18, TY19, TY20, TY21, TY22, TY23, TY24, TY25, TY26, TY27, TY28, TY29, TY30, TY31, TY32, TY33, TY34, TY35, TY36, TY37, TY38, TY39, TY40, TY41, TY42, TY43, TY100, TY106, TY107, TY108, TY109, TY110, TY111, TY112, TY113, TY114, TY115, TY116, TY117, TY118, TY119, TY120, TY124, TY125, TY126, TY127, TY128, TY129, TY131, TY132, TY133, TY134, TY135, TY136, TY137, TY138, TY139, TY140, TY141, TY142, TY143, TY144, TY145, TY146, TY147, TY150, TY154, TY155, TY160, iI_lit, iI_0, iI_1, iI_neg, iI_nI, iI_add, iI_sub, iI_mul, iI_lt, iI_le, iI_eq, iI_clamp, iI_in, nat_toNat, bI_0, bI_1, bI_okT, bI_ok, bI_ok0, bI_ok1, iM_r, iM_w, am_u_u, am_u_eq, am_u_na, am_u_ni, ne_eq, not_true_eq_false, not_false_eq_true, forall_const, false_imp_iff, Classical.not_not, Int.reduceLE, Int.reduceLT, Int.reduceEq, Int.reduceNe, Int.reduceAdd, Int.reduceSub, Int.reduceMul, Int.reduceNeg, Int.reduceToNat, Nat.reduceAdd, Nat.reduceMul, Nat.reduceEqDiff, Nat.reduceLT, Nat.reduceLeDiff, true_imp_iff, decide_eq_true_eq, decide_eq_false_iff_not, Bool.not_eq_false, Bool.not_eq_true, Bool.not_eq_false', Bool.not_eq_true', cp_0 hp, fm_3 hf]
      have hty := tyq_f (B + 1) 0 j (by omega) (by omega) h8
      have hty2 := tyq_y (B + 1) 0 j (by omega) (by omega) h8
      have hty3 : (am_TY (4096 * (B + 1) + (200 + 10 * 0 + j))).1 = 1 := by rw [hty]
      refine ⟨fun _ => by omega, fun _ => ⟨fun _ => ⟨by omega, 4096 * (B + 1) + (200 + 10 * 0 + j), by omega, by omega, hty3, by rw [hty]; omega, ?_⟩, fun _ => by omega⟩⟩
      rw [show (am_TY (4096 * (B + 1) + (200 + 10 * 0 + j))).2 = 10 by rw [hty]]
      obtain ⟨r, hr⟩ : ∃ r, r = 4096 * (B + 1) + (200 + 10 * 0 + j) := ⟨_, rfl⟩
      obtain ⟨y, hy⟩ : ∃ y, y = 4096 * (B + 1) + (300 + 10 * 0 + j) := ⟨_, rfl⟩
      rw [← hr] at hty hty3 ⊢
      rw [← hy] at hty2
      simp (disch := (first | exact am_rf_ref | exact am_rf_rf | exact am_cat_int | exact am_cat_ref | exact am_cat_rf | exact am_rf_null | exact am_cat_null | omega)) only [e76_112, e76_113, e76_114, e76_115, e76_116, e76_118, List.length_cons, List.length_nil, Nat.zero_add, Nat.reduceAdd, Nat.reduceLeDiff, Nat.zero_le, Option.toList_some, Option.toList_none, List.cons_append, List.nil_append, am_rf_ref, am_rf_rf, am_rf_null, am_cat_rf, am_cat_ref, am_cat_int, am_cat_null, va_rf_some, va_rf_none, true_and, and_true, true_or, or_true, am_ia10, TY9, TY10, TY11, TY12, TY13, TY14, TY15, TY16, TY17, TY18, TY19, TY20, TY21, TY22, TY23, TY24, TY25, TY26, TY27, TY28, TY29, TY30, TY31, TY32, TY33, TY34, TY35, TY36, TY37, TY38, TY39, TY40, TY41, TY42, TY43, TY100, TY106, TY107, TY108, TY109, TY110, TY111, TY112, TY113, TY114, TY115, TY116, TY117, TY118, TY119, TY120, TY124, TY125, TY126, TY127, TY128, TY129, TY131, TY132, TY133, TY134, TY135, TY136, TY137, TY138, TY139, TY140, TY141, TY142, TY143, TY144, TY145, TY146, TY147, TY150, TY154, TY155, TY160, iI_lit, iI_0, iI_1, iI_neg, iI_nI, iI_add, iI_sub, iI_mul, iI_lt, iI_le, iI_eq, iI_clamp, iI_in, nat_toNat, bI_0, bI_1, bI_okT, bI_ok, bI_ok0, bI_ok1, iM_r, iM_w, am_u_u, am_u_eq, am_u_na, am_u_ni, ne_eq, not_true_eq_false, not_false_eq_true, forall_const, false_imp_iff, Classical.not_not, Int.reduceLE, Int.reduceLT, Int.reduceEq, Int.reduceNe, Int.reduceAdd, Int.reduceSub, Int.reduceMul, Int.reduceNeg, Int.reduceToNat, Nat.reduceAdd, Nat.reduceMul, Nat.reduceEqDiff, Nat.reduceLT, Nat.reduceLeDiff, true_imp_iff, decide_eq_true_eq, decide_eq_false_iff_not, Bool.not_eq_false, Bool.not_eq_true, Bool.not_eq_false', Bool.not_eq_true']
      refine k76_120 _ 1 3 0 (Nat.le_of_ble_eq_true rfl) (by omega) (by omega) (by omega) (c0 (y := y) hty hty2 ⟨by omega, by omega⟩ (by omega) ho (by omega) (by omega)) (am_k5 ?_) am_k6
      simp (disch := (first | exact am_rf_ref | exact am_rf_rf | exact am_cat_int | exact am_cat_ref | exact am_cat_rf | exact am_rf_null | exact am_cat_null | omega)) only [e76_123, e76_123r, e76_123n, e76_124, List.length_cons, List.length_nil, Nat.zero_add, Nat.reduceAdd, Nat.reduceLeDiff, Nat.zero_le, Option.toList_some, Option.toList_none, List.cons_append, List.nil_append, am_rf_ref, am_rf_rf, am_rf_null, am_cat_rf, am_cat_ref, am_cat_int, am_cat_null, va_rf_some, va_rf_none, true_and, and_true, true_or, or_true, am_ia10, TY9, TY10, TY11, TY12, TY13, TY14, TY15, TY16, TY17, TY18, TY19, TY20, TY21, TY22, TY23, TY24, TY25, TY26, TY27, TY28, TY29, TY30, TY31, TY32, TY33, TY34, TY35, TY36, TY37, TY38, TY39, TY40, TY41, TY42, TY43, TY100, TY106, TY107, TY108, TY109, TY110, TY111, TY112, TY113, TY114, TY115, TY116, TY117, TY118, TY119, TY120, TY124, TY125, TY126, TY127, TY128, TY129, TY131, TY132, TY133, TY134, TY135, TY136, TY137, TY138, TY139, TY140, TY141, TY142, TY143, TY144, TY145, TY146, TY147, TY150, TY154, TY155, TY160, iI_lit, iI_0, iI_1, iI_neg, iI_nI, iI_add, iI_sub, iI_mul, iI_lt, iI_le, iI_eq, iI_clamp, iI_in, nat_toNat, bI_0, bI_1, bI_okT, bI_ok, bI_ok0, bI_ok1, iM_r, iM_w, am_u_u, am_u_eq, am_u_na, am_u_ni, ne_eq, not_true_eq_false, not_false_eq_true, forall_const, false_imp_iff, Classical.not_not, Int.reduceLE, Int.reduceLT, Int.reduceEq, Int.reduceNe, Int.reduceAdd, Int.reduceSub, Int.reduceMul, Int.reduceNeg, Int.reduceToNat, Nat.reduceAdd, Nat.reduceMul, Nat.reduceEqDiff, Nat.reduceLT, Nat.reduceLeDiff, true_imp_iff, decide_eq_true_eq, decide_eq_false_iff_not, Bool.not_eq_false, Bool.not_eq_true, Bool.not_eq_false', Bool.not_eq_true']
      refine ⟨fun z hz => (by cases hz; rw [hty3]; rfl), ?_⟩
      have hcp : CP (am_u (am_u (am_c (am_c P r none) y none) r 9 (some y)) 14 j (some r)) := CP_cg hp (fun q i hq => by rw [am_u_na _ _ _ _ (by omega), am_u_na _ _ _ _ (by omega), am_c_na _ _ _ (by omega), am_c_na _ _ _ (by omega)])
      refine k76_125 _ 0 0 0 ty10 (Nat.le_of_ble_eq_true rfl) (Nat.zero_le _) (Nat.zero_le _) (by omega) (c110 hcp) (am_k5 ?_) am_k6
      simp (disch := (first | exact am_rf_ref | exact am_rf_rf | exact am_cat_int | exact am_cat_ref | exact am_cat_rf | exact am_rf_null | exact am_cat_null | omega)) only [e76_128, e76_130, List.length_cons, List.length_nil, Nat.zero_add, Nat.reduceAdd, Nat.reduceLeDiff, Nat.zero_le, Option.toList_some, Option.toList_none, List.cons_append, List.nil_append, am_rf_ref, am_rf_rf, am_rf_null, am_cat_rf, am_cat_ref, am_cat_int, am_cat_null, va_rf_some, va_rf_none, true_and, and_true, true_or, or_true, am_ia10, TY9, TY10, TY11, TY12, TY13, TY14, TY15, TY16, TY17, TY18, TY19, TY20, TY21, TY22, TY23, TY24, TY25, TY26, TY27, TY28, TY29, TY30, TY31, TY32, TY33, TY34, TY35, TY36, TY37, TY38, TY39, TY40, TY41, TY42, TY43, TY100, TY106, TY107, TY108, TY109, TY110, TY111, TY112, TY113, TY114, TY115, TY116, TY117, TY118, TY119, TY120, TY124, TY125, TY126, TY127, TY128, TY129, TY131, TY132, TY133, TY134, TY135, TY136, TY137, TY138, TY139, TY140, TY141, TY142, TY143, TY144, TY145, TY146, TY147, TY150, TY154, TY155, TY160, iI_lit, iI_0, iI_1, iI_neg, iI_nI, iI_add, iI_sub, iI_mul, iI_lt, iI_le, iI_eq, iI_clamp, iI_in, nat_toNat, bI_0, bI_1, bI_okT, bI_ok, bI_ok0, bI_ok1, iM_r, iM_w, am_u_u, am_u_eq, am_u_na, am_u_ni, ne_eq, not_true_eq_false, not_false_eq_true, forall_const, false_imp_iff, Classical.not_not, Int.reduceLE, Int.reduceLT, Int.reduceEq, Int.reduceNe, Int.reduceAdd, Int.reduceSub, Int.reduceMul, Int.reduceNeg, Int.reduceToNat, Nat.reduceAdd, Nat.reduceMul, Nat.reduceEqDiff, Nat.reduceLT, Nat.reduceLeDiff, true_imp_iff, decide_eq_true_eq, decide_eq_false_iff_not, Bool.not_eq_false, Bool.not_eq_true, Bool.not_eq_false', Bool.not_eq_true']
      have eI : ∀ q i, q ≠ r → q ≠ y → q ≠ 35 → q ≠ 16 → fgt (am_u (am_u (am_u (am_u (am_u (am_c (am_u (am_u (am_c I r (iI 0)) r 5 (iI (-1))) r 6 (iI (-1))) y (iI 0)) r 0 (iI a)) r 1 (iI b)) r 2 (iI w)) r 3 (iI e)) r 4 (iI o)) q i = I q i := fun q i q1 q2 q3 q4 => by
        rw [fgt_o _ _ ⟨q3, q4⟩, am_u_na _ _ _ _ q1, am_u_na _ _ _ _ q1, am_u_na _ _ _ _ q1, am_u_na _ _ _ _ q1, am_u_na _ _ _ _ q1, am_c_na _ _ _ q2, am_u_na _ _ _ _ q1, am_u_na _ _ _ _ q1, am_c_na _ _ _ q1]
      have eP : ∀ q i, q ≠ r → q ≠ y → ¬ (q = 14 ∧ i = j) → am_u (am_u (am_c (am_c P r none) y none) r 9 (some y)) 14 j (some r) q i = P q i := fun q i q1 q2 q3 => by
        rw [show am_u (am_u (am_c (am_c P r none) y none) r 9 (some y)) 14 j (some r) q i = am_u (am_c (am_c P r none) y none) r 9 (some y) q i from if_neg q3, am_u_na _ _ _ _ q1, am_c_na _ _ _ q2, am_c_na _ _ _ q1]
      have hF : FM (d_fact M a b w e o).1 (am_u (am_u sh 2 j r) 3 j y) (fgt (am_u (am_u (am_u (am_u (am_u (am_c (am_u (am_u (am_c I r (iI 0)) r 5 (iI (-1))) r 6 (iI (-1))) y (iI 0)) r 0 (iI a)) r 1 (iI b)) r 2 (iI w)) r 3 (iI e)) r 4 (iI o))) (am_u (am_u (am_c (am_c P r none) y none) r 9 (some y)) 14 j (some r)) (y + 1) := by
        refine FM_new hB hf h8 eF.1 (fun q i q1 q2 q3 => eM q i (by omega) q3) (fun q i q1 q2 q3 => eI q i (by omega) (by omega) q2 q3) (fun q i q1 q2 => eP q i (by omega) (by omega) q2) (am_u_eq _ _ _ _) ⟨⟨by omega, by omega, by omega⟩, by omega, by omega, by omega⟩ ?_ (by omega) (fun i hi => (wf_vs hW i hi).2)
        obtain ⟨f1, f2, f3, f4, f5, f6, f7, f8, f9, f10⟩ := eF
        unfold FC
        rw [f2, f3, f4, f5, f6, f7, f8, f9, f10]
        have hne : r ≠ y := by omega
        simp only [fgt_o _ _ (show r ≠ 35 ∧ r ≠ 16 by omega)]
        refine ⟨⟨?_, ?_, ?_, ?_, ?_, ?_, ?_, ?_, ?_⟩, ?_, fun v hv => by omega⟩
        · unfold am_u am_c; simp
        · unfold am_u am_c; simp
        · unfold am_u am_c; simp
        · unfold am_u am_c; simp
        · unfold am_u am_c; simp
        · unfold am_u am_c; simp [hne]
        · unfold am_u am_c; simp [hne]
        · unfold am_u am_c; simp [hne]
        · unfold am_u am_c; simp [hne]
        · rw [am_u_na _ _ _ _ (by omega), am_u_eq]
      refine cq_ch (by rw [hd0]; rfl) (by rw [hd0]) (sh' := am_u (am_u sh 2 j r) 3 j y) (se' := se) (RC_film h hF (by rw [hd0]; rfl) (by omega) (fun i q1 q2 q3 q4 q5 q6 => eM _ _ (by omega) (by omega)) ⟨?_, ?_⟩ (fun q i w5 w6 => eM _ _ (by omega) (by omega)) (fgt_35 _) (fgt_16 _) (fun q i hq => eI q i (by omega) (by omega) (by omega) (by omega)) (fun q i w5 w6 w7 w8 => eP q i (by omega) (by omega) (by omega)) (Or.inl ?_) (fun q w5 w6 w7 w8 w9 i => ⟨eI q i (by omega) (by omega) (by omega) (by omega), eP q i (by omega) (by omega) (by omega)⟩)) (fun q hq i => ⟨eI q i (by omega) (by omega) (by omega) (by omega), eP q i (by omega) (by omega) (by omega), ?_⟩)
      · rw [eI _ _ (by omega) (by omega) (by omega) (by omega), eM _ _ (by omega) (by omega)]; exact (rc_v h).1
      · rw [eI _ _ (by omega) (by omega) (by omega) (by omega), eM _ _ (by omega) (by omega)]; exact (rc_v h).2
      · rw [am_u_na _ _ _ _ (by omega), am_u_na _ _ _ _ (by omega)]
      · exact am_c_na _ _ _ (by omega)
  · have hno : 1 ≤ k ∧ 6 ≤ s ∧ cq K (fun M' => M' = (d_fact M a b w e o).1) (oc 0 1 0 (d_fact M a b w e o)) I P G (.inr 0) B I P G := ⟨by omega, by omega, cq_no h (by unfold d_fact; rw [if_pos hg]; rfl) (Or.inl ⟨rfl, rfl⟩)⟩
    simp (disch := (first | exact am_rf_ref | exact am_rf_rf | exact am_cat_int | exact am_cat_ref | exact am_cat_rf | exact am_rf_null | exact am_cat_null | omega)) only [e76_0, e76_1, e76_2, e76_5, e76_6, e76_8, e76_11, e76_13, e76_16, e76_18, e76_20, e76_23, e76_26, e76_33, e76_34, e76_37, e76_38, e76_39, e76_42, e76_43, e76_44, e76_47, e76_50, e76_53, List.length_cons, List.length_nil, Nat.zero_add, Nat.reduceAdd, Nat.reduceLeDiff, Nat.zero_le, Option.toList_some, Option.toList_none, List.cons_append, List.nil_append, am_rf_ref, am_rf_rf, am_rf_null, am_cat_rf, am_cat_ref, am_cat_int, am_cat_null, va_rf_some, va_rf_none, true_and, and_true, true_or, or_true, am_ia10, TY9, TY10, TY11, TY12, TY13, TY14, TY15, TY16, TY17, TY18, TY19, TY20, TY21, TY22, TY23, TY24, TY25, TY26, TY27, TY28, TY29, TY30, TY31, TY32, TY33, TY34, TY35, TY36, TY37, TY38, TY39, TY40, TY41, TY42, TY43, TY100, TY106, TY107, TY108, TY109, TY110, TY111, TY112, TY113, TY114, TY115, TY116, TY117, TY118, TY119, TY120, TY124, TY125, TY126, TY127, TY128, TY129, TY131, TY132, TY133, TY134, TY135, TY136, TY137, TY138, TY139, TY140, TY141, TY142, TY143, TY144, TY145, TY146, TY147, TY150, TY154, TY155, TY160, iI_lit, iI_0, iI_1, iI_neg, iI_nI, iI_add, iI_sub, iI_mul, iI_lt, iI_le, iI_eq, iI_clamp, iI_in, nat_toNat, bI_0, bI_1, bI_okT, bI_ok, bI_ok0, bI_ok1, iM_r, iM_w, am_u_u, am_u_eq, am_u_na, am_u_ni, ne_eq, not_true_eq_false, not_false_eq_true, forall_const, false_imp_iff, Classical.not_not, Int.reduceLE, Int.reduceLT, Int.reduceEq, Int.reduceNe, Int.reduceAdd, Int.reduceSub, Int.reduceMul, Int.reduceNeg, Int.reduceToNat, Nat.reduceAdd, Nat.reduceMul, Nat.reduceEqDiff, Nat.reduceLT, Nat.reduceLeDiff, true_imp_iff, decide_eq_true_eq, decide_eq_false_iff_not, Bool.not_eq_false, Bool.not_eq_true, Bool.not_eq_false', Bool.not_eq_true', cp_0 hp, fm_tk hf]
    refine ⟨fun _ => hno, fun _ => ⟨fun _ => hno, fun _ => ⟨fun _ => hno, fun _ => ⟨fun _ => ⟨fun _ => hno, fun _ => ⟨fun _ => hno, fun _ => ⟨fun _ => by omega, fun _ => hno⟩⟩⟩, fun _ => hno⟩⟩⟩⟩
end
