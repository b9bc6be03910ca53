/-! THE CLASS: cue, tick -/
theorem tkn_a {M : Nat → Nat → Int} (h : M 100 50 = -1) : ∀ n : Nat, (tkn M n).2 = 0 ∧ (tkn M n).1 100 52 = M 100 52 + n ∧ (tkn M n).1 100 0 = 0 ∧ ∀ r i, ¬ (r = 100 ∧ (i = 0 ∨ i = 52)) → (tkn M n).1 r i = M r i := by
  intro n; induction n with
  | zero =>
    simp only [tkn]
    refine ⟨trivial, ?_, am_u_eq _ _ _ _, fun r i q => if_neg (by omega)⟩
    rw [am_u_ni _ _ _ _ (by omega)]; omega
  | succ n ih =>
    obtain ⟨h1, h2, h3, h4⟩ := ih
    simp only [tkn, tks]
    rw [if_neg (fun q => q.2 (by rw [h4 _ _ (by omega)]; exact h))]
    refine ⟨h1, ?_, ?_, fun r i q => ?_⟩
    · dsimp only; rw [am_u_eq, h2]; omega
    · dsimp only; rw [am_u_ni _ _ _ _ (by omega)]; exact h3
    · dsimp only; rw [show am_u (tkn M n).1 100 52 ((tkn M n).1 100 52 + 1) r i = (tkn M n).1 r i from if_neg (by omega)]; exact h4 r i q
theorem tkn_b {M : Nat → Nat → Int} (h : M 100 50 ≠ -1) (hs : M 100 48 = 0) : ∀ n : Nat, (n : Int) < M 100 51 → (tkn M n).2 = 0 ∧ (tkn M n).1 100 52 = M 100 52 + n ∧ (tkn M n).1 100 51 = M 100 51 - n ∧ (tkn M n).1 100 0 = 0 ∧ ∀ r i, ¬ (r = 100 ∧ (i = 0 ∨ i = 51 ∨ i = 52)) → (tkn M n).1 r i = M r i := by
  intro n; induction n with
  | zero =>
    intro _
    simp only [tkn]
    refine ⟨trivial, ?_, ?_, am_u_eq _ _ _ _, fun r i q => if_neg (by omega)⟩
    · rw [am_u_ni _ _ _ _ (by omega)]; omega
    · rw [am_u_ni _ _ _ _ (by omega)]; omega
  | succ n ih =>
    intro hn
    obtain ⟨h1, h2, h3, h3b, h4⟩ := ih (by omega)
    simp only [tkn, tks]
    rw [if_pos ⟨by rw [h4 _ _ (by omega)]; exact hs, by rw [h4 _ _ (by omega)]; exact h⟩, if_neg (by omega)]
    refine ⟨h1, ?_, ?_, ?_, fun r i q => ?_⟩
    · dsimp only; rw [am_u_ni _ _ _ _ (by omega), am_u_eq, h2]; omega
    · dsimp only; rw [am_u_eq, h3]; omega
    · dsimp only; rw [am_u_ni _ _ _ _ (by omega), am_u_ni _ _ _ _ (by omega)]; exact h3b
    · dsimp only; unfold am_u; rw [if_neg (by omega), if_neg (by omega)]; exact h4 r i q
theorem tkn_c {M : Nat → Nat → Int} (hu : 0 ≤ M 100 50) (hs : M 100 48 = 0) (hl : 1 ≤ M 100 51) : ∀ n : Nat, M 100 51 ≤ n → (tkn M n).2 = 1 ∧ (tkn M n).1 100 52 = n - M 100 51 ∧ (tkn M n).1 100 50 = -1 ∧ (tkn M n).1 100 0 = 0 ∧ (tkn M n).1 154 (M 100 50).toNat = 2 ∧ ∀ r i, ¬ (r = 100 ∧ (i = 0 ∨ i = 50 ∨ i = 51 ∨ i = 52)) → ¬ (r = 154 ∧ i = (M 100 50).toNat) → (tkn M n).1 r i = M r i := by
  intro n; induction n with
  | zero => intro h; omega
  | succ n ih =>
    intro hn
    rcases Int.lt_or_le (n : Int) (M 100 51) with q | q
    · obtain ⟨h1, h2, h3, h3b, h4⟩ := tkn_b (by omega) hs n q
      simp only [tkn, tks]
      rw [if_pos ⟨by rw [h4 _ _ (by omega)]; exact hs, by rw [h4 _ _ (by omega)]; omega⟩, if_pos (by omega), h4 100 50 (by omega)]
      refine ⟨by dsimp only; omega, ?_, ?_, ?_, ?_, fun r i w w2 => ?_⟩
      · dsimp only; rw [am_u_eq]; omega
      · dsimp only; rw [am_u_ni _ _ _ _ (by omega), am_u_eq]
      · dsimp only; rw [am_u_ni _ _ _ _ (by omega), am_u_ni _ _ _ _ (by omega), am_u_na _ _ _ _ (by omega), am_u_ni _ _ _ _ (by omega), am_u_ni _ _ _ _ (by omega)]; exact h3b
      · dsimp only; rw [am_u_na _ _ _ _ (by omega), am_u_na _ _ _ _ (by omega), am_u_eq]
      · dsimp only; unfold am_u; rw [if_neg (by omega), if_neg (by omega), if_neg w2, if_neg (by omega), if_neg (by omega)]; exact h4 r i (by omega)
    · obtain ⟨h1, h2, h3, h3b, h4, h5⟩ := ih q
      simp only [tkn, tks]
      rw [if_neg (fun w => w.2 h3)]
      refine ⟨h1, ?_, ?_, ?_, ?_, fun r i w w2 => ?_⟩
      · dsimp only; rw [am_u_eq, h2]; omega
      · dsimp only; rw [am_u_ni _ _ _ _ (by omega)]; exact h3
      · dsimp only; rw [am_u_ni _ _ _ _ (by omega)]; exact h3b
      · dsimp only; rw [am_u_na _ _ _ _ (by omega)]; exact h4
      · dsimp only; unfold am_u; rw [if_neg (by omega)]; exact h5 r i w w2
section
variable {st : List Value} {B : Nat} {I C : am_I} {P : am_P} {G : am_G} {k s d : Nat} {Q : am_Q} {M : Nat → Nat → Int} {K : Int} {sh : Nat → Nat → Nat} {se : Nat → Nat → Nat → Nat}
theorem RS_w {K K' : Int} {M : Nat → Nat → Int} {I : am_I} (h : RS K M I) (hK : K ≤ K') : RS K' M I := RS_cg h hK ⟨rfl, rfl, rfl, rfl, rfl⟩ (fun _ => rfl) (fun _ => rfl) (fun _ _ _ _ => rfl)
theorem RC_w {K' : Int} (h : RC K M sh se I P B) (hK : K ≤ K') : RC K' M sh se I P B := ⟨rc_p h, rc_b h, rc_f h, rc_v h, rc_e h, rc_pl h, RS_w (rc_s h) hK, rc_m h⟩
theorem f99 (hK : K ≤ 1000000) (hWs : WFs K M) (hst : M 100 50 ≠ -1 → M 100 48 = 0 ∧ 1 ≤ M 100 51) (h : RC K M sh se I P B) (hk : 100 ≤ k) (hs : 1000 ≤ s) (hd : 8 ≤ d) {m : Int} (hm : -2147483648 ≤ m ∧ m ≤ 2147483647) :
    am_Ev 99 0 [some (.ref 10), some (.int (iI m))] [] B I P G k s d (cq (K + 200) (fun M' => M' = (d_tick M m).1) (oc 1 0 0 (d_tick M m)) I P G) := by
  have hp := rc_p h
  have hun := hWs.2.2.1
  have hlf := hWs.2.2.2.1
  have hK' := RC_w h (show K ≤ K + 200 by omega)
  obtain ⟨r1, r2, r3, r4, r5, r6, z, r7, r8, r9, r10⟩ := rc_s h
  simp (disch := (first | exact am_rf_ref | exact am_rf_rf | exact am_cat_int | exact am_cat_ref | exact am_cat_rf | exact am_rf_null | exact am_cat_null | omega)) only [e99_0, List.length_cons, List.length_nil, Nat.zero_add, Nat.reduceAdd, Nat.reduceLeDiff, Nat.zero_le, Option.toList_some, Option.toList_none, List.cons_append, List.nil_append, am_rf_ref, am_rf_rf, am_rf_null, am_cat_rf, am_cat_ref, am_cat_int, am_cat_null, va_rf_some, va_rf_none, true_and, and_true, true_or, or_true, am_ia10, TY9, TY10, TY11, TY12, TY13, TY14, TY15, TY16, TY17, TY18, TY19, TY20, TY21, TY22, TY23, TY24, TY25, TY26, TY27, TY28, TY29, TY30, TY31, TY32, TY33, TY34, TY35, TY36, TY37, TY38, TY39, TY40, TY41, TY42, TY43, TY100, TY106, TY107, TY108, TY109, TY110, TY111, TY112, TY113, TY114, TY115, TY116, TY117, TY118, TY119, TY120, TY124, TY125, TY126, TY127, TY128, TY129, TY131, TY132, TY133, TY134, TY135, TY136, TY137, TY138, TY139, TY140, TY141, TY142, TY143, TY144, TY145, TY146, TY147, TY150, TY154, TY155, TY160, iI_lit, iI_0, iI_1, iI_neg, iI_nI, iI_add, iI_sub, iI_mul, iI_lt, iI_le, iI_eq, iI_clamp, iI_in, nat_toNat, bI_0, bI_1, bI_okT, bI_ok, bI_ok0, bI_ok1, iM_r, iM_w, am_u_u, am_u_eq, am_u_na, am_u_ni, ne_eq, not_true_eq_false, not_false_eq_true, forall_const, false_imp_iff, Classical.not_not, Int.reduceLE, Int.reduceLT, Int.reduceEq, Int.reduceNe, Int.reduceAdd, Int.reduceSub, Int.reduceMul, Int.reduceNeg, Int.reduceToNat, Nat.reduceAdd, Nat.reduceMul, Nat.reduceEqDiff, Nat.reduceLT, Nat.reduceLeDiff, true_imp_iff, decide_eq_true_eq, decide_eq_false_iff_not, Bool.not_eq_false, Bool.not_eq_true, Bool.not_eq_false', Bool.not_eq_true']
  by_cases hl : M 100 47 = 0
  · refine k99_1 _ 1 6 0 ty10 (Nat.le_of_ble_eq_true rfl) (by omega) (by omega) (by omega) (c109n hl h (by omega) (by omega)) am_k5x (am_k6x ?_)
    exact cq_no hK' (by unfold d_tick; rw [if_pos hl]; rfl) (Or.inl ⟨rfl, rfl⟩)
  · have hl1 : M 100 47 = 1 := hWs.1.resolve_left hl
    refine k99_1 _ 0 0 0 ty10 (Nat.le_of_ble_eq_true rfl) (Nat.zero_le _) (Nat.zero_le _) (by omega) (c109 hl1 h) (am_k5 ?_) am_k6
    by_cases hg : 1 ≤ m ∧ m ≤ 200
    · obtain ⟨n, rfl⟩ : ∃ n : Nat, m = n := ⟨m.toNat, by omega⟩
      have e : d_tick M n = tkn M n := by unfold d_tick; rw [if_neg hl, if_neg (not_not_intro hg)]; rfl
      rw [e]
      simp (disch := (first | exact am_rf_ref | exact am_rf_rf | exact am_cat_int | exact am_cat_ref | exact am_cat_rf | exact am_rf_null | exact am_cat_null | omega)) only [e99_4, e99_5, e99_6, e99_9, e99_10, e99_13, e99_16, e99_19, e99_27, e99_28, e99_31, List.length_cons, List.length_nil, Nat.zero_add, Nat.reduceAdd, Nat.reduceLeDiff, Nat.zero_le, Option.toList_some, Option.toList_none, List.cons_append, List.nil_append, am_rf_ref, am_rf_rf, am_rf_null, am_cat_rf, am_cat_ref, am_cat_int, am_cat_null, va_rf_some, va_rf_none, true_and, and_true, true_or, or_true, am_ia10, TY9, TY10, TY11, TY12, TY13, TY14, TY15, TY16, TY17, TY18, TY19, TY20, TY21, TY22, TY23, TY24, TY25, TY26, TY27, TY28, TY29, TY30, TY31, TY32, TY33, TY34, TY35, TY36, TY37, TY38, TY39, TY40, TY41, TY42, TY43, TY100, TY106, TY107, TY108, TY109, TY110, TY111, TY112, TY113, TY114, TY115, TY116, TY117, TY118, TY119, TY120, TY124, TY125, TY126, TY127, TY128, TY129, TY131, TY132, TY133, TY134, TY135, TY136, TY137, TY138, TY139, TY140, TY141, TY142, TY143, TY144, TY145, TY146, TY147, TY150, TY154, TY155, TY160, iI_lit, iI_0, iI_1, iI_neg, iI_nI, iI_add, iI_sub, iI_mul, iI_lt, iI_le, iI_eq, iI_clamp, iI_in, nat_toNat, bI_0, bI_1, bI_okT, bI_ok, bI_ok0, bI_ok1, iM_r, iM_w, am_u_u, am_u_eq, am_u_na, am_u_ni, ne_eq, not_true_eq_false, not_false_eq_true, forall_const, false_imp_iff, Classical.not_not, Int.reduceLE, Int.reduceLT, Int.reduceEq, Int.reduceNe, Int.reduceAdd, Int.reduceSub, Int.reduceMul, Int.reduceNeg, Int.reduceToNat, Nat.reduceAdd, Nat.reduceMul, Nat.reduceEqDiff, Nat.reduceLT, Nat.reduceLeDiff, true_imp_iff, decide_eq_true_eq, decide_eq_false_iff_not, Bool.not_eq_false, Bool.not_eq_true, Bool.not_eq_false', Bool.not_eq_true', cp_7 hp]
      refine ⟨fun _ => by omega, fun _ => ⟨fun _ => ?_, fun _ => by omega⟩⟩
      have hend : ∀ (v : Int) (I' : am_I), v = (tkn M n).2 → (tkn M n).1 100 0 = 0 → RC (K + 200) (tkn M n).1 sh se I' P B → Fx I P G I' P G → ∀ k s, am_Ev 99 35 [some (.ref 10), some (.int (iI n))] [.int (iI v)] B I' P G k s d (cq (K + 200) (fun M' => M' = (tkn M n).1) (oc 1 0 0 (tkn M n)) I P G) := by
        intro v I' w1 w2 w3 w4 k s
        simp (disch := (first | exact am_rf_ref | exact am_rf_rf | exact am_cat_int | exact am_cat_ref | exact am_cat_rf | exact am_rf_null | exact am_cat_null | omega)) only [e99_35, List.length_cons, List.length_nil, Nat.zero_add, Nat.reduceAdd, Nat.reduceLeDiff, Nat.zero_le, Option.toList_some, Option.toList_none, List.cons_append, List.nil_append, am_rf_ref, am_rf_rf, am_rf_null, am_cat_rf, am_cat_ref, am_cat_int, am_cat_null, va_rf_some, va_rf_none, true_and, and_true, true_or, or_true, am_ia10, TY9, TY10, TY11, TY12, TY13, TY14, TY15, TY16, TY17, TY18, TY19, TY20, TY21, TY22, TY23, TY24, TY25, TY26, TY27, TY28, TY29, TY30, TY31, TY32, TY33, TY34, TY35, TY36, TY37, TY38, TY39, TY40, TY41, TY42, TY43, TY100, TY106, TY107, TY108, TY109, TY110, TY111, TY112, TY113, TY114, TY115, TY116, TY117, TY118, TY119, TY120, TY124, TY125, TY126, TY127, TY128, TY129, TY131, TY132, TY133, TY134, TY135, TY136, TY137, TY138, TY139, TY140, TY141, TY142, TY143, TY144, TY145, TY146, TY147, TY150, TY154, TY155, TY160, iI_lit, iI_0, iI_1, iI_neg, iI_nI, iI_add, iI_sub, iI_mul, iI_lt, iI_le, iI_eq, iI_clamp, iI_in, nat_toNat, bI_0, bI_1, bI_okT, bI_ok, bI_ok0, bI_ok1, iM_r, iM_w, am_u_u, am_u_eq, am_u_na, am_u_ni, ne_eq, not_true_eq_false, not_false_eq_true, forall_const, false_imp_iff, Classical.not_not, Int.reduceLE, Int.reduceLT, Int.reduceEq, Int.reduceNe, Int.reduceAdd, Int.reduceSub, Int.reduceMul, Int.reduceNeg, Int.reduceToNat, Nat.reduceAdd, Nat.reduceMul, Nat.reduceEqDiff, Nat.reduceLT, Nat.reduceLeDiff, true_imp_iff, decide_eq_true_eq, decide_eq_false_iff_not, Bool.not_eq_false, Bool.not_eq_true, Bool.not_eq_false', Bool.not_eq_true']
        exact cq_ch w2 w1 w3 w4
      by_cases hu : M 100 50 = -1
      · obtain ⟨t1, t2, t3, t4⟩ := tkn_a hu n
        have hc : am_Ev 48 0 [some (.ref 39), some (.int (iI n)), none] [] B I P G 0 0 0 (am_one (.inl (some (.int (iI 0)))) B (am_u I 39 6 (iI (z + n))) P G) := by
          simp (disch := (first | exact am_rf_ref | exact am_rf_rf | exact am_cat_int | exact am_cat_ref | exact am_cat_rf | exact am_rf_null | exact am_cat_null | omega)) only [e48_0, e48_1, e48_4, e48_5, e48_8, e48_9, e48_10, e48_13, e48_14, e48_15, e48_18, e48_19, e48_20, e48_21, e48_22, e48_25, e48_28, e48_29, e48_30, e48_33, e48_34, e48_35, e48_38, e48_39, e48_40, e48_41, e48_42, e48_45, e48_46, e48_47, e48_48, e48_53, e48_54, e48_55, e48_58, e48_59, List.length_cons, List.length_nil, Nat.zero_add, Nat.reduceAdd, Nat.reduceLeDiff, Nat.zero_le, Option.toList_some, Option.toList_none, List.cons_append, List.nil_append, am_rf_ref, am_rf_rf, am_rf_null, am_cat_rf, am_cat_ref, am_cat_int, am_cat_null, va_rf_some, va_rf_none, true_and, and_true, true_or, or_true, am_ia10, TY9, TY10, TY11, TY12, TY13, TY14, TY15, TY16, TY17, TY18, TY19, TY20, TY21, TY22, TY23, TY24, TY25, TY26, TY27, TY28, TY29, TY30, TY31, TY32, TY33, TY34, TY35, TY36, TY37, TY38, TY39, TY40, TY41, TY42, TY43, TY100, TY106, TY107, TY108, TY109, TY110, TY111, TY112, TY113, TY114, TY115, TY116, TY117, TY118, TY119, TY120, TY124, TY125, TY126, TY127, TY128, TY129, TY131, TY132, TY133, TY134, TY135, TY136, TY137, TY138, TY139, TY140, TY141, TY142, TY143, TY144, TY145, TY146, TY147, TY150, TY154, TY155, TY160, iI_lit, iI_0, iI_1, iI_neg, iI_nI, iI_add, iI_sub, iI_mul, iI_lt, iI_le, iI_eq, iI_clamp, iI_in, nat_toNat, bI_0, bI_1, bI_okT, bI_ok, bI_ok0, bI_ok1, iM_r, iM_w, am_u_u, am_u_eq, am_u_na, am_u_ni, ne_eq, not_true_eq_false, not_false_eq_true, forall_const, false_imp_iff, Classical.not_not, Int.reduceLE, Int.reduceLT, Int.reduceEq, Int.reduceNe, Int.reduceAdd, Int.reduceSub, Int.reduceMul, Int.reduceNeg, Int.reduceToNat, Nat.reduceAdd, Nat.reduceMul, Nat.reduceEqDiff, Nat.reduceLT, Nat.reduceLeDiff, true_imp_iff, decide_eq_true_eq, decide_eq_false_iff_not, Bool.not_eq_false, Bool.not_eq_true, Bool.not_eq_false', Bool.not_eq_true', r5, hu, r7]
          exact am_q
        refine k99_32 _ 0 0 0 ty39 (Nat.le_of_ble_eq_true rfl) (Nat.zero_le _) (Nat.zero_le _) (by omega) hc (am_k5 ?_) am_k6
        refine hend 0 (am_u I 39 6 (iI (z + n))) t1.symm t3 (RC_st h (fun r i q1 q2 q3 q4 => t4 r i (by omega)) (fun a j q1 q2 q3 q4 => am_u_na _ _ _ _ q1) ⟨?_, ?_, fun j hj => ?_, fun w j hj => ?_, ?_, fun w => ?_, z + n, am_u_eq _ _ _ _, by omega, by omega, fun _ => ?_⟩ (RM_cg (rc_m h) (fun i => t4 _ _ (by omega)) (fun j => am_u_na _ _ _ _ (by omega)))) (Fx_I Fx_rfl _ _ (by omega)) _ _
        · rw [am_u_ni _ _ _ _ (by omega), t4 _ _ (by omega)]; exact r1
        · rw [am_u_ni _ _ _ _ (by omega), t4 _ _ (by omega)]; exact r2
        · rw [am_u_na _ _ _ _ (by omega), t4 _ _ (by omega)]; exact r3 j hj
        · rw [am_u_na _ _ _ _ (by omega), t4 _ _ (by omega)]; exact r4 hl1 j hj
        · rw [am_u_ni _ _ _ _ (by omega), t4 _ _ (by omega)]; exact r5
        · rw [t4 _ _ (by omega)] at w; exact absurd hu w
        · rw [t2]; have := r10 hu; omega
      · obtain ⟨h48, h51⟩ := hst hu
        have r6b := r6 hu
        by_cases hlt : (n : Int) < M 100 51
        · obtain ⟨t1, t2, t2b, t3, t4⟩ := tkn_b hu h48 n hlt
          have hc : am_Ev 48 0 [some (.ref 39), some (.int (iI n)), none] [] B I P G 0 0 0 (am_one (.inl (some (.int (iI 0)))) B (am_u I 39 5 (iI (M 100 51 - n))) P G) := by
            simp (disch := (first | exact am_rf_ref | exact am_rf_rf | exact am_cat_int | exact am_cat_ref | exact am_cat_rf | exact am_rf_null | exact am_cat_null | omega)) only [e48_0, e48_1, e48_4, e48_5, e48_8, e48_9, e48_10, e48_13, e48_14, e48_15, e48_18, e48_19, e48_20, e48_21, e48_22, e48_25, e48_28, e48_29, e48_30, e48_33, e48_34, e48_35, e48_38, e48_39, List.length_cons, List.length_nil, Nat.zero_add, Nat.reduceAdd, Nat.reduceLeDiff, Nat.zero_le, Option.toList_some, Option.toList_none, List.cons_append, List.nil_append, am_rf_ref, am_rf_rf, am_rf_null, am_cat_rf, am_cat_ref, am_cat_int, am_cat_null, va_rf_some, va_rf_none, true_and, and_true, true_or, or_true, am_ia10, TY9, TY10, TY11, TY12, TY13, TY14, TY15, TY16, TY17, TY18, TY19, TY20, TY21, TY22, TY23, TY24, TY25, TY26, TY27, TY28, TY29, TY30, TY31, TY32, TY33, TY34, TY35, TY36, TY37, TY38, TY39, TY40, TY41, TY42, TY43, TY100, TY106, TY107, TY108, TY109, TY110, TY111, TY112, TY113, TY114, TY115, TY116, TY117, TY118, TY119, TY120, TY124, TY125, TY126, TY127, TY128, TY129, TY131, TY132, TY133, TY134, TY135, TY136, TY137, TY138, TY139, TY140, TY141, TY142, TY143, TY144, TY145, TY146, TY147, TY150, TY154, TY155, TY160, iI_lit, iI_0, iI_1, iI_neg, iI_nI, iI_add, iI_sub, iI_mul, iI_lt, iI_le, iI_eq, iI_clamp, iI_in, nat_toNat, bI_0, bI_1, bI_okT, bI_ok, bI_ok0, bI_ok1, iM_r, iM_w, am_u_u, am_u_eq, am_u_na, am_u_ni, ne_eq, not_true_eq_false, not_false_eq_true, forall_const, false_imp_iff, Classical.not_not, Int.reduceLE, Int.reduceLT, Int.reduceEq, Int.reduceNe, Int.reduceAdd, Int.reduceSub, Int.reduceMul, Int.reduceNeg, Int.reduceToNat, Nat.reduceAdd, Nat.reduceMul, Nat.reduceEqDiff, Nat.reduceLT, Nat.reduceLeDiff, true_imp_iff, decide_eq_true_eq, decide_eq_false_iff_not, Bool.not_eq_false, Bool.not_eq_true, Bool.not_eq_false', Bool.not_eq_true', r5, r6b]
            refine ⟨fun _ => ⟨fun q => by omega, fun _ => am_q⟩, fun q => absurd q hu⟩
          refine k99_32 _ 0 0 0 ty39 (Nat.le_of_ble_eq_true rfl) (Nat.zero_le _) (Nat.zero_le _) (by omega) hc (am_k5 ?_) am_k6
          refine hend 0 (am_u I 39 5 (iI (M 100 51 - n))) t1.symm t3 (RC_st h (fun r i q1 q2 q3 q4 => t4 r i (by omega)) (fun a j q1 q2 q3 q4 => am_u_na _ _ _ _ q1) ⟨?_, ?_, fun j hj => ?_, fun w j hj => ?_, ?_, fun w => ?_, z, ?_, by omega, by omega, fun w => ?_⟩ (RM_cg (rc_m h) (fun i => t4 _ _ (by omega)) (fun j => am_u_na _ _ _ _ (by omega)))) (Fx_I Fx_rfl _ _ (by omega)) _ _
          · rw [am_u_ni _ _ _ _ (by omega), t4 _ _ (by omega)]; exact r1
          · rw [am_u_ni _ _ _ _ (by omega), t4 _ _ (by omega)]; exact r2
          · rw [am_u_na _ _ _ _ (by omega), t4 _ _ (by omega)]; exact r3 j hj
          · rw [am_u_na _ _ _ _ (by omega), t4 _ _ (by omega)]; exact r4 hl1 j hj
          · rw [am_u_ni _ _ _ _ (by omega), t4 _ _ (by omega)]; exact r5
          · rw [am_u_eq, t2b]
          · rw [am_u_ni _ _ _ _ (by omega)]; exact r7
          · rw [t4 _ _ (by omega)] at w; exact absurd w hu
        · obtain ⟨t1, t2, t2b, t3, t3b, t4⟩ := tkn_c (by omega) h48 h51 n (by omega)
          have hc : am_Ev 48 0 [some (.ref 39), some (.int (iI n)), none] [] B I P G 0 0 2 (am_one (.inl (some (.int (iI 1)))) B (am_u (brk I (M 100 50).toNat 116) 39 6 (iI (n - M 100 51))) P G) := by
            simp (disch := (first | exact am_rf_ref | exact am_rf_rf | exact am_cat_int | exact am_cat_ref | exact am_cat_rf | exact am_rf_null | exact am_cat_null | omega)) only [e48_0, e48_1, e48_4, e48_5, e48_8, e48_9, e48_10, e48_13, e48_14, e48_15, e48_18, e48_19, e48_20, e48_21, e48_22, e48_25, e48_28, e48_29, e48_30, e48_33, e48_34, e48_35, e48_38, e48_39, e48_40, e48_41, e48_42, e48_45, e48_46, e48_47, e48_48, List.length_cons, List.length_nil, Nat.zero_add, Nat.reduceAdd, Nat.reduceLeDiff, Nat.zero_le, Option.toList_some, Option.toList_none, List.cons_append, List.nil_append, am_rf_ref, am_rf_rf, am_rf_null, am_cat_rf, am_cat_ref, am_cat_int, am_cat_null, va_rf_some, va_rf_none, true_and, and_true, true_or, or_true, am_ia10, TY9, TY10, TY11, TY12, TY13, TY14, TY15, TY16, TY17, TY18, TY19, TY20, TY21, TY22, TY23, TY24, TY25, TY26, TY27, TY28, TY29, TY30, TY31, TY32, TY33, TY34, TY35, TY36, TY37, TY38, TY39, TY40, TY41, TY42, TY43, TY100, TY106, TY107, TY108, TY109, TY110, TY111, TY112, TY113, TY114, TY115, TY116, TY117, TY118, TY119, TY120, TY124, TY125, TY126, TY127, TY128, TY129, TY131, TY132, TY133, TY134, TY135, TY136, TY137, TY138, TY139, TY140, TY141, TY142, TY143, TY144, TY145, TY146, TY147, TY150, TY154, TY155, TY160, iI_lit, iI_0, iI_1, iI_neg, iI_nI, iI_add, iI_sub, iI_mul, iI_lt, iI_le, iI_eq, iI_clamp, iI_in, nat_toNat, bI_0, bI_1, bI_okT, bI_ok, bI_ok0, bI_ok1, iM_r, iM_w, am_u_u, am_u_eq, am_u_na, am_u_ni, ne_eq, not_true_eq_false, not_false_eq_true, forall_const, false_imp_iff, Classical.not_not, Int.reduceLE, Int.reduceLT, Int.reduceEq, Int.reduceNe, Int.reduceAdd, Int.reduceSub, Int.reduceMul, Int.reduceNeg, Int.reduceToNat, Nat.reduceAdd, Nat.reduceMul, Nat.reduceEqDiff, Nat.reduceLT, Nat.reduceLeDiff, true_imp_iff, decide_eq_true_eq, decide_eq_false_iff_not, Bool.not_eq_false, Bool.not_eq_true, Bool.not_eq_false', Bool.not_eq_true', r5, r6b]
            refine ⟨fun _ => ⟨fun _ => ?_, fun q => by omega⟩, fun q => absurd q hu⟩
            refine k48_50 _ 0 0 1 ty39 (Nat.le_of_ble_eq_true rfl) (Nat.zero_le _) (Nat.zero_le _) (by omega) (c52 hp hun r5 (by omega) (by omega)) (am_k5 ?_) am_k6
            rw [if_neg hu]
            simp (disch := (first | exact am_rf_ref | exact am_rf_rf | exact am_cat_int | exact am_cat_ref | exact am_cat_rf | exact am_rf_null | exact am_cat_null | omega)) only [e48_53, e48_54, e48_55, e48_58, e48_59, List.length_cons, List.length_nil, Nat.zero_add, Nat.reduceAdd, Nat.reduceLeDiff, Nat.zero_le, Option.toList_some, Option.toList_none, List.cons_append, List.nil_append, am_rf_ref, am_rf_rf, am_rf_null, am_cat_rf, am_cat_ref, am_cat_int, am_cat_null, va_rf_some, va_rf_none, true_and, and_true, true_or, or_true, am_ia10, TY9, TY10, TY11, TY12, TY13, TY14, TY15, TY16, TY17, TY18, TY19, TY20, TY21, TY22, TY23, TY24, TY25, TY26, TY27, TY28, TY29, TY30, TY31, TY32, TY33, TY34, TY35, TY36, TY37, TY38, TY39, TY40, TY41, TY42, TY43, TY100, TY106, TY107, TY108, TY109, TY110, TY111, TY112, TY113, TY114, TY115, TY116, TY117, TY118, TY119, TY120, TY124, TY125, TY126, TY127, TY128, TY129, TY131, TY132, TY133, TY134, TY135, TY136, TY137, TY138, TY139, TY140, TY141, TY142, TY143, TY144, TY145, TY146, TY147, TY150, TY154, TY155, TY160, iI_lit, iI_0, iI_1, iI_neg, iI_nI, iI_add, iI_sub, iI_mul, iI_lt, iI_le, iI_eq, iI_clamp, iI_in, nat_toNat, bI_0, bI_1, bI_okT, bI_ok, bI_ok0, bI_ok1, iM_r, iM_w, am_u_u, am_u_eq, am_u_na, am_u_ni, ne_eq, not_true_eq_false, not_false_eq_true, forall_const, false_imp_iff, Classical.not_not, Int.reduceLE, Int.reduceLT, Int.reduceEq, Int.reduceNe, Int.reduceAdd, Int.reduceSub, Int.reduceMul, Int.reduceNeg, Int.reduceToNat, Nat.reduceAdd, Nat.reduceMul, Nat.reduceEqDiff, Nat.reduceLT, Nat.reduceLeDiff, true_imp_iff, decide_eq_true_eq, decide_eq_false_iff_not, Bool.not_eq_false, Bool.not_eq_true, Bool.not_eq_false', Bool.not_eq_true']
            exact am_q
          refine k99_32 _ 0 0 2 ty39 (Nat.le_of_ble_eq_true rfl) (Nat.zero_le _) (Nat.zero_le _) (by omega) hc (am_k5 ?_) am_k6
          refine hend 1 (am_u (brk I (M 100 50).toNat 116) 39 6 (iI (n - M 100 51))) t1.symm t3 (RC_st h (fun r i q1 q2 q3 q4 => t4 r i (by omega) (by omega)) (fun a j q1 q2 q3 q4 => ?_) ⟨?_, ?_, fun j hj => ?_, fun w j hj => ?_, ?_, fun w => absurd t2b w, n - M 100 51, am_u_eq _ _ _ _, by omega, by omega, fun w => Or.inl t2.symm⟩ (RM_cg (rc_m h) (fun i => t4 _ _ (by omega) (by omega)) (fun j => ?_))) ?_ _ _
          · unfold brk; rw [am_u_na _ _ _ _ q1, am_u_na _ _ _ _ q1, am_u_na _ _ _ _ q1, am_u_na _ _ _ _ q1, am_u_na _ _ _ _ q3]
          · unfold brk; rw [am_u_ni _ _ _ _ (by omega), am_u_ni _ _ _ _ (by omega), am_u_ni _ _ _ _ (by omega), am_u_ni _ _ _ _ (by omega), am_u_na _ _ _ _ (by omega), t4 _ _ (by omega) (by omega)]; exact r1
          · unfold brk; rw [am_u_ni _ _ _ _ (by omega), am_u_ni _ _ _ _ (by omega), am_u_ni _ _ _ _ (by omega), am_u_ni _ _ _ _ (by omega), am_u_na _ _ _ _ (by omega), t4 _ _ (by omega) (by omega)]; exact r2
          · unfold brk; rw [am_u_na _ _ _ _ (by omega), am_u_na _ _ _ _ (by omega), am_u_na _ _ _ _ (by omega), am_u_na _ _ _ _ (by omega), am_u_na _ _ _ _ (by omega), t4 _ _ (by omega) (by omega)]; exact r3 j hj
          · unfold brk; rw [am_u_na _ _ _ _ (by omega), am_u_na _ _ _ _ (by omega), am_u_na _ _ _ _ (by omega), am_u_na _ _ _ _ (by omega)]
            by_cases hj2 : j = (M 100 50).toNat
            · subst hj2; rw [am_u_eq, t3b]; rfl
            · rw [am_u_ni _ _ _ _ hj2, t4 _ _ (by omega) (by omega)]; exact r4 hl1 j hj
          · unfold brk; rw [am_u_ni _ _ _ _ (by omega), am_u_ni _ _ _ _ (by omega), am_u_ni _ _ _ _ (by omega), am_u_eq, t2b]
          · unfold brk; rw [am_u_na _ _ _ _ (by omega), am_u_na _ _ _ _ (by omega), am_u_na _ _ _ _ (by omega), am_u_na _ _ _ _ (by omega), am_u_na _ _ _ _ (by omega)]
          · unfold brk; exact Fx_I (Fx_I (Fx_I (Fx_I (Fx_I Fx_rfl _ _ (by omega)) _ _ (by omega)) _ _ (by omega)) _ _ (by omega)) _ _ (by omega)
    · have hno : cq (K + 200) (fun M' => M' = (d_tick M m).1) (oc 1 0 0 (d_tick M m)) I P G (.inr 0) B I P G := cq_no hK' (by unfold d_tick; rw [if_neg hl, if_pos hg]; rfl) (Or.inr (Or.inl ⟨rfl, rfl⟩))
      simp (disch := (first | exact am_rf_ref | exact am_rf_rf | exact am_cat_int | exact am_cat_ref | exact am_cat_rf | exact am_rf_null | exact am_cat_null | omega)) only [e99_4, e99_5, e99_6, e99_9, e99_10, e99_13, e99_16, List.length_cons, List.length_nil, Nat.zero_add, Nat.reduceAdd, Nat.reduceLeDiff, Nat.zero_le, Option.toList_some, Option.toList_none, List.cons_append, List.nil_append, am_rf_ref, am_rf_rf, am_rf_null, am_cat_rf, am_cat_ref, am_cat_int, am_cat_null, va_rf_some, va_rf_none, true_and, and_true, true_or, or_true, am_ia10, TY9, TY10, TY11, TY12, TY13, TY14, TY15, TY16, TY17, TY18, TY19, TY20, TY21, TY22, TY23, TY24, TY25, TY26, TY27, TY28, TY29, TY30, TY31, TY32, TY33, TY34, TY35, TY36, TY37, TY38, TY39, TY40, TY41, TY42, TY43, TY100, TY106, TY107, TY108, TY109, TY110, TY111, TY112, TY113, TY114, TY115, TY116, TY117, TY118, TY119, TY120, TY124, TY125, TY126, TY127, TY128, TY129, TY131, TY132, TY133, TY134, TY135, TY136, TY137, TY138, TY139, TY140, TY141, TY142, TY143, TY144, TY145, TY146, TY147, TY150, TY154, TY155, TY160, iI_lit, iI_0, iI_1, iI_neg, iI_nI, iI_add, iI_sub, iI_mul, iI_lt, iI_le, iI_eq, iI_clamp, iI_in, nat_toNat, bI_0, bI_1, bI_okT, bI_ok, bI_ok0, bI_ok1, iM_r, iM_w, am_u_u, am_u_eq, am_u_na, am_u_ni, ne_eq, not_true_eq_false, not_false_eq_true, forall_const, false_imp_iff, Classical.not_not, Int.reduceLE, Int.reduceLT, Int.reduceEq, Int.reduceNe, Int.reduceAdd, Int.reduceSub, Int.reduceMul, Int.reduceNeg, Int.reduceToNat, Nat.reduceAdd, Nat.reduceMul, Nat.reduceEqDiff, Nat.reduceLT, Nat.reduceLeDiff, true_imp_iff, decide_eq_true_eq, decide_eq_false_iff_not, Bool.not_eq_false, Bool.not_eq_true, Bool.not_eq_false', Bool.not_eq_true', cp_7 hp]
      refine ⟨fun _ => ⟨by omega, by omega, hno⟩, fun _ => ⟨fun _ => by omega, fun _ => ⟨by omega, by omega, hno⟩⟩⟩
end
