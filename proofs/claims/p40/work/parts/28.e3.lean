/-! THE CLASS: edition, use -/
theorem tyq_e (q e : Nat) (hq : 1 ≤ q) (he : e < 4) : am_TY (4096 * q + (401 + e)) = (2, 4) ∧ am_TY (4096 * q + (411 + e)) = (0, 3) ∧ am_TY (4096 * q + (421 + e)) = (10, 10) ∧ am_TY (4096 * q + (431 + e)) = (15, 10) := by
  rw [tyq _ _ hq (by omega), tyq _ _ hq (by omega), tyq _ _ hq (by omega), tyq _ _ hq (by omega)]
  have h : e = 0 ∨ e = 1 ∨ e = 2 ∨ e = 3 := by omega
  rcases h with rfl | rfl | rfl | rfl <;> exact ⟨rfl, rfl, rfl, rfl⟩
theorem ELty {e : Nat} {se : Nat → Nat → Nat} {B : Nat} (he : e < 4) (h : EL e se B) : (am_TY (se 4 0)).1 = 2 ∧ (am_TY (se 4 1)).1 = 0 ∧ am_TY (se 4 2) = (10, 10) ∧ am_TY (se 4 3) = (15, 10) := by
  obtain ⟨⟨f1, f2, f3⟩, ⟨g1, g2, g3⟩, ⟨n1, n2, n3⟩, a1, a2, a3⟩ := h
  rw [show se 4 0 = 4096 * (se 4 0 / 4096) + (401 + e) by omega, show se 4 1 = 4096 * (se 4 1 / 4096) + (411 + e) by omega, show se 4 2 = 4096 * (se 4 2 / 4096) + (421 + e) by omega, show se 4 3 = 4096 * (se 4 3 / 4096) + (431 + e) by omega]
  rw [(tyq_e _ e (by omega) he).1, (tyq_e _ e (by omega) he).2.1, (tyq_e _ e (by omega) he).2.2.1, (tyq_e _ e (by omega) he).2.2.2]
  exact ⟨rfl, rfl, rfl, rfl⟩
theorem USE_GN {M M' : Nat → Nat → Int} {e : Nat} (h : USE M e M') : GN M M' := by
  obtain ⟨u1, u2, u3, u4, u5, u6, u7, u8, u9⟩ := h
  have e110 : ∀ g, g < 10 → M' 110 g = M 137 (e * 10 + g) := fun g hg => u5 110 g (by omega) (by omega) hg
  refine ⟨u2, fun r i q1 q2 q3 q4 => u1 r i (by omega) (by omega) q3 q4, fun g hg => ?_, fun ⟨g, q1, q2, q3⟩ => u8 ⟨g, q1, by rw [← e110 g q1]; exact q2, q3⟩, fun q => u9 (fun ⟨g, q1, q2, q3⟩ => q ⟨g, q1, by rw [e110 g q1]; exact q2, q3⟩)⟩
  rw [e110 g hg]; exact u7 g hg
theorem kpF_fc (M : Nat → Nat → Int) (e r j : Nat) (h : 109 ≤ r ∧ r ≤ 119) : kpF M e r j = M (r + 27) (e * 10 + j) := by
  unfold kpF; rw [if_neg (by omega), if_neg (by omega), if_neg (by omega)]
theorem kpF_so (M : Nat → Nat → Int) (e r j : Nat) (h : 106 ≤ r ∧ r ≤ 108) : kpF M e r j = M (r + 27) (e * 30 + j) := by
  unfold kpF; rw [if_neg (by omega), if_pos (by omega)]
theorem kpF_sy (M : Nat → Nat → Int) (e j : Nat) : kpF M e 120 j = M 147 (e * 30 + j) := by
  unfold kpF; rw [if_neg (by omega), if_neg (by omega), if_pos rfl]
theorem kpF_1 (M : Nat → Nat → Int) (e : Nat) : kpF M e 100 1 = M 131 e := by unfold kpF; rw [if_pos rfl, if_pos rfl]
theorem kpF_4 (M : Nat → Nat → Int) (e : Nat) : kpF M e 100 4 = M 132 e := by unfold kpF; rw [if_pos rfl, if_neg (by omega), if_pos rfl]
section
variable {st : List Value} {B : Nat} {I C : am_I} {P : am_P} {G : am_G} {k s d : Nat} {Q : am_Q} {M : Nat → Nat → Int} {K : Int} {sh : Nat → Nat → Nat} {se : Nat → Nat → Nat → Nat}
theorem f94n (h : RC K M sh se I P B) (he : 0 ≤ M 100 29 ∧ M 100 29 ≤ 4) (hk : 100 ≤ k) (hs : 2000 ≤ s) {x : Int} (hx : -2147483648 ≤ x ∧ x ≤ 2147483647) (hg : ¬ (0 ≤ x ∧ x < M 100 29)) :
    am_Ev 94 0 [some (.ref 10), some (.int (iI x)), none] [] B I P G k s d (cq K (fun M' => M' = (dno M 1).1) (oc 4 0 0 (dno M 1)) I P G) := by
  have hp := rc_p h
  have hth : ∀ k s, 1 ≤ k → 6 ≤ s → am_Ev 94 23 [some (.ref 10), some (.int (iI x)), none] [.null] B I P G k s d (cq K (fun M' => M' = (dno M 1).1) (oc 4 0 0 (dno M 1)) I P G) := by
    intro k s hk hs
    simp (disch := (first | exact am_rf_ref | exact am_rf_rf | exact am_cat_int | exact am_cat_ref | exact am_cat_rf | exact am_rf_null | exact am_cat_null | omega)) only [e94_23, e94_24, e94_25, e94_25r, e94_25n, e94_28, List.length_cons, List.length_nil, Nat.zero_add, Nat.reduceAdd, Nat.reduceLeDiff, Nat.zero_le, Option.toList_some, Option.toList_none, List.cons_append, List.nil_append, am_rf_ref, am_rf_rf, am_rf_null, am_cat_rf, am_cat_ref, am_cat_int, am_cat_null, va_rf_some, va_rf_none, true_and, and_true, true_or, or_true, am_ia10, TY9, TY10, TY11, TY12, TY13, TY14, TY15, TY16, TY17, TY18, TY19, TY20, TY21, TY22, TY23, TY24, TY25, TY26, TY27, TY28, TY29, TY30, TY31, TY32, TY33, TY34, TY35, TY36, TY37, TY38, TY39, TY40, TY41, TY42, TY43, TY100, TY106, TY107, TY108, TY109, TY110, TY111, TY112, TY113, TY114, TY115, TY116, TY117, TY118, TY119, TY120, TY124, TY125, TY126, TY127, TY128, TY129, TY131, TY132, TY133, TY134, TY135, TY136, TY137, TY138, TY139, TY140, TY141, TY142, TY143, TY144, TY145, TY146, TY147, TY150, TY154, TY155, TY160, iI_lit, iI_0, iI_1, iI_neg, iI_nI, iI_add, iI_sub, iI_mul, iI_lt, iI_le, iI_eq, iI_clamp, iI_in, nat_toNat, bI_0, bI_1, bI_okT, bI_ok, bI_ok0, bI_ok1, iM_r, iM_w, am_u_u, am_u_eq, am_u_na, am_u_ni, ne_eq, not_true_eq_false, not_false_eq_true, forall_const, false_imp_iff, Classical.not_not, Int.reduceLE, Int.reduceLT, Int.reduceEq, Int.reduceNe, Int.reduceAdd, Int.reduceSub, Int.reduceMul, Int.reduceNeg, Int.reduceToNat, Nat.reduceAdd, Nat.reduceMul, Nat.reduceEqDiff, Nat.reduceLT, Nat.reduceLeDiff, true_imp_iff, decide_eq_true_eq, decide_eq_false_iff_not, Bool.not_eq_false, Bool.not_eq_true, Bool.not_eq_false', Bool.not_eq_true']
    exact ⟨hk, hs, cq_no h rfl (Or.inl ⟨rfl, rfl⟩)⟩
  by_cases h1 : 0 ≤ x ∧ x ≤ 3
  · obtain ⟨n, rfl⟩ : ∃ n : Nat, x = n := ⟨x.toNat, by omega⟩
    have hn := ((rc_e h).2 n (by omega)).2 (by omega)
    simp (disch := (first | exact am_rf_ref | exact am_rf_rf | exact am_cat_int | exact am_cat_ref | exact am_cat_rf | exact am_rf_null | exact am_cat_null | omega)) only [e94_0, e94_1, e94_4, e94_5, e94_6, e94_9, e94_10, e94_13, e94_14, e94_17, e94_18, e94_21, e94_22, List.length_cons, List.length_nil, Nat.zero_add, Nat.reduceAdd, Nat.reduceLeDiff, Nat.zero_le, Option.toList_some, Option.toList_none, List.cons_append, List.nil_append, am_rf_ref, am_rf_rf, am_rf_null, am_cat_rf, am_cat_ref, am_cat_int, am_cat_null, va_rf_some, va_rf_none, true_and, and_true, true_or, or_true, am_ia10, TY9, TY10, TY11, TY12, TY13, TY14, TY15, TY16, TY17, TY18, TY19, TY20, TY21, TY22, TY23, TY24, TY25, TY26, TY27, TY28, TY29, TY30, TY31, TY32, TY33, TY34, TY35, TY36, TY37, TY38, TY39, TY40, TY41, TY42, TY43, TY100, TY106, TY107, TY108, TY109, TY110, TY111, TY112, TY113, TY114, TY115, TY116, TY117, TY118, TY119, TY120, TY124, TY125, TY126, TY127, TY128, TY129, TY131, TY132, TY133, TY134, TY135, TY136, TY137, TY138, TY139, TY140, TY141, TY142, TY143, TY144, TY145, TY146, TY147, TY150, TY154, TY155, TY160, iI_lit, iI_0, iI_1, iI_neg, iI_nI, iI_add, iI_sub, iI_mul, iI_lt, iI_le, iI_eq, iI_clamp, iI_in, nat_toNat, bI_0, bI_1, bI_okT, bI_ok, bI_ok0, bI_ok1, iM_r, iM_w, am_u_u, am_u_eq, am_u_na, am_u_ni, ne_eq, not_true_eq_false, not_false_eq_true, forall_const, false_imp_iff, Classical.not_not, Int.reduceLE, Int.reduceLT, Int.reduceEq, Int.reduceNe, Int.reduceAdd, Int.reduceSub, Int.reduceMul, Int.reduceNeg, Int.reduceToNat, Nat.reduceAdd, Nat.reduceMul, Nat.reduceEqDiff, Nat.reduceLT, Nat.reduceLeDiff, true_imp_iff, decide_eq_true_eq, decide_eq_false_iff_not, Bool.not_eq_false, Bool.not_eq_true, Bool.not_eq_false', Bool.not_eq_true', cp_1 hp, hn]
    exact ⟨fun w => by omega, fun _ => ⟨fun _ => hth _ _ (by omega) (by omega), fun w => by omega⟩⟩
  · simp (disch := (first | exact am_rf_ref | exact am_rf_rf | exact am_cat_int | exact am_cat_ref | exact am_cat_rf | exact am_rf_null | exact am_cat_null | omega)) only [e94_0, e94_1, e94_4, e94_5, e94_6, e94_9, e94_10, e94_13, e94_14, List.length_cons, List.length_nil, Nat.zero_add, Nat.reduceAdd, Nat.reduceLeDiff, Nat.zero_le, Option.toList_some, Option.toList_none, List.cons_append, List.nil_append, am_rf_ref, am_rf_rf, am_rf_null, am_cat_rf, am_cat_ref, am_cat_int, am_cat_null, va_rf_some, va_rf_none, true_and, and_true, true_or, or_true, am_ia10, TY9, TY10, TY11, TY12, TY13, TY14, TY15, TY16, TY17, TY18, TY19, TY20, TY21, TY22, TY23, TY24, TY25, TY26, TY27, TY28, TY29, TY30, TY31, TY32, TY33, TY34, TY35, TY36, TY37, TY38, TY39, TY40, TY41, TY42, TY43, TY100, TY106, TY107, TY108, TY109, TY110, TY111, TY112, TY113, TY114, TY115, TY116, TY117, TY118, TY119, TY120, TY124, TY125, TY126, TY127, TY128, TY129, TY131, TY132, TY133, TY134, TY135, TY136, TY137, TY138, TY139, TY140, TY141, TY142, TY143, TY144, TY145, TY146, TY147, TY150, TY154, TY155, TY160, iI_lit, iI_0, iI_1, iI_neg, iI_nI, iI_add, iI_sub, iI_mul, iI_lt, iI_le, iI_eq, iI_clamp, iI_in, nat_toNat, bI_0, bI_1, bI_okT, bI_ok, bI_ok0, bI_ok1, iM_r, iM_w, am_u_u, am_u_eq, am_u_na, am_u_ni, ne_eq, not_true_eq_false, not_false_eq_true, forall_const, false_imp_iff, Classical.not_not, Int.reduceLE, Int.reduceLT, Int.reduceEq, Int.reduceNe, Int.reduceAdd, Int.reduceSub, Int.reduceMul, Int.reduceNeg, Int.reduceToNat, Nat.reduceAdd, Nat.reduceMul, Nat.reduceEqDiff, Nat.reduceLT, Nat.reduceLeDiff, true_imp_iff, decide_eq_true_eq, decide_eq_false_iff_not, Bool.not_eq_false, Bool.not_eq_true, Bool.not_eq_false', Bool.not_eq_true', cp_1 hp]
    exact ⟨fun w => hth _ _ (by omega) (by omega), fun _ => ⟨fun w => by omega, fun w => hth _ _ (by omega) (by omega)⟩⟩
theorem f94 (hW : WFi K M) (hK : 0 ≤ K ∧ K ≤ 1000000) (hun : -1 ≤ M 100 50 ∧ M 100 50 ≤ 9) (h : RC K M sh se I P B) (he : 0 ≤ M 100 29 ∧ M 100 29 ≤ 4) (hk : 100 ≤ k) (hs : 2000 ≤ s) (hd : 9 ≤ d) {e : Nat} (hg : (e : Int) < M 100 29) (hWe : WFi K (kpF M e)) :
    am_Ev 94 0 [some (.ref 10), some (.int (iI e)), none] [] B I P G k s d (cq K (USE M e) (.inl (some (.int (iI (kfc M e 10))))) I P G) := by
  have hp := rc_p h
  have hf := rc_f h
  have hB := rc_b h
  have hcap := fm_cap hf
  have he4 : e < 4 := by omega
  obtain ⟨q1, q2, q3, q4⟩ := ((rc_e h).2 e he4).1 hg
  have ty := ELty he4 q2
  have l2 := q2
  unfold EL at l2
  simp (disch := (first | exact am_rf_ref | exact am_rf_rf | exact am_cat_int | exact am_cat_ref | exact am_cat_rf | exact am_rf_null | exact am_cat_null | omega)) only [e94_0, e94_1, e94_4, e94_5, e94_6, e94_9, e94_10, e94_13, e94_14, e94_17, e94_18, e94_21, e94_22, List.length_cons, List.length_nil, Nat.zero_add, Nat.reduceAdd, Nat.reduceLeDiff, Nat.zero_le, Option.toList_some, Option.toList_none, List.cons_append, List.nil_append, am_rf_ref, am_rf_rf, am_rf_null, am_cat_rf, am_cat_ref, am_cat_int, am_cat_null, va_rf_some, va_rf_none, true_and, and_true, true_or, or_true, am_ia10, TY9, TY10, TY11, TY12, TY13, TY14, TY15, TY16, TY17, TY18, TY19, TY20, TY21, TY22, TY23, TY24, TY25, TY26, TY27, TY28, TY29, TY30, TY31, TY32, TY33, TY34, TY35, TY36, TY37, TY38, TY39, TY40, TY41, TY42, TY43, TY100, TY106, TY107, TY108, TY109, TY110, TY111, TY112, TY113, TY114, TY115, TY116, TY117, TY118, TY119, TY120, TY124, TY125, TY126, TY127, TY128, TY129, TY131, TY132, TY133, TY134, TY135, TY136, TY137, TY138, TY139, TY140, TY141, TY142, TY143, TY144, TY145, TY146, TY147, TY150, TY154, TY155, TY160, iI_lit, iI_0, iI_1, iI_neg, iI_nI, iI_add, iI_sub, iI_mul, iI_lt, iI_le, iI_eq, iI_clamp, iI_in, nat_toNat, bI_0, bI_1, bI_okT, bI_ok, bI_ok0, bI_ok1, iM_r, iM_w, am_u_u, am_u_eq, am_u_na, am_u_ni, ne_eq, not_true_eq_false, not_false_eq_true, forall_const, false_imp_iff, Classical.not_not, Int.reduceLE, Int.reduceLT, Int.reduceEq, Int.reduceNe, Int.reduceAdd, Int.reduceSub, Int.reduceMul, Int.reduceNeg, Int.reduceToNat, Nat.reduceAdd, Nat.reduceMul, Nat.reduceEqDiff, Nat.reduceLT, Nat.reduceLeDiff, true_imp_iff, decide_eq_true_eq, decide_eq_false_iff_not, Bool.not_eq_false, Bool.not_eq_true, Bool.not_eq_false', Bool.not_eq_true', cp_1 hp, q1]
  refine ⟨fun w => by omega, fun _ => ⟨fun _ => ?_, fun w => by omega⟩⟩
  simp (disch := (first | exact am_rf_ref | exact am_rf_rf | exact am_cat_int | exact am_cat_ref | exact am_cat_rf | exact am_rf_null | exact am_cat_null | omega)) only [e94_23, e94_24, e94_25, e94_25r, e94_25n, e94_28, e94_31, e94_39, e94_40, e94_43, List.length_cons, List.length_nil, Nat.zero_add, Nat.reduceAdd, Nat.reduceLeDiff, Nat.zero_le, Option.toList_some, Option.toList_none, List.cons_append, List.nil_append, am_rf_ref, am_rf_rf, am_rf_null, am_cat_rf, am_cat_ref, am_cat_int, am_cat_null, va_rf_some, va_rf_none, true_and, and_true, true_or, or_true, am_ia10, TY9, TY10, TY11, TY12, TY13, TY14, TY15, TY16, TY17, TY18, TY19, TY20, TY21, TY22, TY23, TY24, TY25, TY26, TY27, TY28, TY29, TY30, TY31, TY32, TY33, TY34, TY35, TY36, TY37, TY38, TY39, TY40, TY41, TY42, TY43, TY100, TY106, TY107, TY108, TY109, TY110, TY111, TY112, TY113, TY114, TY115, TY116, TY117, TY118, TY119, TY120, TY124, TY125, TY126, TY127, TY128, TY129, TY131, TY132, TY133, TY134, TY135, TY136, TY137, TY138, TY139, TY140, TY141, TY142, TY143, TY144, TY145, TY146, TY147, TY150, TY154, TY155, TY160, iI_lit, iI_0, iI_1, iI_neg, iI_nI, iI_add, iI_sub, iI_mul, iI_lt, iI_le, iI_eq, iI_clamp, iI_in, nat_toNat, bI_0, bI_1, bI_okT, bI_ok, bI_ok0, bI_ok1, iM_r, iM_w, am_u_u, am_u_eq, am_u_na, am_u_ni, ne_eq, not_true_eq_false, not_false_eq_true, forall_const, false_imp_iff, Classical.not_not, Int.reduceLE, Int.reduceLT, Int.reduceEq, Int.reduceNe, Int.reduceAdd, Int.reduceSub, Int.reduceMul, Int.reduceNeg, Int.reduceToNat, Nat.reduceAdd, Nat.reduceMul, Nat.reduceEqDiff, Nat.reduceLT, Nat.reduceLeDiff, true_imp_iff, decide_eq_true_eq, decide_eq_false_iff_not, Bool.not_eq_false, Bool.not_eq_true, Bool.not_eq_false', Bool.not_eq_true', cp_0 hp]
  refine k94_44 am_cat_ref (fun o B2 I2 P2 G2 => ∃ sn, o = .inl none ∧ B ≤ B2 ∧ FM (kpF M e) sn I2 P2 B2 ∧ (sn 0 0 = sh 0 0 ∨ B ≤ sn 0 0) ∧ (∀ a i, (a < B ∨ a % 4096 ≥ 3900) → a ≠ 11 → a ≠ 12 → a ≠ 13 → I2 a i = I a i) ∧ (∀ a i, (a < B ∨ a % 4096 ≥ 3900) → a ≠ 12 → a ≠ 14 → a ≠ sh 0 0 → P2 a i = P a i) ∧ ∀ a i, (a < B ∨ a % 4096 ≥ 3900) → G2 a i = G a i) 50 1300 8 ty11 (Nat.le_of_ble_eq_true rfl) (by omega) (by omega) (by omega)
    (c8 (e := 0) (eo := e + 1) (f := 11) (al := 12) (na := 13) (fa := 14) hWe hB ty11 ty12 TY13 TY14 ty.1 ty.2.1 ty.2.2.1 ty.2.2.2 ⟨by omega, by omega, by omega, by omega⟩ ⟨by omega, by omega, by omega, by omega⟩ ⟨fm_1 hf, fm_2 hf, fm_3 hf⟩ (fm_l hf) hcap ⟨by omega, by omega, by omega, by omega⟩ (by rcases q3 with w | w; (by_cases u : sh 0 0 = 9; exact Or.inl u; exact Or.inr (by omega)); exact Or.inr (fun u => w u.symm)) q4 (by omega) (by omega) (by omega) (by omega) (by omega) (fun sn B2 I2 P2 G2 h1 h2 h3 h4 h5 h6 => ⟨sn, rfl, h1, h2, h3, h4, h5, h6⟩)) ?_ ?_
  · rintro v B2 I2 P2 G2 ⟨sn, e0, h1, h2, h3, h4, h5, h6⟩
    cases e0
    have hPc : ∀ b j, 10 ≤ b → b < 44 → b ≠ 12 → b ≠ 14 → P2 b j = P b j := fun b j w1 w2 w3 w4 => h5 b j (by omega) w3 w4 (by rcases hcap with w | w <;> omega)
    have hp' : CP P2 := CP_cg hp (fun b j hb => hPc b j (by omega) (by omega) (by omega) (by omega))
    simp (disch := (first | exact am_rf_ref | exact am_rf_rf | exact am_cat_int | exact am_cat_ref | exact am_cat_rf | exact am_rf_null | exact am_cat_null | omega)) only [e94_47, List.length_cons, List.length_nil, Nat.zero_add, Nat.reduceAdd, Nat.reduceLeDiff, Nat.zero_le, Option.toList_some, Option.toList_none, List.cons_append, List.nil_append, am_rf_ref, am_rf_rf, am_rf_null, am_cat_rf, am_cat_ref, am_cat_int, am_cat_null, va_rf_some, va_rf_none, true_and, and_true, true_or, or_true, am_ia10, TY9, TY10, TY11, TY12, TY13, TY14, TY15, TY16, TY17, TY18, TY19, TY20, TY21, TY22, TY23, TY24, TY25, TY26, TY27, TY28, TY29, TY30, TY31, TY32, TY33, TY34, TY35, TY36, TY37, TY38, TY39, TY40, TY41, TY42, TY43, TY100, TY106, TY107, TY108, TY109, TY110, TY111, TY112, TY113, TY114, TY115, TY116, TY117, TY118, TY119, TY120, TY124, TY125, TY126, TY127, TY128, TY129, TY131, TY132, TY133, TY134, TY135, TY136, TY137, TY138, TY139, TY140, TY141, TY142, TY143, TY144, TY145, TY146, TY147, TY150, TY154, TY155, TY160, iI_lit, iI_0, iI_1, iI_neg, iI_nI, iI_add, iI_sub, iI_mul, iI_lt, iI_le, iI_eq, iI_clamp, iI_in, nat_toNat, bI_0, bI_1, bI_okT, bI_ok, bI_ok0, bI_ok1, iM_r, iM_w, am_u_u, am_u_eq, am_u_na, am_u_ni, ne_eq, not_true_eq_false, not_false_eq_true, forall_const, false_imp_iff, Classical.not_not, Int.reduceLE, Int.reduceLT, Int.reduceEq, Int.reduceNe, Int.reduceAdd, Int.reduceSub, Int.reduceMul, Int.reduceNeg, Int.reduceToNat, Nat.reduceAdd, Nat.reduceMul, Nat.reduceEqDiff, Nat.reduceLT, Nat.reduceLeDiff, true_imp_iff, decide_eq_true_eq, decide_eq_false_iff_not, Bool.not_eq_false, Bool.not_eq_true, Bool.not_eq_false', Bool.not_eq_true']
    refine k94_48 (fun o B' I' P' G' => o = .inl none ∧ B2 = B' ∧ P2 = P' ∧ G2 = G' ∧ FG (kpF M e) 10 (M 100 50) I2 I') 0 0 4 ty10 (Nat.le_of_ble_eq_true rfl) (Nat.zero_le _) (Nat.zero_le _) (by omega) (c112 hp' (fm_3 h2) (fm_hN hWe h2) hun (by rw [h4 39 4 (by omega) (by omega) (by omega) (by omega)]; exact rs_u h) (by omega) (fun I' hI' => ⟨rfl, rfl, rfl, rfl, hI'⟩)) ?_ ?_
    · rintro v B3 I' P' G' ⟨e0, rfl, rfl, rfl, hFG⟩
      cases e0
      simp (disch := (first | exact am_rf_ref | exact am_rf_rf | exact am_cat_int | exact am_cat_ref | exact am_cat_rf | exact am_rf_null | exact am_cat_null | omega)) only [e94_51, List.length_cons, List.length_nil, Nat.zero_add, Nat.reduceAdd, Nat.reduceLeDiff, Nat.zero_le, Option.toList_some, Option.toList_none, List.cons_append, List.nil_append, am_rf_ref, am_rf_rf, am_rf_null, am_cat_rf, am_cat_ref, am_cat_int, am_cat_null, va_rf_some, va_rf_none, true_and, and_true, true_or, or_true, am_ia10, TY9, TY10, TY11, TY12, TY13, TY14, TY15, TY16, TY17, TY18, TY19, TY20, TY21, TY22, TY23, TY24, TY25, TY26, TY27, TY28, TY29, TY30, TY31, TY32, TY33, TY34, TY35, TY36, TY37, TY38, TY39, TY40, TY41, TY42, TY43, TY100, TY106, TY107, TY108, TY109, TY110, TY111, TY112, TY113, TY114, TY115, TY116, TY117, TY118, TY119, TY120, TY124, TY125, TY126, TY127, TY128, TY129, TY131, TY132, TY133, TY134, TY135, TY136, TY137, TY138, TY139, TY140, TY141, TY142, TY143, TY144, TY145, TY146, TY147, TY150, TY154, TY155, TY160, iI_lit, iI_0, iI_1, iI_neg, iI_nI, iI_add, iI_sub, iI_mul, iI_lt, iI_le, iI_eq, iI_clamp, iI_in, nat_toNat, bI_0, bI_1, bI_okT, bI_ok, bI_ok0, bI_ok1, iM_r, iM_w, am_u_u, am_u_eq, am_u_na, am_u_ni, ne_eq, not_true_eq_false, not_false_eq_true, forall_const, false_imp_iff, Classical.not_not, Int.reduceLE, Int.reduceLT, Int.reduceEq, Int.reduceNe, Int.reduceAdd, Int.reduceSub, Int.reduceMul, Int.reduceNeg, Int.reduceToNat, Nat.reduceAdd, Nat.reduceMul, Nat.reduceEqDiff, Nat.reduceLT, Nat.reduceLeDiff, true_imp_iff, decide_eq_true_eq, decide_eq_false_iff_not, Bool.not_eq_false, Bool.not_eq_true, Bool.not_eq_false', Bool.not_eq_true']
      refine k94_52 _ 0 0 0 ty10 (Nat.le_of_ble_eq_true rfl) (Nat.zero_le _) (Nat.zero_le _) (by omega) (c110 hp') (am_k5 ?_) am_k6
      have eI : ∀ b j, b ≠ 35 → b ≠ 16 → b ≠ 39 → b ≠ 41 → b ≠ 43 → fgt I' b j = I2 b j := fun b j w1 w2 w3 w4 w5 => by rw [fgt_o _ _ (by omega), FG_o hFG _ _ (by omega)]
      have hF2 := FM_I h2 (I' := fgt I') (fun b j hb => eI b j (by omega) (by omega) (by omega) (by omega) (by omega))
      simp (disch := (first | exact am_rf_ref | exact am_rf_rf | exact am_cat_int | exact am_cat_ref | exact am_cat_rf | exact am_rf_null | exact am_cat_null | omega)) only [e94_55, e94_56, List.length_cons, List.length_nil, Nat.zero_add, Nat.reduceAdd, Nat.reduceLeDiff, Nat.zero_le, Option.toList_some, Option.toList_none, List.cons_append, List.nil_append, am_rf_ref, am_rf_rf, am_rf_null, am_cat_rf, am_cat_ref, am_cat_int, am_cat_null, va_rf_some, va_rf_none, true_and, and_true, true_or, or_true, am_ia10, TY9, TY10, TY11, TY12, TY13, TY14, TY15, TY16, TY17, TY18, TY19, TY20, TY21, TY22, TY23, TY24, TY25, TY26, TY27, TY28, TY29, TY30, TY31, TY32, TY33, TY34, TY35, TY36, TY37, TY38, TY39, TY40, TY41, TY42, TY43, TY100, TY106, TY107, TY108, TY109, TY110, TY111, TY112, TY113, TY114, TY115, TY116, TY117, TY118, TY119, TY120, TY124, TY125, TY126, TY127, TY128, TY129, TY131, TY132, TY133, TY134, TY135, TY136, TY137, TY138, TY139, TY140, TY141, TY142, TY143, TY144, TY145, TY146, TY147, TY150, TY154, TY155, TY160, iI_lit, iI_0, iI_1, iI_neg, iI_nI, iI_add, iI_sub, iI_mul, iI_lt, iI_le, iI_eq, iI_clamp, iI_in, nat_toNat, bI_0, bI_1, bI_okT, bI_ok, bI_ok0, bI_ok1, iM_r, iM_w, am_u_u, am_u_eq, am_u_na, am_u_ni, ne_eq, not_true_eq_false, not_false_eq_true, forall_const, false_imp_iff, Classical.not_not, Int.reduceLE, Int.reduceLT, Int.reduceEq, Int.reduceNe, Int.reduceAdd, Int.reduceSub, Int.reduceMul, Int.reduceNeg, Int.reduceToNat, Nat.reduceAdd, Nat.reduceMul, Nat.reduceEqDiff, Nat.reduceLT, Nat.reduceLeDiff, true_imp_iff, decide_eq_true_eq, decide_eq_false_iff_not, Bool.not_eq_false, Bool.not_eq_true, Bool.not_eq_false', Bool.not_eq_true', cp_0 hp']
      refine k94_59 _ 0 0 1 ty11 (Nat.le_of_ble_eq_true rfl) (Nat.zero_le _) (Nat.zero_le _) (by omega) (c14 hWe hF2 (by omega)) (am_k5 ?_) am_k6
      simp (disch := (first | exact am_rf_ref | exact am_rf_rf | exact am_cat_int | exact am_cat_ref | exact am_cat_rf | exact am_rf_null | exact am_cat_null | omega)) only [e94_62, List.length_cons, List.length_nil, Nat.zero_add, Nat.reduceAdd, Nat.reduceLeDiff, Nat.zero_le, Option.toList_some, Option.toList_none, List.cons_append, List.nil_append, am_rf_ref, am_rf_rf, am_rf_null, am_cat_rf, am_cat_ref, am_cat_int, am_cat_null, va_rf_some, va_rf_none, true_and, and_true, true_or, or_true, am_ia10, TY9, TY10, TY11, TY12, TY13, TY14, TY15, TY16, TY17, TY18, TY19, TY20, TY21, TY22, TY23, TY24, TY25, TY26, TY27, TY28, TY29, TY30, TY31, TY32, TY33, TY34, TY35, TY36, TY37, TY38, TY39, TY40, TY41, TY42, TY43, TY100, TY106, TY107, TY108, TY109, TY110, TY111, TY112, TY113, TY114, TY115, TY116, TY117, TY118, TY119, TY120, TY124, TY125, TY126, TY127, TY128, TY129, TY131, TY132, TY133, TY134, TY135, TY136, TY137, TY138, TY139, TY140, TY141, TY142, TY143, TY144, TY145, TY146, TY147, TY150, TY154, TY155, TY160, iI_lit, iI_0, iI_1, iI_neg, iI_nI, iI_add, iI_sub, iI_mul, iI_lt, iI_le, iI_eq, iI_clamp, iI_in, nat_toNat, bI_0, bI_1, bI_okT, bI_ok, bI_ok0, bI_ok1, iM_r, iM_w, am_u_u, am_u_eq, am_u_na, am_u_ni, ne_eq, not_true_eq_false, not_false_eq_true, forall_const, false_imp_iff, Classical.not_not, Int.reduceLE, Int.reduceLT, Int.reduceEq, Int.reduceNe, Int.reduceAdd, Int.reduceSub, Int.reduceMul, Int.reduceNeg, Int.reduceToNat, Nat.reduceAdd, Nat.reduceMul, Nat.reduceEqDiff, Nat.reduceLT, Nat.reduceLeDiff, true_imp_iff, decide_eq_true_eq, decide_eq_false_iff_not, Bool.not_eq_false, Bool.not_eq_true, Bool.not_eq_false', Bool.not_eq_true']
      refine ⟨?_, ⟨sn, se, fun M' hM' => ?_⟩, fun b hb j => ⟨?_, ?_, ?_⟩⟩
      · rw [kfc_e (M := M) (e := e) (M' := kpF M e) (fun j hj => kpF_fc M e 110 j (by omega)) 10 (Nat.le_refl _)]
      · have hGN := USE_GN hM'
        have hFG' : FG M' 10 (M 100 50) I2 I' := FG_cg hFG (fun j hj => by rw [hM'.2.2.2.2.1 110 j (by omega) (by omega) hj, kpF_fc M e 110 j (by omega)])
        have hRS := RS_gone hK.1 (rc_s h) (fun b j w1 w2 => h4 b j (by omega) (by omega) (by omega) (by omega)) hFG' hGN
        have hRM := RM_gone (rc_m h) (fun j => h4 43 j (by omega) (by omega) (by omega) (by omega)) hFG' hGN
        have hFM : FM M' sn (fgt I') P2 B2 := FR_ag hWe hF2 (by rw [kpF_1]; exact hM'.2.2.1.2.1) (by rw [kpF_4]; exact hM'.2.2.1.2.2.1) (fun k hk => by
            rw [kpF_4] at hk
            obtain ⟨w1, w2, w3⟩ := hM'.2.2.2.1 k hk
            rw [kpF_so M e 106 k (by omega), kpF_so M e 107 k (by omega), kpF_so M e 108 k (by omega)]; exact ⟨w1, w2, w3⟩) (fun r j w1 w2 w3 => by rw [kpF_fc M e r j ⟨w1, w2⟩]; exact hM'.2.2.2.2.1 r j w1 w2 w3) (fun i hi => by rw [kpF_sy]; exact hM'.2.2.2.2.2.1 i hi)
        refine RC_film2 h hFM hM'.2.2.1.2.2.2 h1 ⟨hM'.2.1 _ (by omega) (by omega) (by omega) (by omega) (by omega) (by omega), hM'.2.1 _ (by omega) (by omega) (by omega) (by omega) (by omega) (by omega), hM'.2.1 _ (by omega) (by omega) (by omega) (by omega) (by omega) (by omega)⟩ (fun r i w1 w2 => hM'.1 r i (by omega) (by omega) (by omega) (by omega)) (fgt_35 _) (fgt_16 _) (fun j => ?_) (fun b j w1 w2 w3 w4 w5 => hPc b j w1 w2 w4 w5) ?_ ?_ h3 (fun b w1 w2 w3 w4 w5 j => ⟨?_, ?_⟩)
        · rw [eI 10 j (by omega) (by omega) (by omega) (by omega) (by omega)]; exact h4 10 j (by omega) (by omega) (by omega) (by omega)
        · exact RS_cg hRS (Int.le_refl _) ⟨rfl, rfl, rfl, rfl, rfl⟩ (fun _ => rfl) (fun _ => rfl) (fun a w1 w2 j => fgt_o _ _ (by omega))
        · exact RM_cg hRM (fun _ => rfl) (fun j => fgt_o _ _ (by omega))
        · rw [eI b j (by omega) (by omega) (by omega) (by omega) (by omega)]; exact h4 b j (Or.inl w2) (by omega) (by omega) (by omega)
        · exact h5 b j (Or.inl w2) (by omega) (by omega) w3
      · rw [eI b j (by omega) (by omega) (by omega) (by omega) (by omega)]; exact h4 b j (by omega) (by omega) (by omega) (by omega)
      · exact h5 b j (by omega) (by omega) (by omega) (by rcases hcap with w | w <;> omega)
      · exact h6 b j (by omega)
    · rintro v B3 I' P' G' ⟨e0, _⟩; cases e0
  · rintro v B2 I2 P2 G2 ⟨sn, e0, _⟩; cases e0
theorem f93n (h : RC K M sh se I P B) (he : M 100 29 = 4) (hk : 100 ≤ k) (hs : 2000 ≤ s) :
    am_Ev 93 0 [some (.ref 10), none, none] [] B I P G k s d (cq K (fun M' => M' = (dno M 1).1) (oc 1 0 0 (dno M 1)) I P G) := by
  have hp := rc_p h
  have h2 : I 10 2 = iI 4 := by rw [← he]; exact (rc_e h).1
  simp (disch := (first | exact am_rf_ref | exact am_rf_rf | exact am_cat_int | exact am_cat_ref | exact am_cat_rf | exact am_rf_null | exact am_cat_null | omega)) only [e93_0, e93_1, e93_4, e93_5, e93_6, e93_9, e93_10, e93_11, e93_14, e93_15, e93_18, List.length_cons, List.length_nil, Nat.zero_add, Nat.reduceAdd, Nat.reduceLeDiff, Nat.zero_le, Option.toList_some, Option.toList_none, List.cons_append, List.nil_append, am_rf_ref, am_rf_rf, am_rf_null, am_cat_rf, am_cat_ref, am_cat_int, am_cat_null, va_rf_some, va_rf_none, true_and, and_true, true_or, or_true, am_ia10, TY9, TY10, TY11, TY12, TY13, TY14, TY15, TY16, TY17, TY18, TY19, TY20, TY21, TY22, TY23, TY24, TY25, TY26, TY27, TY28, TY29, TY30, TY31, TY32, TY33, TY34, TY35, TY36, TY37, TY38, TY39, TY40, TY41, TY42, TY43, TY100, TY106, TY107, TY108, TY109, TY110, TY111, TY112, TY113, TY114, TY115, TY116, TY117, TY118, TY119, TY120, TY124, TY125, TY126, TY127, TY128, TY129, TY131, TY132, TY133, TY134, TY135, TY136, TY137, TY138, TY139, TY140, TY141, TY142, TY143, TY144, TY145, TY146, TY147, TY150, TY154, TY155, TY160, iI_lit, iI_0, iI_1, iI_neg, iI_nI, iI_add, iI_sub, iI_mul, iI_lt, iI_le, iI_eq, iI_clamp, iI_in, nat_toNat, bI_0, bI_1, bI_okT, bI_ok, bI_ok0, bI_ok1, iM_r, iM_w, am_u_u, am_u_eq, am_u_na, am_u_ni, ne_eq, not_true_eq_false, not_false_eq_true, forall_const, false_imp_iff, Classical.not_not, Int.reduceLE, Int.reduceLT, Int.reduceEq, Int.reduceNe, Int.reduceAdd, Int.reduceSub, Int.reduceMul, Int.reduceNeg, Int.reduceToNat, Nat.reduceAdd, Nat.reduceMul, Nat.reduceEqDiff, Nat.reduceLT, Nat.reduceLeDiff, true_imp_iff, decide_eq_true_eq, decide_eq_false_iff_not, Bool.not_eq_false, Bool.not_eq_true, Bool.not_eq_false', Bool.not_eq_true', cp_1 hp, h2]
  exact ⟨fun w => by omega, fun _ => ⟨by omega, by omega, cq_no h rfl (Or.inl ⟨rfl, rfl⟩)⟩⟩
theorem f93 (hW : WFi K M) (h : RC K M sh se I P B) (hk : 100 ≤ k) (hs : 2000 ≤ s) (hd : 9 ≤ d) {e : Nat} (he4 : e < 4) (hg : M 100 29 = e) (hWe : ∀ e' : Nat, e' < e → WFi K (kpF M e')) :
    am_Ev 93 0 [some (.ref 10), none, none] [] B I P G k s d (cq K (EDI M e) (.inl (some (.int (iI e)))) I P G) := by
  have hp := rc_p h
  have hf := rc_f h
  have hB := rc_b h
  have hcap := fm_cap hf
  have h29 : I 10 2 = iI e := by rw [← hg]; exact (rc_e h).1
  simp (disch := (first | exact am_rf_ref | exact am_rf_rf | exact am_cat_int | exact am_cat_ref | exact am_cat_rf | exact am_rf_null | exact am_cat_null | omega)) only [e93_0, e93_1, e93_4, e93_5, e93_6, e93_9, e93_10, e93_11, e93_14, e93_15, List.length_cons, List.length_nil, Nat.zero_add, Nat.reduceAdd, Nat.reduceLeDiff, Nat.zero_le, Option.toList_some, Option.toList_none, List.cons_append, List.nil_append, am_rf_ref, am_rf_rf, am_rf_null, am_cat_rf, am_cat_ref, am_cat_int, am_cat_null, va_rf_some, va_rf_none, true_and, and_true, true_or, or_true, am_ia10, TY9, TY10, TY11, TY12, TY13, TY14, TY15, TY16, TY17, TY18, TY19, TY20, TY21, TY22, TY23, TY24, TY25, TY26, TY27, TY28, TY29, TY30, TY31, TY32, TY33, TY34, TY35, TY36, TY37, TY38, TY39, TY40, TY41, TY42, TY43, TY100, TY106, TY107, TY108, TY109, TY110, TY111, TY112, TY113, TY114, TY115, TY116, TY117, TY118, TY119, TY120, TY124, TY125, TY126, TY127, TY128, TY129, TY131, TY132, TY133, TY134, TY135, TY136, TY137, TY138, TY139, TY140, TY141, TY142, TY143, TY144, TY145, TY146, TY147, TY150, TY154, TY155, TY160, iI_lit, iI_0, iI_1, iI_neg, iI_nI, iI_add, iI_sub, iI_mul, iI_lt, iI_le, iI_eq, iI_clamp, iI_in, nat_toNat, bI_0, bI_1, bI_okT, bI_ok, bI_ok0, bI_ok1, iM_r, iM_w, am_u_u, am_u_eq, am_u_na, am_u_ni, ne_eq, not_true_eq_false, not_false_eq_true, forall_const, false_imp_iff, Classical.not_not, Int.reduceLE, Int.reduceLT, Int.reduceEq, Int.reduceNe, Int.reduceAdd, Int.reduceSub, Int.reduceMul, Int.reduceNeg, Int.reduceToNat, Nat.reduceAdd, Nat.reduceMul, Nat.reduceEqDiff, Nat.reduceLT, Nat.reduceLeDiff, true_imp_iff, decide_eq_true_eq, decide_eq_false_iff_not, Bool.not_eq_false, Bool.not_eq_true, Bool.not_eq_false', Bool.not_eq_true', cp_1 hp, h29]
  refine ⟨fun w => by omega, fun _ => ⟨fun _ => ?_, fun w => by omega⟩⟩
  obtain ⟨f, hfe⟩ : ∃ f, f = 4096 * (B + 1) + (401 + e) := ⟨_, rfl⟩
  obtain ⟨al, hal⟩ : ∃ al, al = 4096 * (B + 1) + (411 + e) := ⟨_, rfl⟩
  obtain ⟨na, hna⟩ : ∃ na, na = 4096 * (B + 1) + (421 + e) := ⟨_, rfl⟩
  obtain ⟨fa, hfa⟩ : ∃ fa, fa = 4096 * (B + 1) + (431 + e) := ⟨_, rfl⟩
  have ty := tyq_e (B + 1) e (by omega) he4
  rw [← hfe, ← hal, ← hna, ← hfa] at ty
  obtain ⟨tf, tal, tna, tfa⟩ := ty
  have tf1 : (am_TY f).1 = 2 := by rw [tf]
  have tal1 : (am_TY al).1 = 0 := by rw [tal]
  simp (disch := (first | exact am_rf_ref | exact am_rf_rf | exact am_cat_int | exact am_cat_ref | exact am_cat_rf | exact am_rf_null | exact am_cat_null | omega)) only [e93_29, List.length_cons, List.length_nil, Nat.zero_add, Nat.reduceAdd, Nat.reduceLeDiff, Nat.zero_le, Option.toList_some, Option.toList_none, List.cons_append, List.nil_append, am_rf_ref, am_rf_rf, am_rf_null, am_cat_rf, am_cat_ref, am_cat_int, am_cat_null, va_rf_some, va_rf_none, true_and, and_true, true_or, or_true, am_ia10, TY9, TY10, TY11, TY12, TY13, TY14, TY15, TY16, TY17, TY18, TY19, TY20, TY21, TY22, TY23, TY24, TY25, TY26, TY27, TY28, TY29, TY30, TY31, TY32, TY33, TY34, TY35, TY36, TY37, TY38, TY39, TY40, TY41, TY42, TY43, TY100, TY106, TY107, TY108, TY109, TY110, TY111, TY112, TY113, TY114, TY115, TY116, TY117, TY118, TY119, TY120, TY124, TY125, TY126, TY127, TY128, TY129, TY131, TY132, TY133, TY134, TY135, TY136, TY137, TY138, TY139, TY140, TY141, TY142, TY143, TY144, TY145, TY146, TY147, TY150, TY154, TY155, TY160, iI_lit, iI_0, iI_1, iI_neg, iI_nI, iI_add, iI_sub, iI_mul, iI_lt, iI_le, iI_eq, iI_clamp, iI_in, nat_toNat, bI_0, bI_1, bI_okT, bI_ok, bI_ok0, bI_ok1, iM_r, iM_w, am_u_u, am_u_eq, am_u_na, am_u_ni, ne_eq, not_true_eq_false, not_false_eq_true, forall_const, false_imp_iff, Classical.not_not, Int.reduceLE, Int.reduceLT, Int.reduceEq, Int.reduceNe, Int.reduceAdd, Int.reduceSub, Int.reduceMul, Int.reduceNeg, Int.reduceToNat, Nat.reduceAdd, Nat.reduceMul, Nat.reduceEqDiff, Nat.reduceLT, Nat.reduceLeDiff, true_imp_iff, decide_eq_true_eq, decide_eq_false_iff_not, Bool.not_eq_false, Bool.not_eq_true, Bool.not_eq_false', Bool.not_eq_true']
  refine ⟨by omega, f, by omega, by omega, tf1, by rw [tf]; omega, ?_⟩
  rw [show (am_TY f).2 = 4 by rw [tf]]
  simp (disch := (first | exact am_rf_ref | exact am_rf_rf | exact am_cat_int | exact am_cat_ref | exact am_cat_rf | exact am_rf_null | exact am_cat_null | omega)) only [e93_32, List.length_cons, List.length_nil, Nat.zero_add, Nat.reduceAdd, Nat.reduceLeDiff, Nat.zero_le, Option.toList_some, Option.toList_none, List.cons_append, List.nil_append, am_rf_ref, am_rf_rf, am_rf_null, am_cat_rf, am_cat_ref, am_cat_int, am_cat_null, va_rf_some, va_rf_none, true_and, and_true, true_or, or_true, am_ia10, TY9, TY10, TY11, TY12, TY13, TY14, TY15, TY16, TY17, TY18, TY19, TY20, TY21, TY22, TY23, TY24, TY25, TY26, TY27, TY28, TY29, TY30, TY31, TY32, TY33, TY34, TY35, TY36, TY37, TY38, TY39, TY40, TY41, TY42, TY43, TY100, TY106, TY107, TY108, TY109, TY110, TY111, TY112, TY113, TY114, TY115, TY116, TY117, TY118, TY119, TY120, TY124, TY125, TY126, TY127, TY128, TY129, TY131, TY132, TY133, TY134, TY135, TY136, TY137, TY138, TY139, TY140, TY141, TY142, TY143, TY144, TY145, TY146, TY147, TY150, TY154, TY155, TY160, iI_lit, iI_0, iI_1, iI_neg, iI_nI, iI_add, iI_sub, iI_mul, iI_lt, iI_le, iI_eq, iI_clamp, iI_in, nat_toNat, bI_0, bI_1, bI_okT, bI_ok, bI_ok0, bI_ok1, iM_r, iM_w, am_u_u, am_u_eq, am_u_na, am_u_ni, ne_eq, not_true_eq_false, not_false_eq_true, forall_const, false_imp_iff, Classical.not_not, Int.reduceLE, Int.reduceLT, Int.reduceEq, Int.reduceNe, Int.reduceAdd, Int.reduceSub, Int.reduceMul, Int.reduceNeg, Int.reduceToNat, Nat.reduceAdd, Nat.reduceMul, Nat.reduceEqDiff, Nat.reduceLT, Nat.reduceLeDiff, true_imp_iff, decide_eq_true_eq, decide_eq_false_iff_not, Bool.not_eq_false, Bool.not_eq_true, Bool.not_eq_false', Bool.not_eq_true']
  refine k93_33 (fun o B' I' P' G' => o = .inl none ∧ B' = fa + 1 ∧ I' f 0 = iI 600 ∧ (P' f 1 = some al ∧ P' f 2 = some na ∧ P' f 3 = some fa) ∧ P' al 1 = some 9 ∧ I' al 2 = iI 0 ∧ ∀ a i, a ≠ f → a ≠ al → a ≠ na → a ≠ fa → I' a i = I a i ∧ P' a i = P a i ∧ G' a i = G a i) 3 23 3 (Nat.le_of_ble_eq_true rfl) (by omega) (by omega) (by omega)
    (c7 tf1 tal tna tfa ⟨by omega, by omega, by omega, by omega⟩ ⟨by omega, by omega, by omega⟩ (by omega) (by omega) (by omega) (fun I' P' G' h1 h2 h3 h4 h5 h6 h7 => ⟨rfl, rfl, h1, h2, h3, h4, fun a i w1 w2 w3 w4 => by
      obtain ⟨u1, u2, u3⟩ := h7 a i w1 w2 w3 w4
      exact ⟨u1.trans (am_c_na _ _ _ w1), u2.trans (am_c_na _ _ _ w1), u3⟩⟩)) ?_ ?_
  · rintro v B1 I1 P1 G1 ⟨e0, rfl, n1, n2, n3, n4, n5⟩
    cases e0
    have o1 : ∀ a i, (a < B ∨ a % 4096 ≥ 3900) → I1 a i = I a i ∧ P1 a i = P a i ∧ G1 a i = G a i := fun a i w => n5 a i (by omega) (by omega) (by omega) (by omega)
    have hp1 : CP P1 := CP_cg hp (fun b j hb => (o1 b j (by omega)).2.1)
    have hroles : ∀ a, (a = 11 ∨ a = 12 ∨ a = 13 ∨ a = 14 ∨ (a = sh 0 0 ∧ a ≠ 9) ∨ (∃ k : Nat, (k : Int) < M 100 4 ∧ a = sh 1 k) ∨ ∃ j, j < 10 ∧ M 110 j = 1 ∧ (a = sh 2 j ∨ a = sh 3 j)) → a < B := by
      intro a ha
      rcases ha with rfl | rfl | rfl | rfl | ⟨rfl, w⟩ | ⟨k, w, rfl⟩ | ⟨j, w1, w2, w3⟩
      · omega
      · omega
      · omega
      · omega
      · rcases (fm_l hf).2.2.2.1 with u | u
        · omega
        · exact u.2.2.2.2.2
      · exact (fm_s hf k w).2.2.2
      · have u := (fm_f1 hf j w1 w2).2.1
        unfold FL at u
        rcases w3 with rfl | rfl <;> omega
    have hf1 : FM M sh I1 P1 (fa + 1) := FR_cg hf (by omega) (fun a ha j => ⟨(o1 a j (Or.inl (hroles a ha))).1, (o1 a j (Or.inl (hroles a ha))).2.1⟩)
    simp (disch := (first | exact am_rf_ref | exact am_rf_rf | exact am_cat_int | exact am_cat_ref | exact am_cat_rf | exact am_rf_null | exact am_cat_null | omega)) only [e93_36, e93_37, e93_38, e93_39, List.length_cons, List.length_nil, Nat.zero_add, Nat.reduceAdd, Nat.reduceLeDiff, Nat.zero_le, Option.toList_some, Option.toList_none, List.cons_append, List.nil_append, am_rf_ref, am_rf_rf, am_rf_null, am_cat_rf, am_cat_ref, am_cat_int, am_cat_null, va_rf_some, va_rf_none, true_and, and_true, true_or, or_true, am_ia10, TY9, TY10, TY11, TY12, TY13, TY14, TY15, TY16, TY17, TY18, TY19, TY20, TY21, TY22, TY23, TY24, TY25, TY26, TY27, TY28, TY29, TY30, TY31, TY32, TY33, TY34, TY35, TY36, TY37, TY38, TY39, TY40, TY41, TY42, TY43, TY100, TY106, TY107, TY108, TY109, TY110, TY111, TY112, TY113, TY114, TY115, TY116, TY117, TY118, TY119, TY120, TY124, TY125, TY126, TY127, TY128, TY129, TY131, TY132, TY133, TY134, TY135, TY136, TY137, TY138, TY139, TY140, TY141, TY142, TY143, TY144, TY145, TY146, TY147, TY150, TY154, TY155, TY160, iI_lit, iI_0, iI_1, iI_neg, iI_nI, iI_add, iI_sub, iI_mul, iI_lt, iI_le, iI_eq, iI_clamp, iI_in, nat_toNat, bI_0, bI_1, bI_okT, bI_ok, bI_ok0, bI_ok1, iM_r, iM_w, am_u_u, am_u_eq, am_u_na, am_u_ni, ne_eq, not_true_eq_false, not_false_eq_true, forall_const, false_imp_iff, Classical.not_not, Int.reduceLE, Int.reduceLT, Int.reduceEq, Int.reduceNe, Int.reduceAdd, Int.reduceSub, Int.reduceMul, Int.reduceNeg, Int.reduceToNat, Nat.reduceAdd, Nat.reduceMul, Nat.reduceEqDiff, Nat.reduceLT, Nat.reduceLeDiff, true_imp_iff, decide_eq_true_eq, decide_eq_false_iff_not, Bool.not_eq_false, Bool.not_eq_true, Bool.not_eq_false', Bool.not_eq_true', cp_0 hp1]
    refine k93_42 am_cat_ref (fun o B2 I2 P2 G2 => ∃ sn, o = .inl none ∧ fa + 1 ≤ B2 ∧ FR M sn (e + 1) f al na fa I2 P2 B2 ∧ (sn 0 0 = 9 ∨ fa + 1 ≤ sn 0 0) ∧ (∀ a i, (a < fa + 1 ∨ a % 4096 ≥ 3900) → a ≠ f → a ≠ al → a ≠ na → I2 a i = I1 a i) ∧ (∀ a i, (a < fa + 1 ∨ a % 4096 ≥ 3900) → a ≠ al → a ≠ fa → a ≠ 9 → P2 a i = P1 a i) ∧ ∀ a i, (a < fa + 1 ∨ a % 4096 ≥ 3900) → G2 a i = G1 a i) 50 1300 8 tf1 (Nat.le_of_ble_eq_true rfl) (by omega) (by omega) (by omega)
      (c8 (e := e + 1) (eo := 0) (arr := 9) (n := 0) (rs := fun _ => 0) hW (by omega) tf1 tal1 tna tfa ty11 ty12 TY13 TY14 ⟨by omega, by omega, by omega, by omega⟩ ⟨by omega, by omega, by omega, by omega⟩ n2 ⟨n3, n4, by omega, Or.inl ⟨rfl, rfl⟩, fun k hk => by omega⟩ (Or.inl rfl) ⟨by omega, by omega, by omega, by omega⟩ (Or.inl rfl) hf1 (by omega) (by omega) (by omega) (by omega) (by omega) (fun sn B2 I2 P2 G2 h1 h2 h3 h4 h5 h6 => ⟨sn, rfl, h1, h2, h3, h4, h5, h6⟩)) ?_ ?_
    · rintro v B2 I2 P2 G2 ⟨sn, e0, h1, h2, h3, h4, h5, h6⟩
      cases e0
      have oI : ∀ a i, (a < B ∨ a % 4096 ≥ 3900) → I2 a i = I a i := fun a i w => (h4 a i (by omega) (by omega) (by omega) (by omega)).trans (o1 a i w).1
      have oP : ∀ a i, (a < B ∨ a % 4096 ≥ 3900) → a ≠ 9 → P2 a i = P a i := fun a i w w2 => (h5 a i (by omega) (by omega) (by omega) w2).trans (o1 a i w).2.1
      have p15 : P2 10 1 = some 15 := by rw [oP 10 1 (by omega) (by omega)]; exact cp_1 hp
      simp (disch := (first | exact am_rf_ref | exact am_rf_rf | exact am_cat_int | exact am_cat_ref | exact am_cat_rf | exact am_rf_null | exact am_cat_null | omega)) only [e93_45, e93_46, e93_49, e93_50, e93_51, e93_51r, e93_51n, e93_52, e93_53, e93_54, e93_55, e93_56, e93_59, e93_60, List.length_cons, List.length_nil, Nat.zero_add, Nat.reduceAdd, Nat.reduceLeDiff, Nat.zero_le, Option.toList_some, Option.toList_none, List.cons_append, List.nil_append, am_rf_ref, am_rf_rf, am_rf_null, am_cat_rf, am_cat_ref, am_cat_int, am_cat_null, va_rf_some, va_rf_none, true_and, and_true, true_or, or_true, am_ia10, TY9, TY10, TY11, TY12, TY13, TY14, TY15, TY16, TY17, TY18, TY19, TY20, TY21, TY22, TY23, TY24, TY25, TY26, TY27, TY28, TY29, TY30, TY31, TY32, TY33, TY34, TY35, TY36, TY37, TY38, TY39, TY40, TY41, TY42, TY43, TY100, TY106, TY107, TY108, TY109, TY110, TY111, TY112, TY113, TY114, TY115, TY116, TY117, TY118, TY119, TY120, TY124, TY125, TY126, TY127, TY128, TY129, TY131, TY132, TY133, TY134, TY135, TY136, TY137, TY138, TY139, TY140, TY141, TY142, TY143, TY144, TY145, TY146, TY147, TY150, TY154, TY155, TY160, iI_lit, iI_0, iI_1, iI_neg, iI_nI, iI_add, iI_sub, iI_mul, iI_lt, iI_le, iI_eq, iI_clamp, iI_in, nat_toNat, bI_0, bI_1, bI_okT, bI_ok, bI_ok0, bI_ok1, iM_r, iM_w, am_u_u, am_u_eq, am_u_na, am_u_ni, ne_eq, not_true_eq_false, not_false_eq_true, forall_const, false_imp_iff, Classical.not_not, Int.reduceLE, Int.reduceLT, Int.reduceEq, Int.reduceNe, Int.reduceAdd, Int.reduceSub, Int.reduceMul, Int.reduceNeg, Int.reduceToNat, Nat.reduceAdd, Nat.reduceMul, Nat.reduceEqDiff, Nat.reduceLT, Nat.reduceLeDiff, true_imp_iff, decide_eq_true_eq, decide_eq_false_iff_not, Bool.not_eq_false, Bool.not_eq_true, Bool.not_eq_false', Bool.not_eq_true', p15]
      refine ⟨fun z hz => (by cases hz; rw [tf1]; rfl), ?_⟩
      have eP : ∀ a i, (a < B ∨ a % 4096 ≥ 3900) → a ≠ 9 → ¬ (a = 15 ∧ i = e) → am_u P2 15 e (some f) a i = P a i := fun a i w1 w2 w3 => by
        rw [show am_u P2 15 e (some f) a i = P2 a i from if_neg w3]; exact oP a i w1 w2
      have eI : ∀ a i, (a < B ∨ a % 4096 ≥ 3900) → ¬ (a = 10 ∧ i = 2) → am_u I2 10 2 (iI ((e : Int) + 1)) a i = I a i := fun a i w1 w3 => by
        rw [show am_u I2 10 2 (iI ((e : Int) + 1)) a i = I2 a i from if_neg w3]; exact oI a i w1
      obtain ⟨snn, hsnn⟩ : ∃ snn : Nat → Nat → Nat, snn = fun r k => if r = 4 then (if k = 0 then f else if k = 1 then al else if k = 2 then na else fa) else sn r k := ⟨_, rfl⟩
      have s40 : snn 4 0 = f := by rw [hsnn]; rfl
      have s41 : snn 4 1 = al := by rw [hsnn]; rfl
      have s42 : snn 4 2 = na := by rw [hsnn]; rfl
      have s43 : snn 4 3 = fa := by rw [hsnn]; rfl
      have sno : ∀ r k, r < 4 → snn r k = sn r k := fun r k hr => by rw [hsnn]; exact if_neg (by omega)
      refine ⟨rfl, ⟨sh, (fun e' => if e' = e then snn else se e'), fun M' hM' => ?_⟩, fun b hb j => ⟨eI b j (by omega) (by omega), eP b j (by omega) (by omega) (by omega), ?_⟩⟩
      · obtain ⟨d1, d2, d3, d4, d5, d6, d7, d8, d9, d10, d11⟩ := hM'
        have hfa : FA M M' := ⟨⟨d2 _ (by omega) (by omega), d2 _ (by omega) (by omega), d2 _ (by omega) (by omega), d2 _ (by omega) (by omega)⟩, fun a w1 w2 j => d1 a j (by omega) (by omega)⟩
        have hF2 : FM M' sh (am_u I2 10 2 (iI ((e : Int) + 1))) (am_u P2 15 e (some f)) B2 := FR_fa hfa (FR_cg hf (by omega) (fun a ha j => by
          have w0 := hroles a ha
          have w9 : a ≠ 9 ∧ a ≠ 10 ∧ a ≠ 15 := by
            rcases ha with rfl | rfl | rfl | rfl | ⟨rfl, w⟩ | ⟨k, w, rfl⟩ | ⟨j, w1, w2, w3⟩
            · omega
            · omega
            · omega
            · omega
            · rcases hcap with u | u <;> omega
            · have := (fm_s hf k w).2; omega
            · have u := (fm_f1 hf j w1 w2).2.1
              unfold FL at u
              rcases w3 with rfl | rfl <;> omega
          exact ⟨eI a j (Or.inl w0) (by omega), eP a j (Or.inl w0) (by omega) (by omega)⟩))
        refine ⟨CP_cg hp (fun b j hb => eP b j (by omega) (by omega) (by omega)), by omega, hF2, VO_cg (rc_v h) ⟨d2 _ (by omega) (by omega), d2 _ (by omega) (by omega)⟩ ⟨eI _ _ (by omega) (by omega), eI _ _ (by omega) (by omega)⟩, ⟨?_, fun e' he' => ?_⟩, RP_cg (rc_pl h) hfa (d2 _ (by omega) (by omega)) (fun a w1 w2 j => eI a j (by omega) (by omega)), RS_cg (rc_s h) (Int.le_refl _) ⟨d2 _ (by omega) (by omega), d2 _ (by omega) (by omega), d2 _ (by omega) (by omega), d2 _ (by omega) (by omega), d2 _ (by omega) (by omega)⟩ (fun j => d1 _ _ (by omega) (by omega)) (fun j => d1 _ _ (by omega) (by omega)) (fun a w1 w2 j => eI a j (by omega) (by omega)), RM_cg (rc_m h) (fun i => d1 _ _ (by omega) (by omega)) (fun j => eI 43 j (by omega) (by omega))⟩
        · rw [am_u_eq, d3.2]
        · rw [d3.2]
          rcases Nat.lt_trichotomy e' e with w | w | w
          · obtain ⟨q1, q2, q3, q4⟩ := ((rc_e h).2 e' he').1 (by omega)
            have l2 := q2
            unfold EL at l2
            refine ⟨fun _ => ?_, fun u => by omega⟩
            dsimp only
            rw [if_neg (show ¬ e' = e by omega)]
            refine ⟨by rw [eP 15 e' (by omega) (by omega) (by omega)]; exact q1, by unfold EL; omega, q3, ?_⟩
            refine FR_ag (hWe e' w) (FR_cg q4 (by omega) (fun a ha j => ?_)) (by rw [kpF_1, kpF_1]; exact (d5 e' w).1) (by rw [kpF_4, kpF_4]; exact (d5 e' w).2) (fun k hk => ?_) (fun r j w1 w2 w3 => ?_) (fun i hi => ?_)
            · have w9 : a < B ∧ 4096 ≤ a := by
                rcases ha with rfl | rfl | rfl | rfl | ⟨rfl, u⟩ | ⟨k, u, rfl⟩ | ⟨j, u1, u2, u3⟩
                · omega
                · omega
                · omega
                · omega
                · rcases q4.2.2.1.1.2.2.2.1 with v | v
                  · omega
                  · omega
                · have := (q4.2.2.2.1 k u).2; omega
                · have v := (q4.2.2.2.2.2.2 j u1 u2).2.1
                  unfold FL at v
                  rcases u3 with rfl | rfl <;> omega
              exact ⟨eI a j (Or.inl w9.1) (by omega), eP a j (Or.inl w9.1) (by omega) (by omega)⟩
            · have hn := wf_n (hWe e' w)
              rw [kpF_4] at hk hn
              rw [kpF_so _ _ 106 _ (by omega), kpF_so _ _ 107 _ (by omega), kpF_so _ _ 108 _ (by omega), kpF_so _ _ 106 _ (by omega), kpF_so _ _ 107 _ (by omega), kpF_so _ _ 108 _ (by omega)]
              exact ⟨d7 _ _ (by omega) (by omega) (by omega), d7 _ _ (by omega) (by omega) (by omega), d7 _ _ (by omega) (by omega) (by omega)⟩
            · rw [kpF_fc _ _ r j ⟨w1, w2⟩, kpF_fc _ _ r j ⟨w1, w2⟩]; exact d9 _ _ (by omega) (by omega) (by omega)
            · rw [kpF_sy, kpF_sy]; exact d11 _ (by omega)
          · subst w
            refine ⟨fun _ => ?_, fun u => by omega⟩
            dsimp only
            rw [if_pos rfl, s40, s41, s42, s43, sno 0 0 (by omega)]
            refine ⟨am_u_eq _ _ _ _, ?_, ?_, ?_⟩
            · unfold EL; rw [s40, s41, s42, s43]; omega
            · rcases h3 with u | u
              · exact Or.inl u
              · right
                rcases (fm_l hf).2.2.2.1 with v | v <;> omega
            · refine FR_sh (FR_ag hW (FR_cg h2 (Nat.le_refl _) (fun a ha j => ?_)) (by rw [kpF_1]; exact d4.1) (by rw [kpF_4]; exact d4.2) (fun k hk => ?_) (fun r j w1 w2 w3 => ?_) (fun i hi => ?_)) sno
              · have w9 : 4096 ≤ a := by
                  rcases ha with rfl | rfl | rfl | rfl | ⟨rfl, u⟩ | ⟨k, u, rfl⟩ | ⟨j, u1, u2, u3⟩
                  · omega
                  · omega
                  · omega
                  · omega
                  · rcases h2.2.2.1.1.2.2.2.1 with v | v
                    · omega
                    · omega
                  · have := (h2.2.2.2.1 k u).2; omega
                  · have v := (h2.2.2.2.2.2.2 j u1 u2).2.1
                    unfold FL at v
                    rcases u3 with rfl | rfl <;> omega
                exact ⟨am_u_na _ _ _ _ (by omega), am_u_na _ _ _ _ (by omega)⟩
              · rw [kpF_so _ _ 106 _ (by omega), kpF_so _ _ 107 _ (by omega), kpF_so _ _ 108 _ (by omega)]; exact d6 k hk
              · rw [kpF_fc _ _ r j ⟨w1, w2⟩, d8 _ _ (by omega) (by omega) w3]; congr 1
              · rw [kpF_sy]; exact d10 i hi
          · refine ⟨fun u => by omega, fun u => ?_⟩
            rw [eP 15 e' (by omega) (by omega) (by omega)]; exact ((rc_e h).2 e' he').2 (by omega)
      · rw [h6 b j (by omega)]; exact (o1 b j (by omega)).2.2
    · rintro v B2 I2 P2 G2 ⟨sn, e0, _⟩; cases e0
  · rintro v B1 I1 P1 G1 ⟨e0, _⟩; cases e0
end
