/-! THE CLASS: gone facts; drop -/
/-- facts that are not there: nothing is kept of them -/
def GI (M : Nat → Nat → Int) : Prop := ∀ g, g < 10 → M 110 g = 0 → M 154 g = 0 ∧ (∀ l, l < 6 → M 155 (g * 6 + l) = 0) ∧ M 100 50 ≠ g
/-- what goes with gone facts -/
def GN (M M' : Nat → Nat → Int) : Prop := (∀ i, i ≠ 0 → i ≠ 1 → i ≠ 4 → i ≠ 20 → i ≠ 50 → i ≠ 52 → M' 100 i = M 100 i) ∧ (∀ r i, 121 ≤ r → r < 127 ∨ 129 < r → r ≠ 154 → r ≠ 155 → M' r i = M r i) ∧
  (∀ g, g < 10 → (M' 110 g = 0 → M' 154 g = 0 ∧ ∀ l, l < 6 → M' 155 (g * 6 + l) = 0) ∧ (M' 110 g ≠ 0 → M' 154 g = M 154 g ∧ ∀ l, l < 6 → M' 155 (g * 6 + l) = M 155 (g * 6 + l))) ∧
  ((∃ g : Nat, g < 10 ∧ M' 110 g = 0 ∧ M 100 50 = g) → M' 100 50 = -1 ∧ M' 100 52 = 0) ∧ (¬ (∃ g : Nat, g < 10 ∧ M' 110 g = 0 ∧ M 100 50 = g) → M' 100 50 = M 100 50 ∧ M' 100 52 = M 100 52)
theorem RS_gone {K : Int} {M M' : Nat → Nat → Int} {I I1 I2 : am_I} (hK : 0 ≤ K) (h : RS K M I) (hI : ∀ a j, 39 ≤ a → a ≤ 41 → I1 a j = I a j) (hF : FG M' 10 (M 100 50) I1 I2) (hG : GN M M') : RS K M' I2 := by
  obtain ⟨r1, r2, r3, r4, r5, r6, z, r7, r8, r9, r10⟩ := h
  obtain ⟨g1, g2, g3, g4, g5, g6⟩ := hF
  obtain ⟨n1, n2, n3, n4, n5⟩ := hG
  refine ⟨?_, ?_, fun j hj => ?_, fun w j hj => ?_, ?_⟩
  · rw [g2 _ (by omega) (by omega) (by omega), hI _ _ (by omega) (by omega), n1 _ (by omega) (by omega) (by omega) (by omega) (by omega) (by omega)]; exact r1
  · rw [g2 _ (by omega) (by omega) (by omega), hI _ _ (by omega) (by omega), n1 _ (by omega) (by omega) (by omega) (by omega) (by omega) (by omega)]; exact r2
  · rw [g1 _ _ (by omega) (by omega) (by omega), hI _ _ (by omega) (by omega), n2 _ _ (by omega) (by omega) (by omega) (by omega)]; exact r3 j hj
  · rw [n1 _ (by omega) (by omega) (by omega) (by omega) (by omega) (by omega)] at w
    by_cases q : M' 110 j = 0
    · rw [((g3 j hj).1 q).1, ((n3 j hj).1 q).1]; rfl
    · rw [((g3 j hj).2 q).1, ((n3 j hj).2 q).1, hI _ _ (by omega) (by omega)]; exact r4 w j hj
  · by_cases q : ∃ g : Nat, g < 10 ∧ M' 110 g = 0 ∧ M 100 50 = g
    · obtain ⟨q1, q2⟩ := g5 q
      obtain ⟨q3, q4⟩ := n4 q
      rw [q1, q2, q3]
      exact ⟨rfl, fun w => absurd rfl w, 0, rfl, Int.le_refl _, hK, fun _ => Or.inl q4.symm⟩
    · obtain ⟨q1, q2, q3⟩ := g6 q
      obtain ⟨q4, q5⟩ := n5 q
      rw [q1, q2, q3, q4, q5, hI _ _ (by omega) (by omega), hI _ _ (by omega) (by omega), hI _ _ (by omega) (by omega), n1 51 (by omega) (by omega) (by omega) (by omega) (by omega) (by omega)]
      exact ⟨r5, r6, z, r7, r8, r9, r10⟩
theorem RM_gone {M M' : Nat → Nat → Int} {uw : Int} {I I1 I2 : am_I} (h : RM M I) (hI : ∀ j, I1 43 j = I 43 j) (hF : FG M' 10 uw I1 I2) (hG : GN M M') : RM M' I2 := by
  intro i hi
  have e : i = (i / 6) * 6 + i % 6 := by omega
  have e2 : i / 6 < 10 := by omega
  have e3 : i % 6 < 6 := by omega
  rw [e]
  generalize i / 6 = g at *
  generalize i % 6 = l at *
  obtain ⟨g1, g2, g3, g4, g5, g6⟩ := hF
  obtain ⟨n1, n2, n3, n4, n5⟩ := hG
  by_cases q : M' 110 g = 0
  · rw [((g3 g e2).1 q).2 l e3, ((n3 g e2).1 q).2 l e3]; rfl
  · rw [((g3 g e2).2 q).2 l e3, ((n3 g e2).2 q).2 l e3, hI]; exact h _ (by omega)
theorem RC_film2 {K : Int} {M M' : Nat → Nat → Int} {sh sh' : Nat → Nat → Nat} {se : Nat → Nat → Nat → Nat} {I I' : am_I} {P P' : am_P} {B B' : Nat} (h : RC K M sh se I P B) (hf : FM M' sh' I' P' B') (h20 : M' 100 20 = 0) (hB : B ≤ B') (hv : M' 100 2 = M 100 2 ∧ M' 100 3 = M 100 3 ∧ M' 100 29 = M 100 29) (hM2 : ∀ r i, 131 ≤ r → r ≤ 147 → M' r i = M r i)
    (h35 : I' 35 0 = iI 0) (h16 : I' 16 0 = iI 0) (hI : ∀ j, I' 10 j = I 10 j) (hP : ∀ a j, 10 ≤ a → a < 44 → a ≠ 11 → a ≠ 12 → a ≠ 14 → P' a j = P a j) (hS : RS K M' I') (hm : RM M' I') (hsh : sh' 0 0 = sh 0 0 ∨ B ≤ sh' 0 0) (hfr : ∀ a, 4096 ≤ a → a < B → a ≠ sh 0 0 → ¬ (200 ≤ a % 4096 ∧ a % 4096 < 210) → ¬ (300 ≤ a % 4096 ∧ a % 4096 < 310) → ∀ j, I' a j = I a j ∧ P' a j = P a j) : RC K M' sh' se I' P' B' := by
  have hb := rc_b h
  exact ⟨CP_cg (rc_p h) (fun a j ha => hP a j (by omega) (by omega) (by omega) (by omega) (by omega)), by omega, hf, VO_cg (rc_v h) ⟨hv.1, hv.2.1⟩ ⟨hI _, hI _⟩, ED_cg (rc_e h) ⟨hv.2.2, hM2⟩ (hI _) (fun j => hP 15 j (by omega) (by omega) (by omega) (by omega) (by omega)) (fm_cap (rc_f h)) hsh hB hb hfr, RP_0 h20 h35 h16, hS, hm⟩
/-- facts gone from the film -/
theorem WFi_dr {K : Int} {M M' : Nat → Nat → Int} (hW : WFi K M) (h1 : M' 100 1 = M 100 1) (h4 : M' 100 4 = M 100 4) (hM : ∀ r i, 106 ≤ r → r ≤ 120 → r ≠ 110 → M' r i = M r i) (hj : ∀ j, j < 10 → M' 110 j = 0 ∨ M' 110 j = M 110 j) : WFi K M' := by
  have em (a : Nat) (q1 : 106 ≤ a) (q2 : a ≤ 120) (q3 : a ≠ 110) : M' a = M a := funext (fun i => hM a i q1 q2 q3)
  unfold WFi at hW ⊢
  rw [h1, h4, em 106 (by omega) (by omega) (by omega), em 107 (by omega) (by omega) (by omega), em 108 (by omega) (by omega) (by omega), em 109 (by omega) (by omega) (by omega), em 111 (by omega) (by omega) (by omega), em 112 (by omega) (by omega) (by omega), em 113 (by omega) (by omega) (by omega), em 114 (by omega) (by omega) (by omega), em 115 (by omega) (by omega) (by omega), em 116 (by omega) (by omega) (by omega), em 117 (by omega) (by omega) (by omega), em 118 (by omega) (by omega) (by omega), em 119 (by omega) (by omega) (by omega), em 120 (by omega) (by omega) (by omega)]
  obtain ⟨w1, w2, w3, w4, w5, w6, w7, w8, w9, w10, w11, w12, w13, w14, w15, w16, w17, w18⟩ := hW
  refine ⟨w1, w2, w3, w4, w5, fun j q => ?_, w7, w8, fun j q q2 => ?_, w10, w11, w12, w13, w14, w15, w16, w17, fun j v q q2 => ?_⟩
  · rcases hj j q with e | e
    · exact Or.inl e
    · rw [e]; exact w6 j q
  · rcases hj j q with e | e
    · omega
    · exact w9 j q (by omega)
  · rcases hj j q with e | e
    · omega
    · exact w18 j v q (by omega)
theorem FM_dr {M M' : Nat → Nat → Int} {sh : Nat → Nat → Nat} {I I' : am_I} {P : am_P} {B : Nat} (h : FM M sh I P B) {j : Nat} (h1 : M' 100 1 = M 100 1) (h4 : M' 100 4 = M 100 4) (hM : ∀ r i, 106 ≤ r → r ≤ 120 → r ≠ 110 → M' r i = M r i) (hj : ∀ i, i < 10 → M' 110 i = if i = j then 0 else M 110 i) (hI : ∀ a i, ((11 ≤ a ∧ a ≤ 14) ∨ 4096 ≤ a) → I' a i = I a i) : FM M' sh I' (am_u P 14 j none) B := by
  have hcap := fm_cap h
  have hfl := fm_l h
  refine ⟨?_, ?_, ⟨⟨?_, ?_, ?_, ?_, fun k hk => ?_⟩, hcap⟩, fun k hk => ?_, fun i hi => ?_, fun i hi w => ?_, fun i hi w => ?_⟩
  · rw [hI 11 0 (by omega), h1]; exact fm_tk h
  · rw [am_u_na _ _ _ _ (by omega), am_u_na _ _ _ _ (by omega), am_u_na _ _ _ _ (by omega)]; exact h.2.1
  · rw [am_u_na _ _ _ _ (by omega)]; exact hfl.1
  · rw [hI 12 2 (by omega), h4]; exact hfl.2.1
  · rw [h4]; exact hfl.2.2.1
  · rw [h4]; exact hfl.2.2.2.1
  · rw [am_u_na _ _ _ _ (by rcases hcap with q | q <;> omega)]; rw [h4] at hk; exact hfl.2.2.2.2 k hk
  · rw [h4] at hk
    obtain ⟨q1, q2, q3, q4⟩ := fm_s h k hk
    rw [hI _ _ (Or.inr q2), hI _ _ (Or.inr q2), hI _ _ (Or.inr q2), hM 106 _ (by omega) (by omega) (by omega), hM 107 _ (by omega) (by omega) (by omega), hM 108 _ (by omega) (by omega) (by omega)]
    exact ⟨q1, q2, q3, q4⟩
  · rw [hI 13 i (by omega), hM 109 _ (by omega) (by omega) (by omega)]; exact fm_n h i hi
  · rw [hj i hi] at w
    by_cases q : i = j
    · subst q; exact am_u_eq _ _ _ _
    · rw [if_neg q] at w; rw [am_u_ni _ _ _ _ q]; exact fm_f0 h i hi w
  · rw [hj i hi] at w
    by_cases q : i = j
    · rw [if_pos q] at w; omega
    · rw [if_neg q] at w
      obtain ⟨q1, q2, q3, q4, q5⟩ := fm_f1 h i hi w
      have q6 := q2
      unfold FL at q6
      rw [am_u_ni _ _ _ _ q]
      refine ⟨q1, q2, ?_, ?_, fun v hv => ?_⟩
      · rw [hI _ _ (by omega), hI _ _ (by omega), hI _ _ (by omega), hI _ _ (by omega), hI _ _ (by omega), hI _ _ (by omega), hI _ _ (by omega), hI _ _ (by omega), hI _ _ (by omega), hM 111 _ (by omega) (by omega) (by omega), hM 112 _ (by omega) (by omega) (by omega), hM 113 _ (by omega) (by omega) (by omega), hM 114 _ (by omega) (by omega) (by omega), hM 115 _ (by omega) (by omega) (by omega), hM 116 _ (by omega) (by omega) (by omega), hM 117 _ (by omega) (by omega) (by omega), hM 118 _ (by omega) (by omega) (by omega), hM 119 _ (by omega) (by omega) (by omega)]
        exact q3
      · rw [am_u_na _ _ _ _ (by omega)]; exact q4
      · rw [hM 119 _ (by omega) (by omega) (by omega)] at hv
        rw [hI _ _ (by omega), hM 120 _ (by omega) (by omega) (by omega)]; exact q5 v hv
section
variable {st : List Value} {B : Nat} {I C : am_I} {P : am_P} {G : am_G} {k s d : Nat} {Q : am_Q} {M : Nat → Nat → Int} {K : Int} {sh : Nat → Nat → Nat} {se : Nat → Nat → Nat → Nat}
theorem c11 (h : P 11 3 = some 14) {f : Nat} (hf : f < 10) : am_Ev 11 0 [some (.ref 11), some (.int (iI f))] [] B I P G k s d (am_one (.inl none) B I (am_u P 14 f none) G) := by
  simp (disch := (first | exact am_rf_ref | exact am_rf_rf | exact am_cat_int | exact am_cat_ref | exact am_cat_rf | exact am_rf_null | exact am_cat_null | omega)) only [e11_0, e11_1, e11_4, e11_5, e11_6, e11_9, e11_10, e11_13, e11_14, e11_17, e11_18, e11_19, e11_19r, e11_19n, e11_20, List.length_cons, List.length_nil, Nat.zero_add, Nat.reduceAdd, Nat.reduceLeDiff, Nat.zero_le, Option.toList_some, Option.toList_none, List.cons_append, List.nil_append, am_rf_ref, am_rf_rf, am_rf_null, am_cat_rf, am_cat_ref, am_cat_int, am_cat_null, va_rf_some, va_rf_none, true_and, and_true, true_or, or_true, am_ia10, TY9, TY10, TY11, TY12, TY13, TY14, TY15, TY16, TY17, TY18, TY19, TY20, TY21, TY22, TY23, TY24, TY25, TY26, TY27, TY28, TY29, TY30, TY31, TY32, TY33, TY34, TY35, TY36, TY37, TY38, TY39, TY40, TY41, TY42, TY43, TY100, TY106, TY107, TY108, TY109, TY110, TY111, TY112, TY113, TY114, TY115, TY116, TY117, TY118, TY119, TY120, TY124, TY125, TY126, TY127, TY128, TY129, TY131, TY132, TY133, TY134, TY135, TY136, TY137, TY138, TY139, TY140, TY141, TY142, TY143, TY144, TY145, TY146, TY147, TY150, TY154, TY155, TY160, iI_lit, iI_0, iI_1, iI_neg, iI_nI, iI_add, iI_sub, iI_mul, iI_lt, iI_le, iI_eq, iI_clamp, iI_in, nat_toNat, bI_0, bI_1, bI_okT, bI_ok, bI_ok0, bI_ok1, iM_r, iM_w, am_u_u, am_u_eq, am_u_na, am_u_ni, ne_eq, not_true_eq_false, not_false_eq_true, forall_const, false_imp_iff, Classical.not_not, Int.reduceLE, Int.reduceLT, Int.reduceEq, Int.reduceNe, Int.reduceAdd, Int.reduceSub, Int.reduceMul, Int.reduceNeg, Int.reduceToNat, Nat.reduceAdd, Nat.reduceMul, Nat.reduceEqDiff, Nat.reduceLT, Nat.reduceLeDiff, true_imp_iff, decide_eq_true_eq, decide_eq_false_iff_not, Bool.not_eq_false, Bool.not_eq_true, Bool.not_eq_false', Bool.not_eq_true', h]
  refine ⟨fun _ => by omega, fun _ => ⟨fun _ => by omega, fun _ => ?_⟩⟩
  exact ⟨(fun z hz => nomatch hz), am_q⟩
/-- the film's facts as the class keeps them -/
theorem fm_hN (hW : WFi K M) (h : FM M sh I P B) : ∀ j, j < 10 → (M 110 j = 0 ∧ P 14 j = none) ∨ (M 110 j = 1 ∧ ∃ r, P 14 j = some r) := fun j hj => by
  rcases fm_fc hW h hj with q | ⟨q, q2, _⟩
  · exact Or.inl q
  · exact Or.inr ⟨q, _, q2⟩
theorem FG_o {N : Nat → Nat → Int} {n : Nat} {uw : Int} {I I' : am_I} (h : FG N n uw I I') (a j : Nat) (ha : a ≠ 39 ∧ a ≠ 41 ∧ a ≠ 43) : I' a j = I a j := h.1 a j ha.1 ha.2.1 ha.2.2
theorem Fx_FG {N : Nat → Nat → Int} {n : Nat} {uw : Int} {I I1 I2 : am_I} {P' : am_P} {G' : am_G} (hx : Fx I P G I1 P' G') (h : FG N n uw I1 I2) : Fx I P G I2 P' G' := fun b hb j => by
  rw [FG_o h b j (by omega)]; exact hx b hb j
theorem f77 (hW : WFi K M) (hK : 0 ≤ K ∧ K ≤ 1000000) (hun : -1 ≤ M 100 50 ∧ M 100 50 ≤ 9) (hGI : GI M) (h : RC K M sh se I P B) (hk : 100 ≤ k) (hs : 1000 ≤ s) (hd : 8 ≤ d) {f : Int} (hf : -2147483648 ≤ f ∧ f ≤ 2147483647) :
    am_Ev 77 0 [some (.ref 10), some (.int (iI f))] [] B I P G k s d (cq K (fun M' => M' = (d_drop M f).1) (oc 4 0 0 (d_drop M f)) I P G) := by
  have hp := rc_p h
  have hF := rc_f h
  have hB := rc_b h
  simp (disch := (first | exact am_rf_ref | exact am_rf_rf | exact am_cat_int | exact am_cat_ref | exact am_cat_rf | exact am_rf_null | exact am_cat_null | omega)) only [e77_0, e77_1, e77_4, List.length_cons, List.length_nil, Nat.zero_add, Nat.reduceAdd, Nat.reduceLeDiff, Nat.zero_le, Option.toList_some, Option.toList_none, List.cons_append, List.nil_append, am_rf_ref, am_rf_rf, am_rf_null, am_cat_rf, am_cat_ref, am_cat_int, am_cat_null, va_rf_some, va_rf_none, true_and, and_true, true_or, or_true, am_ia10, TY9, TY10, TY11, TY12, TY13, TY14, TY15, TY16, TY17, TY18, TY19, TY20, TY21, TY22, TY23, TY24, TY25, TY26, TY27, TY28, TY29, TY30, TY31, TY32, TY33, TY34, TY35, TY36, TY37, TY38, TY39, TY40, TY41, TY42, TY43, TY100, TY106, TY107, TY108, TY109, TY110, TY111, TY112, TY113, TY114, TY115, TY116, TY117, TY118, TY119, TY120, TY124, TY125, TY126, TY127, TY128, TY129, TY131, TY132, TY133, TY134, TY135, TY136, TY137, TY138, TY139, TY140, TY141, TY142, TY143, TY144, TY145, TY146, TY147, TY150, TY154, TY155, TY160, iI_lit, iI_0, iI_1, iI_neg, iI_nI, iI_add, iI_sub, iI_mul, iI_lt, iI_le, iI_eq, iI_clamp, iI_in, nat_toNat, bI_0, bI_1, bI_okT, bI_ok, bI_ok0, bI_ok1, iM_r, iM_w, am_u_u, am_u_eq, am_u_na, am_u_ni, ne_eq, not_true_eq_false, not_false_eq_true, forall_const, false_imp_iff, Classical.not_not, Int.reduceLE, Int.reduceLT, Int.reduceEq, Int.reduceNe, Int.reduceAdd, Int.reduceSub, Int.reduceMul, Int.reduceNeg, Int.reduceToNat, Nat.reduceAdd, Nat.reduceMul, Nat.reduceEqDiff, Nat.reduceLT, Nat.reduceLeDiff, true_imp_iff, decide_eq_true_eq, decide_eq_false_iff_not, Bool.not_eq_false, Bool.not_eq_true, Bool.not_eq_false', Bool.not_eq_true', cp_0 hp]
  refine k77_5 _ 0 0 0 ty11 (Nat.le_of_ble_eq_true rfl) (Nat.zero_le _) (Nat.zero_le _) (by omega) (c10 (e := 0) (al := 12) (na := 13) (by rw [TY11]) TY14 (fm_3 hF) hf) (am_k5 ?_) am_k6
  by_cases h1 : 0 ≤ f ∧ f ≤ 9 ∧ M 110 f.toNat = 1
  · obtain ⟨n, rfl⟩ : ∃ n : Nat, f = n := ⟨f.toNat, by omega⟩
    have hn : n < 10 := by omega
    have hth : M 110 n = 1 := by have := h1.2.2; rw [nat_toNat] at this; exact this
    rw [if_pos ⟨h1.1, h1.2.1⟩, nat_toNat, (fm_f1 hF n hn hth).1]
    have e : d_drop M n = (dch (goes (am_u M 100 0 0) n), fcn (goes (am_u M 100 0 0) n) 10) := by unfold d_drop; rw [if_neg (not_not_intro h1), nat_toNat]
    obtain ⟨M', hMe⟩ : ∃ M', M' = (d_drop M n).1 := ⟨_, rfl⟩
    have eM : ∀ r i, M' r i = if r = 100 ∧ i = 20 then 0 else if r = 110 ∧ i = n then 0 else if r = 154 ∧ i = n then 0 else if r = 155 ∧ n * 6 ≤ i ∧ i < n * 6 + 6 then 0 else if r = 100 ∧ i = 50 ∧ M 100 50 = n then -1 else if r = 100 ∧ i = 52 ∧ M 100 50 = n then 0 else if r = 100 ∧ i = 0 then 0 else M r i := by
      intro r i
      rw [hMe, e]
      show am_u (goes (am_u M 100 0 0) n) 100 20 0 r i = _
      have e3 : am_u M 100 0 0 100 50 = M 100 50 := am_u_ni _ _ _ _ (by omega)
      by_cases q : r = 100 ∧ i = 20
      · rw [if_pos q, q.1, q.2, am_u_eq]
      · rw [if_neg q, show am_u (goes (am_u M 100 0 0) n) 100 20 0 r i = goes (am_u M 100 0 0) n r i from if_neg q, goes_at, e3]; rfl
    have eMo : ∀ r i, r ≠ 110 → r ≠ 154 → r ≠ 155 → (r = 100 → i ≠ 0 ∧ i ≠ 20 ∧ i ≠ 50 ∧ i ≠ 52) → M' r i = M r i := fun r i q1 q2 q3 q4 => by
      rw [eM, if_neg (by omega), if_neg (by omega), if_neg (by omega), if_neg (by omega), if_neg (by omega), if_neg (by omega), if_neg (by omega)]
    have e110 : ∀ i, M' 110 i = if i = n then 0 else M 110 i := fun i => by
      rw [eM, if_neg (by omega)]
      by_cases q : i = n
      · rw [if_pos q, if_pos ⟨rfl, q⟩]
      · rw [if_neg q, if_neg (fun w => q w.2), if_neg (by omega), if_neg (by omega), if_neg (by omega), if_neg (by omega), if_neg (by omega)]
    have hW' : WFi K M' := WFi_dr hW (eMo _ _ (by omega) (by omega) (by omega) (by omega)) (eMo _ _ (by omega) (by omega) (by omega) (by omega)) (fun r i q1 q2 q3 => eMo r i q3 (by omega) (by omega) (by omega)) (fun j hj => by
      rw [e110]; split
      · exact Or.inl rfl
      · exact Or.inr rfl)
    have hGN : GN M M' := by
      refine ⟨fun i q1 q2 q3 q4 q5 q6 => eMo _ _ (by omega) (by omega) (by omega) (by omega), fun r i q1 q2 q3 q4 => eMo _ _ (by omega) (by omega) (by omega) (by omega), fun g hg => ⟨fun q => ?_, fun q => ?_⟩, fun ⟨g, q1, q2, q3⟩ => ?_, fun q => ?_⟩
      · rw [e110] at q
        by_cases w : g = n
        · subst w
          refine ⟨by rw [eM, if_neg (by omega), if_neg (by omega), if_pos ⟨rfl, rfl⟩], fun l hl => by rw [eM, if_neg (by omega), if_neg (by omega), if_neg (by omega), if_pos ⟨rfl, by omega⟩]⟩
        · rw [if_neg w] at q
          obtain ⟨w1, w2, w3⟩ := hGI g hg q
          refine ⟨?_, fun l hl => ?_⟩
          · rw [eM, if_neg (by omega), if_neg (by omega), if_neg (by omega), if_neg (by omega), if_neg (by omega), if_neg (by omega), if_neg (by omega)]; exact w1
          · rw [eM, if_neg (by omega), if_neg (by omega), if_neg (by omega), if_neg (by omega), if_neg (by omega), if_neg (by omega), if_neg (by omega)]; exact w2 l hl
      · rw [e110] at q
        have w : g ≠ n := fun w => by rw [if_pos w] at q; exact q rfl
        refine ⟨?_, fun l hl => ?_⟩
        · rw [eM, if_neg (by omega), if_neg (by omega), if_neg (by omega), if_neg (by omega), if_neg (by omega), if_neg (by omega), if_neg (by omega)]
        · rw [eM, if_neg (by omega), if_neg (by omega), if_neg (by omega), if_neg (by omega), if_neg (by omega), if_neg (by omega), if_neg (by omega)]
      · rw [e110] at q2
        have w : g = n := by
          rcases Classical.em (g = n) with w | w
          · exact w
          · rw [if_neg w] at q2; exact absurd q3 (hGI g q1 q2).2.2
        subst w
        exact ⟨by rw [eM, if_neg (by omega), if_neg (by omega), if_neg (by omega), if_neg (by omega), if_pos ⟨rfl, rfl, q3⟩], by rw [eM, if_neg (by omega), if_neg (by omega), if_neg (by omega), if_neg (by omega), if_neg (by omega), if_pos ⟨rfl, rfl, q3⟩]⟩
      · have w : M 100 50 ≠ n := fun w => q ⟨n, hn, by rw [e110, if_pos rfl], w⟩
        refine ⟨?_, ?_⟩
        · rw [eM, if_neg (by omega), if_neg (by omega), if_neg (by omega), if_neg (by omega), if_neg (fun w2 => w w2.2.2), if_neg (by omega), if_neg (by omega)]
        · rw [eM, if_neg (by omega), if_neg (by omega), if_neg (by omega), if_neg (by omega), if_neg (by omega), if_neg (fun w2 => w w2.2.2), if_neg (by omega)]
    simp (disch := (first | exact am_rf_ref | exact am_rf_rf | exact am_cat_int | exact am_cat_ref | exact am_cat_rf | exact am_rf_null | exact am_cat_null | omega)) only [e77_8, e77_8r, e77_8n, e77_21, e77_22, e77_25, List.length_cons, List.length_nil, Nat.zero_add, Nat.reduceAdd, Nat.reduceLeDiff, Nat.zero_le, Option.toList_some, Option.toList_none, List.cons_append, List.nil_append, am_rf_ref, am_rf_rf, am_rf_null, am_cat_rf, am_cat_ref, am_cat_int, am_cat_null, va_rf_some, va_rf_none, true_and, and_true, true_or, or_true, am_ia10, TY9, TY10, TY11, TY12, TY13, TY14, TY15, TY16, TY17, TY18, TY19, TY20, TY21, TY22, TY23, TY24, TY25, TY26, TY27, TY28, TY29, TY30, TY31, TY32, TY33, TY34, TY35, TY36, TY37, TY38, TY39, TY40, TY41, TY42, TY43, TY100, TY106, TY107, TY108, TY109, TY110, TY111, TY112, TY113, TY114, TY115, TY116, TY117, TY118, TY119, TY120, TY124, TY125, TY126, TY127, TY128, TY129, TY131, TY132, TY133, TY134, TY135, TY136, TY137, TY138, TY139, TY140, TY141, TY142, TY143, TY144, TY145, TY146, TY147, TY150, TY154, TY155, TY160, iI_lit, iI_0, iI_1, iI_neg, iI_nI, iI_add, iI_sub, iI_mul, iI_lt, iI_le, iI_eq, iI_clamp, iI_in, nat_toNat, bI_0, bI_1, bI_okT, bI_ok, bI_ok0, bI_ok1, iM_r, iM_w, am_u_u, am_u_eq, am_u_na, am_u_ni, ne_eq, not_true_eq_false, not_false_eq_true, forall_const, false_imp_iff, Classical.not_not, Int.reduceLE, Int.reduceLT, Int.reduceEq, Int.reduceNe, Int.reduceAdd, Int.reduceSub, Int.reduceMul, Int.reduceNeg, Int.reduceToNat, Nat.reduceAdd, Nat.reduceMul, Nat.reduceEqDiff, Nat.reduceLT, Nat.reduceLeDiff, true_imp_iff, decide_eq_true_eq, decide_eq_false_iff_not, Bool.not_eq_false, Bool.not_eq_true, Bool.not_eq_false', Bool.not_eq_true', cp_0 hp]
    refine k77_26 _ 0 0 0 ty11 (Nat.le_of_ble_eq_true rfl) (Nat.zero_le _) (Nat.zero_le _) (by omega) (c11 (fm_3 hF) hn) (am_k5 ?_) am_k6
    have hp' : CP (am_u P 14 n none) := CP_cg hp (fun a j ha => am_u_na _ _ _ _ (by omega))
    have hFd : ∀ I', (∀ a i, ((11 ≤ a ∧ a ≤ 14) ∨ 4096 ≤ a) → I' a i = I a i) → FM M' sh I' (am_u P 14 n none) B := fun I' hI => FM_dr hF (eMo _ _ (by omega) (by omega) (by omega) (by omega)) (eMo _ _ (by omega) (by omega) (by omega) (by omega)) (fun r i q1 q2 q3 => eMo r i q3 (by omega) (by omega) (by omega)) (fun i hi => e110 i) hI
    simp (disch := (first | exact am_rf_ref | exact am_rf_rf | exact am_cat_int | exact am_cat_ref | exact am_cat_rf | exact am_rf_null | exact am_cat_null | omega)) only [e77_29, List.length_cons, List.length_nil, Nat.zero_add, Nat.reduceAdd, Nat.reduceLeDiff, Nat.zero_le, Option.toList_some, Option.toList_none, List.cons_append, List.nil_append, am_rf_ref, am_rf_rf, am_rf_null, am_cat_rf, am_cat_ref, am_cat_int, am_cat_null, va_rf_some, va_rf_none, true_and, and_true, true_or, or_true, am_ia10, TY9, TY10, TY11, TY12, TY13, TY14, TY15, TY16, TY17, TY18, TY19, TY20, TY21, TY22, TY23, TY24, TY25, TY26, TY27, TY28, TY29, TY30, TY31, TY32, TY33, TY34, TY35, TY36, TY37, TY38, TY39, TY40, TY41, TY42, TY43, TY100, TY106, TY107, TY108, TY109, TY110, TY111, TY112, TY113, TY114, TY115, TY116, TY117, TY118, TY119, TY120, TY124, TY125, TY126, TY127, TY128, TY129, TY131, TY132, TY133, TY134, TY135, TY136, TY137, TY138, TY139, TY140, TY141, TY142, TY143, TY144, TY145, TY146, TY147, TY150, TY154, TY155, TY160, iI_lit, iI_0, iI_1, iI_neg, iI_nI, iI_add, iI_sub, iI_mul, iI_lt, iI_le, iI_eq, iI_clamp, iI_in, nat_toNat, bI_0, bI_1, bI_okT, bI_ok, bI_ok0, bI_ok1, iM_r, iM_w, am_u_u, am_u_eq, am_u_na, am_u_ni, ne_eq, not_true_eq_false, not_false_eq_true, forall_const, false_imp_iff, Classical.not_not, Int.reduceLE, Int.reduceLT, Int.reduceEq, Int.reduceNe, Int.reduceAdd, Int.reduceSub, Int.reduceMul, Int.reduceNeg, Int.reduceToNat, Nat.reduceAdd, Nat.reduceMul, Nat.reduceEqDiff, Nat.reduceLT, Nat.reduceLeDiff, true_imp_iff, decide_eq_true_eq, decide_eq_false_iff_not, Bool.not_eq_false, Bool.not_eq_true, Bool.not_eq_false', Bool.not_eq_true']
    refine k77_30 (fun o B' I' P' G' => o = .inl none ∧ B' = B ∧ P' = am_u P 14 n none ∧ G' = G ∧ FG M' 10 (M 100 50) I I') 0 0 4 ty10 (Nat.le_of_ble_eq_true rfl) (Nat.zero_le _) (Nat.zero_le _) (by omega) (c112 hp' (fm_3 (hFd I (fun _ _ _ => rfl))) (fm_hN hW' (hFd I (fun _ _ _ => rfl))) hun (rs_u h) (by omega) (fun I' hI' => ⟨rfl, rfl, rfl, rfl, hI'⟩)) ?_ ?_
    · rintro v B2 I' P' G' ⟨e1, e2, rfl, rfl, hFG⟩
      subst e2
      cases e1
      simp (disch := (first | exact am_rf_ref | exact am_rf_rf | exact am_cat_int | exact am_cat_ref | exact am_cat_rf | exact am_rf_null | exact am_cat_null | omega)) only [e77_33, List.length_cons, List.length_nil, Nat.zero_add, Nat.reduceAdd, Nat.reduceLeDiff, Nat.zero_le, Option.toList_some, Option.toList_none, List.cons_append, List.nil_append, am_rf_ref, am_rf_rf, am_rf_null, am_cat_rf, am_cat_ref, am_cat_int, am_cat_null, va_rf_some, va_rf_none, true_and, and_true, true_or, or_true, am_ia10, TY9, TY10, TY11, TY12, TY13, TY14, TY15, TY16, TY17, TY18, TY19, TY20, TY21, TY22, TY23, TY24, TY25, TY26, TY27, TY28, TY29, TY30, TY31, TY32, TY33, TY34, TY35, TY36, TY37, TY38, TY39, TY40, TY41, TY42, TY43, TY100, TY106, TY107, TY108, TY109, TY110, TY111, TY112, TY113, TY114, TY115, TY116, TY117, TY118, TY119, TY120, TY124, TY125, TY126, TY127, TY128, TY129, TY131, TY132, TY133, TY134, TY135, TY136, TY137, TY138, TY139, TY140, TY141, TY142, TY143, TY144, TY145, TY146, TY147, TY150, TY154, TY155, TY160, iI_lit, iI_0, iI_1, iI_neg, iI_nI, iI_add, iI_sub, iI_mul, iI_lt, iI_le, iI_eq, iI_clamp, iI_in, nat_toNat, bI_0, bI_1, bI_okT, bI_ok, bI_ok0, bI_ok1, iM_r, iM_w, am_u_u, am_u_eq, am_u_na, am_u_ni, ne_eq, not_true_eq_false, not_false_eq_true, forall_const, false_imp_iff, Classical.not_not, Int.reduceLE, Int.reduceLT, Int.reduceEq, Int.reduceNe, Int.reduceAdd, Int.reduceSub, Int.reduceMul, Int.reduceNeg, Int.reduceToNat, Nat.reduceAdd, Nat.reduceMul, Nat.reduceEqDiff, Nat.reduceLT, Nat.reduceLeDiff, true_imp_iff, decide_eq_true_eq, decide_eq_false_iff_not, Bool.not_eq_false, Bool.not_eq_true, Bool.not_eq_false', Bool.not_eq_true']
      refine k77_34 _ 0 0 0 ty10 (Nat.le_of_ble_eq_true rfl) (Nat.zero_le _) (Nat.zero_le _) (by omega) (c110 hp') (am_k5 ?_) am_k6
      simp (disch := (first | exact am_rf_ref | exact am_rf_rf | exact am_cat_int | exact am_cat_ref | exact am_cat_rf | exact am_rf_null | exact am_cat_null | omega)) only [e77_37, e77_38, List.length_cons, List.length_nil, Nat.zero_add, Nat.reduceAdd, Nat.reduceLeDiff, Nat.zero_le, Option.toList_some, Option.toList_none, List.cons_append, List.nil_append, am_rf_ref, am_rf_rf, am_rf_null, am_cat_rf, am_cat_ref, am_cat_int, am_cat_null, va_rf_some, va_rf_none, true_and, and_true, true_or, or_true, am_ia10, TY9, TY10, TY11, TY12, TY13, TY14, TY15, TY16, TY17, TY18, TY19, TY20, TY21, TY22, TY23, TY24, TY25, TY26, TY27, TY28, TY29, TY30, TY31, TY32, TY33, TY34, TY35, TY36, TY37, TY38, TY39, TY40, TY41, TY42, TY43, TY100, TY106, TY107, TY108, TY109, TY110, TY111, TY112, TY113, TY114, TY115, TY116, TY117, TY118, TY119, TY120, TY124, TY125, TY126, TY127, TY128, TY129, TY131, TY132, TY133, TY134, TY135, TY136, TY137, TY138, TY139, TY140, TY141, TY142, TY143, TY144, TY145, TY146, TY147, TY150, TY154, TY155, TY160, iI_lit, iI_0, iI_1, iI_neg, iI_nI, iI_add, iI_sub, iI_mul, iI_lt, iI_le, iI_eq, iI_clamp, iI_in, nat_toNat, bI_0, bI_1, bI_okT, bI_ok, bI_ok0, bI_ok1, iM_r, iM_w, am_u_u, am_u_eq, am_u_na, am_u_ni, ne_eq, not_true_eq_false, not_false_eq_true, forall_const, false_imp_iff, Classical.not_not, Int.reduceLE, Int.reduceLT, Int.reduceEq, Int.reduceNe, Int.reduceAdd, Int.reduceSub, Int.reduceMul, Int.reduceNeg, Int.reduceToNat, Nat.reduceAdd, Nat.reduceMul, Nat.reduceEqDiff, Nat.reduceLT, Nat.reduceLeDiff, true_imp_iff, decide_eq_true_eq, decide_eq_false_iff_not, Bool.not_eq_false, Bool.not_eq_true, Bool.not_eq_false', Bool.not_eq_true', cp_0 hp]
      have hF2 := hFd (fgt I') (fun a i ha => by rw [fgt_o _ _ (by omega), FG_o hFG _ _ (by omega)])
      refine k77_41 _ 0 0 1 ty11 (Nat.le_of_ble_eq_true rfl) (Nat.zero_le _) (Nat.zero_le _) (by omega) (c14 hW' hF2 (by omega)) (am_k5 ?_) am_k6
      simp (disch := (first | exact am_rf_ref | exact am_rf_rf | exact am_cat_int | exact am_cat_ref | exact am_cat_rf | exact am_rf_null | exact am_cat_null | omega)) only [e77_44, List.length_cons, List.length_nil, Nat.zero_add, Nat.reduceAdd, Nat.reduceLeDiff, Nat.zero_le, Option.toList_some, Option.toList_none, List.cons_append, List.nil_append, am_rf_ref, am_rf_rf, am_rf_null, am_cat_rf, am_cat_ref, am_cat_int, am_cat_null, va_rf_some, va_rf_none, true_and, and_true, true_or, or_true, am_ia10, TY9, TY10, TY11, TY12, TY13, TY14, TY15, TY16, TY17, TY18, TY19, TY20, TY21, TY22, TY23, TY24, TY25, TY26, TY27, TY28, TY29, TY30, TY31, TY32, TY33, TY34, TY35, TY36, TY37, TY38, TY39, TY40, TY41, TY42, TY43, TY100, TY106, TY107, TY108, TY109, TY110, TY111, TY112, TY113, TY114, TY115, TY116, TY117, TY118, TY119, TY120, TY124, TY125, TY126, TY127, TY128, TY129, TY131, TY132, TY133, TY134, TY135, TY136, TY137, TY138, TY139, TY140, TY141, TY142, TY143, TY144, TY145, TY146, TY147, TY150, TY154, TY155, TY160, iI_lit, iI_0, iI_1, iI_neg, iI_nI, iI_add, iI_sub, iI_mul, iI_lt, iI_le, iI_eq, iI_clamp, iI_in, nat_toNat, bI_0, bI_1, bI_okT, bI_ok, bI_ok0, bI_ok1, iM_r, iM_w, am_u_u, am_u_eq, am_u_na, am_u_ni, ne_eq, not_true_eq_false, not_false_eq_true, forall_const, false_imp_iff, Classical.not_not, Int.reduceLE, Int.reduceLT, Int.reduceEq, Int.reduceNe, Int.reduceAdd, Int.reduceSub, Int.reduceMul, Int.reduceNeg, Int.reduceToNat, Nat.reduceAdd, Nat.reduceMul, Nat.reduceEqDiff, Nat.reduceLT, Nat.reduceLeDiff, true_imp_iff, decide_eq_true_eq, decide_eq_false_iff_not, Bool.not_eq_false, Bool.not_eq_true, Bool.not_eq_false', Bool.not_eq_true']
      have hRS := RS_gone hK.1 (rc_s h) (fun _ _ _ _ => rfl) hFG hGN
      have hRM := RM_gone (rc_m h) (fun _ => rfl) hFG hGN
      refine cq_ch (sh' := sh) (se' := se) ?_ ?_ ?_ ?_
      · rw [← hMe, eM, if_neg (by omega), if_neg (by omega), if_neg (by omega), if_neg (by omega), if_neg (by omega), if_neg (by omega), if_pos ⟨rfl, rfl⟩]
      · rw [hMe, e]
        exact fcn_fa (M := goes (am_u M 100 0 0) n) ⟨⟨am_u_ni _ _ _ _ (by omega), am_u_ni _ _ _ _ (by omega), am_u_ni _ _ _ _ (by omega), am_u_ni _ _ _ _ (by omega)⟩, fun a q1 q2 j => am_u_na _ _ _ _ (by omega)⟩ 10
      · rw [← hMe]
        refine RC_film2 h hF2 ?_ (Nat.le_refl _) ⟨eMo _ _ (by omega) (by omega) (by omega) (by omega), eMo _ _ (by omega) (by omega) (by omega) (by omega), eMo _ _ (by omega) (by omega) (by omega) (by omega)⟩ (fun r i q1 q2 => eMo _ _ (by omega) (by omega) (by omega) (by omega)) (fgt_35 _) (fgt_16 _) (fun j => by rw [fgt_o _ _ (by omega), FG_o hFG _ _ (by omega)]) (fun a j q1 q2 q3 q4 q5 => am_u_na _ _ _ _ q5) ?_ ?_ (Or.inl rfl) (fun a q1 q2 q3 q4 q5 j => ⟨by rw [fgt_o _ _ (by omega), FG_o hFG _ _ (by omega)], am_u_na _ _ _ _ (by omega)⟩)
        · rw [eM, if_pos ⟨rfl, rfl⟩]
        · exact RS_cg hRS (Int.le_refl _) ⟨rfl, rfl, rfl, rfl, rfl⟩ (fun _ => rfl) (fun _ => rfl) (fun a q1 q2 j => fgt_o _ _ (by omega))
        · exact RM_cg hRM (fun _ => rfl) (fun j => fgt_o _ _ (by omega))
      · exact Fx_fgt (Fx_FG (Fx_P Fx_rfl _ _ (by omega)) hFG)
    · rintro v B' I' P' G' ⟨e1, _⟩; cases e1
  · have q : (if 0 ≤ f ∧ f ≤ 9 then P 14 f.toNat else none) = none := by
      by_cases h2 : 0 ≤ f ∧ f ≤ 9
      · rw [if_pos h2]
        have h3 := wf_th hW f.toNat (by omega)
        exact fm_f0 hF f.toNat (by omega) (by omega)
      · rw [if_neg h2]
    rw [q]
    simp (disch := (first | exact am_rf_ref | exact am_rf_rf | exact am_cat_int | exact am_cat_ref | exact am_cat_rf | exact am_rf_null | exact am_cat_null | omega)) only [e77_8, e77_8r, e77_8n, e77_11, e77_14, List.length_cons, List.length_nil, Nat.zero_add, Nat.reduceAdd, Nat.reduceLeDiff, Nat.zero_le, Option.toList_some, Option.toList_none, List.cons_append, List.nil_append, am_rf_ref, am_rf_rf, am_rf_null, am_cat_rf, am_cat_ref, am_cat_int, am_cat_null, va_rf_some, va_rf_none, true_and, and_true, true_or, or_true, am_ia10, TY9, TY10, TY11, TY12, TY13, TY14, TY15, TY16, TY17, TY18, TY19, TY20, TY21, TY22, TY23, TY24, TY25, TY26, TY27, TY28, TY29, TY30, TY31, TY32, TY33, TY34, TY35, TY36, TY37, TY38, TY39, TY40, TY41, TY42, TY43, TY100, TY106, TY107, TY108, TY109, TY110, TY111, TY112, TY113, TY114, TY115, TY116, TY117, TY118, TY119, TY120, TY124, TY125, TY126, TY127, TY128, TY129, TY131, TY132, TY133, TY134, TY135, TY136, TY137, TY138, TY139, TY140, TY141, TY142, TY143, TY144, TY145, TY146, TY147, TY150, TY154, TY155, TY160, iI_lit, iI_0, iI_1, iI_neg, iI_nI, iI_add, iI_sub, iI_mul, iI_lt, iI_le, iI_eq, iI_clamp, iI_in, nat_toNat, bI_0, bI_1, bI_okT, bI_ok, bI_ok0, bI_ok1, iM_r, iM_w, am_u_u, am_u_eq, am_u_na, am_u_ni, ne_eq, not_true_eq_false, not_false_eq_true, forall_const, false_imp_iff, Classical.not_not, Int.reduceLE, Int.reduceLT, Int.reduceEq, Int.reduceNe, Int.reduceAdd, Int.reduceSub, Int.reduceMul, Int.reduceNeg, Int.reduceToNat, Nat.reduceAdd, Nat.reduceMul, Nat.reduceEqDiff, Nat.reduceLT, Nat.reduceLeDiff, true_imp_iff, decide_eq_true_eq, decide_eq_false_iff_not, Bool.not_eq_false, Bool.not_eq_true, Bool.not_eq_false', Bool.not_eq_true']
    exact ⟨by omega, by omega, cq_no h (by unfold d_drop; rw [if_pos h1]; rfl) (Or.inl ⟨rfl, rfl⟩)⟩
end
