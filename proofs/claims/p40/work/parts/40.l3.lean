/-! p40, THE LAW: at, some; the calls that it makes itself; going on -/
theorem iI_tdiv {a b : Int} (ha : -2147483648 ≤ a ∧ a ≤ 2147483647) (hb : 2 ≤ b ∧ b ≤ 2147483647) : iI a / iI b = iI (a.tdiv b) := by
  have h1 := iI_toInt ha
  have h2 := iI_toInt (a := b) ⟨by omega, hb.2⟩
  have h3 : -2147483648 ≤ a.tdiv b ∧ a.tdiv b ≤ 2147483647 := by
    rcases Int.le_total 0 a with w | w
    · rw [Int.tdiv_eq_ediv_of_nonneg w]
      have := Int.ediv_nonneg w (show 0 ≤ b by omega)
      have := Int.ediv_le_self b w
      omega
    · have e : a.tdiv b = -((-a) / b) := by
        rw [← Int.tdiv_eq_ediv_of_nonneg (show 0 ≤ -a by omega), Int.neg_tdiv, Int.neg_neg]
      rw [e]
      have := Int.ediv_nonneg (show 0 ≤ -a by omega) (show 0 ≤ b by omega)
      have := Int.ediv_le_self b (show 0 ≤ -a by omega)
      omega
  rw [← Int32.toInt_inj, Int32.toInt_div, h1, h2, iI_toInt h3, Int.bmod_eq_of_le (by omega) (by omega)]
/-- the rest, the sign the dividend's -/
def smr (a b : Int) : Int := a - a.tdiv b * b
theorem smr_b {a b : Int} (hb : 1 ≤ b) : -b < smr a b ∧ smr a b < b := by
  unfold smr
  rcases Int.le_total 0 a with w | w
  · rw [Int.tdiv_eq_ediv_of_nonneg w]
    have h1 := Int.emod_nonneg a (show b ≠ 0 by omega)
    have h2 := Int.emod_lt_of_pos a (show 0 < b by omega)
    rw [Int.emod_def] at h1 h2
    rw [Int.mul_comm]
    omega
  · have e : a.tdiv b = -((-a) / b) := by
      rw [← Int.tdiv_eq_ediv_of_nonneg (show 0 ≤ -a by omega), Int.neg_tdiv, Int.neg_neg]
    have h1 := Int.emod_nonneg (-a) (show b ≠ 0 by omega)
    have h2 := Int.emod_lt_of_pos (-a) (show 0 < b by omega)
    rw [Int.emod_def] at h1 h2
    rw [e, Int.neg_mul, Int.mul_comm]
    omega
theorem smr_nn {a b : Int} (ha : 0 ≤ a) : smr a b = a % b := by
  unfold smr
  rw [Int.tdiv_eq_ediv_of_nonneg ha, Int.emod_def, Int.mul_comm]
theorem iI_rem {a b : Int} (ha : -2147483648 ≤ a ∧ a ≤ 2147483647) (hb : 2 ≤ b ∧ b ≤ 2147483647) : iI a - iI a / iI b * iI b = iI (smr a b) := by
  rw [iI_tdiv ha hb, iI_mul, iI_sub]; rfl
def smd (a b : Int) : Int := if smr a b < 0 then smr a b + b else smr a b
theorem smd_b {a b : Int} (hb : 1 ≤ b) : 0 ≤ smd a b ∧ smd a b < b := by
  have := smr_b (a := a) hb
  unfold smd
  split <;> omega
/-- the script's number at i, 0 behind its end -/
def att (L : Nat) (xi : Nat → Int) (i : Int) : Int := if i < L then xi i.toNat else 0
section
variable {B : Nat} {I : am_I} {P : am_P} {G : am_G} {k s d : Nat} {Q : am_Q}
theorem c_some {a b : Int} (ha : -2147483648 ≤ a ∧ a ≤ 2147483647) (hb : 2 ≤ b ∧ b ≤ 1000000) : am_Ev 198 0 [some (.int (iI a)), some (.int (iI b)), none] [] B I P G k s d (am_one (.inl (some (.int (iI (smd a b))))) B I P G) := by
  have h1 := smr_b (a := a) (b := b) (by omega)
  simp (disch := (first | exact am_rf_ref | exact am_rf_rf | exact am_cat_int | exact am_cat_ref | exact am_cat_rf | exact am_rf_null | exact am_cat_null | omega)) only [e198_0, e198_1, e198_2, e198_3, e198_4, e198_5, e198_8, e198_9, e198_10, e198_11, e198_14, e198_15, List.length_cons, List.length_nil, Nat.zero_add, Nat.reduceAdd, Nat.reduceLeDiff, Nat.zero_le, Option.toList_some, Option.toList_none, List.cons_append, List.nil_append, am_rf_ref, am_rf_rf, am_rf_null, am_cat_rf, am_cat_ref, am_cat_int, am_cat_null, va_rf_some, va_rf_none, true_and, and_true, true_or, or_true, am_ia10, TY9, TY10, TY11, TY12, TY13, TY14, TY15, TY16, TY17, TY18, TY19, TY20, TY21, TY22, TY23, TY24, TY25, TY26, TY27, TY28, TY29, TY30, TY31, TY32, TY33, TY34, TY35, TY36, TY37, TY38, TY39, TY40, TY41, TY42, TY43, TY100, TY106, TY107, TY108, TY109, TY110, TY111, TY112, TY113, TY114, TY115, TY116, TY117, TY118, TY119, TY120, TY124, TY125, TY126, TY127, TY128, TY129, TY131, TY132, TY133, TY134, TY135, TY136, TY137, TY138, TY139, TY140, TY141, TY142, TY143, TY144, TY145, TY146, TY147, TY150, TY154, TY155, TY160, iI_lit, iI_0, iI_1, iI_neg, iI_nI, iI_add, iI_sub, iI_mul, iI_lt, iI_le, iI_eq, iI_clamp, iI_in, nat_toNat, bI_0, bI_1, bI_okT, bI_ok, bI_ok0, bI_ok1, iM_r, iM_w, am_u_u, am_u_eq, am_u_na, am_u_ni, ne_eq, not_true_eq_false, not_false_eq_true, forall_const, false_imp_iff, Classical.not_not, Int.reduceLE, Int.reduceLT, Int.reduceEq, Int.reduceNe, Int.reduceAdd, Int.reduceSub, Int.reduceMul, Int.reduceNeg, Int.reduceToNat, Nat.reduceAdd, Nat.reduceMul, Nat.reduceEqDiff, Nat.reduceLT, Nat.reduceLeDiff, true_imp_iff, decide_eq_true_eq, decide_eq_false_iff_not, Bool.not_eq_false, Bool.not_eq_true, Bool.not_eq_false', Bool.not_eq_true', iI_rem]
  refine ⟨by omega, fun h => ?_, fun h => ?_⟩
  · rw [show smd a b = smr a b by unfold smd; rw [if_neg (by omega)]]; exact am_q
  · rw [show smd a b = smr a b + b by unfold smd; rw [if_pos (by omega)]]; exact am_q
theorem c_at {sr L : Nat} {xi : Nat → Int} {i : Int} (hT : am_TY sr = (18, L)) (hL : L ≤ 260) (hX : ∀ j, I sr j = iI (xi j)) (hi : 0 ≤ i ∧ i ≤ 1000) : am_Ev 197 0 [some (.ref sr), some (.int (iI i))] [] B I P G k s d (am_one (.inl (some (.int (iI (att L xi i))))) B I P G) := by
  unfold att
  by_cases h : i < (L : Int)
  · rw [if_pos h]
    simp (disch := (first | exact am_rf_ref | exact am_rf_rf | exact am_cat_int | exact am_cat_ref | exact am_cat_rf | exact am_rf_null | exact am_cat_null | omega)) only [e197_0, e197_1, e197_2, e197_3, e197_6, e197_7, e197_8, e197_9, e197_12, e197_13, List.length_cons, List.length_nil, Nat.zero_add, Nat.reduceAdd, Nat.reduceLeDiff, Nat.zero_le, Option.toList_some, Option.toList_none, List.cons_append, List.nil_append, am_rf_ref, am_rf_rf, am_rf_null, am_cat_rf, am_cat_ref, am_cat_int, am_cat_null, va_rf_some, va_rf_none, true_and, and_true, true_or, or_true, am_ia10, TY9, TY10, TY11, TY12, TY13, TY14, TY15, TY16, TY17, TY18, TY19, TY20, TY21, TY22, TY23, TY24, TY25, TY26, TY27, TY28, TY29, TY30, TY31, TY32, TY33, TY34, TY35, TY36, TY37, TY38, TY39, TY40, TY41, TY42, TY43, TY100, TY106, TY107, TY108, TY109, TY110, TY111, TY112, TY113, TY114, TY115, TY116, TY117, TY118, TY119, TY120, TY124, TY125, TY126, TY127, TY128, TY129, TY131, TY132, TY133, TY134, TY135, TY136, TY137, TY138, TY139, TY140, TY141, TY142, TY143, TY144, TY145, TY146, TY147, TY150, TY154, TY155, TY160, iI_lit, iI_0, iI_1, iI_neg, iI_nI, iI_add, iI_sub, iI_mul, iI_lt, iI_le, iI_eq, iI_clamp, iI_in, nat_toNat, bI_0, bI_1, bI_okT, bI_ok, bI_ok0, bI_ok1, iM_r, iM_w, am_u_u, am_u_eq, am_u_na, am_u_ni, ne_eq, not_true_eq_false, not_false_eq_true, forall_const, false_imp_iff, Classical.not_not, Int.reduceLE, Int.reduceLT, Int.reduceEq, Int.reduceNe, Int.reduceAdd, Int.reduceSub, Int.reduceMul, Int.reduceNeg, Int.reduceToNat, Nat.reduceAdd, Nat.reduceMul, Nat.reduceEqDiff, Nat.reduceLT, Nat.reduceLeDiff, true_imp_iff, decide_eq_true_eq, decide_eq_false_iff_not, Bool.not_eq_false, Bool.not_eq_true, Bool.not_eq_false', Bool.not_eq_true', hT, am_ia18, hX]
    first | exact am_q | (refine ⟨fun w => absurd w (by omega), fun _ => ?_⟩; exact am_q)
  · rw [if_neg h]
    simp (disch := (first | exact am_rf_ref | exact am_rf_rf | exact am_cat_int | exact am_cat_ref | exact am_cat_rf | exact am_rf_null | exact am_cat_null | omega)) only [e197_0, e197_1, e197_2, e197_3, e197_6, e197_7, e197_8, e197_9, e197_12, e197_13, List.length_cons, List.length_nil, Nat.zero_add, Nat.reduceAdd, Nat.reduceLeDiff, Nat.zero_le, Option.toList_some, Option.toList_none, List.cons_append, List.nil_append, am_rf_ref, am_rf_rf, am_rf_null, am_cat_rf, am_cat_ref, am_cat_int, am_cat_null, va_rf_some, va_rf_none, true_and, and_true, true_or, or_true, am_ia10, TY9, TY10, TY11, TY12, TY13, TY14, TY15, TY16, TY17, TY18, TY19, TY20, TY21, TY22, TY23, TY24, TY25, TY26, TY27, TY28, TY29, TY30, TY31, TY32, TY33, TY34, TY35, TY36, TY37, TY38, TY39, TY40, TY41, TY42, TY43, TY100, TY106, TY107, TY108, TY109, TY110, TY111, TY112, TY113, TY114, TY115, TY116, TY117, TY118, TY119, TY120, TY124, TY125, TY126, TY127, TY128, TY129, TY131, TY132, TY133, TY134, TY135, TY136, TY137, TY138, TY139, TY140, TY141, TY142, TY143, TY144, TY145, TY146, TY147, TY150, TY154, TY155, TY160, iI_lit, iI_0, iI_1, iI_neg, iI_nI, iI_add, iI_sub, iI_mul, iI_lt, iI_le, iI_eq, iI_clamp, iI_in, nat_toNat, bI_0, bI_1, bI_okT, bI_ok, bI_ok0, bI_ok1, iM_r, iM_w, am_u_u, am_u_eq, am_u_na, am_u_ni, ne_eq, not_true_eq_false, not_false_eq_true, forall_const, false_imp_iff, Classical.not_not, Int.reduceLE, Int.reduceLT, Int.reduceEq, Int.reduceNe, Int.reduceAdd, Int.reduceSub, Int.reduceMul, Int.reduceNeg, Int.reduceToNat, Nat.reduceAdd, Nat.reduceMul, Nat.reduceEqDiff, Nat.reduceLT, Nat.reduceLeDiff, true_imp_iff, decide_eq_true_eq, decide_eq_false_iff_not, Bool.not_eq_false, Bool.not_eq_true, Bool.not_eq_false', Bool.not_eq_true', hT, am_ia18, hX]
    first | exact am_q | (refine ⟨fun _ => ?_, fun w => absurd w (by omega)⟩; exact am_q)
end
/-- the end of a call that the law makes itself -/
def aqd (K : Int) (M' : Nat → Nat → Int) (o : am_O) (I : am_I) : am_Q := fun o' B' I' P' G' => o' = o ∧ LSt (K + 1000) M' I' P' B' ∧ ∀ r, (4096 ≤ r ∧ 3900 ≤ r % 4096) → ∀ j, I' r j = I r j
theorem aqd_of {id : Nat} {E : List (Option Value)} {B : Nat} {I : am_I} {P : am_P} {G : am_G} {k s d : Nat} {K K' : Int} {R : (Nat → Nat → Int) → Prop} {o o2 : am_O} {M' : Nat → Nat → Int} (h : am_Ev id 0 E [] B I P G k s d (cq K' R o I P G)) (hR : R M') (hiv : INV (K + 1000) M') (hK : K' ≤ K + 1000) (ho : o = o2) : am_Ev id 0 E [] B I P G k s d (aqd K M' o2 I) :=
  am_imp h (fun o' B' I' P' G' h => by
    obtain ⟨e0, ⟨sh', se', hrc⟩, hfx⟩ := h
    exact ⟨e0.trans ho, ⟨hiv, sh', se', RC_w (hrc _ hR) hK⟩, fun r hr j => (hfx r (Or.inr hr.2) j).1⟩)
theorem oc_0 {e1 e2 e3 : Nat} {r : (Nat → Nat → Int) × Int} (h : r.1 100 0 = 0) : oc e1 e2 e3 r = .inl (some (.int (iI r.2))) := by unfold oc; rw [if_pos h]
section
variable {B : Nat} {I : am_I} {P : am_P} {G : am_G} {k s d : Nat} {K : Int} {M : Nat → Nat → Int}
theorem D_sounds (hl : LSt K M I P B) (hd : 20 ≤ d) : am_Ev 70 0 [some (.ref 10)] [] B I P G k s d (aqd K (am_u M 100 0 0) (.inl (some (.int (iI (M 100 4))))) I) := by
  obtain ⟨hI, sh, se, hrc⟩ := hl
  exact aqd_of (f70 hI.1.1 hrc (by omega)) rfl (INV_0 hI 0) (by omega) (oc_0 (am_u_eq M 100 0 _))
theorem D_gaps (hl : LSt K M I P B) (hd : 20 ≤ d) {u : Int} (hu : u = 0 ∨ u = 1) : am_Ev 72 0 [some (.ref 10), some (.int (iI u))] [] B I P G k s d (aqd K (am_u M 100 0 0) (.inl (some (.int (iI (gcn M u (M 100 1).toNat))))) I) := by
  obtain ⟨hI, sh, se, hrc⟩ := hl
  exact aqd_of (f72 hI.1.1 hrc (by omega) hu) rfl (INV_0 hI 0) (by omega) (oc_0 (am_u_eq M 100 0 _))
theorem D_isSound (hl : LSt K M I P B) (hK : 1000 ≤ K ∧ K ≤ 890000) (hd : 20 ≤ d) : am_Ev 104 0 [some (.ref 10)] [] B I P G k s d (aqd K (am_u M 100 0 0) (.inl (some (.int (iI 1)))) I) := by
  obtain ⟨hI, sh, se, hrc⟩ := hl
  exact aqd_of (f104 hI.1.1 hI.2.2.2.1.1 hI.2.2.2.1.2 (by omega) hI.2.2.2.2.1.1 hrc (by omega)) rfl (INV_0 hI 0) (by omega) (oc_0 (am_u_eq M 100 0 _))
theorem D_live (hl : LSt K M I P B) (hK : 1000 ≤ K ∧ K ≤ 890000) (hd : 20 ≤ d) : am_Ev 95 0 [some (.ref 10)] [] B I P G k s d (aqd K (d_live M).1 (.inl (some (.int (iI (lvn M 10))))) I) := by
  obtain ⟨hI, sh, se, hrc⟩ := hl
  exact aqd_of (f95 hI.1.1 (by omega) hrc (by omega)) rfl (iv_live hI (by omega)) (by omega) (oc_0 (lvz_at M 10).2.1.1)
/-- what a plan of nothing leaves -/
def pl0 (M : Nat → Nat → Int) : Nat → Nat → Int := am_u (am_u (am_u (am_u M 100 0 0) 100 20 1) 100 21 0) 100 22 0
theorem PLN_0 (h : BS M = 0) : PLN M (pl0 M) := by
  have ho : ons (BS M) = 0 := by rw [h]; decide
  have e : ∀ a i, ¬ (a = 100 ∧ (i = 0 ∨ i = 20 ∨ i = 21 ∨ i = 22)) → pl0 M a i = M a i := fun a i q => by
    unfold pl0 am_u; rw [if_neg (by omega), if_neg (by omega), if_neg (by omega), if_neg (by omega)]
  refine ⟨fun a i q _ => e a i q, by simp [pl0, am_u], by simp [pl0, am_u], by rw [ho]; simp [pl0, am_u], by rw [h]; simp [pl0, am_u], fun k hk => ?_⟩
  rw [ho] at hk
  omega
theorem D_plan0 (hl : LSt K M I P B) (hK : 1000 ≤ K ∧ K ≤ 890000) (hd : 20 ≤ d) (h : BS M = 0) : am_Ev 84 0 [some (.ref 10)] [] B I P G k s d (aqd K (pl0 M) (.inl (some (.int (iI 0)))) I) := by
  obtain ⟨hI, sh, se, hrc⟩ := hl
  exact aqd_of (f84 hI.1.1 hI.2.2.2.1.1 hI.2.2.2.1.2 (by omega) hrc (by omega)) (PLN_0 h) (iv_plan hI (PLN_0 h)) (by omega) (by rw [h]; rfl)
end
/-- from here on, whatever the object stands for (of property E), and the law's rows hold (X) -/
def NX (E : (Nat → Nat → Int) → Prop) (m pc : Nat) (L : List (Option Value)) (X : am_I → Nat → Prop) (K : Int) (k s d : Nat) (Q : am_Q) : Prop := ∀ (M : Nat → Nat → Int) (I : am_I) (P : am_P) (B : Nat) (G : am_G) (k' s' : Nat), E M → LSt K M I P B → X I B → k ≤ k' → s ≤ s' → am_Ev m pc L [] B I P G k' s' d Q
/-- the script lies there -/
def XS (sr : Nat) (xi : Nat → Int) (I : am_I) (_ : Nat) : Prop := ∀ j, I sr j = iI (xi j)
theorem LSt_B {K : Int} {M : Nat → Nat → Int} {I : am_I} {P : am_P} {B B' : Nat} (h : LSt K M I P B) (hB : B ≤ B') : LSt K M I P B' := LSt_X h (fun _ _ _ => ⟨rfl, rfl⟩) hB
theorem qz_0 {e1 e2 e3 : Nat} {r : (Nat → Nat → Int) × Int} (h : r.1 100 0 = 0) : qz e1 e2 e3 r = r.2 := by unfold qz; rw [if_pos h]
theorem qz_1 {e1 e2 e3 : Nat} {M : Nat → Nat → Int} : qz e1 e2 e3 (dno M 1) = zx e1 := by unfold qz; rw [dno_0, if_neg (by decide), if_pos rfl]
theorem qz_2 {e1 e2 e3 : Nat} {M : Nat → Nat → Int} : qz e1 e2 e3 (dno M 2) = zx e2 := by unfold qz; rw [dno_0, if_neg (by decide), if_neg (by decide), if_pos rfl]
theorem qz_3 {e1 e2 e3 : Nat} {M : Nat → Nat → Int} : qz e1 e2 e3 (dno M 3) = zx e3 := by unfold qz; rw [dno_0, if_neg (by decide), if_neg (by decide), if_neg (by decide)]
theorem qz_c1 {e1 e2 e3 : Nat} {r : (Nat → Nat → Int) × Int} (h : r.1 100 0 = 1) : qz e1 e2 e3 r = zx e1 := by unfold qz; rw [h, if_neg (by decide), if_pos rfl]
theorem qz_c2 {e1 e2 e3 : Nat} {r : (Nat → Nat → Int) × Int} (h : r.1 100 0 = 2) : qz e1 e2 e3 r = zx e2 := by unfold qz; rw [h, if_neg (by decide), if_neg (by decide), if_pos rfl]
