/-! THE CLASS: isSound, plan, canTell -/
theorem nxw_mo {M : Nat → Nat → Int} {f : Nat} : ∀ (m n : Nat), nxw M f n ≠ -1 → ((n + m : Nat) : Int) ≤ M 100 1 → nxw M f (n + m) ≠ -1 ∧ nxw M f (n + m) ≤ nxw M f n := by
  intro m; induction m with
  | zero => intro n h _; exact ⟨h, Int.le_refl _⟩
  | succ m ih =>
    intro n h hb
    obtain ⟨h1, h2⟩ := ih n h (by omega)
    rw [show n + (m + 1) = (n + m) + 1 by omega]
    simp only [nxw]
    split
    · rcases nxw_bd (M := M) (f := f) (n + m) (by omega) with w | w
      · exact absurd w h1
      · exact ⟨by omega, by omega⟩
    · exact ⟨h1, h2⟩
theorem nxt_mo {M : Nat → Nat → Int} {f : Nat} {t t' : Int} (ht : 0 ≤ t) (h : t ≤ t') (hn : nxt M f t' ≠ -1) : nxt M f t ≠ -1 ∧ nxt M f t ≤ nxt M f t' := by
  unfold nxt at *
  by_cases w : M 100 1 < t'
  · rw [if_pos w] at hn; exact absurd rfl hn
  · rw [if_neg w] at hn ⊢
    rw [if_neg (show ¬ M 100 1 < t by omega)]
    have h1 := nxw_mo (M := M) (f := f) (t' - t).toNat (M 100 1 - t').toNat hn (by omega)
    rw [show (M 100 1 - t').toNat + (t' - t).toNat = (M 100 1 - t).toNat by omega] at h1
    exact h1
theorem wst_le {M : Nat → Nat → Int} {T : Nat → Int} {S f : Nat} (hf : S.testBit f = true) (hT : T (clr S f) ≠ -1) (he : enS M T f (clr S f) ≠ -1) : ∀ n, f < n → (wst M T S n).1 ≠ -1 ∧ (wst M T S n).1 ≤ enS M T f (clr S f) := by
  intro n; induction n with
  | zero => intro h; omega
  | succ n ih =>
    intro hn
    simp only [wst]
    rcases Nat.lt_or_eq_of_le (Nat.le_of_lt_succ hn) with w | w
    · obtain ⟨h1, h2⟩ := ih w
      split
      · next h => exact ⟨h.2.2.1, by rcases h.2.2.2 with u | u; exact absurd u h1; (show enS M T n (clr S n) ≤ _; omega)⟩
      · exact ⟨h1, h2⟩
    · subst w
      split
      · exact ⟨he, Int.le_refl _⟩
      · next h =>
        by_cases u : (wst M T S f).1 = -1
        · exact absurd ⟨hf, hT, he, Or.inl u⟩ h
        · exact ⟨u, by
            rcases Int.lt_or_le (enS M T f (clr S f)) (wst M T S f).1 with v | v
            · exact absurd ⟨hf, hT, he, Or.inr v⟩ h
            · exact v⟩
theorem clr_add {S f : Nat} (hS : S < 1024) (hf : f < 10) (hb : S.testBit f = false) : clr (S ||| 2 ^ f) f = S ∧ (S ||| 2 ^ f).testBit f = true ∧ S ||| 2 ^ f < 1024 := by
  have h1 : S ||| 2 ^ f < 1024 := Nat.or_lt_two_pow (n := 10) hS (Nat.pow_lt_pow_right (by omega) (by omega))
  have h2 : (S ||| 2 ^ f).testBit f = true := by rw [Nat.testBit_or, Nat.testBit_two_pow, decide_eq_true rfl, Bool.or_true]
  refine ⟨?_, h2, h1⟩
  apply Nat.eq_of_testBit_eq
  intro i
  rw [clr_tb h1 hf, Nat.testBit_or, Nat.testBit_two_pow]
  by_cases e : f = i
  · subst e; rw [hb, decide_eq_true rfl]; rfl
  · rw [decide_eq_false e, Bool.or_false]; simp
theorem wof_add {M : Nat → Nat → Int} {S f : Nat} (hb : S.testBit f = false) : ∀ n, wof M (S ||| 2 ^ f) n = wof M S n + (if f < n then M 113 f else 0) := by
  intro n; induction n with
  | zero => simp [wof]
  | succ n ih =>
    simp only [wof]
    rw [ih, Nat.testBit_or, Nat.testBit_two_pow]
    by_cases e : f = n
    · subst e; rw [hb, decide_eq_true rfl, if_neg (Nat.lt_irrefl _), if_pos (Nat.lt_succ_self _)]; simp
    · rw [decide_eq_false e, Bool.or_false]
      by_cases h : f < n
      · rw [if_pos h, if_pos (show f < n + 1 by omega)]; omega
      · rw [if_neg h, if_neg (show ¬ f < n + 1 by omega)]; omega
/-- one more fact behind a set -/
theorem cE_add {K : Int} {M : Nat → Nat → Int} (hW : WFi K M) (hs : 2 ≤ M 100 2 ∧ M 100 2 ≤ 9) (hb : 0 ≤ M 100 3 ∧ M 100 3 ≤ 20) {S f : Nat} (hS : S < 1024) (hf : f < 10) {e t : Int} (h : cE M S ≠ -1 ∧ cE M S ≤ e) (ht : t = if S = 0 then 0 else e + M 100 3) (hx : sbh M f S t ≠ -1) :
    (cE M (S ||| 2 ^ f) ≠ -1 ∧ cE M (S ||| 2 ^ f) ≤ sbh M f S t + lng M f 0) ∧ wgt M (S ||| 2 ^ f) = wgt M S + M 113 f ∧ sbh M f S t + lng M f 0 ≤ 900 := by
  have hk := wf_tk hW
  obtain ⟨hT, hnb, hu⟩ := sbh_T hx
  obtain ⟨c1, c2, c3⟩ := clr_add hS hf hnb
  have eX : sbh M f S t = nxt M f t := by
    unfold sbh at hx ⊢
    split at hx
    · next w => rw [if_pos w]
    · exact absurd rfl hx
  rw [eX] at hx ⊢
  have hcb := cE_bd hW hs hb S
  have hot : otm M S = true ∧ wE M S ≠ -1 ∧ cE M S = wE M S := by
    have h1 := h.1
    unfold cE at h1 ⊢
    by_cases u : otm M S = true
    · rw [if_pos u] at h1 ⊢; exact ⟨u, h1, rfl⟩
    · rw [if_neg u] at h1; exact absurd rfl h1
  have hSf : ∀ g, (S ||| 2 ^ f).testBit g = true → S.testBit g = true ∨ g = f := fun g hg => by
    rw [Nat.testBit_or, Nat.testBit_two_pow, Bool.or_eq_true, decide_eq_true_eq] at hg
    exact hg.imp id (fun q => q.symm)
  have hTS : ∀ g, S.testBit g = true → g < 10 ∧ M 110 g = 1 := fun g hg => ⟨tb_10 hS hg, (wE_tx hW hs hb S hS hot.2.1 g hg).1⟩
  have hot2 : otm M (S ||| 2 ^ f) = true := by
    rw [otm_i c3]
    have hu2 := (unl_and hTS).mp hu
    have hS2 := (otm_i hS).mp hot.1
    intro a b ha hb2 hab
    rcases hSf a ha with q1 | q1
    · rcases hSf b hb2 with q2 | q2
      · exact hS2 a b q1 q2 hab
      · subst q2; exact hu2 a q1 (ulk_sy hab)
    · subst q1
      rcases hSf b hb2 with q2 | q2
      · exact hu2 b q2 hab
      · subst q2; exact hab.2.2 rfl
  have ht0 : 0 ≤ t := by rw [ht]; split <;> omega
  have hfr : 0 ≤ frS M (wE M) S ∧ frS M (wE M) S ≤ t := by
    rw [ht]; unfold frS
    have := wE_bd hW hs hb S
    have := h.2
    split <;> omega
  obtain ⟨n1, n2⟩ := nxt_mo (M := M) (f := f) hfr.1 hfr.2 hx
  have hlb := lng_bd hW hs (f := f) (v := 0) (by omega)
  have hnb2 := nxt_bd (M := M) (f := f) hfr.1
  have hen : enS M (wE M) f S ≠ -1 ∧ enS M (wE M) f S ≤ nxt M f t + lng M f 0 := by
    unfold enS; rw [if_neg n1]; omega
  have h0 : S ||| 2 ^ f ≠ 0 := fun q => by rw [q, Nat.zero_testBit] at c2; exact Bool.noConfusion c2
  have hwst := wst_le (M := M) (T := wE M) (S := S ||| 2 ^ f) (f := f) c2 (by rw [c1]; exact hot.2.1) (by rw [c1]; exact hen.1) 10 hf
  rw [c1] at hwst
  refine ⟨?_, ?_, ?_⟩
  · unfold cE
    rw [if_pos hot2, wE_eq h0]
    exact ⟨hwst.1, by omega⟩
  · unfold wgt; rw [wof_add hnb, if_pos hf]
  · rcases nxt_bd (M := M) (f := f) ht0 with w | w
    · exact absurd w hx
    · have := isS_en w.2.2; omega
section
variable {st : List Value} {B : Nat} {I C : am_I} {P : am_P} {G : am_G} {k s d : Nat} {Q : am_Q} {M : Nat → Nat → Int} {K : Int} {sh : Nat → Nat → Nat} {se : Nat → Nat → Nat → Nat}
theorem c66 (hW : WFi K M) (hsp : 2 ≤ M 100 2 ∧ M 100 2 ≤ 9) (hbr : 0 ≤ M 100 3 ∧ M 100 3 ≤ 20) (hp : CP P) (hL : WL M I) : ∀ m, m ≤ 5 → ∀ {S : Nat} {e : Int} (_ : S < 1024) (_ : cE M S ≠ -1 ∧ cE M S ≤ e) (_ : 0 ≤ e ∧ e ≤ 900) {k s d : Nat} (_ : m + 2 ≤ d),
    am_Ev 66 0 [some (.ref 16), some (.int (iI S)), some (.int (iI e)), some (.int (iI (wgt M S))), some (.int (iI (wgt M (BS M)))), some (.int (iI (5 - (m : Int)))), none, none, none] [] B I P G k s d (am_one (.inl (some (.int (iI 0)))) B I P G) := by
  intro m
  induction m with
  | zero =>
    intro hm S e hS hc he k s d hd
    have hot : otm M S = true ∧ wE M S ≠ -1 := by
      have h1 := hc.1
      unfold cE at h1
      by_cases u : otm M S = true
      · rw [if_pos u] at h1; exact ⟨u, h1⟩
      · rw [if_neg u] at h1; exact absurd rfl h1
    have hmx : wgt M S ≤ wgt M (BS M) := bst_mx M 1024 S hS hot.2 hot.1
    have hw1 := wgt_bd hW S
    have hw2 := wgt_bd hW (BS M)
    simp (disch := (first | exact am_rf_ref | exact am_rf_rf | exact am_cat_int | exact am_cat_ref | exact am_cat_rf | exact am_rf_null | exact am_cat_null | omega)) only [e66_0, e66_1, e66_3, e66_6, e66_7, e66_8, e66_9, e66_11, e66_12, e66_14, e66_16, e66_33, e66_34, List.length_cons, List.length_nil, Nat.zero_add, Nat.reduceAdd, Nat.reduceLeDiff, Nat.zero_le, Option.toList_some, Option.toList_none, List.cons_append, List.nil_append, am_rf_ref, am_rf_rf, am_rf_null, am_cat_rf, am_cat_ref, am_cat_int, am_cat_null, va_rf_some, va_rf_none, true_and, and_true, true_or, or_true, am_ia10, TY9, TY10, TY11, TY12, TY13, TY14, TY15, TY16, TY17, TY18, TY19, TY20, TY21, TY22, TY23, TY24, TY25, TY26, TY27, TY28, TY29, TY30, TY31, TY32, TY33, TY34, TY35, TY36, TY37, TY38, TY39, TY40, TY41, TY42, TY43, TY100, TY106, TY107, TY108, TY109, TY110, TY111, TY112, TY113, TY114, TY115, TY116, TY117, TY118, TY119, TY120, TY124, TY125, TY126, TY127, TY128, TY129, TY131, TY132, TY133, TY134, TY135, TY136, TY137, TY138, TY139, TY140, TY141, TY142, TY143, TY144, TY145, TY146, TY147, TY150, TY154, TY155, TY160, iI_lit, iI_0, iI_1, iI_neg, iI_nI, iI_add, iI_sub, iI_mul, iI_lt, iI_le, iI_eq, iI_clamp, iI_in, nat_toNat, bI_0, bI_1, bI_okT, bI_ok, bI_ok0, bI_ok1, iM_r, iM_w, am_u_u, am_u_eq, am_u_na, am_u_ni, ne_eq, not_true_eq_false, not_false_eq_true, forall_const, false_imp_iff, Classical.not_not, Int.reduceLE, Int.reduceLT, Int.reduceEq, Int.reduceNe, Int.reduceAdd, Int.reduceSub, Int.reduceMul, Int.reduceNeg, Int.reduceToNat, Nat.reduceAdd, Nat.reduceMul, Nat.reduceEqDiff, Nat.reduceLT, Nat.reduceLeDiff, true_imp_iff, decide_eq_true_eq, decide_eq_false_iff_not, Bool.not_eq_false, Bool.not_eq_true, Bool.not_eq_false', Bool.not_eq_true']
    exact ⟨fun _ => ⟨fun _ => am_q, fun w => by omega⟩, fun w => by omega⟩
  | succ m ih =>
    intro hm S e hS hc he k s d hd
    have hot : otm M S = true ∧ wE M S ≠ -1 := by
      have h1 := hc.1
      unfold cE at h1
      by_cases u : otm M S = true
      · rw [if_pos u] at h1; exact ⟨u, h1⟩
      · rw [if_neg u] at h1; exact absurd rfl h1
    have hmx : wgt M S ≤ wgt M (BS M) := bst_mx M 1024 S hS hot.2 hot.1
    have hw1 := wgt_bd hW S
    have hw2 := wgt_bd hW (BS M)
    have hhv := hvy_bd hW 10 (Nat.le_refl _)
    have h3 : I 16 3 = iI (hvy M 10) := hL.2.2.1
    have hmul : 0 ≤ (5 - (5 - ((m + 1 : Nat) : Int))) * hvy M 10 ∧ (5 - (5 - ((m + 1 : Nat) : Int))) * hvy M 10 ≤ 495 := by
      have e1 : 5 - (5 - ((m + 1 : Nat) : Int)) = ((m + 1 : Nat) : Int) := by omega
      rw [e1]
      have hm2 : (m + 1 = 1 ∨ m + 1 = 2 ∨ m + 1 = 3 ∨ m + 1 = 4 ∨ m + 1 = 5) := by omega
      rcases hm2 with q | q | q | q | q <;> rw [q] <;> omega
    have hL0 : WL0 M I := ⟨hL.1, hL.2.1, hL.2.2.1, hL.2.2.2.1⟩
    -- the facts tried
    have hloop : ∀ r n : Nat, n + r = 10 → ∀ L6 L8 k s, am_Ev 66 38 [some (.ref 16), some (.int (iI S)), some (.int (iI e)), some (.int (iI (wgt M S))), some (.int (iI (wgt M (BS M)))), some (.int (iI (5 - ((m + 1 : Nat) : Int)))), L6, some (.int (iI n)), L8] [] B I P G k s d (am_one (.inl (some (.int (iI 0)))) B I P G) := by
      intro r; induction r with
      | zero =>
        intro n hn L6 L8 k s
        obtain rfl : n = 10 := by omega
        simp (disch := (first | exact am_rf_ref | exact am_rf_rf | exact am_cat_int | exact am_cat_ref | exact am_cat_rf | exact am_rf_null | exact am_cat_null | omega)) only [e66_38, e66_40, e66_42, List.length_cons, List.length_nil, Nat.zero_add, Nat.reduceAdd, Nat.reduceLeDiff, Nat.zero_le, Option.toList_some, Option.toList_none, List.cons_append, List.nil_append, am_rf_ref, am_rf_rf, am_rf_null, am_cat_rf, am_cat_ref, am_cat_int, am_cat_null, va_rf_some, va_rf_none, true_and, and_true, true_or, or_true, am_ia10, TY9, TY10, TY11, TY12, TY13, TY14, TY15, TY16, TY17, TY18, TY19, TY20, TY21, TY22, TY23, TY24, TY25, TY26, TY27, TY28, TY29, TY30, TY31, TY32, TY33, TY34, TY35, TY36, TY37, TY38, TY39, TY40, TY41, TY42, TY43, TY100, TY106, TY107, TY108, TY109, TY110, TY111, TY112, TY113, TY114, TY115, TY116, TY117, TY118, TY119, TY120, TY124, TY125, TY126, TY127, TY128, TY129, TY131, TY132, TY133, TY134, TY135, TY136, TY137, TY138, TY139, TY140, TY141, TY142, TY143, TY144, TY145, TY146, TY147, TY150, TY154, TY155, TY160, iI_lit, iI_0, iI_1, iI_neg, iI_nI, iI_add, iI_sub, iI_mul, iI_lt, iI_le, iI_eq, iI_clamp, iI_in, nat_toNat, bI_0, bI_1, bI_okT, bI_ok, bI_ok0, bI_ok1, iM_r, iM_w, am_u_u, am_u_eq, am_u_na, am_u_ni, ne_eq, not_true_eq_false, not_false_eq_true, forall_const, false_imp_iff, Classical.not_not, Int.reduceLE, Int.reduceLT, Int.reduceEq, Int.reduceNe, Int.reduceAdd, Int.reduceSub, Int.reduceMul, Int.reduceNeg, Int.reduceToNat, Nat.reduceAdd, Nat.reduceMul, Nat.reduceEqDiff, Nat.reduceLT, Nat.reduceLeDiff, true_imp_iff, decide_eq_true_eq, decide_eq_false_iff_not, Bool.not_eq_false, Bool.not_eq_true, Bool.not_eq_false', Bool.not_eq_true']
        refine ⟨fun _ => ?_, fun w => by omega⟩
        simp (disch := (first | exact am_rf_ref | exact am_rf_rf | exact am_cat_int | exact am_cat_ref | exact am_cat_rf | exact am_rf_null | exact am_cat_null | omega)) only [e66_107, e66_108, List.length_cons, List.length_nil, Nat.zero_add, Nat.reduceAdd, Nat.reduceLeDiff, Nat.zero_le, Option.toList_some, Option.toList_none, List.cons_append, List.nil_append, am_rf_ref, am_rf_rf, am_rf_null, am_cat_rf, am_cat_ref, am_cat_int, am_cat_null, va_rf_some, va_rf_none, true_and, and_true, true_or, or_true, am_ia10, TY9, TY10, TY11, TY12, TY13, TY14, TY15, TY16, TY17, TY18, TY19, TY20, TY21, TY22, TY23, TY24, TY25, TY26, TY27, TY28, TY29, TY30, TY31, TY32, TY33, TY34, TY35, TY36, TY37, TY38, TY39, TY40, TY41, TY42, TY43, TY100, TY106, TY107, TY108, TY109, TY110, TY111, TY112, TY113, TY114, TY115, TY116, TY117, TY118, TY119, TY120, TY124, TY125, TY126, TY127, TY128, TY129, TY131, TY132, TY133, TY134, TY135, TY136, TY137, TY138, TY139, TY140, TY141, TY142, TY143, TY144, TY145, TY146, TY147, TY150, TY154, TY155, TY160, iI_lit, iI_0, iI_1, iI_neg, iI_nI, iI_add, iI_sub, iI_mul, iI_lt, iI_le, iI_eq, iI_clamp, iI_in, nat_toNat, bI_0, bI_1, bI_okT, bI_ok, bI_ok0, bI_ok1, iM_r, iM_w, am_u_u, am_u_eq, am_u_na, am_u_ni, ne_eq, not_true_eq_false, not_false_eq_true, forall_const, false_imp_iff, Classical.not_not, Int.reduceLE, Int.reduceLT, Int.reduceEq, Int.reduceNe, Int.reduceAdd, Int.reduceSub, Int.reduceMul, Int.reduceNeg, Int.reduceToNat, Nat.reduceAdd, Nat.reduceMul, Nat.reduceEqDiff, Nat.reduceLT, Nat.reduceLeDiff, true_imp_iff, decide_eq_true_eq, decide_eq_false_iff_not, Bool.not_eq_false, Bool.not_eq_true, Bool.not_eq_false', Bool.not_eq_true']
        exact am_q
      | succ r ih2 =>
        intro n hn L6 L8 k s
        obtain ⟨t, ht⟩ : ∃ t : Int, t = if S = 0 then 0 else e + M 100 3 := ⟨_, rfl⟩
        have ht0 : 0 ≤ t := by rw [ht]; split <;> omega
        have hk := wf_tk hW
        have hxb := sbh_bd (M := M) (f := n) (S := S) (t := t) (by omega) ht0
        have hnx : ∀ L6 L8 k s, am_Ev 66 101 [some (.ref 16), some (.int (iI S)), some (.int (iI e)), some (.int (iI (wgt M S))), some (.int (iI (wgt M (BS M)))), some (.int (iI (5 - ((m + 1 : Nat) : Int)))), L6, some (.int (iI n)), L8] [] B I P G k s d (am_one (.inl (some (.int (iI 0)))) B I P G) := by
          intro L6 L8 k s
          simp (disch := (first | exact am_rf_ref | exact am_rf_rf | exact am_cat_int | exact am_cat_ref | exact am_cat_rf | exact am_rf_null | exact am_cat_null | omega)) only [e66_101, e66_104, List.length_cons, List.length_nil, Nat.zero_add, Nat.reduceAdd, Nat.reduceLeDiff, Nat.zero_le, Option.toList_some, Option.toList_none, List.cons_append, List.nil_append, am_rf_ref, am_rf_rf, am_rf_null, am_cat_rf, am_cat_ref, am_cat_int, am_cat_null, va_rf_some, va_rf_none, true_and, and_true, true_or, or_true, am_ia10, TY9, TY10, TY11, TY12, TY13, TY14, TY15, TY16, TY17, TY18, TY19, TY20, TY21, TY22, TY23, TY24, TY25, TY26, TY27, TY28, TY29, TY30, TY31, TY32, TY33, TY34, TY35, TY36, TY37, TY38, TY39, TY40, TY41, TY42, TY43, TY100, TY106, TY107, TY108, TY109, TY110, TY111, TY112, TY113, TY114, TY115, TY116, TY117, TY118, TY119, TY120, TY124, TY125, TY126, TY127, TY128, TY129, TY131, TY132, TY133, TY134, TY135, TY136, TY137, TY138, TY139, TY140, TY141, TY142, TY143, TY144, TY145, TY146, TY147, TY150, TY154, TY155, TY160, iI_lit, iI_0, iI_1, iI_neg, iI_nI, iI_add, iI_sub, iI_mul, iI_lt, iI_le, iI_eq, iI_clamp, iI_in, nat_toNat, bI_0, bI_1, bI_okT, bI_ok, bI_ok0, bI_ok1, iM_r, iM_w, am_u_u, am_u_eq, am_u_na, am_u_ni, ne_eq, not_true_eq_false, not_false_eq_true, forall_const, false_imp_iff, Classical.not_not, Int.reduceLE, Int.reduceLT, Int.reduceEq, Int.reduceNe, Int.reduceAdd, Int.reduceSub, Int.reduceMul, Int.reduceNeg, Int.reduceToNat, Nat.reduceAdd, Nat.reduceMul, Nat.reduceEqDiff, Nat.reduceLT, Nat.reduceLeDiff, true_imp_iff, decide_eq_true_eq, decide_eq_false_iff_not, Bool.not_eq_false, Bool.not_eq_true, Bool.not_eq_false', Bool.not_eq_true']
          exact ih2 (n + 1) (by omega) _ _ _ _
        simp (disch := (first | exact am_rf_ref | exact am_rf_rf | exact am_cat_int | exact am_cat_ref | exact am_cat_rf | exact am_rf_null | exact am_cat_null | omega)) only [e66_38, e66_40, e66_42, e66_45, e66_46, e66_48, e66_49, List.length_cons, List.length_nil, Nat.zero_add, Nat.reduceAdd, Nat.reduceLeDiff, Nat.zero_le, Option.toList_some, Option.toList_none, List.cons_append, List.nil_append, am_rf_ref, am_rf_rf, am_rf_null, am_cat_rf, am_cat_ref, am_cat_int, am_cat_null, va_rf_some, va_rf_none, true_and, and_true, true_or, or_true, am_ia10, TY9, TY10, TY11, TY12, TY13, TY14, TY15, TY16, TY17, TY18, TY19, TY20, TY21, TY22, TY23, TY24, TY25, TY26, TY27, TY28, TY29, TY30, TY31, TY32, TY33, TY34, TY35, TY36, TY37, TY38, TY39, TY40, TY41, TY42, TY43, TY100, TY106, TY107, TY108, TY109, TY110, TY111, TY112, TY113, TY114, TY115, TY116, TY117, TY118, TY119, TY120, TY124, TY125, TY126, TY127, TY128, TY129, TY131, TY132, TY133, TY134, TY135, TY136, TY137, TY138, TY139, TY140, TY141, TY142, TY143, TY144, TY145, TY146, TY147, TY150, TY154, TY155, TY160, iI_lit, iI_0, iI_1, iI_neg, iI_nI, iI_add, iI_sub, iI_mul, iI_lt, iI_le, iI_eq, iI_clamp, iI_in, nat_toNat, bI_0, bI_1, bI_okT, bI_ok, bI_ok0, bI_ok1, iM_r, iM_w, am_u_u, am_u_eq, am_u_na, am_u_ni, ne_eq, not_true_eq_false, not_false_eq_true, forall_const, false_imp_iff, Classical.not_not, Int.reduceLE, Int.reduceLT, Int.reduceEq, Int.reduceNe, Int.reduceAdd, Int.reduceSub, Int.reduceMul, Int.reduceNeg, Int.reduceToNat, Nat.reduceAdd, Nat.reduceMul, Nat.reduceEqDiff, Nat.reduceLT, Nat.reduceLeDiff, true_imp_iff, decide_eq_true_eq, decide_eq_false_iff_not, Bool.not_eq_false, Bool.not_eq_true, Bool.not_eq_false', Bool.not_eq_true']
        refine ⟨fun w => by omega, fun _ => ?_⟩
        refine k66_50 _ 0 0 0 ty16 (Nat.le_of_ble_eq_true rfl) (Nat.zero_le _) (Nat.zero_le _) (by omega) (c58 (t := t) hp hbr hL0 (by omega) hS ⟨by omega, by omega⟩ ht) (am_k5 ?_) am_k6
        simp (disch := (first | exact am_rf_ref | exact am_rf_rf | exact am_cat_int | exact am_cat_ref | exact am_cat_rf | exact am_rf_null | exact am_cat_null | omega)) only [e66_53, e66_55, e66_57, e66_58, List.length_cons, List.length_nil, Nat.zero_add, Nat.reduceAdd, Nat.reduceLeDiff, Nat.zero_le, Option.toList_some, Option.toList_none, List.cons_append, List.nil_append, am_rf_ref, am_rf_rf, am_rf_null, am_cat_rf, am_cat_ref, am_cat_int, am_cat_null, va_rf_some, va_rf_none, true_and, and_true, true_or, or_true, am_ia10, TY9, TY10, TY11, TY12, TY13, TY14, TY15, TY16, TY17, TY18, TY19, TY20, TY21, TY22, TY23, TY24, TY25, TY26, TY27, TY28, TY29, TY30, TY31, TY32, TY33, TY34, TY35, TY36, TY37, TY38, TY39, TY40, TY41, TY42, TY43, TY100, TY106, TY107, TY108, TY109, TY110, TY111, TY112, TY113, TY114, TY115, TY116, TY117, TY118, TY119, TY120, TY124, TY125, TY126, TY127, TY128, TY129, TY131, TY132, TY133, TY134, TY135, TY136, TY137, TY138, TY139, TY140, TY141, TY142, TY143, TY144, TY145, TY146, TY147, TY150, TY154, TY155, TY160, iI_lit, iI_0, iI_1, iI_neg, iI_nI, iI_add, iI_sub, iI_mul, iI_lt, iI_le, iI_eq, iI_clamp, iI_in, nat_toNat, bI_0, bI_1, bI_okT, bI_ok, bI_ok0, bI_ok1, iM_r, iM_w, am_u_u, am_u_eq, am_u_na, am_u_ni, ne_eq, not_true_eq_false, not_false_eq_true, forall_const, false_imp_iff, Classical.not_not, Int.reduceLE, Int.reduceLT, Int.reduceEq, Int.reduceNe, Int.reduceAdd, Int.reduceSub, Int.reduceMul, Int.reduceNeg, Int.reduceToNat, Nat.reduceAdd, Nat.reduceMul, Nat.reduceEqDiff, Nat.reduceLT, Nat.reduceLeDiff, true_imp_iff, decide_eq_true_eq, decide_eq_false_iff_not, Bool.not_eq_false, Bool.not_eq_true, Bool.not_eq_false', Bool.not_eq_true']
        refine ⟨fun w => hnx _ _ _ _, fun w => ?_⟩
        obtain ⟨hT, hnb, _⟩ := sbh_T w
        obtain ⟨g1, g2, g3, g4⟩ := hL0.2.2.2 n (by omega) hT.1 hT.2
        obtain ⟨a1, a2, a3⟩ := cE_add hW hsp hbr hS (show n < 10 by omega) hc ht w
        have hlb := lng_bd hW hsp (f := n) (v := 0) (by omega)
        obtain ⟨c1, c2, c3⟩ := clr_add hS (show n < 10 by omega) hnb
        simp (disch := (first | exact am_rf_ref | exact am_rf_rf | exact am_cat_int | exact am_cat_ref | exact am_cat_rf | exact am_rf_null | exact am_cat_null | omega)) only [e66_61, e66_62, e66_63, e66_64, e66_66, e66_67, e66_68, e66_70, e66_71, e66_74, e66_76, e66_77, e66_78, e66_79, e66_80, e66_83, e66_85, e66_86, e66_87, e66_89, e66_91, e66_92, List.length_cons, List.length_nil, Nat.zero_add, Nat.reduceAdd, Nat.reduceLeDiff, Nat.zero_le, Option.toList_some, Option.toList_none, List.cons_append, List.nil_append, am_rf_ref, am_rf_rf, am_rf_null, am_cat_rf, am_cat_ref, am_cat_int, am_cat_null, va_rf_some, va_rf_none, true_and, and_true, true_or, or_true, am_ia10, TY9, TY10, TY11, TY12, TY13, TY14, TY15, TY16, TY17, TY18, TY19, TY20, TY21, TY22, TY23, TY24, TY25, TY26, TY27, TY28, TY29, TY30, TY31, TY32, TY33, TY34, TY35, TY36, TY37, TY38, TY39, TY40, TY41, TY42, TY43, TY100, TY106, TY107, TY108, TY109, TY110, TY111, TY112, TY113, TY114, TY115, TY116, TY117, TY118, TY119, TY120, TY124, TY125, TY126, TY127, TY128, TY129, TY131, TY132, TY133, TY134, TY135, TY136, TY137, TY138, TY139, TY140, TY141, TY142, TY143, TY144, TY145, TY146, TY147, TY150, TY154, TY155, TY160, iI_lit, iI_0, iI_1, iI_neg, iI_nI, iI_add, iI_sub, iI_mul, iI_lt, iI_le, iI_eq, iI_clamp, iI_in, nat_toNat, bI_0, bI_1, bI_okT, bI_ok, bI_ok0, bI_ok1, iM_r, iM_w, am_u_u, am_u_eq, am_u_na, am_u_ni, ne_eq, not_true_eq_false, not_false_eq_true, forall_const, false_imp_iff, Classical.not_not, Int.reduceLE, Int.reduceLT, Int.reduceEq, Int.reduceNe, Int.reduceAdd, Int.reduceSub, Int.reduceMul, Int.reduceNeg, Int.reduceToNat, Nat.reduceAdd, Nat.reduceMul, Nat.reduceEqDiff, Nat.reduceLT, Nat.reduceLeDiff, true_imp_iff, decide_eq_true_eq, decide_eq_false_iff_not, Bool.not_eq_false, Bool.not_eq_true, Bool.not_eq_false', Bool.not_eq_true', cp_w5 hp, cp_w4 hp, g1, g2, bit_or]
        rw [← a2, show 5 - ((m + 1 : Nat) : Int) + 1 = 5 - (m : Int) by omega]
        refine k66_93 am_cat_ref _ 0 0 (m + 2) (Nat.le_of_ble_eq_true rfl) (Nat.zero_le _) (Nat.zero_le _) (by omega) (ih (by omega) c3 a1 ⟨by omega, a3⟩ (by omega)) (am_k5 ?_) am_k6
        simp (disch := (first | exact am_rf_ref | exact am_rf_rf | exact am_cat_int | exact am_cat_ref | exact am_cat_rf | exact am_rf_null | exact am_cat_null | omega)) only [e66_96, List.length_cons, List.length_nil, Nat.zero_add, Nat.reduceAdd, Nat.reduceLeDiff, Nat.zero_le, Option.toList_some, Option.toList_none, List.cons_append, List.nil_append, am_rf_ref, am_rf_rf, am_rf_null, am_cat_rf, am_cat_ref, am_cat_int, am_cat_null, va_rf_some, va_rf_none, true_and, and_true, true_or, or_true, am_ia10, TY9, TY10, TY11, TY12, TY13, TY14, TY15, TY16, TY17, TY18, TY19, TY20, TY21, TY22, TY23, TY24, TY25, TY26, TY27, TY28, TY29, TY30, TY31, TY32, TY33, TY34, TY35, TY36, TY37, TY38, TY39, TY40, TY41, TY42, TY43, TY100, TY106, TY107, TY108, TY109, TY110, TY111, TY112, TY113, TY114, TY115, TY116, TY117, TY118, TY119, TY120, TY124, TY125, TY126, TY127, TY128, TY129, TY131, TY132, TY133, TY134, TY135, TY136, TY137, TY138, TY139, TY140, TY141, TY142, TY143, TY144, TY145, TY146, TY147, TY150, TY154, TY155, TY160, iI_lit, iI_0, iI_1, iI_neg, iI_nI, iI_add, iI_sub, iI_mul, iI_lt, iI_le, iI_eq, iI_clamp, iI_in, nat_toNat, bI_0, bI_1, bI_okT, bI_ok, bI_ok0, bI_ok1, iM_r, iM_w, am_u_u, am_u_eq, am_u_na, am_u_ni, ne_eq, not_true_eq_false, not_false_eq_true, forall_const, false_imp_iff, Classical.not_not, Int.reduceLE, Int.reduceLT, Int.reduceEq, Int.reduceNe, Int.reduceAdd, Int.reduceSub, Int.reduceMul, Int.reduceNeg, Int.reduceToNat, Nat.reduceAdd, Nat.reduceMul, Nat.reduceEqDiff, Nat.reduceLT, Nat.reduceLeDiff, true_imp_iff, decide_eq_true_eq, decide_eq_false_iff_not, Bool.not_eq_false, Bool.not_eq_true, Bool.not_eq_false', Bool.not_eq_true']
        exact hnx _ _ _ _
    simp (disch := (first | exact am_rf_ref | exact am_rf_rf | exact am_cat_int | exact am_cat_ref | exact am_cat_rf | exact am_rf_null | exact am_cat_null | omega)) only [e66_0, e66_1, e66_3, e66_6, e66_7, e66_8, e66_9, e66_11, e66_12, e66_14, e66_16, e66_19, e66_20, e66_22, e66_23, e66_26, e66_27, e66_28, e66_30, List.length_cons, List.length_nil, Nat.zero_add, Nat.reduceAdd, Nat.reduceLeDiff, Nat.zero_le, Option.toList_some, Option.toList_none, List.cons_append, List.nil_append, am_rf_ref, am_rf_rf, am_rf_null, am_cat_rf, am_cat_ref, am_cat_int, am_cat_null, va_rf_some, va_rf_none, true_and, and_true, true_or, or_true, am_ia10, TY9, TY10, TY11, TY12, TY13, TY14, TY15, TY16, TY17, TY18, TY19, TY20, TY21, TY22, TY23, TY24, TY25, TY26, TY27, TY28, TY29, TY30, TY31, TY32, TY33, TY34, TY35, TY36, TY37, TY38, TY39, TY40, TY41, TY42, TY43, TY100, TY106, TY107, TY108, TY109, TY110, TY111, TY112, TY113, TY114, TY115, TY116, TY117, TY118, TY119, TY120, TY124, TY125, TY126, TY127, TY128, TY129, TY131, TY132, TY133, TY134, TY135, TY136, TY137, TY138, TY139, TY140, TY141, TY142, TY143, TY144, TY145, TY146, TY147, TY150, TY154, TY155, TY160, iI_lit, iI_0, iI_1, iI_neg, iI_nI, iI_add, iI_sub, iI_mul, iI_lt, iI_le, iI_eq, iI_clamp, iI_in, nat_toNat, bI_0, bI_1, bI_okT, bI_ok, bI_ok0, bI_ok1, iM_r, iM_w, am_u_u, am_u_eq, am_u_na, am_u_ni, ne_eq, not_true_eq_false, not_false_eq_true, forall_const, false_imp_iff, Classical.not_not, Int.reduceLE, Int.reduceLT, Int.reduceEq, Int.reduceNe, Int.reduceAdd, Int.reduceSub, Int.reduceMul, Int.reduceNeg, Int.reduceToNat, Nat.reduceAdd, Nat.reduceMul, Nat.reduceEqDiff, Nat.reduceLT, Nat.reduceLeDiff, true_imp_iff, decide_eq_true_eq, decide_eq_false_iff_not, Bool.not_eq_false, Bool.not_eq_true, Bool.not_eq_false', Bool.not_eq_true', h3]
    refine ⟨fun _ => ⟨fun w => by omega, fun _ => ⟨fun _ => ?_, fun _ => ?_⟩⟩, fun w => by omega⟩
    · simp (disch := (first | exact am_rf_ref | exact am_rf_rf | exact am_cat_int | exact am_cat_ref | exact am_cat_rf | exact am_rf_null | exact am_cat_null | omega)) only [e66_35, e66_36, List.length_cons, List.length_nil, Nat.zero_add, Nat.reduceAdd, Nat.reduceLeDiff, Nat.zero_le, Option.toList_some, Option.toList_none, List.cons_append, List.nil_append, am_rf_ref, am_rf_rf, am_rf_null, am_cat_rf, am_cat_ref, am_cat_int, am_cat_null, va_rf_some, va_rf_none, true_and, and_true, true_or, or_true, am_ia10, TY9, TY10, TY11, TY12, TY13, TY14, TY15, TY16, TY17, TY18, TY19, TY20, TY21, TY22, TY23, TY24, TY25, TY26, TY27, TY28, TY29, TY30, TY31, TY32, TY33, TY34, TY35, TY36, TY37, TY38, TY39, TY40, TY41, TY42, TY43, TY100, TY106, TY107, TY108, TY109, TY110, TY111, TY112, TY113, TY114, TY115, TY116, TY117, TY118, TY119, TY120, TY124, TY125, TY126, TY127, TY128, TY129, TY131, TY132, TY133, TY134, TY135, TY136, TY137, TY138, TY139, TY140, TY141, TY142, TY143, TY144, TY145, TY146, TY147, TY150, TY154, TY155, TY160, iI_lit, iI_0, iI_1, iI_neg, iI_nI, iI_add, iI_sub, iI_mul, iI_lt, iI_le, iI_eq, iI_clamp, iI_in, nat_toNat, bI_0, bI_1, bI_okT, bI_ok, bI_ok0, bI_ok1, iM_r, iM_w, am_u_u, am_u_eq, am_u_na, am_u_ni, ne_eq, not_true_eq_false, not_false_eq_true, forall_const, false_imp_iff, Classical.not_not, Int.reduceLE, Int.reduceLT, Int.reduceEq, Int.reduceNe, Int.reduceAdd, Int.reduceSub, Int.reduceMul, Int.reduceNeg, Int.reduceToNat, Nat.reduceAdd, Nat.reduceMul, Nat.reduceEqDiff, Nat.reduceLT, Nat.reduceLeDiff, true_imp_iff, decide_eq_true_eq, decide_eq_false_iff_not, Bool.not_eq_false, Bool.not_eq_true, Bool.not_eq_false', Bool.not_eq_true']
      exact hloop 10 0 rfl _ _ _ _
    · simp (disch := (first | exact am_rf_ref | exact am_rf_rf | exact am_cat_int | exact am_cat_ref | exact am_cat_rf | exact am_rf_null | exact am_cat_null | omega)) only [e66_33, e66_34, List.length_cons, List.length_nil, Nat.zero_add, Nat.reduceAdd, Nat.reduceLeDiff, Nat.zero_le, Option.toList_some, Option.toList_none, List.cons_append, List.nil_append, am_rf_ref, am_rf_rf, am_rf_null, am_cat_rf, am_cat_ref, am_cat_int, am_cat_null, va_rf_some, va_rf_none, true_and, and_true, true_or, or_true, am_ia10, TY9, TY10, TY11, TY12, TY13, TY14, TY15, TY16, TY17, TY18, TY19, TY20, TY21, TY22, TY23, TY24, TY25, TY26, TY27, TY28, TY29, TY30, TY31, TY32, TY33, TY34, TY35, TY36, TY37, TY38, TY39, TY40, TY41, TY42, TY43, TY100, TY106, TY107, TY108, TY109, TY110, TY111, TY112, TY113, TY114, TY115, TY116, TY117, TY118, TY119, TY120, TY124, TY125, TY126, TY127, TY128, TY129, TY131, TY132, TY133, TY134, TY135, TY136, TY137, TY138, TY139, TY140, TY141, TY142, TY143, TY144, TY145, TY146, TY147, TY150, TY154, TY155, TY160, iI_lit, iI_0, iI_1, iI_neg, iI_nI, iI_add, iI_sub, iI_mul, iI_lt, iI_le, iI_eq, iI_clamp, iI_in, nat_toNat, bI_0, bI_1, bI_okT, bI_ok, bI_ok0, bI_ok1, iM_r, iM_w, am_u_u, am_u_eq, am_u_na, am_u_ni, ne_eq, not_true_eq_false, not_false_eq_true, forall_const, false_imp_iff, Classical.not_not, Int.reduceLE, Int.reduceLT, Int.reduceEq, Int.reduceNe, Int.reduceAdd, Int.reduceSub, Int.reduceMul, Int.reduceNeg, Int.reduceToNat, Nat.reduceAdd, Nat.reduceMul, Nat.reduceEqDiff, Nat.reduceLT, Nat.reduceLeDiff, true_imp_iff, decide_eq_true_eq, decide_eq_false_iff_not, Bool.not_eq_false, Bool.not_eq_true, Bool.not_eq_false', Bool.not_eq_true']
      exact am_q
theorem c65 (hW : WFi K M) (hsp : 2 ≤ M 100 2 ∧ M 100 2 ≤ 9) (hbr : 0 ≤ M 100 3 ∧ M 100 3 ≤ 20) (hp : CP P) (hL : WL M I) (hd : 8 ≤ d) : am_Ev 65 0 [some (.ref 16), some (.int (iI (wgt M (BS M))))] [] B I P G k s d (am_one (.inl (some (.int (iI 0)))) B I P G) := by
  have hc0 : cE M 0 = 0 := by
    unfold cE; rw [if_pos ((otm_i (by omega)).mpr (fun f g hf => by rw [Nat.zero_testBit] at hf; exact Bool.noConfusion hf)), wE_0]
  have h := c66 (B := B) (G := G) hW hsp hbr hp hL 5 (Nat.le_refl _) (S := 0) (e := 0) (by omega) ⟨by omega, by omega⟩ ⟨by omega, by omega⟩ (k := 0) (s := 0) (d := 7) (by omega)
  rw [show wgt M 0 = 0 by simp [wgt, wof]] at h
  simp (disch := (first | exact am_rf_ref | exact am_rf_rf | exact am_cat_int | exact am_cat_ref | exact am_cat_rf | exact am_rf_null | exact am_cat_null | omega)) only [e65_0, e65_1, e65_2, e65_3, e65_4, e65_5, List.length_cons, List.length_nil, Nat.zero_add, Nat.reduceAdd, Nat.reduceLeDiff, Nat.zero_le, Option.toList_some, Option.toList_none, List.cons_append, List.nil_append, am_rf_ref, am_rf_rf, am_rf_null, am_cat_rf, am_cat_ref, am_cat_int, am_cat_null, va_rf_some, va_rf_none, true_and, and_true, true_or, or_true, am_ia10, TY9, TY10, TY11, TY12, TY13, TY14, TY15, TY16, TY17, TY18, TY19, TY20, TY21, TY22, TY23, TY24, TY25, TY26, TY27, TY28, TY29, TY30, TY31, TY32, TY33, TY34, TY35, TY36, TY37, TY38, TY39, TY40, TY41, TY42, TY43, TY100, TY106, TY107, TY108, TY109, TY110, TY111, TY112, TY113, TY114, TY115, TY116, TY117, TY118, TY119, TY120, TY124, TY125, TY126, TY127, TY128, TY129, TY131, TY132, TY133, TY134, TY135, TY136, TY137, TY138, TY139, TY140, TY141, TY142, TY143, TY144, TY145, TY146, TY147, TY150, TY154, TY155, TY160, iI_lit, iI_0, iI_1, iI_neg, iI_nI, iI_add, iI_sub, iI_mul, iI_lt, iI_le, iI_eq, iI_clamp, iI_in, nat_toNat, bI_0, bI_1, bI_okT, bI_ok, bI_ok0, bI_ok1, iM_r, iM_w, am_u_u, am_u_eq, am_u_na, am_u_ni, ne_eq, not_true_eq_false, not_false_eq_true, forall_const, false_imp_iff, Classical.not_not, Int.reduceLE, Int.reduceLT, Int.reduceEq, Int.reduceNe, Int.reduceAdd, Int.reduceSub, Int.reduceMul, Int.reduceNeg, Int.reduceToNat, Nat.reduceAdd, Nat.reduceMul, Nat.reduceEqDiff, Nat.reduceLT, Nat.reduceLeDiff, true_imp_iff, decide_eq_true_eq, decide_eq_false_iff_not, Bool.not_eq_false, Bool.not_eq_true, Bool.not_eq_false', Bool.not_eq_true']
  refine k65_6 am_cat_ref _ 0 0 7 (Nat.le_of_ble_eq_true rfl) (Nat.zero_le _) (Nat.zero_le _) (by omega) h (am_k5 ?_) am_k6
  simp (disch := (first | exact am_rf_ref | exact am_rf_rf | exact am_cat_int | exact am_cat_ref | exact am_cat_rf | exact am_rf_null | exact am_cat_null | omega)) only [e65_9, List.length_cons, List.length_nil, Nat.zero_add, Nat.reduceAdd, Nat.reduceLeDiff, Nat.zero_le, Option.toList_some, Option.toList_none, List.cons_append, List.nil_append, am_rf_ref, am_rf_rf, am_rf_null, am_cat_rf, am_cat_ref, am_cat_int, am_cat_null, va_rf_some, va_rf_none, true_and, and_true, true_or, or_true, am_ia10, TY9, TY10, TY11, TY12, TY13, TY14, TY15, TY16, TY17, TY18, TY19, TY20, TY21, TY22, TY23, TY24, TY25, TY26, TY27, TY28, TY29, TY30, TY31, TY32, TY33, TY34, TY35, TY36, TY37, TY38, TY39, TY40, TY41, TY42, TY43, TY100, TY106, TY107, TY108, TY109, TY110, TY111, TY112, TY113, TY114, TY115, TY116, TY117, TY118, TY119, TY120, TY124, TY125, TY126, TY127, TY128, TY129, TY131, TY132, TY133, TY134, TY135, TY136, TY137, TY138, TY139, TY140, TY141, TY142, TY143, TY144, TY145, TY146, TY147, TY150, TY154, TY155, TY160, iI_lit, iI_0, iI_1, iI_neg, iI_nI, iI_add, iI_sub, iI_mul, iI_lt, iI_le, iI_eq, iI_clamp, iI_in, nat_toNat, bI_0, bI_1, bI_okT, bI_ok, bI_ok0, bI_ok1, iM_r, iM_w, am_u_u, am_u_eq, am_u_na, am_u_ni, ne_eq, not_true_eq_false, not_false_eq_true, forall_const, false_imp_iff, Classical.not_not, Int.reduceLE, Int.reduceLT, Int.reduceEq, Int.reduceNe, Int.reduceAdd, Int.reduceSub, Int.reduceMul, Int.reduceNeg, Int.reduceToNat, Nat.reduceAdd, Nat.reduceMul, Nat.reduceEqDiff, Nat.reduceLT, Nat.reduceLeDiff, true_imp_iff, decide_eq_true_eq, decide_eq_false_iff_not, Bool.not_eq_false, Bool.not_eq_true, Bool.not_eq_false', Bool.not_eq_true']
  exact am_q
end
