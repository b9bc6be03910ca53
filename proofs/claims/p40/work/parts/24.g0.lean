/-! gaps -/
theorem GE_le {M : Nat → Nat → Int} {u x : Int} : ∀ n : Nat, GE M u x n ≤ M 100 1 ∧ ∀ k, k < n → (u ≠ 0 ∨ M 106 k ≠ 103) → x ≤ M 107 k → GE M u x n ≤ M 107 k := by
  intro n; induction n with
  | zero => exact ⟨Int.le_refl _, fun k h => by omega⟩
  | succ n ih =>
    simp only [GE]
    refine ⟨by split <;> omega, fun k hk h1 h2 => ?_⟩
    rcases Nat.lt_or_eq_of_le (Nat.le_of_lt_succ hk) with q | q
    · have := ih.2 k q h1 h2
      split <;> omega
    · subst q
      split
      · exact Int.le_refl _
      · next h3 =>
        rcases Int.lt_or_le (M 107 k) (GE M u x k) with w | w
        · exact absurd ⟨h1, h2, w⟩ h3
        · exact w
theorem GE_at {M : Nat → Nat → Int} {u x : Int} : ∀ n : Nat, GE M u x n = M 100 1 ∨ ∃ k, k < n ∧ (u ≠ 0 ∨ M 106 k ≠ 103) ∧ x ≤ M 107 k ∧ GE M u x n = M 107 k := by
  intro n; induction n with
  | zero => exact Or.inl rfl
  | succ n ih =>
    simp only [GE]
    split
    · next h => exact Or.inr ⟨n, by omega, h.1, h.2.1, rfl⟩
    · rcases ih with h | ⟨k, h1, h2⟩
      · exact Or.inl h
      · exact Or.inr ⟨k, by omega, h2⟩
/-- the end of the gap of a quiet tick -/
def gpe (M : Nat → Nat → Int) (u x : Int) : Int := GE M u x (M 100 4).toNat
theorem gpe_sp {K : Int} {M : Nat → Nat → Int} (hW : WFi K M) {u x : Int} (hx : 0 ≤ x ∧ x < M 100 1) (hq : bar M u x (x + 1) = false) :
    (x < gpe M u x ∧ gpe M u x ≤ M 100 1) ∧ (∀ s, x ≤ s → s < gpe M u x → bar M u s (s + 1) = false) ∧ (gpe M u x < M 100 1 → bar M u (gpe M u x) (gpe M u x + 1) = true) ∧ bar M u x (gpe M u x) = false := by
  have hn := wf_n hW
  have h1 := GE_le (M := M) (u := u) (x := x) (M 100 4).toNat
  have h2 := GE_at (M := M) (u := u) (x := x) (M 100 4).toNat
  have hno : ∀ k : Nat, (k : Int) < M 100 4 → (u ≠ 0 ∨ M 106 k ≠ 103) → ¬ (M 107 k < x + 1 ∧ x < M 108 k) := fun k hk h3 h4 => by
    have := bar_t (M := M) (u := u) hk ⟨h3, h4.1, h4.2⟩; rw [hq] at this; exact Bool.false_ne_true this
  change gpe M u x ≤ _ ∧ _ at h1
  change gpe M u x = _ ∨ _ at h2
  refine ⟨⟨?_, h1.1⟩, fun s h3 h4 => ?_, fun h3 => ?_, ?_⟩
  · rcases h2 with h2 | ⟨k, q1, q2, q3, q4⟩
    · omega
    · have q5 : gpe M u x = M 107 k := q4
      have := wf_so hW k (by omega)
      have := hno k (by omega) q2
      omega
  · rcases hb : bar M u s (s + 1) with _ | _
    · rfl
    · obtain ⟨k, q1, q2, q3, q4⟩ := bar_ex hb
      have q5 := hno k q1 q2
      have q6 : x ≤ M 107 k := by omega
      have q7 : gpe M u x ≤ M 107 k := h1.2 k (by omega) q2 q6
      omega
  · rcases h2 with h2 | ⟨k, q1, q2, q3, q4⟩
    · omega
    · have q5 : gpe M u x = M 107 k := q4
      have := wf_so hW k (by omega)
      exact bar_t (k := k) (by omega) ⟨q2, by omega, by omega⟩
  · rcases hb : bar M u x (gpe M u x) with _ | _
    · rfl
    · obtain ⟨k, q1, q2, q3, q4⟩ := bar_ex hb
      have q5 := hno k q1 q2
      have q6 : x ≤ M 107 k := by omega
      have q7 : gpe M u x ≤ M 107 k := h1.2 k (by omega) q2 q6
      omega
/-- no gap begins between -/
theorem gcn_no {M : Nat → Nat → Int} {u : Int} {a : Nat} : ∀ n : Nat, (∀ s : Nat, a ≤ s → s < a + n → bgn M u s = false) → gcn M u (a + n) = gcn M u a := by
  intro n; induction n with
  | zero => intro _; rfl
  | succ n ih =>
    intro h
    rw [show a + (n + 1) = (a + n) + 1 by omega]
    simp only [gcn]
    rw [h (a + n) (by omega) (by omega), ih (fun s h1 h2 => h s h1 (by omega))]
    simp
theorem gsr_no {M : Nat → Nat → Int} {u ix : Int} {c : Int} : ∀ (m n a : Nat), (∀ s : Nat, a ≤ s → s < a + m → bgn M u s = false) → gsr M u ix (m + n) a c = gsr M u ix n (a + m) c := by
  intro m; induction m with
  | zero => intro n a _; rw [Nat.zero_add]; rfl
  | succ m ih =>
    intro n a h
    rw [show m + 1 + n = (m + n) + 1 by omega]
    simp only [gsr]
    rw [h a (Nat.le_refl _) (by omega)]
    rw [if_neg Bool.false_ne_true, ih n (a + 1) (fun s h1 h2 => h s (by omega) (by omega)), show a + 1 + m = a + (m + 1) by omega]
/-- a place where a gap may begin -/
def gst (M : Nat → Nat → Int) (u : Int) (x : Nat) : Prop := (x : Int) < M 100 1 → bar M u x (x + 1) = false ∧ (x = 0 ∨ bar M u ((x : Int) - 1) x = true)
theorem gst_bgn {M : Nat → Nat → Int} {u : Int} {x : Nat} (h : gst M u x) (hx : (x : Int) < M 100 1) : bgn M u x = true := by
  obtain ⟨h1, h2⟩ := h hx
  unfold bgn
  rw [h1]
  rcases h2 with h2 | h2
  · subst h2; rfl
  · rw [h2]; simp
/-- from one gap to the next -/
theorem gst_nx {K : Int} {M : Nat → Nat → Int} (hW : WFi K M) {u : Int} {x : Nat} (h : gst M u x) (hx : (x : Int) < M 100 1) {q : Int} (hq : QF M u (gpe M u x) 1 q) : ∃ y : Nat, q = y ∧ x < y ∧ (y : Int) ≤ M 100 1 ∧ gst M u y ∧ ∀ s : Nat, x + 1 ≤ s → s < y → bgn M u s = false := by
  have h1 := (h hx).1
  obtain ⟨h2, h3, h4, h5⟩ := gpe_sp hW ⟨by omega, hx⟩ h1
  obtain ⟨h6, h7, h8⟩ := hq
  obtain ⟨y, hy⟩ : ∃ y : Nat, q = y := ⟨q.toNat, by omega⟩
  subst hy
  refine ⟨y, rfl, by omega, by omega, fun hy => ⟨h7, ?_⟩, fun s q1 q2 => ?_⟩
  · right
    have h9 : gpe M u x ≠ y := fun e => by
      have := h4 (by omega); rw [e, h7] at this; exact Bool.false_ne_true this
    have h10 := h8 ((y : Int) - 1) (by omega) (by omega)
    rw [show (y : Int) - 1 + 1 = y by omega] at h10
    exact h10
  · unfold bgn
    rcases Int.lt_or_le (s : Int) (gpe M u x) with w | w
    · have h9 := h3 ((s : Int) - 1) (by omega) (by omega)
      rw [show (s : Int) - 1 + 1 = s by omega] at h9
      rw [h9, decide_eq_false (show ¬ (s : Int) = 0 by omega)]; simp
    · rw [h8 s w (by omega)]; rfl
theorem gst_0 {M : Nat → Nat → Int} (ht : 1 ≤ M 100 1) {u : Int} {q : Int} (hq : QF M u 0 1 q) : ∃ y : Nat, q = y ∧ (y : Int) ≤ M 100 1 ∧ gst M u y ∧ ∀ s : Nat, s < y → bgn M u s = false := by
  obtain ⟨h6, h7, h8⟩ := hq
  obtain ⟨y, hy⟩ : ∃ y : Nat, q = y := ⟨q.toNat, by omega⟩
  subst hy
  refine ⟨y, rfl, by omega, fun hy => ⟨h7, ?_⟩, fun s q2 => ?_⟩
  · by_cases h0 : y = 0
    · exact Or.inl h0
    · right
      have h10 := h8 ((y : Int) - 1) (by omega) (by omega)
      rw [show (y : Int) - 1 + 1 = y by omega] at h10
      exact h10
  · unfold bgn; rw [h8 s (by omega) (by omega)]; rfl
theorem gen_e {M : Nat → Nat → Int} {u : Int} {g : Int} (hg : g ≤ M 100 1) : ∀ (n x : Nat), (x : Int) + n = M 100 1 → (x : Int) ≤ g → (∀ s : Int, x ≤ s → s < g → bar M u s (s + 1) = false) → (g < M 100 1 → bar M u g (g + 1) = true) → ((gen M u n x : Nat) : Int) = g := by
  intro n; induction n with
  | zero => intro x h1 h2 h3 h4; simp only [gen]; omega
  | succ n ih =>
    intro x h1 h2 h3 h4
    simp only [gen]
    rcases Int.lt_or_le (x : Int) g with w | w
    · rw [if_neg (by rw [h3 x (Int.le_refl _) w]; exact Bool.false_ne_true)]
      exact ih (x + 1) (by omega) (by omega) (fun s q1 q2 => h3 s (by omega) q2) h4
    · have : (x : Int) = g := by omega
      rw [this, if_pos (h4 (by omega))]; exact this
section
variable {st : List Value} {B : Nat} {I C : am_I} {P : am_P} {G : am_G} {k s d : Nat} {Q : am_Q} {M : Nat → Nat → Int} {K : Int} {sh : Nat → Nat → Nat}
/-- a call of quietFrom's end -/
def qfR (M : Nat → Nat → Int) (u t l : Int) (B : Nat) (I : am_I) (P : am_P) (G : am_G) : am_Q := fun o B' I' P' G' => ∃ q, QF M u t l q ∧ o = .inl (some (.int (iI q))) ∧ B' = B ∧ I' = I ∧ P' = P ∧ G' = G
theorem am_k5q {p : Option Value → Nat → am_I → am_P → am_G → Prop} {u t l : Int} (h : ∀ q, QF M u t l q → p (some (.int (iI q))) B I P G) : ∀ v B' I' P' G', qfR M u t l B I P G (.inl v) B' I' P' G' → p v B' I' P' G' := by
  rintro v B' I' P' G' ⟨q, h1, e, rfl, rfl, rfl, rfl⟩; cases e; exact h q h1
theorem am_k6q {p : Nat → Nat → am_I → am_P → am_G → Prop} {u t l : Int} : ∀ x B' I' P' G', qfR M u t l B I P G (.inr x) B' I' P' G' → p x B' I' P' G' := by
  rintro v B' I' P' G' ⟨q, h1, e, _⟩; cases e
theorem c18q (hW : WFi K M) (h : FM M sh I P B) (hd : 3 ≤ d) {t l u : Int} (ht : 0 ≤ t ∧ t ≤ 900) (hl : 1 ≤ l ∧ l ≤ 500) (hu : u = 0 ∨ u = 1) :
    am_Ev 18 0 [some (.ref 11), some (.int (iI t)), some (.int (iI l)), some (.int (iI u)), none, none, none, none, none] [] B I P G k s d (qfR M u t l B I P G) := c18 hW h hd ht hl hu (fun q hq => ⟨q, hq, rfl, rfl, rfl, rfl, rfl⟩)
theorem c21 (hW : WFi K M) (h : FM M sh I P B) (hd : 4 ≤ d) {u : Int} (hu : u = 0 ∨ u = 1) :
    am_Ev 21 0 [some (.ref 11), some (.int (iI u)), none, none] [] B I P G k s d (am_one (.inl (some (.int (iI (gcn M u (M 100 1).toNat))))) B I P G) := by
  have hk := wf_tk hW
  refine (fun (hz : ∀ (n x : Nat), (x : Int) + n = M 100 1 → gst M u x → ∀ k s, am_Ev 21 10 [some (.ref 11), some (.int (iI u)), some (.int (iI (gcn M u x))), some (.int (iI x))] [] B I P G k s d (am_one (.inl (some (.int (iI (gcn M u (M 100 1).toNat))))) B I P G)) => ?_) ?_
  · simp (disch := (first | exact am_rf_ref | exact am_rf_rf | exact am_cat_int | exact am_cat_ref | exact am_cat_rf | exact am_rf_null | exact am_cat_null | omega)) only [e21_0, e21_1, e21_2, e21_3, e21_4, e21_5, List.length_cons, List.length_nil, Nat.zero_add, Nat.reduceAdd, Nat.reduceLeDiff, Nat.zero_le, Option.toList_some, Option.toList_none, List.cons_append, List.nil_append, am_rf_ref, am_rf_rf, am_rf_null, am_cat_rf, am_cat_ref, am_cat_int, am_cat_null, va_rf_some, va_rf_none, true_and, and_true, true_or, or_true, am_ia10, TY9, TY10, TY11, TY12, TY13, TY14, TY15, TY16, TY17, TY18, TY19, TY20, TY21, TY22, TY23, TY24, TY25, TY26, TY27, TY28, TY29, TY30, TY31, TY32, TY33, TY34, TY35, TY36, TY37, TY38, TY39, TY40, TY41, TY42, TY43, TY100, TY106, TY107, TY108, TY109, TY110, TY111, TY112, TY113, TY114, TY115, TY116, TY117, TY118, TY119, TY120, TY124, TY125, TY126, TY127, TY128, TY129, TY131, TY132, TY133, TY134, TY135, TY136, TY137, TY138, TY139, TY140, TY141, TY142, TY143, TY144, TY145, TY146, TY147, TY150, TY154, TY155, TY160, iI_lit, iI_0, iI_1, iI_neg, iI_nI, iI_add, iI_sub, iI_mul, iI_lt, iI_le, iI_eq, iI_clamp, iI_in, nat_toNat, bI_0, bI_1, bI_okT, bI_ok, bI_ok0, bI_ok1, iM_r, iM_w, am_u_u, am_u_eq, am_u_na, am_u_ni, ne_eq, not_true_eq_false, not_false_eq_true, forall_const, false_imp_iff, Classical.not_not, Int.reduceLE, Int.reduceLT, Int.reduceEq, Int.reduceNe, Int.reduceAdd, Int.reduceSub, Int.reduceMul, Int.reduceNeg, Int.reduceToNat, Nat.reduceAdd, Nat.reduceMul, Nat.reduceEqDiff, Nat.reduceLT, Nat.reduceLeDiff, true_imp_iff, decide_eq_true_eq, decide_eq_false_iff_not, Bool.not_eq_false, Bool.not_eq_true, Bool.not_eq_false', Bool.not_eq_true']
    refine k21_6 _ 0 0 3 ty11 (Nat.le_of_ble_eq_true rfl) (Nat.zero_le _) (Nat.zero_le _) (by omega) (c18q hW h (by omega) (by omega) (by omega) hu) (am_k5q ?_) am_k6q
    intro q hq
    obtain ⟨y, rfl, h1, h2, h3⟩ := gst_0 hk.1 hq
    simp (disch := (first | exact am_rf_ref | exact am_rf_rf | exact am_cat_int | exact am_cat_ref | exact am_cat_rf | exact am_rf_null | exact am_cat_null | omega)) only [e21_9, List.length_cons, List.length_nil, Nat.zero_add, Nat.reduceAdd, Nat.reduceLeDiff, Nat.zero_le, Option.toList_some, Option.toList_none, List.cons_append, List.nil_append, am_rf_ref, am_rf_rf, am_rf_null, am_cat_rf, am_cat_ref, am_cat_int, am_cat_null, va_rf_some, va_rf_none, true_and, and_true, true_or, or_true, am_ia10, TY9, TY10, TY11, TY12, TY13, TY14, TY15, TY16, TY17, TY18, TY19, TY20, TY21, TY22, TY23, TY24, TY25, TY26, TY27, TY28, TY29, TY30, TY31, TY32, TY33, TY34, TY35, TY36, TY37, TY38, TY39, TY40, TY41, TY42, TY43, TY100, TY106, TY107, TY108, TY109, TY110, TY111, TY112, TY113, TY114, TY115, TY116, TY117, TY118, TY119, TY120, TY124, TY125, TY126, TY127, TY128, TY129, TY131, TY132, TY133, TY134, TY135, TY136, TY137, TY138, TY139, TY140, TY141, TY142, TY143, TY144, TY145, TY146, TY147, TY150, TY154, TY155, TY160, iI_lit, iI_0, iI_1, iI_neg, iI_nI, iI_add, iI_sub, iI_mul, iI_lt, iI_le, iI_eq, iI_clamp, iI_in, nat_toNat, bI_0, bI_1, bI_okT, bI_ok, bI_ok0, bI_ok1, iM_r, iM_w, am_u_u, am_u_eq, am_u_na, am_u_ni, ne_eq, not_true_eq_false, not_false_eq_true, forall_const, false_imp_iff, Classical.not_not, Int.reduceLE, Int.reduceLT, Int.reduceEq, Int.reduceNe, Int.reduceAdd, Int.reduceSub, Int.reduceMul, Int.reduceNeg, Int.reduceToNat, Nat.reduceAdd, Nat.reduceMul, Nat.reduceEqDiff, Nat.reduceLT, Nat.reduceLeDiff, true_imp_iff, decide_eq_true_eq, decide_eq_false_iff_not, Bool.not_eq_false, Bool.not_eq_true, Bool.not_eq_false', Bool.not_eq_true']
    have h4 := hz ((M 100 1).toNat - y) y (by omega) h2 (k - 0) (s - 0)
    have h5 : gcn M u y = 0 := by have := gcn_no (M := M) (u := u) (a := 0) y (fun s _ h => h3 s (by omega)); rw [Nat.zero_add] at this; rw [this]; rfl
    rw [h5] at h4
    exact h4
  · intro n
    induction n using Nat.strongRecOn with
    | _ n ih =>
      intro x h1 h2 k s
      have hb := gcn_bd M u x
      simp (disch := (first | exact am_rf_ref | exact am_rf_rf | exact am_cat_int | exact am_cat_ref | exact am_cat_rf | exact am_rf_null | exact am_cat_null | omega)) only [e21_10, e21_11, e21_14, e21_17, e21_18, e21_19, e21_22, List.length_cons, List.length_nil, Nat.zero_add, Nat.reduceAdd, Nat.reduceLeDiff, Nat.zero_le, Option.toList_some, Option.toList_none, List.cons_append, List.nil_append, am_rf_ref, am_rf_rf, am_rf_null, am_cat_rf, am_cat_ref, am_cat_int, am_cat_null, va_rf_some, va_rf_none, true_and, and_true, true_or, or_true, am_ia10, TY9, TY10, TY11, TY12, TY13, TY14, TY15, TY16, TY17, TY18, TY19, TY20, TY21, TY22, TY23, TY24, TY25, TY26, TY27, TY28, TY29, TY30, TY31, TY32, TY33, TY34, TY35, TY36, TY37, TY38, TY39, TY40, TY41, TY42, TY43, TY100, TY106, TY107, TY108, TY109, TY110, TY111, TY112, TY113, TY114, TY115, TY116, TY117, TY118, TY119, TY120, TY124, TY125, TY126, TY127, TY128, TY129, TY131, TY132, TY133, TY134, TY135, TY136, TY137, TY138, TY139, TY140, TY141, TY142, TY143, TY144, TY145, TY146, TY147, TY150, TY154, TY155, TY160, iI_lit, iI_0, iI_1, iI_neg, iI_nI, iI_add, iI_sub, iI_mul, iI_lt, iI_le, iI_eq, iI_clamp, iI_in, nat_toNat, bI_0, bI_1, bI_okT, bI_ok, bI_ok0, bI_ok1, iM_r, iM_w, am_u_u, am_u_eq, am_u_na, am_u_ni, ne_eq, not_true_eq_false, not_false_eq_true, forall_const, false_imp_iff, Classical.not_not, Int.reduceLE, Int.reduceLT, Int.reduceEq, Int.reduceNe, Int.reduceAdd, Int.reduceSub, Int.reduceMul, Int.reduceNeg, Int.reduceToNat, Nat.reduceAdd, Nat.reduceMul, Nat.reduceEqDiff, Nat.reduceLT, Nat.reduceLeDiff, true_imp_iff, decide_eq_true_eq, decide_eq_false_iff_not, Bool.not_eq_false, Bool.not_eq_true, Bool.not_eq_false', Bool.not_eq_true', fm_tk h]
      refine ⟨fun h => ?_, fun _ => ⟨fun h3 => ?_, fun h3 => ?_⟩⟩
      · simp (disch := (first | exact am_rf_ref | exact am_rf_rf | exact am_cat_int | exact am_cat_ref | exact am_cat_rf | exact am_rf_null | exact am_cat_null | omega)) only [e21_44, e21_45, List.length_cons, List.length_nil, Nat.zero_add, Nat.reduceAdd, Nat.reduceLeDiff, Nat.zero_le, Option.toList_some, Option.toList_none, List.cons_append, List.nil_append, am_rf_ref, am_rf_rf, am_rf_null, am_cat_rf, am_cat_ref, am_cat_int, am_cat_null, va_rf_some, va_rf_none, true_and, and_true, true_or, or_true, am_ia10, TY9, TY10, TY11, TY12, TY13, TY14, TY15, TY16, TY17, TY18, TY19, TY20, TY21, TY22, TY23, TY24, TY25, TY26, TY27, TY28, TY29, TY30, TY31, TY32, TY33, TY34, TY35, TY36, TY37, TY38, TY39, TY40, TY41, TY42, TY43, TY100, TY106, TY107, TY108, TY109, TY110, TY111, TY112, TY113, TY114, TY115, TY116, TY117, TY118, TY119, TY120, TY124, TY125, TY126, TY127, TY128, TY129, TY131, TY132, TY133, TY134, TY135, TY136, TY137, TY138, TY139, TY140, TY141, TY142, TY143, TY144, TY145, TY146, TY147, TY150, TY154, TY155, TY160, iI_lit, iI_0, iI_1, iI_neg, iI_nI, iI_add, iI_sub, iI_mul, iI_lt, iI_le, iI_eq, iI_clamp, iI_in, nat_toNat, bI_0, bI_1, bI_okT, bI_ok, bI_ok0, bI_ok1, iM_r, iM_w, am_u_u, am_u_eq, am_u_na, am_u_ni, ne_eq, not_true_eq_false, not_false_eq_true, forall_const, false_imp_iff, Classical.not_not, Int.reduceLE, Int.reduceLT, Int.reduceEq, Int.reduceNe, Int.reduceAdd, Int.reduceSub, Int.reduceMul, Int.reduceNeg, Int.reduceToNat, Nat.reduceAdd, Nat.reduceMul, Nat.reduceEqDiff, Nat.reduceLT, Nat.reduceLeDiff, true_imp_iff, decide_eq_true_eq, decide_eq_false_iff_not, Bool.not_eq_false, Bool.not_eq_true, Bool.not_eq_false', Bool.not_eq_true']
        rw [show (M 100 1).toNat = x by omega]; exact am_q
      · simp (disch := (first | exact am_rf_ref | exact am_rf_rf | exact am_cat_int | exact am_cat_ref | exact am_cat_rf | exact am_rf_null | exact am_cat_null | omega)) only [e21_44, e21_45, List.length_cons, List.length_nil, Nat.zero_add, Nat.reduceAdd, Nat.reduceLeDiff, Nat.zero_le, Option.toList_some, Option.toList_none, List.cons_append, List.nil_append, am_rf_ref, am_rf_rf, am_rf_null, am_cat_rf, am_cat_ref, am_cat_int, am_cat_null, va_rf_some, va_rf_none, true_and, and_true, true_or, or_true, am_ia10, TY9, TY10, TY11, TY12, TY13, TY14, TY15, TY16, TY17, TY18, TY19, TY20, TY21, TY22, TY23, TY24, TY25, TY26, TY27, TY28, TY29, TY30, TY31, TY32, TY33, TY34, TY35, TY36, TY37, TY38, TY39, TY40, TY41, TY42, TY43, TY100, TY106, TY107, TY108, TY109, TY110, TY111, TY112, TY113, TY114, TY115, TY116, TY117, TY118, TY119, TY120, TY124, TY125, TY126, TY127, TY128, TY129, TY131, TY132, TY133, TY134, TY135, TY136, TY137, TY138, TY139, TY140, TY141, TY142, TY143, TY144, TY145, TY146, TY147, TY150, TY154, TY155, TY160, iI_lit, iI_0, iI_1, iI_neg, iI_nI, iI_add, iI_sub, iI_mul, iI_lt, iI_le, iI_eq, iI_clamp, iI_in, nat_toNat, bI_0, bI_1, bI_okT, bI_ok, bI_ok0, bI_ok1, iM_r, iM_w, am_u_u, am_u_eq, am_u_na, am_u_ni, ne_eq, not_true_eq_false, not_false_eq_true, forall_const, false_imp_iff, Classical.not_not, Int.reduceLE, Int.reduceLT, Int.reduceEq, Int.reduceNe, Int.reduceAdd, Int.reduceSub, Int.reduceMul, Int.reduceNeg, Int.reduceToNat, Nat.reduceAdd, Nat.reduceMul, Nat.reduceEqDiff, Nat.reduceLT, Nat.reduceLeDiff, true_imp_iff, decide_eq_true_eq, decide_eq_false_iff_not, Bool.not_eq_false, Bool.not_eq_true, Bool.not_eq_false', Bool.not_eq_true']
        rw [show (M 100 1).toNat = x by omega]; exact am_q
      · simp (disch := (first | exact am_rf_ref | exact am_rf_rf | exact am_cat_int | exact am_cat_ref | exact am_cat_rf | exact am_rf_null | exact am_cat_null | omega)) only [e21_25, e21_28, e21_29, e21_30, e21_31, List.length_cons, List.length_nil, Nat.zero_add, Nat.reduceAdd, Nat.reduceLeDiff, Nat.zero_le, Option.toList_some, Option.toList_none, List.cons_append, List.nil_append, am_rf_ref, am_rf_rf, am_rf_null, am_cat_rf, am_cat_ref, am_cat_int, am_cat_null, va_rf_some, va_rf_none, true_and, and_true, true_or, or_true, am_ia10, TY9, TY10, TY11, TY12, TY13, TY14, TY15, TY16, TY17, TY18, TY19, TY20, TY21, TY22, TY23, TY24, TY25, TY26, TY27, TY28, TY29, TY30, TY31, TY32, TY33, TY34, TY35, TY36, TY37, TY38, TY39, TY40, TY41, TY42, TY43, TY100, TY106, TY107, TY108, TY109, TY110, TY111, TY112, TY113, TY114, TY115, TY116, TY117, TY118, TY119, TY120, TY124, TY125, TY126, TY127, TY128, TY129, TY131, TY132, TY133, TY134, TY135, TY136, TY137, TY138, TY139, TY140, TY141, TY142, TY143, TY144, TY145, TY146, TY147, TY150, TY154, TY155, TY160, iI_lit, iI_0, iI_1, iI_neg, iI_nI, iI_add, iI_sub, iI_mul, iI_lt, iI_le, iI_eq, iI_clamp, iI_in, nat_toNat, bI_0, bI_1, bI_okT, bI_ok, bI_ok0, bI_ok1, iM_r, iM_w, am_u_u, am_u_eq, am_u_na, am_u_ni, ne_eq, not_true_eq_false, not_false_eq_true, forall_const, false_imp_iff, Classical.not_not, Int.reduceLE, Int.reduceLT, Int.reduceEq, Int.reduceNe, Int.reduceAdd, Int.reduceSub, Int.reduceMul, Int.reduceNeg, Int.reduceToNat, Nat.reduceAdd, Nat.reduceMul, Nat.reduceEqDiff, Nat.reduceLT, Nat.reduceLeDiff, true_imp_iff, decide_eq_true_eq, decide_eq_false_iff_not, Bool.not_eq_false, Bool.not_eq_true, Bool.not_eq_false', Bool.not_eq_true']
        refine k21_32 _ 0 0 3 ty11 (Nat.le_of_ble_eq_true rfl) (Nat.zero_le _) (Nat.zero_le _) (by omega) (c19 hW h (by omega) (by omega) hu) (am_k5 ?_) am_k6
        simp (disch := (first | exact am_rf_ref | exact am_rf_rf | exact am_cat_int | exact am_cat_ref | exact am_cat_rf | exact am_rf_null | exact am_cat_null | omega)) only [e21_35, e21_36, List.length_cons, List.length_nil, Nat.zero_add, Nat.reduceAdd, Nat.reduceLeDiff, Nat.zero_le, Option.toList_some, Option.toList_none, List.cons_append, List.nil_append, am_rf_ref, am_rf_rf, am_rf_null, am_cat_rf, am_cat_ref, am_cat_int, am_cat_null, va_rf_some, va_rf_none, true_and, and_true, true_or, or_true, am_ia10, TY9, TY10, TY11, TY12, TY13, TY14, TY15, TY16, TY17, TY18, TY19, TY20, TY21, TY22, TY23, TY24, TY25, TY26, TY27, TY28, TY29, TY30, TY31, TY32, TY33, TY34, TY35, TY36, TY37, TY38, TY39, TY40, TY41, TY42, TY43, TY100, TY106, TY107, TY108, TY109, TY110, TY111, TY112, TY113, TY114, TY115, TY116, TY117, TY118, TY119, TY120, TY124, TY125, TY126, TY127, TY128, TY129, TY131, TY132, TY133, TY134, TY135, TY136, TY137, TY138, TY139, TY140, TY141, TY142, TY143, TY144, TY145, TY146, TY147, TY150, TY154, TY155, TY160, iI_lit, iI_0, iI_1, iI_neg, iI_nI, iI_add, iI_sub, iI_mul, iI_lt, iI_le, iI_eq, iI_clamp, iI_in, nat_toNat, bI_0, bI_1, bI_okT, bI_ok, bI_ok0, bI_ok1, iM_r, iM_w, am_u_u, am_u_eq, am_u_na, am_u_ni, ne_eq, not_true_eq_false, not_false_eq_true, forall_const, false_imp_iff, Classical.not_not, Int.reduceLE, Int.reduceLT, Int.reduceEq, Int.reduceNe, Int.reduceAdd, Int.reduceSub, Int.reduceMul, Int.reduceNeg, Int.reduceToNat, Nat.reduceAdd, Nat.reduceMul, Nat.reduceEqDiff, Nat.reduceLT, Nat.reduceLeDiff, true_imp_iff, decide_eq_true_eq, decide_eq_false_iff_not, Bool.not_eq_false, Bool.not_eq_true, Bool.not_eq_false', Bool.not_eq_true']
        have hg := gpe_sp hW (u := u) (x := x) ⟨by omega, by omega⟩ (h2 (by omega)).1
        refine k21_37 _ 0 0 3 ty11 (Nat.le_of_ble_eq_true rfl) (Nat.zero_le _) (Nat.zero_le _) (by omega) (c18q (t := gpe M u x) hW h (by omega) (by omega) (by omega) hu) (am_k5q ?_) am_k6q
        intro q hq
        obtain ⟨y, rfl, q1, q2, q3, q4⟩ := gst_nx hW h2 (by omega) hq
        simp (disch := (first | exact am_rf_ref | exact am_rf_rf | exact am_cat_int | exact am_cat_ref | exact am_cat_rf | exact am_rf_null | exact am_cat_null | omega)) only [e21_40, e21_41, List.length_cons, List.length_nil, Nat.zero_add, Nat.reduceAdd, Nat.reduceLeDiff, Nat.zero_le, Option.toList_some, Option.toList_none, List.cons_append, List.nil_append, am_rf_ref, am_rf_rf, am_rf_null, am_cat_rf, am_cat_ref, am_cat_int, am_cat_null, va_rf_some, va_rf_none, true_and, and_true, true_or, or_true, am_ia10, TY9, TY10, TY11, TY12, TY13, TY14, TY15, TY16, TY17, TY18, TY19, TY20, TY21, TY22, TY23, TY24, TY25, TY26, TY27, TY28, TY29, TY30, TY31, TY32, TY33, TY34, TY35, TY36, TY37, TY38, TY39, TY40, TY41, TY42, TY43, TY100, TY106, TY107, TY108, TY109, TY110, TY111, TY112, TY113, TY114, TY115, TY116, TY117, TY118, TY119, TY120, TY124, TY125, TY126, TY127, TY128, TY129, TY131, TY132, TY133, TY134, TY135, TY136, TY137, TY138, TY139, TY140, TY141, TY142, TY143, TY144, TY145, TY146, TY147, TY150, TY154, TY155, TY160, iI_lit, iI_0, iI_1, iI_neg, iI_nI, iI_add, iI_sub, iI_mul, iI_lt, iI_le, iI_eq, iI_clamp, iI_in, nat_toNat, bI_0, bI_1, bI_okT, bI_ok, bI_ok0, bI_ok1, iM_r, iM_w, am_u_u, am_u_eq, am_u_na, am_u_ni, ne_eq, not_true_eq_false, not_false_eq_true, forall_const, false_imp_iff, Classical.not_not, Int.reduceLE, Int.reduceLT, Int.reduceEq, Int.reduceNe, Int.reduceAdd, Int.reduceSub, Int.reduceMul, Int.reduceNeg, Int.reduceToNat, Nat.reduceAdd, Nat.reduceMul, Nat.reduceEqDiff, Nat.reduceLT, Nat.reduceLeDiff, true_imp_iff, decide_eq_true_eq, decide_eq_false_iff_not, Bool.not_eq_false, Bool.not_eq_true, Bool.not_eq_false', Bool.not_eq_true']
        have h4 := ih ((M 100 1).toNat - y) (by omega) y (by omega) q3 (k - 0 - 0) (s - 0 - 0)
        have h5 : gcn M u y = gcn M u x + 1 := by
          have := gcn_no (M := M) (u := u) (a := x + 1) (y - (x + 1)) (fun s w1 w2 => q4 s w1 (by omega))
          rw [show x + 1 + (y - (x + 1)) = y by omega] at this
          rw [this]; simp only [gcn]; rw [gst_bgn h2 (by omega)]; rfl
        rw [h5] at h4
        exact h4
end
