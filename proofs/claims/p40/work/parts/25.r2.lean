/-! THE CLASS: ends of its calls; the simplest calls -/
/-- nothing of the model, the answer's row and the script is touched -/
def Fx (I : am_I) (P : am_P) (G : am_G) (I' : am_I) (P' : am_P) (G' : am_G) : Prop := ∀ a, ((100 ≤ a ∧ a < 161) ∨ a % 4096 ≥ 3900) → ∀ j, I' a j = I a j ∧ P' a j = P a j ∧ G' a j = G a j
theorem Fx_rfl {I : am_I} {P : am_P} {G : am_G} : Fx I P G I P G := fun _ _ _ => ⟨rfl, rfl, rfl⟩
theorem Fx_I {I I' : am_I} {P P' : am_P} {G G' : am_G} (h : Fx I P G I' P' G') {a : Nat} (i : Nat) (x : Int32) (ha : a < 100 ∨ (160 < a ∧ a % 4096 < 3900)) : Fx I P G (am_u I' a i x) P' G' := fun b hb j => by
  rw [am_u_na _ _ _ _ (by omega)]; exact h b hb j
theorem Fx_P {I I' : am_I} {P P' : am_P} {G G' : am_G} (h : Fx I P G I' P' G') {a : Nat} (i : Nat) (x : Option Nat) (ha : a < 100 ∨ (160 < a ∧ a % 4096 < 3900)) : Fx I P G I' (am_u P' a i x) G' := fun b hb j => by
  rw [am_u_na _ _ _ _ (by omega)]; exact h b hb j
theorem Fx_tr {I I' I2 : am_I} {P P' P2 : am_P} {G G' G2 : am_G} (h : Fx I P G I' P' G') (h2 : Fx I' P' G' I2 P2 G2) : Fx I P G I2 P2 G2 := fun a ha j => ⟨(h2 a ha j).1.trans (h a ha j).1, (h2 a ha j).2.1.trans (h a ha j).2.1, (h2 a ha j).2.2.trans (h a ha j).2.2⟩
/-- plan and ways forgotten -/
def fgt (I : am_I) : am_I := am_u (am_u I 35 0 (iI 0)) 16 0 (iI 0)
theorem fgt_o (I : am_I) {a : Nat} (j : Nat) (h : a ≠ 35 ∧ a ≠ 16) : fgt I a j = I a j := by unfold fgt; rw [am_u_na _ _ _ _ h.2, am_u_na _ _ _ _ h.1]
theorem fgt_35 (I : am_I) : fgt I 35 0 = iI 0 := by unfold fgt; rw [am_u_na _ _ _ _ (by omega), am_u_eq]
theorem fgt_16 (I : am_I) : fgt I 16 0 = iI 0 := by unfold fgt; rw [am_u_eq]
theorem Fx_fgt {I I' : am_I} {P P' : am_P} {G G' : am_G} (h : Fx I P G I' P' G') : Fx I P G (fgt I') P' G' := Fx_I (Fx_I h _ _ (by omega)) _ _ (by omega)
/-- a film of another length -/
theorem FR_cg2 {M M' : Nat → Nat → Int} {sh : Nat → Nat → Nat} {e f al na fa : Nat} {I I' : am_I} {P P' : am_P} {B B' : Nat} (h : FR M sh e f al na fa I P B) (hB : B ≤ B') (h0 : I' f 0 = iI (M' 100 1)) (hm4 : M' 100 4 = M 100 4) (hm : ∀ r i, 106 ≤ r → r ≤ 120 → M' r i = M r i) (cf : ∀ j, P' f j = P f j)
    (hc : ∀ a, (a = al ∨ a = na ∨ a = fa ∨ (a = sh 0 0 ∧ a ≠ 9) ∨ (∃ k : Nat, (k : Int) < M 100 4 ∧ a = sh 1 k) ∨ ∃ j, j < 10 ∧ M 110 j = 1 ∧ (a = sh 2 j ∨ a = sh 3 j)) → ∀ j, I' a j = I a j ∧ P' a j = P a j) : FR M' sh e f al na fa I' P' B' := by
  have em (a : Nat) (q1 : 106 ≤ a) (q2 : a ≤ 120) : M' a = M a := funext (fun i => hm a i q1 q2)
  unfold FR FC
  rw [hm4, em 106 (by omega) (by omega), em 107 (by omega) (by omega), em 108 (by omega) (by omega), em 109 (by omega) (by omega), em 110 (by omega) (by omega), em 111 (by omega) (by omega), em 112 (by omega) (by omega), em 113 (by omega) (by omega), em 114 (by omega) (by omega), em 115 (by omega) (by omega), em 116 (by omega) (by omega), em 117 (by omega) (by omega), em 118 (by omega) (by omega), em 119 (by omega) (by omega), em 120 (by omega) (by omega)]
  obtain ⟨h1, h2, ⟨⟨h3, h4, h5, h6, h7⟩, h8⟩, h9, h10, h11, h12⟩ := h
  have cal := hc al (Or.inl rfl)
  have cna := hc na (Or.inr (Or.inl rfl))
  have cfa := hc fa (Or.inr (Or.inr (Or.inl rfl)))
  refine ⟨h0, by rw [cf 1, cf 2, cf 3]; exact h2, ⟨⟨by rw [(cal 1).2]; exact h3, by rw [(cal 2).1]; exact h4, h5, ?_, fun k hk => ?_⟩, h8⟩, fun k hk => ?_, fun j hj => by rw [(cna j).1]; exact h10 j hj, fun j hj h => by rw [(cfa j).2]; exact h11 j hj h, fun j hj h => ?_⟩
  · rcases h6 with q | ⟨q1, q2, q3, q4, q5, q6⟩
    · exact Or.inl q
    · exact Or.inr ⟨q1, q2, q3, q4, q5, by omega⟩
  · have h13 : sh 0 0 ≠ 9 := by rcases h6 with q | q; omega; omega
    rw [(hc (sh 0 0) (Or.inr (Or.inr (Or.inr (Or.inl ⟨rfl, h13⟩)))) k).2]; exact h7 k hk
  · have c := hc (sh 1 k) (Or.inr (Or.inr (Or.inr (Or.inr (Or.inl ⟨k, hk, rfl⟩)))))
    obtain ⟨q1, q2, q3, q4⟩ := h9 k hk
    rw [(c 0).1, (c 1).1, (c 2).1]; exact ⟨q1, q2, q3, by omega⟩
  · have c2 := hc (sh 2 j) (Or.inr (Or.inr (Or.inr (Or.inr (Or.inr ⟨j, hj, h, Or.inl rfl⟩)))))
    have c3 := hc (sh 3 j) (Or.inr (Or.inr (Or.inr (Or.inr (Or.inr ⟨j, hj, h, Or.inr rfl⟩)))))
    obtain ⟨q1, ⟨⟨q2, q3, q4⟩, q5, q6, q7⟩, q8, q9, q10⟩ := h12 j hj h
    refine ⟨by rw [(cfa j).2]; exact q1, ⟨⟨q2, q3, by omega⟩, q5, q6, by omega⟩, ?_, by rw [(c2 9).2]; exact q9, fun v hv => by rw [(c3 v).1]; exact q10 v hv⟩
    rw [(c2 0).1, (c2 1).1, (c2 2).1, (c2 3).1, (c2 4).1, (c2 5).1, (c2 6).1, (c2 7).1, (c2 8).1]; exact q8
theorem FM_tk {M M' : Nat → Nat → Int} {sh : Nat → Nat → Nat} {I I' : am_I} {P P' : am_P} {B B' : Nat} (h : FM M sh I P B) (h4 : M' 100 4 = M 100 4) (hM : ∀ r i, 106 ≤ r → r ≤ 120 → M' r i = M r i) (h0 : I' 11 0 = iI (M' 100 1)) (hI : ∀ a j, (a = 12 ∨ a = 13 ∨ a = 14 ∨ (4096 ≤ a ∧ a < B)) → I' a j = I a j) (hP : ∀ a j, ((11 ≤ a ∧ a ≤ 14) ∨ (4096 ≤ a ∧ a < B)) → P' a j = P a j) (hB : B ≤ B') : FM M' sh I' P' B' := by
  refine FR_cg2 h hB h0 h4 hM (fun j => hP 11 j (by omega)) (fun a ha => ?_)
  have ha2 : a = 12 ∨ a = 13 ∨ a = 14 ∨ (4096 ≤ a ∧ a < B) := by
    rcases ha with rfl | rfl | rfl | ⟨rfl, r⟩ | ⟨k, r1, rfl⟩ | ⟨j, r1, r2, r3⟩
    · omega
    · omega
    · omega
    · have u := (fm_cap h).resolve_left r
      rcases (fm_l h).2.2.2.1 with u2 | u2
      · exact absurd u2.1 r
      · omega
    · have u := (fm_s h k r1).2; omega
    · have u := (fm_f1 h j r1 r2).2.1
      unfold FL at u
      rcases r3 with rfl | rfl <;> omega
  exact fun j => ⟨hI a j ha2, hP a j (by omega)⟩
/-- a call's end -/
def cq (K : Int) (R : (Nat → Nat → Int) → Prop) (o : am_O) (I : am_I) (P : am_P) (G : am_G) : am_Q := fun o' B' I' P' G' => o' = o ∧ (∃ sh' se', ∀ M', R M' → RC K M' sh' se' I' P' B') ∧ Fx I P G I' P' G'
/-- an answer or what is thrown -/
def oc (e1 e2 e3 : Nat) (r : (Nat → Nat → Int) × Int) : am_O := if r.1 100 0 = 0 then .inl (some (.int (iI r.2))) else if r.1 100 0 = 1 then .inr e1 else if r.1 100 0 = 2 then .inr e2 else .inr e3
theorem RC_e {K : Int} {M M' : Nat → Nat → Int} {sh : Nat → Nat → Nat} {se : Nat → Nat → Nat → Nat} {I : am_I} {P : am_P} {B : Nat} (h : RC K M sh se I P B) (he : ∀ r i, ¬ (r = 100 ∧ i = 0) → r ≠ 127 → r ≠ 128 → r ≠ 129 → M' r i = M r i) : RC K M' sh se I P B := by
  have hf : FA M M' := ⟨⟨he _ _ (by omega) (by omega) (by omega) (by omega), he _ _ (by omega) (by omega) (by omega) (by omega), he _ _ (by omega) (by omega) (by omega) (by omega), he _ _ (by omega) (by omega) (by omega) (by omega)⟩, fun a h1 h2 j => he a j (by omega) (by omega) (by omega) (by omega)⟩
  exact ⟨rc_p h, rc_b h, FR_fa hf (rc_f h), VO_cg (rc_v h) ⟨hf.1.2.1, hf.1.2.2.1⟩ ⟨rfl, rfl⟩, ED_cg (rc_e h) ⟨he _ _ (by omega) (by omega) (by omega) (by omega), fun r i h1 h2 => he r i (by omega) (by omega) (by omega) (by omega)⟩ rfl (fun _ => rfl) (fm_cap (rc_f h)) (Or.inl rfl) (Nat.le_refl _) (rc_b h) (fun _ _ _ _ _ _ _ => ⟨rfl, rfl⟩),
    RP_cg (rc_pl h) hf (he _ _ (by omega) (by omega) (by omega) (by omega)) (fun _ _ _ _ => rfl), RS_cg (rc_s h) (Int.le_refl _) ⟨he _ _ (by omega) (by omega) (by omega) (by omega), he _ _ (by omega) (by omega) (by omega) (by omega), he _ _ (by omega) (by omega) (by omega) (by omega), he _ _ (by omega) (by omega) (by omega) (by omega), he _ _ (by omega) (by omega) (by omega) (by omega)⟩ (fun j => he _ _ (by omega) (by omega) (by omega) (by omega)) (fun j => he _ _ (by omega) (by omega) (by omega) (by omega)) (fun _ _ _ _ => rfl), RM_cg (rc_m h) (fun i => he _ _ (by omega) (by omega) (by omega) (by omega)) (fun _ => rfl)⟩
theorem RC_0 {K : Int} {M : Nat → Nat → Int} {sh : Nat → Nat → Nat} {se : Nat → Nat → Nat → Nat} {I : am_I} {P : am_P} {B : Nat} (h : RC K M sh se I P B) (c : Int) : RC K (am_u M 100 0 c) sh se I P B := RC_e h (fun r i h1 _ _ _ => if_neg h1)
section
variable {st : List Value} {B : Nat} {I C : am_I} {P : am_P} {G : am_G} {k s d : Nat} {Q : am_Q} {M : Nat → Nat → Int} {K : Int} {sh : Nat → Nat → Nat} {se : Nat → Nat → Nat → Nat}
/-- refused -/
theorem cq_no (h : RC K M sh se I P B) {r : (Nat → Nat → Int) × Int} {c : Int} (hr : r.1 = am_u M 100 0 c) {e1 e2 e3 x : Nat} (hc : (c = 1 ∧ x = e1) ∨ (c = 2 ∧ x = e2) ∨ (c = 3 ∧ x = e3)) : cq K (fun M' => M' = r.1) (oc e1 e2 e3 r) I P G (.inr x) B I P G := by
  refine ⟨?_, ⟨sh, se, fun M' e => by rw [e, hr]; exact RC_0 h c⟩, Fx_rfl⟩
  unfold oc
  rw [hr, am_u_eq]
  rcases hc with ⟨rfl, rfl⟩ | ⟨rfl, rfl⟩ | ⟨rfl, rfl⟩ <;> simp
/-- answered, the same heap -/
theorem cq_eq (h : RC K M sh se I P B) {r : (Nat → Nat → Int) × Int} (hr : r.1 = am_u M 100 0 0) {e1 e2 e3 : Nat} {v : Int} (hv : v = r.2) : cq K (fun M' => M' = r.1) (oc e1 e2 e3 r) I P G (.inl (some (.int (iI v)))) B I P G := by
  refine ⟨?_, ⟨sh, se, fun M' e => by rw [e, hr]; exact RC_0 h 0⟩, Fx_rfl⟩
  unfold oc
  rw [hr, am_u_eq, hv, if_pos rfl]
/-- answered -/
theorem cq_ch {r : (Nat → Nat → Int) × Int} (h0 : r.1 100 0 = 0) {e1 e2 e3 : Nat} {v : Int} (hv : v = r.2) {I' : am_I} {P' : am_P} {G' : am_G} {B' : Nat} {sh' : Nat → Nat → Nat} {se' : Nat → Nat → Nat → Nat} (h : RC K r.1 sh' se' I' P' B') (hf : Fx I P G I' P' G') : cq K (fun M' => M' = r.1) (oc e1 e2 e3 r) I P G (.inl (some (.int (iI v)))) B' I' P' G' := by
  refine ⟨?_, ⟨sh', se', fun M' e => by rw [e]; exact h⟩, hf⟩
  unfold oc
  rw [h0, hv, if_pos rfl]
theorem c110 (h : CP P) : am_Ev 110 0 [some (.ref 10)] [] B I P G k s d (am_one (.inl none) B (fgt I) P G) := by
  simp (disch := (first | exact am_rf_ref | exact am_rf_rf | exact am_cat_int | exact am_cat_ref | exact am_cat_rf | exact am_rf_null | exact am_cat_null | omega)) only [e110_0, e110_1, e110_4, e110_5, e110_8, e110_9, e110_12, e110_13, e110_16, List.length_cons, List.length_nil, Nat.zero_add, Nat.reduceAdd, Nat.reduceLeDiff, Nat.zero_le, Option.toList_some, Option.toList_none, List.cons_append, List.nil_append, am_rf_ref, am_rf_rf, am_rf_null, am_cat_rf, am_cat_ref, am_cat_int, am_cat_null, va_rf_some, va_rf_none, true_and, and_true, true_or, or_true, am_ia10, TY9, TY10, TY11, TY12, TY13, TY14, TY15, TY16, TY17, TY18, TY19, TY20, TY21, TY22, TY23, TY24, TY25, TY26, TY27, TY28, TY29, TY30, TY31, TY32, TY33, TY34, TY35, TY36, TY37, TY38, TY39, TY40, TY41, TY42, TY43, TY100, TY106, TY107, TY108, TY109, TY110, TY111, TY112, TY113, TY114, TY115, TY116, TY117, TY118, TY119, TY120, TY124, TY125, TY126, TY127, TY128, TY129, TY131, TY132, TY133, TY134, TY135, TY136, TY137, TY138, TY139, TY140, TY141, TY142, TY143, TY144, TY145, TY146, TY147, TY150, TY154, TY155, TY160, iI_lit, iI_0, iI_1, iI_neg, iI_nI, iI_add, iI_sub, iI_mul, iI_lt, iI_le, iI_eq, iI_clamp, iI_in, nat_toNat, bI_0, bI_1, bI_okT, bI_ok, bI_ok0, bI_ok1, iM_r, iM_w, am_u_u, am_u_eq, am_u_na, am_u_ni, ne_eq, not_true_eq_false, not_false_eq_true, forall_const, false_imp_iff, Classical.not_not, Int.reduceLE, Int.reduceLT, Int.reduceEq, Int.reduceNe, Int.reduceAdd, Int.reduceSub, Int.reduceMul, Int.reduceNeg, Int.reduceToNat, Nat.reduceAdd, Nat.reduceMul, Nat.reduceEqDiff, Nat.reduceLT, Nat.reduceLeDiff, true_imp_iff, decide_eq_true_eq, decide_eq_false_iff_not, Bool.not_eq_false, Bool.not_eq_true, Bool.not_eq_false', Bool.not_eq_true', cp_6 h, cp_5 h]
  exact am_q
/-- a film changed in its numbers alone: what else stands -/
theorem RC_film (h : RC K M sh se I P B) {M' : Nat → Nat → Int} {I' : am_I} {P' : am_P} {B' : Nat} {sh' : Nat → Nat → Nat} (hf : FM M' sh' I' P' B') (h20 : M' 100 20 = 0) (hB : B ≤ B') (hM : ∀ i, i ≠ 0 → i ≠ 1 → i ≠ 2 → i ≠ 3 → i ≠ 4 → i ≠ 20 → M' 100 i = M 100 i) (hv : I' 10 3 = iI (M' 100 2) ∧ I' 10 4 = iI (M' 100 3)) (hM2 : ∀ r i, 121 ≤ r → r < 127 ∨ 129 < r → M' r i = M r i)
    (h35 : I' 35 0 = iI 0) (h16 : I' 16 0 = iI 0) (hI : ∀ a j, (a = 10 ∧ j = 2) ∨ (39 ≤ a ∧ a < 44) → I' a j = I a j) (hP : ∀ a j, 10 ≤ a → a < 44 → a ≠ 12 → a ≠ 14 → P' a j = P a j) (hsh : sh' 0 0 = sh 0 0 ∨ B ≤ sh' 0 0) (hfr : ∀ a, 4096 ≤ a → a < B → a ≠ sh 0 0 → ¬ (200 ≤ a % 4096 ∧ a % 4096 < 210) → ¬ (300 ≤ a % 4096 ∧ a % 4096 < 310) → ∀ j, I' a j = I a j ∧ P' a j = P a j) : RC K M' sh' se I' P' B' := by
  have hb := rc_b h
  exact ⟨CP_cg (rc_p h) (fun a j ha => hP a j (by omega) (by omega) (by omega) (by omega)), by omega, hf, hv, ED_cg (rc_e h) ⟨hM 29 (by omega) (by omega) (by omega) (by omega) (by omega) (by omega), fun r i h1 h2 => hM2 r i (by omega) (by omega)⟩ (hI 10 2 (Or.inl ⟨rfl, rfl⟩)) (fun j => hP 15 j (by omega) (by omega) (by omega) (by omega)) (fm_cap (rc_f h)) hsh hB hb hfr,
    RP_0 h20 h35 h16, RS_cg (rc_s h) (Int.le_refl _) ⟨hM _ (by omega) (by omega) (by omega) (by omega) (by omega) (by omega), hM _ (by omega) (by omega) (by omega) (by omega) (by omega) (by omega), hM _ (by omega) (by omega) (by omega) (by omega) (by omega) (by omega), hM _ (by omega) (by omega) (by omega) (by omega) (by omega) (by omega), hM _ (by omega) (by omega) (by omega) (by omega) (by omega) (by omega)⟩ (fun j => hM2 _ _ (by omega) (by omega)) (fun j => hM2 _ _ (by omega) (by omega)) (fun a h1 h2 j => hI a j (Or.inr ⟨h1, by omega⟩)), RM_cg (rc_m h) (fun i => hM2 _ _ (by omega) (by omega)) (fun j => hI 43 j (Or.inr ⟨by omega, by omega⟩))⟩
theorem f68 (hW : WFi K M) (hK : 0 ≤ K ∧ K ≤ 1000000) (h : RC K M sh se I P B) (hk : 100 ≤ k) (hs : 1000 ≤ s) (hd : 8 ≤ d) {t : Int} (ht : -2147483648 ≤ t ∧ t ≤ 2147483647) :
    am_Ev 68 0 [some (.ref 10), some (.int (iI t)), none] [] B I P G k s d (cq K (fun M' => M' = (d_film M t).1) (oc 0 2 0 (d_film M t)) I P G) := by
  have hk1 := wf_tk hW
  have hp := rc_p h
  have hf := rc_f h
  have hb := rc_b h
  by_cases h1 : 1 ≤ t ∧ t ≤ 900
  · simp (disch := (first | exact am_rf_ref | exact am_rf_rf | exact am_cat_int | exact am_cat_ref | exact am_cat_rf | exact am_rf_null | exact am_cat_null | omega)) only [e68_0, e68_1, e68_2, e68_5, e68_6, e68_9, e68_12, e68_15, e68_22, e68_23, e68_26, List.length_cons, List.length_nil, Nat.zero_add, Nat.reduceAdd, Nat.reduceLeDiff, Nat.zero_le, Option.toList_some, Option.toList_none, List.cons_append, List.nil_append, am_rf_ref, am_rf_rf, am_rf_null, am_cat_rf, am_cat_ref, am_cat_int, am_cat_null, va_rf_some, va_rf_none, true_and, and_true, true_or, or_true, am_ia10, TY9, TY10, TY11, TY12, TY13, TY14, TY15, TY16, TY17, TY18, TY19, TY20, TY21, TY22, TY23, TY24, TY25, TY26, TY27, TY28, TY29, TY30, TY31, TY32, TY33, TY34, TY35, TY36, TY37, TY38, TY39, TY40, TY41, TY42, TY43, TY100, TY106, TY107, TY108, TY109, TY110, TY111, TY112, TY113, TY114, TY115, TY116, TY117, TY118, TY119, TY120, TY124, TY125, TY126, TY127, TY128, TY129, TY131, TY132, TY133, TY134, TY135, TY136, TY137, TY138, TY139, TY140, TY141, TY142, TY143, TY144, TY145, TY146, TY147, TY150, TY154, TY155, TY160, iI_lit, iI_0, iI_1, iI_neg, iI_nI, iI_add, iI_sub, iI_mul, iI_lt, iI_le, iI_eq, iI_clamp, iI_in, nat_toNat, bI_0, bI_1, bI_okT, bI_ok, bI_ok0, bI_ok1, iM_r, iM_w, am_u_u, am_u_eq, am_u_na, am_u_ni, ne_eq, not_true_eq_false, not_false_eq_true, forall_const, false_imp_iff, Classical.not_not, Int.reduceLE, Int.reduceLT, Int.reduceEq, Int.reduceNe, Int.reduceAdd, Int.reduceSub, Int.reduceMul, Int.reduceNeg, Int.reduceToNat, Nat.reduceAdd, Nat.reduceMul, Nat.reduceEqDiff, Nat.reduceLT, Nat.reduceLeDiff, true_imp_iff, decide_eq_true_eq, decide_eq_false_iff_not, Bool.not_eq_false, Bool.not_eq_true, Bool.not_eq_false', Bool.not_eq_true', cp_0 hp]
    refine ⟨fun w => by omega, fun w => ⟨fun w2 => ?_, fun w2 => by omega⟩⟩
    refine k68_27 _ 0 0 3 ty11 (Nat.le_of_ble_eq_true rfl) (Nat.zero_le _) (Nat.zero_le _) (by omega) (c9 hW hK hf (by omega) ht) (am_k5 ?_) am_k6
    simp (disch := (first | exact am_rf_ref | exact am_rf_rf | exact am_cat_int | exact am_cat_ref | exact am_cat_rf | exact am_rf_null | exact am_cat_null | omega)) only [e68_30, e68_33, e68_36, e68_43, e68_44, e68_47, e68_50, e68_51, e68_52, e68_55, e68_56, e68_59, List.length_cons, List.length_nil, Nat.zero_add, Nat.reduceAdd, Nat.reduceLeDiff, Nat.zero_le, Option.toList_some, Option.toList_none, List.cons_append, List.nil_append, am_rf_ref, am_rf_rf, am_rf_null, am_cat_rf, am_cat_ref, am_cat_int, am_cat_null, va_rf_some, va_rf_none, true_and, and_true, true_or, or_true, am_ia10, TY9, TY10, TY11, TY12, TY13, TY14, TY15, TY16, TY17, TY18, TY19, TY20, TY21, TY22, TY23, TY24, TY25, TY26, TY27, TY28, TY29, TY30, TY31, TY32, TY33, TY34, TY35, TY36, TY37, TY38, TY39, TY40, TY41, TY42, TY43, TY100, TY106, TY107, TY108, TY109, TY110, TY111, TY112, TY113, TY114, TY115, TY116, TY117, TY118, TY119, TY120, TY124, TY125, TY126, TY127, TY128, TY129, TY131, TY132, TY133, TY134, TY135, TY136, TY137, TY138, TY139, TY140, TY141, TY142, TY143, TY144, TY145, TY146, TY147, TY150, TY154, TY155, TY160, iI_lit, iI_0, iI_1, iI_neg, iI_nI, iI_add, iI_sub, iI_mul, iI_lt, iI_le, iI_eq, iI_clamp, iI_in, nat_toNat, bI_0, bI_1, bI_okT, bI_ok, bI_ok0, bI_ok1, iM_r, iM_w, am_u_u, am_u_eq, am_u_na, am_u_ni, ne_eq, not_true_eq_false, not_false_eq_true, forall_const, false_imp_iff, Classical.not_not, Int.reduceLE, Int.reduceLT, Int.reduceEq, Int.reduceNe, Int.reduceAdd, Int.reduceSub, Int.reduceMul, Int.reduceNeg, Int.reduceToNat, Nat.reduceAdd, Nat.reduceMul, Nat.reduceEqDiff, Nat.reduceLT, Nat.reduceLeDiff, true_imp_iff, decide_eq_true_eq, decide_eq_false_iff_not, Bool.not_eq_false, Bool.not_eq_true, Bool.not_eq_false', Bool.not_eq_true', cp_0 hp, fm_tk hf]
    refine ⟨fun w3 => ?_, fun w3 => ⟨by omega, by omega, ?_⟩⟩
    · refine k68_60 _ 0 0 0 ty10 (Nat.le_of_ble_eq_true rfl) (Nat.zero_le _) (Nat.zero_le _) (by omega) (c110 hp) (am_k5 ?_) am_k6
      simp (disch := (first | exact am_rf_ref | exact am_rf_rf | exact am_cat_int | exact am_cat_ref | exact am_cat_rf | exact am_rf_null | exact am_cat_null | omega)) only [e68_63, e68_64, List.length_cons, List.length_nil, Nat.zero_add, Nat.reduceAdd, Nat.reduceLeDiff, Nat.zero_le, Option.toList_some, Option.toList_none, List.cons_append, List.nil_append, am_rf_ref, am_rf_rf, am_rf_null, am_cat_rf, am_cat_ref, am_cat_int, am_cat_null, va_rf_some, va_rf_none, true_and, and_true, true_or, or_true, am_ia10, TY9, TY10, TY11, TY12, TY13, TY14, TY15, TY16, TY17, TY18, TY19, TY20, TY21, TY22, TY23, TY24, TY25, TY26, TY27, TY28, TY29, TY30, TY31, TY32, TY33, TY34, TY35, TY36, TY37, TY38, TY39, TY40, TY41, TY42, TY43, TY100, TY106, TY107, TY108, TY109, TY110, TY111, TY112, TY113, TY114, TY115, TY116, TY117, TY118, TY119, TY120, TY124, TY125, TY126, TY127, TY128, TY129, TY131, TY132, TY133, TY134, TY135, TY136, TY137, TY138, TY139, TY140, TY141, TY142, TY143, TY144, TY145, TY146, TY147, TY150, TY154, TY155, TY160, iI_lit, iI_0, iI_1, iI_neg, iI_nI, iI_add, iI_sub, iI_mul, iI_lt, iI_le, iI_eq, iI_clamp, iI_in, nat_toNat, bI_0, bI_1, bI_okT, bI_ok, bI_ok0, bI_ok1, iM_r, iM_w, am_u_u, am_u_eq, am_u_na, am_u_ni, ne_eq, not_true_eq_false, not_false_eq_true, forall_const, false_imp_iff, Classical.not_not, Int.reduceLE, Int.reduceLT, Int.reduceEq, Int.reduceNe, Int.reduceAdd, Int.reduceSub, Int.reduceMul, Int.reduceNeg, Int.reduceToNat, Nat.reduceAdd, Nat.reduceMul, Nat.reduceEqDiff, Nat.reduceLT, Nat.reduceLeDiff, true_imp_iff, decide_eq_true_eq, decide_eq_false_iff_not, Bool.not_eq_false, Bool.not_eq_true, Bool.not_eq_false', Bool.not_eq_true']
      have e : d_film M t = (dch (am_u (am_u M 100 0 0) 100 1 t), M 100 1) := by unfold d_film; rw [if_neg (not_not_intro h1), if_neg (fun q => by rw [w3] at q; exact Bool.noConfusion q)]
      refine cq_ch (by rw [e]; rfl) (by rw [e]) (sh' := sh) (se' := se) (RC_film h ?_ (by rw [e]; rfl) (Nat.le_refl _) (fun i q1 q2 q3 q4 q5 q6 => ?_) ⟨?_, ?_⟩ (fun r i q1 q2 => ?_) ?_ ?_ (fun a j ha => ?_) (fun _ _ _ _ _ _ => rfl) (Or.inl rfl) (fun a q1 q2 q3 q4 q5 j => ?_)) ?_
      · exact FM_tk hf (by rw [e]; rfl) (fun r i q1 q2 => by rw [e]; show am_u (am_u (am_u M 100 0 0) 100 1 t) 100 20 0 r i = M r i; rw [am_u_na _ _ _ _ (by omega), am_u_na _ _ _ _ (by omega), am_u_na _ _ _ _ (by omega)]) (by rw [e, fgt_o _ _ (by omega), am_u_eq]; rfl) (fun a j ha => by rw [fgt_o _ _ (by omega), am_u_na _ _ _ _ (by omega)]) (fun _ _ _ => rfl) (Nat.le_refl _)
      · rw [e]; show am_u (am_u (am_u M 100 0 0) 100 1 t) 100 20 0 100 i = M 100 i
        rw [am_u_ni _ _ _ _ (by omega), am_u_ni _ _ _ _ (by omega), am_u_ni _ _ _ _ (by omega)]
      · rw [fgt_o _ _ (by omega), am_u_na _ _ _ _ (by omega), (rc_v h).1, e]; rfl
      · rw [fgt_o _ _ (by omega), am_u_na _ _ _ _ (by omega), (rc_v h).2, e]; rfl
      · rw [e]; show am_u (am_u (am_u M 100 0 0) 100 1 t) 100 20 0 r i = M r i
        rw [am_u_na _ _ _ _ (by omega), am_u_na _ _ _ _ (by omega), am_u_na _ _ _ _ (by omega)]
      · exact fgt_35 _
      · exact fgt_16 _
      · rw [fgt_o _ _ (by omega), am_u_na _ _ _ _ (by omega)]
      · exact ⟨by rw [fgt_o _ _ (by omega), am_u_na _ _ _ _ (by omega)], rfl⟩
      · exact Fx_fgt (Fx_I Fx_rfl _ _ (by omega))
    · exact cq_no h (by unfold d_film; rw [if_neg (not_not_intro h1), if_pos w3]; rfl) (Or.inr (Or.inl ⟨rfl, rfl⟩))
  · simp (disch := (first | exact am_rf_ref | exact am_rf_rf | exact am_cat_int | exact am_cat_ref | exact am_cat_rf | exact am_rf_null | exact am_cat_null | omega)) only [e68_0, e68_1, e68_2, e68_5, e68_6, e68_9, e68_12, e68_15, e68_22, e68_23, e68_26, List.length_cons, List.length_nil, Nat.zero_add, Nat.reduceAdd, Nat.reduceLeDiff, Nat.zero_le, Option.toList_some, Option.toList_none, List.cons_append, List.nil_append, am_rf_ref, am_rf_rf, am_rf_null, am_cat_rf, am_cat_ref, am_cat_int, am_cat_null, va_rf_some, va_rf_none, true_and, and_true, true_or, or_true, am_ia10, TY9, TY10, TY11, TY12, TY13, TY14, TY15, TY16, TY17, TY18, TY19, TY20, TY21, TY22, TY23, TY24, TY25, TY26, TY27, TY28, TY29, TY30, TY31, TY32, TY33, TY34, TY35, TY36, TY37, TY38, TY39, TY40, TY41, TY42, TY43, TY100, TY106, TY107, TY108, TY109, TY110, TY111, TY112, TY113, TY114, TY115, TY116, TY117, TY118, TY119, TY120, TY124, TY125, TY126, TY127, TY128, TY129, TY131, TY132, TY133, TY134, TY135, TY136, TY137, TY138, TY139, TY140, TY141, TY142, TY143, TY144, TY145, TY146, TY147, TY150, TY154, TY155, TY160, iI_lit, iI_0, iI_1, iI_neg, iI_nI, iI_add, iI_sub, iI_mul, iI_lt, iI_le, iI_eq, iI_clamp, iI_in, nat_toNat, bI_0, bI_1, bI_okT, bI_ok, bI_ok0, bI_ok1, iM_r, iM_w, am_u_u, am_u_eq, am_u_na, am_u_ni, ne_eq, not_true_eq_false, not_false_eq_true, forall_const, false_imp_iff, Classical.not_not, Int.reduceLE, Int.reduceLT, Int.reduceEq, Int.reduceNe, Int.reduceAdd, Int.reduceSub, Int.reduceMul, Int.reduceNeg, Int.reduceToNat, Nat.reduceAdd, Nat.reduceMul, Nat.reduceEqDiff, Nat.reduceLT, Nat.reduceLeDiff, true_imp_iff, decide_eq_true_eq, decide_eq_false_iff_not, Bool.not_eq_false, Bool.not_eq_true, Bool.not_eq_false', Bool.not_eq_true', cp_0 hp]
    have e : (d_film M t).1 = am_u M 100 0 1 := by unfold d_film; rw [if_pos h1]; rfl
    refine ⟨fun w => ⟨by omega, by omega, cq_no h e (Or.inl ⟨rfl, rfl⟩)⟩, fun w => ⟨fun w2 => by omega, fun w2 => ⟨by omega, by omega, cq_no h e (Or.inl ⟨rfl, rfl⟩)⟩⟩⟩
end
