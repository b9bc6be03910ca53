/-! THE CLASS: what its heap stands for, carried along -/
theorem FR_fa {M M' : Nat → Nat → Int} (h : FA M M') {sh : Nat → Nat → Nat} {e f al na fa : Nat} {I : am_I} {P : am_P} {B : Nat} (hR : FR M sh e f al na fa I P B) : FR M' sh e f al na fa I P B := by
  obtain ⟨⟨h1, h2, h3, h4⟩, h5⟩ := h
  have e (a : Nat) (h6 : 106 ≤ a) (h7 : a ≤ 120) : M' a = M a := funext (h5 a h6 h7)
  unfold FR FC at hR ⊢
  rw [h1, h4, e 106 (by omega) (by omega), e 107 (by omega) (by omega), e 108 (by omega) (by omega), e 109 (by omega) (by omega), e 110 (by omega) (by omega), e 111 (by omega) (by omega), e 112 (by omega) (by omega), e 113 (by omega) (by omega), e 114 (by omega) (by omega), e 115 (by omega) (by omega), e 116 (by omega) (by omega), e 117 (by omega) (by omega), e 118 (by omega) (by omega), e 119 (by omega) (by omega), e 120 (by omega) (by omega)]
  exact hR
theorem txt_fa {M M' : Nat → Nat → Int} (h : FA M M') (n : Nat) : txt M' n = txt M n := by
  induction n with
  | zero => rfl
  | succ n ih => simp only [txt]; rw [ih, h.2 110 (by omega) (by omega), h.2 119 (by omega) (by omega)]
theorem hvy_fa {M M' : Nat → Nat → Int} (h : FA M M') (n : Nat) : hvy M' n = hvy M n := by
  induction n with
  | zero => rfl
  | succ n ih => simp only [hvy]; rw [ih, h.2 110 (by omega) (by omega), h.2 119 (by omega) (by omega), h.2 113 (by omega) (by omega)]
theorem unl_fa {M M' : Nat → Nat → Int} (h : FA M M') (j n : Nat) : unl M' j n = unl M j n := by
  induction n with
  | zero => rfl
  | succ n ih => simp only [unl]; rw [ih, h.2 110 (by omega) (by omega), h.2 117 (by omega) (by omega), h.2 117 (by omega) (by omega), h.2 118 (by omega) (by omega), h.2 118 (by omega) (by omega)]
theorem cE_fa {M M' : Nat → Nat → Int} (h : FA M M') (S : Nat) : cE M' S = cE M S := by unfold cE; rw [otm_fa h, wE_fa h]
theorem bst_fa {M M' : Nat → Nat → Int} (h : FA M M') (S : Nat) : bst M' S = bst M S := by
  induction S with
  | zero => rfl
  | succ S ih => simp only [bst]; rw [ih, wE_fa h, otm_fa h, wgt_fa h, wgt_fa h]
theorem BS_fa {M M' : Nat → Nat → Int} (h : FA M M') : BS M' = BS M := bst_fa h 1024
theorem lft_fa {M M' : Nat → Nat → Int} (h : FA M M') (S i : Nat) : lft M' S i = lft M S i := by
  induction i with
  | zero => rfl
  | succ i ih => simp only [lft]; rw [ih, wL_fa h]
theorem ord_fa {M M' : Nat → Nat → Int} (h : FA M M') (k : Nat) : ord M' k = ord M k := by unfold ord; rw [BS_fa h, lft_fa h, wL_fa h]
theorem sta_fa {M M' : Nat → Nat → Int} (h : FA M M') (k : Nat) : sta M' k = sta M k := by unfold sta; rw [BS_fa h, lft_fa h, wE_fa h, ord_fa h, lng_fa h]
theorem ftv_fa {M M' : Nat → Nat → Int} (h : FA M M') (k v : Nat) : ftv M' k v = ftv M k v := by unfold ftv; rw [BS_fa h, sta_fa h, sta_fa h, ord_fa h, lng_fa h, canM_fa h, h.1.2.2.1]
theorem chv_fa {M M' : Nat → Nat → Int} (h : FA M M') (k v : Nat) : chv M' k v = chv M k v := by
  induction v with
  | zero => rfl
  | succ v ih => simp only [chv]; rw [ih, ftv_fa h]
theorem chs_fa {M M' : Nat → Nat → Int} (h : FA M M') (k : Nat) : chs M' k = chs M k := by unfold chs; rw [chv_fa h, ord_fa h, h.2 119 (by omega) (by omega)]
theorem WL_fa {M M' : Nat → Nat → Int} (h : FA M M') {I : am_I} (hW : WL M I) : WL M' I := by
  obtain ⟨h1, h2, h3, h4, h5⟩ := hW
  refine ⟨by rw [h.1.2.2.1]; exact h1, by rw [txt_fa h]; exact h2, by rw [hvy_fa h]; exact h3, fun j hj q1 q2 => ?_, fun S hS => ?_⟩
  · rw [h.2 110 (by omega) (by omega)] at q1; rw [h.2 119 (by omega) (by omega)] at q2
    obtain ⟨w1, w2, w3, w4⟩ := h4 j hj q1 q2
    exact ⟨by rw [h.2 113 (by omega) (by omega)]; exact w1, by rw [lng_fa h]; exact w2, by rw [unl_fa h]; exact w3, fun t ht => by rw [nxt_fa h]; exact w4 t ht⟩
  · rw [cE_fa h, wL_fa h]; exact h5 S hS
theorem PLc_fa {M M' : Nat → Nat → Int} (h : FA M M') {I : am_I} (hP : PLc M I) : PLc M' I := by
  unfold PLc at hP ⊢
  rw [BS_fa h, wgt_fa h]
  refine ⟨hP.1, hP.2.1, fun k hk => ?_⟩
  rw [ord_fa h, sta_fa h, chs_fa h]; exact hP.2.2 k hk
theorem WL_cg {M : Nat → Nat → Int} {I I' : am_I} (h : WL M I) (hc : ∀ a, 16 ≤ a → a ≤ 34 → ∀ j, (a = 16 → j ≠ 0) → I' a j = I a j) : WL M I' := by
  obtain ⟨h1, h2, h3, h4, h5⟩ := h
  refine ⟨by rw [hc _ (by omega) (by omega) _ (by omega)]; exact h1, by rw [hc _ (by omega) (by omega) _ (by omega)]; exact h2, by rw [hc _ (by omega) (by omega) _ (by omega)]; exact h3, fun j hj q1 q2 => ?_, fun S hS => ?_⟩
  · rw [hc 17 (by omega) (by omega) _ (by omega), hc 18 (by omega) (by omega) _ (by omega), hc 19 (by omega) (by omega) _ (by omega)]
    obtain ⟨w1, w2, w3, w4⟩ := h4 j hj q1 q2
    exact ⟨w1, w2, w3, fun t ht => by rw [hc _ (by omega) (by omega) _ (by omega)]; exact w4 t ht⟩
  · rw [hc 33 (by omega) (by omega) _ (by omega), hc 34 (by omega) (by omega) _ (by omega)]; exact h5 S hS
/-- plan and ways forgotten -/
theorem RP_0 {M : Nat → Nat → Int} {I : am_I} (h : M 100 20 = 0) (h1 : I 35 0 = iI 0) (h2 : I 16 0 = iI 0) : RP M I := ⟨by rw [h]; exact h1, Or.inl ⟨h2, h⟩, fun q => by omega⟩
theorem RP_cg {M M' : Nat → Nat → Int} {I I' : am_I} (h : RP M I) (hf : FA M M') (h20 : M' 100 20 = M 100 20) (hc : ∀ a, 16 ≤ a → a ≤ 38 → ∀ j, I' a j = I a j) : RP M' I' := by
  obtain ⟨h1, h2, h3⟩ := h
  refine ⟨by rw [hc _ (by omega) (by omega), h20]; exact h1, ?_, fun q => ?_⟩
  · rcases h2 with ⟨q1, q2⟩ | ⟨q1, q2⟩
    · exact Or.inl ⟨by rw [hc _ (by omega) (by omega)]; exact q1, by rw [h20]; exact q2⟩
    · exact Or.inr ⟨by rw [hc _ (by omega) (by omega)]; exact q1, WL_fa hf (WL_cg q2 (fun a w1 w2 j _ => hc a w1 (by omega) j))⟩
  · rw [h20] at q
    have h4 := PLc_fa hf (h3 q)
    refine ⟨by rw [hc _ (by omega) (by omega)]; exact h4.1, by rw [hc _ (by omega) (by omega)]; exact h4.2.1, fun k hk => ?_⟩
    rw [hc 36 (by omega) (by omega), hc 37 (by omega) (by omega), hc 38 (by omega) (by omega)]; exact h4.2.2 k hk
theorem RS_cg {K K' : Int} {M M' : Nat → Nat → Int} {I I' : am_I} (h : RS K M I) (hK : K ≤ K') (h1 : M' 100 47 = M 100 47 ∧ M' 100 48 = M 100 48 ∧ M' 100 50 = M 100 50 ∧ M' 100 51 = M 100 51 ∧ M' 100 52 = M 100 52) (h2 : ∀ j, M' 150 j = M 150 j) (h3 : ∀ j, M' 154 j = M 154 j) (hc : ∀ a, 39 ≤ a → a ≤ 41 → ∀ j, I' a j = I a j) : RS K' M' I' := by
  obtain ⟨q1, q2, q3, q4, q5, q6, z, q7, q8, q9, q10⟩ := h
  obtain ⟨e1, e2, e3, e4, e5⟩ := h1
  unfold RS
  rw [e1, e2, e3, e4, e5, hc 39 (by omega) (by omega), hc 39 (by omega) (by omega), hc 39 (by omega) (by omega), hc 39 (by omega) (by omega), hc 39 (by omega) (by omega)]
  refine ⟨q1, q2, fun j hj => ?_, fun w j hj => ?_, q5, q6, z, q7, q8, by omega, q10⟩
  · rw [hc 40 (by omega) (by omega), h2]; exact q3 j hj
  · rw [hc 41 (by omega) (by omega), h3]; exact q4 w j hj
theorem RM_cg {M M' : Nat → Nat → Int} {I I' : am_I} (h : RM M I) (h1 : ∀ i, M' 155 i = M 155 i) (hc : ∀ j, I' 43 j = I 43 j) : RM M' I' := fun i hi => by rw [hc, h1]; exact h i hi
theorem VO_cg {M M' : Nat → Nat → Int} {I I' : am_I} (h : VO M I) (h1 : M' 100 2 = M 100 2 ∧ M' 100 3 = M 100 3) (hc : I' 10 3 = I 10 3 ∧ I' 10 4 = I 10 4) : VO M' I' := by unfold VO; rw [h1.1, h1.2, hc.1, hc.2]; exact h
theorem kpF_cg {M M' : Nat → Nat → Int} (h : ∀ r i, 131 ≤ r → r ≤ 147 → M' r i = M r i) (e : Nat) : ∀ r i, (r = 100 ∨ (106 ≤ r ∧ r ≤ 120)) → kpF M' e r i = kpF M e r i := by
  intro r i hr
  unfold kpF
  by_cases h1 : r = 100
  · subst h1; simp only [if_true]; rw [h 131 e (by omega) (by omega), h 132 e (by omega) (by omega)]
  · rw [if_neg h1, if_neg h1]
    by_cases h2 : r ≤ 108
    · rw [if_pos h2, if_pos h2]; exact h _ _ (by omega) (by omega)
    · rw [if_neg h2, if_neg h2]
      by_cases h3 : r = 120
      · rw [if_pos h3, if_pos h3]; exact h _ _ (by omega) (by omega)
      · rw [if_neg h3, if_neg h3]; exact h _ _ (by omega) (by omega)
theorem ED_cg {M M' : Nat → Nat → Int} {sh sh' : Nat → Nat → Nat} {se : Nat → Nat → Nat → Nat} {I I' : am_I} {P P' : am_P} {B B' : Nat} (h : ED M sh se I P B) (hM : M' 100 29 = M 100 29 ∧ ∀ r i, 131 ≤ r → r ≤ 147 → M' r i = M r i) (h10 : I' 10 2 = I 10 2) (h15 : ∀ j, P' 15 j = P 15 j)
    (hcap : sh 0 0 = 9 ∨ (4096 ≤ sh 0 0 ∧ 2 ≤ sh 0 0 % 4096 ∧ sh 0 0 % 4096 ≤ 5)) (hsh : sh' 0 0 = sh 0 0 ∨ B ≤ sh' 0 0) (hB : B ≤ B') (hB2 : 161 ≤ B) (hfr : ∀ a, 4096 ≤ a → a < B → a ≠ sh 0 0 → ¬ (200 ≤ a % 4096 ∧ a % 4096 < 210) → ¬ (300 ≤ a % 4096 ∧ a % 4096 < 310) → ∀ j, I' a j = I a j ∧ P' a j = P a j) : ED M' sh' se I' P' B' := by
  obtain ⟨h1, h2⟩ := h
  refine ⟨by rw [h10, hM.1]; exact h1, fun e he => ⟨fun q => ?_, fun q => by rw [h15]; exact (h2 e he).2 (by rw [hM.1] at q; exact q)⟩⟩
  rw [hM.1] at q
  obtain ⟨q1, q2, q3, q4⟩ := (h2 e he).1 q
  have hk := kpF_cg hM.2 e
  have hfa : FA (kpF M e) (kpF M' e) := ⟨⟨hk _ _ (by omega), hk _ _ (by omega), hk _ _ (by omega), hk _ _ (by omega)⟩, fun a w1 w2 j => hk a j (by omega)⟩
  obtain ⟨⟨f1, f2, f3⟩, ⟨g1, g2, g3⟩, ⟨n1, n2, n3⟩, a1, a2, a3⟩ := q2
  obtain ⟨w1, w2, ⟨⟨w3, w4, w5, w6, w7⟩, w8⟩, w9, w10, w11, w12⟩ := q4
  refine ⟨by rw [h15]; exact q1, ⟨⟨f1, f2, by omega⟩, ⟨g1, g2, by omega⟩, ⟨n1, n2, by omega⟩, a1, a2, by omega⟩, ?_, FR_fa hfa (FR_cg ⟨w1, w2, ⟨⟨w3, w4, w5, w6, w7⟩, w8⟩, w9, w10, w11, w12⟩ hB (fun a ha => ?_))⟩
  · rcases q3 with q3 | q3
    · exact Or.inl q3
    · rcases hsh with r | r
      · exact Or.inr (by omega)
      · rcases w6 with ⟨u1, u2⟩ | u
        · exact Or.inl u1
        · exact Or.inr (by omega)
  · rcases ha with rfl | rfl | rfl | rfl | ⟨rfl, r⟩ | ⟨k, r1, rfl⟩ | ⟨j, r1, r2, r3⟩
    · exact hfr _ f1 f3 (by intro e2; omega) (by omega) (by omega)
    · exact hfr _ g1 g3 (by intro e2; omega) (by omega) (by omega)
    · exact hfr _ n1 n3 (by intro e2; omega) (by omega) (by omega)
    · exact hfr _ a1 a3 (by intro e2; omega) (by omega) (by omega)
    · have u := w8.resolve_left r
      rcases w6 with u2 | u2
      · exact absurd u2.1 r
      · exact hfr _ u.1 (by omega) (q3.resolve_left r) (by omega) (by omega)
    · obtain ⟨_, u1, u2, u3⟩ := w9 k r1
      exact hfr _ u1 u3 (by intro e2; omega) (by omega) (by omega)
    · obtain ⟨_, ⟨⟨u1, u2, u3⟩, u4, u5, u6⟩, _⟩ := w12 j r1 r2
      rcases r3 with rfl | rfl
      · exact hfr _ u1 u3 (by intro e2; omega) (by omega) (by omega)
      · exact hfr _ u4 u6 (by intro e2; omega) (by omega) (by omega)
