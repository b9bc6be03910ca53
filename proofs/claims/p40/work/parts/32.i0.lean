/-! THE INVARIANT: its parts -/
/-- a fact's first tick is none behind its last -/
def SB (M : Nat → Nat → Int) : Prop := ∀ j, j < 10 → M 110 j = 1 → M 111 j ≤ M 112 j
def FI (K : Int) (M : Nat → Nat → Int) : Prop := WFi K M ∧ SB M
def SO (K : Int) (M : Nat → Nat → Int) : Prop := WFs K M ∧ (M 100 50 ≠ -1 → M 100 48 = 0 ∧ 1 ≤ M 100 51)
def KE (K : Int) (M : Nat → Nat → Int) : Prop := (0 ≤ M 100 29 ∧ M 100 29 ≤ 4) ∧ ∀ e : Nat, (e : Int) < M 100 29 → FI K (kpF M e)
def VOb (M : Nat → Nat → Int) : Prop := (2 ≤ M 100 2 ∧ M 100 2 ≤ 9) ∧ 0 ≤ M 100 3 ∧ M 100 3 ≤ 20
def INV (K : Int) (M : Nat → Nat → Int) : Prop := FI K M ∧ SO K M ∧ KE K M ∧ VOb M ∧ PI M ∧ GI M
theorem WFi_mo {K K' : Int} {M : Nat → Nat → Int} (h : WFi K M) (hK : K ≤ K') : WFi K' M := by
  obtain ⟨w1, w2, w3, w4, w5, w6, w7, w8, w9, w10, w11, w12, w13, w14, w15, w16, w17, w18⟩ := h
  exact ⟨w1, w2, w3, w4, fun j q => by have := w5 j q; omega, w6, fun j q => by have := w7 j q; omega, fun j q => by have := w8 j q; omega, w9, w10, w11, w12, w13, w14, w15, w16, w17, w18⟩
theorem FI_mo {K K' : Int} {M : Nat → Nat → Int} (h : FI K M) (hK : K ≤ K') : FI K' M := ⟨WFi_mo h.1 hK, h.2⟩
theorem SO_mo {K K' : Int} {M : Nat → Nat → Int} (h : SO K M) (hK : K ≤ K') : SO K' M := by
  obtain ⟨⟨a1, a2, a3, a4, a5, a6, a7, a8⟩, h2⟩ := h
  exact ⟨⟨a1, a2, a3, a4, by omega, a6, a7, a8⟩, h2⟩
theorem KE_mo {K K' : Int} {M : Nat → Nat → Int} (h : KE K M) (hK : K ≤ K') : KE K' M := ⟨h.1, fun e he => FI_mo (h.2 e he) hK⟩
theorem INV_mo {K K' : Int} {M : Nat → Nat → Int} (h : INV K M) (hK : K ≤ K') : INV K' M := ⟨FI_mo h.1 hK, SO_mo h.2.1 hK, KE_mo h.2.2.1 hK, h.2.2.2⟩
theorem FI_ag {K : Int} {M M' : Nat → Nat → Int} (h : FI K M) (h1 : M' 100 1 = M 100 1) (h4 : M' 100 4 = M 100 4) (hs : ∀ k : Nat, (k : Int) < M 100 4 → M' 106 k = M 106 k ∧ M' 107 k = M 107 k ∧ M' 108 k = M 108 k) (hf : ∀ r j, 109 ≤ r → r ≤ 119 → j < 10 → M' r j = M r j) (hy : ∀ i, i < 30 → M' 120 i = M 120 i) : FI K M' := by
  obtain ⟨⟨w1, w2, w3, w4, w5, w6, w7, w8, w9, w10, w11, w12, w13, w14, w15, w16, w17, w18⟩, hb⟩ := h
  have f (r : Nat) (q1 : 109 ≤ r) (q2 : r ≤ 119) (j : Nat) (q3 : j < 10) : M' r j = M r j := hf r j q1 q2 q3
  refine ⟨⟨by rw [h1]; exact w1, by rw [h4]; exact w2, fun k hk => ?_, fun k hk => ?_, fun j q => by rw [f 109 (by omega) (by omega) j q]; exact w5 j q, fun j q => by rw [f 110 (by omega) (by omega) j q]; exact w6 j q, fun j q => by rw [f 111 (by omega) (by omega) j q]; exact w7 j q, fun j q => by rw [f 112 (by omega) (by omega) j q]; exact w8 j q, fun j q => by rw [f 110 (by omega) (by omega) j q, f 111 (by omega) (by omega) j q, f 112 (by omega) (by omega) j q, h1]; exact w9 j q, fun j q => by rw [f 113 (by omega) (by omega) j q]; exact w10 j q, fun j q => by rw [f 114 (by omega) (by omega) j q]; exact w11 j q, fun j q => by rw [f 115 (by omega) (by omega) j q]; exact w12 j q, fun j q => by rw [f 116 (by omega) (by omega) j q]; exact w13 j q, fun j q => by rw [f 117 (by omega) (by omega) j q]; exact w14 j q, fun j q => by rw [f 118 (by omega) (by omega) j q]; exact w15 j q, fun j q => by rw [f 119 (by omega) (by omega) j q]; exact w16 j q, fun i q => by rw [hy i q]; exact w17 i q, fun j v q => ?_⟩, fun j q => by rw [f 110 (by omega) (by omega) j q, f 111 (by omega) (by omega) j q, f 112 (by omega) (by omega) j q]; exact hb j q⟩
  · rw [h4] at hk
    obtain ⟨q1, q2, q3⟩ := hs k hk
    rw [q2, q3, h1]; exact w3 k hk
  · rw [h4] at hk
    obtain ⟨q1, q2, q3⟩ := hs k hk
    rw [q1]; exact w4 k hk
  · rw [f 110 (by omega) (by omega) j q, f 119 (by omega) (by omega) j q]
    intro q2 q3
    have := w16 j q
    rw [hy _ (by omega)]; exact w18 j v q q2 q3
theorem FI_fa {K : Int} {M M' : Nat → Nat → Int} (h : FI K M) (hf : FA M M') : FI K M' := FI_ag h hf.1.1 hf.1.2.2.2 (fun k _ => ⟨hf.2 _ (by omega) (by omega) _, hf.2 _ (by omega) (by omega) _, hf.2 _ (by omega) (by omega) _⟩) (fun r j q1 q2 _ => hf.2 r (by omega) (by omega) j) (fun i _ => hf.2 _ (by omega) (by omega) i)
theorem SO_ag {K : Int} {M M' : Nat → Nat → Int} (h : SO K M) (h1 : M' 100 47 = M 100 47 ∧ M' 100 48 = M 100 48 ∧ M' 100 50 = M 100 50 ∧ M' 100 51 = M 100 51 ∧ M' 100 52 = M 100 52) (h2 : ∀ r j, (r = 150 ∨ r = 154 ∨ r = 155) → M' r j = M r j) : SO K M' := by
  obtain ⟨⟨a1, a2, a3, a4, a5, a6, a7, a8⟩, hb⟩ := h
  obtain ⟨e1, e2, e3, e4, e5⟩ := h1
  exact ⟨⟨by rw [e1]; exact a1, by rw [e2]; exact a2, by rw [e3]; exact a3, by rw [e4]; exact a4, by rw [e5]; exact a5, fun j q => by rw [h2 _ _ (by omega)]; exact a6 j q, fun j q => by rw [h2 _ _ (by omega)]; exact a7 j q, fun j q => by rw [h2 _ _ (by omega)]; exact a8 j q⟩, by rw [e2, e3, e4]; exact hb⟩
theorem KE_ag {K : Int} {M M' : Nat → Nat → Int} (h : KE K M) (h1 : M' 100 29 = M 100 29) (h2 : ∀ r i, 131 ≤ r → r ≤ 147 → M' r i = M r i) : KE K M' := by
  refine ⟨by rw [h1]; exact h.1, fun e he => ?_⟩
  rw [h1] at he
  have hk := kpF_cg h2 e
  exact FI_fa (h.2 e he) ⟨⟨hk _ _ (by omega), by unfold kpF; rfl, by unfold kpF; rfl, hk _ _ (by omega)⟩, fun a q1 q2 j => hk a j (by omega)⟩
theorem PI_ag {M M' : Nat → Nat → Int} (h : PI M) (hf : FA M M') (h1 : M' 100 20 = M 100 20 ∧ M' 100 21 = M 100 21 ∧ M' 100 22 = M 100 22) (h2 : ∀ r i, 124 ≤ r → r ≤ 126 → M' r i = M r i) : PI M' := by
  unfold PI
  rw [h1.1, h1.2.1, h1.2.2, BS_fa hf]
  refine ⟨h.1, fun w => ⟨(h.2 w).1, (h.2 w).2.1, fun k hk => ?_⟩⟩
  rw [ord_fa hf, sta_fa hf, chs_fa hf, h2 _ _ (by omega) (by omega), h2 _ _ (by omega) (by omega), h2 _ _ (by omega) (by omega)]; exact (h.2 w).2.2 k hk
theorem PI_0 {M : Nat → Nat → Int} (h : M 100 20 = 0) : PI M := ⟨Or.inl h, fun w => by omega⟩
/-- nothing but what is thrown and the caches has changed -/
theorem INV_e {K : Int} {M M' : Nat → Nat → Int} (h : INV K M) (he : ∀ r i, ¬ (r = 100 ∧ i = 0) → r ≠ 127 → r ≠ 128 → r ≠ 129 → M' r i = M r i) : INV K M' := by
  have hf : FA M M' := ⟨⟨he _ _ (by omega) (by omega) (by omega) (by omega), he _ _ (by omega) (by omega) (by omega) (by omega), he _ _ (by omega) (by omega) (by omega) (by omega), he _ _ (by omega) (by omega) (by omega) (by omega)⟩, fun a h1 h2 j => he a j (by omega) (by omega) (by omega) (by omega)⟩
  obtain ⟨h1, h2, h3, h4, h5, h6⟩ := h
  refine ⟨FI_fa h1 hf, SO_ag h2 ⟨he _ _ (by omega) (by omega) (by omega) (by omega), he _ _ (by omega) (by omega) (by omega) (by omega), he _ _ (by omega) (by omega) (by omega) (by omega), he _ _ (by omega) (by omega) (by omega) (by omega), he _ _ (by omega) (by omega) (by omega) (by omega)⟩ (fun r j q => he r j (by omega) (by omega) (by omega) (by omega)), KE_ag h3 (he _ _ (by omega) (by omega) (by omega) (by omega)) (fun r i q1 q2 => he r i (by omega) (by omega) (by omega) (by omega)), ?_, PI_ag h5 hf ⟨he _ _ (by omega) (by omega) (by omega) (by omega), he _ _ (by omega) (by omega) (by omega) (by omega), he _ _ (by omega) (by omega) (by omega) (by omega)⟩ (fun r i q1 q2 => he r i (by omega) (by omega) (by omega) (by omega)), fun g hg w => ?_⟩
  · unfold VOb; rw [hf.1.2.1, hf.1.2.2.1]; exact h4
  · rw [he 110 g (by omega) (by omega) (by omega) (by omega)] at w
    obtain ⟨q1, q2, q3⟩ := h6 g hg w
    exact ⟨by rw [he 154 g (by omega) (by omega) (by omega) (by omega)]; exact q1, fun l hl => by rw [he 155 _ (by omega) (by omega) (by omega) (by omega)]; exact q2 l hl, by rw [he 100 50 (by omega) (by omega) (by omega) (by omega)]; exact q3⟩
theorem INV_0 {K : Int} {M : Nat → Nat → Int} (h : INV K M) (c : Int) : INV (K + 1000) (am_u M 100 0 c) := INV_mo (INV_e h (fun r i q _ _ _ => if_neg q)) (by omega)
/-- the film has changed, the plan is forgotten -/
theorem INV_f {K K' : Int} {M M' : Nat → Nat → Int} (h : INV K M) (hK : K ≤ K') (h1 : FI K' M') (h20 : M' 100 20 = 0) (hv : VOb M') (h47 : ∀ i, 29 ≤ i → M' 100 i = M 100 i) (hr : ∀ r i, 131 ≤ r → M' r i = M r i) (hg : ∀ g, g < 10 → M' 110 g = 0 → M 110 g = 0) : INV K' M' := by
  obtain ⟨g1, g2, g3, g4, g5, g6⟩ := h
  refine ⟨h1, SO_mo (SO_ag g2 ⟨h47 _ (by omega), h47 _ (by omega), h47 _ (by omega), h47 _ (by omega), h47 _ (by omega)⟩ (fun r j q => hr r j (by omega))) hK, KE_mo (KE_ag g3 (h47 _ (by omega)) (fun r i q1 q2 => hr r i (by omega))) hK, hv, PI_0 h20, fun g hg2 w => ?_⟩
  obtain ⟨q1, q2, q3⟩ := g6 g hg2 (hg g hg2 w)
  exact ⟨by rw [hr _ _ (by omega)]; exact q1, fun l hl => by rw [hr _ _ (by omega)]; exact q2 l hl, by rw [h47 _ (by omega)]; exact q3⟩
/-- the stage has changed alone -/
theorem INV_s {K K' : Int} {M M' : Nat → Nat → Int} (h : INV K M) (hK : K ≤ K') (h1 : SO K' M') (hM : ∀ i, i ≠ 0 → i ≠ 47 → i ≠ 48 → i ≠ 50 → i ≠ 51 → i ≠ 52 → M' 100 i = M 100 i) (hr : ∀ r i, r ≠ 100 → r ≠ 150 → r ≠ 154 → r ≠ 155 → M' r i = M r i) (hg : GI M') : INV K' M' := by
  obtain ⟨g1, g2, g3, g4, g5, g6⟩ := h
  have hf : FA M M' := ⟨⟨hM _ (by omega) (by omega) (by omega) (by omega) (by omega) (by omega), hM _ (by omega) (by omega) (by omega) (by omega) (by omega) (by omega), hM _ (by omega) (by omega) (by omega) (by omega) (by omega) (by omega), hM _ (by omega) (by omega) (by omega) (by omega) (by omega) (by omega)⟩, fun a h1 h2 j => hr a j (by omega) (by omega) (by omega) (by omega)⟩
  refine ⟨FI_mo (FI_fa g1 hf) hK, h1, KE_mo (KE_ag g3 (hM _ (by omega) (by omega) (by omega) (by omega) (by omega) (by omega)) (fun r i q1 q2 => hr r i (by omega) (by omega) (by omega) (by omega))) hK, ?_, PI_ag g5 hf ⟨hM _ (by omega) (by omega) (by omega) (by omega) (by omega) (by omega), hM _ (by omega) (by omega) (by omega) (by omega) (by omega) (by omega), hM _ (by omega) (by omega) (by omega) (by omega) (by omega) (by omega)⟩ (fun r i q1 q2 => hr r i (by omega) (by omega) (by omega) (by omega)), hg⟩
  unfold VOb; rw [hf.1.2.1, hf.1.2.2.1]; exact g4
/-- one fact has changed -/
theorem FI_f1 {K : Int} {M M' : Nat → Nat → Int} (h : FI K M) {j : Nat} (h1 : M' 100 1 = M 100 1) (h4 : M' 100 4 = M 100 4) (hs : ∀ r i, 106 ≤ r → r ≤ 109 → M' r i = M r i) (hf : ∀ r i, 110 ≤ r → r ≤ 119 → i ≠ j → M' r i = M r i) (hy : ∀ i, i < 30 → 0 ≤ M' 120 i ∧ M' 120 i ≤ 80) (hy2 : ∀ i v : Nat, i < 10 → M' 110 i = 1 → (v : Int) < M' 119 i → 1 ≤ M' 120 (3 * i + v))
    (hj : (M' 110 j = 0 ∨ M' 110 j = 1) ∧ (0 ≤ M' 111 j ∧ M' 111 j ≤ K) ∧ (0 ≤ M' 112 j ∧ M' 112 j ≤ K) ∧ (M' 110 j = 1 → M' 111 j ≤ M 100 1 ∧ M' 112 j ≤ M 100 1 ∧ M' 111 j ≤ M' 112 j) ∧ (0 ≤ M' 113 j ∧ M' 113 j ≤ 99) ∧ (0 ≤ M' 114 j ∧ M' 114 j ≤ 60) ∧ (M' 115 j = 0 ∨ M' 115 j = 1) ∧ (0 ≤ M' 116 j ∧ M' 116 j ≤ 10) ∧ (0 ≤ M' 117 j ∧ M' 117 j ≤ 10) ∧ (-2147483648 ≤ M' 118 j ∧ M' 118 j ≤ 2147483647) ∧ (0 ≤ M' 119 j ∧ M' 119 j ≤ 3)) : FI K M' := by
  obtain ⟨⟨w1, w2, w3, w4, w5, w6, w7, w8, w9, w10, w11, w12, w13, w14, w15, w16, w17, w18⟩, hb⟩ := h
  obtain ⟨j0, j1, j2, j3, j4, j5, j6, j7, j8, j9, j10⟩ := hj
  have f (r : Nat) (q1 : 110 ≤ r) (q2 : r ≤ 119) (i : Nat) (q3 : i ≠ j) : M' r i = M r i := hf r i q1 q2 q3
  refine ⟨⟨by rw [h1]; exact w1, by rw [h4]; exact w2, fun k hk => ?_, fun k hk => ?_, fun i q => by rw [hs 109 i (by omega) (by omega)]; exact w5 i q, fun i q => ?_, fun i q => ?_, fun i q => ?_, fun i q => ?_, fun i q => ?_, fun i q => ?_, fun i q => ?_, fun i q => ?_, fun i q => ?_, fun i q => ?_, fun i q => ?_, hy, hy2⟩, fun i q => ?_⟩
  · rw [h4] at hk; rw [hs 107 k (by omega) (by omega), hs 108 k (by omega) (by omega), h1]; exact w3 k hk
  · rw [h4] at hk; rw [hs 106 k (by omega) (by omega)]; exact w4 k hk
  · by_cases e : i = j
    · rw [e]; exact j0
    · rw [f 110 (by omega) (by omega) i e]; exact w6 i q
  · by_cases e : i = j
    · rw [e]; exact j1
    · rw [f 111 (by omega) (by omega) i e]; exact w7 i q
  · by_cases e : i = j
    · rw [e]; exact j2
    · rw [f 112 (by omega) (by omega) i e]; exact w8 i q
  · by_cases e : i = j
    · rw [e, h1]; exact fun w => ⟨(j3 w).1, (j3 w).2.1⟩
    · rw [f 110 (by omega) (by omega) i e, f 111 (by omega) (by omega) i e, f 112 (by omega) (by omega) i e, h1]; exact w9 i q
  · by_cases e : i = j
    · rw [e]; exact j4
    · rw [f 113 (by omega) (by omega) i e]; exact w10 i q
  · by_cases e : i = j
    · rw [e]; exact j5
    · rw [f 114 (by omega) (by omega) i e]; exact w11 i q
  · by_cases e : i = j
    · rw [e]; exact j6
    · rw [f 115 (by omega) (by omega) i e]; exact w12 i q
  · by_cases e : i = j
    · rw [e]; exact j7
    · rw [f 116 (by omega) (by omega) i e]; exact w13 i q
  · by_cases e : i = j
    · rw [e]; exact j8
    · rw [f 117 (by omega) (by omega) i e]; exact w14 i q
  · by_cases e : i = j
    · rw [e]; exact j9
    · rw [f 118 (by omega) (by omega) i e]; exact w15 i q
  · by_cases e : i = j
    · rw [e]; exact j10
    · rw [f 119 (by omega) (by omega) i e]; exact w16 i q
  · by_cases e : i = j
    · rw [e]; exact fun w => (j3 w).2.2
    · rw [f 110 (by omega) (by omega) i e, f 111 (by omega) (by omega) i e, f 112 (by omega) (by omega) i e]; exact hb i q
