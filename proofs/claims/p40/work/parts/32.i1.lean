/-! THE INVARIANT: film to version -/
theorem fits_i {M : Nat → Nat → Int} {t : Int} (h : fits M t = true) : (∀ k : Nat, (k : Int) < M 100 4 → M 108 k ≤ t) ∧ ∀ j, j < 10 → M 110 j ≠ 0 → M 112 j ≤ t := by
  have h1 : fit1 M t (M 100 4).toNat = true := by
    rcases hb : fit1 M t (M 100 4).toNat with _ | _
    · unfold fits at h; rw [hb, fit2_b] at h; exact absurd h Bool.false_ne_true
    · rfl
  refine ⟨fun k hk => ?_, fun j hj h0 => ?_⟩
  · rcases Classical.em (M 108 k ≤ t) with w | w
    · exact w
    · rw [fit1_f (k := k) w _ (by omega)] at h1; exact absurd h1 Bool.false_ne_true
  · rcases Classical.em (M 112 j ≤ t) with w | w
    · exact w
    · unfold fits at h; rw [fit2_f (k := j) h0 w 10 hj] at h; exact absurd h Bool.false_ne_true
section
variable {K : Int} {M : Nat → Nat → Int}
theorem iv_film (h : INV K M) (hK : 1000 ≤ K) (t : Int) : INV (K + 1000) (d_film M t).1 := by
  unfold d_film
  split
  · exact INV_0 h 1
  · next ht =>
    split
    · exact INV_0 h 2
    · next hf =>
      have ht2 : 1 ≤ t ∧ t ≤ 900 := Classical.not_not.mp ht
      have hfi : fits M t = true := by
        rcases hb : fits M t with _ | _
        · exact absurd hb hf
        · rfl
      obtain ⟨f1, f2⟩ := fits_i hfi
      obtain ⟨M', hM⟩ : ∃ M', M' = dch (am_u (am_u M 100 0 0) 100 1 t) := ⟨_, rfl⟩
      show INV (K + 1000) (dch (am_u (am_u M 100 0 0) 100 1 t))
      rw [← hM]
      have eM : ∀ r i, ¬ (r = 100 ∧ (i = 0 ∨ i = 1 ∨ i = 20)) → M' r i = M r i := fun r i q => by
        rw [hM]; unfold dch am_u; rw [if_neg (by omega), if_neg (by omega), if_neg (by omega)]
      have e1 : M' 100 1 = t := by rw [hM]; simp [dch, am_u]
      have em (r : Nat) (q : r ≠ 100) : M' r = M r := funext (fun i => eM r i (by omega))
      obtain ⟨⟨w1, w2, w3, w4, w5, w6, w7, w8, w9, w10, w11, w12, w13, w14, w15, w16, w17, w18⟩, hb⟩ := h.1
      refine INV_f h (by omega) ?_ (by rw [hM]; simp [dch, am_u]) (by unfold VOb; rw [eM 100 2 (by omega), eM 100 3 (by omega)]; exact h.2.2.2.1) (fun i q => eM _ _ (by omega)) (fun r i q => eM _ _ (by omega)) (fun g hg w => by rw [eM 110 g (by omega)] at w; exact w)
      unfold FI WFi SB
      rw [e1, eM 100 4 (by omega), em 106 (by omega), em 107 (by omega), em 108 (by omega), em 109 (by omega), em 110 (by omega), em 111 (by omega), em 112 (by omega), em 113 (by omega), em 114 (by omega), em 115 (by omega), em 116 (by omega), em 117 (by omega), em 118 (by omega), em 119 (by omega), em 120 (by omega)]
      exact ⟨⟨ht2, w2, fun k hk => ⟨(w3 k hk).1, (w3 k hk).2.1, f1 k hk⟩, w4, fun j q => by have := w5 j q; omega, w6, fun j q => by have := w7 j q; omega, fun j q => by have := w8 j q; omega, fun j q q2 => by have := hb j q q2; have := f2 j q (by omega); omega, w10, w11, w12, w13, w14, w15, w16, w17, w18⟩, hb⟩
theorem iv_sound (h : INV K M) (c a b : Int) : INV (K + 1000) (d_sound M c a b).1 := by
  unfold d_sound
  split
  · exact INV_0 h 1
  · next hg =>
    split
    · exact INV_0 h 2
    · next hn30 =>
      have hg2 := Classical.not_not.mp hg
      obtain ⟨⟨w1, w2, w3, w4, w5, w6, w7, w8, w9, w10, w11, w12, w13, w14, w15, w16, w17, w18⟩, hb⟩ := h.1
      obtain ⟨n, hn⟩ : ∃ n : Nat, M 100 4 = n := ⟨(M 100 4).toNat, by omega⟩
      rw [hn, nat_toNat]
      obtain ⟨M', hM⟩ : ∃ M', M' = dch (am_u (am_u (am_u (am_u (am_u M 100 0 0) 106 n c) 107 n a) 108 n b) 100 4 ((n : Int) + 1)) := ⟨_, rfl⟩
      show INV (K + 1000) (dch (am_u (am_u (am_u (am_u (am_u M 100 0 0) 106 n c) 107 n a) 108 n b) 100 4 ((n : Int) + 1)))
      rw [← hM]
      have eM : ∀ r i, ¬ (r = 100 ∧ (i = 0 ∨ i = 4 ∨ i = 20)) → ¬ ((106 ≤ r ∧ r ≤ 108) ∧ i = n) → M' r i = M r i := fun r i q q2 => by
        rw [hM]; unfold dch am_u; rw [if_neg (by omega), if_neg (by omega), if_neg (by omega), if_neg (by omega), if_neg (by omega), if_neg (by omega)]
      have e4 : M' 100 4 = (n : Int) + 1 := by rw [hM]; simp [dch, am_u]
      have e6 : M' 106 n = c := by rw [hM]; simp [dch, am_u]
      have e7 : M' 107 n = a := by rw [hM]; simp [dch, am_u]
      have e8 : M' 108 n = b := by rw [hM]; simp [dch, am_u]
      have em (r : Nat) (q : 109 ≤ r) : M' r = M r := funext (fun i => eM r i (by omega) (by omega))
      refine INV_f h (by omega) ?_ (by rw [hM]; simp [dch, am_u]) (by unfold VOb; rw [eM 100 2 (by omega) (by omega), eM 100 3 (by omega) (by omega)]; exact h.2.2.2.1) (fun i q => eM _ _ (by omega) (by omega)) (fun r i q => eM _ _ (by omega) (by omega)) (fun g hg w => by rw [eM 110 g (by omega) (by omega)] at w; exact w)
      unfold FI WFi SB
      rw [e4, eM 100 1 (by omega) (by omega), em 109 (by omega), em 110 (by omega), em 111 (by omega), em 112 (by omega), em 113 (by omega), em 114 (by omega), em 115 (by omega), em 116 (by omega), em 117 (by omega), em 118 (by omega), em 119 (by omega), em 120 (by omega)]
      refine ⟨⟨w1, by omega, fun k hk => ?_, fun k hk => ?_, fun j q => by have := w5 j q; omega, w6, fun j q => by have := w7 j q; omega, fun j q => by have := w8 j q; omega, w9, w10, w11, w12, w13, w14, w15, w16, w17, w18⟩, hb⟩
      · by_cases e : k = n
        · rw [e, e7, e8]; omega
        · rw [eM 107 k (by omega) (by omega), eM 108 k (by omega) (by omega)]; exact w3 k (by omega)
      · by_cases e : k = n
        · rw [e, e6]; omega
        · rw [eM 106 k (by omega) (by omega)]; exact w4 k (by omega)
theorem iv_unsound (h : INV K M) : INV (K + 1000) (d_unsound M).1 := by
  unfold d_unsound
  split
  · exact INV_0 h 1
  · next h0 =>
    obtain ⟨⟨w1, w2, w3, w4, w5, w6, w7, w8, w9, w10, w11, w12, w13, w14, w15, w16, w17, w18⟩, hb⟩ := h.1
    obtain ⟨M', hM⟩ : ∃ M', M' = dch (am_u (am_u M 100 0 0) 100 4 (M 100 4 - 1)) := ⟨_, rfl⟩
    show INV (K + 1000) (dch (am_u (am_u M 100 0 0) 100 4 (M 100 4 - 1)))
    rw [← hM]
    have eM : ∀ r i, ¬ (r = 100 ∧ (i = 0 ∨ i = 4 ∨ i = 20)) → M' r i = M r i := fun r i q => by
      rw [hM]; unfold dch am_u; rw [if_neg (by omega), if_neg (by omega), if_neg (by omega)]
    have e4 : M' 100 4 = M 100 4 - 1 := by rw [hM]; simp [dch, am_u]
    have em (r : Nat) (q : r ≠ 100) : M' r = M r := funext (fun i => eM r i (by omega))
    refine INV_f h (by omega) ?_ (by rw [hM]; simp [dch, am_u]) (by unfold VOb; rw [eM 100 2 (by omega), eM 100 3 (by omega)]; exact h.2.2.2.1) (fun i q => eM _ _ (by omega)) (fun r i q => eM _ _ (by omega)) (fun g hg w => by rw [eM 110 g (by omega)] at w; exact w)
    unfold FI WFi SB
    rw [e4, eM 100 1 (by omega), em 106 (by omega), em 107 (by omega), em 108 (by omega), em 109 (by omega), em 110 (by omega), em 111 (by omega), em 112 (by omega), em 113 (by omega), em 114 (by omega), em 115 (by omega), em 116 (by omega), em 117 (by omega), em 118 (by omega), em 119 (by omega), em 120 (by omega)]
    exact ⟨⟨w1, by omega, fun k hk => w3 k (by omega), fun k hk => w4 k (by omega), fun j q => by have := w5 j q; omega, w6, fun j q => by have := w7 j q; omega, fun j q => by have := w8 j q; omega, w9, w10, w11, w12, w13, w14, w15, w16, w17, w18⟩, hb⟩
theorem iv_named (h : INV K M) (hK : 1000 ≤ K) (w t : Int) : INV (K + 1000) (d_named M w t).1 := by
  unfold d_named
  split
  · exact INV_0 h 1
  · next hg =>
    have hg2 := Classical.not_not.mp hg
    obtain ⟨⟨w1, w2, w3, w4, w5, w6, w7, w8, w9, w10, w11, w12, w13, w14, w15, w16, w17, w18⟩, hb⟩ := h.1
    obtain ⟨n, rfl⟩ : ∃ n : Nat, w = n := ⟨w.toNat, by omega⟩
    rw [nat_toNat]
    obtain ⟨M', hM⟩ : ∃ M', M' = dch (am_u (am_u M 100 0 0) 109 n (t + 1)) := ⟨_, rfl⟩
    show INV (K + 1000) (dch (am_u (am_u M 100 0 0) 109 n (t + 1)))
    rw [← hM]
    have eM : ∀ r i, ¬ (r = 100 ∧ (i = 0 ∨ i = 20)) → ¬ (r = 109 ∧ i = n) → M' r i = M r i := fun r i q q2 => by
      rw [hM]; unfold dch am_u; rw [if_neg (by omega), if_neg (by omega), if_neg (by omega)]
    have e9 : M' 109 n = t + 1 := by rw [hM]; simp [dch, am_u]
    have em (r : Nat) (q : r ≠ 100 ∧ r ≠ 109) : M' r = M r := funext (fun i => eM r i (by omega) (by omega))
    refine INV_f h (by omega) ?_ (by rw [hM]; simp [dch, am_u]) (by unfold VOb; rw [eM 100 2 (by omega) (by omega), eM 100 3 (by omega) (by omega)]; exact h.2.2.2.1) (fun i q => eM _ _ (by omega) (by omega)) (fun r i q => eM _ _ (by omega) (by omega)) (fun g hg w => by rw [eM 110 g (by omega) (by omega)] at w; exact w)
    unfold FI WFi SB
    rw [eM 100 4 (by omega) (by omega), eM 100 1 (by omega) (by omega), em 106 (by omega), em 107 (by omega), em 108 (by omega), em 110 (by omega), em 111 (by omega), em 112 (by omega), em 113 (by omega), em 114 (by omega), em 115 (by omega), em 116 (by omega), em 117 (by omega), em 118 (by omega), em 119 (by omega), em 120 (by omega)]
    refine ⟨⟨w1, w2, w3, w4, fun j q => ?_, w6, fun j q => by have := w7 j q; omega, fun j q => by have := w8 j q; omega, w9, w10, w11, w12, w13, w14, w15, w16, w17, w18⟩, hb⟩
    by_cases e : j = n
    · rw [e, e9]; omega
    · rw [eM 109 j (by omega) (by omega)]; have := w5 j q; omega
theorem iv_voice (h : INV K M) (a b : Int) : INV (K + 1000) (d_voice M a b).1 := by
  unfold d_voice
  split
  · exact INV_0 h 1
  · next hg =>
    have hg2 := Classical.not_not.mp hg
    obtain ⟨M', hM⟩ : ∃ M', M' = dch (am_u (am_u (am_u M 100 0 0) 100 2 a) 100 3 b) := ⟨_, rfl⟩
    show INV (K + 1000) (dch (am_u (am_u (am_u M 100 0 0) 100 2 a) 100 3 b))
    rw [← hM]
    have eM : ∀ r i, ¬ (r = 100 ∧ (i = 0 ∨ i = 2 ∨ i = 3 ∨ i = 20)) → M' r i = M r i := fun r i q => by
      rw [hM]; unfold dch am_u; rw [if_neg (by omega), if_neg (by omega), if_neg (by omega), if_neg (by omega)]
    refine INV_f h (by omega) (FI_mo (FI_ag h.1 (eM _ _ (by omega)) (eM _ _ (by omega)) (fun k _ => ⟨eM _ _ (by omega), eM _ _ (by omega), eM _ _ (by omega)⟩) (fun r j _ _ _ => eM _ _ (by omega)) (fun i _ => eM _ _ (by omega))) (by omega)) (by rw [hM]; simp [dch, am_u]) ?_ (fun i q => eM _ _ (by omega)) (fun r i q => eM _ _ (by omega)) (fun g hg w => by rw [eM 110 g (by omega)] at w; exact w)
    unfold VOb
    rw [show M' 100 2 = a by rw [hM]; simp [dch, am_u], show M' 100 3 = b by rw [hM]; simp [dch, am_u]]
    exact hg2
theorem iv_fact (h : INV K M) (hK : 1000 ≤ K) {a b w e o : Int} (ho : o = 0 ∨ o = 1) : INV (K + 1000) (d_fact M a b w e o).1 := by
  unfold d_fact
  split
  · exact INV_0 h 1
  · next hg =>
    split
    · exact INV_0 h 2
    · next hfu =>
      have hg2 := Classical.not_not.mp hg
      obtain ⟨h7, h8, h9⟩ := ffd_fr hfu
      have hW := h.1.1
      have hk := wf_tk hW
      generalize ffd M 10 0 = j at *
      obtain ⟨M', hM⟩ : ∃ M', M' = dch (am_u (am_u (am_u (am_u (am_u (am_u (am_u (am_u (am_u (am_u (am_u M 100 0 0) 110 j 1) 111 j a) 112 j b) 113 j w) 114 j e) 115 j o) 116 j 0) 117 j 0) 118 j 0) 119 j 0) := ⟨_, rfl⟩
      show INV (K + 1000) (dch (am_u (am_u (am_u (am_u (am_u (am_u (am_u (am_u (am_u (am_u (am_u M 100 0 0) 110 j 1) 111 j a) 112 j b) 113 j w) 114 j e) 115 j o) 116 j 0) 117 j 0) 118 j 0) 119 j 0))
      rw [← hM]
      have eM : ∀ r i, ¬ (r = 100 ∧ (i = 0 ∨ i = 20)) → ¬ ((110 ≤ r ∧ r ≤ 119) ∧ i = j) → M' r i = M r i := fun r i q q2 => by
        rw [hM]; unfold dch am_u; rw [if_neg (by omega), if_neg (by omega), if_neg (by omega), if_neg (by omega), if_neg (by omega), if_neg (by omega), if_neg (by omega), if_neg (by omega), if_neg (by omega), if_neg (by omega), if_neg (by omega), if_neg (by omega)]
      have e0 : M' 110 j = 1 ∧ M' 111 j = a ∧ M' 112 j = b ∧ M' 113 j = w ∧ M' 114 j = e ∧ M' 115 j = o ∧ M' 116 j = 0 ∧ M' 117 j = 0 ∧ M' 118 j = 0 ∧ M' 119 j = 0 := by rw [hM]; simp [dch, am_u]
      refine INV_f h (by omega) (FI_f1 (j := j) (FI_mo h.1 (show K ≤ K + 1000 by omega)) (eM _ _ (by omega) (by omega)) (eM _ _ (by omega) (by omega)) (fun r i _ _ => eM _ _ (by omega) (by omega)) (fun r i _ _ _ => eM _ _ (by omega) (by omega)) (fun i hi => by rw [eM 120 i (by omega) (by omega)]; exact wf_sy hW i hi) (fun i v hi q1 q2 => ?_) ?_) (by rw [hM]; simp [dch, am_u]) (by unfold VOb; rw [eM 100 2 (by omega) (by omega), eM 100 3 (by omega) (by omega)]; exact h.2.2.2.1) (fun i q => eM _ _ (by omega) (by omega)) (fun r i q => eM _ _ (by omega) (by omega)) (fun g hg w => ?_)
      · by_cases ei : i = j
        · rw [ei, e0.2.2.2.2.2.2.2.2.2] at q2; omega
        · rw [eM 110 i (by omega) (by omega)] at q1; rw [eM 119 i (by omega) (by omega)] at q2; rw [eM 120 _ (by omega) (by omega)]; exact wf_s1 hW i v hi q1 q2
      · obtain ⟨f0, f1, f2, f3, f4, f5, f6, f7, f8, f9⟩ := e0
        rw [f0, f1, f2, f3, f4, f5, f6, f7, f8, f9]
        omega
      · by_cases ei : g = j
        · rw [ei]; exact h7
        · rw [eM 110 g (by omega) (by omega)] at w; exact w
theorem iv_fc (h : INV K M) {M' : Nat → Nat → Int} {j : Nat} (hj : j < 10) (hth : M 110 j = 1) (h20 : M' 100 20 = 0) (eM : ∀ r i, ¬ (r = 100 ∧ (i = 0 ∨ i = 20)) → ¬ ((116 ≤ r ∧ r ≤ 119) ∧ i = j) → ¬ (r = 120 ∧ j * 3 ≤ i ∧ i < j * 3 + 3) → M' r i = M r i)
    (h6 : 0 ≤ M' 116 j ∧ M' 116 j ≤ 10) (h7 : 0 ≤ M' 117 j ∧ M' 117 j ≤ 10) (h8 : -2147483648 ≤ M' 118 j ∧ M' 118 j ≤ 2147483647) (h9 : 0 ≤ M' 119 j ∧ M' 119 j ≤ 3) (hy : ∀ v, v < 3 → 0 ≤ M' 120 (j * 3 + v) ∧ M' 120 (j * 3 + v) ≤ 80) (hy2 : ∀ v : Nat, (v : Int) < M' 119 j → 1 ≤ M' 120 (j * 3 + v)) : INV (K + 1000) M' := by
  have hW := h.1.1
  have hb := h.1.2 j hj hth
  have hsb := wf_sb hW j hj hth
  refine INV_f h (by omega) (FI_f1 (j := j) (FI_mo h.1 (show K ≤ K + 1000 by omega)) (eM _ _ (by omega) (by omega) (by omega)) (eM _ _ (by omega) (by omega) (by omega)) (fun r i _ _ => eM _ _ (by omega) (by omega) (by omega)) (fun r i _ _ _ => eM _ _ (by omega) (by omega) (by omega)) (fun i hi => ?_) (fun i v hi q1 q2 => ?_) ?_) h20 (by unfold VOb; rw [eM 100 2 (by omega) (by omega) (by omega), eM 100 3 (by omega) (by omega) (by omega)]; exact h.2.2.2.1) (fun i q => eM _ _ (by omega) (by omega) (by omega)) (fun r i q => eM _ _ (by omega) (by omega) (by omega)) (fun g hg w => by rw [eM 110 g (by omega) (by omega) (by omega)] at w; exact w)
  · by_cases e : j * 3 ≤ i ∧ i < j * 3 + 3
    · obtain ⟨v, rfl⟩ : ∃ v, i = j * 3 + v := ⟨i - j * 3, by omega⟩
      exact hy v (by omega)
    · rw [eM 120 i (by omega) (by omega) (by omega)]; exact wf_sy hW i hi
  · by_cases ei : i = j
    · rw [ei] at q2 ⊢; rw [show 3 * j + v = j * 3 + v by omega]; exact hy2 v q2
    · rw [eM 110 i (by omega) (by omega) (by omega)] at q1; rw [eM 119 i (by omega) (by omega) (by omega)] at q2
      have := wf_vs hW i hi
      rw [eM 120 _ (by omega) (by omega) (by omega)]; exact wf_s1 hW i v hi q1 q2
  · have w7 := wf_se hW j hj
    have w8 := wf_by hW j hj
    have w10 := wf_wt hW j hj
    have w11 := wf_ah hW j hj
    have w12 := wf_ov hW j hj
    rw [eM 110 j (by omega) (by omega) (by omega), eM 111 j (by omega) (by omega) (by omega), eM 112 j (by omega) (by omega) (by omega), eM 113 j (by omega) (by omega) (by omega), eM 114 j (by omega) (by omega) (by omega), eM 115 j (by omega) (by omega) (by omega)]
    omega
theorem iv_names (h : INV K M) (f w : Int) : INV (K + 1000) (d_names M f w).1 := by
  unfold d_names
  split
  · exact INV_0 h 1
  · next hf =>
    split
    · exact INV_0 h 2
    · next hg =>
      have hf2 := Classical.not_not.mp hf
      have hg2 := Classical.not_not.mp hg
      obtain ⟨n, rfl⟩ : ∃ n : Nat, f = n := ⟨f.toNat, by omega⟩
      rw [nat_toNat] at hf2 ⊢
      have hW := h.1.1
      obtain ⟨M', hM⟩ : ∃ M', M' = dch (am_u (am_u M 100 0 0) 116 n (w + 1)) := ⟨_, rfl⟩
      show INV (K + 1000) (dch (am_u (am_u M 100 0 0) 116 n (w + 1)))
      rw [← hM]
      have eM : ∀ r i, ¬ (r = 100 ∧ (i = 0 ∨ i = 20)) → ¬ (r = 116 ∧ i = n) → M' r i = M r i := fun r i q q2 => by
        rw [hM]; unfold dch am_u; rw [if_neg (by omega), if_neg (by omega), if_neg (by omega)]
      have e6 : M' 116 n = w + 1 := by rw [hM]; simp [dch, am_u]
      refine iv_fc h (j := n) (by omega) hf2.2.2 (by rw [hM]; simp [dch, am_u]) (fun r i q1 q2 q3 => eM r i q1 (by omega)) (by rw [e6]; omega) ?_ ?_ ?_ (fun v hv => ?_) (fun v hv => ?_)
      · rw [eM 117 n (by omega) (by omega)]; exact wf_ti hW n (by omega)
      · rw [eM 118 n (by omega) (by omega)]; exact wf_te hW n (by omega)
      · rw [eM 119 n (by omega) (by omega)]; exact wf_vs hW n (by omega)
      · rw [eM 120 _ (by omega) (by omega)]; exact wf_sy hW _ (by omega)
      · rw [eM 119 n (by omega) (by omega)] at hv
        rw [eM 120 _ (by omega) (by omega), show n * 3 + v = 3 * n + v by omega]; exact wf_s1 hW n v (by omega) hf2.2.2 hv
theorem iv_thing (h : INV K M) {f w a : Int} (ha : -2147483648 ≤ a ∧ a ≤ 2147483647) : INV (K + 1000) (d_thing M f w a).1 := by
  unfold d_thing
  split
  · exact INV_0 h 1
  · next hf =>
    split
    · exact INV_0 h 2
    · next hg =>
      have hf2 := Classical.not_not.mp hf
      have hg2 := Classical.not_not.mp hg
      obtain ⟨n, rfl⟩ : ∃ n : Nat, f = n := ⟨f.toNat, by omega⟩
      rw [nat_toNat] at hf2 ⊢
      have hW := h.1.1
      obtain ⟨M', hM⟩ : ∃ M', M' = dch (am_u (am_u (am_u M 100 0 0) 117 n (w + 1)) 118 n a) := ⟨_, rfl⟩
      show INV (K + 1000) (dch (am_u (am_u (am_u M 100 0 0) 117 n (w + 1)) 118 n a))
      rw [← hM]
      have eM : ∀ r i, ¬ (r = 100 ∧ (i = 0 ∨ i = 20)) → ¬ ((r = 117 ∨ r = 118) ∧ i = n) → M' r i = M r i := fun r i q q2 => by
        rw [hM]; unfold dch am_u; rw [if_neg (by omega), if_neg (by omega), if_neg (by omega), if_neg (by omega)]
      have e7 : M' 117 n = w + 1 := by rw [hM]; simp [dch, am_u]
      have e8 : M' 118 n = a := by rw [hM]; simp [dch, am_u]
      refine iv_fc h (j := n) (by omega) hf2.2.2 (by rw [hM]; simp [dch, am_u]) (fun r i q1 q2 q3 => eM r i q1 (by omega)) ?_ (by rw [e7]; omega) (by rw [e8]; exact ha) ?_ (fun v hv => ?_) (fun v hv => ?_)
      · rw [eM 116 n (by omega) (by omega)]; exact wf_pe hW n (by omega)
      · rw [eM 119 n (by omega) (by omega)]; exact wf_vs hW n (by omega)
      · rw [eM 120 _ (by omega) (by omega)]; exact wf_sy hW _ (by omega)
      · rw [eM 119 n (by omega) (by omega)] at hv
        rw [eM 120 _ (by omega) (by omega), show n * 3 + v = 3 * n + v by omega]; exact wf_s1 hW n v (by omega) hf2.2.2 hv
theorem iv_version (h : INV K M) (f m : Int) : INV (K + 1000) (d_version M f m).1 := by
  unfold d_version
  split
  · exact INV_0 h 1
  · next hf =>
    split
    · exact INV_0 h 2
    · next hg =>
      split
      · exact INV_0 h 3
      · next h3 =>
        have hf2 := Classical.not_not.mp hf
        have hg2 := Classical.not_not.mp hg
        obtain ⟨n, rfl⟩ : ∃ n : Nat, f = n := ⟨f.toNat, by omega⟩
        rw [nat_toNat] at hf2 h3 ⊢
        have hW := h.1.1
        have hvs := wf_vs hW n (by omega)
        obtain ⟨c, hc⟩ : ∃ c : Nat, M 119 n = c := ⟨(M 119 n).toNat, by omega⟩
        rw [hc] at h3 hvs ⊢
        rw [show ((n : Int) * 3 + (c : Int)).toNat = n * 3 + c by omega]
        obtain ⟨M', hM⟩ : ∃ M', M' = dch (am_u (am_u (am_u M 100 0 0) 120 (n * 3 + c) m) 119 n ((c : Int) + 1)) := ⟨_, rfl⟩
        show INV (K + 1000) (dch (am_u (am_u (am_u M 100 0 0) 120 (n * 3 + c) m) 119 n ((c : Int) + 1)))
        rw [← hM]
        have eM : ∀ r i, ¬ (r = 100 ∧ (i = 0 ∨ i = 20)) → ¬ (r = 119 ∧ i = n) → ¬ (r = 120 ∧ i = n * 3 + c) → M' r i = M r i := fun r i q q2 q3 => by
          rw [hM]; unfold dch am_u; rw [if_neg (by omega), if_neg (by omega), if_neg (by omega), if_neg (by omega)]
        have e9 : M' 119 n = (c : Int) + 1 := by rw [hM]; simp [dch, am_u]
        have e12 : M' 120 (n * 3 + c) = m := by rw [hM]; simp [dch, am_u]
        refine iv_fc h (j := n) (by omega) hf2.2.2 (by rw [hM]; simp [dch, am_u]) (fun r i q1 q2 q3 => eM r i q1 (by omega) (by omega)) ?_ ?_ ?_ (by rw [e9]; omega) (fun v hv => ?_) (fun v hv => ?_)
        · rw [eM 116 n (by omega) (by omega) (by omega)]; exact wf_pe hW n (by omega)
        · rw [eM 117 n (by omega) (by omega) (by omega)]; exact wf_ti hW n (by omega)
        · rw [eM 118 n (by omega) (by omega) (by omega)]; exact wf_te hW n (by omega)
        · by_cases e : v = c
          · rw [e, e12]; omega
          · rw [eM 120 _ (by omega) (by omega) (by omega)]; exact wf_sy hW _ (by omega)
        · rw [e9] at hv
          by_cases e : v = c
          · rw [e, e12]; omega
          · rw [eM 120 _ (by omega) (by omega) (by omega), show n * 3 + v = 3 * n + v by omega]; exact wf_s1 hW n v (by omega) hf2.2.2 (by omega)
end
