/-! THE INVARIANT: cut, insert, edition, use, plan -/
theorem mpd_mo {t t' a m : Int} (h : 1 ≤ m) (ht : t ≤ t') : mpd t a m ≤ mpd t' a m := by
  unfold mpd
  repeat' split
  all_goals omega
theorem mpd_le {t a m : Int} (ha : 0 ≤ a) (hm : 1 ≤ m) (ht : 0 ≤ t) : 0 ≤ mpd t a m ∧ mpd t a m ≤ t := by
  unfold mpd
  repeat' split
  all_goals omega
theorem mpd_tk {t a m T : Int} (hm : 1 ≤ m) (h : a + m ≤ T) (ht : t ≤ T) : mpd t a m ≤ T - m := by
  unfold mpd
  repeat' split
  all_goals omega
theorem ipd_mo {t t' a m : Int} (h : 1 ≤ m) (ht : t ≤ t') : ipd t a m ≤ ipd t' a m := by
  unfold ipd
  repeat' split
  all_goals omega
section
variable {K : Int} {M M' : Nat → Nat → Int}
theorem iv_cut (h : INV K M) (hK : 1000 ≤ K) {a m : Int} (hg : 0 ≤ a ∧ 1 ≤ m ∧ a + m ≤ M 100 1 ∧ m < M 100 1) (hC : CUT M a m M') : INV (K + 1000) M' := by
  have hG := CUT_GN h.2.2.2.2.2 hC
  have h110 := CUT_110 hC
  have hC' := hC
  obtain ⟨c1, c2, c3, c4, c5, c6, c7, c8⟩ := hC
  obtain ⟨⟨w1, w2, w3, w4, w5, w6, w7, w8, w9, w10, w11, w12, w13, w14, w15, w16, w17, w18⟩, hb⟩ := h.1
  have hth : ∀ j, j < 10 → M' 110 j = 1 → M 110 j = 1 := fun j hj w => by
    rw [h110 j hj] at w
    unfold cuN at w
    split at w
    · omega
    · exact w
  have hso : ∀ k : Nat, (k : Int) < M' 100 4 → ∃ i : Nat, (i : Int) < M 100 4 ∧ M' 106 k = M 106 i ∧ M' 107 k = mpd (M 107 i) a m ∧ M' 108 k = mpd (M 108 i) a m ∧ mpd (M 107 i) a m < mpd (M 108 i) a m := fun k hk => by
    have hmem : tri M' k ∈ sls M' := by
      unfold sls sl
      exact List.mem_map.mpr ⟨k, List.mem_range.mpr (by omega), rfl⟩
    rw [c4.2, List.mem_filterMap] at hmem
    obtain ⟨x, hx, hx2⟩ := hmem
    unfold sls sl at hx
    obtain ⟨i, hi, rfl⟩ := List.mem_map.mp hx
    rw [List.mem_range] at hi
    unfold cutS at hx2
    split at hx2
    · next hlt =>
      have e := Option.some.inj hx2
      unfold tri at e hlt
      simp only [Prod.mk.injEq] at e
      exact ⟨i, by omega, e.1.symm, e.2.1.symm, e.2.2.symm, hlt⟩
    · cases hx2
  refine INV_g h (by omega) (by omega) ⟨⟨by rw [c3.2.1]; omega, by omega, fun k hk => ?_, fun k hk => ?_, fun j q => ?_, fun j q => ?_, fun j q => ?_, fun j q => ?_, fun j q q2 => ?_, fun j q => by rw [c1 113 j (by omega) (by omega) (by omega) (by omega)]; exact w10 j q, fun j q => by rw [c1 114 j (by omega) (by omega) (by omega) (by omega)]; exact w11 j q, fun j q => by rw [c1 115 j (by omega) (by omega) (by omega) (by omega)]; exact w12 j q, fun j q => by rw [c1 116 j (by omega) (by omega) (by omega) (by omega)]; exact w13 j q, fun j q => by rw [c1 117 j (by omega) (by omega) (by omega) (by omega)]; exact w14 j q, fun j q => by rw [c1 118 j (by omega) (by omega) (by omega) (by omega)]; exact w15 j q, fun j q => by rw [c1 119 j (by omega) (by omega) (by omega) (by omega)]; exact w16 j q, fun i q => by rw [c1 120 i (by omega) (by omega) (by omega) (by omega)]; exact w17 i q, fun j v q q2 q3 => ?_⟩, fun j q q2 => ?_⟩ c3.2.2 ?_ hG
  · obtain ⟨i, i1, i2, i3, i4, i5⟩ := hso k hk
    have := w3 i i1
    have h1 := mpd_le (t := M 107 i) (a := a) (m := m) hg.1 hg.2.1 (by omega)
    have h2 := mpd_tk (t := M 108 i) (a := a) (m := m) hg.2.1 hg.2.2.1 (by omega)
    rw [i3, i4, c3.2.1]; omega
  · obtain ⟨i, i1, i2, i3, i4, i5⟩ := hso k hk
    rw [i2]; exact w4 i i1
  · rw [c8 j q]
    have := w5 j q
    split
    · omega
    · have := mpd_le (t := M 109 j - 1) (a := a) (m := m) hg.1 hg.2.1 (by omega); omega
  · rw [h110 j q]; unfold cuN; split
    · exact Or.inl rfl
    · exact w6 j q
  · have := w7 j q
    have := mpd_le (t := M 111 j) (a := a) (m := m) hg.1 hg.2.1 (by omega)
    rw [(c5 j q).2.2.1]; omega
  · have := w8 j q
    have := mpd_le (t := M 112 j) (a := a) (m := m) hg.1 hg.2.1 (by omega)
    rw [(c5 j q).2.2.2]; omega
  · have := w9 j q (hth j q q2)
    rw [(c5 j q).2.2.1, (c5 j q).2.2.2, c3.2.1]
    exact ⟨mpd_tk hg.2.1 hg.2.2.1 this.1, mpd_tk hg.2.1 hg.2.2.1 this.2⟩
  · rw [c1 119 j (by omega) (by omega) (by omega) (by omega)] at q3
    rw [c1 120 _ (by omega) (by omega) (by omega) (by omega)]; exact w18 j v q (hth j q q2) q3
  · rw [(c5 j q).2.2.1, (c5 j q).2.2.2]; exact mpd_mo hg.2.1 (hb j q (hth j q q2))
  · unfold VOb; rw [c2 2 (by omega) (by omega) (by omega) (by omega) (by omega) (by omega), c2 3 (by omega) (by omega) (by omega) (by omega) (by omega) (by omega)]; exact h.2.2.2.1
theorem iv_insert (h : INV K M) (hK : 1000 ≤ K) {a m : Int} (hg : (0 ≤ a ∧ a ≤ M 100 1) ∧ 1 ≤ m ∧ M 100 1 + m ≤ 900) (hC : INS M a m M') : INV (K + 1000) M' := by
  obtain ⟨c1, c2, c3, c4, c5, c6⟩ := hC
  obtain ⟨⟨w1, w2, w3, w4, w5, w6, w7, w8, w9, w10, w11, w12, w13, w14, w15, w16, w17, w18⟩, hb⟩ := h.1
  have em (r j : Nat) (q1 : 113 ≤ r) : M' r j = M r j := c1 r j (by omega) (by omega) (by omega) (by omega)
  have e110 (j : Nat) : M' 110 j = M 110 j := c1 110 j (by omega) (by omega) (by omega) (by omega)
  have e4 : M' 100 4 = M 100 4 := c2 4 (by omega) (by omega) (by omega)
  refine INV_f h (by omega) ⟨⟨by rw [c3.2.1]; omega, by rw [e4]; exact w2, fun k hk => ?_, fun k hk => ?_, fun j q => ?_, fun j q => by rw [e110]; exact w6 j q, fun j q => ?_, fun j q => ?_, fun j q q2 => ?_, fun j q => by rw [em 113 j (by omega)]; exact w10 j q, fun j q => by rw [em 114 j (by omega)]; exact w11 j q, fun j q => by rw [em 115 j (by omega)]; exact w12 j q, fun j q => by rw [em 116 j (by omega)]; exact w13 j q, fun j q => by rw [em 117 j (by omega)]; exact w14 j q, fun j q => by rw [em 118 j (by omega)]; exact w15 j q, fun j q => by rw [em 119 j (by omega)]; exact w16 j q, fun i q => by rw [em 120 i (by omega)]; exact w17 i q, fun j v q => by rw [e110, em 119 j (by omega), em 120 _ (by omega)]; exact w18 j v q⟩, fun j q q2 => ?_⟩ c3.2.2 (by unfold VOb; rw [c2 2 (by omega) (by omega) (by omega), c2 3 (by omega) (by omega) (by omega)]; exact h.2.2.2.1) (fun i q => c2 i (by omega) (by omega) (by omega)) (fun r i q => em r i (by omega)) (fun g _ w => by rw [e110] at w; exact w)
  · rw [e4] at hk
    obtain ⟨q1, q2⟩ := c4 k hk
    have := w3 k hk
    have h1 := ipd_bd (t := M 107 k) (a := a) (m := m) ⟨hg.1.1, hg.2.1⟩
    rw [q1, q2, c3.2.1]
    unfold ipd at h1 ⊢
    repeat' split
    all_goals omega
  · rw [e4] at hk; rw [c1 106 k (by omega) (by omega) (by omega) (by omega)]; exact w4 k hk
  · have := w5 j q
    rw [c6 j q]; split <;> omega
  · have := w7 j q
    have := ipd_bd (t := M 111 j) (a := a) (m := m) ⟨hg.1.1, hg.2.1⟩
    rw [(c5 j q).1]; omega
  · have := w8 j q
    have := ipd_bd (t := M 112 j) (a := a) (m := m) ⟨hg.1.1, hg.2.1⟩
    rw [(c5 j q).2]; omega
  · rw [e110] at q2
    have := w9 j q q2
    have h1 := ipd_bd (t := M 111 j) (a := a) (m := m) ⟨hg.1.1, hg.2.1⟩
    have h2 := ipd_bd (t := M 112 j) (a := a) (m := m) ⟨hg.1.1, hg.2.1⟩
    rw [(c5 j q).1, (c5 j q).2, c3.2.1]; omega
  · rw [e110] at q2
    rw [(c5 j q).1, (c5 j q).2]; exact ipd_mo hg.2.1 (hb j q q2)
theorem iv_edition (h : INV K M) {e : Nat} (he : e < 4) (h29 : M 100 29 = e) (hC : EDI M e M') : INV (K + 1000) M' := by
  obtain ⟨d1, d2, d3, d4, d5, d6, d7, d8, d9, d10, d11⟩ := hC
  obtain ⟨g1, g2, g3, g4, g5, g6⟩ := h
  have hfa : FA M M' := ⟨⟨d2 _ (by omega) (by omega), d2 _ (by omega) (by omega), d2 _ (by omega) (by omega), d2 _ (by omega) (by omega)⟩, fun a w1 w2 j => d1 a j (by omega) (by omega)⟩
  refine ⟨FI_mo (FI_fa g1 hfa) (by omega), SO_mo (SO_ag g2 ⟨d2 _ (by omega) (by omega), d2 _ (by omega) (by omega), d2 _ (by omega) (by omega), d2 _ (by omega) (by omega), d2 _ (by omega) (by omega)⟩ (fun r j q => d1 r j (by omega) (by omega))) (by omega), ⟨by rw [d3.2]; omega, fun e' he' => ?_⟩, ?_, PI_ag g5 hfa ⟨d2 _ (by omega) (by omega), d2 _ (by omega) (by omega), d2 _ (by omega) (by omega)⟩ (fun r i q1 q2 => d1 r i (by omega) (by omega)), fun g hg w => ?_⟩
  · rw [d3.2] at he'
    by_cases w : e' = e
    · subst w
      refine FI_mo (FI_ag g1 (by rw [kpF_1]; exact d4.1) (by rw [kpF_4]; exact d4.2) (fun k hk => ?_) (fun r j q1 q2 q3 => ?_) (fun i hi => ?_)) (show K ≤ K + 1000 by omega)
      · rw [kpF_so _ _ 106 _ (by omega), kpF_so _ _ 107 _ (by omega), kpF_so _ _ 108 _ (by omega)]; exact d6 k hk
      · rw [kpF_fc _ _ r j ⟨q1, q2⟩, d8 _ _ (by omega) (by omega) q3]; congr 1
      · rw [kpF_sy]; exact d10 i hi
    · have hk := g3.2 e' (by omega)
      have hn := wf_n hk.1
      rw [kpF_4] at hn
      refine FI_mo (FI_ag hk (by rw [kpF_1, kpF_1]; exact (d5 e' (by omega)).1) (by rw [kpF_4, kpF_4]; exact (d5 e' (by omega)).2) (fun k hk => ?_) (fun r j q1 q2 q3 => ?_) (fun i hi => ?_)) (show K ≤ K + 1000 by omega)
      · rw [kpF_4] at hk
        rw [kpF_so _ _ 106 _ (by omega), kpF_so _ _ 107 _ (by omega), kpF_so _ _ 108 _ (by omega), kpF_so _ _ 106 _ (by omega), kpF_so _ _ 107 _ (by omega), kpF_so _ _ 108 _ (by omega)]
        exact ⟨d7 _ _ (by omega) (by omega) (by omega), d7 _ _ (by omega) (by omega) (by omega), d7 _ _ (by omega) (by omega) (by omega)⟩
      · rw [kpF_fc _ _ r j ⟨q1, q2⟩, kpF_fc _ _ r j ⟨q1, q2⟩]; exact d9 _ _ (by omega) (by omega) (by omega)
      · rw [kpF_sy, kpF_sy]; exact d11 _ (by omega)
  · unfold VOb; rw [hfa.1.2.1, hfa.1.2.2.1]; exact g4
  · rw [d1 110 g (by omega) (by omega)] at w
    obtain ⟨q1, q2, q3⟩ := g6 g hg w
    exact ⟨by rw [d1 154 g (by omega) (by omega)]; exact q1, fun l hl => by rw [d1 155 _ (by omega) (by omega)]; exact q2 l hl, by rw [d2 50 (by omega) (by omega)]; exact q3⟩
theorem iv_use (h : INV K M) (hK : 1000 ≤ K) {e : Nat} (he : (e : Int) < M 100 29) (hC : USE M e M') : INV (K + 1000) M' := by
  have hG := USE_GN hC
  obtain ⟨u1, u2, u3, u4, u5, u6, u7, u8, u9⟩ := hC
  refine INV_g h (by omega) (by omega) (FI_mo (FI_ag (h.2.2.1.2 e he) (by rw [kpF_1]; exact u3.2.1) (by rw [kpF_4]; exact u3.2.2.1) (fun k hk => ?_) (fun r j q1 q2 q3 => ?_) (fun i hi => ?_)) (show K ≤ K + 1000 by omega)) u3.2.2.2 ?_ hG
  · rw [kpF_4] at hk
    rw [kpF_so _ _ 106 _ (by omega), kpF_so _ _ 107 _ (by omega), kpF_so _ _ 108 _ (by omega)]; exact u4 k hk
  · rw [kpF_fc _ _ r j ⟨q1, q2⟩]; exact u5 r j q1 q2 q3
  · rw [kpF_sy]; exact u6 i hi
  · unfold VOb; rw [u2 2 (by omega) (by omega) (by omega) (by omega) (by omega) (by omega), u2 3 (by omega) (by omega) (by omega) (by omega) (by omega) (by omega)]; exact h.2.2.2.1
theorem iv_plan (h : INV K M) (hC : PLN M M') : INV (K + 1000) M' := by
  obtain ⟨p1, p2, p3, p4, p5, p6⟩ := hC
  obtain ⟨g1, g2, g3, g4, g5, g6⟩ := h
  have hfa := EXq_fa p1
  refine ⟨FI_mo (FI_fa g1 hfa) (by omega), SO_mo (SO_ag g2 ⟨p1 _ _ (by omega) (by omega), p1 _ _ (by omega) (by omega), p1 _ _ (by omega) (by omega), p1 _ _ (by omega) (by omega), p1 _ _ (by omega) (by omega)⟩ (fun r j q => p1 r j (by omega) (by omega))) (by omega), KE_mo (KE_ag g3 (p1 _ _ (by omega) (by omega)) (fun r i q1 q2 => p1 r i (by omega) (by omega))) (by omega), ?_, ⟨Or.inr p3, fun _ => ?_⟩, fun g hg w => ?_⟩
  · unfold VOb; rw [hfa.1.2.1, hfa.1.2.2.1]; exact g4
  · rw [BS_fa hfa]
    refine ⟨p4, p5, fun k hk => ?_⟩
    rw [ord_fa hfa, sta_fa hfa, chs_fa hfa]; exact p6 k hk
  · rw [p1 110 g (by omega) (by omega)] at w
    obtain ⟨q1, q2, q3⟩ := g6 g hg w
    exact ⟨by rw [p1 154 g (by omega) (by omega)]; exact q1, fun l hl => by rw [p1 155 _ (by omega) (by omega)]; exact q2 l hl, by rw [p1 100 50 (by omega) (by omega)]; exact q3⟩
theorem iv_ex3 (h : INV K M) {c : Int} (hC : EX3 (am_u M 100 0 c) M') : INV (K + 1000) M' := INV_mo (INV_e h (fun r i q1 q2 q3 q4 => by rw [hC r i q2 q3 q4]; exact if_neg q1)) (by omega)
theorem iv_new (h : NEW M) : INV 10000 M := by
  obtain ⟨⟨m0, m1, m2, m3, m4, m20, m29, m47, m48, m50, m51, m52⟩, mr, m150, m154, m155⟩ := h
  refine ⟨⟨⟨by omega, by omega, fun k hk => by omega, fun k hk => by omega, fun j _ => by rw [mr 109 j (by omega) (by omega)]; omega, fun j _ => by rw [mr 110 j (by omega) (by omega)]; exact Or.inl rfl, fun j _ => by rw [mr 111 j (by omega) (by omega)]; omega, fun j _ => by rw [mr 112 j (by omega) (by omega)]; omega, fun j _ w => by rw [mr 110 j (by omega) (by omega)] at w; omega, fun j _ => by rw [mr 113 j (by omega) (by omega)]; omega, fun j _ => by rw [mr 114 j (by omega) (by omega)]; omega, fun j _ => by rw [mr 115 j (by omega) (by omega)]; exact Or.inl rfl, fun j _ => by rw [mr 116 j (by omega) (by omega)]; omega, fun j _ => by rw [mr 117 j (by omega) (by omega)]; omega, fun j _ => by rw [mr 118 j (by omega) (by omega)]; omega, fun j _ => by rw [mr 119 j (by omega) (by omega)]; omega, fun i _ => by rw [mr 120 i (by omega) (by omega)]; omega, fun j v _ w => by rw [mr 110 j (by omega) (by omega)] at w; omega⟩, fun j _ w => by rw [mr 110 j (by omega) (by omega)] at w; omega⟩, ⟨⟨by omega, by omega, by omega, by omega, by omega, fun j _ => Or.inl (m150 j), fun j _ => by rw [m154]; omega, fun i _ => by rw [m155]; omega⟩, fun w => absurd m50 w⟩, ⟨by omega, fun e he => by omega⟩, ⟨by omega, by omega⟩, PI_0 m20, fun g _ _ => ⟨m154 g, fun l _ => m155 _, by omega⟩⟩
end
