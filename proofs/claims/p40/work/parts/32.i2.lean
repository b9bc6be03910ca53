/-! THE INVARIANT: drop, the stage -/
theorem drop_at (M : Nat → Nat → Int) (n r i : Nat) : dch (goes (am_u M 100 0 0) n) r i = if r = 100 ∧ i = 20 then 0 else if r = 110 ∧ i = n then 0 else if r = 154 ∧ i = n then 0 else if r = 155 ∧ n * 6 ≤ i ∧ i < n * 6 + 6 then 0 else if r = 100 ∧ i = 50 ∧ M 100 50 = n then -1 else if r = 100 ∧ i = 52 ∧ M 100 50 = n then 0 else if r = 100 ∧ i = 0 then 0 else M r i := by
  show am_u (goes (am_u M 100 0 0) n) 100 20 0 r i = _
  have e3 : am_u M 100 0 0 100 50 = M 100 50 := am_u_ni _ _ _ _ (by omega)
  by_cases q : r = 100 ∧ i = 20
  · rw [if_pos q, q.1, q.2, am_u_eq]
  · rw [if_neg q, show am_u (goes (am_u M 100 0 0) n) 100 20 0 r i = goes (am_u M 100 0 0) n r i from if_neg q, goes_at, e3]; rfl
theorem drop_GN {M M' : Nat → Nat → Int} {n : Nat} (hn : n < 10) (hGI : GI M) (hM : M' = dch (goes (am_u M 100 0 0) n)) : GN M M' := by
  have eM : ∀ r i, M' r i = if r = 100 ∧ i = 20 then 0 else if r = 110 ∧ i = n then 0 else if r = 154 ∧ i = n then 0 else if r = 155 ∧ n * 6 ≤ i ∧ i < n * 6 + 6 then 0 else if r = 100 ∧ i = 50 ∧ M 100 50 = n then -1 else if r = 100 ∧ i = 52 ∧ M 100 50 = n then 0 else if r = 100 ∧ i = 0 then 0 else M r i := fun r i => by rw [hM]; exact drop_at M n r i
  have eMo : ∀ r i, r ≠ 110 → r ≠ 154 → r ≠ 155 → (r = 100 → i ≠ 0 ∧ i ≠ 20 ∧ i ≠ 50 ∧ i ≠ 52) → M' r i = M r i := fun r i q1 q2 q3 q4 => by
    rw [eM, if_neg (by omega), if_neg (by omega), if_neg (by omega), if_neg (by omega), if_neg (by omega), if_neg (by omega), if_neg (by omega)]
  have e110 : ∀ i, M' 110 i = if i = n then 0 else M 110 i := fun i => by
    rw [eM, if_neg (by omega)]
    by_cases q : i = n
    · rw [if_pos q, if_pos ⟨rfl, q⟩]
    · rw [if_neg q, if_neg (fun w => q w.2), if_neg (by omega), if_neg (by omega), if_neg (by omega), if_neg (by omega), if_neg (by omega)]
  refine ⟨fun i q1 q2 q3 q4 q5 q6 => eMo _ _ (by omega) (by omega) (by omega) (by omega), fun r i q1 q2 q3 q4 => eMo _ _ (by omega) (by omega) (by omega) (by omega), fun g hg => ⟨fun q => ?_, fun q => ?_⟩, fun ⟨g, q1, q2, q3⟩ => ?_, fun q => ?_⟩
  · rw [e110] at q
    by_cases w : g = n
    · subst w
      refine ⟨by rw [eM, if_neg (by omega), if_neg (by omega), if_pos ⟨rfl, rfl⟩], fun l hl => by rw [eM, if_neg (by omega), if_neg (by omega), if_neg (by omega), if_pos ⟨rfl, by omega⟩]⟩
    · rw [if_neg w] at q
      obtain ⟨w1, w2, w3⟩ := hGI g hg q
      refine ⟨?_, fun l hl => ?_⟩
      · rw [eM, if_neg (by omega), if_neg (by omega), if_neg (by omega), if_neg (by omega), if_neg (by omega), if_neg (by omega), if_neg (by omega)]; exact w1
      · rw [eM, if_neg (by omega), if_neg (by omega), if_neg (by omega), if_neg (by omega), if_neg (by omega), if_neg (by omega), if_neg (by omega)]; exact w2 l hl
  · rw [e110] at q
    have w : g ≠ n := fun w => by rw [if_pos w] at q; exact q rfl
    refine ⟨?_, fun l hl => ?_⟩
    · rw [eM, if_neg (by omega), if_neg (by omega), if_neg (by omega), if_neg (by omega), if_neg (by omega), if_neg (by omega), if_neg (by omega)]
    · rw [eM, if_neg (by omega), if_neg (by omega), if_neg (by omega), if_neg (by omega), if_neg (by omega), if_neg (by omega), if_neg (by omega)]
  · rw [e110] at q2
    have w : g = n := by
      rcases Classical.em (g = n) with w | w
      · exact w
      · rw [if_neg w] at q2; exact absurd q3 (hGI g q1 q2).2.2
    subst w
    exact ⟨by rw [eM, if_neg (by omega), if_neg (by omega), if_neg (by omega), if_neg (by omega), if_pos ⟨rfl, rfl, q3⟩], by rw [eM, if_neg (by omega), if_neg (by omega), if_neg (by omega), if_neg (by omega), if_neg (by omega), if_pos ⟨rfl, rfl, q3⟩]⟩
  · have w : M 100 50 ≠ n := fun w => q ⟨n, hn, by rw [e110, if_pos rfl], w⟩
    refine ⟨?_, ?_⟩
    · rw [eM, if_neg (by omega), if_neg (by omega), if_neg (by omega), if_neg (by omega), if_neg (fun w2 => w w2.2.2), if_neg (by omega), if_neg (by omega)]
    · rw [eM, if_neg (by omega), if_neg (by omega), if_neg (by omega), if_neg (by omega), if_neg (by omega), if_neg (fun w2 => w w2.2.2), if_neg (by omega)]
/-- facts are gone, the plan is forgotten -/
theorem INV_g {K K' : Int} {M M' : Nat → Nat → Int} (h : INV K M) (hK : K ≤ K') (hK0 : 0 ≤ K') (h1 : FI K' M') (h20 : M' 100 20 = 0) (hv : VOb M') (hG : GN M M') : INV K' M' := by
  obtain ⟨g1, ⟨⟨a1, a2, a3, a4, a5, a6, a7, a8⟩, ab⟩, g3, g4, g5, g6⟩ := h
  obtain ⟨n1, n2, n3, n4, n5⟩ := hG
  have hund : (M' 100 50 = -1 ∧ M' 100 52 = 0) ∨ (M' 100 50 = M 100 50 ∧ M' 100 52 = M 100 52 ∧ ∀ g : Nat, g < 10 → M' 110 g = 0 → M 100 50 ≠ g) := by
    rcases Classical.em (∃ g : Nat, g < 10 ∧ M' 110 g = 0 ∧ M 100 50 = g) with w | w
    · exact Or.inl (n4 w)
    · exact Or.inr ⟨(n5 w).1, (n5 w).2, fun g q1 q2 q3 => w ⟨g, q1, q2, q3⟩⟩
  have e47 := n1 47 (by omega) (by omega) (by omega) (by omega) (by omega) (by omega)
  have e48 := n1 48 (by omega) (by omega) (by omega) (by omega) (by omega) (by omega)
  have e51 := n1 51 (by omega) (by omega) (by omega) (by omega) (by omega) (by omega)
  refine ⟨h1, ⟨⟨by rw [e47]; exact a1, by rw [e48]; exact a2, ?_, by rw [e51]; exact a4, ?_, fun j q => by rw [n2 150 j (by omega) (by omega) (by omega) (by omega)]; exact a6 j q, fun j q => ?_, fun i q => ?_⟩, fun w => ?_⟩, KE_mo (KE_ag g3 (n1 29 (by omega) (by omega) (by omega) (by omega) (by omega) (by omega)) (fun r i q1 q2 => n2 r i (by omega) (by omega) (by omega) (by omega))) hK, hv, PI_0 h20, fun g hg w => ?_⟩
  · rcases hund with w | w
    · rw [w.1]; omega
    · rw [w.1]; exact a3
  · rcases hund with w | w
    · rw [w.2]; omega
    · rw [w.2.1]; omega
  · by_cases w : M' 110 j = 0
    · rw [((n3 j q).1 w).1]; omega
    · rw [((n3 j q).2 w).1]; exact a7 j q
  · have e : i = (i / 6) * 6 + i % 6 := by omega
    have hg : i / 6 < 10 := by omega
    have hl : i % 6 < 6 := by omega
    rw [e]
    by_cases w : M' 110 (i / 6) = 0
    · rw [((n3 _ hg).1 w).2 _ hl]; omega
    · rw [((n3 _ hg).2 w).2 _ hl, ← e]; exact a8 i q
  · rcases hund with u | u
    · exact absurd u.1 w
    · rw [u.1] at w; rw [e48, e51]; exact ab w
  · refine ⟨((n3 g hg).1 w).1, ((n3 g hg).1 w).2, fun q => ?_⟩
    rcases hund with u | u
    · omega
    · rw [u.1] at q; exact u.2.2 g hg w q
section
variable {K : Int} {M : Nat → Nat → Int}
theorem iv_drop (h : INV K M) (hK : 1000 ≤ K) (f : Int) : INV (K + 1000) (d_drop M f).1 := by
  unfold d_drop
  split
  · exact INV_0 h 1
  · next hf =>
    have hf2 := Classical.not_not.mp hf
    obtain ⟨n, rfl⟩ : ∃ n : Nat, f = n := ⟨f.toNat, by omega⟩
    rw [nat_toNat]
    obtain ⟨M', hM⟩ : ∃ M', M' = dch (goes (am_u M 100 0 0) n) := ⟨_, rfl⟩
    show INV (K + 1000) (dch (goes (am_u M 100 0 0) n))
    rw [← hM]
    have hn : n < 10 := by omega
    have hG := drop_GN hn h.2.2.2.2.2 hM
    have eMo : ∀ r i, r ≠ 110 → r ≠ 154 → r ≠ 155 → (r = 100 → i ≠ 0 ∧ i ≠ 20 ∧ i ≠ 50 ∧ i ≠ 52) → M' r i = M r i := fun r i q1 q2 q3 q4 => by
      rw [hM, drop_at, if_neg (by omega), if_neg (by omega), if_neg (by omega), if_neg (by omega), if_neg (by omega), if_neg (by omega), if_neg (by omega)]
    have e110 : ∀ i, M' 110 i = 0 ∨ M' 110 i = M 110 i := fun i => by
      by_cases q : i = n
      · left; rw [hM, drop_at, if_neg (by omega), if_pos ⟨rfl, q⟩]
      · right; rw [hM, drop_at, if_neg (by omega), if_neg (fun w => q w.2), if_neg (by omega), if_neg (by omega), if_neg (by omega), if_neg (by omega), if_neg (by omega)]
    refine INV_g h (by omega) (by omega) (FI_mo ⟨WFi_dr h.1.1 (eMo _ _ (by omega) (by omega) (by omega) (by omega)) (eMo _ _ (by omega) (by omega) (by omega) (by omega)) (fun r i q1 q2 q3 => eMo r i q3 (by omega) (by omega) (by omega)) (fun j _ => e110 j), fun j hj w => ?_⟩ (show K ≤ K + 1000 by omega)) (by rw [hM, drop_at, if_pos ⟨rfl, rfl⟩]) (by unfold VOb; rw [eMo 100 2 (by omega) (by omega) (by omega) (by omega), eMo 100 3 (by omega) (by omega) (by omega) (by omega)]; exact h.2.2.2.1) hG
    rw [eMo 111 j (by omega) (by omega) (by omega) (by omega), eMo 112 j (by omega) (by omega) (by omega) (by omega)]
    rcases e110 j with u | u
    · omega
    · exact h.1.2 j hj (by rw [← u]; exact w)
theorem iv_live (h : INV K M) (hK : 1000 ≤ K) : INV (K + 1000) (d_live M).1 := by
  show INV (K + 1000) (lvz M 10)
  obtain ⟨e1, ⟨e2, e3, e4, e5, e6⟩, e7⟩ := lvz_at M 10
  obtain ⟨a1, a2, a3, a4, a5, a6, a7, a8⟩ := h.2.1.1
  refine INV_s h (by omega) ⟨⟨Or.inr e3, Or.inl e4, by rw [e5]; omega, by rw [e1 _ _ (by omega) (by omega) (by omega)]; exact a4, by rw [e6]; omega, fun j q => Or.inl (e7 j q).1, fun j q => by rw [(e7 j q).2]; omega, fun i q => by rw [e1 _ _ (by omega) (by omega) (by omega)]; exact a8 i q⟩, fun w => absurd e5 w⟩ (fun i q1 q2 q3 q4 q5 q6 => e1 _ _ (by omega) (by omega) (by omega)) (fun r i q1 q2 q3 q4 => e1 _ _ (by omega) q2 q3) (fun g hg w => ?_)
  rw [e1 110 g (by omega) (by omega) (by omega)] at w
  obtain ⟨q1, q2, q3⟩ := h.2.2.2.2.2 g hg w
  exact ⟨(e7 g hg).2, fun l hl => by rw [e1 _ _ (by omega) (by omega) (by omega)]; exact q2 l hl, by rw [e5]; omega⟩
theorem iv_speak (h : INV K M) (hK : 0 ≤ K) {u : Int} (hu : u = 0 ∨ u = 1) : INV (K + 1000) (d_speak M u).1 := by
  unfold d_speak
  split
  · exact INV_0 h 1
  · obtain ⟨⟨a1, a2, a3, a4, a5, a6, a7, a8⟩, ab⟩ := h.2.1
    have hgi := h.2.2.2.2.2
    dsimp only
    split
    · next hc =>
      obtain ⟨n, hn⟩ : ∃ n : Nat, M 100 50 = n := ⟨(M 100 50).toNat, by omega⟩
      rw [hn, nat_toNat]
      obtain ⟨M', hM⟩ : ∃ M', M' = am_u (am_u (am_u (am_u (am_u M 100 0 0) 100 48 u) 154 n 3) 100 50 (-1)) 100 52 0 := ⟨_, rfl⟩
      rw [← hM]
      have eM : ∀ r i, ¬ (r = 100 ∧ (i = 0 ∨ i = 48 ∨ i = 50 ∨ i = 52)) → ¬ (r = 154 ∧ i = n) → M' r i = M r i := fun r i q q2 => by
        rw [hM]; unfold am_u; rw [if_neg (by omega), if_neg (by omega), if_neg (by omega), if_neg (by omega), if_neg (by omega)]
      have e48 : M' 100 48 = u := by rw [hM]; simp [am_u]
      have e50 : M' 100 50 = -1 := by rw [hM]; simp [am_u]
      have e52 : M' 100 52 = 0 := by rw [hM]; simp [am_u]
      have e154 : M' 154 n = 3 := by rw [hM]; simp [am_u]
      refine INV_s h (by omega) ⟨⟨by rw [eM 100 47 (by omega) (by omega)]; exact a1, by rw [e48]; exact hu, by rw [e50]; omega, by rw [eM 100 51 (by omega) (by omega)]; exact a4, by rw [e52]; omega, fun j q => by rw [eM 150 j (by omega) (by omega)]; exact a6 j q, fun j q => ?_, fun i q => by rw [eM 155 i (by omega) (by omega)]; exact a8 i q⟩, fun w => absurd e50 w⟩ (fun i q1 q2 q3 q4 q5 q6 => eM _ _ (by omega) (by omega)) (fun r i q1 q2 q3 q4 => eM _ _ (by omega) (by omega)) (fun g hg w => ?_)
      · by_cases e : j = n
        · rw [e, e154]; omega
        · rw [eM 154 j (by omega) (by omega)]; exact a7 j q
      · rw [eM 110 g (by omega) (by omega)] at w
        obtain ⟨q1, q2, q3⟩ := hgi g hg w
        exact ⟨by rw [eM 154 g (by omega) (by omega)]; exact q1, fun l hl => by rw [eM 155 _ (by omega) (by omega)]; exact q2 l hl, by rw [e50]; omega⟩
    · next hc =>
      obtain ⟨M', hM⟩ : ∃ M', M' = am_u (am_u M 100 0 0) 100 48 u := ⟨_, rfl⟩
      rw [← hM]
      have eM : ∀ r i, ¬ (r = 100 ∧ (i = 0 ∨ i = 48)) → M' r i = M r i := fun r i q => by
        rw [hM]; unfold am_u; rw [if_neg (by omega), if_neg (by omega)]
      have e48 : M' 100 48 = u := by rw [hM]; simp [am_u]
      refine INV_s h (by omega) ⟨⟨by rw [eM 100 47 (by omega)]; exact a1, by rw [e48]; exact hu, by rw [eM 100 50 (by omega)]; exact a3, by rw [eM 100 51 (by omega)]; exact a4, by rw [eM 100 52 (by omega)]; omega, fun j q => by rw [eM 150 j (by omega)]; exact a6 j q, fun j q => by rw [eM 154 j (by omega)]; exact a7 j q, fun i q => by rw [eM 155 i (by omega)]; exact a8 i q⟩, fun w => ?_⟩ (fun i q1 q2 q3 q4 q5 q6 => eM _ _ (by omega)) (fun r i q1 q2 q3 q4 => eM _ _ (by omega)) (fun g hg w => ?_)
      · rw [eM 100 50 (by omega)] at w
        rw [e48, eM 100 51 (by omega)]
        exact ⟨by rcases hu with v | v; exact v; exact absurd ⟨by omega, w⟩ hc, (ab w).2⟩
      · rw [eM 110 g (by omega)] at w
        obtain ⟨q1, q2, q3⟩ := hgi g hg w
        exact ⟨by rw [eM 154 g (by omega)]; exact q1, fun l hl => by rw [eM 155 _ (by omega)]; exact q2 l hl, by rw [eM 100 50 (by omega)]; exact q3⟩
theorem iv_call (h : INV K M) (w : Int) : INV (K + 1000) (d_call M w).1 := by
  unfold d_call
  split
  · exact INV_0 h 1
  · split
    · exact INV_0 h 2
    · next hg =>
      have hg2 := Classical.not_not.mp hg
      obtain ⟨⟨a1, a2, a3, a4, a5, a6, a7, a8⟩, ab⟩ := h.2.1
      have hgi := h.2.2.2.2.2
      obtain ⟨n, rfl⟩ : ∃ n : Nat, w = n := ⟨w.toNat, by omega⟩
      rw [nat_toNat]
      obtain ⟨M', hM⟩ : ∃ M', M' = am_u (am_u M 100 0 0) 150 n 1 := ⟨_, rfl⟩
      show INV (K + 1000) (am_u (am_u M 100 0 0) 150 n 1)
      rw [← hM]
      have eM : ∀ r i, ¬ (r = 100 ∧ i = 0) → ¬ (r = 150 ∧ i = n) → M' r i = M r i := fun r i q q2 => by
        rw [hM]; unfold am_u; rw [if_neg (by omega), if_neg (by omega)]
      have e15 : M' 150 n = 1 := by rw [hM]; simp [am_u]
      refine INV_s h (by omega) ⟨⟨by rw [eM 100 47 (by omega) (by omega)]; exact a1, by rw [eM 100 48 (by omega) (by omega)]; exact a2, by rw [eM 100 50 (by omega) (by omega)]; exact a3, by rw [eM 100 51 (by omega) (by omega)]; exact a4, by rw [eM 100 52 (by omega) (by omega)]; omega, fun j q => ?_, fun j q => by rw [eM 154 j (by omega) (by omega)]; exact a7 j q, fun i q => by rw [eM 155 i (by omega) (by omega)]; exact a8 i q⟩, by rw [eM 100 50 (by omega) (by omega), eM 100 48 (by omega) (by omega), eM 100 51 (by omega) (by omega)]; exact ab⟩ (fun i q1 q2 q3 q4 q5 q6 => eM _ _ (by omega) (by omega)) (fun r i q1 q2 q3 q4 => eM _ _ (by omega) (by omega)) (fun g hg w => ?_)
      · by_cases e : j = n
        · rw [e, e15]; omega
        · rw [eM 150 j (by omega) (by omega)]; exact a6 j q
      · rw [eM 110 g (by omega) (by omega)] at w
        obtain ⟨q1, q2, q3⟩ := hgi g hg w
        exact ⟨by rw [eM 154 g (by omega) (by omega)]; exact q1, fun l hl => by rw [eM 155 _ (by omega) (by omega)]; exact q2 l hl, by rw [eM 100 50 (by omega) (by omega)]; exact q3⟩
theorem iv_cue (h : INV K M) (f : Int) : INV (K + 1000) (d_cue M f).1 := by
  unfold d_cue
  split
  · exact INV_0 h 1
  · split
    · exact INV_0 h 2
    · next hf =>
      split
      · next hc =>
        have hf2 := Classical.not_not.mp hf
        obtain ⟨⟨a1, a2, a3, a4, a5, a6, a7, a8⟩, ab⟩ := h.2.1
        have hgi := h.2.2.2.2.2
        obtain ⟨n, rfl⟩ : ∃ n : Nat, f = n := ⟨f.toNat, by omega⟩
        rw [nat_toNat] at hf2 hc ⊢
        have hlp := lng_pos h.1.1 h.2.2.2.1.1 (j := n) (v := 0) (by omega) hf2.2.2 hc.1
        have hlb := lng_bd h.1.1 h.2.2.2.1.1 (f := n) (v := 0) (by omega)
        obtain ⟨M', hM⟩ : ∃ M', M' = am_u (am_u (am_u (am_u M 100 0 0) 100 50 (n : Int)) 100 51 (lng M n 0)) 154 n 1 := ⟨_, rfl⟩
        show INV (K + 1000) (am_u (am_u (am_u (am_u M 100 0 0) 100 50 (n : Int)) 100 51 (lng M n 0)) 154 n 1)
        rw [← hM]
        have eM : ∀ r i, ¬ (r = 100 ∧ (i = 0 ∨ i = 50 ∨ i = 51)) → ¬ (r = 154 ∧ i = n) → M' r i = M r i := fun r i q q2 => by
          rw [hM]; unfold am_u; rw [if_neg (by omega), if_neg (by omega), if_neg (by omega), if_neg (by omega)]
        have e50 : M' 100 50 = n := by rw [hM]; simp [am_u]
        have e51 : M' 100 51 = lng M n 0 := by rw [hM]; simp [am_u]
        have e154 : M' 154 n = 1 := by rw [hM]; simp [am_u]
        refine INV_s h (by omega) ⟨⟨by rw [eM 100 47 (by omega) (by omega)]; exact a1, by rw [eM 100 48 (by omega) (by omega)]; exact a2, by rw [e50]; omega, by rw [e51]; exact hlb, by rw [eM 100 52 (by omega) (by omega)]; omega, fun j q => by rw [eM 150 j (by omega) (by omega)]; exact a6 j q, fun j q => ?_, fun i q => by rw [eM 155 i (by omega) (by omega)]; exact a8 i q⟩, fun _ => by rw [eM 100 48 (by omega) (by omega), e51]; exact ⟨hc.2.2.1, hlp⟩⟩ (fun i q1 q2 q3 q4 q5 q6 => eM _ _ (by omega) (by omega)) (fun r i q1 q2 q3 q4 => eM _ _ (by omega) (by omega)) (fun g hg w => ?_)
        · by_cases e : j = n
          · rw [e, e154]; omega
          · rw [eM 154 j (by omega) (by omega)]; exact a7 j q
        · rw [eM 110 g (by omega) (by omega)] at w
          have hne : g ≠ n := fun e => by rw [e] at w; omega
          obtain ⟨q1, q2, q3⟩ := hgi g hg w
          exact ⟨by rw [eM 154 g (by omega) (by omega)]; exact q1, fun l hl => by rw [eM 155 _ (by omega) (by omega)]; exact q2 l hl, by rw [e50]; omega⟩
      · exact INV_0 h 3
theorem tkn_d {M : Nat → Nat → Int} (hu : 0 ≤ M 100 50) (hs : M 100 48 = 0) (hl : 1 ≤ M 100 51) : ∀ n : Nat, M 100 51 ≤ n → (tkn M n).1 100 51 = 0 := by
  intro n; induction n with
  | zero => intro h; omega
  | succ n ih =>
    intro h
    simp only [tkn]
    by_cases w : M 100 51 ≤ n
    · obtain ⟨c1, c2, c3, c4, c5, c6⟩ := tkn_c hu hs hl n w
      unfold tks
      rw [if_neg (fun q => q.2 c3)]
      exact (am_u_ni (tkn M n).1 100 100 (i := 52) (j := 51) ((tkn M n).1 100 52 + 1) (by omega)).trans (ih w)
    · obtain ⟨c1, c2, c3, c4, c5⟩ := tkn_b (by omega) hs n (by omega)
      unfold tks
      rw [c3, c5 100 50 (by omega), c5 100 48 (by omega), if_pos ⟨hs, by omega⟩, if_pos (by omega)]
      simp [am_u]; omega
theorem iv_tick (h : INV K M) (m : Int) : INV (K + 1000) (d_tick M m).1 := by
  unfold d_tick
  split
  · exact INV_0 h 1
  · split
    · exact INV_0 h 2
    · next hg =>
      have hg2 := Classical.not_not.mp hg
      obtain ⟨⟨a1, a2, a3, a4, a5, a6, a7, a8⟩, ab⟩ := h.2.1
      have hgi := h.2.2.2.2.2
      obtain ⟨n, rfl⟩ : ∃ n : Nat, m = n := ⟨m.toNat, by omega⟩
      rw [nat_toNat]
      by_cases hu : M 100 50 = -1
      · obtain ⟨c1, c2, c3, c4⟩ := tkn_a hu n
        generalize (tkn M n).1 = M' at *
        have eM : ∀ r i, ¬ (r = 100 ∧ (i = 0 ∨ i = 52)) → M' r i = M r i := c4
        refine INV_s h (by omega) ⟨⟨by rw [eM 100 47 (by omega)]; exact a1, by rw [eM 100 48 (by omega)]; exact a2, by rw [eM 100 50 (by omega)]; exact a3, by rw [eM 100 51 (by omega)]; exact a4, by rw [c2]; omega, fun j q => by rw [eM 150 j (by omega)]; exact a6 j q, fun j q => by rw [eM 154 j (by omega)]; exact a7 j q, fun i q => by rw [eM 155 i (by omega)]; exact a8 i q⟩, by rw [eM 100 50 (by omega), eM 100 48 (by omega), eM 100 51 (by omega)]; exact ab⟩ (fun i q1 q2 q3 q4 q5 q6 => eM _ _ (by omega)) (fun r i q1 q2 q3 q4 => eM _ _ (by omega)) (fun g hg w => ?_)
        rw [eM 110 g (by omega)] at w
        obtain ⟨q1, q2, q3⟩ := hgi g hg w
        exact ⟨by rw [eM 154 g (by omega)]; exact q1, fun l hl => by rw [eM 155 _ (by omega)]; exact q2 l hl, by rw [eM 100 50 (by omega)]; exact q3⟩
      · obtain ⟨b1, b2⟩ := ab hu
        by_cases hl : (n : Int) < M 100 51
        · obtain ⟨c1, c2, c3, c4, c5⟩ := tkn_b hu b1 n hl
          generalize (tkn M n).1 = M' at *
          have eM : ∀ r i, ¬ (r = 100 ∧ (i = 0 ∨ i = 51 ∨ i = 52)) → M' r i = M r i := c5
          refine INV_s h (by omega) ⟨⟨by rw [eM 100 47 (by omega)]; exact a1, by rw [eM 100 48 (by omega)]; exact a2, by rw [eM 100 50 (by omega)]; exact a3, by rw [c3]; omega, by rw [c2]; omega, fun j q => by rw [eM 150 j (by omega)]; exact a6 j q, fun j q => by rw [eM 154 j (by omega)]; exact a7 j q, fun i q => by rw [eM 155 i (by omega)]; exact a8 i q⟩, fun _ => by rw [eM 100 48 (by omega), c3]; omega⟩ (fun i q1 q2 q3 q4 q5 q6 => eM _ _ (by omega)) (fun r i q1 q2 q3 q4 => eM _ _ (by omega)) (fun g hg w => ?_)
          rw [eM 110 g (by omega)] at w
          obtain ⟨q1, q2, q3⟩ := hgi g hg w
          exact ⟨by rw [eM 154 g (by omega)]; exact q1, fun l hl => by rw [eM 155 _ (by omega)]; exact q2 l hl, by rw [eM 100 50 (by omega)]; exact q3⟩
        · obtain ⟨c1, c2, c3, c4, c5, c6⟩ := tkn_c (by omega) b1 b2 n (by omega)
          have c7 := tkn_d (by omega) b1 b2 n (by omega)
          generalize (tkn M n).1 = M' at *
          have eM : ∀ r i, ¬ (r = 100 ∧ (i = 0 ∨ i = 50 ∨ i = 51 ∨ i = 52)) → ¬ (r = 154 ∧ i = (M 100 50).toNat) → M' r i = M r i := c6
          refine INV_s h (by omega) ⟨⟨by rw [eM 100 47 (by omega) (by omega)]; exact a1, by rw [eM 100 48 (by omega) (by omega)]; exact a2, by rw [c3]; omega, by rw [c7]; omega, by rw [c2]; omega, fun j q => by rw [eM 150 j (by omega) (by omega)]; exact a6 j q, fun j q => ?_, fun i q => by rw [eM 155 i (by omega) (by omega)]; exact a8 i q⟩, fun w => absurd c3 w⟩ (fun i q1 q2 q3 q4 q5 q6 => eM _ _ (by omega) (by omega)) (fun r i q1 q2 q3 q4 => eM _ _ (by omega) (by omega)) (fun g hg w => ?_)
          · by_cases e : j = (M 100 50).toNat
            · rw [e, c5]; omega
            · rw [eM 154 j (by omega) (by omega)]; exact a7 j q
          · rw [eM 110 g (by omega) (by omega)] at w
            obtain ⟨q1, q2, q3⟩ := hgi g hg w
            exact ⟨by rw [eM 154 g (by omega) (by omega)]; exact q1, fun l hl => by rw [eM 155 _ (by omega) (by omega)]; exact q2 l hl, by rw [c3]; omega⟩
theorem iv_mark (h : INV K M) (f l m : Int) : INV (K + 1000) (d_mark M f l m).1 := by
  unfold d_mark
  split
  · exact INV_0 h 1
  · next hf =>
    split
    · exact INV_0 h 2
    · next hg =>
      have hf2 := Classical.not_not.mp hf
      have hg2 := Classical.not_not.mp hg
      obtain ⟨⟨a1, a2, a3, a4, a5, a6, a7, a8⟩, ab⟩ := h.2.1
      have hgi := h.2.2.2.2.2
      obtain ⟨n, rfl⟩ : ∃ n : Nat, f = n := ⟨f.toNat, by omega⟩
      rw [nat_toNat] at hf2
      obtain ⟨p, hp⟩ : ∃ p : Nat, p = ((n : Int) * 6 + l).toNat := ⟨_, rfl⟩
      rw [← hp]
      obtain ⟨M', hM⟩ : ∃ M', M' = am_u (am_u M 100 0 0) 155 p (m + 1) := ⟨_, rfl⟩
      show INV (K + 1000) (am_u (am_u M 100 0 0) 155 p (m + 1))
      rw [← hM]
      have eM : ∀ r i, ¬ (r = 100 ∧ i = 0) → ¬ (r = 155 ∧ i = p) → M' r i = M r i := fun r i q q2 => by
        rw [hM]; unfold am_u; rw [if_neg (by omega), if_neg (by omega)]
      have e15 : M' 155 p = m + 1 := by rw [hM]; simp [am_u]
      refine INV_s h (by omega) ⟨⟨by rw [eM 100 47 (by omega) (by omega)]; exact a1, by rw [eM 100 48 (by omega) (by omega)]; exact a2, by rw [eM 100 50 (by omega) (by omega)]; exact a3, by rw [eM 100 51 (by omega) (by omega)]; exact a4, by rw [eM 100 52 (by omega) (by omega)]; omega, fun j q => by rw [eM 150 j (by omega) (by omega)]; exact a6 j q, fun j q => by rw [eM 154 j (by omega) (by omega)]; exact a7 j q, fun i q => ?_⟩, by rw [eM 100 50 (by omega) (by omega), eM 100 48 (by omega) (by omega), eM 100 51 (by omega) (by omega)]; exact ab⟩ (fun i q1 q2 q3 q4 q5 q6 => eM _ _ (by omega) (by omega)) (fun r i q1 q2 q3 q4 => eM _ _ (by omega) (by omega)) (fun g hg w => ?_)
      · by_cases e : i = p
        · rw [e, e15]; omega
        · rw [eM 155 i (by omega) (by omega)]; exact a8 i q
      · rw [eM 110 g (by omega) (by omega)] at w
        have hne : g ≠ n := fun e => by rw [e] at w; omega
        obtain ⟨q1, q2, q3⟩ := hgi g hg w
        exact ⟨by rw [eM 154 g (by omega) (by omega)]; exact q1, fun l2 hl => by rw [eM 155 _ (by omega) (by omega)]; exact q2 l2 hl, by rw [eM 100 50 (by omega) (by omega)]; exact q3⟩
end
