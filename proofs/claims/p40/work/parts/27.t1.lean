/-! THE CLASS: cut, insert: what is left of a film -/
/-- a sound's numbers -/
def SV (I : am_I) (r : Nat) (x : Int × Int × Int) (B : Nat) : Prop := (I r 0 = iI x.1 ∧ I r 1 = iI x.2.1 ∧ I r 2 = iI x.2.2) ∧ 4096 ≤ r ∧ r % 4096 = 1 ∧ r < B
/-- the film's list of sounds, at work -/
def DS (I0 : am_I) (P0 : am_P) (B0 arr c : Nat) (rs : Nat → Nat) (T : Nat → Int × Int × Int) (I' : am_I) (P' : am_P) (B' : Nat) : Prop :=
  LH 12 arr c rs I' P' B' ∧ (∀ k, k < c → SV I' (rs k) (T k) B') ∧ B0 ≤ B' ∧ (∀ a j, (a < B0 ∨ a % 4096 ≥ 3900) → a ≠ 12 → I' a j = I0 a j) ∧ ∀ a j, (a < B0 ∨ a % 4096 ≥ 3900) → a ≠ arr → P' a j = P0 a j
/-- a place changed -/
def upw {α : Type} (f : Nat → α) (i : Nat) (x : α) : Nat → α := fun k => if k = i then x else f k
theorem upw_eq {α : Type} (f : Nat → α) (i : Nat) (x : α) : upw f i x i = x := if_pos rfl
theorem upw_ne {α : Type} (f : Nat → α) {i k : Nat} (x : α) (h : k ≠ i) : upw f i x k = f k := if_neg h
theorem DS_set {I0 : am_I} {P0 : am_P} {B0 arr c : Nat} {rs : Nat → Nat} {T : Nat → Int × Int × Int} {I' : am_I} {P' : am_P} {B' : Nat} (h : DS I0 P0 B0 arr c rs T I' P' B') (hB : 161 ≤ B0) (ha : arr = 9 ∨ (4096 ≤ arr ∧ arr % 4096 ≠ 1 ∧ arr < B0)) {i r : Nat} (hi : i < c) (hr : B' ≤ r ∧ 4096 ≤ r ∧ r % 4096 = 1) (x : Int × Int × Int) :
    DS I0 P0 B0 arr c (upw rs i r) (upw T i x) (am_u (am_u (am_u (am_c I' r 0) r 0 (iI x.1)) r 1 (iI x.2.1)) r 2 (iI x.2.2)) (am_u (am_c P' r none) arr i (some r)) (r + 1) := by
  obtain ⟨h1, h2, h3, h4, h5⟩ := h
  have eI : ∀ a j, a ≠ r → (am_u (am_u (am_u (am_c I' r 0) r 0 (iI x.1)) r 1 (iI x.2.1)) r 2 (iI x.2.2)) a j = I' a j := fun a j q => by
    rw [am_u_na _ _ _ _ q, am_u_na _ _ _ _ q, am_u_na _ _ _ _ q, am_c_na _ _ _ q]
  have ty : (am_TY r).1 = 5 := by
    have e : r = 4096 * (r / 4096) + 1 := by omega
    rw [e, show r / 4096 = (r / 4096 - 1) + 1 by omega, tyq1 _ (by omega)]
  refine ⟨⟨?_, ?_, h1.2.2.1, ?_, fun k hk => ?_⟩, fun k hk => ?_, by omega, fun a j q q2 => ?_, fun a j q q2 => ?_⟩
  · rw [am_u_na _ _ _ _ (by omega), am_c_na _ _ _ (by omega)]; exact h1.1
  · rw [eI _ _ (by omega)]; exact h1.2.1
  · rcases h1.2.2.2.1 with q | q
    · exact Or.inl q
    · exact Or.inr ⟨q.1, q.2.1, q.2.2.1, q.2.2.2.1, q.2.2.2.2.1, by omega⟩
  · by_cases q : k = i
    · subst q; rw [upw_eq, am_u_eq]; exact ⟨rfl, ty⟩
    · rw [upw_ne _ _ q, am_u_ni _ _ _ _ q, am_c_na _ _ _ (by omega)]; exact h1.2.2.2.2 k hk
  · by_cases q : k = i
    · subst q
      rw [upw_eq, upw_eq]
      refine ⟨⟨?_, ?_, am_u_eq _ _ _ _⟩, hr.2.1, hr.2.2, by omega⟩
      · rw [am_u_ni _ _ _ _ (by omega), am_u_ni _ _ _ _ (by omega), am_u_eq]
      · rw [am_u_ni _ _ _ _ (by omega), am_u_eq]
    · rw [upw_ne _ _ q, upw_ne _ _ q]
      obtain ⟨w1, w2, w3, w4⟩ := h2 k hk
      unfold SV
      rw [eI _ _ (by omega), eI _ _ (by omega), eI _ _ (by omega)]
      exact ⟨w1, w2, w3, by omega⟩
  · rw [eI _ _ (by omega)]; exact h4 a j q q2
  · rw [am_u_na _ _ _ _ q2, am_c_na _ _ _ (by omega)]; exact h5 a j q q2
theorem DS_rem {I0 : am_I} {P0 : am_P} {B0 arr c : Nat} {rs : Nat → Nat} {T : Nat → Int × Int × Int} {I' : am_I} {P' P2 : am_P} {B' : Nat} (h : DS I0 P0 B0 arr c rs T I' P' B') (hB : 161 ≤ B0) (ha : arr = 9 ∨ (4096 ≤ arr ∧ arr % 4096 ≠ 1 ∧ arr < B0)) {i : Nat} (hi : i < c) {z : Int32}
    (p1 : ∀ a, a ≠ arr → ∀ j, P2 a j = P' a j) (p2 : ∀ j, j < i → P2 arr j = P' arr j) (p3 : ∀ j, i ≤ j → j + 1 < c → P2 arr j = P' arr (j + 1)) :
    DS I0 P0 B0 arr (c - 1) (fun k => if k < i then rs k else rs (k + 1)) (fun k => if k < i then T k else T (k + 1)) (am_u (am_u I' 12 0 z) 12 2 (iI ((c : Int) - 1))) P2 B' := by
  obtain ⟨h1, h2, h3, h4, h5⟩ := h
  have eI : ∀ a j, a ≠ 12 → (am_u (am_u I' 12 0 z) 12 2 (iI ((c : Int) - 1))) a j = I' a j := fun a j q => by
    rw [am_u_na _ _ _ _ q, am_u_na _ _ _ _ q]
  have hrs : ∀ k, k < c - 1 → (if k < i then rs k else rs (k + 1)) = rs (if k < i then k else k + 1) ∧ (if k < i then T k else T (k + 1)) = T (if k < i then k else k + 1) ∧ (if k < i then k else k + 1) < c := fun k hk => by
    by_cases q : k < i
    · rw [if_pos q, if_pos q, if_pos q]; exact ⟨rfl, rfl, by omega⟩
    · rw [if_neg q, if_neg q, if_neg q]; exact ⟨rfl, rfl, by omega⟩
  refine ⟨⟨?_, ?_, by have := h1.2.2.1; omega, ?_, fun k hk => ?_⟩, fun k hk => ?_, h3, fun a j q q2 => ?_, fun a j q q2 => ?_⟩
  · rw [p1 12 (by omega)]; exact h1.1
  · rw [am_u_eq]; congr 1; omega
  · rcases h1.2.2.2.1 with q | q
    · exact Or.inl ⟨q.1, by omega⟩
    · exact Or.inr ⟨q.1, by omega, q.2.2.1, q.2.2.2.1, q.2.2.2.2.1, q.2.2.2.2.2⟩
  · show P2 arr k = some (if k < i then rs k else rs (k + 1)) ∧ (am_TY (if k < i then rs k else rs (k + 1))).1 = 5
    by_cases q : k < i
    · rw [if_pos q, p2 k q]; exact h1.2.2.2.2 k (by omega)
    · rw [if_neg q, p3 k (by omega) (by omega)]; exact h1.2.2.2.2 (k + 1) (by omega)
  · show SV _ (if k < i then rs k else rs (k + 1)) (if k < i then T k else T (k + 1)) B'
    obtain ⟨w1, w2, w3⟩ := hrs k hk
    rw [w1, w2]
    have w4 := h2 _ w3
    unfold SV at w4 ⊢
    rw [eI _ _ (by omega), eI _ _ (by omega), eI _ _ (by omega)]; exact w4
  · rw [eI _ _ q2]; exact h4 a j q q2
  · rw [p1 a q2]; exact h5 a j q q2
theorem DS_0 {M : Nat → Nat → Int} {sh : Nat → Nat → Nat} {I : am_I} {P : am_P} {B : Nat} (h : FM M sh I P B) : DS I P B (sh 0 0) (M 100 4).toNat (sh 1) (tri M) I P B :=
  ⟨fm_l h, fun k hk => fm_s h k (by omega), Nat.le_refl _, fun _ _ _ _ => rfl, fun _ _ _ _ => rfl⟩
/-- facts changed -/
def FS (M : Nat → Nat → Int) (sh : Nat → Nat → Nat) (g : Nat → Prop) (x y : Nat → Int) (n : Nat) (I0 : am_I) (P0 : am_P) (I2 : am_I) (P2 : am_P) : Prop :=
  (∀ j, j < n → ((M 110 j = 0 ∨ g j) → P2 14 j = none) ∧ (M 110 j = 1 → ¬ g j → P2 14 j = some (sh 2 j) ∧ I2 (sh 2 j) 0 = iI (x j) ∧ I2 (sh 2 j) 1 = iI (y j))) ∧
  (∀ j, n ≤ j → P2 14 j = P0 14 j ∧ (j < 10 → M 110 j = 1 → I2 (sh 2 j) 0 = I0 (sh 2 j) 0 ∧ I2 (sh 2 j) 1 = I0 (sh 2 j) 1)) ∧
  (∀ a i, ¬ (∃ j, j < 10 ∧ M 110 j = 1 ∧ a = sh 2 j ∧ i ≤ 1) → I2 a i = I0 a i) ∧ ∀ a i, a ≠ 14 → P2 a i = P0 a i
theorem FS_0 {M : Nat → Nat → Int} {sh : Nat → Nat → Nat} {g : Nat → Prop} {x y : Nat → Int} {I0 : am_I} {P0 : am_P} : FS M sh g x y 0 I0 P0 I0 P0 := ⟨fun _ h => by omega, fun _ _ => ⟨rfl, fun _ _ => ⟨rfl, rfl⟩⟩, fun _ _ _ => rfl, fun _ _ _ => rfl⟩
theorem FS_no {M : Nat → Nat → Int} {sh : Nat → Nat → Nat} {g : Nat → Prop} {x y : Nat → Int} {n : Nat} {I0 : am_I} {P0 : am_P} {I2 : am_I} {P2 : am_P} (h : FS M sh g x y n I0 P0 I2 P2) (h0 : M 110 n = 0) (hp : P0 14 n = none) : FS M sh g x y (n + 1) I0 P0 I2 P2 := by
  obtain ⟨h1, h2, h3, h4⟩ := h
  refine ⟨fun j hj => ?_, fun j hj => h2 j (by omega), h3, h4⟩
  rcases Nat.lt_or_eq_of_le (Nat.le_of_lt_succ hj) with q | q
  · exact h1 j q
  · subst q; exact ⟨fun _ => by rw [(h2 j (Nat.le_refl _)).1]; exact hp, fun w => by omega⟩
theorem FS_gone {M : Nat → Nat → Int} {sh : Nat → Nat → Nat} {g : Nat → Prop} {x y : Nat → Int} {n : Nat} {I0 : am_I} {P0 : am_P} {I2 : am_I} {P2 : am_P} (h : FS M sh g x y n I0 P0 I2 P2) (h0 : g n) : FS M sh g x y (n + 1) I0 P0 I2 (am_u P2 14 n none) := by
  obtain ⟨h1, h2, h3, h4⟩ := h
  refine ⟨fun j hj => ?_, fun j hj => ?_, h3, fun a i q => by rw [am_u_na _ _ _ _ q]; exact h4 a i q⟩
  · rcases Nat.lt_or_eq_of_le (Nat.le_of_lt_succ hj) with q | q
    · rw [am_u_ni _ _ _ _ (by omega)]; exact h1 j q
    · subst q; exact ⟨fun _ => am_u_eq _ _ _ _, fun _ w => absurd h0 w⟩
  · rw [am_u_ni _ _ _ _ (by omega)]; exact h2 j (by omega)
theorem FS_set {M : Nat → Nat → Int} {sh : Nat → Nat → Nat} {g : Nat → Prop} {x y : Nat → Int} {n : Nat} {I0 : am_I} {P0 : am_P} {I2 : am_I} {P2 : am_P} (hs : ∀ j, j < 10 → M 110 j = 1 → sh 2 j % 4096 = 200 + j) (hn : n < 10) (h : FS M sh g x y n I0 P0 I2 P2) (h0 : M 110 n = 1) (hg : ¬ g n) (hp : P0 14 n = some (sh 2 n)) : FS M sh g x y (n + 1) I0 P0 (am_u (am_u I2 (sh 2 n) 0 (iI (x n))) (sh 2 n) 1 (iI (y n))) P2 := by
  obtain ⟨h1, h2, h3, h4⟩ := h
  have hd : ∀ j, j < 10 → M 110 j = 1 → j ≠ n → sh 2 j ≠ sh 2 n := fun j q1 q2 q3 q4 => by
    have := hs j q1 q2; have := hs n hn h0; omega
  refine ⟨fun j hj => ?_, fun j hj => ⟨(h2 j (by omega)).1, fun q1 q2 => ?_⟩, fun a i q => ?_, h4⟩
  · rcases Nat.lt_or_eq_of_le (Nat.le_of_lt_succ hj) with q | q
    · refine ⟨(h1 j q).1, fun w1 w2 => ?_⟩
      have := hd j (by omega) w1 (by omega)
      rw [am_u_na _ _ _ _ this, am_u_na _ _ _ _ this, am_u_na _ _ _ _ this, am_u_na _ _ _ _ this]; exact (h1 j q).2 w1 w2
    · subst q
      refine ⟨fun w => ?_, fun _ _ => ⟨by rw [(h2 j (Nat.le_refl _)).1]; exact hp, by rw [am_u_ni _ _ _ _ (by omega), am_u_eq], am_u_eq _ _ _ _⟩⟩
      rcases w with w | w
      · omega
      · exact absurd w hg
  · have := hd j (by omega) q2 (by omega)
    rw [am_u_na _ _ _ _ this, am_u_na _ _ _ _ this, am_u_na _ _ _ _ this, am_u_na _ _ _ _ this]; exact (h2 j (by omega)).2 q1 q2
  · by_cases w : a = sh 2 n
    · have w2 : ¬ i ≤ 1 := fun w2 => q ⟨n, hn, h0, w, w2⟩
      rw [w, am_u_ni _ _ _ _ (by omega), am_u_ni _ _ _ _ (by omega), ← w]; exact h3 a i q
    · rw [am_u_na _ _ _ _ w, am_u_na _ _ _ _ w]; exact h3 a i q
/-- the film that is left -/
theorem FM_fin {K : Int} {M M' : Nat → Nat → Int} {sh : Nat → Nat → Nat} {I I1 I2 I3 : am_I} {P P1 P3 : am_P} {B B1 c : Nat} {rs : Nat → Nat} {T : Nat → Int × Int × Int} {g : Nat → Prop} {x y : Nat → Int} {tk : Int} (hB : 161 ≤ B) (hW : WFi K M) (h : FM M sh I P B) (hD : DS I P B (sh 0 0) c rs T I1 P1 B1)
    (hn : ∀ j, j < 10 → I2 13 j = iI (M' 109 j - 1)) (hI2 : ∀ a, a ≠ 13 → ∀ j, I2 a j = I1 a j) (hF : FS M sh g x y 10 I2 P1 I3 P3) (h1 : M' 100 1 = tk) (h4 : M' 100 4 = c) (hT : ∀ k, k < c → tri M' k = T k) (hg : ∀ j, j < 10 → (M' 110 j = 0 → M 110 j = 0 ∨ g j) ∧ (M' 110 j = 1 → (M 110 j = 1 ∧ ¬ g j) ∧ M' 111 j = x j ∧ M' 112 j = y j))
    (hM : ∀ r i, 113 ≤ r → r ≤ 120 → M' r i = M r i) : FM M' (fun r k => if r = 1 then rs k else sh r k) (am_u I3 11 0 (iI tk)) P3 B1 := by
  have hcap := fm_cap h
  obtain ⟨l1, l2, l3, l4, l5⟩ := fm_l h
  obtain ⟨⟨d1, d2, d3, d4, d5⟩, d6, d7, d8, d9⟩ := hD
  obtain ⟨f1, f2, f3, f4⟩ := hF
  have hs2 : ∀ j, j < 10 → M 110 j = 1 → FL 0 j (sh 2 j) (sh 3 j) B := fun j q1 q2 => (fm_f1 h j q1 q2).2.1
  have hI3 : ∀ a i, ¬ (∃ j, j < 10 ∧ M 110 j = 1 ∧ a = sh 2 j ∧ i ≤ 1) → a ≠ 11 → a ≠ 13 → (am_u I3 11 0 (iI tk)) a i = I1 a i := fun a i q1 q2 q3 => by
    rw [am_u_na _ _ _ _ q2, f3 a i q1, hI2 a q3]
  have hns : ∀ a i : Nat, (a < 4096 ∨ ¬ (200 ≤ a % 4096 ∧ a % 4096 < 210)) → ¬ (∃ j, j < 10 ∧ M 110 j = 1 ∧ a = sh 2 j ∧ i ≤ 1) := fun a i q ⟨j, q1, q2, q3, q4⟩ => by
    have := hs2 j q1 q2; unfold FL at this; omega
  refine ⟨?_, ⟨?_, ?_, ?_⟩, ⟨⟨?_, ?_, by rw [h4]; exact d3, ?_, fun k hk => ?_⟩, hcap⟩, fun k hk => ?_, fun j hj => ?_, fun j hj w => ?_, fun j hj w => ?_⟩
  · rw [am_u_eq, h1]
  · rw [f4 _ _ (by omega), d9 _ _ (by omega) (by omega)]; exact fm_1 h
  · rw [f4 _ _ (by omega), d9 _ _ (by omega) (by omega)]; exact fm_2 h
  · rw [f4 _ _ (by omega), d9 _ _ (by omega) (by omega)]; exact fm_3 h
  · rw [f4 _ _ (by omega)]; exact d1
  · rw [hI3 _ _ (hns _ _ (by omega)) (by omega) (by omega), h4]; exact d2
  · rw [h4]; exact d4
  · rw [h4] at hk
    show P3 (sh 0 0) k = some (rs k) ∧ _
    rw [f4 _ _ (by rcases hcap with q | q <;> omega)]; exact d5 k hk
  · rw [h4] at hk
    have e := hT k (by omega)
    obtain ⟨w1, w2, w3, w4⟩ := d6 k (by omega)
    rw [← e] at w1
    show (am_u I3 11 0 (iI tk) (rs k) 0 = _ ∧ am_u I3 11 0 (iI tk) (rs k) 1 = _ ∧ am_u I3 11 0 (iI tk) (rs k) 2 = _) ∧ _
    rw [hI3 _ _ (hns _ _ (by omega)) (by omega) (by omega), hI3 _ _ (hns _ _ (by omega)) (by omega) (by omega), hI3 _ _ (hns _ _ (by omega)) (by omega) (by omega)]
    exact ⟨w1, w2, w3, w4⟩
  · rw [am_u_na _ _ _ _ (by omega), f3 _ _ (hns _ _ (by omega))]; exact hn j hj
  · exact (f1 j hj).1 ((hg j hj).1 w)
  · obtain ⟨⟨q1, q2⟩, q3, q4⟩ := (hg j hj).2 w
    obtain ⟨w1, w2, w3⟩ := (f1 j hj).2 q1 q2
    obtain ⟨v1, v2, v3, v4, v5⟩ := fm_f1 h j hj q1
    have v6 := v2
    unfold FL at v6
    have e2 : ∀ i, 2 ≤ i → (am_u I3 11 0 (iI tk)) (sh 2 j) i = I (sh 2 j) i := fun i hi => by
      rw [hI3 _ _ (fun ⟨j', u1, u2, u3, u4⟩ => by omega) (by omega) (by omega), d8 _ _ (by omega) (by omega)]
    refine ⟨w1, ?_, ?_⟩
    · show FL 0 j (sh 2 j) (sh 3 j) B1
      unfold FL; omega
    · refine ⟨?_, ?_, fun v hv => ?_⟩
      · show am_u I3 11 0 (iI tk) (sh 2 j) 0 = _ ∧ am_u I3 11 0 (iI tk) (sh 2 j) 1 = _ ∧ am_u I3 11 0 (iI tk) (sh 2 j) 2 = _ ∧ am_u I3 11 0 (iI tk) (sh 2 j) 3 = _ ∧ am_u I3 11 0 (iI tk) (sh 2 j) 4 = _ ∧ am_u I3 11 0 (iI tk) (sh 2 j) 5 = _ ∧ am_u I3 11 0 (iI tk) (sh 2 j) 6 = _ ∧ am_u I3 11 0 (iI tk) (sh 2 j) 7 = _ ∧ am_u I3 11 0 (iI tk) (sh 2 j) 8 = _
        rw [e2 2 (by omega), e2 3 (by omega), e2 4 (by omega), e2 5 (by omega), e2 6 (by omega), e2 7 (by omega), e2 8 (by omega), am_u_na _ _ _ _ (by omega), am_u_na _ _ _ _ (by omega), hM 113 _ (by omega) (by omega), hM 114 _ (by omega) (by omega), hM 115 _ (by omega) (by omega), hM 116 _ (by omega) (by omega), hM 117 _ (by omega) (by omega), hM 118 _ (by omega) (by omega), hM 119 _ (by omega) (by omega), q3, q4]
        exact ⟨w2, w3, v3.2.2⟩
      · show P3 (sh 2 j) 9 = some (sh 3 j)
        rw [f4 _ _ (by omega), d9 _ _ (by omega) (by rcases hcap with u | u <;> omega)]; exact v4
      · rw [hM 119 _ (by omega) (by omega)] at hv
        show am_u I3 11 0 (iI tk) (sh 3 j) v = _
        rw [hI3 _ _ (hns _ _ (by omega)) (by omega) (by omega), d8 _ _ (by omega) (by omega), hM 120 _ (by omega) (by omega)]; exact v5 v hv
