/-! THE CLASS: what its heap stands for -/
/-- pointers -/
def CP (P : am_P) : Prop := (P 10 0 = some 11 ∧ P 10 1 = some 15 ∧ P 10 5 = some 16 ∧ P 10 6 = some 35 ∧ P 10 7 = some 39 ∧ P 10 8 = some 42) ∧ (P 35 3 = some 36 ∧ P 35 4 = some 37 ∧ P 35 5 = some 38) ∧ (P 39 2 = some 40 ∧ P 39 3 = some 41) ∧ P 42 0 = some 43 ∧
  (P 16 4 = some 17 ∧ P 16 5 = some 18 ∧ P 16 6 = some 19 ∧ P 16 7 = some 20 ∧ P 16 8 = some 21 ∧ P 16 9 = some 22 ∧ P 16 10 = some 33 ∧ P 16 11 = some 34) ∧ ∀ i, i < 10 → P 22 i = some (23 + i)
theorem cp_0 {P : am_P} (h : CP P) : P 10 0 = some 11 := h.1.1
theorem cp_1 {P : am_P} (h : CP P) : P 10 1 = some 15 := h.1.2.1
theorem cp_5 {P : am_P} (h : CP P) : P 10 5 = some 16 := h.1.2.2.1
theorem cp_6 {P : am_P} (h : CP P) : P 10 6 = some 35 := h.1.2.2.2.1
theorem cp_7 {P : am_P} (h : CP P) : P 10 7 = some 39 := h.1.2.2.2.2.1
theorem cp_8 {P : am_P} (h : CP P) : P 10 8 = some 42 := h.1.2.2.2.2.2
theorem cp_p3 {P : am_P} (h : CP P) : P 35 3 = some 36 := h.2.1.1
theorem cp_p4 {P : am_P} (h : CP P) : P 35 4 = some 37 := h.2.1.2.1
theorem cp_p5 {P : am_P} (h : CP P) : P 35 5 = some 38 := h.2.1.2.2
theorem cp_s2 {P : am_P} (h : CP P) : P 39 2 = some 40 := h.2.2.1.1
theorem cp_s3 {P : am_P} (h : CP P) : P 39 3 = some 41 := h.2.2.1.2
theorem cp_m {P : am_P} (h : CP P) : P 42 0 = some 43 := h.2.2.2.1
theorem cp_w4 {P : am_P} (h : CP P) : P 16 4 = some 17 := h.2.2.2.2.1.1
theorem cp_w5 {P : am_P} (h : CP P) : P 16 5 = some 18 := h.2.2.2.2.1.2.1
theorem cp_w6 {P : am_P} (h : CP P) : P 16 6 = some 19 := h.2.2.2.2.1.2.2.1
theorem cp_w7 {P : am_P} (h : CP P) : P 16 7 = some 20 := h.2.2.2.2.1.2.2.2.1
theorem cp_w8 {P : am_P} (h : CP P) : P 16 8 = some 21 := h.2.2.2.2.1.2.2.2.2.1
theorem cp_w9 {P : am_P} (h : CP P) : P 16 9 = some 22 := h.2.2.2.2.1.2.2.2.2.2.1
theorem cp_w10 {P : am_P} (h : CP P) : P 16 10 = some 33 := h.2.2.2.2.1.2.2.2.2.2.2.1
theorem cp_w11 {P : am_P} (h : CP P) : P 16 11 = some 34 := h.2.2.2.2.1.2.2.2.2.2.2.2
theorem cp_w22 {P : am_P} (h : CP P) : ∀ i, i < 10 → P 22 i = some (23 + i) := h.2.2.2.2.2
theorem CP_cg {P P' : am_P} (h : CP P) (hc : ∀ a j, (a = 10 ∨ a = 16 ∨ a = 22 ∨ a = 35 ∨ a = 39 ∨ a = 42) → P' a j = P a j) : CP P' := by
  unfold CP
  have e (a : Nat) (ha : a = 10 ∨ a = 16 ∨ a = 22 ∨ a = 35 ∨ a = 39 ∨ a = 42) : P' a = P a := funext (fun j => hc a j ha)
  rw [e 10 (by omega), e 16 (by omega), e 22 (by omega), e 35 (by omega), e 39 (by omega), e 42 (by omega)]
  exact h
/-- facts with a text, as bits -/
def txt (M : Nat → Nat → Int) : Nat → Nat
  | 0 => 0
  | k + 1 => if M 110 k = 1 ∧ 0 < M 119 k then txt M k ||| 2 ^ k else txt M k
def isT (M : Nat → Nat → Int) (j : Nat) : Prop := M 110 j = 1 ∧ 0 < M 119 j
/-- the greatest weight -/
def hvy (M : Nat → Nat → Int) : Nat → Int
  | 0 => 0
  | k + 1 => if M 110 k = 1 ∧ 0 < M 119 k then (if hvy M k < M 113 k then M 113 k else hvy M k) else hvy M k
/-- facts unlike one -/
def unl (M : Nat → Nat → Int) (j : Nat) : Nat → Nat
  | 0 => 0
  | k + 1 => if M 110 k = 1 ∧ (0 < M 117 j ∧ M 117 j = M 117 k ∧ M 118 j ≠ M 118 k) then unl M j k ||| 2 ^ k else unl M j k
/-- the ends that the class lays -/
def cE (M : Nat → Nat → Int) (S : Nat) : Int := if otm M S = true then wE M S else -1
/-- the ways, when they are laid -/
def WL (M : Nat → Nat → Int) (I : am_I) : Prop := I 16 1 = iI (M 100 3) ∧ I 16 2 = iI (txt M 10) ∧ I 16 3 = iI (hvy M 10) ∧
  (∀ j, j < 10 → M 110 j = 1 → 0 < M 119 j → I 17 j = iI (M 113 j) ∧ I 18 j = iI (lng M j 0) ∧ I 19 j = iI (unl M j 10) ∧ ∀ t : Nat, t ≤ 900 → I (23 + j) t = iI (nxt M j t)) ∧
  ∀ S, S < 1024 → I 33 S = iI (cE M S) ∧ (cE M S ≠ -1 → S ≠ 0 → I 34 S = iI (wL M S))
/-- the plan, when it is made -/
def PLc (M : Nat → Nat → Int) (I : am_I) : Prop := I 35 1 = iI (ons (BS M)) ∧ I 35 2 = iI (wgt M (BS M)) ∧ ∀ k : Nat, (k : Int) < ons (BS M) → I 36 k = iI (ord M k) ∧ I 37 k = iI (sta M k) ∧ I 38 k = iI (chs M k)
/-- ways and plan -/
def RP (M : Nat → Nat → Int) (I : am_I) : Prop := I 35 0 = iI (M 100 20) ∧ ((I 16 0 = iI 0 ∧ M 100 20 = 0) ∨ (I 16 0 = iI 1 ∧ WL M I)) ∧ (M 100 20 = 1 → PLc M I)
/-- the stage -/
def RS (K : Int) (M : Nat → Nat → Int) (I : am_I) : Prop := I 39 0 = iI (M 100 47) ∧ I 39 1 = iI (M 100 48) ∧ (∀ j, j < 10 → I 40 j = iI (M 150 j)) ∧ (M 100 47 = 1 → ∀ j, j < 10 → I 41 j = iI (tol (M 154 j))) ∧ I 39 4 = iI (M 100 50) ∧ (M 100 50 ≠ -1 → I 39 5 = iI (M 100 51)) ∧
  ∃ z : Int, I 39 6 = iI z ∧ 0 ≤ z ∧ z ≤ K ∧ (M 100 50 = -1 → (z = M 100 52 ∨ (20 ≤ z ∧ 20 ≤ M 100 52)))
/-- the marks -/
def RM (M : Nat → Nat → Int) (I : am_I) : Prop := ∀ i, i < 60 → I 43 i = iI (M 155 i - 1)
/-- the voice -/
def VO (M : Nat → Nat → Int) (I : am_I) : Prop := I 10 3 = iI (M 100 2) ∧ I 10 4 = iI (M 100 3)
/-- where an edition's film lies: se 4 0 .. 3 -/
def EL (e : Nat) (se : Nat → Nat → Nat) (B : Nat) : Prop := (4096 ≤ se 4 0 ∧ se 4 0 % 4096 = 401 + e ∧ se 4 0 < B) ∧ (4096 ≤ se 4 1 ∧ se 4 1 % 4096 = 411 + e ∧ se 4 1 < B) ∧ (4096 ≤ se 4 2 ∧ se 4 2 % 4096 = 421 + e ∧ se 4 2 < B) ∧ (4096 ≤ se 4 3 ∧ se 4 3 % 4096 = 431 + e ∧ se 4 3 < B)
/-- the editions -/
def ED (M : Nat → Nat → Int) (sh : Nat → Nat → Nat) (se : Nat → Nat → Nat → Nat) (I : am_I) (P : am_P) (B : Nat) : Prop := I 10 2 = iI (M 100 29) ∧
  ∀ e : Nat, e < 4 → ((e : Int) < M 100 29 → P 15 e = some (se e 4 0) ∧ EL e (se e) B ∧ (se e 0 0 = 9 ∨ se e 0 0 ≠ sh 0 0) ∧ FR (kpF M e) (se e) (e + 1) (se e 4 0) (se e 4 1) (se e 4 2) (se e 4 3) I P B) ∧ (M 100 29 ≤ e → P 15 e = none)
def RC (K : Int) (M : Nat → Nat → Int) (sh : Nat → Nat → Nat) (se : Nat → Nat → Nat → Nat) (I : am_I) (P : am_P) (B : Nat) : Prop := CP P ∧ 161 ≤ B ∧ FM M sh I P B ∧ VO M I ∧ ED M sh se I P B ∧ RP M I ∧ RS K M I ∧ RM M I
theorem rc_p {K : Int} {M : Nat → Nat → Int} {sh : Nat → Nat → Nat} {se : Nat → Nat → Nat → Nat} {I : am_I} {P : am_P} {B : Nat} (h : RC K M sh se I P B) : CP P := h.1
theorem rc_b {K : Int} {M : Nat → Nat → Int} {sh : Nat → Nat → Nat} {se : Nat → Nat → Nat → Nat} {I : am_I} {P : am_P} {B : Nat} (h : RC K M sh se I P B) : 161 ≤ B := h.2.1
theorem rc_f {K : Int} {M : Nat → Nat → Int} {sh : Nat → Nat → Nat} {se : Nat → Nat → Nat → Nat} {I : am_I} {P : am_P} {B : Nat} (h : RC K M sh se I P B) : FM M sh I P B := h.2.2.1
theorem rc_v {K : Int} {M : Nat → Nat → Int} {sh : Nat → Nat → Nat} {se : Nat → Nat → Nat → Nat} {I : am_I} {P : am_P} {B : Nat} (h : RC K M sh se I P B) : VO M I := h.2.2.2.1
theorem rc_e {K : Int} {M : Nat → Nat → Int} {sh : Nat → Nat → Nat} {se : Nat → Nat → Nat → Nat} {I : am_I} {P : am_P} {B : Nat} (h : RC K M sh se I P B) : ED M sh se I P B := h.2.2.2.2.1
theorem rc_pl {K : Int} {M : Nat → Nat → Int} {sh : Nat → Nat → Nat} {se : Nat → Nat → Nat → Nat} {I : am_I} {P : am_P} {B : Nat} (h : RC K M sh se I P B) : RP M I := h.2.2.2.2.2.1
theorem rc_s {K : Int} {M : Nat → Nat → Int} {sh : Nat → Nat → Nat} {se : Nat → Nat → Nat → Nat} {I : am_I} {P : am_P} {B : Nat} (h : RC K M sh se I P B) : RS K M I := h.2.2.2.2.2.2.1
theorem rc_m {K : Int} {M : Nat → Nat → Int} {sh : Nat → Nat → Nat} {se : Nat → Nat → Nat → Nat} {I : am_I} {P : am_P} {B : Nat} (h : RC K M sh se I P B) : RM M I := h.2.2.2.2.2.2.2
/-- a film elsewhere is as it was -/
theorem FR_cg {M : Nat → Nat → Int} {sh : Nat → Nat → Nat} {e f al na fa : Nat} {I I' : am_I} {P P' : am_P} {B B' : Nat} (h : FR M sh e f al na fa I P B) (hB : B ≤ B')
    (hc : ∀ a, (a = f ∨ a = al ∨ a = na ∨ a = fa ∨ (a = sh 0 0 ∧ a ≠ 9) ∨ (∃ k : Nat, (k : Int) < M 100 4 ∧ a = sh 1 k) ∨ ∃ j, j < 10 ∧ M 110 j = 1 ∧ (a = sh 2 j ∨ a = sh 3 j)) → ∀ j, I' a j = I a j ∧ P' a j = P a j) : FR M sh e f al na fa I' P' B' := by
  obtain ⟨h1, h2, ⟨⟨h3, h4, h5, h6, h7⟩, h8⟩, h9, h10, h11, h12⟩ := h
  have cf := hc f (Or.inl rfl)
  have cal := hc al (Or.inr (Or.inl rfl))
  have cna := hc na (Or.inr (Or.inr (Or.inl rfl)))
  have cfa := hc fa (Or.inr (Or.inr (Or.inr (Or.inl rfl))))
  refine ⟨by rw [(cf 0).1]; exact h1, by rw [(cf 1).2, (cf 2).2, (cf 3).2]; exact h2, ⟨⟨by rw [(cal 1).2]; exact h3, by rw [(cal 2).1]; exact h4, h5, ?_, fun k hk => ?_⟩, h8⟩, fun k hk => ?_, fun j hj => by rw [(cna j).1]; exact h10 j hj, fun j hj h => by rw [(cfa j).2]; exact h11 j hj h, fun j hj h => ?_⟩
  · rcases h6 with q | ⟨q1, q2, q3, q4, q5, q6⟩
    · exact Or.inl q
    · exact Or.inr ⟨q1, q2, q3, q4, q5, by omega⟩
  · have h13 : sh 0 0 ≠ 9 := by rcases h6 with q | q; omega; omega
    rw [(hc (sh 0 0) (Or.inr (Or.inr (Or.inr (Or.inr (Or.inl ⟨rfl, h13⟩))))) k).2]; exact h7 k hk
  · have c := hc (sh 1 k) (Or.inr (Or.inr (Or.inr (Or.inr (Or.inr (Or.inl ⟨k, hk, rfl⟩))))))
    obtain ⟨q1, q2, q3, q4⟩ := h9 k hk
    rw [(c 0).1, (c 1).1, (c 2).1]; exact ⟨q1, q2, q3, by omega⟩
  · have c2 := hc (sh 2 j) (Or.inr (Or.inr (Or.inr (Or.inr (Or.inr (Or.inr ⟨j, hj, h, Or.inl rfl⟩))))))
    have c3 := hc (sh 3 j) (Or.inr (Or.inr (Or.inr (Or.inr (Or.inr (Or.inr ⟨j, hj, h, Or.inr rfl⟩))))))
    obtain ⟨q1, ⟨⟨q2, q3, q4⟩, q5, q6, q7⟩, q8, q9, q10⟩ := h12 j hj h
    refine ⟨by rw [(cfa j).2]; exact q1, ⟨⟨q2, q3, by omega⟩, q5, q6, by omega⟩, ?_, by rw [(c2 9).2]; exact q9, fun v hv => by rw [(c3 v).1]; exact q10 v hv⟩
    rw [(c2 0).1, (c2 1).1, (c2 2).1, (c2 3).1, (c2 4).1, (c2 5).1, (c2 6).1, (c2 7).1, (c2 8).1]; exact q8
