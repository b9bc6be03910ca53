/-! THE CLASS: ways: bits, terms, gaps -/
theorem bit_and (a b : Nat) : iI (a : Int) &&& iI (b : Int) = iI ((a &&& b : Nat) : Int) := by
  rw [← iI_nI a, ← iI_nI b, ← iI_nI (a &&& b)]
  exact Int32.toBitVec_inj.1 (by show BitVec.ofNat 32 a &&& BitVec.ofNat 32 b = BitVec.ofNat 32 (a &&& b); exact BitVec.ofNat_and.symm)
theorem bv_sub (b t : BitVec 32) : b &&& (t ^^^ BitVec.allOnes 32) = 0#32 ↔ b &&& t = b := by
  constructor
  · intro h
    apply BitVec.eq_of_getLsbD_eq
    intro i hi
    have h2 : (b &&& (t ^^^ BitVec.allOnes 32)).getLsbD i = (0#32).getLsbD i := by rw [h]
    rw [BitVec.getLsbD_and, BitVec.getLsbD_xor, BitVec.getLsbD_allOnes, BitVec.getLsbD_zero, decide_eq_true hi] at h2
    rw [BitVec.getLsbD_and]
    revert h2
    cases b.getLsbD i <;> cases t.getLsbD i <;> decide
  · intro h
    apply BitVec.eq_of_getLsbD_eq
    intro i hi
    have h2 : (b &&& t).getLsbD i = b.getLsbD i := by rw [h]
    rw [BitVec.getLsbD_and] at h2
    rw [BitVec.getLsbD_and, BitVec.getLsbD_xor, BitVec.getLsbD_allOnes, BitVec.getLsbD_zero, decide_eq_true hi]
    revert h2
    cases b.getLsbD i <;> cases t.getLsbD i <;> decide
theorem bit_nsub (x : Int32) {T : Nat} (hT : T < 1024) : x &&& (iI (T : Int) ^^^ iI (-1)) = iI 0 ↔ ∃ n : Nat, n < 1024 ∧ x = iI n ∧ n &&& T = n := by
  have e1 : (iI (-1)).toBitVec = BitVec.allOnes 32 := by decide +kernel
  have e0 : (iI 0).toBitVec = 0#32 := by decide +kernel
  have eT : (iI (T : Int)).toBitVec = BitVec.ofNat 32 T := by rw [← iI_nI T]; rfl
  have eL : (x &&& (iI (T : Int) ^^^ iI (-1))).toBitVec = x.toBitVec &&& ((iI (T : Int)).toBitVec ^^^ (iI (-1)).toBitVec) := rfl
  rw [← Int32.toBitVec_inj, eL, e1, e0, eT, bv_sub]
  constructor
  · intro h
    have h2 := congrArg BitVec.toNat h
    rw [BitVec.toNat_and, BitVec.toNat_ofNat, Nat.mod_eq_of_lt (by omega)] at h2
    refine ⟨x.toBitVec.toNat, ?_, ?_, h2⟩
    · have h3 : x.toBitVec.toNat &&& T ≤ T := Nat.and_le_right
      omega
    · rw [← iI_nI x.toBitVec.toNat]
      exact Int32.toBitVec_inj.1 (by show x.toBitVec = BitVec.ofNat 32 x.toBitVec.toNat; simp)
  · rintro ⟨n, h1, rfl, h2⟩
    rw [show (iI (n : Int)).toBitVec = BitVec.ofNat 32 n by rw [← iI_nI n]; rfl, ← BitVec.ofNat_and, h2]
theorem sub_tb {n T f : Nat} (h : n &&& T = n) (hf : n.testBit f = true) : T.testBit f = true := by
  rw [← h, Nat.testBit_and] at hf
  simp only [Bool.and_eq_true] at hf
  exact hf.2
theorem tb_sub {n T : Nat} (h : ∀ f, n.testBit f = true → T.testBit f = true) : n &&& T = n := by
  apply Nat.eq_of_testBit_eq
  intro i
  rw [Nat.testBit_and]
  cases hn : n.testBit i
  · rfl
  · rw [h i hn]; rfl
theorem txt_lt (M : Nat → Nat → Int) : ∀ n, n ≤ 10 → txt M n < 1024 := by
  intro n; induction n with
  | zero => intro _; simp [txt]
  | succ n ih =>
    intro hn
    simp only [txt]
    have h1 := ih (by omega)
    split
    · exact Nat.or_lt_two_pow (n := 10) h1 (Nat.pow_lt_pow_right (by omega) (by omega))
    · exact h1
theorem txt_tb (M : Nat → Nat → Int) (k : Nat) : ∀ n, (txt M n).testBit k = true ↔ k < n ∧ isT M k := by
  intro n; induction n with
  | zero => simp [txt]
  | succ n ih =>
    simp only [txt]
    by_cases h : M 110 n = 1 ∧ 0 < M 119 n
    · rw [if_pos h, Nat.testBit_or, Nat.testBit_two_pow, Bool.or_eq_true, ih, decide_eq_true_eq]
      constructor
      · rintro (w | w)
        · exact ⟨by omega, w.2⟩
        · subst w; exact ⟨by omega, h⟩
      · rintro ⟨w1, w2⟩
        by_cases w : n = k
        · exact Or.inr w
        · exact Or.inl ⟨by omega, w2⟩
    · rw [if_neg h, ih]
      constructor
      · rintro ⟨w1, w2⟩; exact ⟨by omega, w2⟩
      · rintro ⟨w1, w2⟩
        refine ⟨?_, w2⟩
        rcases Nat.lt_or_eq_of_le (Nat.le_of_lt_succ w1) with w | w
        · exact w
        · subst w; exact absurd w2 h
/-- facts unlike each other -/
def ulk (M : Nat → Nat → Int) (f g : Nat) : Prop := 0 < M 117 f ∧ M 117 f = M 117 g ∧ M 118 f ≠ M 118 g
theorem ulk_sy {M : Nat → Nat → Int} {f g : Nat} (h : ulk M f g) : ulk M g f := ⟨by rw [← h.2.1]; exact h.1, h.2.1.symm, fun e => h.2.2 e.symm⟩
theorem unl_lt (M : Nat → Nat → Int) (j : Nat) : ∀ n, n ≤ 10 → unl M j n < 1024 := by
  intro n; induction n with
  | zero => intro _; simp [unl]
  | succ n ih =>
    intro hn
    simp only [unl]
    have h1 := ih (by omega)
    split
    · exact Nat.or_lt_two_pow (n := 10) h1 (Nat.pow_lt_pow_right (by omega) (by omega))
    · exact h1
theorem unl_tb (M : Nat → Nat → Int) (j k : Nat) : ∀ n, (unl M j n).testBit k = true ↔ k < n ∧ M 110 k = 1 ∧ ulk M j k := by
  intro n; induction n with
  | zero => simp [unl]
  | succ n ih =>
    simp only [unl]
    by_cases h : M 110 n = 1 ∧ (0 < M 117 j ∧ M 117 j = M 117 n ∧ M 118 j ≠ M 118 n)
    · rw [if_pos h, Nat.testBit_or, Nat.testBit_two_pow, Bool.or_eq_true, ih, decide_eq_true_eq]
      constructor
      · rintro (w | w)
        · exact ⟨by omega, w.2⟩
        · subst w; exact ⟨by omega, h⟩
      · rintro ⟨w1, w2⟩
        by_cases w : n = k
        · exact Or.inr w
        · exact Or.inl ⟨by omega, w2⟩
    · rw [if_neg h, ih]
      constructor
      · rintro ⟨w1, w2⟩; exact ⟨by omega, w2⟩
      · rintro ⟨w1, w2⟩
        refine ⟨?_, w2⟩
        rcases Nat.lt_or_eq_of_le (Nat.le_of_lt_succ w1) with w | w
        · exact w
        · subst w; exact absurd w2 h
theorem unl_and {M : Nat → Nat → Int} {f S : Nat} (hS : ∀ g, S.testBit g = true → g < 10 ∧ M 110 g = 1) : unl M f 10 &&& S = 0 ↔ ∀ g, S.testBit g = true → ¬ ulk M f g := by
  constructor
  · intro h g hg hu
    have h1 : (unl M f 10 &&& S).testBit g = true := by
      rw [Nat.testBit_and, hg, (unl_tb M f g 10).mpr ⟨(hS g hg).1, (hS g hg).2, hu⟩]; rfl
    rw [h, Nat.zero_testBit] at h1; exact Bool.noConfusion h1
  · intro h
    apply Nat.eq_of_testBit_eq
    intro i
    rw [Nat.testBit_and, Nat.zero_testBit]
    cases hs : S.testBit i
    · rw [Bool.and_false]
    · cases hu : (unl M f 10).testBit i
      · rfl
      · exact absurd ((unl_tb M f i 10).mp hu).2.2 (h i hs)
theorem ot2_i (M : Nat → Nat → Int) (S f : Nat) (b : Bool) : ∀ n, ot2 M S f b n = true ↔ b = true ∧ ∀ g, g < n → S.testBit f = true → S.testBit g = true → ¬ ulk M f g := by
  intro n; induction n with
  | zero => simp [ot2]
  | succ n ih =>
    simp only [ot2, Bool.and_eq_true, ih, Bool.not_eq_true', ← Bool.not_eq_true, decide_eq_true_eq]
    constructor
    · rintro ⟨⟨w1, w2⟩, w3⟩
      refine ⟨w1, fun g hg h1 h2 h3 => ?_⟩
      rcases Nat.lt_or_eq_of_le (Nat.le_of_lt_succ hg) with w | w
      · exact w2 g w h1 h2 h3
      · subst w; exact w3 ⟨h1, h2, h3.1, h3.2.1, h3.2.2⟩
    · rintro ⟨w1, w2⟩
      exact ⟨⟨w1, fun g hg => w2 g (by omega)⟩, fun w => w2 n (by omega) w.1 w.2.1 ⟨w.2.2.1, w.2.2.2.1, w.2.2.2.2⟩⟩
theorem ot1_i (M : Nat → Nat → Int) (S : Nat) : ∀ n, ot1 M S n = true ↔ ∀ f g, f < n → g < f → S.testBit f = true → S.testBit g = true → ¬ ulk M f g := by
  intro n; induction n with
  | zero => simp [ot1]
  | succ n ih =>
    simp only [ot1]
    rw [ot2_i, ih]
    constructor
    · rintro ⟨w1, w2⟩ f g hf hg
      rcases Nat.lt_or_eq_of_le (Nat.le_of_lt_succ hf) with w | w
      · exact w1 f g w hg
      · subst w; exact w2 g hg
    · intro w
      exact ⟨fun f g hf hg => w f g (by omega) hg, fun g hg => w n g (by omega) hg⟩
theorem otm_i {M : Nat → Nat → Int} {S : Nat} (hS : S < 1024) : otm M S = true ↔ ∀ f g, S.testBit f = true → S.testBit g = true → ¬ ulk M f g := by
  have hb : ∀ f, S.testBit f = true → f < 10 := fun f hf => by
    rcases Nat.lt_or_ge f 10 with w | w
    · exact w
    · rw [Nat.testBit_lt_two_pow (Nat.lt_of_lt_of_le hS (Nat.pow_le_pow_right (n := 2) (by omega) w))] at hf; exact Bool.noConfusion hf
  unfold otm
  rw [ot1_i]
  constructor
  · intro w f g hf hg hu
    rcases Nat.lt_trichotomy f g with h | h | h
    · exact w g f (hb g hg) h hg hf (ulk_sy hu)
    · subst h; exact hu.2.2 rfl
    · exact w f g (hb f hf) h hf hg hu
  · exact fun w f g _ _ hf hg => w f g hf hg
theorem tb_10 {S f : Nat} (hS : S < 1024) (hf : S.testBit f = true) : f < 10 := by
  rcases Nat.lt_or_ge f 10 with w | w
  · exact w
  · rw [Nat.testBit_lt_two_pow (Nat.lt_of_lt_of_le hS (Nat.pow_le_pow_right (n := 2) (by omega) w))] at hf; exact Bool.noConfusion hf
theorem nxt_T {M : Nat → Nat → Int} {f : Nat} {t : Int} (ht : 0 ≤ t) (h : nxt M f t ≠ -1) : isT M f := by
  rcases nxt_bd (M := M) (f := f) ht with w | w
  · exact absurd w h
  · obtain ⟨q1, q2, _⟩ := isS_th w.2.2; exact ⟨q1, q2⟩
/-- a set with a way has texts alone -/
theorem wE_tx {K : Int} {M : Nat → Nat → Int} (hW : WFi K M) (hs : 2 ≤ M 100 2 ∧ M 100 2 ≤ 9) (hb : 0 ≤ M 100 3 ∧ M 100 3 ≤ 20) : ∀ S, S < 1024 → wE M S ≠ -1 → ∀ f, S.testBit f = true → isT M f := by
  intro S
  induction S using Nat.strongRecOn with
  | _ S ih =>
    intro hS h f hf
    have h0 : S ≠ 0 := by rintro rfl; rw [Nat.zero_testBit] at hf; exact Bool.noConfusion hf
    obtain ⟨g, hg, _, hgb, hr, hen, _⟩ := wL_sp h0 h
    by_cases e : f = g
    · subst e
      have hrb := wE_bd hW hs hb (clr S f)
      have hfr : 0 ≤ frS M (wE M) (clr S f) := by unfold frS; split <;> omega
      refine nxt_T hfr (fun e => hen ?_)
      unfold enS; rw [if_pos e]
    · have hlt := clr_lt hgb
      exact ih _ hlt (by omega) hr f (by rw [clr_tb hS hg, hf, decide_eq_false (fun q => e q.symm)]; rfl)
theorem otm_clr {M : Nat → Nat → Int} {S f : Nat} (hS : S < 1024) (hf : f < 10) (h : otm M S = true) : otm M (clr S f) = true := by
  have hl := clr_le S f
  rw [otm_i (by omega)]
  rw [otm_i hS] at h
  intro a b ha hb
  rw [clr_tb hS hf, Bool.and_eq_true] at ha hb
  exact h a b ha.1 hb.1
/-- the end of a quiet tick's gap, else the tick -/
def gE (M : Nat → Nat → Int) (u : Int) (t : Nat) : Int := if (t : Int) < M 100 1 ∧ bar M u t ((t : Int) + 1) = false then gpe M u t else t
theorem gE_in {K : Int} {M : Nat → Nat → Int} (hW : WFi K M) {u : Int} {x t : Nat} (hx : (x : Int) < M 100 1) (hq : bar M u x ((x : Int) + 1) = false) (h1 : x ≤ t) (h2 : (t : Int) < gpe M u x) : gE M u t = gpe M u x := by
  obtain ⟨a1, a2, a3, a4⟩ := gpe_sp hW (u := u) (x := x) ⟨by omega, hx⟩ hq
  have htq : bar M u t ((t : Int) + 1) = false := a2 t (by omega) h2
  obtain ⟨b1, b2, b3, b4⟩ := gpe_sp hW (u := u) (x := t) ⟨by omega, by omega⟩ htq
  unfold gE
  rw [if_pos ⟨by omega, htq⟩]
  rcases Int.lt_trichotomy (gpe M u t) (gpe M u x) with w | w | w
  · have h3 := b3 (by omega)
    rw [a2 _ (by omega) w] at h3; exact Bool.noConfusion h3
  · exact w
  · have h3 := a3 (by omega)
    rw [b2 _ (by omega) w] at h3; exact Bool.noConfusion h3
theorem gE_no {M : Nat → Nat → Int} {u : Int} {t : Nat} (h : ¬ ((t : Int) < M 100 1 ∧ bar M u t ((t : Int) + 1) = false)) : gE M u t = t := if_neg h
theorem gE_bd {K : Int} {M : Nat → Nat → Int} (hW : WFi K M) (u : Int) {t : Nat} (ht : t ≤ 900) : 0 ≤ gE M u t ∧ gE M u t ≤ 900 := by
  have hk := wf_tk hW
  unfold gE
  split
  · next h =>
    have := gpe_sp hW (u := u) (x := t) ⟨by omega, h.1⟩ h.2
    omega
  · omega
/-- many quiet ticks, by where the gap ends -/
theorem gE_bar {K : Int} {M : Nat → Nat → Int} (hW : WFi K M) {u : Int} {t : Nat} {l : Int} (hl : 1 ≤ l) (ht : (t : Int) + l ≤ M 100 1) : (t : Int) + l ≤ gE M u t ↔ bar M u t ((t : Int) + l) = false := by
  constructor
  · intro h
    have hq : (t : Int) < M 100 1 ∧ bar M u t ((t : Int) + 1) = false := by
      rcases Classical.em ((t : Int) < M 100 1 ∧ bar M u t ((t : Int) + 1) = false) with w | w
      · exact w
      · rw [gE_no w] at h; omega
    obtain ⟨b1, b2, b3, b4⟩ := gpe_sp hW (u := u) (x := t) ⟨by omega, hq.1⟩ hq.2
    rw [show gE M u t = gpe M u t from if_pos hq] at h
    rcases hb : bar M u t ((t : Int) + l) with _ | _
    · rfl
    · obtain ⟨k, q1, q2, q3, q4⟩ := bar_ex hb
      have := bar_t (M := M) (u := u) (a := t) (b := gpe M u t) q1 ⟨q2, by omega, q4⟩
      rw [b4] at this; exact Bool.noConfusion this
  · intro h
    have hq : bar M u t ((t : Int) + 1) = false := by
      rcases hb : bar M u t ((t : Int) + 1) with _ | _
      · rfl
      · obtain ⟨k, q1, q2, q3, q4⟩ := bar_ex hb
        have := bar_t (M := M) (u := u) (a := t) (b := (t : Int) + l) q1 ⟨q2, by omega, q4⟩
        rw [h] at this; exact Bool.noConfusion this
    obtain ⟨b1, b2, b3, b4⟩ := gpe_sp hW (u := u) (x := t) ⟨by omega, by omega⟩ hq
    rw [show gE M u t = gpe M u t from if_pos ⟨by omega, hq⟩]
    rcases Int.lt_or_le (gpe M u t) ((t : Int) + l) with w | w
    · obtain ⟨k, q1, q2, q3, q4⟩ := bar_ex (b3 (by omega))
      have := bar_t (M := M) (u := u) (a := t) (b := (t : Int) + l) q1 ⟨q2, by omega, by omega⟩
      rw [h] at this; exact Bool.noConfusion this
    · exact w
theorem nxt_rec {M : Nat → Nat → Int} {f t : Nat} : nxt M f t = if isS M f t = true then (t : Int) else nxt M f ((t : Int) + 1) := by
  unfold nxt
  by_cases h : M 100 1 < (t : Int)
  · rw [if_pos h, if_pos (show M 100 1 < (t : Int) + 1 by omega)]
    rw [if_neg (fun q => by have := isS_en q; unfold isS canM at q; simp only [Bool.and_eq_true, decide_eq_true_eq] at q; omega)]
  · rw [if_neg h]
    by_cases h2 : (t : Int) = M 100 1
    · rw [if_neg (fun q => by unfold isS canM at q; simp only [Bool.and_eq_true, decide_eq_true_eq] at q; omega), if_pos (show M 100 1 < (t : Int) + 1 by omega), show (M 100 1 - (t : Int)).toNat = 0 by omega]
      rfl
    · rw [if_neg (show ¬ M 100 1 < (t : Int) + 1 by omega)]
      obtain ⟨n, hn⟩ : ∃ n : Nat, M 100 1 - (t : Int) = (n : Int) + 1 := ⟨(M 100 1 - (t : Int) - 1).toNat, by omega⟩
      rw [show (M 100 1 - (t : Int)).toNat = n + 1 by omega, show (M 100 1 - ((t : Int) + 1)).toNat = n by omega]
      simp only [nxw]
      rw [show M 100 1 - ((n : Int) + 1) = t by omega]
theorem nxt_out {M : Nat → Nat → Int} {f : Nat} {t : Int} (h : M 100 1 < t) : nxt M f t = -1 := if_pos h
