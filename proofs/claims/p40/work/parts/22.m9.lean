/-! the model's calls: canStart, firstStart; weights, ones, one term -/
def wof (M : Nat → Nat → Int) (S : Nat) : Nat → Int
  | 0 => 0
  | k + 1 => wof M S k + (if S.testBit k then M 113 k else 0)
def wgt (M : Nat → Nat → Int) (S : Nat) : Int := wof M S 10
def onz (S : Nat) : Nat → Int
  | 0 => 0
  | k + 1 => onz S k + (if S.testBit k then 1 else 0)
def ons (S : Nat) : Int := onz S 10
def clr (S f : Nat) : Nat := if S.testBit f then S - 2 ^ f else S
theorem bit_sh0 : ∀ S : Nat, S < 1024 → ∀ f : Nat, f < 10 → iI (S : Int) >>> (iI (f : Int) &&& iI 31) &&& iI 1 = bI (S.testBit f) := by decide +kernel
theorem bit_cl0 : ∀ S : Nat, S < 1024 → ∀ f : Nat, f < 10 → iI (S : Int) &&& ((iI 1 <<< (iI (f : Int) &&& iI 31)) ^^^ iI (-1)) = iI ((clr S f : Nat) : Int) := by decide +kernel
theorem bit_sh {S f : Nat} (h : S < 1024 ∧ f < 10) : iI (S : Int) >>> (iI (f : Int) &&& iI 31) &&& iI 1 = bI (S.testBit f) := bit_sh0 S h.1 f h.2
theorem bit_cl {S f : Nat} (h : S < 1024 ∧ f < 10) : iI (S : Int) &&& ((iI 1 <<< (iI (f : Int) &&& iI 31)) ^^^ iI (-1)) = iI ((clr S f : Nat) : Int) := bit_cl0 S h.1 f h.2
def ot2 (M : Nat → Nat → Int) (S f : Nat) (b : Bool) : Nat → Bool
  | 0 => b
  | g + 1 => ot2 M S f b g && !(S.testBit f && (S.testBit g && (decide (0 < M 117 f) && (decide (M 117 f = M 117 g) && decide (M 118 f ≠ M 118 g)))))
def ot1 (M : Nat → Nat → Int) (S : Nat) : Nat → Bool
  | 0 => true
  | f + 1 => ot2 M S f (ot1 M S f) f
def otm (M : Nat → Nat → Int) (S : Nat) : Bool := ot1 M S 10
theorem bI_i {b : Bool} : bI b = iI (if b then 1 else 0) := by cases b <;> rfl
theorem wof_bd {K : Int} {M : Nat → Nat → Int} (hW : WFi K M) (S : Nat) : ∀ k, k ≤ 10 → 0 ≤ wof M S k ∧ wof M S k ≤ 99 * k := by
  intro k; induction k with
  | zero => intro _; simp [wof]
  | succ k ih => intro h; have := ih (by omega); have := wf_wt hW k (by omega); simp only [wof]; split <;> omega
theorem onz_bd (S : Nat) : ∀ k, 0 ≤ onz S k ∧ onz S k ≤ k := by
  intro k; induction k with
  | zero => simp [onz]
  | succ k ih => simp only [onz]; split <;> omega
section
variable {st : List Value} {B : Nat} {I C : am_I} {P : am_P} {G : am_G} {k s d : Nat} {Q : am_Q} {M : Nat → Nat → Int} {K : Int}
end
