/-! the model's calls: weight to canTell -/
def d_weight (M : Nat → Nat → Int) : (Nat → Nat → Int) × Int := if M 100 20 = 0 then dno M 1 else (am_u M 100 0 0, wgt M (M 100 22).toNat)
/-- the weight of those that aren't in a set -/
def lof (M : Nat → Nat → Int) (S : Nat) : Nat → Int
  | 0 => 0
  | k + 1 => lof M S k + (if M 110 k ≠ 0 ∧ S.testBit k = false then M 113 k else 0)
def d_loss (M : Nat → Nat → Int) : (Nat → Nat → Int) × Int := if M 100 20 = 0 then dno M 1 else (am_u M 100 0 0, lof M (M 100 22).toNat 10)
def d_planned (M : Nat → Nat → Int) (x : Int) : (Nat → Nat → Int) × Int := if M 100 20 = 0 then dno M 1 else if ¬ (0 ≤ x ∧ x ≤ M 100 21 - 1) then dno M 2 else (am_u M 100 0 0, M 124 x.toNat)
/-- what is thrown for a fact of the plan -/
def npc (M : Nat → Nat → Int) (f : Int) : Int := if M 100 20 = 0 then 1 else if ¬ (0 ≤ f ∧ f ≤ 9 ∧ M 110 f.toNat = 1) then 2 else if (M 100 22).toNat.testBit f.toNat = false then 3 else 0
def d_start (M : Nat → Nat → Int) (f : Int) : (Nat → Nat → Int) × Int := if npc M f = 0 then (am_u M 100 0 0, M 125 f.toNat) else dno M (npc M f)
def d_versionOf (M : Nat → Nat → Int) (f : Int) : (Nat → Nat → Int) × Int := if npc M f = 0 then (am_u M 100 0 0, M 126 f.toNat) else dno M (npc M f)
/-- are the facts of a set there -/
def cta (M : Nat → Nat → Int) (S : Nat) : Nat → Bool
  | 0 => true
  | k + 1 => cta M S k && (!(S.testBit k) || decide (M 110 k ≠ 0))
def ctc (M : Nat → Nat → Int) (S : Int) : Bool := decide (0 ≤ S ∧ S ≤ 1023) && cta M S.toNat 10
section
variable {st : List Value} {B : Nat} {I C : am_I} {P : am_P} {G : am_G} {k s d : Nat} {Q : am_Q} {M : Nat → Nat → Int} {K : Int}
def mpd (t a m : Int) : Int := if t < a then t else if t < a + m then a else t - m
end
