/-! the model's calls: film to named, voice -/
def fit1 (M : Nat → Nat → Int) (t : Int) : Nat → Bool
  | 0 => true
  | k + 1 => fit1 M t k && decide (M 108 k ≤ t)
def fit2 (M : Nat → Nat → Int) (t : Int) (b : Bool) : Nat → Bool
  | 0 => b
  | k + 1 => fit2 M t b k && (decide (M 110 k = 0) || decide (M 112 k ≤ t))
def fits (M : Nat → Nat → Int) (t : Int) : Bool := fit2 M t (fit1 M t (M 100 4).toNat) 10
/-- a refusal -/
def dno (M : Nat → Nat → Int) (c : Int) : (Nat → Nat → Int) × Int := (am_u M 100 0 c, 0)
/-- nothing is thrown, the plan is forgotten -/
def dch (M : Nat → Nat → Int) : Nat → Nat → Int := am_u M 100 20 0
def d_film (M : Nat → Nat → Int) (t : Int) : (Nat → Nat → Int) × Int :=
  if ¬ (1 ≤ t ∧ t ≤ 900) then dno M 1 else if fits M t = false then dno M 2 else (dch (am_u (am_u M 100 0 0) 100 1 t), M 100 1)
def d_sound (M : Nat → Nat → Int) (c a b : Int) : (Nat → Nat → Int) × Int :=
  if ¬ ((c = 115 ∨ c = 103 ∨ c = 110) ∧ 0 ≤ a ∧ a ≤ b - 1 ∧ b ≤ M 100 1) then dno M 1 else if M 100 4 = 30 then dno M 2 else
  (dch (am_u (am_u (am_u (am_u (am_u M 100 0 0) 106 (M 100 4).toNat c) 107 (M 100 4).toNat a) 108 (M 100 4).toNat b) 100 4 (M 100 4 + 1)), M 100 4 + 1)
def d_sounds (M : Nat → Nat → Int) : (Nat → Nat → Int) × Int := (am_u M 100 0 0, M 100 4)
def d_unsound (M : Nat → Nat → Int) : (Nat → Nat → Int) × Int :=
  if M 100 4 = 0 then dno M 1 else (dch (am_u (am_u M 100 0 0) 100 4 (M 100 4 - 1)), M 100 4 - 1)
def d_named (M : Nat → Nat → Int) (w t : Int) : (Nat → Nat → Int) × Int :=
  if ¬ ((0 ≤ w ∧ w ≤ 9) ∧ -1 ≤ t ∧ t ≤ M 100 1 - 1) then dno M 1 else (dch (am_u (am_u M 100 0 0) 109 w.toNat (t + 1)), M 109 w.toNat - 1)
def d_voice (M : Nat → Nat → Int) (a b : Int) : (Nat → Nat → Int) × Int :=
  if ¬ ((2 ≤ a ∧ a ≤ 9) ∧ 0 ≤ b ∧ b ≤ 20) then dno M 1 else (dch (am_u (am_u (am_u M 100 0 0) 100 2 a) 100 3 b), M 100 2)
section
variable {st : List Value} {B : Nat} {I C : am_I} {P : am_P} {G : am_G} {k s d : Nat} {Q : am_Q} {M : Nat → Nat → Int} {K : Int}
/-- a contract's end -/
def mq (B : Nat) (C : am_I) (P : am_P) (G : am_G) (r : (Nat → Nat → Int) × Int) : am_Q := am_one (.inl (some (.int (iI r.2)))) B (iM r.1 C) P G
theorem mq_q {r : (Nat → Nat → Int) × Int} : mq B C P G r (.inl (some (.int (iI r.2)))) B (iM r.1 C) P G := am_q
theorem mq_e {r : (Nat → Nat → Int) × Int} {N : Nat → Nat → Int} {v : Int} (h : r = (N, v)) : mq B C P G r (.inl (some (.int (iI v)))) B (iM N C) P G := by subst h; exact am_q
end
