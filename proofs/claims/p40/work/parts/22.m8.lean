/-! the model's calls: gapAt, canStart, firstStart -/
/-- may a version start at a tick -/
def canM (M : Nat → Nat → Int) (f v : Nat) (t : Int) : Bool := decide (0 ≤ t ∧ t < M 100 1) && (decide (t + lng M f v ≤ M 100 1) && (decide (M 111 f - M 114 f ≤ t) &&
  (decide (M 116 f = 0 ∨ (0 < M 109 (M 116 f - 1).toNat ∧ M 109 (M 116 f - 1).toNat - 1 ≤ t)) && (decide (t + lng M f v ≤ M 112 f) && !bar M (if M 115 f = 0 then 1 else 0) t (t + lng M f v)))))
theorem canM_fa {M M' : Nat → Nat → Int} (h : FA M M') (f v : Nat) (t : Int) : canM M' f v t = canM M f v t := by
  unfold canM
  rw [lng_fa h, bar_fa h, h.1.1, h.2 111 (by omega) (by omega), h.2 114 (by omega) (by omega), h.2 116 (by omega) (by omega), h.2 109 (by omega) (by omega), h.2 112 (by omega) (by omega), h.2 115 (by omega) (by omega)]
def d_canStart (M : Nat → Nat → Int) (f v t : Int) : (Nat → Nat → Int) × Int := (am_u M 100 0 (nvc M f v), if nvc M f v = 0 ∧ canM M f.toNat v.toNat t = true then 1 else 0)
/-- the first tick at which it may start, from one on -/
def fsr (M : Nat → Nat → Int) (f v : Nat) : Nat → Nat → Nat
  | 0, t => t
  | n + 1, t => if canM M f v t then t else fsr M f v n (t + 1)
theorem fsr_fa {M M' : Nat → Nat → Int} (h : FA M M') (f v : Nat) : ∀ n t, fsr M' f v n t = fsr M f v n t := by
  intro n; induction n with
  | zero => intro t; rfl
  | succ n ih => intro t; simp only [fsr]; rw [canM_fa h, ih]
/-- the search for a start -/
def fst (M : Nat → Nat → Int) (f v t : Int) : Int := (fsr M f.toNat v.toNat ((M 100 1).toNat - t.toNat) t.toNat : Nat)
def d_firstStart (M : Nat → Nat → Int) (f v t : Int) : (Nat → Nat → Int) × Int :=
  if nvc M f v ≠ 0 then dno M (nvc M f v) else if fst M f v t < M 100 1 then (am_u M 100 0 0, fst M f v t) else dno M 2
section
variable {st : List Value} {B : Nat} {I C : am_I} {P : am_P} {G : am_G} {k s d : Nat} {Q : am_Q} {M : Nat → Nat → Int} {K : Int}
end
