/-! the model's calls: live to isSound -/
/-- bounds of the stage and the marks -/
def WFs (K : Int) (M : Nat → Nat → Int) : Prop := (M 100 47 = 0 ∨ M 100 47 = 1) ∧ (M 100 48 = 0 ∨ M 100 48 = 1) ∧ (-1 ≤ M 100 50 ∧ M 100 50 ≤ 9) ∧ (0 ≤ M 100 51 ∧ M 100 51 ≤ 500) ∧ (0 ≤ M 100 52 ∧ M 100 52 ≤ K) ∧
  (∀ j, j < 10 → M 150 j = 0 ∨ M 150 j = 1) ∧ (∀ j, j < 10 → 0 ≤ M 154 j ∧ M 154 j ≤ 3) ∧ (∀ i, i < 60 → 0 ≤ M 155 i ∧ M 155 i ≤ 11)
def lvz (M : Nat → Nat → Int) : Nat → Nat → Nat → Int
  | 0 => am_u (am_u (am_u (am_u (am_u M 100 0 0) 100 47 1) 100 48 0) 100 50 (-1)) 100 52 1000
  | k + 1 => am_u (am_u (lvz M k) 150 k 0) 154 k 0
def lvn (M : Nat → Nat → Int) : Nat → Int
  | 0 => 0
  | k + 1 => lvn M k + (if M 110 k ≠ 0 ∧ 0 < M 119 k then 1 else 0)
def d_live (M : Nat → Nat → Int) : (Nat → Nat → Int) × Int := (lvz M 10, lvn M 10)
def d_speak (M : Nat → Nat → Int) (u : Int) : (Nat → Nat → Int) × Int := if M 100 47 = 0 then dno M 1 else
  (if u ≠ 0 ∧ M 100 50 ≠ -1 then am_u (am_u (am_u (am_u (am_u M 100 0 0) 100 48 u) 154 (M 100 50).toNat 3) 100 50 (-1)) 100 52 0 else am_u (am_u M 100 0 0) 100 48 u, M 100 48)
def d_call (M : Nat → Nat → Int) (w : Int) : (Nat → Nat → Int) × Int := if M 100 47 = 0 then dno M 1 else if ¬ (0 ≤ w ∧ w ≤ 9) then dno M 2 else (am_u (am_u M 100 0 0) 150 w.toNat 1, M 150 w.toNat)
/-- can a fact be cued -/
def cuc (M : Nat → Nat → Int) (f : Nat) : Prop := 0 < M 119 f ∧ M 100 50 = -1 ∧ M 100 48 = 0 ∧ M 100 3 ≤ M 100 52 ∧ M 154 f ≠ 2 ∧ (M 116 f = 0 ∨ M 150 (M 116 f - 1).toNat ≠ 0)
def d_cue (M : Nat → Nat → Int) (f : Int) : (Nat → Nat → Int) × Int := if M 100 47 = 0 then dno M 1 else if ¬ (0 ≤ f ∧ f ≤ 9 ∧ M 110 f.toNat = 1) then dno M 2 else
  if 0 < M 119 f.toNat ∧ M 100 50 = -1 ∧ M 100 48 = 0 ∧ M 100 3 ≤ M 100 52 ∧ M 154 f.toNat ≠ 2 ∧ (M 116 f.toNat = 0 ∨ M 150 (M 116 f.toNat - 1).toNat ≠ 0) then
  (am_u (am_u (am_u (am_u M 100 0 0) 100 50 f) 100 51 (lng M f.toNat 0)) 154 f.toNat 1, lng M f.toNat 0) else dno M 3
/-- one tick -/
def tks (r : (Nat → Nat → Int) × Int) : (Nat → Nat → Int) × Int :=
  if r.1 100 48 = 0 ∧ r.1 100 50 ≠ -1 then
    (if r.1 100 51 - 1 = 0 then (am_u (am_u (am_u (am_u (am_u r.1 100 52 (r.1 100 52 + 1)) 100 51 (r.1 100 51 - 1)) 154 (r.1 100 50).toNat 2) 100 50 (-1)) 100 52 0, r.2 + 1)
     else (am_u (am_u r.1 100 52 (r.1 100 52 + 1)) 100 51 (r.1 100 51 - 1), r.2))
  else (am_u r.1 100 52 (r.1 100 52 + 1), r.2)
def tkn (M : Nat → Nat → Int) : Nat → (Nat → Nat → Int) × Int
  | 0 => (am_u M 100 0 0, 0)
  | k + 1 => tks (tkn M k)
def d_tick (M : Nat → Nat → Int) (m : Int) : (Nat → Nat → Int) × Int := if M 100 47 = 0 then dno M 1 else if ¬ (1 ≤ m ∧ m ≤ 200) then dno M 2 else tkn M m.toNat
def tol (x : Int) : Int := if x = 0 then 45 else if x = 1 then 117 else if x = 2 then 116 else 108
def d_told (M : Nat → Nat → Int) (f : Int) : (Nat → Nat → Int) × Int := if M 100 47 = 0 then (am_u M 100 0 1, 32) else if ¬ (0 ≤ f ∧ f ≤ 9 ∧ M 110 f.toNat = 1) then (am_u M 100 0 2, 32) else (am_u M 100 0 0, tol (M 154 f.toNat))
def d_mark (M : Nat → Nat → Int) (f l m : Int) : (Nat → Nat → Int) × Int := if ¬ (0 ≤ f ∧ f ≤ 9 ∧ M 110 f.toNat = 1) then dno M 1 else if ¬ ((0 ≤ l ∧ l ≤ 5) ∧ 0 ≤ m ∧ m ≤ 10) then dno M 2 else
  (am_u (am_u M 100 0 0) 155 (f * 6 + l).toNat (m + 1), M 155 (f * 6 + l).toNat - 1)
/-- marks of a fact: how many, the sum, the greatest, the least -/
def rvw (M : Nat → Nat → Int) (f : Nat) : Nat → Int × Int × Int × Int
  | 0 => (0, 0, -1, 11)
  | k + 1 => if M 155 (f * 6 + k) - 1 < 0 then rvw M f k else
    ((rvw M f k).1 + 1, (rvw M f k).2.1 + (M 155 (f * 6 + k) - 1), if (rvw M f k).2.2.1 < M 155 (f * 6 + k) - 1 then M 155 (f * 6 + k) - 1 else (rvw M f k).2.2.1, if M 155 (f * 6 + k) - 1 < (rvw M f k).2.2.2 then M 155 (f * 6 + k) - 1 else (rvw M f k).2.2.2)
def d_review (M : Nat → Nat → Int) (f : Int) : (Nat → Nat → Int) × Int := if ¬ (0 ≤ f ∧ f ≤ 9 ∧ M 110 f.toNat = 1) then dno M 1 else if (rvw M f.toNat 6).1 < 3 then dno M 2 else
  (am_u M 100 0 0, 100 * ((rvw M f.toNat 6).2.1 - (rvw M f.toNat 6).2.2.1 - (rvw M f.toNat 6).2.2.2) / ((rvw M f.toNat 6).1 - 2))
def cs1 (M : Nat → Nat → Int) : Nat → Int
  | 0 => 7
  | k + 1 => 31 * (31 * cs1 M k + M 107 k) + M 108 k
def cs2 (M : Nat → Nat → Int) : Nat → Int
  | 0 => cs1 M (M 100 4).toNat
  | k + 1 => if M 110 k = 0 then cs2 M k else 31 * (31 * cs2 M k + k) + M 112 k
def cks (M : Nat → Nat → Int) : Int := 31 * cs2 M 10 + M 100 1
theorem rvw_bd {K : Int} {M : Nat → Nat → Int} (hW : WFs K M) {f : Nat} (hf : f < 10) : ∀ k, k ≤ 6 → (0 ≤ (rvw M f k).1 ∧ (rvw M f k).1 ≤ k) ∧ (0 ≤ (rvw M f k).2.1 ∧ (rvw M f k).2.1 ≤ 10 * k) ∧ ((rvw M f k).1 = 0 → (rvw M f k).2.1 = 0 ∧ (rvw M f k).2.2.1 = -1 ∧ (rvw M f k).2.2.2 = 11) ∧
    (1 ≤ (rvw M f k).1 → 0 ≤ (rvw M f k).2.2.1 ∧ (rvw M f k).2.2.1 ≤ (rvw M f k).2.1 ∧ 0 ≤ (rvw M f k).2.2.2 ∧ (rvw M f k).2.2.2 ≤ (rvw M f k).2.2.1 ∧ (rvw M f k).2.2.1 ≤ 10) ∧
    ((rvw M f k).1 = 1 → (rvw M f k).2.2.1 = (rvw M f k).2.1 ∧ (rvw M f k).2.2.2 = (rvw M f k).2.1) ∧ (2 ≤ (rvw M f k).1 → (rvw M f k).2.2.1 + (rvw M f k).2.2.2 ≤ (rvw M f k).2.1) := by
  intro k; induction k with
  | zero => intro _; simp [rvw]
  | succ k ih =>
    intro hk
    have h1 := ih (by omega)
    have h2 := hW.2.2.2.2.2.2.2 (f * 6 + k) (by omega)
    simp only [rvw]
    by_cases h : M 155 (f * 6 + k) - 1 < 0
    · rw [if_pos h]; omega
    · rw [if_neg h]
      generalize (rvw M f k).1 = a at *
      generalize (rvw M f k).2.1 = b at *
      generalize (rvw M f k).2.2.1 = c at *
      generalize (rvw M f k).2.2.2 = e at *
      generalize M 155 (f * 6 + k) = x at *
      dsimp only
      split <;> split <;> omega
section
variable {st : List Value} {B : Nat} {I C : am_I} {P : am_P} {G : am_G} {k s d : Nat} {Q : am_Q} {M : Nat → Nat → Int} {K : Int}
end
