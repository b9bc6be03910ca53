/-! the model's calls: version, ticks, gaps, gapAt -/
def bgn (M : Nat → Nat → Int) (u t : Int) : Bool := !bar M u t (t + 1) && (decide (t = 0) || bar M u (t - 1) t)
def gcn (M : Nat → Nat → Int) (u : Int) : Nat → Int
  | 0 => 0
  | k + 1 => gcn M u k + (if bgn M u k then 1 else 0)
theorem gcn_bd (M : Nat → Nat → Int) (u : Int) (k : Nat) : 0 ≤ gcn M u k ∧ gcn M u k ≤ k := by
  induction k with
  | zero => simp [gcn]
  | succ k ih => simp only [gcn]; split <;> omega
def d_gaps (M : Nat → Nat → Int) (u : Int) : (Nat → Nat → Int) × Int := (am_u M 100 0 0, gcn M u (M 100 1).toNat)
theorem bgn_fa {M M' : Nat → Nat → Int} (h : FA M M') (u t : Int) : bgn M' u t = bgn M u t := by unfold bgn; rw [bar_fa h, bar_fa h]
theorem gcn_fa {M M' : Nat → Nat → Int} (h : FA M M') (u : Int) (n : Nat) : gcn M' u n = gcn M u n := by
  induction n with
  | zero => rfl
  | succ n ih => simp only [gcn]; rw [ih, bgn_fa h]
theorem bgn_fa_0 {M : Nat → Nat → Int} (x u t : Int) : bgn (am_u M 100 0 x) u t = bgn M u t := bgn_fa (FA_0 x) u t
/-- the first tick that isn't barred no more -/
def gen (M : Nat → Nat → Int) (u : Int) : Nat → Nat → Nat
  | 0, e => e
  | n + 1, e => if bar M u e (e + 1) then e else gen M u n (e + 1)
/-- the gap of an index, from a tick on: its first tick -/
def gsr (M : Nat → Nat → Int) (u ix : Int) : Nat → Nat → Int → Option Nat
  | 0, _, _ => none
  | n + 1, t, c => if bgn M u t then (if c = ix then some t else gsr M u ix n (t + 1) (c + 1)) else gsr M u ix n (t + 1) c
def d_gapAt (M : Nat → Nat → Int) (u ix w : Int) : (Nat → Nat → Int) × Int := match gsr M u ix (M 100 1).toNat 0 0 with
  | none => (am_u M 100 0 1, 0)
  | some t => (am_u M 100 0 0, if w = 0 then ((gen M u ((M 100 1).toNat - t) t : Nat) : Int) else t)
section
variable {st : List Value} {B : Nat} {I C : am_I} {P : am_P} {G : am_G} {k s d : Nat} {Q : am_Q} {M : Nat → Nat → Int} {K : Int}
theorem nvc_0 {f v : Int} (h : nvc M f v = 0) : (0 ≤ f ∧ f ≤ 9 ∧ M 110 f.toNat = 1) ∧ 0 ≤ v ∧ v ≤ M 119 f.toNat - 1 := by
  unfold nvc at h
  split at h
  · next h1 =>
    split at h
    · next h2 => exact ⟨h1, h2⟩
    · omega
  · omega
end
