/-! the model's calls: sound, named, voice, facts, fact, goes, drop -/
theorem iI_char {a : Int} (h : 0 ≤ a ∧ a ≤ 65535) : iI a = ((iI a).toUInt32 % 65536).toInt32 := by
  obtain ⟨n, rfl⟩ := Int.eq_ofNat_of_zero_le h.1
  rw [pk_char, ← iI_nI]
  have : (nI n).toBitVec.toNat = n := by
    show (BitVec.ofNat 32 n).toNat = n
    rw [BitVec.toNat_ofNat]; omega
  rw [this, Nat.mod_eq_of_lt (by omega)]
theorem iI_okc {a : Int} (h : 0 ≤ a ∧ a ≤ 65535) : am_okx .char (iI a) ↔ True := ⟨fun _ => trivial, fun _ => iI_char h⟩
theorem iI_chq {a : Int} (h : 0 ≤ a ∧ a ≤ 65535) : (iI a = ((iI a).toUInt32 % 65536).toInt32) ↔ True := ⟨fun _ => trivial, fun _ => iI_char h⟩
/-- how many of the first ones are there -/
def fcn (M : Nat → Nat → Int) : Nat → Int
  | 0 => 0
  | k + 1 => fcn M k + (if M 110 k = 0 then 0 else 1)
theorem fcn_bd (M : Nat → Nat → Int) (k : Nat) : 0 ≤ fcn M k ∧ fcn M k ≤ k := by
  induction k with
  | zero => simp [fcn]
  | succ k ih => simp only [fcn]; split <;> omega
/-- the first that isn't there, from one on -/
def ffd (M : Nat → Nat → Int) : Nat → Nat → Nat
  | 0, f => f
  | n + 1, f => if M 110 f = 0 then f else ffd M n (f + 1)
def d_fact (M : Nat → Nat → Int) (a b w e o : Int) : (Nat → Nat → Int) × Int :=
  if ¬ ((0 ≤ a ∧ a ≤ b - 1) ∧ b ≤ M 100 1 ∧ (1 ≤ w ∧ w ≤ 99) ∧ 0 ≤ e ∧ e ≤ 60) then dno M 1 else if fcn M 10 = 10 then dno M 2 else
  (dch (am_u (am_u (am_u (am_u (am_u (am_u (am_u (am_u (am_u (am_u (am_u M 100 0 0) 110 (ffd M 10 0) 1) 111 (ffd M 10 0) a) 112 (ffd M 10 0) b) 113 (ffd M 10 0) w) 114 (ffd M 10 0) e) 115 (ffd M 10 0) o) 116 (ffd M 10 0) 0) 117 (ffd M 10 0) 0) 118 (ffd M 10 0) 0) 119 (ffd M 10 0) 0), ffd M 10 0)
/-- marks of a fact are cleared -/
def mkz (M : Nat → Nat → Int) (f : Nat) : Nat → Nat → Nat → Int
  | 0 => M
  | k + 1 => am_u (mkz M f k) 155 (f * 6 + k) 0
def goe0 (M : Nat → Nat → Int) (f : Nat) : Nat → Nat → Int := am_u (am_u M 110 f 0) 154 f 0
def goe1 (M : Nat → Nat → Int) (f : Nat) : Nat → Nat → Int := if M 100 50 = f then am_u (am_u (goe0 M f) 100 50 (-1)) 100 52 0 else goe0 M f
def goes (M : Nat → Nat → Int) (f : Nat) : Nat → Nat → Int := mkz (goe1 M f) f 6
/-- is it a fact -/
def isF (M : Nat → Nat → Int) (f : Int) : Prop := 0 ≤ f ∧ f ≤ 9 ∧ M 110 f.toNat = 1
def d_drop (M : Nat → Nat → Int) (f : Int) : (Nat → Nat → Int) × Int :=
  if ¬ (0 ≤ f ∧ f ≤ 9 ∧ M 110 f.toNat = 1) then dno M 1 else (dch (goes (am_u M 100 0 0) f.toNat), fcn (goes (am_u M 100 0 0) f.toNat) 10)
section
variable {st : List Value} {B : Nat} {I C : am_I} {P : am_P} {G : am_G} {k s d : Nat} {Q : am_Q} {M : Nat → Nat → Int} {K : Int}
end
