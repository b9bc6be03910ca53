/-! PRELUDE of the contracts: ints by whole numbers -/
def iI (z : Int) : Int32 := Int32.ofInt z
def lI (z : Int) : Int64 := Int64.ofInt z
def bI (b : Bool) : Int32 := if b then iI 1 else iI 0
theorem iI_lit (n : Nat) [NeZero n] : (OfNat.ofNat n : Int32) = iI (OfNat.ofNat n) := rfl
theorem iI_0 : (0 : Int32) = iI 0 := rfl
theorem iI_1 : (1 : Int32) = iI 1 := rfl
theorem iI_m1 : (-1 : Int32) = iI (-1) := by decide +kernel
theorem iI_nI (n : Nat) : nI n = iI n := (Int32.ofInt_eq_ofNat).symm
theorem iI_add (a b : Int) : iI a + iI b = iI (a + b) := (Int32.ofInt_add a b).symm
theorem iI_sub (a b : Int) : iI a - iI b = iI (a - b) := (Int32.ofInt_sub a b).symm
theorem iI_mul (a b : Int) : iI a * iI b = iI (a * b) := (Int32.ofInt_mul a b).symm
theorem iI_neg (a : Int) : - iI a = iI (- a) := (Int32.ofInt_neg a).symm
theorem iI_toInt {a : Int} (h : -2147483648 ≤ a ∧ a ≤ 2147483647) : (iI a).toInt = a := Int32.toInt_ofInt_of_le (by omega) (by omega)
theorem iI_self (x : Int32) : iI x.toInt = x := Int32.ofInt_toInt x
theorem iI_of (x : Int32) : ∃ a : Int, x = iI a ∧ -2147483648 ≤ a ∧ a ≤ 2147483647 := ⟨x.toInt, (iI_self x).symm, by have := x.le_toInt; omega, by have := x.toInt_lt; omega⟩
theorem iI_lt {a b : Int} (h : (-2147483648 ≤ a ∧ a ≤ 2147483647) ∧ -2147483648 ≤ b ∧ b ≤ 2147483647) : iI a < iI b ↔ a < b := by rw [Int32.lt_iff_toInt_lt, iI_toInt h.1, iI_toInt h.2]
theorem iI_le {a b : Int} (h : (-2147483648 ≤ a ∧ a ≤ 2147483647) ∧ -2147483648 ≤ b ∧ b ≤ 2147483647) : iI a ≤ iI b ↔ a ≤ b := by rw [Int32.le_iff_toInt_le, iI_toInt h.1, iI_toInt h.2]
theorem iI_eq {a b : Int} (h : (-2147483648 ≤ a ∧ a ≤ 2147483647) ∧ -2147483648 ≤ b ∧ b ≤ 2147483647) : iI a = iI b ↔ a = b := ⟨fun e => by rw [← iI_toInt h.1, e, iI_toInt h.2], fun e => by rw [e]⟩
theorem iI_clamp {a : Int} (h : 0 ≤ a ∧ a ≤ 2147483647) : (iI a).toNatClampNeg = a.toNat := by rw [← Int32.toNat_toInt, iI_toInt ⟨by omega, h.2⟩]
theorem iI_in {a : Int} {n : Nat} (h : 0 ≤ a ∧ a < n ∧ a ≤ 2147483647) : vp_in (iI a) n := by
  have h1 : (iI a).toNatClampNeg = a.toNat := iI_clamp ⟨h.1, h.2.2⟩
  unfold vp_in
  rw [h1, iI_0, iI_lt ⟨⟨by omega, by omega⟩, by omega, by omega⟩]
  omega
theorem bI_ok {b : Bool} : bI b = 0 ∨ bI b = 1 := by cases b; exact Or.inl rfl; exact Or.inr rfl
theorem bI_0 {b : Bool} : bI b = iI 0 ↔ b = false := by cases b <;> decide +kernel
theorem bI_1 {b : Bool} : bI b = iI 1 ↔ b = true := by cases b <;> decide +kernel
theorem bI_f : iI 0 = bI false := rfl
theorem bI_t : iI 1 = bI true := rfl
theorem bI_inj {a b : Bool} : bI a = bI b ↔ a = b := by cases a <;> cases b <;> decide +kernel
theorem bI_ok0 : iI 0 = 0 ∨ iI 0 = 1 := Or.inl rfl
theorem bI_ok1 : iI 1 = 0 ∨ iI 1 = 1 := Or.inr rfl
theorem nat_toNat (n : Nat) : ((n : Int)).toNat = n := rfl
/-! heaps -/
theorem am_u_eq {α : Type} (f : Nat → Nat → α) (a i : Nat) (x : α) : am_u f a i x a i = x := by simp [am_u]
theorem am_u_na {α : Type} (f : Nat → Nat → α) {a b : Nat} (i j : Nat) (x : α) (h : b ≠ a) : am_u f a i x b j = f b j := by simp [am_u, h]
theorem am_u_ni {α : Type} (f : Nat → Nat → α) (a b : Nat) {i j : Nat} (x : α) (h : j ≠ i) : am_u f a i x b j = f b j := by simp [am_u, h]
theorem am_c_eq {α : Type} (f : Nat → Nat → α) (a j : Nat) (x : α) : am_c f a x a j = x := by simp [am_c]
theorem am_c_na {α : Type} (f : Nat → Nat → α) {a b : Nat} (j : Nat) (x : α) (h : b ≠ a) : am_c f a x b j = f b j := by simp [am_c, h]
/-! calls -/
theorem am_k5 {p : Option Value → Nat → am_I → am_P → am_G → Prop} {w : Option Value} {B : Nat} {I : am_I} {P : am_P} {G : am_G} (h : p w B I P G) : ∀ v B' I' P' G', am_one (.inl w) B I P G (.inl v) B' I' P' G' → p v B' I' P' G' := by
  rintro v B' I' P' G' ⟨e, rfl, rfl, rfl, rfl⟩; cases e; exact h
theorem am_k5x {p : Option Value → Nat → am_I → am_P → am_G → Prop} {x : Nat} {B : Nat} {I : am_I} {P : am_P} {G : am_G} : ∀ v B' I' P' G', am_one (.inr x) B I P G (.inl v) B' I' P' G' → p v B' I' P' G' := by
  rintro v B' I' P' G' ⟨e, _⟩; cases e
theorem am_k6 {p : Nat → Nat → am_I → am_P → am_G → Prop} {w : Option Value} {B : Nat} {I : am_I} {P : am_P} {G : am_G} : ∀ x B' I' P' G', am_one (.inl w) B I P G (.inr x) B' I' P' G' → p x B' I' P' G' := by
  rintro v B' I' P' G' ⟨e, _⟩; cases e
theorem am_k6x {p : Nat → Nat → am_I → am_P → am_G → Prop} {x : Nat} {B : Nat} {I : am_I} {P : am_P} {G : am_G} (h : p x B I P G) : ∀ v B' I' P' G', am_one (.inr x) B I P G (.inr v) B' I' P' G' → p v B' I' P' G' := by
  rintro v B' I' P' G' ⟨e, rfl, rfl, rfl, rfl⟩; cases e; exact h
theorem am_q {o : am_O} {B : Nat} {I : am_I} {P : am_P} {G : am_G} : am_one o B I P G o B I P G := ⟨rfl, rfl, rfl, rfl, rfl⟩
theorem am_cat_ref {a : Nat} : (Value.ref a).category = 1 := rfl
theorem am_cat_int {x : Int32} : (Value.int x).category = 1 := rfl
theorem am_cat_null : Value.null.category = 1 := rfl
/-- down from the end -/
theorem am_down {p : Nat → Prop} {n : Nat} (h0 : p n) (hs : ∀ j, j < n → p (j + 1) → p j) : ∀ j, j ≤ n → p j := by
  intro j hj
  obtain ⟨k, rfl⟩ := Nat.exists_eq_add_of_le hj
  induction k generalizing j with
  | zero => exact h0
  | succ k ih => exact hs j (by omega) (by have := ih (j := j + 1); rw [show j + 1 + k = j + (k + 1) by omega] at this; exact this h0 hs (by omega))
theorem am_of_one {m pc : Nat} {L : List (Option Value)} {st : List Value} {B : Nat} {I : am_I} {P : am_P} {G : am_G} {k s d : Nat} {Q : am_Q} {o : am_O} {B' : Nat} {I' : am_I} {P' : am_P} {G' : am_G} (h : am_Ev m pc L st B I P G k s d (am_one o B' I' P' G')) (hq : Q o B' I' P' G') : am_Ev m pc L st B I P G k s d Q := by
  refine am_imp h ?_
  rintro _ _ _ _ _ ⟨rfl, rfl, rfl, rfl, rfl⟩
  exact hq
