/-! THE ABSTRACT MACHINE. Roles are abstract addresses; what a role is (its class or array kind, its size) is fixed by am_TY. Whole numbers I, references P, longs G, by role and place. B: roles from B on are free. k, s: cells and slots left; d: depth left. -/
def am_emp : Nat := 9
abbrev am_I : Type := Nat → Nat → Int32
abbrev am_P : Type := Nat → Nat → Option Nat
abbrev am_G : Type := Nat → Nat → Int64
abbrev am_O : Type := Option Value ⊕ Nat
abbrev am_Q : Type := am_O → Nat → am_I → am_P → am_G → Prop
abbrev am_X : Type := Nat → Nat → List (Option Value) → List Value → Nat → am_I → am_P → am_G → Nat → Nat → Nat → am_Q → Prop
/-- may a reference to a thing of kind b be stored into an array of kind t -/
def am_elt (t b : Nat) : Bool := match t with
  | 14 => b == 5
  | 15 => b == 1
  | 16 => b == 2
  | _ => false
def am_u {α : Type} (f : Nat → Nat → α) (a i : Nat) (x : α) : Nat → Nat → α := fun b j => if b = a ∧ j = i then x else f b j
def am_c {α : Type} (f : Nat → Nat → α) (a : Nat) (x : α) : Nat → Nat → α := fun b j => if b = a then x else f b j
def am_isrf (v : Value) : Prop := ∃ r, v = va_rf r
/-- a row of ints, of ours (10) or the script (18) -/
def am_ia (t : Nat) : Prop := t = 10 ∨ t = 18
def am_isR (t : FieldType) : Bool := match t with
  | .object _ => true
  | .array _ => true
  | _ => false
def am_okx (t : FieldType) (x : Int32) : Prop := match t with
  | .boolean => x = 0 ∨ x = 1
  | .char => x = (x.toUInt32 % 65536).toInt32
  | .int => True
  | _ => False
/-- a field's value -/
def am_fv (c k : Nat) (I : am_I) (P : am_P) (a : Nat) : Value := if am_isR (am_ty c k) then va_rf (P a k) else .int (I a k)
/-- the locals at a method's entry -/
def am_ex (vs : List Value) : List (Option Value) := match vs with
  | [] => []
  | v :: vs => if v.category = 2 then some v :: none :: am_ex vs else some v :: am_ex vs
def am_en (vs : List Value) (n : Nat) : List (Option Value) := am_ex vs ++ List.replicate (n - (am_ex vs).length) none
def am_cond (c : ClassFile.Cond) (x y : Int32) : Prop := match c with
  | .eq => x = y
  | .ne => x ≠ y
  | .lt => x < y
  | .ge => y ≤ x
  | .gt => y < x
  | .le => x ≤ y
def am_tgt (pc : Nat) (off : Int) : Nat := ((pc : Int) + off).toNat
/-- longs lie at a method's places of longs alone -/
def am_lck (id : Nat) : List (Option Value) → Nat → Prop
  | [], _ => True
  | none :: L, i => am_lck id L (i + 1)
  | some v :: L, i => (v.category = 2 → am_lp id i = true) ∧ am_lck id L (i + 1)
/-- what a call needs and what comes behind it -/
def am_Call (X : am_X) (id : Nat) (As rest : List Value) (m pc : Nat) (L : List (Option Value)) (B : Nat) (I : am_I) (P : am_P) (G : am_G) (k s d : Nat) (Q : am_Q) : Prop :=
  ∃ (R : am_Q) (mc ms dd : Nat), rest.length ≤ 4 ∧ (am_en As (am_nL id)).length = am_nL id ∧ am_lck id (am_en As (am_nL id)) 0 ∧ mc ≤ k ∧ ms ≤ s ∧ dd < d ∧ X id 0 (am_en As (am_nL id)) [] B I P G mc ms dd R ∧
    (∀ (v : Option Value) (B' : Nat) (I' : am_I) (P' : am_P) (G' : am_G), R (.inl v) B' I' P' G' → ∃ B2, B' ≤ B2 ∧ X m (pc + 3) L (v.toList ++ rest) B2 I' P' G' (k - mc) (s - ms) d Q) ∧
    (∀ (x B' : Nat) (I' : am_I) (P' : am_P) (G' : am_G), R (.inr x) B' I' P' G' → Q (match am_hd m pc x with | some c => .inl (some (.int c)) | none => .inr x) B' I' P' G')
/-- a call in a world of its own (the law's parts, each with an object of its own): it sees the script alone, and comes back with a number -/
def am_Fresh (X : am_X) (id : Nat) (As rest : List Value) (m pc : Nat) (L : List (Option Value)) (B : Nat) (I : am_I) (P : am_P) (G : am_G) (k s d : Nat) (Q : am_Q) : Prop :=
  ∃ (R : am_Q) (mc ms dd : Nat), rest.length ≤ 4 ∧ (am_en As (am_nL id)).length = am_nL id ∧ am_lck id (am_en As (am_nL id)) 0 ∧ mc ≤ k ∧ ms ≤ s ∧ dd < d ∧ (∀ v ∈ As, ∃ r, v = .ref r ∧ r % 4096 = 4000 ∧ 4096 ≤ r) ∧ X id 0 (am_en As (am_nL id)) [] 10 I (fun _ _ => none) G mc ms dd R ∧
    (∀ (v : Option Value) (B' : Nat) (I' : am_I) (P' : am_P) (G' : am_G), R (.inl v) B' I' P' G' → ∃ x, v = some (.int x) ∧ X m (pc + 3) L (.int x :: rest) B I P G (k - mc) (s - ms) d Q) ∧
    (∀ (x B' : Nat) (I' : am_I) (P' : am_P) (G' : am_G), ¬ R (.inr x) B' I' P' G')
/-- the last n of the stack, the receiver first -/
def am_St (X : am_X) (e : am_e) (m pc : Nat) (L : List (Option Value)) (st : List Value) (B : Nat) (I : am_I) (P : am_P) (G : am_G) (k s d : Nat) (Q : am_Q) : Prop :=
  match e.1 with
  | .iconst n => X m (pc + 1) L (.int (Int32.ofInt n) :: st) B I P G k s d Q
  | .bipush n => X m (pc + 2) L (.int ((Int8.ofInt n).toInt32) :: st) B I P G k s d Q
  | .sipush n => X m (pc + 3) L (.int ((Int16.ofInt n).toInt32) :: st) B I P G k s d Q
  | .lconst n => X m (pc + 1) L (.long (Int64.ofNat (n : Nat)) :: st) B I P G k s d Q
  | .ldc _ => e.2.2.2 = 1 ∧ X m (pc + 2) L (.int (nI e.2.2.1) :: st) B I P G k s d Q
  | .ldc_w _ => e.2.2.2 = 1 ∧ X m (pc + 3) L (.int (nI e.2.2.1) :: st) B I P G k s d Q
  | .ldc2_w _ => e.2.2.2 = 1 ∧ X m (pc + 3) L (.long (lN e.2.2.1) :: st) B I P G k s d Q
  | .aconst_null => X m (pc + 1) L (.null :: st) B I P G k s d Q
  | .iload i => ∃ x, L[i]? = some (some (.int x)) ∧ X m (pc + 2) L (.int x :: st) B I P G k s d Q
  | .iload_n i => ∃ x, L[(i : Nat)]? = some (some (.int x)) ∧ X m (pc + 1) L (.int x :: st) B I P G k s d Q
  | .lload i => ∃ x, L[i]? = some (some (.long x)) ∧ X m (pc + 2) L (.long x :: st) B I P G k s d Q
  | .lload_n i => ∃ x, L[(i : Nat)]? = some (some (.long x)) ∧ X m (pc + 1) L (.long x :: st) B I P G k s d Q
  | .aload i => ∃ v, L[i]? = some (some v) ∧ am_isrf v ∧ X m (pc + 2) L (v :: st) B I P G k s d Q
  | .aload_n i => ∃ v, L[(i : Nat)]? = some (some v) ∧ am_isrf v ∧ X m (pc + 1) L (v :: st) B I P G k s d Q
  | .istore i => i < L.length ∧ am_lpok m i = true ∧ ∃ x st', st = .int x :: st' ∧ X m (pc + 2) (L.set i (some (.int x))) st' B I P G k s d Q
  | .istore_n i => (i : Nat) < L.length ∧ am_lpok m i = true ∧ ∃ x st', st = .int x :: st' ∧ X m (pc + 1) (L.set i (some (.int x))) st' B I P G k s d Q
  | .astore i => i < L.length ∧ am_lpok m i = true ∧ ∃ v st', st = v :: st' ∧ am_isrf v ∧ X m (pc + 2) (L.set i (some v)) st' B I P G k s d Q
  | .astore_n i => (i : Nat) < L.length ∧ am_lpok m i = true ∧ ∃ v st', st = v :: st' ∧ am_isrf v ∧ X m (pc + 1) (L.set i (some v)) st' B I P G k s d Q
  | .lstore_n i => (i : Nat) + 1 < L.length ∧ am_lpok m i = true ∧ am_lp m i = true ∧ ∃ x st', st = .long x :: st' ∧ X m (pc + 1) ((L.set i (some (.long x))).set (i + 1) none) st' B I P G k s d Q
  | .iinc i n => am_lpok m i = true ∧ ∃ x, L[i]? = some (some (.int x)) ∧ X m (pc + 3) (L.set i (some (.int (x + Int32.ofInt n)))) st B I P G k s d Q
  | .iadd => ∃ x y st', st = .int y :: .int x :: st' ∧ X m (pc + 1) L (.int (x + y) :: st') B I P G k s d Q
  | .isub => ∃ x y st', st = .int y :: .int x :: st' ∧ X m (pc + 1) L (.int (x - y) :: st') B I P G k s d Q
  | .imul => ∃ x y st', st = .int y :: .int x :: st' ∧ X m (pc + 1) L (.int (x * y) :: st') B I P G k s d Q
  | .iand => ∃ x y st', st = .int y :: .int x :: st' ∧ X m (pc + 1) L (.int (x &&& y) :: st') B I P G k s d Q
  | .ior => ∃ x y st', st = .int y :: .int x :: st' ∧ X m (pc + 1) L (.int (x ||| y) :: st') B I P G k s d Q
  | .ixor => ∃ x y st', st = .int y :: .int x :: st' ∧ X m (pc + 1) L (.int (x ^^^ y) :: st') B I P G k s d Q
  | .idiv => ∃ x y st', st = .int y :: .int x :: st' ∧ y ≠ 0 ∧ X m (pc + 1) L (.int (x / y) :: st') B I P G k s d Q
  | .irem => ∃ x y st', st = .int y :: .int x :: st' ∧ y ≠ 0 ∧ X m (pc + 1) L (.int (x - x / y * y) :: st') B I P G k s d Q
  | .ishl => ∃ x y st', st = .int y :: .int x :: st' ∧ X m (pc + 1) L (.int (x <<< (y &&& 31)) :: st') B I P G k s d Q
  | .ishr => ∃ x y st', st = .int y :: .int x :: st' ∧ X m (pc + 1) L (.int (x >>> (y &&& 31)) :: st') B I P G k s d Q
  | .iushr => ∃ x y st', st = .int y :: .int x :: st' ∧ X m (pc + 1) L (.int ((x.toUInt32 >>> (y.toUInt32 &&& Int32.toUInt32 31)).toInt32) :: st') B I P G k s d Q
  | .ladd => ∃ x y st', st = .long y :: .long x :: st' ∧ X m (pc + 1) L (.long (x + y) :: st') B I P G k s d Q
  | .lsub => ∃ x y st', st = .long y :: .long x :: st' ∧ X m (pc + 1) L (.long (x - y) :: st') B I P G k s d Q
  | .lmul => ∃ x y st', st = .long y :: .long x :: st' ∧ X m (pc + 1) L (.long (x * y) :: st') B I P G k s d Q
  | .i2l => ∃ x st', st = .int x :: st' ∧ X m (pc + 1) L (.long x.toInt64 :: st') B I P G k s d Q
  | .i2c => ∃ x st', st = .int x :: st' ∧ X m (pc + 1) L (.int ((x.toUInt32 % 65536).toInt32) :: st') B I P G k s d Q
  | .lcmp => ∃ x y st', st = .long y :: .long x :: st' ∧ X m (pc + 1) L (.int (lg_cmp x y) :: st') B I P G k s d Q
  | .dup => ∃ v st', st = v :: st' ∧ v.category = 1 ∧ X m (pc + 1) L (v :: v :: st') B I P G k s d Q
  | .pop => ∃ v st', st = v :: st' ∧ v.category = 1 ∧ X m (pc + 1) L st' B I P G k s d Q
  | .dup_x1 => ∃ v w st', st = v :: w :: st' ∧ v.category = 1 ∧ w.category = 1 ∧ X m (pc + 1) L (v :: w :: v :: st') B I P G k s d Q
  | .dup2 => ∃ v w st', st = v :: w :: st' ∧ v.category = 1 ∧ w.category = 1 ∧ X m (pc + 1) L (v :: w :: v :: w :: st') B I P G k s d Q
  | .ifCond c off => ∃ x st', st = .int x :: st' ∧ (am_cond c x 0 → X m (am_tgt pc off) L st' B I P G k s d Q) ∧ (¬ am_cond c x 0 → X m (pc + 3) L st' B I P G k s d Q)
  | .if_icmp c off => ∃ x y st', st = .int y :: .int x :: st' ∧ (am_cond c x y → X m (am_tgt pc off) L st' B I P G k s d Q) ∧ (¬ am_cond c x y → X m (pc + 3) L st' B I P G k s d Q)
  | .ifnull off => ∃ r st', st = va_rf r :: st' ∧ (r = none → X m (am_tgt pc off) L st' B I P G k s d Q) ∧ (r ≠ none → X m (pc + 3) L st' B I P G k s d Q)
  | .ifnonnull off => ∃ r st', st = va_rf r :: st' ∧ (r ≠ none → X m (am_tgt pc off) L st' B I P G k s d Q) ∧ (r = none → X m (pc + 3) L st' B I P G k s d Q)
  | .if_acmp .ne off => ∃ r q st', st = va_rf q :: va_rf r :: st' ∧ (r ≠ q → X m (am_tgt pc off) L st' B I P G k s d Q) ∧ (r = q → X m (pc + 3) L st' B I P G k s d Q)
  | .if_acmp .eq off => ∃ r q st', st = va_rf q :: va_rf r :: st' ∧ (r = q → X m (am_tgt pc off) L st' B I P G k s d Q) ∧ (r ≠ q → X m (pc + 3) L st' B I P G k s d Q)
  | .goto off => X m (am_tgt pc off) L st B I P G k s d Q
  | .tableswitch df lo hi offs => ∃ x st', st = .int x :: st' ∧ ((x.toInt < lo ∨ hi < x.toInt) → X m (am_tgt pc df) L st' B I P G k s d Q) ∧ ∀ (j : Nat) (off : Int), offs[j]? = some off → x.toInt = lo + (j : Int) → X m (am_tgt pc off) L st' B I P G k s d Q
  | .getfield _ => ∃ a st', st = .ref a :: st' ∧ (am_TY a).1 = e.2.2.1 ∧ X m (pc + 3) L (am_fv e.2.2.1 e.2.2.2 I P a :: st') B I P G k s d Q
  | .putfield _ => ∃ v a st', st = v :: .ref a :: st' ∧ (am_TY a).1 = e.2.2.1 ∧
      ((am_isR (am_ty e.2.2.1 e.2.2.2) = false ∧ ∃ x, v = .int x ∧ am_okx (am_ty e.2.2.1 e.2.2.2) x ∧ X m (pc + 3) L st' B (am_u I a e.2.2.2 x) P G k s d Q) ∨
       (am_isR (am_ty e.2.2.1 e.2.2.2) = true ∧ ∃ r, v = va_rf r ∧ X m (pc + 3) L st' B I (am_u P a e.2.2.2 r) G k s d Q))
  | .getstatic _ => e.2.2.1 = 1 ∧ X m (pc + 3) L (.ref am_emp :: st) B I P G k s d Q
  | .iaload => ∃ i a st', st = .int i :: .ref a :: st' ∧ am_ia (am_TY a).1 ∧ vp_in i (am_TY a).2 ∧ X m (pc + 1) L (.int (I a i.toNatClampNeg) :: st') B I P G k s d Q
  | .baload => ∃ i a st', st = .int i :: .ref a :: st' ∧ (am_TY a).1 = 11 ∧ vp_in i (am_TY a).2 ∧ X m (pc + 1) L (.int (I a i.toNatClampNeg) :: st') B I P G k s d Q
  | .caload => ∃ i a st', st = .int i :: .ref a :: st' ∧ (am_TY a).1 = 12 ∧ vp_in i (am_TY a).2 ∧ X m (pc + 1) L (.int (I a i.toNatClampNeg) :: st') B I P G k s d Q
  | .laload => ∃ i a st', st = .int i :: .ref a :: st' ∧ (am_TY a).1 = 13 ∧ vp_in i (am_TY a).2 ∧ X m (pc + 1) L (.long (G a i.toNatClampNeg) :: st') B I P G k s d Q
  | .aaload => ∃ i a st', st = .int i :: .ref a :: st' ∧ 14 ≤ (am_TY a).1 ∧ (am_TY a).1 ≤ 17 ∧ vp_in i (am_TY a).2 ∧ X m (pc + 1) L (va_rf (P a i.toNatClampNeg) :: st') B I P G k s d Q
  | .iastore => ∃ x i a st', st = .int x :: .int i :: .ref a :: st' ∧ (am_TY a).1 = 10 ∧ vp_in i (am_TY a).2 ∧ X m (pc + 1) L st' B (am_u I a i.toNatClampNeg x) P G k s d Q
  | .bastore => ∃ x i a st', st = .int x :: .int i :: .ref a :: st' ∧ (am_TY a).1 = 11 ∧ vp_in i (am_TY a).2 ∧ am_okx .boolean x ∧ X m (pc + 1) L st' B (am_u I a i.toNatClampNeg x) P G k s d Q
  | .castore => ∃ x i a st', st = .int x :: .int i :: .ref a :: st' ∧ (am_TY a).1 = 12 ∧ vp_in i (am_TY a).2 ∧ am_okx .char x ∧ X m (pc + 1) L st' B (am_u I a i.toNatClampNeg x) P G k s d Q
  | .lastore => ∃ x i a st', st = .long x :: .int i :: .ref a :: st' ∧ (am_TY a).1 = 13 ∧ vp_in i (am_TY a).2 ∧ X m (pc + 1) L st' B I P (am_u G a i.toNatClampNeg x) k s d Q
  | .aastore => ∃ r i a st', st = va_rf r :: .int i :: .ref a :: st' ∧ vp_in i (am_TY a).2 ∧ (∀ b, r = some b → am_elt (am_TY a).1 (am_TY b).1 = true) ∧ 14 ≤ (am_TY a).1 ∧ (am_TY a).1 ≤ 16 ∧ X m (pc + 1) L st' B I (am_u P a i.toNatClampNeg r) G k s d Q
  | .arraylength => ∃ a st', st = .ref a :: st' ∧ 10 ≤ (am_TY a).1 ∧ (am_TY a).1 ≤ 19 ∧ X m (pc + 1) L (.int (nI (am_TY a).2) :: st') B I P G k s d Q
  | .new _ => (200 ≤ e.2.2.1 ∧ e.2.2.1 < 205 ∧ st.length ≤ 8 ∧ 1 ≤ k ∧ 6 ≤ s ∧ Q (.inr (e.2.2.1 - 200)) B I P G) ∨
      (e.2.2.1 < 10 ∧ 1 ≤ k ∧ ∃ a, B ≤ a ∧ a % 4096 ≠ 4000 ∧ (am_TY a).1 = e.2.2.1 ∧ (am_TY a).2 ≤ s ∧ X m (pc + 3) L (.ref a :: st) (a + 1) (am_c I a 0) (am_c P a none) G (k - 1) (s - (am_TY a).2) d Q)
  | .newarray _ => ∃ n st' a, st = .int (nI n) :: st' ∧ n < 65536 ∧ 1 ≤ k ∧ n ≤ s ∧ B ≤ a ∧ a % 4096 ≠ 4000 ∧ am_TY a = (e.2.2.1, n) ∧ X m (pc + 2) L (.ref a :: st') (a + 1) (am_c I a 0) (am_c P a none) (am_c G a 0) (k - 1) (s - n) d Q
  | .anewarray _ => ∃ n st' a, st = .int (nI n) :: st' ∧ n < 65536 ∧ 1 ≤ k ∧ n ≤ s ∧ B ≤ a ∧ a % 4096 ≠ 4000 ∧ am_TY a = (e.2.2.1, n) ∧ 14 ≤ e.2.2.1 ∧ e.2.2.1 ≤ 16 ∧ X m (pc + 3) L (.ref a :: st') (a + 1) (am_c I a 0) (am_c P a none) G (k - 1) (s - n) d Q
  | .multianewarray _ _ => ∃ n j st' a, st = .int (nI j) :: .int (nI n) :: st' ∧ n < 4096 ∧ j < 4096 ∧ 1 + n ≤ k ∧ n + n * j ≤ s ∧ B ≤ a ∧ a % 4096 + n < 4000 ∧ am_TY a = (17, n) ∧ (∀ i, i < n → am_TY (a + 1 + i) = (10, j)) ∧
      X m (pc + 4) L (.ref a :: st') (a + 1 + n) (fun b i => if a ≤ b ∧ b ≤ a + n then 0 else I b i) (fun b i => if b = a then (if i < n then some (a + 1 + i) else none) else if a < b ∧ b ≤ a + n then none else P b i) G (k - (1 + n)) (s - (n + n * j)) d Q
  | .checkcast _ => ∃ v st', st = v :: st' ∧ am_isrf v ∧ (∀ a, v = .ref a → (am_TY a).1 = e.2.2.1) ∧ X m (pc + 3) L (v :: st') B I P G k s d Q
  | .invokevirtual _ => (e.2.2.1 = 905 ∧ ∃ n a b st', st = .ref a :: st' ∧ st'.length ≤ 8 ∧ am_TY a = (10, n) ∧ n < 65536 ∧ 1 ≤ k ∧ n ≤ s ∧ B ≤ b ∧ b % 4096 ≠ 4000 ∧ am_TY b = (10, n) ∧ X m (pc + 3) L (.ref b :: st') (b + 1) (fun c i => if c = b then I a i else I c i) (am_c P b none) G (k - 1) (s - n) d Q) ∨
      e.2.2.1 < 900 ∧ am_na e.2.2.1 ≤ st.length ∧ (∃ a, (st.take (am_na e.2.2.1)).getLast? = some (.ref a) ∧ (am_TY a).1 = am_own e.2.2.1) ∧
      am_Call X e.2.2.1 (st.take (am_na e.2.2.1)).reverse (st.drop (am_na e.2.2.1)) m pc L B I P G k s d Q
  | .invokespecial _ => (e.2.2.1 = 900 ∧ ∃ a st', st = .ref a :: st' ∧ st'.length ≤ 8 ∧ X m (pc + 3) L st' B I P G k s d Q) ∨ (e.2.2.1 < 900 ∧ am_na e.2.2.1 ≤ st.length ∧ (∃ a, (st.take (am_na e.2.2.1)).getLast? = some (.ref a)) ∧
      am_Call X e.2.2.1 (st.take (am_na e.2.2.1)).reverse (st.drop (am_na e.2.2.1)) m pc L B I P G k s d Q)
  | .invokestatic _ => (e.2.2.1 = 901 ∧ ∃ x y st', st = .int y :: .int x :: st' ∧ st'.length ≤ 8 ∧ X m (pc + 3) L (.int (if x < y then y else x) :: st') B I P G k s d Q) ∨
      (e.2.2.1 = 902 ∧ ∃ x y st', st = .int y :: .int x :: st' ∧ st'.length ≤ 8 ∧ X m (pc + 3) L (.int (if y < x then y else x) :: st') B I P G k s d Q) ∨
      (e.2.2.1 = 903 ∧ ∃ n a st', st = .int (nI n) :: .ref a :: st' ∧ st'.length ≤ 4 ∧ (am_TY a).1 = 14 ∧ n < 65536 ∧ ∃ (R : am_Q) (mc ms dd : Nat), mc ≤ k ∧ ms ≤ s ∧ dd + 1 < d ∧ X 192 6 [some (.ref a), some (.int (nI n)), none, none] [] B I P G mc ms dd R ∧
        (∀ (v : Option Value) (B' : Nat) (I' : am_I) (P' : am_P) (G' : am_G), R (.inl v) B' I' P' G' → (∃ b, v = some (.ref b)) ∧ X m (pc + 3) L (v.toList ++ st') B' I' P' G' (k - mc) (s - ms) d Q) ∧ (∀ (x B' : Nat) (I' : am_I) (P' : am_P) (G' : am_G), ¬ R (.inr x) B' I' P' G')) ∨
      (e.2.2.1 = 904 ∧ ∃ n a b sp dp st', st = .int (nI n) :: .int (nI dp) :: .ref b :: .int (nI sp) :: .ref a :: st' ∧ st'.length ≤ 8 ∧ (am_TY a).1 = 14 ∧ (am_TY b).1 = 14 ∧ n < 65536 ∧ sp < 65536 ∧ dp < 65536 ∧ sp + n ≤ (am_TY a).2 ∧ dp + n ≤ (am_TY b).2 ∧ (∀ i r, i < n → P a (sp + i) = some r → (am_TY r).1 = 5) ∧
        X m (pc + 3) L st' B I (fun c i => if c = b then va_cpy (P a) (P b) sp dp n i else P c i) G k s d Q) ∨
      (e.2.2.1 = 906 ∧ am_na e.2.2.2 ≤ st.length ∧ am_Fresh X e.2.2.2 (st.take (am_na e.2.2.2)).reverse (st.drop (am_na e.2.2.2)) m pc L B I P G k s d Q) ∨
      (e.2.2.1 < 900 ∧ am_na e.2.2.1 ≤ st.length ∧ am_Call X e.2.2.1 (st.take (am_na e.2.2.1)).reverse (st.drop (am_na e.2.2.1)) m pc L B I P G k s d Q)
  | .ireturn => ∃ x ty, st = [.int x] ∧ am_rt m = some ty ∧ am_okx ty x ∧ Q (.inl (some (.int x))) B I P G
  | .lreturn => ∃ x, st = [.long x] ∧ am_rt m = some .long ∧ Q (.inl (some (.long x))) B I P G
  | .areturn => ∃ v ty, st = [v] ∧ am_isrf v ∧ am_rt m = some ty ∧ am_isR ty = true ∧ Q (.inl (some v)) B I P G
  | .return_ => st = [] ∧ am_rt m = none ∧ Q (.inl none) B I P G
  | _ => False
set_option maxHeartbeats 4000000 in
theorem am_St_mono {X Y : am_X} {Q Q' : am_Q} (h1 : ∀ m pc L st B I P G k s d, X m pc L st B I P G k s d Q → Y m pc L st B I P G k s d Q') (h2 : ∀ m pc L st B I P G k s d R, X m pc L st B I P G k s d R → Y m pc L st B I P G k s d R) (h3 : ∀ o B I P G, Q o B I P G → Q' o B I P G)
    (e : am_e) (m pc : Nat) (L : List (Option Value)) (st : List Value) (B : Nat) (I : am_I) (P : am_P) (G : am_G) (k s d : Nat) : am_St X e m pc L st B I P G k s d Q → am_St Y e m pc L st B I P G k s d Q' := by
  obtain ⟨ins, e1, e2, e3⟩ := e
  cases ins <;> simp only [am_St, am_Call, am_Fresh] <;> repeat' (first | exact h1 _ _ _ _ _ _ _ _ _ _ _ | exact h3 _ _ _ _ _ | exact h2 _ _ _ _ _ _ _ _ _ _ _ _ | exact id | refine Exists.imp fun _ => ?_ | refine And.imp ?_ ?_ | refine Or.imp ?_ ?_ | refine forall_imp fun _ => ?_ | split)
def am_F (X : am_X) : am_X := fun m pc L st B I P G k s d Q => ∃ e, am_cod m pc = some e ∧ am_St X e m pc L st B I P G k s d Q
def am_Ev : am_X := fun m pc L st B I P G k s d Q => ∀ X : am_X, (∀ m pc L st B I P G k s d Q, am_F X m pc L st B I P G k s d Q → X m pc L st B I P G k s d Q) → X m pc L st B I P G k s d Q
theorem am_ind (X : am_X) (hX : ∀ m pc L st B I P G k s d Q, am_F X m pc L st B I P G k s d Q → X m pc L st B I P G k s d Q) {m pc : Nat} {L : List (Option Value)} {st : List Value} {B : Nat} {I : am_I} {P : am_P} {G : am_G} {k s d : Nat} {Q : am_Q} (h : am_Ev m pc L st B I P G k s d Q) : X m pc L st B I P G k s d Q := h X hX
theorem am_in {m pc : Nat} {L : List (Option Value)} {st : List Value} {B : Nat} {I : am_I} {P : am_P} {G : am_G} {k s d : Nat} {Q : am_Q} (h : am_F am_Ev m pc L st B I P G k s d Q) : am_Ev m pc L st B I P G k s d Q := by
  intro X hX
  obtain ⟨e, hc, hs⟩ := h
  exact hX _ _ _ _ _ _ _ _ _ _ _ _ ⟨e, hc, am_St_mono (fun _ _ _ _ _ _ _ _ _ _ _ q => q X hX) (fun _ _ _ _ _ _ _ _ _ _ _ _ q => q X hX) (fun _ _ _ _ _ q => q) _ _ _ _ _ _ _ _ _ _ _ _ hs⟩
theorem am_out {m pc : Nat} {L : List (Option Value)} {st : List Value} {B : Nat} {I : am_I} {P : am_P} {G : am_G} {k s d : Nat} {Q : am_Q} (h : am_Ev m pc L st B I P G k s d Q) : am_F am_Ev m pc L st B I P G k s d Q := by
  refine am_ind (am_F am_Ev) (fun m pc L st B I P G k s d Q h => ?_) h
  obtain ⟨e, hc, hs⟩ := h
  exact ⟨e, hc, am_St_mono (fun _ _ _ _ _ _ _ _ _ _ _ q => am_in q) (fun _ _ _ _ _ _ _ _ _ _ _ _ q => am_in q) (fun _ _ _ _ _ q => q) _ _ _ _ _ _ _ _ _ _ _ _ hs⟩
/-- one step -/
theorem am_step {e : am_e} {m pc : Nat} (hc : am_cod m pc = some e) {L : List (Option Value)} {st : List Value} {B : Nat} {I : am_I} {P : am_P} {G : am_G} {k s d : Nat} {Q : am_Q} : am_Ev m pc L st B I P G k s d Q ↔ am_St am_Ev e m pc L st B I P G k s d Q := by
  refine ⟨fun h => ?_, fun h => am_in ⟨e, hc, h⟩⟩
  obtain ⟨e', hc', hs⟩ := am_out h
  rw [hc] at hc'
  obtain rfl := Option.some.inj hc'
  exact hs
/-- a weaker end -/
theorem am_imp {m pc : Nat} {L : List (Option Value)} {st : List Value} {B : Nat} {I : am_I} {P : am_P} {G : am_G} {k s d : Nat} {Q Q' : am_Q} (h : am_Ev m pc L st B I P G k s d Q) (hq : ∀ o B I P G, Q o B I P G → Q' o B I P G) : am_Ev m pc L st B I P G k s d Q' := by
  have K := am_ind (fun m pc L st B I P G k s d Q => am_Ev m pc L st B I P G k s d Q ∧ ∀ Q' : am_Q, (∀ o B I P G, Q o B I P G → Q' o B I P G) → am_Ev m pc L st B I P G k s d Q') (fun m pc L st B I P G k s d Q h => ?_) h
  · exact K.2 Q' hq
  · obtain ⟨e, hc, hs⟩ := h
    refine ⟨am_in ⟨e, hc, am_St_mono (fun _ _ _ _ _ _ _ _ _ _ _ q => q.1) (fun _ _ _ _ _ _ _ _ _ _ _ _ q => q.1) (fun _ _ _ _ _ q => q) _ _ _ _ _ _ _ _ _ _ _ _ hs⟩, fun Q' hq => ?_⟩
    exact am_in ⟨e, hc, am_St_mono (fun _ _ _ _ _ _ _ _ _ _ _ q => q.2 Q' hq) (fun _ _ _ _ _ _ _ _ _ _ _ _ q => q.1) hq _ _ _ _ _ _ _ _ _ _ _ _ hs⟩
