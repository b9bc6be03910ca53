/-! steps, a rule an instruction -/
section AMS
variable {m pc len r1 r2 : Nat} {L : List (Option Value)} {st : List Value} {B : Nat} {I : am_I} {P : am_P} {G : am_G} {k s d : Nat} {Q : am_Q}
theorem am_rf_ref {a : Nat} : am_isrf (.ref a) := ⟨some a, rfl⟩
theorem am_rf_null : am_isrf .null := ⟨none, rfl⟩
theorem am_rf_rf {r : Option Nat} : am_isrf (va_rf r) := ⟨r, rfl⟩
theorem am_cat_rf {r : Option Nat} : (va_rf r).category = 1 := by cases r <;> rfl
theorem am_isrf.cat {v : Value} (h : am_isrf v) : v.category = 1 := by obtain ⟨r, rfl⟩ := h; exact am_cat_rf
theorem am_ex_nil : am_ex [] = [] := rfl
theorem am_ex_1 {v : Value} {vs : List Value} (h : v.category = 1) : am_ex (v :: vs) = some v :: am_ex vs := by simp [am_ex, h]
theorem am_ex_i {x : Int32} {vs : List Value} : am_ex (.int x :: vs) = some (.int x) :: am_ex vs := am_ex_1 rfl
theorem am_ex_r {a : Nat} {vs : List Value} : am_ex (.ref a :: vs) = some (.ref a) :: am_ex vs := am_ex_1 rfl
theorem am_ex_l {x : Int64} {vs : List Value} : am_ex (.long x :: vs) = some (.long x) :: none :: am_ex vs := rfl
theorem va_rf_some {a : Nat} : va_rf (some a) = .ref a := rfl
theorem va_rf_none : va_rf none = .null := rfl
/-- one end -/
def am_one (o : am_O) (B : Nat) (I : am_I) (P : am_P) (G : am_G) : am_Q := fun o' B' I' P' G' => o' = o ∧ B' = B ∧ I' = I ∧ P' = P ∧ G' = G
theorem s_iconst {n : Int} {v : Int32} (hc : am_cod m pc = some (.iconst n, len, r1, r2)) (hv : Int32.ofInt n = v) : am_Ev m pc L st B I P G k s d Q ↔ am_Ev m (pc + 1) L (.int v :: st) B I P G k s d Q := by subst hv; exact am_step hc
theorem s_bipush {n : Int} {v : Int32} (hc : am_cod m pc = some (.bipush n, len, r1, r2)) (hv : (Int8.ofInt n).toInt32 = v) : am_Ev m pc L st B I P G k s d Q ↔ am_Ev m (pc + 2) L (.int v :: st) B I P G k s d Q := by subst hv; exact am_step hc
theorem s_sipush {n : Int} {v : Int32} (hc : am_cod m pc = some (.sipush n, len, r1, r2)) (hv : (Int16.ofInt n).toInt32 = v) : am_Ev m pc L st B I P G k s d Q ↔ am_Ev m (pc + 3) L (.int v :: st) B I P G k s d Q := by subst hv; exact am_step hc
theorem s_lconst {n : Fin 2} {v : Int64} (hc : am_cod m pc = some (.lconst n, len, r1, r2)) (hv : Int64.ofNat (n : Nat) = v) : am_Ev m pc L st B I P G k s d Q ↔ am_Ev m (pc + 1) L (.long v :: st) B I P G k s d Q := by subst hv; exact am_step hc
theorem s_ldc {i : Nat} {v : Int32} (hc : am_cod m pc = some (.ldc i, len, r1, 1)) (hv : nI r1 = v) : am_Ev m pc L st B I P G k s d Q ↔ am_Ev m (pc + 2) L (.int v :: st) B I P G k s d Q := by subst hv; exact (am_step hc).trans ⟨fun h => h.2, fun h => ⟨rfl, h⟩⟩
theorem s_ldc_w {i : Nat} {v : Int32} (hc : am_cod m pc = some (.ldc_w i, len, r1, 1)) (hv : nI r1 = v) : am_Ev m pc L st B I P G k s d Q ↔ am_Ev m (pc + 3) L (.int v :: st) B I P G k s d Q := by subst hv; exact (am_step hc).trans ⟨fun h => h.2, fun h => ⟨rfl, h⟩⟩
theorem s_ldc2_w {i : Nat} {v : Int64} (hc : am_cod m pc = some (.ldc2_w i, len, r1, 1)) (hv : lN r1 = v) : am_Ev m pc L st B I P G k s d Q ↔ am_Ev m (pc + 3) L (.long v :: st) B I P G k s d Q := by subst hv; exact (am_step hc).trans ⟨fun h => h.2, fun h => ⟨rfl, h⟩⟩
theorem s_aconst_null (hc : am_cod m pc = some (.aconst_null, len, r1, r2)) : am_Ev m pc L st B I P G k s d Q ↔ am_Ev m (pc + 1) L (.null :: st) B I P G k s d Q := am_step hc
theorem s_iload_n {i : Fin 4} {x : Int32} (hc : am_cod m pc = some (.iload_n i, len, r1, r2)) (hl : L[(i : Nat)]? = some (some (.int x))) : am_Ev m pc L st B I P G k s d Q ↔ am_Ev m (pc + 1) L (.int x :: st) B I P G k s d Q := (am_step hc).trans ⟨fun ⟨y, h1, h2⟩ => by rw [hl] at h1; cases h1; exact h2, fun h => ⟨x, hl, h⟩⟩
theorem s_iload {i : Nat} {x : Int32} (hc : am_cod m pc = some (.iload i, len, r1, r2)) (hl : L[i]? = some (some (.int x))) : am_Ev m pc L st B I P G k s d Q ↔ am_Ev m (pc + 2) L (.int x :: st) B I P G k s d Q := (am_step hc).trans ⟨fun ⟨y, h1, h2⟩ => by rw [hl] at h1; cases h1; exact h2, fun h => ⟨x, hl, h⟩⟩
theorem s_lload_n {i : Fin 4} {x : Int64} (hc : am_cod m pc = some (.lload_n i, len, r1, r2)) (hl : L[(i : Nat)]? = some (some (.long x))) : am_Ev m pc L st B I P G k s d Q ↔ am_Ev m (pc + 1) L (.long x :: st) B I P G k s d Q := (am_step hc).trans ⟨fun ⟨y, h1, h2⟩ => by rw [hl] at h1; cases h1; exact h2, fun h => ⟨x, hl, h⟩⟩
theorem s_lload {i : Nat} {x : Int64} (hc : am_cod m pc = some (.lload i, len, r1, r2)) (hl : L[i]? = some (some (.long x))) : am_Ev m pc L st B I P G k s d Q ↔ am_Ev m (pc + 2) L (.long x :: st) B I P G k s d Q := (am_step hc).trans ⟨fun ⟨y, h1, h2⟩ => by rw [hl] at h1; cases h1; exact h2, fun h => ⟨x, hl, h⟩⟩
theorem s_aload_n {i : Fin 4} {v : Value} (hc : am_cod m pc = some (.aload_n i, len, r1, r2)) (hl : L[(i : Nat)]? = some (some v)) (hv : am_isrf v) : am_Ev m pc L st B I P G k s d Q ↔ am_Ev m (pc + 1) L (v :: st) B I P G k s d Q := (am_step hc).trans ⟨fun ⟨y, h1, _, h2⟩ => by rw [hl] at h1; cases h1; exact h2, fun h => ⟨v, hl, hv, h⟩⟩
theorem s_aload {i : Nat} {v : Value} (hc : am_cod m pc = some (.aload i, len, r1, r2)) (hl : L[i]? = some (some v)) (hv : am_isrf v) : am_Ev m pc L st B I P G k s d Q ↔ am_Ev m (pc + 2) L (v :: st) B I P G k s d Q := (am_step hc).trans ⟨fun ⟨y, h1, _, h2⟩ => by rw [hl] at h1; cases h1; exact h2, fun h => ⟨v, hl, hv, h⟩⟩
theorem s_istore_n {i : Fin 4} {x : Int32} {L' : List (Option Value)} (hc : am_cod m pc = some (.istore_n i, len, r1, r2)) (hi : (i : Nat) < L.length) (ho : am_lpok m i = true) (hl : L.set i (some (.int x)) = L') : am_Ev m pc L (.int x :: st) B I P G k s d Q ↔ am_Ev m (pc + 1) L' st B I P G k s d Q := by
  subst hl; exact (am_step hc).trans ⟨fun ⟨_, _, y, st', h1, h2⟩ => by cases h1; exact h2, fun h => ⟨hi, ho, x, st, rfl, h⟩⟩
theorem s_istore {i : Nat} {x : Int32} {L' : List (Option Value)} (hc : am_cod m pc = some (.istore i, len, r1, r2)) (hi : i < L.length) (ho : am_lpok m i = true) (hl : L.set i (some (.int x)) = L') : am_Ev m pc L (.int x :: st) B I P G k s d Q ↔ am_Ev m (pc + 2) L' st B I P G k s d Q := by
  subst hl; exact (am_step hc).trans ⟨fun ⟨_, _, y, st', h1, h2⟩ => by cases h1; exact h2, fun h => ⟨hi, ho, x, st, rfl, h⟩⟩
theorem s_astore_n {i : Fin 4} {v : Value} {L' : List (Option Value)} (hc : am_cod m pc = some (.astore_n i, len, r1, r2)) (hi : (i : Nat) < L.length) (ho : am_lpok m i = true) (hl : L.set i (some v) = L') (hv : am_isrf v) : am_Ev m pc L (v :: st) B I P G k s d Q ↔ am_Ev m (pc + 1) L' st B I P G k s d Q := by
  subst hl; exact (am_step hc).trans ⟨fun ⟨_, _, y, st', h1, _, h2⟩ => by cases h1; exact h2, fun h => ⟨hi, ho, v, st, rfl, hv, h⟩⟩
theorem s_astore {i : Nat} {v : Value} {L' : List (Option Value)} (hc : am_cod m pc = some (.astore i, len, r1, r2)) (hi : i < L.length) (ho : am_lpok m i = true) (hl : L.set i (some v) = L') (hv : am_isrf v) : am_Ev m pc L (v :: st) B I P G k s d Q ↔ am_Ev m (pc + 2) L' st B I P G k s d Q := by
  subst hl; exact (am_step hc).trans ⟨fun ⟨_, _, y, st', h1, _, h2⟩ => by cases h1; exact h2, fun h => ⟨hi, ho, v, st, rfl, hv, h⟩⟩
theorem s_lstore_n {i : Fin 4} {x : Int64} {L' : List (Option Value)} (hc : am_cod m pc = some (.lstore_n i, len, r1, r2)) (hi : (i : Nat) + 1 < L.length) (ho : am_lpok m i = true) (hp : am_lp m i = true) (hl : (L.set i (some (.long x))).set (i + 1) none = L') : am_Ev m pc L (.long x :: st) B I P G k s d Q ↔ am_Ev m (pc + 1) L' st B I P G k s d Q := by
  subst hl; exact (am_step hc).trans ⟨fun ⟨_, _, _, y, st', h1, h2⟩ => by cases h1; exact h2, fun h => ⟨hi, ho, hp, x, st, rfl, h⟩⟩
theorem s_iinc {i : Nat} {n : Int} {v x : Int32} {L' : List (Option Value)} (hc : am_cod m pc = some (.iinc i n, len, r1, r2)) (ho : am_lpok m i = true) (hl : L[i]? = some (some (.int x))) (hv : Int32.ofInt n = v) (hL : L.set i (some (.int (x + v))) = L') : am_Ev m pc L st B I P G k s d Q ↔ am_Ev m (pc + 3) L' st B I P G k s d Q := by
  subst hL; subst hv; exact (am_step hc).trans ⟨fun ⟨_, y, h1, h2⟩ => by rw [hl] at h1; cases h1; exact h2, fun h => ⟨ho, x, hl, h⟩⟩
theorem s_iadd {x y : Int32} (hc : am_cod m pc = some (.iadd, len, r1, r2)) : am_Ev m pc L (.int y :: .int x :: st) B I P G k s d Q ↔ am_Ev m (pc + 1) L (.int (x + y) :: st) B I P G k s d Q := (am_step hc).trans ⟨fun ⟨_, _, _, h1, h2⟩ => by cases h1; exact h2, fun h => ⟨x, y, st, rfl, h⟩⟩
theorem s_isub {x y : Int32} (hc : am_cod m pc = some (.isub, len, r1, r2)) : am_Ev m pc L (.int y :: .int x :: st) B I P G k s d Q ↔ am_Ev m (pc + 1) L (.int (x - y) :: st) B I P G k s d Q := (am_step hc).trans ⟨fun ⟨_, _, _, h1, h2⟩ => by cases h1; exact h2, fun h => ⟨x, y, st, rfl, h⟩⟩
theorem s_imul {x y : Int32} (hc : am_cod m pc = some (.imul, len, r1, r2)) : am_Ev m pc L (.int y :: .int x :: st) B I P G k s d Q ↔ am_Ev m (pc + 1) L (.int (x * y) :: st) B I P G k s d Q := (am_step hc).trans ⟨fun ⟨_, _, _, h1, h2⟩ => by cases h1; exact h2, fun h => ⟨x, y, st, rfl, h⟩⟩
theorem s_iand {x y : Int32} (hc : am_cod m pc = some (.iand, len, r1, r2)) : am_Ev m pc L (.int y :: .int x :: st) B I P G k s d Q ↔ am_Ev m (pc + 1) L (.int (x &&& y) :: st) B I P G k s d Q := (am_step hc).trans ⟨fun ⟨_, _, _, h1, h2⟩ => by cases h1; exact h2, fun h => ⟨x, y, st, rfl, h⟩⟩
theorem s_ior {x y : Int32} (hc : am_cod m pc = some (.ior, len, r1, r2)) : am_Ev m pc L (.int y :: .int x :: st) B I P G k s d Q ↔ am_Ev m (pc + 1) L (.int (x ||| y) :: st) B I P G k s d Q := (am_step hc).trans ⟨fun ⟨_, _, _, h1, h2⟩ => by cases h1; exact h2, fun h => ⟨x, y, st, rfl, h⟩⟩
theorem s_ixor {x y : Int32} (hc : am_cod m pc = some (.ixor, len, r1, r2)) : am_Ev m pc L (.int y :: .int x :: st) B I P G k s d Q ↔ am_Ev m (pc + 1) L (.int (x ^^^ y) :: st) B I P G k s d Q := (am_step hc).trans ⟨fun ⟨_, _, _, h1, h2⟩ => by cases h1; exact h2, fun h => ⟨x, y, st, rfl, h⟩⟩
theorem s_idiv {x y : Int32} (hc : am_cod m pc = some (.idiv, len, r1, r2)) : am_Ev m pc L (.int y :: .int x :: st) B I P G k s d Q ↔ (y ≠ 0 ∧ am_Ev m (pc + 1) L (.int (x / y) :: st) B I P G k s d Q) := (am_step hc).trans ⟨fun ⟨_, _, _, h1, h2⟩ => by cases h1; exact h2, fun h => ⟨x, y, st, rfl, h⟩⟩
theorem s_ishl {x y : Int32} (hc : am_cod m pc = some (.ishl, len, r1, r2)) : am_Ev m pc L (.int y :: .int x :: st) B I P G k s d Q ↔ am_Ev m (pc + 1) L (.int (x <<< (y &&& 31)) :: st) B I P G k s d Q := (am_step hc).trans ⟨fun ⟨_, _, _, h1, h2⟩ => by cases h1; exact h2, fun h => ⟨x, y, st, rfl, h⟩⟩
theorem s_ishr {x y : Int32} (hc : am_cod m pc = some (.ishr, len, r1, r2)) : am_Ev m pc L (.int y :: .int x :: st) B I P G k s d Q ↔ am_Ev m (pc + 1) L (.int (x >>> (y &&& 31)) :: st) B I P G k s d Q := (am_step hc).trans ⟨fun ⟨_, _, _, h1, h2⟩ => by cases h1; exact h2, fun h => ⟨x, y, st, rfl, h⟩⟩
theorem s_iushr {x y : Int32} (hc : am_cod m pc = some (.iushr, len, r1, r2)) : am_Ev m pc L (.int y :: .int x :: st) B I P G k s d Q ↔ am_Ev m (pc + 1) L (.int ((x.toUInt32 >>> (y.toUInt32 &&& Int32.toUInt32 31)).toInt32) :: st) B I P G k s d Q := (am_step hc).trans ⟨fun ⟨_, _, _, h1, h2⟩ => by cases h1; exact h2, fun h => ⟨x, y, st, rfl, h⟩⟩
theorem s_ladd {x y : Int64} (hc : am_cod m pc = some (.ladd, len, r1, r2)) : am_Ev m pc L (.long y :: .long x :: st) B I P G k s d Q ↔ am_Ev m (pc + 1) L (.long (x + y) :: st) B I P G k s d Q := (am_step hc).trans ⟨fun ⟨_, _, _, h1, h2⟩ => by cases h1; exact h2, fun h => ⟨x, y, st, rfl, h⟩⟩
theorem s_lsub {x y : Int64} (hc : am_cod m pc = some (.lsub, len, r1, r2)) : am_Ev m pc L (.long y :: .long x :: st) B I P G k s d Q ↔ am_Ev m (pc + 1) L (.long (x - y) :: st) B I P G k s d Q := (am_step hc).trans ⟨fun ⟨_, _, _, h1, h2⟩ => by cases h1; exact h2, fun h => ⟨x, y, st, rfl, h⟩⟩
theorem s_lmul {x y : Int64} (hc : am_cod m pc = some (.lmul, len, r1, r2)) : am_Ev m pc L (.long y :: .long x :: st) B I P G k s d Q ↔ am_Ev m (pc + 1) L (.long (x * y) :: st) B I P G k s d Q := (am_step hc).trans ⟨fun ⟨_, _, _, h1, h2⟩ => by cases h1; exact h2, fun h => ⟨x, y, st, rfl, h⟩⟩
theorem s_lcmp {x y : Int64} (hc : am_cod m pc = some (.lcmp, len, r1, r2)) : am_Ev m pc L (.long y :: .long x :: st) B I P G k s d Q ↔ am_Ev m (pc + 1) L (.int (lg_cmp x y) :: st) B I P G k s d Q := (am_step hc).trans ⟨fun ⟨_, _, _, h1, h2⟩ => by cases h1; exact h2, fun h => ⟨x, y, st, rfl, h⟩⟩
theorem s_i2l {x : Int32} (hc : am_cod m pc = some (.i2l, len, r1, r2)) : am_Ev m pc L (.int x :: st) B I P G k s d Q ↔ am_Ev m (pc + 1) L (.long x.toInt64 :: st) B I P G k s d Q := (am_step hc).trans ⟨fun ⟨_, _, h1, h2⟩ => by cases h1; exact h2, fun h => ⟨x, st, rfl, h⟩⟩
theorem s_i2c {x : Int32} (hc : am_cod m pc = some (.i2c, len, r1, r2)) : am_Ev m pc L (.int x :: st) B I P G k s d Q ↔ am_Ev m (pc + 1) L (.int ((x.toUInt32 % 65536).toInt32) :: st) B I P G k s d Q := (am_step hc).trans ⟨fun ⟨_, _, h1, h2⟩ => by cases h1; exact h2, fun h => ⟨x, st, rfl, h⟩⟩
theorem s_dup {v : Value} (hc : am_cod m pc = some (.dup, len, r1, r2)) (hv : v.category = 1) : am_Ev m pc L (v :: st) B I P G k s d Q ↔ am_Ev m (pc + 1) L (v :: v :: st) B I P G k s d Q := (am_step hc).trans ⟨fun ⟨_, _, h1, _, h2⟩ => by cases h1; exact h2, fun h => ⟨v, st, rfl, hv, h⟩⟩
theorem s_pop {v : Value} (hc : am_cod m pc = some (.pop, len, r1, r2)) (hv : v.category = 1) : am_Ev m pc L (v :: st) B I P G k s d Q ↔ am_Ev m (pc + 1) L st B I P G k s d Q := (am_step hc).trans ⟨fun ⟨_, _, h1, _, h2⟩ => by cases h1; exact h2, fun h => ⟨v, st, rfl, hv, h⟩⟩
theorem s_dup_x1 {v w : Value} (hc : am_cod m pc = some (.dup_x1, len, r1, r2)) (hv : v.category = 1) (hw : w.category = 1) : am_Ev m pc L (v :: w :: st) B I P G k s d Q ↔ am_Ev m (pc + 1) L (v :: w :: v :: st) B I P G k s d Q := (am_step hc).trans ⟨fun ⟨_, _, _, h1, _, _, h2⟩ => by cases h1; exact h2, fun h => ⟨v, w, st, rfl, hv, hw, h⟩⟩
theorem s_dup2 {v w : Value} (hc : am_cod m pc = some (.dup2, len, r1, r2)) (hv : v.category = 1) (hw : w.category = 1) : am_Ev m pc L (v :: w :: st) B I P G k s d Q ↔ am_Ev m (pc + 1) L (v :: w :: v :: w :: st) B I P G k s d Q := (am_step hc).trans ⟨fun ⟨_, _, _, h1, _, _, h2⟩ => by cases h1; exact h2, fun h => ⟨v, w, st, rfl, hv, hw, h⟩⟩
theorem s_if {c : ClassFile.Cond} {off : Int} {x : Int32} {t : Nat} {p : Prop} (hc : am_cod m pc = some (.ifCond c off, len, r1, r2)) (ht : am_tgt pc off = t) (hp : am_cond c x 0 = p) : am_Ev m pc L (.int x :: st) B I P G k s d Q ↔ ((p → am_Ev m t L st B I P G k s d Q) ∧ (¬ p → am_Ev m (pc + 3) L st B I P G k s d Q)) := by
  subst ht; subst hp; exact (am_step hc).trans ⟨fun ⟨_, _, h1, h2⟩ => by cases h1; exact h2, fun h => ⟨x, st, rfl, h⟩⟩
theorem s_icmp {c : ClassFile.Cond} {off : Int} {x y : Int32} {t : Nat} {p : Prop} (hc : am_cod m pc = some (.if_icmp c off, len, r1, r2)) (ht : am_tgt pc off = t) (hp : am_cond c x y = p) : am_Ev m pc L (.int y :: .int x :: st) B I P G k s d Q ↔ ((p → am_Ev m t L st B I P G k s d Q) ∧ (¬ p → am_Ev m (pc + 3) L st B I P G k s d Q)) := by
  subst ht; subst hp; exact (am_step hc).trans ⟨fun ⟨_, _, _, h1, h2⟩ => by cases h1; exact h2, fun h => ⟨x, y, st, rfl, h⟩⟩
theorem am_rf_inj {r q : Option Nat} (h : va_rf r = va_rf q) : r = q := by cases r <;> cases q <;> first | rfl | (cases h; done) | (cases h; rfl)
theorem s_ifnull {off : Int} {r : Option Nat} {t : Nat} (hc : am_cod m pc = some (.ifnull off, len, r1, r2)) (ht : am_tgt pc off = t) : am_Ev m pc L (va_rf r :: st) B I P G k s d Q ↔ ((r = none → am_Ev m t L st B I P G k s d Q) ∧ (r ≠ none → am_Ev m (pc + 3) L st B I P G k s d Q)) := by
  subst ht; exact (am_step hc).trans ⟨fun ⟨q, _, h1, h2⟩ => by injection h1 with h3 h4; obtain rfl := am_rf_inj h3; subst h4; exact h2, fun h => ⟨r, st, rfl, h⟩⟩
theorem s_ifnull_r {off : Int} {a : Nat} (hc : am_cod m pc = some (.ifnull off, len, r1, r2)) : am_Ev m pc L (.ref a :: st) B I P G k s d Q ↔ am_Ev m (pc + 3) L st B I P G k s d Q := (s_ifnull (r := some a) hc rfl).trans ⟨fun h => h.2 (by simp), fun h => ⟨fun q => (by cases q), fun _ => h⟩⟩
theorem s_ifnull_n {off : Int} {t : Nat} (hc : am_cod m pc = some (.ifnull off, len, r1, r2)) (ht : am_tgt pc off = t) : am_Ev m pc L (.null :: st) B I P G k s d Q ↔ am_Ev m t L st B I P G k s d Q := (s_ifnull (r := none) hc ht).trans ⟨fun h => h.1 rfl, fun h => ⟨fun _ => h, fun q => absurd rfl q⟩⟩
theorem s_ifnonnull {off : Int} {r : Option Nat} {t : Nat} (hc : am_cod m pc = some (.ifnonnull off, len, r1, r2)) (ht : am_tgt pc off = t) : am_Ev m pc L (va_rf r :: st) B I P G k s d Q ↔ ((r ≠ none → am_Ev m t L st B I P G k s d Q) ∧ (r = none → am_Ev m (pc + 3) L st B I P G k s d Q)) := by
  subst ht; exact (am_step hc).trans ⟨fun ⟨q, _, h1, h2⟩ => by injection h1 with h3 h4; obtain rfl := am_rf_inj h3; subst h4; exact h2, fun h => ⟨r, st, rfl, h⟩⟩
theorem s_ifnonnull_r {off : Int} {a t : Nat} (hc : am_cod m pc = some (.ifnonnull off, len, r1, r2)) (ht : am_tgt pc off = t) : am_Ev m pc L (.ref a :: st) B I P G k s d Q ↔ am_Ev m t L st B I P G k s d Q := (s_ifnonnull (r := some a) hc ht).trans ⟨fun h => h.1 (by simp), fun h => ⟨fun _ => h, fun q => (by cases q)⟩⟩
theorem s_ifnonnull_n {off : Int} (hc : am_cod m pc = some (.ifnonnull off, len, r1, r2)) : am_Ev m pc L (.null :: st) B I P G k s d Q ↔ am_Ev m (pc + 3) L st B I P G k s d Q := (s_ifnonnull (r := none) hc rfl).trans ⟨fun h => h.2 rfl, fun h => ⟨fun q => absurd rfl q, fun _ => h⟩⟩
theorem s_goto {off : Int} {t : Nat} (hc : am_cod m pc = some (.goto off, len, r1, r2)) (ht : am_tgt pc off = t) : am_Ev m pc L st B I P G k s d Q ↔ am_Ev m t L st B I P G k s d Q := by subst ht; exact am_step hc
theorem s_getfield {i a : Nat} {v : Value} (hc : am_cod m pc = some (.getfield i, len, r1, r2)) (hv : am_fv r1 r2 I P a = v) : am_Ev m pc L (.ref a :: st) B I P G k s d Q ↔ ((am_TY a).1 = r1 ∧ am_Ev m (pc + 3) L (v :: st) B I P G k s d Q) := by
  subst hv; exact (am_step hc).trans ⟨fun ⟨_, _, h1, h2⟩ => by cases h1; exact h2, fun h => ⟨a, st, rfl, h⟩⟩
theorem s_putfield_i {i a : Nat} {x : Int32} (hc : am_cod m pc = some (.putfield i, len, r1, r2)) (h0 : am_isR (am_ty r1 r2) = false) {p : Prop} (hp : am_okx (am_ty r1 r2) x = p) : am_Ev m pc L (.int x :: .ref a :: st) B I P G k s d Q ↔ ((am_TY a).1 = r1 ∧ p ∧ am_Ev m (pc + 3) L st B (am_u I a r2 x) P G k s d Q) := by
  subst hp
  refine (am_step hc).trans ⟨fun ⟨_, _, _, h1, h2, h3⟩ => ?_, fun h => ⟨_, a, st, rfl, h.1, Or.inl ⟨h0, x, rfl, h.2.1, h.2.2⟩⟩⟩
  cases h1
  rcases h3 with ⟨_, y, h4, h5, h6⟩ | ⟨h4, _⟩
  · cases h4; exact ⟨h2, h5, h6⟩
  · rw [h0] at h4; cases h4
theorem s_putfield_r {i a : Nat} {v : Value} {r : Option Nat} (hc : am_cod m pc = some (.putfield i, len, r1, r2)) (h0 : am_isR (am_ty r1 r2) = true) (hv : v = va_rf r) : am_Ev m pc L (v :: .ref a :: st) B I P G k s d Q ↔ ((am_TY a).1 = r1 ∧ am_Ev m (pc + 3) L st B I (am_u P a r2 r) G k s d Q) := by
  subst hv
  refine (am_step hc).trans ⟨fun ⟨_, _, _, h1, h2, h3⟩ => ?_, fun h => ⟨_, a, st, rfl, h.1, Or.inr ⟨h0, r, rfl, h.2⟩⟩⟩
  injection h1 with h4 h5; injection h5 with h6 h7; subst h4; cases h6; subst h7
  rcases h3 with ⟨h4, _⟩ | ⟨_, q, h4, h5⟩
  · rw [h0] at h4; cases h4
  · obtain rfl := am_rf_inj h4; exact ⟨h2, h5⟩
theorem s_getstatic {i : Nat} (hc : am_cod m pc = some (.getstatic i, len, 1, r2)) : am_Ev m pc L st B I P G k s d Q ↔ am_Ev m (pc + 3) L (.ref 9 :: st) B I P G k s d Q := (am_step hc).trans ⟨fun h => h.2, fun h => ⟨rfl, h⟩⟩
theorem am_ia10 : am_ia 10 := Or.inl rfl
theorem am_ia18 : am_ia 18 := Or.inr rfl
theorem s_iaload {i : Int32} {a : Nat} (hc : am_cod m pc = some (.iaload, len, r1, r2)) : am_Ev m pc L (.int i :: .ref a :: st) B I P G k s d Q ↔ (am_ia (am_TY a).1 ∧ vp_in i (am_TY a).2 ∧ am_Ev m (pc + 1) L (.int (I a i.toNatClampNeg) :: st) B I P G k s d Q) := (am_step hc).trans ⟨fun ⟨_, _, _, h1, h2⟩ => by cases h1; exact h2, fun h => ⟨i, a, st, rfl, h⟩⟩
theorem s_baload {i : Int32} {a : Nat} (hc : am_cod m pc = some (.baload, len, r1, r2)) : am_Ev m pc L (.int i :: .ref a :: st) B I P G k s d Q ↔ ((am_TY a).1 = 11 ∧ vp_in i (am_TY a).2 ∧ am_Ev m (pc + 1) L (.int (I a i.toNatClampNeg) :: st) B I P G k s d Q) := (am_step hc).trans ⟨fun ⟨_, _, _, h1, h2⟩ => by cases h1; exact h2, fun h => ⟨i, a, st, rfl, h⟩⟩
theorem s_caload {i : Int32} {a : Nat} (hc : am_cod m pc = some (.caload, len, r1, r2)) : am_Ev m pc L (.int i :: .ref a :: st) B I P G k s d Q ↔ ((am_TY a).1 = 12 ∧ vp_in i (am_TY a).2 ∧ am_Ev m (pc + 1) L (.int (I a i.toNatClampNeg) :: st) B I P G k s d Q) := (am_step hc).trans ⟨fun ⟨_, _, _, h1, h2⟩ => by cases h1; exact h2, fun h => ⟨i, a, st, rfl, h⟩⟩
theorem s_laload {i : Int32} {a : Nat} (hc : am_cod m pc = some (.laload, len, r1, r2)) : am_Ev m pc L (.int i :: .ref a :: st) B I P G k s d Q ↔ ((am_TY a).1 = 13 ∧ vp_in i (am_TY a).2 ∧ am_Ev m (pc + 1) L (.long (G a i.toNatClampNeg) :: st) B I P G k s d Q) := (am_step hc).trans ⟨fun ⟨_, _, _, h1, h2⟩ => by cases h1; exact h2, fun h => ⟨i, a, st, rfl, h⟩⟩
theorem s_aaload {i : Int32} {a : Nat} (hc : am_cod m pc = some (.aaload, len, r1, r2)) : am_Ev m pc L (.int i :: .ref a :: st) B I P G k s d Q ↔ ((14 ≤ (am_TY a).1 ∧ (am_TY a).1 ≤ 17) ∧ vp_in i (am_TY a).2 ∧ am_Ev m (pc + 1) L (va_rf (P a i.toNatClampNeg) :: st) B I P G k s d Q) := (am_step hc).trans ⟨fun ⟨_, _, _, h1, h2, h3, h4⟩ => by cases h1; exact ⟨⟨h2, h3⟩, h4⟩, fun h => ⟨i, a, st, rfl, h.1.1, h.1.2, h.2⟩⟩
theorem s_iastore {i x : Int32} {a : Nat} (hc : am_cod m pc = some (.iastore, len, r1, r2)) : am_Ev m pc L (.int x :: .int i :: .ref a :: st) B I P G k s d Q ↔ ((am_TY a).1 = 10 ∧ vp_in i (am_TY a).2 ∧ am_Ev m (pc + 1) L st B (am_u I a i.toNatClampNeg x) P G k s d Q) := (am_step hc).trans ⟨fun ⟨_, _, _, _, h1, h2⟩ => by cases h1; exact h2, fun h => ⟨x, i, a, st, rfl, h⟩⟩
theorem s_bastore {i x : Int32} {a : Nat} (hc : am_cod m pc = some (.bastore, len, r1, r2)) : am_Ev m pc L (.int x :: .int i :: .ref a :: st) B I P G k s d Q ↔ ((am_TY a).1 = 11 ∧ vp_in i (am_TY a).2 ∧ (x = 0 ∨ x = 1) ∧ am_Ev m (pc + 1) L st B (am_u I a i.toNatClampNeg x) P G k s d Q) := (am_step hc).trans ⟨fun ⟨_, _, _, _, h1, h2⟩ => by cases h1; exact h2, fun h => ⟨x, i, a, st, rfl, h⟩⟩
theorem s_castore {i x : Int32} {a : Nat} (hc : am_cod m pc = some (.castore, len, r1, r2)) : am_Ev m pc L (.int x :: .int i :: .ref a :: st) B I P G k s d Q ↔ ((am_TY a).1 = 12 ∧ vp_in i (am_TY a).2 ∧ am_okx .char x ∧ am_Ev m (pc + 1) L st B (am_u I a i.toNatClampNeg x) P G k s d Q) := (am_step hc).trans ⟨fun ⟨_, _, _, _, h1, h2⟩ => by cases h1; exact h2, fun h => ⟨x, i, a, st, rfl, h⟩⟩
theorem s_lastore {i : Int32} {x : Int64} {a : Nat} (hc : am_cod m pc = some (.lastore, len, r1, r2)) : am_Ev m pc L (.long x :: .int i :: .ref a :: st) B I P G k s d Q ↔ ((am_TY a).1 = 13 ∧ vp_in i (am_TY a).2 ∧ am_Ev m (pc + 1) L st B I P (am_u G a i.toNatClampNeg x) k s d Q) := (am_step hc).trans ⟨fun ⟨_, _, _, _, h1, h2⟩ => by cases h1; exact h2, fun h => ⟨x, i, a, st, rfl, h⟩⟩
theorem s_aastore {i : Int32} {v : Value} {r : Option Nat} {a : Nat} (hc : am_cod m pc = some (.aastore, len, r1, r2)) (hv : v = va_rf r) : am_Ev m pc L (v :: .int i :: .ref a :: st) B I P G k s d Q ↔ (vp_in i (am_TY a).2 ∧ (∀ b, r = some b → am_elt (am_TY a).1 (am_TY b).1 = true) ∧ 14 ≤ (am_TY a).1 ∧ (am_TY a).1 ≤ 16 ∧ am_Ev m (pc + 1) L st B I (am_u P a i.toNatClampNeg r) G k s d Q) := by
  subst hv
  refine (am_step hc).trans ⟨fun ⟨_, _, _, _, h1, h2⟩ => ?_, fun h => ⟨r, i, a, st, rfl, h⟩⟩
  injection h1 with h4 h5; obtain rfl := am_rf_inj h4; cases h5; exact h2
theorem s_arraylength {a : Nat} (hc : am_cod m pc = some (.arraylength, len, r1, r2)) : am_Ev m pc L (.ref a :: st) B I P G k s d Q ↔ ((10 ≤ (am_TY a).1 ∧ (am_TY a).1 ≤ 19) ∧ am_Ev m (pc + 1) L (.int (nI (am_TY a).2) :: st) B I P G k s d Q) := (am_step hc).trans ⟨fun ⟨_, _, h1, h2, h3, h4⟩ => by cases h1; exact ⟨⟨h2, h3⟩, h4⟩, fun h => ⟨a, st, rfl, h.1.1, h.1.2, h.2⟩⟩
theorem s_throw {i : Nat} (hc : am_cod m pc = some (.new i, len, r1, r2)) (h2 : 200 ≤ r1) (h3 : r1 < 205) {x : Nat} (hx : r1 - 200 = x) : am_Ev m pc L st B I P G k s d Q ↔ (st.length ≤ 8 ∧ 1 ≤ k ∧ 6 ≤ s ∧ Q (.inr x) B I P G) := by
  subst hx
  exact (am_step hc).trans ⟨fun h => h.elim (fun h => h.2.2) (fun h => absurd h.1 (show ¬ r1 < 10 by omega)), fun h => Or.inl ⟨h2, h3, h⟩⟩
theorem s_new {i : Nat} (hc : am_cod m pc = some (.new i, len, r1, r2)) (h2 : r1 < 10) : am_Ev m pc L st B I P G k s d Q ↔ (1 ≤ k ∧ ∃ a, B ≤ a ∧ a % 4096 ≠ 4000 ∧ (am_TY a).1 = r1 ∧ (am_TY a).2 ≤ s ∧ am_Ev m (pc + 3) L (.ref a :: st) (a + 1) (am_c I a 0) (am_c P a none) G (k - 1) (s - (am_TY a).2) d Q) :=
  (am_step hc).trans ⟨fun h => h.elim (fun h => absurd h.1 (show ¬ 200 ≤ r1 by omega)) (fun h => h.2), fun h => Or.inr ⟨h2, h⟩⟩
theorem s_checkcast {i a : Nat} (hc : am_cod m pc = some (.checkcast i, len, r1, r2)) : am_Ev m pc L (.ref a :: st) B I P G k s d Q ↔ ((am_TY a).1 = r1 ∧ am_Ev m (pc + 3) L (.ref a :: st) B I P G k s d Q) := (am_step hc).trans ⟨fun ⟨_, _, h1, _, h2, h3⟩ => by cases h1; exact ⟨h2 a rfl, h3⟩, fun h => ⟨_, st, rfl, am_rf_ref, fun b hb => by cases hb; exact h.1, h.2⟩⟩
theorem s_ireturn {x : Int32} {ty : FieldType} {p : Prop} (hc : am_cod m pc = some (.ireturn, len, r1, r2)) (ht : am_rt m = some ty) (hp : am_okx ty x = p) : am_Ev m pc L [.int x] B I P G k s d Q ↔ (p ∧ Q (.inl (some (.int x))) B I P G) := by
  subst hp
  refine (am_step hc).trans ⟨fun ⟨_, ty', h1, h2, h3, h4⟩ => ?_, fun h => ⟨x, ty, rfl, ht, h⟩⟩
  rw [ht] at h2; cases h2; cases h1; exact ⟨h3, h4⟩
theorem s_lreturn {x : Int64} (hc : am_cod m pc = some (.lreturn, len, r1, r2)) (ht : am_rt m = some .long) : am_Ev m pc L [.long x] B I P G k s d Q ↔ Q (.inl (some (.long x))) B I P G := (am_step hc).trans ⟨fun ⟨_, h1, _, h4⟩ => by cases h1; exact h4, fun h => ⟨x, rfl, ht, h⟩⟩
theorem s_areturn {v : Value} {ty : FieldType} (hc : am_cod m pc = some (.areturn, len, r1, r2)) (ht : am_rt m = some ty) (hp : am_isR ty = true) (hv : am_isrf v) : am_Ev m pc L [v] B I P G k s d Q ↔ Q (.inl (some v)) B I P G := (am_step hc).trans ⟨fun ⟨_, _, h1, _, _, _, h4⟩ => by cases h1; exact h4, fun h => ⟨v, ty, rfl, hv, ht, hp, h⟩⟩
theorem s_return (hc : am_cod m pc = some (.return_, len, r1, r2)) (ht : am_rt m = none) : am_Ev m pc L [] B I P G k s d Q ↔ Q (.inl none) B I P G := (am_step hc).trans ⟨fun ⟨_, _, h4⟩ => h4, fun h => ⟨rfl, ht, h⟩⟩
theorem s_max {i : Nat} {x y : Int32} (hc : am_cod m pc = some (.invokestatic i, len, 901, r2)) : am_Ev m pc L (.int y :: .int x :: st) B I P G k s d Q ↔ (st.length ≤ 8 ∧ am_Ev m (pc + 3) L (.int (if x < y then y else x) :: st) B I P G k s d Q) := by
  refine (am_step hc).trans ⟨fun h => ?_, fun h => Or.inl ⟨rfl, x, y, st, rfl, h⟩⟩
  rcases h with ⟨_, _, _, _, h1, h2⟩ | ⟨h1, _⟩ | ⟨h1, _⟩ | ⟨h1, _⟩ | ⟨h1, _⟩ | ⟨h1, _⟩
  · cases h1; exact h2
  all_goals (simp at h1)
theorem s_min {i : Nat} {x y : Int32} (hc : am_cod m pc = some (.invokestatic i, len, 902, r2)) : am_Ev m pc L (.int y :: .int x :: st) B I P G k s d Q ↔ (st.length ≤ 8 ∧ am_Ev m (pc + 3) L (.int (if y < x then y else x) :: st) B I P G k s d Q) := by
  refine (am_step hc).trans ⟨fun h => ?_, fun h => Or.inr (Or.inl ⟨rfl, x, y, st, rfl, h⟩)⟩
  rcases h with ⟨h1, _⟩ | ⟨_, _, _, _, h1, h2⟩ | ⟨h1, _⟩ | ⟨h1, _⟩ | ⟨h1, _⟩ | ⟨h1, _⟩
  · simp at h1
  · cases h1; exact h2
  all_goals (simp at h1)
theorem s_objinit {i a : Nat} (hc : am_cod m pc = some (.invokespecial i, len, 900, r2)) : am_Ev m pc L (.ref a :: st) B I P G k s d Q ↔ (st.length ≤ 8 ∧ am_Ev m (pc + 3) L st B I P G k s d Q) := by
  refine (am_step hc).trans ⟨fun h => ?_, fun h => Or.inl ⟨rfl, a, st, rfl, h⟩⟩
  rcases h with ⟨_, _, _, h1, h2⟩ | ⟨h1, _⟩
  · cases h1; exact h2
  · simp at h1
/-- a call, by what the callee comes to (R), its cells and slots mc, ms and its depth dd -/
theorem k_v {i id : Nat} {As : List Value} {a : Nat} (hc : am_cod m pc = some (.invokevirtual i, len, id, r2)) (hid : id < 900) (R : am_Q) (mc ms dd : Nat) (hn : am_na id = As.length + 1) (ha : (am_TY a).1 = am_own id) {E : List (Option Value)} (hE : am_en (.ref a :: As) (am_nL id) = E) (hEl : E.length = am_nL id) (hEk : am_lck id E 0) (h0 : st.length ≤ 4) (h1 : mc ≤ k) (h2 : ms ≤ s) (h3 : dd < d) (hx : ∀ x, am_hd m pc x = none)
    (h4 : am_Ev id 0 E [] B I P G mc ms dd R) (h5 : ∀ v B' I' P' G', R (.inl v) B' I' P' G' → am_Ev m (pc + 3) L (v.toList ++ st) B' I' P' G' (k - mc) (s - ms) d Q) (h6 : ∀ x B' I' P' G', R (.inr x) B' I' P' G' → Q (.inr x) B' I' P' G') :
    am_Ev m pc L (As.reverse ++ .ref a :: st) B I P G k s d Q := by
  subst hE
  have e1 : (As.reverse ++ .ref a :: st).take (am_na id) = (Value.ref a :: As).reverse := by rw [hn, show As.reverse ++ .ref a :: st = (Value.ref a :: As).reverse ++ st by simp]; exact List.take_left' (by simp)
  have e2 : (As.reverse ++ .ref a :: st).drop (am_na id) = st := by rw [hn, show As.reverse ++ .ref a :: st = (Value.ref a :: As).reverse ++ st by simp]; exact List.drop_left' (by simp)
  refine (am_step hc).mpr (Or.inr ⟨hid, by show am_na id ≤ _; rw [hn]; simp, ⟨a, by show (List.take (am_na id) _).getLast? = _; rw [e1]; simp, ha⟩, ?_⟩)
  show am_Call am_Ev id (List.take (am_na id) _).reverse (List.drop (am_na id) _) m pc L B I P G k s d Q
  rw [e1, e2, List.reverse_reverse]
  exact ⟨R, mc, ms, dd, h0, hEl, hEk, h1, h2, h3, h4, fun v B' I' P' G' h => ⟨B', Nat.le_refl _, h5 v B' I' P' G' h⟩, fun x B' I' P' G' h => by rw [hx]; exact h6 _ _ _ _ _ h⟩
theorem k_i {i id : Nat} {As : List Value} {a : Nat} (hc : am_cod m pc = some (.invokespecial i, len, id, r2)) (hid : id < 900) (R : am_Q) (mc ms dd : Nat) (hn : am_na id = As.length + 1) {E : List (Option Value)} (hE : am_en (.ref a :: As) (am_nL id) = E) (hEl : E.length = am_nL id) (hEk : am_lck id E 0) (h0 : st.length ≤ 4) (h1 : mc ≤ k) (h2 : ms ≤ s) (h3 : dd < d) (hx : ∀ x, am_hd m pc x = none)
    (h4 : am_Ev id 0 E [] B I P G mc ms dd R) (h5 : ∀ v B' I' P' G', R (.inl v) B' I' P' G' → am_Ev m (pc + 3) L (v.toList ++ st) B' I' P' G' (k - mc) (s - ms) d Q) (h6 : ∀ x B' I' P' G', R (.inr x) B' I' P' G' → Q (.inr x) B' I' P' G') :
    am_Ev m pc L (As.reverse ++ .ref a :: st) B I P G k s d Q := by
  subst hE
  have e1 : (As.reverse ++ .ref a :: st).take (am_na id) = (Value.ref a :: As).reverse := by rw [hn, show As.reverse ++ .ref a :: st = (Value.ref a :: As).reverse ++ st by simp]; exact List.take_left' (by simp)
  have e2 : (As.reverse ++ .ref a :: st).drop (am_na id) = st := by rw [hn, show As.reverse ++ .ref a :: st = (Value.ref a :: As).reverse ++ st by simp]; exact List.drop_left' (by simp)
  refine (am_step hc).mpr (Or.inr ⟨hid, by show am_na id ≤ _; rw [hn]; simp, ⟨a, by show (List.take (am_na id) _).getLast? = _; rw [e1]; simp⟩, ?_⟩)
  show am_Call am_Ev id (List.take (am_na id) _).reverse (List.drop (am_na id) _) m pc L B I P G k s d Q
  rw [e1, e2, List.reverse_reverse]
  exact ⟨R, mc, ms, dd, h0, hEl, hEk, h1, h2, h3, h4, fun v B' I' P' G' h => ⟨B', Nat.le_refl _, h5 v B' I' P' G' h⟩, fun x B' I' P' G' h => by rw [hx]; exact h6 _ _ _ _ _ h⟩
theorem k_s {i id : Nat} {As : List Value} (hc : am_cod m pc = some (.invokestatic i, len, id, r2)) (hid : id < 900) (R : am_Q) (mc ms dd : Nat) (hn : am_na id = As.length) {E : List (Option Value)} (hE : am_en As (am_nL id) = E) (hEl : E.length = am_nL id) (hEk : am_lck id E 0) (h0 : st.length ≤ 4) (h1 : mc ≤ k) (h2 : ms ≤ s) (h3 : dd < d) (hx : ∀ x, am_hd m pc x = none)
    (h4 : am_Ev id 0 E [] B I P G mc ms dd R) (h5 : ∀ v B' I' P' G', R (.inl v) B' I' P' G' → am_Ev m (pc + 3) L (v.toList ++ st) B' I' P' G' (k - mc) (s - ms) d Q) (h6 : ∀ x B' I' P' G', R (.inr x) B' I' P' G' → Q (.inr x) B' I' P' G') :
    am_Ev m pc L (As.reverse ++ st) B I P G k s d Q := by
  subst hE
  have e1 : (As.reverse ++ st).take (am_na id) = As.reverse := by rw [hn]; exact List.take_left' (by simp)
  have e2 : (As.reverse ++ st).drop (am_na id) = st := by rw [hn]; exact List.drop_left' (by simp)
  refine (am_step hc).mpr (Or.inr (Or.inr (Or.inr (Or.inr (Or.inr ⟨hid, by show am_na id ≤ _; rw [hn]; simp, ?_⟩)))))
  show am_Call am_Ev id (List.take (am_na id) _).reverse (List.drop (am_na id) _) m pc L B I P G k s d Q
  rw [e1, e2, List.reverse_reverse]
  exact ⟨R, mc, ms, dd, h0, hEl, hEk, h1, h2, h3, h4, fun v B' I' P' G' h => ⟨B', Nat.le_refl _, h5 v B' I' P' G' h⟩, fun x B' I' P' G' h => by rw [hx]; exact h6 _ _ _ _ _ h⟩
end AMS
