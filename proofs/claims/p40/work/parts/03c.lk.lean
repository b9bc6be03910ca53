/-! SOUNDNESS: what an instruction's links are -/
def am_pw (w : Jvm.Cond) : Bool := match w with
  | .declares _ => true
  | .castable _ _ => true
  | .methodLinkNest _ _ _ _ => true
  | .arrayOver _ => true
  | w => goodWord w
def am_cN (c : Nat) : Nat := [3, 10, 4, 1, 6, 3, 7, 12, 9, 9].getD c 0
def am_dC : vw_C := ("", fun _ => ("", "", "", false), 0)
def am_C (c : Nat) : String := (am_cl.getD c am_dC).1
def am_T (c : Nat) : u_T := (am_cl.getD c am_dC).2.1
def am_at (t : ArrayType) : Nat := match t with
  | .int => 10
  | .boolean => 11
  | .char => 12
  | .long => 13
  | _ => 99
noncomputable def am_y (m : Nat) : MethodName := (am_me m).1
noncomputable def am_by (m : Nat) : ByteArray := (am_me m).2.1
def am_names : List String := ["java/lang/RuntimeException", "java/lang/Exception"]
def am_exn (x : Nat) : String := ["java/lang/IllegalArgumentException", "java/lang/IllegalStateException", "java/lang/UnsupportedOperationException", "java/util/NoSuchElementException", "java/lang/IndexOutOfBoundsException"].getD x ""
def am_cloneN : MethodName := ⟨"[I", "clone", "()Ljava/lang/Object;"⟩
def am_copyN : MethodName := ⟨"java/util/Arrays", "copyOf", "([Ljava/lang/Object;I)[Ljava/lang/Object;"⟩
/-- NoSuchElementException's constructor names its super's by the entry 13 -/
def am_nseB : ByteArray := ⟨#[0x2a, 0x2b, 0xb7, 0x00, 0x0d, 0xb1]⟩
def am_thrW (own : String) (ic x : Nat) : List Jvm.Cond := if x = 3 then am_atX own ic (am_exn x) 13 am_nseB "java/lang/RuntimeException" ["java/lang/Exception"] else vx_atS own ic (am_exn x) am_names
def am_len (i : Instr) : Nat := match i with
  | .bipush _ => 2
  | .sipush _ => 3
  | .ldc _ => 2
  | .ldc_w _ => 3
  | .ldc2_w _ => 3
  | .iload _ => 2
  | .lload _ => 2
  | .aload _ => 2
  | .istore _ => 2
  | .astore _ => 2
  | .iinc _ _ => 3
  | .ifCond _ _ => 3
  | .if_icmp _ _ => 3
  | .ifnull _ => 3
  | .ifnonnull _ => 3
  | .if_acmp _ _ => 3
  | .goto _ => 3
  | .tableswitch _ _ _ _ => 0
  | .getfield _ => 3
  | .putfield _ => 3
  | .getstatic _ => 3
  | .new _ => 3
  | .newarray _ => 2
  | .anewarray _ => 3
  | .multianewarray _ _ => 4
  | .checkcast _ => 3
  | .invokevirtual _ => 3
  | .invokespecial _ => 3
  | .invokestatic _ => 3
  | _ => 1
def am_up (pc : Nat) (off : Int) : Prop := 0 ≤ (pc : Int) + off
def am_fin (m t k : Nat) : Prop := (am_T t k).2.2.2 = false ∨ ((am_T t k).2.2.2 = true ∧ (am_y m).name = "<init>" ∧ (am_T t k).1 = (am_y m).cls)
def am_fl (m i t k : Nat) : Prop := t < 10 ∧ k < am_cN t ∧ ∃ ref, Jvm.Cond.fieldLink (am_y m).cls i ref (am_T t k).2.1 (am_T t k).2.2.1 ∈ lw_tbl ∧ (ref = (am_T t k).1 ∨ Jvm.Cond.sameField ref (am_T t k).1 (am_T t k).2.1 (am_T t k).2.2.1 ∈ lw_tbl)
/-- what a callee is -/
def am_cal (y : Nat) : Prop := (am_hh y = [] ∧ Jvm.Cond.code (am_y y) (am_by y) (am_nL y) (am_rt y) ∈ lw_tbl) ∨ (am_hh y ≠ [] ∧ Jvm.Cond.codeWith (am_y y) (am_by y) (am_nL y) (am_rt y) (am_hh y) ∈ lw_tbl)
def am_calx (y : Nat) : Prop := Jvm.Cond.initialized (am_y y).cls ∈ lw_tbl ∧ (am_y y).cls ≠ "java/lang/invoke/MethodHandle" ∧ (am_y y).cls ≠ "java/lang/invoke/VarHandle" ∧ am_nL y ≤ 21 ∧ plainName (am_y y).cls = true
def am_lk (m pc : Nat) (e : am_e) : Prop := match e.1 with
  | .ldc i => e.2.2.2 = 1 → Jvm.Cond.constant (am_y m).cls i (nI e.2.2.1) ∈ lw_tbl
  | .ldc_w i => e.2.2.2 = 1 → Jvm.Cond.constant (am_y m).cls i (nI e.2.2.1) ∈ lw_tbl
  | .ldc2_w i => e.2.2.2 = 1 → Jvm.Cond.constantLong (am_y m).cls i (lN e.2.2.1) ∈ lw_tbl
  | .ifCond _ off => am_up pc off
  | .if_icmp _ off => am_up pc off
  | .ifnull off => am_up pc off
  | .ifnonnull off => am_up pc off
  | .if_acmp _ off => am_up pc off
  | .goto off => am_up pc off
  | .tableswitch df lo hi offs => am_up pc df ∧ (∀ off ∈ offs.toList, am_up pc off) ∧ hi = lo + offs.size - 1
  | .getfield i => am_fl m i e.2.2.1 e.2.2.2 ∨ 19 < e.2.2.1
  | .putfield i => (am_fl m i e.2.2.1 e.2.2.2 ∧ am_fin m e.2.2.1 e.2.2.2) ∨ 19 < e.2.2.1
  | .getstatic i => e.2.2.1 = 1 → Jvm.Cond.fieldLink (am_y m).cls i "java/util/ArrayList" "DEFAULTCAPACITY_EMPTY_ELEMENTDATA" "[Ljava/lang/Object;" ∈ lw_tbl
  | .new i => (e.2.2.1 < 10 → Jvm.Cond.classLink (am_y m).cls i (am_C e.2.2.1) ∈ lw_tbl ∧ Jvm.Cond.instantiable (am_C e.2.2.1) (am_cN e.2.2.1) ∈ lw_tbl ∧ Jvm.Cond.initialized (am_C e.2.2.1) ∈ lw_tbl) ∧
      (200 ≤ e.2.2.1 → e.2.2.1 < 205 → (am_y m).cls = "SaywhatSeen" ∧ ∃ (is ic : Nat) (text : String), decode (am_by m) (pc + 3) = .ok (.dup, 1) ∧ ((decode (am_by m) (pc + 4) = .ok (.ldc is, 2) ∧ decode (am_by m) (pc + 6) = .ok (.invokespecial ic, 3) ∧ decode (am_by m) (pc + 9) = .ok (.athrow, 1)) ∨ (decode (am_by m) (pc + 4) = .ok (.ldc_w is, 3) ∧ decode (am_by m) (pc + 7) = .ok (.invokespecial ic, 3) ∧ decode (am_by m) (pc + 10) = .ok (.athrow, 1))) ∧
        Jvm.Cond.classLink (am_y m).cls i (am_exn (e.2.2.1 - 200)) ∈ lw_tbl ∧ Jvm.Cond.initialized (am_exn (e.2.2.1 - 200)) ∈ lw_tbl ∧ Jvm.Cond.stringRef "SaywhatSeen" is text ∈ lw_tbl ∧ ∀ w ∈ am_thrW (am_y m).cls ic (e.2.2.1 - 200), w ∈ lw_tbl ∧ am_pw w = true ∧ vx_ot w = true)
  | .newarray t => am_at t = e.2.2.1 ∧ am_at t ≠ 99 ∧ Jvm.Cond.arrayClass (newarray.typeOf t) ∈ lw_tbl
  | .anewarray i => 14 ≤ e.2.2.1 → e.2.2.1 ≤ 16 → ∃ C, ((e.2.2.1 = 14 ∧ C = "java/lang/Object") ∨ (e.2.2.1 = 15 ∧ C = "SaywhatSeen$Fact") ∨ (e.2.2.1 = 16 ∧ C = "SaywhatSeen$Film")) ∧ Jvm.Cond.classLink (am_y m).cls i C ∈ lw_tbl ∧ Jvm.Cond.arrayOver (.object C) ∈ lw_tbl
  | .multianewarray i d => d = 2 ∧ Jvm.Cond.classLink (am_y m).cls i "[[I" ∈ lw_tbl ∧ Jvm.Cond.arrayOver (.array .int) ∈ lw_tbl ∧ Jvm.Cond.arrayClass .int ∈ lw_tbl
  | .checkcast i => (e.2.2.1 < 10 ∧ Jvm.Cond.classLink (am_y m).cls i (am_C e.2.2.1) ∈ lw_tbl) ∨ 19 < e.2.2.1 ∨ (e.2.2.1 = 10 ∧ Jvm.Cond.classLink (am_y m).cls i "[I" ∈ lw_tbl)
  | .invokevirtual i => (e.2.2.1 = 905 → Jvm.Cond.methodLink (am_y m).cls i am_cloneN ∈ lw_tbl) ∧ (e.2.2.1 < 900 → am_hh e.2.2.1 = [] ∧ am_cal e.2.2.1 ∧ am_calx e.2.2.1 ∧ am_own e.2.2.1 < 10 ∧ (am_y e.2.2.1).cls = am_C (am_own e.2.2.1) ∧ (parseMethodDescriptor (am_y e.2.2.1).desc).map (fun d => d.parameters.length + 1) = some (am_na e.2.2.1) ∧
      Jvm.Cond.methodLink (am_y m).cls i (am_y e.2.2.1) ∈ lw_tbl ∧ Jvm.Cond.instanceMethod (am_y e.2.2.1) ∈ lw_tbl ∧ Jvm.Cond.selects (am_y e.2.2.1).cls (am_y e.2.2.1) (am_y e.2.2.1) ∈ lw_tbl)
  | .invokespecial i => (e.2.2.1 = 900 → Jvm.Cond.methodLink (am_y m).cls i Lib.objectInit ∈ lw_tbl ∧ Jvm.Cond.instanceMethod Lib.objectInit ∈ lw_tbl ∧ Jvm.Cond.code Lib.objectInit ⟨#[0xb1]⟩ 1 none ∈ lw_tbl) ∧
      (e.2.2.1 < 900 → am_hh e.2.2.1 = [] ∧ am_cal e.2.2.1 ∧ am_calx e.2.2.1 ∧ am_rt e.2.2.1 = none ∧ (am_y e.2.2.1).name = "<init>" ∧ (parseMethodDescriptor (am_y e.2.2.1).desc).map (fun d => d.parameters.length + 1) = some (am_na e.2.2.1) ∧
        (Jvm.Cond.methodLink (am_y m).cls i (am_y e.2.2.1) ∈ lw_tbl ∨ ∃ host, Jvm.Cond.methodLinkNest (am_y m).cls i (am_y e.2.2.1) host ∈ lw_tbl) ∧ Jvm.Cond.instanceMethod (am_y e.2.2.1) ∈ lw_tbl)
  | .invokestatic i => (e.2.2.1 = 901 → Jvm.Cond.methodLink (am_y m).cls i Lib.Math.max.name ∈ lw_tbl ∧ Jvm.Cond.static Lib.Math.max.name ∈ lw_tbl ∧ Jvm.Cond.initialized "java/lang/Math" ∈ lw_tbl ∧ Jvm.Cond.code Lib.Math.max.name Lib.Math.max.code 2 (some .int) ∈ lw_tbl) ∧
      (e.2.2.1 = 902 → Jvm.Cond.methodLink (am_y m).cls i Lib.Math.min.name ∈ lw_tbl ∧ Jvm.Cond.static Lib.Math.min.name ∈ lw_tbl ∧ Jvm.Cond.initialized "java/lang/Math" ∈ lw_tbl ∧ Jvm.Cond.code Lib.Math.min.name Lib.Math.min.code 2 (some .int) ∈ lw_tbl) ∧
      (e.2.2.1 < 900 → am_cal e.2.2.1 ∧ am_calx e.2.2.1 ∧ (parseMethodDescriptor (am_y e.2.2.1).desc).map (fun d => d.parameters.length) = some (am_na e.2.2.1) ∧ Jvm.Cond.methodLink (am_y m).cls i (am_y e.2.2.1) ∈ lw_tbl ∧ Jvm.Cond.static (am_y e.2.2.1) ∈ lw_tbl) ∧ (e.2.2.1 = 903 → Jvm.Cond.methodLink (am_y m).cls i am_copyN ∈ lw_tbl) ∧ (e.2.2.1 = 904 → Jvm.Cond.methodLink (am_y m).cls i arraycopyName ∈ lw_tbl) ∧
      (e.2.2.1 = 906 → m = 228 ∧ am_hh e.2.2.2 = [] ∧ am_cal e.2.2.2 ∧ am_calx e.2.2.2 ∧ (parseMethodDescriptor (am_y e.2.2.2).desc).map (fun d => d.parameters.length) = some (am_na e.2.2.2) ∧ Jvm.Cond.methodLink (am_y m).cls i (am_y e.2.2.2) ∈ lw_tbl ∧ Jvm.Cond.static (am_y e.2.2.2) ∈ lw_tbl)
  | _ => True
def am_okE (m pc : Nat) (e : am_e) : Prop := decode (am_by m) pc = .ok (e.1, e.2.1) ∧ (am_len e.1 ≠ 0 → e.2.1 = am_len e.1) ∧ am_lk m pc e
