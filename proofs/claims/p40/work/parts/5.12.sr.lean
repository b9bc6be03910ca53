/-! SOUNDNESS: what an instruction's links are -/
/-! the judgement -/
section SR
variable (l : Launch) (D : va_G) (tc : Nat → ClassId) (sz0 b0 : Nat)
/-- a method with a table of its own has it here; one without may be let out of that where nothing is thrown -/
def am_Ctx (m : Nat) (Q : am_Q) (p : Program) (e : Env) (R : Room) (s0 : State) (mid : MethodId) (meth : Method) (c : Code) : Prop :=
  p.tables.exec = Jvm.exec ∧ c.code = am_by m ∧ c.maxLocals = am_nL m ∧ meth.sig.returnType = am_rt m ∧ s0.vm.findClass (am_y m).cls = some mid.cls ∧ meth.locks = false ∧ ((am_y m).name = "<init>" → meth.name = "<init>") ∧ (c.exceptionTable.toList = tableOf (am_hh m) ∨ (am_hh m = [] ∧ ∀ x B I P G, ¬ Q (.inr x) B I P G)) ∧ am_Gd D tc sz0 b0 s0 s0.heap
def am_vs (al : Nat → Prop) : List Value → Prop
  | [] => True
  | v :: st => am_vok al v ∧ am_vs al st
def am_Inv (m : Nat) (L : List (Option Value)) (st : List Value) (B : Nat) (I : am_I) (P : am_P) (G : am_G) (k sl d : Nat) (R : Room) (s0 : State) (H : Heap) (locs : List Loc) (cells slots : Nat) (ρ : Nat → Nat) (al : Nat → Prop) (ls : Array Slot) (ρ0 : Nat → Nat) (al0 : Nat → Prop) : Prop :=
  va_S (am_A sz0) s0.heap H locs ∧ am_R D tc sz0 b0 ρ al B I P G H ∧ am_rl m ρ al L ls ∧ am_vs al st ∧ (cells + k ≤ R.cells ∧ slots + sl ≤ R.slots ∧ d + 8 ≤ R.frames ∧ (d + 8) * 100 ≤ R.locals) ∧ am_ext ρ0 al0 ρ al
def am_Qc (Q : am_Q) (ρ0 : Nat → Nat) (al0 : Nat → Prop) : Array Value → State → Outcome → State → Prop := fun _ st o t => ∃ (v : Option Value) (ρ : Nat → Nat) (al : Nat → Prop) (B : Nat) (I : am_I) (P : am_P) (G : am_G),
  o = .returned (v.map (am_rn ρ)) ∧ am_vs al v.toList ∧ Q (.inl v) B I P G ∧ am_R D tc sz0 b0 ρ al B I P G t.heap ∧ am_ext ρ0 al0 ρ al ∧ va_F (am_A sz0) st t
def am_XC (Q : am_Q) (ρ0 : Nat → Nat) (al0 : Nat → Prop) : String → State → State → Prop := fun E st t => ∃ (x : Nat) (ρ : Nat → Nat) (al : Nat → Prop) (B : Nat) (I : am_I) (P : am_P) (G : am_G),
  x < 5 ∧ E = am_exn x ∧ Q (.inr x) B I P G ∧ am_R D tc sz0 b0 ρ al B I P G t.heap ∧ am_ext ρ0 al0 ρ al ∧ va_F (am_A sz0) st t
def am_Snd : am_X := fun m pc L st B I P G k sl d Q => ∀ {p : Program} {e : Env} {R : Room} {s0 : State} {mid : MethodId} {args : Array Value} {below : List Frame} {meth : Method} {c : Code} {H : Heap} {locs : List Loc} {cells slots : Nat} {ρ : Nat → Nat} {al : Nat → Prop} {ls : Array Slot} {ρ0 : Nat → Nat} {al0 : Nat → Prop},
  am_Ctx D tc sz0 b0 m Q p e R s0 mid meth c → am_Inv D tc sz0 b0 m L st B I P G k sl d R s0 H locs cells slots ρ al ls ρ0 al0 →
  W p l e R s0 mid args below meth c H locs cells slots (vx_MQ below (am_Qc D tc sz0 b0 Q ρ0 al0) (am_XC D tc sz0 b0 Q ρ0 al0) args s0 R.cells R.slots (am_A sz0)) (F0 mid pc ls (st.map (am_rn ρ)))
end SR
