/-! SOUNDNESS: the copy of a row (int[].clone) -/
section CL
variable {p : Program} {l : Launch} {e : Env} {R : Room} {s : State} {mid : MethodId} {args : Array Value} {below : List Frame} {meth : Method} {c : Code} {H : Heap} {locs : List Loc} {cells slots : Nat} {Z : State → Prop}
variable {cc : ByteArray} {pc : Nat} {ls : Array Slot} {rest : List Value} {D : va_G} {tc : Nat → ClassId} {sz0 b0 : Nat} {ρ : Nat → Nat} {al : Nat → Prop} {B : Nat} {I : am_I} {P : am_P} {G : am_G}
theorem am_clW : Jvm.Cond.sameMethod "[I" "java/lang/Object" "clone" "()Ljava/lang/Object;" ∈ lw_tbl ∧ Jvm.Cond.native ⟨"java/lang/Object", "clone", "()Ljava/lang/Object;"⟩ ∈ lw_tbl ∧ Jvm.Cond.instanceMethod ⟨"java/lang/Object", "clone", "()Ljava/lang/Object;"⟩ ∈ lw_tbl ∧ Jvm.Cond.selects "[I" am_cloneN ⟨"java/lang/Object", "clone", "()Ljava/lang/Object;"⟩ ∈ lw_tbl ∧ Jvm.Cond.castable "[I" "java/lang/Cloneable" ∈ lw_tbl := by decide +kernel
theorem w_cloneH (hexec : p.tables.exec = Jvm.exec) (hb : c.code = cc) (hml : c.maxLocals = ls.size) {own : String} {index : Nat} (hG : am_Gw s) (hown : s.vm.findClass own = some mid.cls) (hlink : Jvm.Cond.methodLink own index am_cloneN ∈ lw_tbl) (hK : va_K D am_cl (am_tys tc) s) {q n : Nat} {f : Nat → Int32} (hcell : H[q]? = some (arrV (tc 10) n (fun j => .int (f j))))
    (hframes : 1 ≤ R.frames) (hlocals : (rest.map fun v => v.category).sum + 14 ≤ R.locals) (hcells : cells + 1 ≤ R.cells) (hslots : slots + n ≤ R.slots) (hdg : decode cc pc = .ok (.invokevirtual index, 3))
    (kk : ∀ H1 : Heap, H1[H.size]? = some (arrV (tc 10) n (fun j => .int (f j))) → H1.size = H.size + 1 → (∀ x, x < H.size → H1[x]? = H[x]?) → W p l e R s mid args below meth c H1 locs (cells + 1) (slots + n) Z (F0 mid (pc + 3) ls (.ref H.size :: rest))) : W p l e R s mid args below meth c H locs cells slots Z (F0 mid pc ls (.ref q :: rest)) := by
  obtain ⟨k1, k2, k3, k4, k5⟩ := am_clW
  have hnm := va_nm_int (hK.2 0 _ rfl).2
  obtain ⟨c0, t0', f1, f2, f3⟩ := Cond.castable_spec (hG args _ k5 rfl)
  cases hnm.symm.trans f1
  intro T hT X
  have hcellT : T.heap[q]? = some (arrV (tc 10) n (fun j => .int (f j))) := by rw [hT]; exact hcell
  obtain ⟨-, kA, hkA, comp, hkind⟩ := State.isArrayOf_alike X.warmed.alike ((hK.2 0 _ rfl).1 0 (fun _ => .null))
  obtain ⟨-, kS, hkS, compS, hkindS⟩ := (hK.2 0 _ rfl).1 0 (fun _ => .null)
  obtain ⟨vm', X', st⟩ := X.cloneArray hexec hown (hG args _ hlink rfl) (hG args _ k1 rfl) (hG args _ k2 rfl) (hG args _ k3 rfl) (hG args _ k4 rfl) (a := q) (cell := arrV (tc 10) n (fun j => .int (f j))) hcellT (fun k h => by cases h) (fun h => by cases h) hnm f2 f3
    (fun i v hv => by
      have hk' : T.vm.classes[tc 10]? = some kA := hkA
      have hfit : Jvm.fits .int v = true := va_fit (fun _ _ => rfl) i v hv
      have hcl0 : (arrV (tc 10) n (fun j => Value.int (f j))).cls = tc 10 := rfl
      simpa [State.fitsSlot, State.slotType?, hcl0, hk', hkind] using hfit)
    (g := F0 mid pc ls (.ref q :: rest)) rfl (by rw [hml]) rfl (by rw [hb]; exact hdg) hframes (by show 2 * 0 + _ + 14 ≤ _; omega) hcells (by rw [arrV_size]; exact hslots) (hloader := Vm.clonesLoader_of_array hkS hkindS)
  have hcellE : ({ cls := (arrV (tc 10) n (fun j => Value.int (f j))).cls, slots := (arrV (tc 10) n (fun j => Value.int (f j))).slots } : Cell) = arrV (tc 10) n (fun j => .int (f j)) := rfl
  rw [hcellE, arrV_size] at X'
  obtain ⟨t, b1, b2⟩ := kk (H.push (arrV (tc 10) n (fun j => .int (f j)))) (Array.getElem?_push_size) (Array.size_push ..) (fun x hx => by rw [Array.getElem?_push, if_neg (Nat.ne_of_lt hx)])
    ((T.setVm vm').pushCell (arrV (tc 10) n (fun j => .int (f j)))) (by rw [← hT]; rfl) X'
  refine ⟨t, st t ?_, b2⟩
  rw [hcellE, hT]
  exact b1
theorem w_clone (hexec : p.tables.exec = Jvm.exec) (hb : c.code = cc) (hml : c.maxLocals = ls.size) {own : String} {index : Nat} (hG : am_Gw s) (hown : s.vm.findClass own = some mid.cls) (hK : va_K D am_cl (am_tys tc) s) (hR : am_R D tc sz0 b0 ρ al B I P G H) (hS : va_S (am_A sz0) s.heap H locs) (hz : sz0 ≤ s.heap.size) {a b n : Nat} (ha : al a) (hB : B ≤ b) (hm : b % 4096 ≠ 4000) (hTa : am_TY a = (10, n)) (hTb : am_TY b = (10, n))
    (hlink : Jvm.Cond.methodLink own index am_cloneN ∈ lw_tbl) (hdg : decode cc pc = .ok (.invokevirtual index, 3)) (hframes : 1 ≤ R.frames) (hlocals : (rest.map fun v => v.category).sum + 14 ≤ R.locals) (hc : cells + 1 ≤ R.cells) (hsl : slots + n ≤ R.slots)
    (kk : ∀ H' locs', am_R D tc sz0 b0 (am_ra ρ b H.size) (am_aa al b) (b + 1) (fun x i => if x = b then I a i else I x i) (am_c P b none) G H' → va_S (am_A sz0) s.heap H' locs' → W p l e R s mid args below meth c H' locs' (cells + 1) (slots + n) Z (F0 mid (pc + 3) ls (.ref H.size :: rest))) : W p l e R s mid args below meth c H locs cells slots Z (F0 mid pc ls (.ref (ρ a) :: rest)) := by
  have h1 : (am_TY a).1 = 10 := by rw [hTa]
  have h2 : (am_TY b).1 = 10 := by rw [hTb]
  have f2 := hR.at ha (by rw [h1]; decide)
  rw [am_E_i (Or.inl h1), hTa] at f2
  refine w_cloneH (f := I a) hexec hb hml hG hown hlink hK f2 hframes hlocals hc hsl hdg fun H' k1 k2 k3 => ?_
  refine kk H' locs (hR.new hB hm (by rw [h2]; decide) rfl (by have := hS.1; omega) (fun x hx => ⟨by funext i; simp [hx], am_row0 x hx, rfl⟩) (fun k => by simp [am_c]) k3 ?_) (am_S_new hS rfl k2 k3)
  rw [am_E_i (Or.inl h2), hTb]
  have hI : (fun i => if b = b then I a i else I b i) = I a := by funext i; simp
  rw [hI]
  exact k1
end CL
