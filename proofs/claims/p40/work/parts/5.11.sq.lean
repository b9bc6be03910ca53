/-! SOUNDNESS: new arrays -/
section SQ
variable {p : Program} {l : Launch} {e : Env} {R : Room} {s : State} {mid : MethodId} {args : Array Value} {below : List Frame} {meth : Method} {c : Code} {H : Heap} {locs : List Loc} {cells slots : Nat} {Z : State → Prop}
variable {cc : ByteArray} {pc : Nat} {ls : Array Slot} {rest : List Value} {D : va_G} {tc : Nat → ClassId} {sz0 b0 : Nat} {ρ : Nat → Nat} {al : Nat → Prop} {B : Nat} {I : am_I} {P : am_P} {G : am_G}
theorem w_newa (hexec : p.tables.exec = Jvm.exec) (hb : c.code = cc) (hG : am_Gw s) (hK : va_K D am_cl (am_tys tc) s) (hR : am_R D tc sz0 b0 ρ al B I P G H) (hS : va_S (am_A sz0) s.heap H locs) (hz : sz0 ≤ s.heap.size) {a : Nat} (hB : B ≤ a) (hm : a % 4096 ≠ 4000) {atype : ArrayType} {n : Nat} (ht : am_TY a = (am_at atype, n)) (h99 : am_at atype ≠ 99) (hn : n < 65536)
    (hlink : Jvm.Cond.arrayClass (newarray.typeOf atype) ∈ lw_tbl) (hdg : decode cc pc = .ok (.newarray atype, 2)) (hc : cells + 1 ≤ R.cells) (hsl : slots + n ≤ R.slots)
    (kk : ∀ H' locs', am_R D tc sz0 b0 (am_ra ρ a H.size) (am_aa al a) (a + 1) (am_c I a 0) (am_c P a none) (am_c G a 0) H' → va_S (am_A sz0) s.heap H' locs' → W p l e R s mid args below meth c H' locs' (cells + 1) (slots + n) Z (F0 mid (pc + 2) ls (.ref H.size :: rest))) : W p l e R s mid args below meth c H locs cells slots Z (F0 mid pc ls (.int (nI n) :: rest)) := by
  have h1 : (am_TY a).1 = am_at atype := by rw [ht]
  have h2 : (am_TY a).2 = n := by rw [ht]
  have hnl : atype ≠ .long := fun h => by
    subst h
    exact absurd hlink (by decide +kernel)
  have key : ∀ ty, newarray.typeOf atype = ty → ∀ H' : Heap, H'[H.size]? = some (arrV (tc (am_TY a).1) n (fun _ => defaultValue ty)) → H'.size = H.size + 1 → (∀ q, q < H.size → H'[q]? = H[q]?) → W p l e R s mid args below meth c H' locs (cells + 1) (slots + n) Z (F0 mid (pc + 2) ls (.ref H.size :: rest)) := by
    intro ty hty H' k1 k2 k3
    refine kk H' locs (hR.new hB hm (by rw [h1]; cases atype <;> simp [am_at] at h99 ⊢) rfl (by have := hS.1; omega) (fun b hb => ⟨am_row0 b hb, am_row0 b hb, am_row0 b hb⟩) (fun k => by simp [am_c]) k3 ?_) (am_S_new hS rfl k2 k3)
    have hI : (am_c I a 0) a = fun _ => 0 := by funext j; simp [am_c]
    have hGa : (am_c G a 0) a = fun _ => 0 := by funext j; simp [am_c]
    subst hty
    cases atype
    case int =>
      rw [am_E_i (Or.inl h1), hI, h2]; exact k1
    case boolean =>
      rw [am_E_i (Or.inr (Or.inl h1)), hI, h2]; exact k1
    case char =>
      rw [am_E_i (Or.inr (Or.inr (Or.inl h1))), hI, h2]; exact k1
    case long => exact absurd rfl hnl
    all_goals simp [am_at] at h99
  refine W.newa hexec hb (hG args _ hlink rfl) rfl hdg rfl (nI_pos (by omega)) ?_ hc ?_ fun cA kA comp f1 f2 f3 => ?_
  · rw [nI_clamp (by omega)]
    have : componentBytes (newarray.typeOf atype) ≤ 8 := by cases atype <;> decide
    calc n * componentBytes (newarray.typeOf atype) ≤ n * 8 := Nat.mul_le_mul_left _ this
      _ ≤ 536870912 := by omega
  · rw [nI_clamp (by omega)]; exact hsl
  · rw [nI_clamp (by omega)]
    have hcA : cA = tc (am_TY a).1 := by
      rw [h1]
      cases atype
      case int => exact Option.some.inj (f1.symm.trans ((hK.2 0 _ rfl).2))
      case boolean => exact Option.some.inj (f1.symm.trans ((hK.2 1 _ rfl).2))
      case char => exact Option.some.inj (f1.symm.trans ((hK.2 2 _ rfl).2))
      case long => exact absurd rfl hnl
      all_goals simp [am_at] at h99
    subst hcA
    refine key _ rfl _ ?_ ?_ ?_
    · rw [← arrV_new]; simp
    · simp
    · intro q hq
      rw [Array.getElem?_push, if_neg (Nat.ne_of_lt hq)]
theorem w_anewa (hexec : p.tables.exec = Jvm.exec) (hb : c.code = cc) {own C : String} {index : Nat} (hG : am_Gw s) (hown : s.vm.findClass own = some mid.cls) (hK : va_K D am_cl (am_tys tc) s) (hR : am_R D tc sz0 b0 ρ al B I P G H) (hS : va_S (am_A sz0) s.heap H locs) (hz : sz0 ≤ s.heap.size) {a : Nat} (hB : B ≤ a) (hm : a % 4096 ≠ 4000) {t n : Nat} (ht : am_TY a = (t, n)) (hC : (t = 14 ∧ C = "java/lang/Object") ∨ (t = 15 ∧ C = "SaywhatSeen$Fact") ∨ (t = 16 ∧ C = "SaywhatSeen$Film")) (hn : n < 65536)
    (hlink : Jvm.Cond.classLink own index C ∈ lw_tbl) (hover : Jvm.Cond.arrayOver (.object C) ∈ lw_tbl) (hdg : decode cc pc = .ok (.anewarray index, 3)) (hc : cells + 1 ≤ R.cells) (hsl : slots + n ≤ R.slots)
    (kk : ∀ H' locs', am_R D tc sz0 b0 (am_ra ρ a H.size) (am_aa al a) (a + 1) (am_c I a 0) (am_c P a none) G H' → va_S (am_A sz0) s.heap H' locs' → W p l e R s mid args below meth c H' locs' (cells + 1) (slots + n) Z (F0 mid (pc + 3) ls (.ref H.size :: rest))) : W p l e R s mid args below meth c H locs cells slots Z (F0 mid pc ls (.int (nI n) :: rest)) := by
  have h1 : (am_TY a).1 = t := by rw [ht]
  have h2 : (am_TY a).2 = n := by rw [ht]
  have h14 : 14 ≤ (am_TY a).1 ∧ (am_TY a).1 ≤ 17 := by omega
  refine W.anew hexec hb hown (hG args _ hlink rfl) (hG args _ hover rfl) rfl hdg rfl (nI_pos (by omega)) (by rw [nI_clamp (by omega)]; omega) hc (by rw [nI_clamp (by omega)]; exact hsl) fun cA kA comp f1 f2 f3 f4 => ?_
  rw [nI_clamp (by omega)]
  have hcA : cA = tc (am_TY a).1 := by
    rw [h1]
    rcases hC with ⟨rfl, rfl⟩ | ⟨rfl, rfl⟩ | ⟨rfl, rfl⟩
    · obtain ⟨_, _, -, -, -, k4⟩ := (hK.2 4 _ rfl).2; exact Option.some.inj (f1.symm.trans k4)
    · obtain ⟨_, _, -, -, -, k4⟩ := (hK.2 5 _ rfl).2; exact Option.some.inj (f1.symm.trans k4)
    · obtain ⟨_, _, -, -, -, k4⟩ := (hK.2 6 _ rfl).2; exact Option.some.inj (f1.symm.trans k4)
  subst hcA
  have k3 : ∀ q, q < H.size → (H.push { cls := tc (am_TY a).1, slots := Array.replicate n .null, vm := .none })[q]? = H[q]? := by
    intro q hq
    rw [Array.getElem?_push, if_neg (Nat.ne_of_lt hq)]
  refine kk _ locs (hR.new hB hm (by omega) rfl (by have := hS.1; omega) (fun b hb => ⟨am_row0 b hb, am_row0 b hb, rfl⟩) (fun k => by simp [am_c]) k3 ?_) (am_S_new hS rfl (by simp) k3)
  rw [am_E_r h14.1 h14.2, h2]
  show _ = some (vp_cell _ _)
  rw [vp_cell_q]
  have hP : (fun j => va_rf (((am_c P a none) a j).map (am_ra ρ a H.size))) = fun _ => .null := by funext j; simp [am_c, va_rf]
  rw [hP, ← arrV_new]
  simp
end SQ
