/-! SOUNDNESS: rows of references, new things -/
section SP
variable {p : Program} {l : Launch} {e : Env} {R : Room} {s : State} {mid : MethodId} {args : Array Value} {below : List Frame} {meth : Method} {c : Code} {H : Heap} {locs : List Loc} {cells slots : Nat} {Z : State → Prop}
variable {cc : ByteArray} {pc : Nat} {ls : Array Slot} {rest : List Value} {D : va_G} {tc : Nat → ClassId} {sz0 b0 : Nat} {ρ : Nat → Nat} {al : Nat → Prop} {B : Nat} {I : am_I} {P : am_P} {G : am_G}
theorem am_updP {a : Nat} {i : Int32} {r : Option Nat} : (fun j => va_rf ((am_u P a i.toNatClampNeg r a j).map ρ)) = updV (fun j => va_rf ((P a j).map ρ)) i.toNatClampNeg (va_rf (r.map ρ)) := by
  funext j
  by_cases h : j = i.toNatClampNeg <;> simp [am_u, updV, h]
set_option maxRecDepth 100000 in
theorem am_soundO : Jvm.Cond.castable "SaywhatSeen$Sound" "java/lang/Object" ∈ lw_tbl := by decide +kernel
theorem w_aast (hexec : p.tables.exec = Jvm.exec) (hb : c.code = cc) (hG : am_Gw s) (hK : va_K D am_cl (am_tys tc) s) (hR : am_R D tc sz0 b0 ρ al B I P G H) (hS : va_S (am_A sz0) s.heap H locs) {a : Nat} (ha : al a) {i : Int32} {r : Option Nat} (hr : ∀ b, r = some b → al b ∧ am_elt (am_TY a).1 (am_TY b).1 = true) (h14 : 14 ≤ (am_TY a).1) (h16 : (am_TY a).1 ≤ 16) (hin : vp_in i (am_TY a).2) (hdg : decode cc pc = .ok (.aastore, 1))
    (kk : ∀ H' locs', am_R D tc sz0 b0 ρ al B I (am_u P a i.toNatClampNeg r) G H' → va_S (am_A sz0) s.heap H' locs' → W p l e R s mid args below meth c H' locs' cells slots Z (F0 mid (pc + 1) ls rest)) : W p l e R s mid args below meth c H locs cells slots Z (F0 mid pc ls (am_rn ρ (va_rf r) :: .int i :: .ref (ρ a) :: rest)) := by
  have e2 := hR.at ha (by omega)
  rw [am_E_r h14 (by omega)] at e2
  have hlt : i.toNatClampNeg < (am_TY a).2 := am_lt hin
  have h0 : ¬ i < 0 := fun q => hin (Or.inl q)
  have hty : ∃ E, (am_tys tc)[(am_TY a).1 - 10]? = some (tc (am_TY a).1, .object E) ∧ ∀ b, r = some b → ∃ cb : Nat, cb < 10 ∧ (am_TY b).1 = cb ∧ (am_C cb = E ∨ Jvm.Cond.castable (am_C cb) E ∈ lw_tbl) := by
    have h : (am_TY a).1 = 14 ∨ (am_TY a).1 = 15 ∨ (am_TY a).1 = 16 := by omega
    rcases h with h | h | h <;> rw [h]
    · refine ⟨_, rfl, fun b hb => ⟨5, by omega, ?_, Or.inr am_soundO⟩⟩
      have := (hr b hb).2; rw [h] at this; simpa [am_elt] using this
    · refine ⟨_, rfl, fun b hb => ⟨1, by omega, ?_, Or.inl rfl⟩⟩
      have := (hr b hb).2; rw [h] at this; simpa [am_elt] using this
    · refine ⟨_, rfl, fun b hb => ⟨2, by omega, ?_, Or.inl rfl⟩⟩
      have := (hr b hb).2; rw [h] at this; simpa [am_elt] using this
  obtain ⟨E, h1, h2⟩ := hty
  have harr := (hK.2 _ _ h1).1 (am_TY a).2 (fun j => va_rf ((P a j).map ρ))
  have fin : ∀ H1 : Heap, H1[ρ a]? = some ((arrV (tc (am_TY a).1) (am_TY a).2 (fun j => va_rf ((P a j).map ρ))).setSlot i.toNatClampNeg (va_rf (r.map ρ))) → H1.size = H.size → (∀ q, q ≠ ρ a → H1[q]? = H[q]?) → W p l e R s mid args below meth c H1 (locs ++ [⟨ρ a, i.toNatClampNeg⟩]) cells slots Z (F0 mid (pc + 1) ls rest) := by
    intro H1 e z oq
    refine kk H1 _ (hR.upd ha (by omega) (fun b hb => ⟨rfl, by funext j; simp [am_u, hb], rfl⟩) ?_ oq (fun k q h => ?_)) (am_S hS z oq (am_big hR ha hin (by omega)) (by simp))
    · rw [am_E_r h14 (by omega)]
      show H1[ρ a]? = some (vp_cell _ _)
      rw [e, vp_cell_q, arrV_store, am_updP]
    · simp only [am_u, true_and] at h
      split at h
      · exact (hr q h).1
      · exact hR.2.2.1 a k q ha h
  cases r with
  | none => exact va_WaastN (C := E) hexec hb e2 harr (fun h => by cases h) (by show ¬ (i < 0 ∨ (arrV _ _ _).slots.size ≤ _); rw [arrV_size]; exact hin) rfl rfl hdg fun H1 e z oq => fin H1 e z oq
  | some b =>
    obtain ⟨cb, hcb, hb1, hb2⟩ := h2 b rfl
    have f2 := hR.at (hr b rfl).1 (by omega)
    rw [am_E_o (by omega), hb1] at f2
    obtain ⟨r', hr', cellV, g1, g2, g3, -⟩ := f2
    have hcls := (hK.1 cb _ (am_cl_at hcb)).2
    obtain ⟨kA, comp, k1, k2, k3, -⟩ := (hK.2 _ _ h1).2
    obtain ⟨kE, hkE, -⟩ := Vm.findClass_spec k3
    obtain ⟨kC, hkC, -⟩ := hcls.2
    have hass : s.vm.assignable (D.1 cb) comp = true := by
      rcases hb2 with q | q
      · have k3' := k3
        rw [← q] at k3'
        have : comp = D.1 cb := Option.some.inj (k3'.symm.trans hcls.1)
        subst this
        exact va_assign hcls
      · obtain ⟨c0, t1, f1, f2, f3⟩ := Cond.castable_spec (hG args _ q rfl)
        cases hcls.1.symm.trans f1
        cases k3.symm.trans f2
        exact f3
    exact W.aast hexec hb e2 (fun q h => by cases h) (fun h => by cases h) k1 k2 rfl hkE ⟨h0, by show _ < (arrV _ _ _).slots.size; rw [arrV_size]; exact hlt⟩ g1 (fun q h => by rw [g3] at h; cases h) (by rw [g2]; exact hkC) (by rw [g2]; exact hass) rfl rfl hdg fun H1 e z oq => fin H1 e z oq
/-- the role a begins, at q -/
def am_ra (ρ : Nat → Nat) (a q : Nat) : Nat → Nat := fun b => if b = a then q else ρ b
def am_aa (al : Nat → Prop) (a : Nat) : Nat → Prop := fun b => b = a ∨ al b
theorem am_R.lt (h : am_R D tc sz0 b0 ρ al B I P G H) {a : Nat} (ha : al a) : ρ a < H.size := (h.1 a ha).2.1.lt
theorem am_fresh (h : am_R D tc sz0 b0 ρ al B I P G H) {a : Nat} (hB : B ≤ a) (hm : a % 4096 ≠ 4000) : ¬ al a := fun q => by
  rcases (h.1 a q).2.2.1 with z | z
  · omega
  · exact hm z
theorem am_ext_new (h : am_R D tc sz0 b0 ρ al B I P G H) {a q : Nat} (hB : B ≤ a) (hm : a % 4096 ≠ 4000) : am_ext ρ al (am_ra ρ a q) (am_aa al a) := fun b hb => ⟨Or.inr hb, by
  have : b ≠ a := fun e => am_fresh h hB hm (e ▸ hb)
  simp [am_ra, this]⟩
theorem am_E_ext {ρ' : Nat → Nat} {I' : am_I} {P' : am_P} {G' : am_G} {b : Nat} (h1 : I' b = I b) (h2 : P' b = P b) (h3 : G' b = G b) (h4 : ∀ k r, P b k = some r → ρ' r = ρ r) : am_E tc ρ' I' P' G' b = am_E tc ρ I P G b := by
  have e1 : ∀ k, (P b k).map ρ' = (P b k).map ρ := by
    intro k
    cases hp : P b k with
    | none => rfl
    | some r => simp [h4 k r hp]
  have e2 : ∀ t k, am_rn ρ' (am_fv t k I' P' b) = am_rn ρ (am_fv t k I P b) := by
    intro t k
    unfold am_fv
    rw [h1, h2]
    split
    · rw [am_rf_map, am_rf_map, e1]
    · rfl
  simp only [am_E, e2, h1, h2, h3, e1]
theorem am_R.new (h : am_R D tc sz0 b0 ρ al B I P G H) {a : Nat} (hB : B ≤ a) (hm : a % 4096 ≠ 4000) (ht : (am_TY a).1 < 18) {I' : am_I} {P' : am_P} {G' : am_G} {H' : Heap} {h0 : Nat} (hh : H.size = h0) (hz : sz0 ≤ H.size) (ho : ∀ b, b ≠ a → I' b = I b ∧ P' b = P b ∧ G' b = G b) (hP : ∀ k, P' a k = none) (hq : ∀ q, q < h0 → H'[q]? = H[q]?)
    (hn : va_at D am_cl (h0, am_E tc (am_ra ρ a h0) I' P' G' a) H') : am_R D tc sz0 b0 (am_ra ρ a h0) (am_aa al a) (a + 1) I' P' G' H' := by
  have hf := am_fresh h hB hm
  have hne : ∀ b, al b → b ≠ a := fun b hb e => hf (e ▸ hb)
  have hr : ∀ b, al b → am_ra ρ a h0 b = ρ b := fun b hb => by simp [am_ra, hne b hb]
  refine ⟨fun b hb => ?_, fun b c hb hc hbc => ?_, fun b k r hb hr' => ?_, Or.inr h.2.2.2.1, by rw [hr _ h.2.2.2.1]; exact h.2.2.2.2⟩
  · by_cases e : b = a
    · subst e
      have e1 : am_ra ρ b h0 b = h0 := by simp [am_ra]
      refine ⟨by omega, by unfold am_cell; rw [if_neg (by omega), e1]; exact hn, Or.inl (by omega), Or.inl (by rw [e1]; omega)⟩
    · have hb' : al b := hb.resolve_left e
      obtain ⟨e1, e2, e3, e4⟩ := h.1 b hb'
      obtain ⟨o1, o2, o3⟩ := ho b e
      refine ⟨e1, ?_, ?_, by rw [hr b hb']; exact e4⟩
      · have e2' : am_cell D tc (am_ra ρ a h0) I' P' G' b H := by
          unfold am_cell at e2 ⊢
          rw [hr b hb', am_E_ext o1 o2 o3 (fun k r hp => hr r (h.2.2.1 b k r hb' hp)), o1]
          exact e2
        refine e2'.kept ?_
        rw [hr b hb']
        exact hq _ (by rw [← hh]; exact h.lt hb')
      · rcases e3 with z | z
        · exact Or.inl (by omega)
        · exact Or.inr z
  · by_cases e : b = a <;> by_cases e2 : c = a
    · rw [e, e2]
    · have hc' : al c := hc.resolve_left e2
      rw [hr c hc', e] at hbc
      have := h.lt hc'
      simp [am_ra] at hbc
      omega
    · have hb' : al b := hb.resolve_left e
      rw [hr b hb', e2] at hbc
      have := h.lt hb'
      simp [am_ra] at hbc
      omega
    · have hb' : al b := hb.resolve_left e
      have hc' : al c := hc.resolve_left e2
      rw [hr b hb', hr c hc'] at hbc
      exact h.2.1 b c hb' hc' hbc
  · by_cases e : b = a
    · subst e; rw [hP] at hr'; cases hr'
    · rw [(ho b e).2.1] at hr'
      exact Or.inr (h.2.2.1 b k r (hb.resolve_left e) hr')
theorem am_S_new {H' : Heap} {h0 : Nat} (hS : va_S (am_A sz0) s.heap H locs) (hh : H.size = h0) (hsz : H'.size = h0 + 1) (hq : ∀ q, q < h0 → H'[q]? = H[q]?) : va_S (am_A sz0) s.heap H' locs := by
  refine ⟨by have := hS.1; omega, fun q h1 h2 => ?_, hS.2.2⟩
  rw [hq q (by have := hS.1; omega)]; exact hS.2.1 q h1 h2
theorem am_row0 {α : Type} {f : Nat → Nat → α} {a : Nat} {x : α} : ∀ b, b ≠ a → am_c f a x b = f b := fun b hb => by funext j; simp [am_c, hb]
theorem w_new (hexec : p.tables.exec = Jvm.exec) (hb : c.code = cc) {own : String} {index : Nat} (hG : am_Gw s) (hown : s.vm.findClass own = some mid.cls) (hK : va_K D am_cl (am_tys tc) s) (hR : am_R D tc sz0 b0 ρ al B I P G H) (hS : va_S (am_A sz0) s.heap H locs) (hz : sz0 ≤ s.heap.size) {a : Nat} (hB : B ≤ a) (hm : a % 4096 ≠ 4000) {t : Nat} (ht : (am_TY a).1 = t) (h10 : t < 10) (h2 : (am_TY a).2 = am_cN t)
    (hlink : Jvm.Cond.classLink own index (am_C t) ∈ lw_tbl) (hins : Jvm.Cond.instantiable (am_C t) (am_cN t) ∈ lw_tbl) (hini : Jvm.Cond.initialized (am_C t) ∈ lw_tbl) (hdg : decode cc pc = .ok (.new index, 3)) (hc : cells + 1 ≤ R.cells) (hsl : slots + (am_TY a).2 ≤ R.slots)
    (kk : ∀ H' locs', am_R D tc sz0 b0 (am_ra ρ a H.size) (am_aa al a) (a + 1) (am_c I a 0) (am_c P a none) G H' → va_S (am_A sz0) s.heap H' locs' → W p l e R s mid args below meth c H' locs' (cells + 1) (slots + (am_TY a).2) Z (F0 mid (pc + 3) ls (.ref H.size :: rest))) : W p l e R s mid args below meth c H locs cells slots Z (F0 mid pc ls rest) := by
  subst ht
  have hts := hG.ws h10 args
  have hin : ∀ w ∈ u_ws (am_C (am_TY a).1) (am_T (am_TY a).1) (am_cN (am_TY a).1), w ∈ u_ws (am_C (am_TY a).1) (am_T (am_TY a).1) (am_cN (am_TY a).1) := fun w hw => hw
  have hKn := hK.1 _ _ (am_cl_at h10)
  rw [h2] at hsl
  refine W.newcK hexec hb hown (hG args _ hlink rfl) (hG args _ hins rfl) (hG args _ hini rfl) rfl hdg hc hsl hKn.2.1 rfl fun H' kC k1 k2 k3 k4 => ?_
  have hob := u_born (am_ty (am_TY a).1) hts hin hKn k1 k2 (fun k hk => am_ty_ok h10 hk)
  have kk' := kk H' locs (hR.new hB hm (by omega) rfl (by have := hS.1; omega) (fun b hb => ⟨am_row0 b hb, am_row0 b hb, rfl⟩) (fun k => by simp [am_c]) k4 ?_) (am_S_new hS rfl k3 k4)
  · rw [h2] at kk'; exact kk'
  · rw [am_E_o h10]
    refine ⟨_, am_cl_at h10, hob.to fun k hk => ?_⟩
    simp only [vp_V]
    rw [List.getD_eq_getElem?_getD]
    simp only [List.getElem?_map, List.getElem?_range hk, Option.map_some, Option.getD_some]
    have hd : defaultValue (am_ty (am_TY a).1 k) = if am_isR (am_ty (am_TY a).1 k) then .null else .int 0 := by
      have hall : ∀ t, t < 10 → ∀ k, k < am_cN t → defaultValue (am_ty t k) = if am_isR (am_ty t k) then .null else .int 0 := by decide +kernel
      exact hall _ h10 k hk
    rw [hd]
    unfold am_fv
    split <;> simp [am_c, am_rn, va_rf]
end SP
