/-! SOUNDNESS: System.arraycopy of references -/
section AC
variable {p : Program} {l : Launch} {e : Env} {R : Room} {s : State} {mid : MethodId} {args : Array Value} {below : List Frame} {meth : Method} {c : Code} {H : Heap} {locs : List Loc} {cells slots : Nat} {Z : State → Prop}
variable {cc : ByteArray} {pc : Nat} {ls : Array Slot} {rest : List Value} {D : va_G} {tc : Nat → ClassId} {sz0 b0 : Nat} {ρ : Nat → Nat} {al : Nat → Prop} {B : Nat} {I : am_I} {P : am_P} {G : am_G}
set_option maxRecDepth 100000 in
theorem am_copyW : Jvm.Cond.native arraycopyName ∈ lw_tbl ∧ Jvm.Cond.static arraycopyName ∈ lw_tbl ∧ Jvm.Cond.initialized "java/lang/System" ∈ lw_tbl := by decide +kernel
theorem va_cpy_map {ρ : Nat → Nat} {f g : Nat → Option Nat} {sp dp n : Nat} : (fun i => (va_cpy f g sp dp n i).map ρ) = va_cpy (fun i => (f i).map ρ) (fun i => (g i).map ρ) sp dp n := by
  funext i
  unfold va_cpy
  split <;> rfl
theorem w_acopy (hexec : p.tables.exec = Jvm.exec) (hb : c.code = cc) (hml : c.maxLocals = ls.size) {own : String} {index : Nat} (hG : am_Gw s) (hown : s.vm.findClass own = some mid.cls) (hlink : Jvm.Cond.methodLink own index arraycopyName ∈ lw_tbl)
    (hK : va_K D am_cl (am_tys tc) s) (hR : am_R D tc sz0 b0 ρ al B I P G H) (hS : va_S (am_A sz0) s.heap H locs) {a b n sp dp : Nat} (ha : al a) (hb2 : al b) (hta : (am_TY a).1 = 14) (htb : (am_TY b).1 = 14) (hn : n < 65536) (hsp : sp < 65536) (hdp : dp < 65536) (h4 : sp + n ≤ (am_TY a).2) (h5 : dp + n ≤ (am_TY b).2) (hel : ∀ i r, i < n → P a (sp + i) = some r → (am_TY r).1 = 5)
    (hframes : 1 ≤ R.frames) (hlocals : (rest.map fun v => v.category).sum + (nativeFrameWords "java/lang/System" "arraycopy" 5 + 11) ≤ R.locals) (hdg : decode cc pc = .ok (.invokestatic index, 3))
    (kk : ∀ H' locs', am_R D tc sz0 b0 ρ al B I (fun c i => if c = b then va_cpy (P a) (P b) sp dp n i else P c i) G H' → va_S (am_A sz0) s.heap H' locs' → W p l e R s mid args below meth c H' locs' cells slots Z (F0 mid (pc + 3) ls rest)) : W p l e R s mid args below meth c H locs cells slots Z (F0 mid pc ls (.int (nI n) :: .int (nI dp) :: .ref (ρ b) :: .int (nI sp) :: .ref (ρ a) :: rest)) := by
  have nn : ∀ z : Int32, ¬ z < 0 → z.toInt = (z.toNatClampNeg : Int) := by
    intro z hz
    have hz0 : (0 : Int) ≤ z.toInt := by
      have := Int32.not_lt.mp hz
      simpa using Int32.le_iff_toInt_le.mp this
    show z.toInt = ((z.toInt.toNat : Nat) : Int)
    omega
  have c1 : (nI n).toNatClampNeg = n := nI_clamp (by omega)
  have c2 : (nI sp).toNatClampNeg = sp := nI_clamp (by omega)
  have c3 : (nI dp).toNatClampNeg = dp := nI_clamp (by omega)
  have p1 : ¬ nI n < 0 := nI_pos (by omega)
  have p2 : ¬ nI sp < 0 := nI_pos (by omega)
  have p3 : ¬ nI dp < 0 := nI_pos (by omega)
  have hA := hR.at ha (by omega)
  have hB2 := hR.at hb2 (by omega)
  rw [am_E_r (by omega) (by omega), hta] at hA
  rw [am_E_r (by omega) (by omega), htb] at hB2
  have hc0 : H[ρ a]? = some (vp_cell (tc 14) ((am_TY a).2, .inr (.inr (.inr (.inr (fun i => (P a i).map ρ)))))) := hA
  have hc1 : H[ρ b]? = some (vp_cell (tc 14) ((am_TY b).2, .inr (.inr (.inr (.inr (fun i => (P b i).map ρ)))))) := hB2
  have hT14 : (am_tys tc)[4]? = some (tc 14, .object "java/lang/Object") := rfl
  obtain ⟨kA, comp, r1, r2, r3, -⟩ := (hK.2 4 _ hT14).2
  obtain ⟨kE, hkE, -⟩ := Vm.findClass_spec r3
  have hcls := hK.1 5 _ (am_cl_at (by omega))
  intro T hT X
  obtain ⟨vm', X', step⟩ := X.arraycopy hexec hown (hG args _ hlink rfl) (hG args _ am_copyW.1 rfl) (hG args _ am_copyW.2.1 rfl) (hG args _ am_copyW.2.2 rfl) (src := ρ a) (dst := ρ b) (cs := vp_cell (tc 14) ((am_TY a).2, .inr (.inr (.inr (.inr (fun i => (P a i).map ρ)))))) (cd := vp_cell (tc 14) ((am_TY b).2, .inr (.inr (.inr (.inr (fun i => (P b i).map ρ)))))) (srcPos := nI sp) (destPos := nI dp) (n := nI n) (by rw [hT]; exact hc0) (by rw [hT]; exact hc1)
    (fun _ h => by cases h) (fun _ h => by cases h) (fun h => by cases h) (fun h => by cases h) r1 r1 r2 r2 rfl p2 p3 p1
    (by rw [nn _ p2, nn _ p1, c1, c2]; show ¬ _ > ((arrV _ _ _).slots.size : Int); rw [arrV_size]; omega)
    (by rw [nn _ p3, nn _ p1, c1, c3]; show ¬ _ > ((arrV _ _ _).slots.size : Int); rw [arrV_size]; omega)
    (fun vm₁ hal i hi => by
      rw [c1] at hi
      have e : (vp_cell (tc 14) ((am_TY a).2, .inr (.inr (.inr (.inr (fun i => (P a i).map ρ)))))).slots.getD ((nI sp).toNatClampNeg + i) .null = va_rf ((P a (sp + i)).map ρ) := by
        rw [c2]
        show (arrV _ _ _).slots.getD _ _ = _
        rw [Array.getD_eq_getD_getElem?, arrV_read _ _ (by omega)]
        rfl
      rw [e]
      cases hy : P a (sp + i) with
      | none => exact ⟨rfl, trivial⟩
      | some y =>
        have h5y := hel i y hi hy
        have hly : al y := hR.2.2.1 a _ y ha hy
        have f2 := hR.at hly (by omega)
        rw [am_E_o (by omega), h5y] at f2
        obtain ⟨r', hr', cellV, g1, g2, g3, -⟩ := f2
        have g4 : s.vm.findClass "SaywhatSeen$Sound" = some cellV.cls := by rw [g2]; exact hcls.2.1
        obtain ⟨kC, hkC, -⟩ := Vm.findClass_spec g4
        obtain ⟨kC', hkC', -⟩ := hal.2.2 _ _ hkC
        obtain ⟨kE', hkE', -⟩ := hal.2.2 _ _ hkE
        refine ⟨rfl, cellV, (show T.heap[ρ y]? = some cellV by rw [hT]; exact g1), (fun q h => by rw [h] at g3; cases g3), ⟨kC', hkC'⟩, ?_, ?_⟩
        · exact ⟨kE', hkE'⟩
        · show vm₁.assignable _ _ = true
          rw [hal.assignable]
          obtain ⟨c0, t1, f1, f2', f3⟩ := Cond.castable_spec (hG args _ am_soundO rfl)
          cases g4.symm.trans f1
          cases r3.symm.trans f2'
          exact f3)
    (g := F0 mid pc ls (.int (nI n) :: .int (nI dp) :: .ref (ρ b) :: .int (nI sp) :: .ref (ρ a) :: rest)) rfl (by rw [hml]) (rest := rest) rfl (by rw [hb]; exact hdg) hframes (by show 2 * 0 + _ + _ ≤ _; omega)
  have e1 : copied (vp_cell (tc 14) ((am_TY a).2, .inr (.inr (.inr (.inr (fun i => (P a i).map ρ)))))) (vp_cell (tc 14) ((am_TY b).2, .inr (.inr (.inr (.inr (fun i => (P b i).map ρ)))))) (nI sp) (nI dp) (nI n) = vp_cell (tc 14) ((am_TY b).2, .inr (.inr (.inr (.inr (va_cpy (fun i => (P a i).map ρ) (fun i => (P b i).map ρ) sp dp n))))) := by
    rw [vp_cell_q, vp_cell_q, vp_cell_q]
    have h := va_copied (n0 := (am_TY a).2) (n1 := (am_TY b).2) (sp := sp) (dp := dp) (n := n) (fun z => va_rf z) (tc 14) (tc 14) (fun i => (P a i).map ρ) (fun i => (P b i).map ρ) h4
    show (arrV _ _ _).storeRun (nI dp).toNatClampNeg ((arrV _ _ _).stretch (nI sp).toNatClampNeg (nI n).toNatClampNeg) = _
    rw [c1, c2, c3]
    exact h
  rw [e1] at X' step
  have hl : ρ b < H.size := hR.lt hb2
  generalize hcell : vp_cell (tc 14) ((am_TY b).2, .inr (.inr (.inr (.inr (va_cpy (fun i => (P a i).map ρ) (fun i => (P b i).map ρ) sp dp n))))) = cell at X' step
  have hheap : ((T.setVm vm').setCell (ρ b) cell).heap = H.setIfInBounds (ρ b) cell := by rw [← hT]; rfl
  have oq : ∀ q : Nat, q ≠ ρ b → (H.setIfInBounds (ρ b) cell)[q]? = H[q]? := fun q hq => by simp [Array.getElem?_setIfInBounds, Ne.symm hq]
  have hbig : am_A sz0 (ρ b) := by
    rcases (hR.1 b hb2).2.2.2 with z | z
    · exact z
    · omega
  obtain ⟨t, a1, b1⟩ := kk (H.setIfInBounds (ρ b) cell) _ (hR.upd hb2 (by omega) (fun c hc => ⟨rfl, by funext i; rw [if_neg hc], rfl⟩) (by
      rw [am_E_r (by omega) (by omega), htb]
      show (H.setIfInBounds (ρ b) cell)[ρ b]? = some (vp_cell _ _)
      have hsame : (H.setIfInBounds (ρ b) cell)[ρ b]? = some cell := by simp [Array.getElem?_setIfInBounds, hl]
      rw [hsame, ← hcell, ← va_cpy_map]
      simp) oq (fun k r hr => by
      rw [if_pos rfl] at hr
      unfold va_cpy at hr
      split at hr
      · exact hR.2.2.1 a _ r ha hr
      · exact hR.2.2.1 b _ r hb2 hr))
    ⟨by simp; exact hS.1, fun q g1 g2 => by
      rw [oq q (fun e => g2 (by rw [e]; exact hbig))]
      exact hS.2.1 q g1 g2, fun q hq => by
      rcases List.mem_append.mp hq with h | h
      · exact hS.2.2 q h
      · obtain ⟨z, -, hz⟩ := List.mem_map.mp h
        rw [← hz]
        exact hbig⟩ _ hheap X'
  exact ⟨t, step t a1, b1⟩
end AC
section AC2
variable {l : Launch} {D : va_G} {tc : Nat → ClassId} {sz0 b0 : Nat}
theorem am_sndA {m pc ix len r2 : Nat} (hk0 : am_okE m pc (.invokestatic ix, len, 904, r2)) {L : List (Option Value)} {st : List Value} {B : Nat} {I : am_I} {P : am_P} {G : am_G} {k sl d : Nat} {Q : am_Q} (hs : am_St (am_Snd l D tc sz0 b0) (.invokestatic ix, len, 904, r2) m pc L st B I P G k sl d Q) : am_Snd l D tc sz0 b0 m pc L st B I P G k sl d Q := by
  obtain ⟨hd, hlen, hlk⟩ := hk0
  dsimp only at hd hlen hlk
  intro p e R s0 mid args below meth c H locs cells slots ρ al ls ρ0 al0 C V
  have C' := C
  obtain ⟨hx, hb, hml, hrt, hown, hlocks, hname, htab, hG⟩ := C
  obtain ⟨hS, hR, hL, hv, hrm, hext⟩ := V
  have hK := hG.2.2.1
  have hl : len = 3 := hlen (show (3 : Nat) ≠ 0 by decide)
  subst hl
  rcases hs with ⟨h9, _⟩ | ⟨h9, _⟩ | ⟨h9, _⟩ | ⟨-, n, a, b, sp, dp, st', rfl, h8, hta, htb, hn, hsp, hdp, h4, h5, hel, hX⟩ | ⟨h9, _⟩ | ⟨h9, _⟩
  · cases (show (904 : Nat) = 901 from h9)
  · cases (show (904 : Nat) = 902 from h9)
  · cases (show (904 : Nat) = 903 from h9)
  · have hw : nativeFrameWords "java/lang/System" "arraycopy" 5 ≤ 40 := by decide
    have hc := am_cats (st'.map (am_rn ρ))
    rw [List.length_map] at hc
    exact w_acopy hx hb (am_rl_nL C' hL) hG.1 hown (hlk.2.2.2.2.1 rfl) hK hR hS hv.2.2.2.2.1 hv.2.2.1 hta htb hn hsp hdp h4 h5 hel (by omega) (by omega) hd (fun H' locs' hR' hS' => hX C' ⟨hS', hR', hL, hv.2.2.2.2.2, hrm, hext⟩)
  · cases (show (904 : Nat) = 906 from h9)
  · exact absurd (show (904 : Nat) < 900 from h9) (by decide)
end AC2
