/-! SOUNDNESS: Arrays.copyOf of references: two frames, the second from its byte 6 on in the tables -/
section CO
variable {l : Launch} {D : va_G} {tc : Nat → ClassId} {sz0 b0 : Nat}
def am_gcN : MethodName := ⟨"java/lang/Object", "getClass", "()Ljava/lang/Class;"⟩
set_option maxRecDepth 100000 in
theorem am_coW : Jvm.Cond.code am_copyN prog_28_method_119_code 2 (some (.array (.object "java/lang/Object"))) ∈ lw_tbl ∧ Jvm.Cond.static am_copyN ∈ lw_tbl ∧ Jvm.Cond.initialized "java/util/Arrays" ∈ lw_tbl ∧ Jvm.Cond.methodLink "java/util/Arrays" 86 am_gcN ∈ lw_tbl ∧ Jvm.Cond.declares am_gcN ∈ lw_tbl ∧ Jvm.Cond.selects "[Ljava/lang/Object;" am_gcN am_gcN ∈ lw_tbl ∧ Jvm.Cond.instanceMethod am_gcN ∈ lw_tbl ∧ Jvm.Cond.native am_gcN ∈ lw_tbl := by decide +kernel
set_option maxRecDepth 100000 in
theorem am_coW2 : Jvm.Cond.methodLink "java/util/Arrays" 300 (am_y 192) ∈ lw_tbl ∧ Jvm.Cond.static (am_y 192) ∈ lw_tbl ∧ Jvm.Cond.classLink "java/util/Arrays" 110 "[Ljava/lang/Object;" ∈ lw_tbl ∧ Jvm.Cond.code (am_y 192) (am_by 192) (am_nL 192) (am_rt 192) ∈ lw_tbl := by decide +kernel
theorem am_co0 : decode (am_by 192) 0 = .ok (.aload_n 2, 1) := by decide +kernel
theorem am_co1 : decode (am_by 192) 1 = .ok (.ldc 110, 2) := by decide +kernel
theorem am_co3 : decode (am_by 192) 3 = .ok (.if_acmp .ne 10, 3) := by decide +kernel
theorem am_cp0 : decode prog_28_method_119_code 0 = .ok (.aload_n 0, 1) := by decide +kernel
theorem am_cp1 : decode prog_28_method_119_code 1 = .ok (.iload_n 1, 1) := by decide +kernel
theorem am_cp2 : decode prog_28_method_119_code 2 = .ok (.aload_n 0, 1) := by decide +kernel
theorem am_cp3 : decode prog_28_method_119_code 3 = .ok (.invokevirtual 86, 3) := by decide +kernel
theorem am_cp6 : decode prog_28_method_119_code 6 = .ok (.invokestatic 300, 3) := by decide +kernel
theorem am_cp9 : decode prog_28_method_119_code 9 = .ok (.areturn, 1) := by decide +kernel
theorem am_hh192 : am_hh 192 = [] := by decide +kernel
theorem am_n192 : am_nL 192 = 4 := by decide +kernel
theorem am_y192 : (am_y 192).cls = "java/util/Arrays" := by decide +kernel
theorem am_nm192 : (am_y 192).name ≠ "<init>" := by decide +kernel
theorem am_ps192 : (parseMethodDescriptor (am_y 192).desc).map (fun d => d.parameters.length) = some 3 := by decide +kernel
theorem am_psC : (parseMethodDescriptor am_copyN.desc).map (fun d => d.parameters.length) = some 2 := by decide +kernel
def am_Pc3 (D : va_G) (tc : Nat → ClassId) (sz0 b0 : Nat) (ρ : Nat → Nat) (al : Nat → Prop) (r n mi : Nat) (B : Nat) (I : am_I) (P : am_P) (G : am_G) : Array Value → State → Prop := fun a U => a = #[Value.ref (ρ r), .int (nI n), .ref mi] ∧ va_Mi "[Ljava/lang/Object;" mi U ∧ am_Gd D tc sz0 b0 U U.heap ∧ am_R D tc sz0 b0 ρ al B I P G U.heap
theorem am_Pc3_blind {ρ : Nat → Nat} {al : Nat → Prop} {r n mi : Nat} {B : Nat} {I : am_I} {P : am_P} {G : am_G} : FrameBlind (am_Pc3 D tc sz0 b0 ρ al r n mi B I P G) := by
  intro a U g mk h
  obtain ⟨h1, hM, h2, h3⟩ := h
  exact ⟨h1, hM.moved (State.WarmedH.refl U).alike, h2.moved (State.WarmedH.refl U) (Nat.le_refl _) (fun _ _ _ => rfl), h3⟩
theorem am_met3 {r n mi mc ms dd : Nat} {B : Nat} {I : am_I} {P : am_P} {G : am_G} {Rq : am_Q} {ρ : Nat → Nat} {al : Nat → Prop} (hal : al r) (hX : am_Snd l D tc sz0 b0 192 6 [some (.ref r), some (.int (nI n)), none, none] [] B I P G mc ms dd Rq) :
    vx_Met l (am_y 192) [.code (am_y 192) (am_by 192) (am_nL 192) (am_rt 192)] (am_rm mc ms dd) (am_Pc3 D tc sz0 b0 ρ al r n mi B I P G) (am_Qc D tc sz0 b0 Rq ρ al) (am_XC D tc sz0 b0 Rq ρ al) mc ms (am_A sz0) := by
  refine vx_ofW (by decide +kernel) rfl fun p e s m args below meth c s₁ Bd hml htab hPc => ?_
  obtain ⟨rfl, hM, hGd, hR⟩ := hPc
  have hown : s.vm.findClass "java/util/Arrays" = some m.cls := by rw [← am_y192]; exact findClass_of_methodNamed Bd.named
  rw [show (#[Value.ref (ρ r), .int (nI n), .ref mi] : Array Value) = [Value.ref (ρ r), .int (nI n), .ref mi].toArray from rfl, lg_entry_eq]
  have hent := lv_entry [Value.ref (ρ r), .int (nI n), .ref mi] (n := am_nL 192) (by rw [am_n192]; simp [lg_sl, Value.category])
  generalize ((lg_sl [Value.ref (ρ r), .int (nI n), .ref mi] ++ List.replicate (am_nL 192 - (lg_sl [Value.ref (ρ r), .int (nI n), .ref mi]).length) Slot.unset).toArray) = ls at hent ⊢
  have l2 : ls[2]? = some (.val (.ref mi)) := hent.2.2 (2, .ref mi) (by simp [lv_args, Value.category])
  have hL : am_rl 192 ρ al [some (.ref r), some (.int (nI n)), none, none] ls := by
    refine ⟨lv_has_mem hent am_n192 fun q hq => ?_, fun i v hi => ?_, fun i x hi => ?_, am_n192.symm⟩
    · simp only [am_la, am_rn, List.mem_cons, List.not_mem_nil, or_false] at hq
      rcases hq with rfl | rfl <;> simp [lv_args, Value.category]
    · match i, hi with
      | 0, hi => simp at hi; subst hi; exact hal
      | 1, hi => simp at hi; subst hi; trivial
      | 2, hi => simp at hi
      | 3, hi => simp at hi
      | i + 4, hi => simp at hi
    · match i, hi with
      | 0, hi => simp at hi
      | 1, hi => simp at hi
      | 2, hi => simp at hi
      | 3, hi => simp at hi
      | i + 4, hi => simp at hi
  refine lv_aload_n Bd.exec Bd.bytes am_co0 rfl l2 ?_
  refine va_ldcM Bd.exec Bd.bytes hown (hGd.1 _ _ am_coW2.2.2.1 rfl) hM am_co1 ?_
  refine lv_acmp_ne (rest := []) (rx := some mi) (ry := some mi) Bd.exec Bd.bytes am_co3 (show ((3 : Nat) : Int) + 10 = ((13 : Nat) : Int) by decide) (fun z => absurd rfl z) (fun _ => ?_)
  have hcx : c.exceptionTable.toList = tableOf (am_hh 192) := by
    rw [am_hh192]
    cases h : c.exceptionTable.toList with
    | nil => rfl
    | cons x xs => exact (htab x (by rw [h]; exact List.mem_cons_self)).elim
  exact hX ⟨Bd.exec, Bd.bytes, hml, Bd.returns, findClass_of_methodNamed Bd.named, Bd.notSynchronized, fun h => absurd h am_nm192, Or.inl hcx, hGd⟩
    ⟨⟨Nat.le_refl _, fun _ _ _ => rfl, by simp⟩, hR, hL, trivial, ⟨by show 0 + mc ≤ mc; omega, by show 0 + ms ≤ ms; omega, Nat.le_refl _, Nat.le_refl _⟩, am_ext.refl⟩
theorem am_met2 {r n mc ms dd : Nat} {B : Nat} {I : am_I} {P : am_P} {G : am_G} {Rq : am_Q} {ρ : Nat → Nat} {al : Nat → Prop} (hal : al r) (h14 : (am_TY r).1 = 14) (hX : am_Snd l D tc sz0 b0 192 6 [some (.ref r), some (.int (nI n)), none, none] [] B I P G mc ms dd Rq)
    (hv : ∀ (v : Option Value) (B' : Nat) (I' : am_I) (P' : am_P) (G' : am_G), Rq (.inl v) B' I' P' G' → ∃ b, v = some (.ref b)) (hn : ∀ (x B' : Nat) (I' : am_I) (P' : am_P) (G' : am_G), ¬ Rq (.inr x) B' I' P' G') :
    vx_Met l am_copyN [.code am_copyN prog_28_method_119_code 2 (some (.array (.object "java/lang/Object")))] (am_rm mc ms (dd + 1)) (am_Pc D tc sz0 b0 ρ al [.ref r, .int (nI n)] B I P G) (am_Qc D tc sz0 b0 Rq ρ al) (am_XC D tc sz0 b0 Rq ρ al) mc ms (am_A sz0) := by
  refine vx_ofW (by decide +kernel) rfl fun p e s m args below meth c s₁ Bd hml htab hPc => ?_
  obtain ⟨rfl, hGd, hR⟩ := hPc
  have hown : s.vm.findClass "java/util/Arrays" = some m.cls := findClass_of_methodNamed Bd.named
  obtain ⟨mi, hM⟩ := hGd.2.2.2.2.2.2.2.2.2.2
  rw [lg_entry_eq]
  have hent := lv_entry [Value.ref (ρ r), .int (nI n)] (n := 2) (by simp [lg_sl, Value.category])
  show W p l e _ s m _ below meth c s.heap [] 0 0 _ (F0 m 0 ((lg_sl [Value.ref (ρ r), .int (nI n)] ++ List.replicate (2 - (lg_sl [Value.ref (ρ r), .int (nI n)]).length) Slot.unset).toArray) [])
  generalize ((lg_sl [Value.ref (ρ r), .int (nI n)] ++ List.replicate (2 - (lg_sl [Value.ref (ρ r), .int (nI n)]).length) Slot.unset).toArray) = ls at hent ⊢
  have l0 : ls[0]? = some (.val (.ref (ρ r))) := hent.2.2 (0, .ref (ρ r)) (by simp [lv_args, Value.category])
  have l1 : ls[1]? = some (.val (.int (nI n))) := hent.2.2 (1, .int (nI n)) (by simp [lv_args, Value.category])
  have hls : c.maxLocals = ls.size := hml.trans hent.1.symm
  refine lv_aload_n Bd.exec Bd.bytes am_cp0 rfl l0 ?_
  refine lv_iload_n Bd.exec Bd.bytes am_cp1 rfl l1 ?_
  refine lv_aload_n Bd.exec Bd.bytes am_cp2 rfl l0 ?_
  have hA := hR.at hal (by omega)
  rw [am_E_r (by omega) (by omega), h14] at hA
  have hcA : s.vm.findClass "[Ljava/lang/Object;" = some (tc 14) := va_nmO (hGd.2.2.1.2 4 (tc 14, .object "java/lang/Object") rfl).2 (by decide +kernel)
  refine va_getC Bd.exec Bd.bytes hls hown (hGd.1 _ _ am_coW.2.2.2.1 rfl) (hGd.1 _ _ am_coW.2.2.2.2.1 rfl) (hGd.1 _ _ am_coW.2.2.2.2.2.1 rfl) (hGd.1 _ _ am_coW.2.2.2.2.2.2.1 rfl) (hGd.1 _ _ am_coW.2.2.2.2.2.2.2 rfl) hM ⟨_, hA, rfl, hcA⟩ (show 1 ≤ dd + 1 + 8 by omega) (show _ + 14 ≤ (dd + 1 + 8) * 100 by simp [Value.category]; omega) am_cp3 ?_
  have hr := vx_runS (l := l) (rest := []) (g := F0 m 6 ls [.ref mi, .int (nI n), .ref (ρ r)]) (Ts := []) (args := #[Value.ref (ρ r), .int (nI n)]) (below := below) (locs := []) (cells := 0) (slots := 0) (H := s.heap) (As := [.ref (ρ r), .int (nI n), .ref mi]) (e := e) (meth := meth) (n := 3) (R := am_rm mc ms (dd + 1))
    ⟨Bd.exec, Bd.bytes, hml, hown, fun _ h => nomatch h⟩ (am_met3 (mi := mi) hal hX)
    ⟨⟨rfl, rfl, by show dd + 8 + 1 ≤ dd + 1 + 8; omega, by show _ ≤ (dd + 1 + 8) * 100; rw [am_n192]; simp only [am_rm]; omega, fun w hw a' U hW => by rw [List.mem_singleton.mp hw]; exact hGd.1.warm hW a' _ am_coW2.2.2.2 rfl, List.mem_cons_self, hGd.1 _ _ am_coW2.2.2.2 rfl, by rw [am_y192]; exact hGd.1 _ _ am_coW.2.2.1 rfl, ⟨by rw [am_y192]; decide, by rw [am_y192]; decide⟩, fun sig h => by have h3 := am_ps192; rw [h] at h3; exact (Option.some.inj h3).symm, hGd.1 _ _ am_coW2.1 rfl⟩, hGd.1 _ _ am_coW2.2.1 rfl⟩
    ⟨am_Pc3_blind, fun U hU hW => ⟨rfl, hM.moved hW.alike, by rw [hU]; exact hGd.moved hW (Nat.le_refl _) (fun _ _ _ => rfl), by rw [hU]; exact hR⟩⟩ rfl rfl hent.1 rfl (by show 2 * 0 + 0 ≤ 8; omega) am_cp6 ⟨by show 0 + mc ≤ mc; omega, by show 0 + ms ≤ ms; omega⟩
  intro T hT X
  rcases hr T hT X with ⟨v, st₀, t, T', L', h0, X', hL', e1, e2, hq, st⟩ | ⟨q, st₀, t, T', L', E, ce, h0, X', hL', e1, e2, hq, hce, hcv, hcl, st⟩
  · obtain ⟨v0, ρ', al', B', I', P', G', ho, hvs', hQ, hR', hext', hF⟩ := hq
    obtain ⟨b, rfl⟩ := hv _ _ _ _ _ hQ
    cases ho
    have hS0 : va_S (am_A sz0) s.heap s.heap [] := ⟨Nat.le_refl _, fun _ _ _ => rfl, by simp⟩
    obtain ⟨k1, k2, k3⟩ := vx_keep h0 e1 hS0 (fun _ _ h => h) (fun _ h => h) hL' hF
    have hW : W p l e (am_rm mc ms (dd + 1)) s m #[Value.ref (ρ r), .int (nI n)] below meth c T'.heap ([] ++ L') (0 + mc) (0 + ms) (vx_MQ below (am_Qc D tc sz0 b0 Rq ρ al) (am_XC D tc sz0 b0 Rq ρ al) #[Value.ref (ρ r), .int (nI n)] s mc ms (am_A sz0)) (F0 m 9 ls [.ref (ρ' b)]) :=
      W.widen (by omega) (by omega) (vx_ret (W.aret (rt := .array (.object "java/lang/Object")) Bd.exec Bd.bytes Bd.returns (Or.inr ⟨_, rfl⟩) (Or.inr ⟨_, rfl⟩) (fun t ht hW => ⟨some (.ref b), ρ', al', B', I', P', G', rfl, hvs', hQ, by rw [ht, e1]; exact hR', hext', by rw [va_F, ht]; exact ⟨k3.1, k3.2.1⟩⟩) k3.2.2 am_cp9 Bd.notSynchronized))
    obtain ⟨t2, a1, b1⟩ := hW T' rfl X'
    exact ⟨t2, st t2 a1, b1⟩
  · obtain ⟨x, ρ', al', B', I', P', G', hx5, hE, hQ, hR', hext', hF⟩ := hq
    exact (hn _ _ _ _ _ hQ).elim
theorem am_sndB {m pc ix len r2 : Nat} (hk0 : am_okE m pc (.invokestatic ix, len, 903, r2)) {L : List (Option Value)} {st : List Value} {B : Nat} {I : am_I} {P : am_P} {G : am_G} {k sl d : Nat} {Q : am_Q} (hs : am_St (am_Snd l D tc sz0 b0) (.invokestatic ix, len, 903, r2) m pc L st B I P G k sl d Q) : am_Snd l D tc sz0 b0 m pc L st B I P G k sl d Q := by
  obtain ⟨hd, hlen, hlk⟩ := hk0
  dsimp only at hd hlen hlk
  intro p e R s0 mid args below meth c H locs cells slots ρ al ls ρ0 al0 C V
  have C' := C
  obtain ⟨hx, hb, hml, hrt, hown, hlocks, hname, htab, hG⟩ := C
  obtain ⟨hS, hR, hL, hv, hrm, hext⟩ := V
  have hK := hG.2.2.1
  have hl : len = 3 := hlen (show (3 : Nat) ≠ 0 by decide)
  subst hl
  rcases hs with ⟨h9, _⟩ | ⟨h9, _⟩ | ⟨-, n, a, st', rfl, h8, h14, hn, Rq, mc, ms, dd, h1, h2, h3, h4, h5, h6⟩ | ⟨h9, _⟩ | ⟨h9, _⟩ | ⟨h9, _⟩
  · cases (show (903 : Nat) = 901 from h9)
  · cases (show (903 : Nat) = 902 from h9)
  · have hc := am_cats (st'.map (am_rn ρ))
    rw [List.length_map] at hc
    have hr := vx_runS (l := l) (rest := st'.map (am_rn ρ)) (g := F0 mid pc ls ((Value.int (nI n) :: .ref a :: st').map (am_rn ρ))) (Ts := []) (args := args) (below := below) (locs := locs) (cells := cells) (slots := slots) (H := H) (As := [.ref (ρ a), .int (nI n)]) (e := e) (meth := meth) (n := 2) (R := R)
      ⟨hx, hb, hml, hown, fun _ h => nomatch h⟩ (am_met2 hv.2.1 h14 h4 (fun v B' I' P' G' h => (h5 v B' I' P' G' h).1) h6)
      ⟨⟨rfl, rfl, by show dd + 1 + 8 + 1 ≤ R.frames; omega, by simp only [am_rm]; omega, fun w hw a' U hW => by rw [List.mem_singleton.mp hw]; exact hG.1.warm hW a' _ am_coW.1 rfl, List.mem_cons_self, hG.1 _ _ am_coW.1 rfl, hG.1 _ _ am_coW.2.2.1 rfl, ⟨by decide, by decide⟩, fun sig h => by have h3 := am_psC; rw [h] at h3; exact (Option.some.inj h3).symm, hG.1 _ _ (hlk.2.2.2.1 rfl) rfl⟩, hG.1 _ _ am_coW.2.1 rfl⟩
      ⟨am_Pc_blind, am_PcU (As := [.ref a, .int (nI n)]) hG hS hR⟩ rfl rfl (hL.1.1.trans hL.2.2.2) rfl (by rw [am_mon]; omega) hd ⟨by omega, by omega⟩
    exact am_goon C' hS hL hv.2.2 hrm hext h1 h2 hr (fun v B' I' P' G' h => (h5 v B' I' P' G' h).2) fun x B' I' P' G' ρ' al' H' locs' q ce hx5 hQ => absurd hQ (h6 _ _ _ _ _)
  · cases (show (903 : Nat) = 904 from h9)
  · cases (show (903 : Nat) = 906 from h9)
  · exact absurd (show (903 : Nat) < 900 from h9) (by decide)
end CO
