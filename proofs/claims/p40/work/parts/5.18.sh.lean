/-! SOUNDNESS: the method with a table (the law's ask, 199): fourteen calls of the class and one of asked -/
/-- entry, exception, its word, the handler, its constant, that's word, its value -/
def am_hct : List (Nat × Nat × Nat × Nat × Nat × Nat × Int32) := [(65, 4, 449, 421, 67, 1044, -2000000001), (68, 0, 450, 425, 70, 1045, -2000000002), (71, 1, 451, 429, 73, 1046, -2000000003), (74, 2, 452, 433, 76, 1047, -2000000004), (77, 3, 453, 437, 79, 1048, -2000000005)]
def am_hpcs : List Nat := [216, 231, 236, 268, 279, 290, 319, 327, 338, 352, 363, 374, 388, 410, 417]
theorem am_hctw : am_hct.all (fun z => am_wx z.2.2.1 (.classLink "SaywhatSeenLaw" z.1 (am_exn z.2.1)) && am_wx z.2.2.2.2.2.1 (.constant "SaywhatSeenLaw" z.2.2.2.2.1 z.2.2.2.2.2.2)) = true := by decide +kernel
theorem am_y199 : (am_y 199).cls = "SaywhatSeenLaw" := by decide +kernel
def am_hpB (pc x : Nat) (w : Nat × Nat × Nat × Nat) : Bool := !(decide (w.1 ≤ pc) && decide (pc < w.2.1)) || am_hct.any (fun z => decide (z.1 = w.2.2.2) && decide (z.2.1 ≠ x) && decide (z.2.1 < 5) && decide (z.1 ≠ 0))
/-- entry w doesn't take what the call at pc throws -/
def am_hp (pc x : Nat) (w : Nat × Nat × Nat × Nat) : Prop := ¬ (w.1 ≤ pc ∧ pc < w.2.1) ∨ ∃ y, y < 5 ∧ y ≠ x ∧ w.2.2.2 ≠ 0 ∧ Jvm.Cond.classLink (am_y 199).cls w.2.2.2 (am_exn y) ∈ lw_tbl
theorem am_hpB_ok {pc x : Nat} {w : Nat × Nat × Nat × Nat} (h : am_hpB pc x w = true) : am_hp pc x w := by
  unfold am_hpB at h
  rcases Bool.or_eq_true_iff.mp h with h | h
  · left
    intro q
    simp [q.1, q.2] at h
  · right
    obtain ⟨z, hz, h2⟩ := List.any_eq_true.mp h
    simp only [Bool.and_eq_true, decide_eq_true_eq] at h2
    obtain ⟨⟨⟨e1, e2⟩, e3⟩, e4⟩ := h2
    have h3 := List.all_eq_true.mp am_hctw z hz
    rw [Bool.and_eq_true] at h3
    exact ⟨z.2.1, e3, e2, by rw [← e1]; exact e4, by rw [am_y199, ← e1]; exact am_has h3.1⟩
/-- what is done where the call at pc throws x -/
def am_hok (pc x : Nat) : Prop := ∃ (cc : Int32) (pre : List (Nat × Nat × Nat × Nat)) (z : Nat × Nat × Nat × Nat) (suf : List (Nat × Nat × Nat × Nat)) (ci : Nat), am_hd 199 pc x = some cc ∧ am_hh 199 = pre ++ z :: suf ∧ (∀ w ∈ pre, am_hp pc x w) ∧ z.1 ≤ pc ∧ pc < z.2.1 ∧ z.2.2.2 ≠ 0 ∧ Jvm.Cond.classLink (am_y 199).cls z.2.2.2 (am_exn x) ∈ lw_tbl ∧ Jvm.Cond.castable (am_exn x) (am_exn x) ∈ lw_tbl ∧
  decode (am_by 199) z.2.2.1 = .ok (.astore_n 3, 1) ∧ decode (am_by 199) (z.2.2.1 + 1) = .ok (.ldc ci, 2) ∧ Jvm.Cond.constant (am_y 199).cls ci cc ∈ lw_tbl ∧ decode (am_by 199) (z.2.2.1 + 1 + 2) = .ok (.ireturn, 1)
/-- the place of the entry that takes it -/
def am_hn (j x : Nat) : Nat := 15 * ([1, 2, 3, 4, 0].getD x 0) + j
noncomputable def am_hokB (j x : Nat) : Bool := am_hct.any (fun t => decide (t.2.1 = x) && decide (am_hd 199 (am_hpcs.getD j 0) x = some t.2.2.2.2.2.2) && decide (am_hn j x < (am_hh 199).length) && ((am_hh 199).take (am_hn j x)).all (am_hpB (am_hpcs.getD j 0) x) &&
  decide (((am_hh 199).getD (am_hn j x) (0, 0, 0, 0)).1 ≤ am_hpcs.getD j 0) && decide (am_hpcs.getD j 0 < ((am_hh 199).getD (am_hn j x) (0, 0, 0, 0)).2.1) && decide (((am_hh 199).getD (am_hn j x) (0, 0, 0, 0)).2.2.1 = t.2.2.2.1) && decide (((am_hh 199).getD (am_hn j x) (0, 0, 0, 0)).2.2.2 = t.1) && decide (t.1 ≠ 0))
theorem am_hokBs : ∀ j, j < 15 → ∀ x, x < 5 → am_hokB j x = true := by decide +kernel
theorem am_hcst : ∀ x, x < 5 → Jvm.Cond.castable (am_exn x) (am_exn x) ∈ lw_tbl := by decide +kernel
theorem am_hdec : am_hct.all (fun t => decide (decode (am_by 199) t.2.2.2.1 = .ok (.astore_n 3, 1)) && decide (decode (am_by 199) (t.2.2.2.1 + 1) = .ok (.ldc t.2.2.2.2.1, 2)) && decide (decode (am_by 199) (t.2.2.2.1 + 1 + 2) = .ok (.ireturn, 1))) = true := by decide +kernel
theorem am_hoks {pc : Nat} (hpc : pc ∈ am_hpcs) {x : Nat} (hx : x < 5) : am_hok pc x := by
  obtain ⟨j, hj⟩ := List.getElem?_of_mem hpc
  have hj15 : j < 15 := (List.getElem?_eq_some_iff.mp hj).1
  have hpj : am_hpcs.getD j 0 = pc := by rw [List.getD_eq_getElem?_getD, hj]; rfl
  have h := am_hokBs j hj15 x hx
  unfold am_hokB at h
  rw [hpj] at h
  obtain ⟨t, ht, h2⟩ := List.any_eq_true.mp h
  simp only [Bool.and_eq_true, decide_eq_true_eq] at h2
  obtain ⟨⟨⟨⟨⟨⟨⟨⟨k1, k2⟩, k3⟩, k4⟩, k5⟩, k6⟩, k7⟩, k8⟩, k9⟩ := h2
  have hw := List.all_eq_true.mp am_hctw t ht
  rw [Bool.and_eq_true] at hw
  have hdc := List.all_eq_true.mp am_hdec t ht
  simp only [Bool.and_eq_true, decide_eq_true_eq] at hdc
  have hz : (am_hh 199).getD (am_hn j x) (0, 0, 0, 0) = (am_hh 199)[am_hn j x] := by rw [List.getD_eq_getElem?_getD, List.getElem?_eq_getElem k3]; rfl
  refine ⟨t.2.2.2.2.2.2, (am_hh 199).take (am_hn j x), (am_hh 199).getD (am_hn j x) (0, 0, 0, 0), (am_hh 199).drop (am_hn j x + 1), t.2.2.2.2.1, k2, ?_, fun w hw => am_hpB_ok (List.all_eq_true.mp k4 w hw), k5, k6, by rw [k8]; exact k9, by rw [k8, am_y199, ← k1]; exact am_has hw.1, am_hcst x hx, by rw [k7]; exact hdc.1.1, by rw [k7]; exact hdc.1.2, by rw [am_y199]; exact am_has hw.2, by rw [k7]; exact hdc.2⟩
  rw [hz, List.getElem_cons_drop, List.take_append_drop]
/-- in a method with a table there are plain instructions and calls -/
def am_pl (i : Instr) : Bool := match i with
  | .new _ => false
  | .multianewarray _ _ => false
  | .invokespecial _ => false
  | .getstatic _ => false
  | .putfield _ => false
  | .newarray _ => false
  | .anewarray _ => false
  | _ => true
def am_isV (i : Instr) : Bool := match i with
  | .invokevirtual _ => true
  | .invokestatic _ => true
  | _ => false
theorem am_hpl : (am_tabs.getD 199 []).all (fun q => am_pl q.2.1 && (!(am_isV q.2.1) || (am_hpcs.contains q.1 && decide (q.2.2.2.1 < 900)))) = true := by decide +kernel
theorem am_hin {m : Nat} (h : am_hh m ≠ []) : m = 199 := by
  unfold am_hh at h
  cases hf : am_hhs.find? (fun q => q.1 == m) with
  | none => rw [hf] at h; exact absurd rfl h
  | some q =>
    have h1 := List.find?_some hf
    have h2 := List.mem_of_find?_eq_some hf
    have hall : ∀ q ∈ am_hhs, q.1 = 199 := by decide +kernel
    simp only [beq_iff_eq] at h1
    exact h1.symm.trans (hall q h2)
theorem am_ncov {z : Nat × Nat × Nat × Nat} {pc : Nat} (h : ¬ (z.1 ≤ pc ∧ pc < z.2.1)) : covers (⟨z.1, z.2.1, z.2.2.1, z.2.2.2⟩ : ExceptionTableEntry) pc = false := by
  unfold covers
  rcases Bool.eq_false_or_eq_true (decide (z.1 ≤ pc)) with q | q
  · have q1 : z.1 ≤ pc := of_decide_eq_true q
    have q2 : ¬ pc < z.2.1 := fun w => h ⟨q1, w⟩
    simp [q2]
  · have q1 : ¬ z.1 ≤ pc := of_decide_eq_false q
    simp [q1]
theorem am_cov {z : Nat × Nat × Nat × Nat} {pc : Nat} (h1 : z.1 ≤ pc) (h2 : pc < z.2.1) : covers (⟨z.1, z.2.1, z.2.2.1, z.2.2.2⟩ : ExceptionTableEntry) pc = true := by
  simp [covers, h1, h2]
section SH
variable {l : Launch} {D : va_G} {tc : Nat → ClassId} {sz0 b0 : Nat}
/-- what is thrown at a call is caught -/
theorem am_catch {p : Program} {e : Env} {R : Room} {s0 : State} {mid : MethodId} {args : Array Value} {below : List Frame} {meth : Method} {c : Code} {ρ : Nat → Nat} {al : Nat → Prop} {ls : Array Slot} {ρ0 : Nat → Nat} {al0 : Nat → Prop} {L : List (Option Value)} {Q : am_Q} {pc x cells' slots' : Nat} {B' : Nat} {I' : am_I} {P' : am_P} {G' : am_G} {ρ' : Nat → Nat} {al' : Nat → Prop} {H' : Heap} {locs' : List Loc} {q : Addr} {ce : Cell} {rest : List Value}
    (C : am_Ctx D tc sz0 b0 199 Q p e R s0 mid meth c) (hL : am_rl 199 ρ al L ls) (hpc : pc ∈ am_hpcs) (hx5 : x < 5) (h6 : Q (match am_hd 199 pc x with | some c => .inl (some (.int c)) | none => .inr x) B' I' P' G') (hS' : va_S (am_A sz0) s0.heap H' locs') (hR' : am_R D tc sz0 b0 ρ' al' B' I' P' G' H') (hext' : am_ext ρ0 al0 ρ' al') (hce : H'[q]? = some ce) (hcv : ce.vm = .none) (hcl : s0.vm.findClass (am_exn x) = some ce.cls) (h1 : cells' ≤ R.cells) (h2 : slots' ≤ R.slots) :
    vx_W p l e R s0 mid args below meth c H' locs' cells' slots' (vx_MQ below (am_Qc D tc sz0 b0 Q ρ0 al0) (am_XC D tc sz0 b0 Q ρ0 al0) args s0 R.cells R.slots (am_A sz0)) (F0 mid pc ls rest) q := by
  obtain ⟨hx, hb, hml, hrt, hown, hlocks, hname, htab, hG⟩ := C
  have htab := htab.resolve_right (fun h => absurd h.1 (by decide +kernel))
  obtain ⟨cc, pre, z, suf, ci, k0, k1, k2, k3, k4, k5, k6, k7, d1, d2, k8, d4⟩ := am_hoks hpc hx5
  rw [k0] at h6
  refine vx_catch (own := (am_y 199).cls) (name := am_exn x) (E := am_exn x) hown (tableOf pre) ⟨z.1, z.2.1, z.2.2.1, z.2.2.2⟩ (tableOf suf) (by rw [htab, k1]; simp [tableOf]) ?_ (am_cov k3 k4) k5 (hG.1 args _ k6 rfl) (hG.1 args _ k7 rfl) hce hcv hcl ?_
  · intro y hy
    obtain ⟨w, hw, rfl⟩ := List.mem_map.mp hy
    rcases k2 w hw with g | ⟨y, hy5, hyx, hw0, hwl⟩
    · exact Or.inl (am_ncov g)
    · exact Or.inr ⟨hw0, am_exn y, hG.1 args _ hwl rfl, hG.2.2.2.2.2.2.2.1 x y hx5 hy5 (fun q => hyx q.symm)⟩
  · refine lv_astore_n hx hb d1 rfl hL.1 (by rw [hL.2.2.2]; decide +kernel) rfl fun ls' _ => lv_ldc hx hb hown (hG.1 args _ k8 rfl) d2 ?_
    exact W.widen (by omega) (by omega) (vx_ret (W.zret (ty := .int) hx hb (hrt.trans (by decide +kernel)) rfl (fun t ht hW => ⟨some (.int cc), ρ', al', B', I', P', G', rfl, ⟨trivial, trivial⟩, h6, by rw [ht]; exact hR', hext', by rw [va_F, ht]; exact ⟨hS'.1, hS'.2.1⟩⟩) hS'.2.2 d4 hlocks))
set_option maxHeartbeats 8000000 in
theorem am_sndH {m pc : Nat} {e0 : am_e} (hcod : am_cod m pc = some e0) (hk0 : am_okE m pc e0) (hm0 : am_hh m ≠ []) {L : List (Option Value)} {st : List Value} {B : Nat} {I : am_I} {P : am_P} {G : am_G} {k sl d : Nat} {Q : am_Q} (hs : am_St (am_Snd l D tc sz0 b0) e0 m pc L st B I P G k sl d Q) : am_Snd l D tc sz0 b0 m pc L st B I P G k sl d Q := by
  obtain rfl := am_hin hm0
  have hent : am_pl e0.1 = true ∧ (am_isV e0.1 = true → pc ∈ am_hpcs ∧ e0.2.2.1 < 900) := by
    unfold am_cod at hcod
    obtain ⟨q, hq, rfl⟩ := Option.map_eq_some_iff.mp hcod
    have h2 := List.find?_some hq
    simp only [beq_iff_eq] at h2
    have g1 := List.all_eq_true.mp am_hpl q (List.mem_of_find?_eq_some hq)
    simp only [Bool.and_eq_true, Bool.or_eq_true, Bool.not_eq_true', decide_eq_true_eq, List.contains_iff_mem] at g1
    refine ⟨g1.1, fun h => ?_⟩
    rcases g1.2 with g | g
    · rw [g] at h; cases h
    · rw [← h2]; exact g
  have hgo := @am_snd1 l D tc sz0 b0 199 pc e0 hk0 L st B I P G k sl d Q hs
  apply hgo
  clear hgo
  intro hcase
  obtain ⟨ins, len, r1, r2⟩ := e0
  obtain ⟨hd, hlen, hlk⟩ := hk0
  dsimp only at hd hlen hlk hs hcase hent
  cases ins
  case invokevirtual i =>
    intro p e R s0 mid args below meth c H locs cells slots ρ al ls ρ0 al0 C V
    have C' := C
    obtain ⟨hx, hb, hml, hrt, hown, hlocks, hname, htab, hG⟩ := C
    obtain ⟨hS, hR, hL, hv, hrm, hext⟩ := V
    have hK := hG.2.2.1
    have hl : len = 3 := hlen (show (3 : Nat) ≠ 0 by decide)
    subst hl
    obtain ⟨hpc, hr9⟩ := hent.2 rfl
    rcases hs with ⟨h905, _⟩ | hs
    · exfalso
      have h905' : r1 = 905 := h905
      have hr9' : r1 < 900 := hr9
      omega
    obtain ⟨h900, hlen9, ⟨a, hlast, hTY⟩, Rq, mc, ms, dd, hrest4, hEl, hEk, h1, h2, h3, h4, h5, h6⟩ := hs
    dsimp only at h900 hlen9 hlast hTY hrest4 hEl hEk h4 h5 h6 hlk
    obtain ⟨hh, hcal, hcx, ho10, hcls, hdesc, hlink, hinst, hsel⟩ := hlk.2 h900
    obtain ⟨As, e1, e2⟩ := am_take hlast
    rw [e1] at h4 hEl hEk
    have hlenA : As.length + 1 = am_na r1 := by
      have := congrArg List.length e1
      rw [List.length_reverse, List.length_take, List.length_cons] at this
      omega
    generalize st.drop (am_na r1) = rst at e2 hrest4 h5
    have h5 : ∀ (v : Option Value) (B' : Nat) (I' : am_I) (P' : am_P) (G' : am_G), Rq (.inl v) B' I' P' G' → am_Snd l D tc sz0 b0 199 (pc + 3) L (v.toList ++ rst) B' I' P' G' (k - mc) (sl - ms) d Q := fun v B' I' P' G' hq => by obtain ⟨B2, hb2, hx2⟩ := h5 v B' I' P' G' hq; exact am_Snd_B hx2 hb2
    subst e2
    obtain ⟨hvA, hva, hvr⟩ := am_vs_app.mp hv
    have hvA := am_vs_rev.mp hvA
    have hM := am_met (ρ := ρ) hcx h4 (As := .ref a :: As) ⟨hva, hvA⟩ hEl hEk
    have hrecv : ∃ cellB : Cell, H[ρ a]? = some cellB ∧ cellB.vm.isStatics = false ∧ s0.vm.findClass (am_C (am_own r1)) = some cellB.cls := by
      have ho10' : am_own r1 < 10 := ho10
      have f2 := hR.at hva (by rw [hTY]; omega)
      rw [am_E_o (by rw [hTY]; exact ho10), hTY] at f2
      obtain ⟨r', hr', cellV, g1, g2, g3, -⟩ := f2
      exact ⟨cellV, g1, by rw [g3]; rfl, by rw [g2]; exact (hK.1 _ _ (am_cl_at ho10)).2.1⟩
    have hn : (parseMethodDescriptor (am_y r1).desc).map (fun d => d.parameters.length) = some As.length := by
      cases hp : parseMethodDescriptor (am_y r1).desc with
      | none => rw [hp] at hdesc; cases hdesc
      | some sg => rw [hp] at hdesc; simp at hdesc ⊢; omega
    have hr := vx_runV (l := l) (rest := rst.map (am_rn ρ)) (g := F0 mid pc ls ((As.reverse ++ .ref a :: rst).map (am_rn ρ))) (Ts := []) (args := args) (below := below) (locs := locs) (cells := cells) (slots := slots) (H := H) (C := am_C (am_own r1)) (b := ρ a) (As := As.map (am_rn ρ)) (e := e) (meth := meth)
      ⟨hx, hb, hml, hown, fun _ h => nomatch h⟩ hM ⟨am_callB (args := args) hG.1 hh hcal hcx hn hlink h3 hrm.2.2.1 hrm.2.2.2, hG.1 args _ hinst rfl, by rw [← hcls]; exact hG.1 args _ hsel rfl⟩ ⟨am_Pc_blind, hrecv, am_PcU (As := .ref a :: As) hG hS hR⟩ rfl (by simp) (hL.1.1.trans hL.2.2.2)
      (by simp [am_rn]) (by rw [am_mon]; have := am_cats (rst.map (am_rn ρ)); rw [List.length_map] at this; omega) hd ⟨by omega, by omega⟩
    exact am_goon C' hS hL hvr hrm hext h1 h2 hr h5 fun x B' I' P' G' ρ' al' H' locs' q ce hx5 hQ hS' hR' hext' hce hcv hcl => am_catch C' hL hpc hx5 (h6 x B' I' P' G' hQ) hS' hR' hext' hce hcv hcl (by omega) (by omega)
  case invokestatic i =>
    intro p e R s0 mid args below meth c H locs cells slots ρ al ls ρ0 al0 C V
    have C' := C
    have V' := V
    obtain ⟨hx, hb, hml, hrt, hown, hlocks, hname, htab, hG⟩ := C
    obtain ⟨hS, hR, hL, hv, hrm, hext⟩ := V
    have hK := hG.2.2.1
    have hl : len = 3 := hlen (show (3 : Nat) ≠ 0 by decide)
    subst hl
    obtain ⟨hpc, hr9⟩ := hent.2 rfl
    have hr9' : r1 < 900 := hr9
    rcases hs with ⟨h9, _⟩ | ⟨h9, _⟩ | ⟨h9, _⟩ | ⟨h9, _⟩ | ⟨h9, _⟩ | ⟨h900, hlen9, Rq, mc, ms, dd, hrest4, hEl, hEk, h1, h2, h3, h4, h5, h6⟩
    · exfalso; have h9' : r1 = 901 := h9; omega
    · exfalso; have h9' : r1 = 902 := h9; omega
    · exfalso; have h9' : r1 = 903 := h9; omega
    · exfalso; have h9' : r1 = 904 := h9; omega
    · exfalso; have h9' : r1 = 906 := h9; omega
    dsimp only at h900 hlen9 hrest4 hEl hEk h4 h5 h6 hlk
    obtain ⟨hcal, hcx, hdesc, hlink, hstat⟩ := hlk.2.2.1 h900
    have e2 : st = (st.take (am_na r1)).reverse.reverse ++ st.drop (am_na r1) := by rw [List.reverse_reverse]; exact (List.take_append_drop _ st).symm
    have hlenA : (st.take (am_na r1)).reverse.length = am_na r1 := by
      rw [List.length_reverse, List.length_take]; omega
    generalize (st.take (am_na r1)).reverse = As at e2 h4 hEl hEk hlenA
    generalize st.drop (am_na r1) = rst at e2 hrest4 h5
    have h5 : ∀ (v : Option Value) (B' : Nat) (I' : am_I) (P' : am_P) (G' : am_G), Rq (.inl v) B' I' P' G' → am_Snd l D tc sz0 b0 199 (pc + 3) L (v.toList ++ rst) B' I' P' G' (k - mc) (sl - ms) d Q := fun v B' I' P' G' hq => by obtain ⟨B2, hb2, hx2⟩ := h5 v B' I' P' G' hq; exact am_Snd_B hx2 hb2
    subst e2
    obtain ⟨hvA, hvr⟩ := am_vs_app.mp hv
    have hvA := am_vs_rev.mp hvA
    have hM := am_met (ρ := ρ) hcx h4 (As := As) hvA hEl hEk
    have hn : (parseMethodDescriptor (am_y r1).desc).map (fun d => d.parameters.length) = some As.length := by rw [hlenA]; exact hdesc
    have hsum : 2 * (F0 mid pc ls ((As.reverse ++ rst).map (am_rn ρ))).monitorRoom + ((rst.map (am_rn ρ)).map fun v => v.category).sum ≤ 8 := by
      rw [am_mon]; have := am_cats (rst.map (am_rn ρ)); rw [List.length_map] at this; omega
    have hr : vx_Run p l e R s0 mid args below meth c H locs cells slots mc ms (F0 mid pc ls ((As.reverse ++ rst).map (am_rn ρ))) (rst.map (am_rn ρ)) (am_Qc D tc sz0 b0 Rq ρ al (As.map (am_rn ρ)).toArray) (am_XC D tc sz0 b0 Rq ρ al) (am_A sz0) := by
      by_cases hh : am_hh r1 = []
      · exact vx_runS (l := l) (rest := rst.map (am_rn ρ)) (g := F0 mid pc ls ((As.reverse ++ rst).map (am_rn ρ))) (Ts := []) (args := args) (below := below) (locs := locs) (cells := cells) (slots := slots) (H := H) (As := As.map (am_rn ρ)) (e := e) (meth := meth)
          ⟨hx, hb, hml, hown, fun _ h => nomatch h⟩ hM ⟨am_callB (args := args) hG.1 hh hcal hcx hn hlink h3 hrm.2.2.1 hrm.2.2.2, hG.1 args _ hstat rfl⟩ ⟨am_Pc_blind, am_PcU (As := As) hG hS hR⟩ rfl (by simp) (hL.1.1.trans hL.2.2.2)
          (by simp) hsum hd ⟨by omega, by omega⟩
      · have hcw : Jvm.Cond.codeWith (am_y r1) (am_by r1) (am_nL r1) (am_rt r1) (am_hh r1) ∈ lw_tbl := by
          rcases hcal with ⟨h1, _⟩ | ⟨_, h2⟩
          · exact absurd h1 hh
          · exact h2
        refine vx_runSX (l := l) (hh := am_hh r1) (rest := rst.map (am_rn ρ)) (g := F0 mid pc ls ((As.reverse ++ rst).map (am_rn ρ))) (Ts := []) (args := args) (below := below) (locs := locs) (cells := cells) (slots := slots) (H := H) (As := As.map (am_rn ρ)) (e := e) (meth := meth) (n := As.length)
          ⟨hx, hb, hml, hown, fun _ h => nomatch h⟩ hM ⟨⟨rfl, rfl, by simp only [am_rm]; omega, ?_, am_pay hG.1 hcal, by unfold am_wsy; rw [if_neg hh]; exact List.mem_cons_self⟩, hG.1 args _ hcw rfl, hG.1 args _ hcx.1 rfl, ⟨hcx.2.1, hcx.2.2.1⟩, fun sig h => ?_, hG.1 args _ hlink rfl, hG.1 args _ hstat rfl⟩ ⟨am_Pc_blind, am_PcU (As := As) hG hS hR⟩ rfl (by simp) (hL.1.1.trans hL.2.2.2)
          (by simp) hsum hd ⟨by omega, by omega⟩
        · have h20 : am_nL r1 ≤ 21 := hcx.2.2.2.1
          simp only [am_rm]
          omega
        · rw [h] at hn
          exact (Option.some.inj hn).symm
    exact am_goon C' hS hL hvr hrm hext h1 h2 hr h5 fun x B' I' P' G' ρ' al' H' locs' q ce hx5 hQ hS' hR' hext' hce hcv hcl => am_catch C' hL hpc hx5 (h6 x B' I' P' G' hQ) hS' hR' hext' hce hcv hcl (by omega) (by omega)
  all_goals first | exact hcase.elim | exact absurd hent.1 (by decide) | (have := hent.1; simp [am_pl] at this)
end SH
