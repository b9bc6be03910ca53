/-! SOUNDNESS: new things, fields, calls -/
section SW
variable {l : Launch} {D : va_G} {tc : Nat → ClassId} {sz0 b0 : Nat}
theorem am_hd_none {m pc x : Nat} (h : am_hh m = []) : am_hd m pc x = none := by
  unfold am_hd
  cases hf : am_hds.find? (fun q => q.1 == m && q.2.1 == pc) with
  | none => rfl
  | some q =>
    exfalso
    have h1 := List.find?_some hf
    have h2 := List.mem_of_find?_eq_some hf
    have hall : ∀ q ∈ am_hds, am_hh q.1 ≠ [] := by decide +kernel
    simp only [Bool.and_eq_true, beq_iff_eq] at h1
    exact hall q h2 (by rw [h1.1]; exact h)
theorem am_mon {mid : MethodId} {pc : Nat} {ls : Array Slot} {vs : List Value} : (F0 mid pc ls vs).monitorRoom = 0 := rfl
set_option maxHeartbeats 8000000 in
theorem am_snd2 {m pc : Nat} {e0 : am_e} (hk0 : am_okE m pc e0) (hm0 : am_hh m = []) {L : List (Option Value)} {st : List Value} {B : Nat} {I : am_I} {P : am_P} {G : am_G} {k sl d : Nat} {Q : am_Q} (hs : am_St (am_Snd l D tc sz0 b0) e0 m pc L st B I P G k sl d Q)
    (hrest : (match e0.1 with | .new _ => 200 ≤ e0.2.2.1 | .multianewarray _ _ => True | .invokestatic _ => 903 ≤ e0.2.2.1 | _ => False) → am_Snd l D tc sz0 b0 m pc L st B I P G k sl d Q) : am_Snd l D tc sz0 b0 m pc L st B I P G k sl d Q := by
  refine am_snd1 hk0 hs fun hcase => ?_
  obtain ⟨ins, len, r1, r2⟩ := e0
  obtain ⟨hd, hlen, hlk⟩ := hk0
  dsimp only at hd hlen hlk hs hrest hcase
  cases ins
  case multianewarray i d => exact hrest trivial
  case new i =>
    intro p e R s0 mid args below meth c H locs cells slots ρ al ls ρ0 al0 C V
    by_cases h200 : 200 ≤ r1
    · exact hrest h200 C V
    · have C' := C
      obtain ⟨hx, hb, hml, hrt, hown, hlocks, hname, htab, hG⟩ := C
      obtain ⟨hS, hR, hL, hv, hrm, hext⟩ := V
      have hK := hG.2.2.1
      have hl : len = 3 := hlen (show (3 : Nat) ≠ 0 by decide)
      subst hl
      rcases hs with ⟨h9, _⟩ | ⟨h10, hk1, a, hB, hmm, ht, hsl, hX⟩
      · exact absurd h9 h200
      · obtain ⟨k1, k2, k3⟩ := hlk.1 h10
        have he := am_ext_new hR (q := H.size) hB hmm
        refine w_new hx hb hG.1 hown hK hR hS hG.2.2.2.1 hB hmm ht h10 (by rw [← ht]; exact (am_TY_N (by rw [ht]; exact h10)).1) k1 k2 k3 hd (by omega) (by omega) fun H' locs' hR' hS' => ?_
        have hve := am_vs_ext he hv
        have hW := hX C' (H := H') (locs := locs') (cells := cells + 1) (slots := slots + (am_TY a).2) (ls := ls) (ρ0 := ρ0) (al0 := al0) (args := args) (below := below) ⟨hS', hR', am_rl_ext he hL, ⟨Or.inl rfl, hve.1⟩, ⟨by omega, by omega, hrm.2.2⟩, hext.trans he⟩
        rw [List.map_cons, hve.2] at hW
        have e9 : am_rn (am_ra ρ a H.size) (.ref a) = .ref H.size := by simp [am_rn, am_ra]
        rw [e9] at hW
        exact hW
  case newarray t =>
    intro p e R s0 mid args below meth c H locs cells slots ρ al ls ρ0 al0 C V
    have C' := C
    obtain ⟨hx, hb, hml, hrt, hown, hlocks, hname, htab, hG⟩ := C
    obtain ⟨hS, hR, hL, hv, hrm, hext⟩ := V
    have hK := hG.2.2.1
    have hl : len = 2 := hlen (show (2 : Nat) ≠ 0 by decide)
    subst hl
    obtain ⟨n, st', a, rfl, hn, hk1, hns, hB, hmm, ht, hX⟩ := hs
    obtain ⟨k1, k2, k3⟩ := hlk
    have he := am_ext_new hR (q := H.size) hB hmm
    refine w_newa hx hb hG.1 hK hR hS hG.2.2.2.1 hB hmm (ht.trans (by rw [k1])) k2 hn k3 hd (by omega) (by omega) fun H' locs' hR' hS' => ?_
    have hve := am_vs_ext he hv.2
    have hW := hX C' (H := H') (locs := locs') (cells := cells + 1) (slots := slots + n) (ls := ls) (ρ0 := ρ0) (al0 := al0) (args := args) (below := below) ⟨hS', hR', am_rl_ext he hL, ⟨Or.inl rfl, hve.1⟩, ⟨by omega, by omega, hrm.2.2⟩, hext.trans he⟩
    rw [List.map_cons, hve.2] at hW
    have e9 : am_rn (am_ra ρ a H.size) (.ref a) = .ref H.size := by simp [am_rn, am_ra]
    rw [e9] at hW
    exact hW
  case anewarray i =>
    intro p e R s0 mid args below meth c H locs cells slots ρ al ls ρ0 al0 C V
    have C' := C
    obtain ⟨hx, hb, hml, hrt, hown, hlocks, hname, htab, hG⟩ := C
    obtain ⟨hS, hR, hL, hv, hrm, hext⟩ := V
    have hK := hG.2.2.1
    have hl : len = 3 := hlen (show (3 : Nat) ≠ 0 by decide)
    subst hl
    obtain ⟨n, st', a, rfl, hn, hk1, hns, hB, hmm, ht, h14, h16, hX⟩ := hs
    obtain ⟨Cn, k1, k2, k3⟩ := hlk h14 h16
    have he := am_ext_new hR (q := H.size) hB hmm
    refine w_anewa hx hb hG.1 hown hK hR hS hG.2.2.2.1 hB hmm ht k1 hn k2 k3 hd (by omega) (by omega) fun H' locs' hR' hS' => ?_
    have hve := am_vs_ext he hv.2
    have hW := hX C' (H := H') (locs := locs') (cells := cells + 1) (slots := slots + n) (ls := ls) (ρ0 := ρ0) (al0 := al0) (args := args) (below := below) ⟨hS', hR', am_rl_ext he hL, ⟨Or.inl rfl, hve.1⟩, ⟨by omega, by omega, hrm.2.2⟩, hext.trans he⟩
    rw [List.map_cons, hve.2] at hW
    have e9 : am_rn (am_ra ρ a H.size) (.ref a) = .ref H.size := by simp [am_rn, am_ra]
    rw [e9] at hW
    exact hW
  case getstatic i =>
    intro p e R s0 mid args below meth c H locs cells slots ρ al ls ρ0 al0 C V
    have C' := C
    obtain ⟨hx, hb, hml, hrt, hown, hlocks, hname, htab, hG⟩ := C
    obtain ⟨hS, hR, hL, hv, hrm, hext⟩ := V
    have hl : len = 3 := hlen (show (3 : Nat) ≠ 0 by decide)
    subst hl
    obtain ⟨h1, hX⟩ := hs
    have hW := hX C' (H := H) (locs := locs) (cells := cells) (slots := slots) (ls := ls) (ρ0 := ρ0) (al0 := al0) (args := args) (below := below) ⟨hS, hR, hL, ⟨hR.2.2.2.1, hv⟩, hrm, hext⟩
    have e9 : am_rn ρ (.ref am_emp) = .ref b0 := by show Value.ref (ρ am_emp) = _; rw [hR.2.2.2.2]
    rw [List.map_cons, e9] at hW
    exact va_gets hx hb hG.2.2.2.2.2.2.1 hS hown (hG.1 args _ (hlk h1) rfl) (fun _ h => h) hd hW
  case putfield i =>
    intro p e R s0 mid args below meth c H locs cells slots ρ al ls ρ0 al0 C V
    have C' := C
    obtain ⟨hx, hb, hml, hrt, hown, hlocks, hname, htab, hG⟩ := C
    obtain ⟨hS, hR, hL, hv, hrm, hext⟩ := V
    have hK := hG.2.2.1
    have hl : len = 3 := hlen (show (3 : Nat) ≠ 0 by decide)
    subst hl
    obtain ⟨v, a, st', rfl, ht, hcs⟩ := hs
    have ha : al a := hv.2.1
    rcases hlk with ⟨⟨h10, hk9, ref, hl1, hl2⟩, hfin⟩ | h18
    · have hbig : sz0 ≤ ρ a := by
        rcases (hR.1 a ha).2.2.2 with q | q
        · exact q
        · have q' : 18 ≤ r1 := by have h9 : (am_TY a).1 = r1 := ht; omega
          omega
      have hfin' : (am_T r1 r2).2.2.2 = false ∨ ((am_T r1 r2).2.2.2 = true ∧ meth.name = "<init>" ∧ (am_T r1 r2).1 = (am_y m).cls) := by
        rcases hfin with h | ⟨h1, h2, h3⟩
        · exact Or.inl h
        · exact Or.inr ⟨h1, hname h2, h3⟩
      rcases hcs with ⟨hi, x, rfl, hox, hX⟩ | ⟨hi, r, rfl, hX⟩
      · exact w_put (v := .int x) (I' := am_u I a r2 x) (P' := P) hx hb hG.1 hown hK hR hS ha ht h10 hk9 hl1 hl2 hfin' (am_nar hi hox) (fun b hb => ⟨by funext j; simp [am_u, hb], rfl⟩) (by unfold am_fv; rw [hi]; simp [am_u]) (fun j hj => by simp [am_fv, am_u, hj]) (fun k r h => hR.2.2.1 a k r ha h) hbig hd
          (fun H' locs' hR' hS' => hX C' ⟨hS', hR', hL, hv.2.2, hrm, hext⟩)
      · exact w_put (v := va_rf r) (I' := I) (P' := am_u P a r2 r) hx hb hG.1 hown hK hR hS ha ht h10 hk9 hl1 hl2 hfin' (by rw [am_rf_map]; exact am_narR hi _) (fun b hb => ⟨rfl, by funext j; simp [am_u, hb]⟩) (by unfold am_fv; rw [hi]; simp [am_u]) (fun j hj => by simp [am_fv, am_u, hj]) (fun k q h => by
            simp only [am_u, true_and] at h
            split at h
            · have := hv.1; rw [h] at this; exact this
            · exact hR.2.2.1 a k q ha h) hbig hd
          (fun H' locs' hR' hS' => hX C' ⟨hS', hR', hL, hv.2.2, hrm, hext⟩)
    · have h19 := (hR.1 a ha).1
      have h9 : (am_TY a).1 = r1 := ht
      have h18' : 19 < r1 := h18
      omega
  case invokevirtual i =>
    intro p e R s0 mid args below meth c H locs cells slots ρ al ls ρ0 al0 C V
    have C' := C
    obtain ⟨hx, hb, hml, hrt, hown, hlocks, hname, htab, hG⟩ := C
    obtain ⟨hS, hR, hL, hv, hrm, hext⟩ := V
    have hK := hG.2.2.1
    have hl : len = 3 := hlen (show (3 : Nat) ≠ 0 by decide)
    subst hl
    rcases hs with ⟨h905, n, a, b, st', rfl, h8, hTa, hn, hk1, hns, hB, hmm, hTb, hX⟩ | hs
    · have he := am_ext_new hR (q := H.size) hB hmm
      refine w_clone hx hb (am_rl_nL C' hL) hG.1 hown hK hR hS hG.2.2.2.1 hv.1 hB hmm hTa hTb (hlk.1 h905) hd (by omega) (by have := am_cats (st'.map (am_rn ρ)); rw [List.length_map] at this; omega) (by omega) (by omega) fun H' locs' hR' hS' => ?_
      have hve := am_vs_ext he hv.2
      have hW := hX C' (H := H') (locs := locs') (cells := cells + 1) (slots := slots + n) (ls := ls) (ρ0 := ρ0) (al0 := al0) (args := args) (below := below) ⟨hS', hR', am_rl_ext he hL, ⟨Or.inl rfl, hve.1⟩, ⟨by omega, by omega, hrm.2.2⟩, hext.trans he⟩
      rw [List.map_cons, hve.2] at hW
      have e9 : am_rn (am_ra ρ b H.size) (.ref b) = .ref H.size := by simp [am_rn, am_ra]
      rw [e9] at hW
      exact hW
    obtain ⟨h900, hlen9, ⟨a, hlast, hTY⟩, Rq, mc, ms, dd, hrest4, hEl, hEk, h1, h2, h3, h4, h5, h6⟩ := hs
    dsimp only at h900 hlen9 hlast hTY hrest4 hEl hEk h4 h5 h6 hlk
    obtain ⟨hh, hcal, hcx, ho10, hcls, hdesc, hlink, hinst, hsel⟩ := hlk.2 h900
    obtain ⟨As, e1, e2⟩ := am_take hlast
    rw [e1] at h4 hEl hEk
    have hlenA : As.length + 1 = am_na r1 := by
      have := congrArg List.length e1
      rw [List.length_reverse, List.length_take, List.length_cons] at this
      omega
    generalize st.drop (am_na r1) = rst at e2 hrest4 h5
    have h5 : ∀ (v : Option Value) (B' : Nat) (I' : am_I) (P' : am_P) (G' : am_G), Rq (.inl v) B' I' P' G' → am_Snd l D tc sz0 b0 m (pc + 3) L (v.toList ++ rst) B' I' P' G' (k - mc) (sl - ms) d Q := fun v B' I' P' G' hq => by obtain ⟨B2, hb2, hx2⟩ := h5 v B' I' P' G' hq; exact am_Snd_B hx2 hb2
    subst e2
    obtain ⟨hvA, hva, hvr⟩ := am_vs_app.mp hv
    have hvA := am_vs_rev.mp hvA
    have hM := am_met (ρ := ρ) hcx h4 (As := .ref a :: As) ⟨hva, hvA⟩ hEl hEk
    have hrecv : ∃ cellB : Cell, H[ρ a]? = some cellB ∧ cellB.vm.isStatics = false ∧ s0.vm.findClass (am_C (am_own r1)) = some cellB.cls := by
      have ho10' : am_own r1 < 10 := ho10
      have f2 := hR.at hva (by rw [hTY]; omega)
      rw [am_E_o (by rw [hTY]; exact ho10), hTY] at f2
      obtain ⟨r', hr', cellV, g1, g2, g3, -⟩ := f2
      exact ⟨cellV, g1, by rw [g3]; rfl, by rw [g2]; exact (hK.1 _ _ (am_cl_at ho10)).2.1⟩
    have hn : (parseMethodDescriptor (am_y r1).desc).map (fun d => d.parameters.length) = some As.length := by
      cases hp : parseMethodDescriptor (am_y r1).desc with
      | none => rw [hp] at hdesc; cases hdesc
      | some sg => rw [hp] at hdesc; simp at hdesc ⊢; omega
    have hr := vx_runV (l := l) (rest := rst.map (am_rn ρ)) (g := F0 mid pc ls ((As.reverse ++ .ref a :: rst).map (am_rn ρ))) (Ts := []) (args := args) (below := below) (locs := locs) (cells := cells) (slots := slots) (H := H) (C := am_C (am_own r1)) (b := ρ a) (As := As.map (am_rn ρ)) (e := e) (meth := meth)
      ⟨hx, hb, hml, hown, fun _ h => nomatch h⟩ hM ⟨am_callB (args := args) hG.1 hh hcal hcx hn hlink h3 hrm.2.2.1 hrm.2.2.2, hG.1 args _ hinst rfl, by rw [← hcls]; exact hG.1 args _ hsel rfl⟩ ⟨am_Pc_blind, hrecv, am_PcU (As := .ref a :: As) hG hS hR⟩ rfl (by simp) (hL.1.1.trans hL.2.2.2)
      (by simp [am_rn]) (by rw [am_mon]; have := am_cats (rst.map (am_rn ρ)); rw [List.length_map] at this; omega) hd ⟨by omega, by omega⟩
    refine am_goon C' hS hL hvr hrm hext h1 h2 hr h5 fun x B' I' P' G' ρ' al' H' locs' q ce hx5 hQ hS' hR' hext' hce hcv hcl => am_thr C' hm0 hx5 ?_ hS' hR' hext' hce hcv hcl (by omega) (by omega)
    have := h6 x B' I' P' G' hQ
    rw [am_hd_none hm0] at this
    exact this
  case invokespecial i =>
    intro p e R s0 mid args below meth c H locs cells slots ρ al ls ρ0 al0 C V
    have C' := C
    obtain ⟨hx, hb, hml, hrt, hown, hlocks, hname, htab, hG⟩ := C
    obtain ⟨hS, hR, hL, hv, hrm, hext⟩ := V
    have hK := hG.2.2.1
    have hl : len = 3 := hlen (show (3 : Nat) ≠ 0 by decide)
    subst hl
    rcases hs with ⟨h900, a, st', rfl, hlen8, hX⟩ | ⟨h900, hlen9, ⟨a, hlast⟩, Rq, mc, ms, dd, hrest4, hEl, hEk, h1, h2, h3, h4, h5, h6⟩
    · obtain ⟨k1, k2, k3⟩ := hlk.1 h900
      refine W.objInit hx hb hown (hG.1 args _ k1 rfl) (hG.1 args _ k2 rfl) (hG.1 args _ k3 rfl) rfl (am_rl_nL C' hL).symm rfl hd (by omega) ?_ (hX C' ⟨hS, hR, hL, hv.2, hrm, hext⟩)
      · rw [am_mon]; have := am_cats (st'.map (am_rn ρ)); rw [List.length_map] at this; omega
    dsimp only at h900 hlen9 hlast hrest4 hEl hEk h4 h5 h6 hlk
    obtain ⟨hh, hcal, hcx, hrt9, hnm, hdesc, hlink, hinst⟩ := hlk.2 h900
    obtain ⟨As, e1, e2⟩ := am_take hlast
    rw [e1] at h4 hEl hEk
    have hlenA : As.length + 1 = am_na r1 := by
      have := congrArg List.length e1
      rw [List.length_reverse, List.length_take, List.length_cons] at this
      omega
    generalize st.drop (am_na r1) = rst at e2 hrest4 h5
    have h5 : ∀ (v : Option Value) (B' : Nat) (I' : am_I) (P' : am_P) (G' : am_G), Rq (.inl v) B' I' P' G' → am_Snd l D tc sz0 b0 m (pc + 3) L (v.toList ++ rst) B' I' P' G' (k - mc) (sl - ms) d Q := fun v B' I' P' G' hq => by obtain ⟨B2, hb2, hx2⟩ := h5 v B' I' P' G' hq; exact am_Snd_B hx2 hb2
    subst e2
    obtain ⟨hvA, hva, hvr⟩ := am_vs_app.mp hv
    have hvA := am_vs_rev.mp hvA
    have hM := am_met (ρ := ρ) hcx h4 (As := .ref a :: As) ⟨hva, hvA⟩ hEl hEk
    have hn : (parseMethodDescriptor (am_y r1).desc).map (fun d => d.parameters.length) = some As.length := by
      cases hp : parseMethodDescriptor (am_y r1).desc with
      | none => rw [hp] at hdesc; cases hdesc
      | some sg => rw [hp] at hdesc; simp at hdesc ⊢; omega
    have hc9 : Jvm.Cond.code (am_y r1) (am_by r1) (am_nL r1) none ∈ lw_tbl := by
      rcases hcal with ⟨_, h2⟩ | ⟨h1, _⟩
      · rw [← hrt9]; exact h2
      · exact absurd hh h1
    have hfin : ∀ (Rq' : vx_Run p l e R s0 mid args below meth c H locs cells slots mc ms (F0 mid pc ls ((As.reverse ++ .ref a :: rst).map (am_rn ρ))) (rst.map (am_rn ρ)) (am_Qc D tc sz0 b0 Rq ρ al (Value.ref (ρ a) :: As.map (am_rn ρ)).toArray) (am_XC D tc sz0 b0 Rq ρ al) (am_A sz0)), W p l e R s0 mid args below meth c H locs cells slots (vx_MQ below (am_Qc D tc sz0 b0 Q ρ0 al0) (am_XC D tc sz0 b0 Q ρ0 al0) args s0 R.cells R.slots (am_A sz0)) (F0 mid pc ls ((As.reverse ++ .ref a :: rst).map (am_rn ρ))) := by
      intro hr
      refine am_goon C' hS hL hvr hrm hext h1 h2 hr h5 fun x B' I' P' G' ρ' al' H' locs' q ce hx5 hQ hS' hR' hext' hce hcv hcl => am_thr C' hm0 hx5 ?_ hS' hR' hext' hce hcv hcl (by omega) (by omega)
      have := h6 x B' I' P' G' hQ
      rw [am_hd_none hm0] at this
      exact this
    have hsum : 2 * (F0 mid pc ls ((As.reverse ++ .ref a :: rst).map (am_rn ρ))).monitorRoom + ((rst.map (am_rn ρ)).map fun v => v.category).sum ≤ 8 := by
      rw [am_mon]; have := am_cats (rst.map (am_rn ρ)); rw [List.length_map] at this; omega
    rcases hlink with hlink | ⟨host, hlink⟩
    · have hB := am_callB (args := args) (R := R) (mc := mc) (ms := ms) hG.1 hh hcal hcx hn hlink h3 hrm.2.2.1 hrm.2.2.2
      rw [hrt9] at hB
      exact hfin (vx_runI (l := l) (rest := rst.map (am_rn ρ)) (g := F0 mid pc ls ((As.reverse ++ .ref a :: rst).map (am_rn ρ))) (Ts := []) (args := args) (below := below) (locs := locs) (cells := cells) (slots := slots) (H := H) (b := ρ a) (As := As.map (am_rn ρ)) (e := e) (meth := meth)
        ⟨hx, hb, hml, hown, fun _ h => nomatch h⟩ hM ⟨hB, hnm, hG.1 args _ hinst rfl⟩ ⟨am_Pc_blind, am_PcU (As := .ref a :: As) hG hS hR⟩ rfl (by simp) (hL.1.1.trans hL.2.2.2)
        (by simp [am_rn]) hsum hd ⟨by omega, by omega⟩)
    · have hB : va_CN R s0 args (am_y m).cls i (am_y r1) host (am_by r1) (am_nL r1) none (am_wsy r1) (am_rm mc ms dd) mc ms As.length := by
        refine ⟨⟨rfl, rfl, by simp only [am_rm]; omega, ?_, am_pay hG.1 hcal, by unfold am_wsy; rw [if_pos hh, hrt9]; exact List.mem_cons_self⟩, hG.1 args _ hc9 rfl, hG.1 args _ hcx.1 rfl, ⟨hcx.2.1, hcx.2.2.1⟩, fun sig h => ?_, hG.1 args _ hlink rfl⟩
        · have h20 : am_nL r1 ≤ 21 := hcx.2.2.2.1
          simp only [am_rm]
          omega
        · rw [h] at hn
          exact (Option.some.inj hn).symm
      exact hfin (vx_runIN (l := l) (rest := rst.map (am_rn ρ)) (g := F0 mid pc ls ((As.reverse ++ .ref a :: rst).map (am_rn ρ))) (Ts := []) (args := args) (below := below) (locs := locs) (cells := cells) (slots := slots) (H := H) (b := ρ a) (As := As.map (am_rn ρ)) (e := e) (meth := meth)
        ⟨hx, hb, hml, hown, fun _ h => nomatch h⟩ hM ⟨hB, hnm, hG.1 args _ hinst rfl⟩ ⟨am_Pc_blind, am_PcU (As := .ref a :: As) hG hS hR⟩ rfl (by simp) (hL.1.1.trans hL.2.2.2)
        (by simp [am_rn]) hsum hd ⟨by omega, by omega⟩)
  case invokestatic i =>
    intro p e R s0 mid args below meth c H locs cells slots ρ al ls ρ0 al0 C V
    have C' := C
    have V' := V
    obtain ⟨hx, hb, hml, hrt, hown, hlocks, hname, htab, hG⟩ := C
    obtain ⟨hS, hR, hL, hv, hrm, hext⟩ := V
    have hK := hG.2.2.1
    have hl : len = 3 := hlen (show (3 : Nat) ≠ 0 by decide)
    subst hl
    rcases hs with ⟨h9, x, y, st', rfl, h8, hX⟩ | ⟨h9, x, y, st', rfl, h8, hX⟩ | ⟨h9, _⟩ | ⟨h9, _⟩ | ⟨h9, _⟩ | ⟨h900, hlen9, Rq, mc, ms, dd, hrest4, hEl, hEk, h1, h2, h3, h4, h5, h6⟩
    · obtain ⟨k1, k2, k3, k4⟩ := hlk.1 h9
      exact va_mmax hx hb (am_rl_nL C' hL) hown (hG.1 args _ k1 rfl) (hG.1 args _ k2 rfl) (hG.1 args _ k3 rfl) (hG.1 args _ k4 rfl) (by omega) (by have := am_cats (st'.map (am_rn ρ)); rw [List.length_map] at this; omega) (by omega) (by omega) hd (hX C' ⟨hS, hR, hL, ⟨trivial, hv.2.2⟩, hrm, hext⟩)
    · obtain ⟨k1, k2, k3, k4⟩ := hlk.2.1 h9
      exact va_mmin hx hb (am_rl_nL C' hL) hown (hG.1 args _ k1 rfl) (hG.1 args _ k2 rfl) (hG.1 args _ k3 rfl) (hG.1 args _ k4 rfl) (by omega) (by have := am_cats (st'.map (am_rn ρ)); rw [List.length_map] at this; omega) (by omega) (by omega) hd (hX C' ⟨hS, hR, hL, ⟨trivial, hv.2.2⟩, hrm, hext⟩)
    · exact hrest (by have h9' : r1 = 903 := h9; omega) C' V'
    · exact hrest (by have h9' : r1 = 904 := h9; omega) C' V'
    · exact hrest (by have h9' : r1 = 906 := h9; omega) C' V'
    dsimp only at h900 hlen9 hrest4 hEl hEk h4 h5 h6 hlk
    obtain ⟨hcal, hcx, hdesc, hlink, hstat⟩ := hlk.2.2.1 h900
    have e2 : st = (st.take (am_na r1)).reverse.reverse ++ st.drop (am_na r1) := by rw [List.reverse_reverse]; exact (List.take_append_drop _ st).symm
    have hlenA : (st.take (am_na r1)).reverse.length = am_na r1 := by
      rw [List.length_reverse, List.length_take]; omega
    generalize (st.take (am_na r1)).reverse = As at e2 h4 hEl hEk hlenA
    generalize st.drop (am_na r1) = rst at e2 hrest4 h5
    have h5 : ∀ (v : Option Value) (B' : Nat) (I' : am_I) (P' : am_P) (G' : am_G), Rq (.inl v) B' I' P' G' → am_Snd l D tc sz0 b0 m (pc + 3) L (v.toList ++ rst) B' I' P' G' (k - mc) (sl - ms) d Q := fun v B' I' P' G' hq => by obtain ⟨B2, hb2, hx2⟩ := h5 v B' I' P' G' hq; exact am_Snd_B hx2 hb2
    subst e2
    obtain ⟨hvA, hvr⟩ := am_vs_app.mp hv
    have hvA := am_vs_rev.mp hvA
    have hM := am_met (ρ := ρ) hcx h4 (As := As) hvA hEl hEk
    have hn : (parseMethodDescriptor (am_y r1).desc).map (fun d => d.parameters.length) = some As.length := by rw [hlenA]; exact hdesc
    have hsum : 2 * (F0 mid pc ls ((As.reverse ++ rst).map (am_rn ρ))).monitorRoom + ((rst.map (am_rn ρ)).map fun v => v.category).sum ≤ 8 := by
      rw [am_mon]; have := am_cats (rst.map (am_rn ρ)); rw [List.length_map] at this; omega
    have hr : vx_Run p l e R s0 mid args below meth c H locs cells slots mc ms (F0 mid pc ls ((As.reverse ++ rst).map (am_rn ρ))) (rst.map (am_rn ρ)) (am_Qc D tc sz0 b0 Rq ρ al (As.map (am_rn ρ)).toArray) (am_XC D tc sz0 b0 Rq ρ al) (am_A sz0) := by
      by_cases hh : am_hh r1 = []
      · exact vx_runS (l := l) (rest := rst.map (am_rn ρ)) (g := F0 mid pc ls ((As.reverse ++ rst).map (am_rn ρ))) (Ts := []) (args := args) (below := below) (locs := locs) (cells := cells) (slots := slots) (H := H) (As := As.map (am_rn ρ)) (e := e) (meth := meth)
          ⟨hx, hb, hml, hown, fun _ h => nomatch h⟩ hM ⟨am_callB (args := args) hG.1 hh hcal hcx hn hlink h3 hrm.2.2.1 hrm.2.2.2, hG.1 args _ hstat rfl⟩ ⟨am_Pc_blind, am_PcU (As := As) hG hS hR⟩ rfl (by simp) (hL.1.1.trans hL.2.2.2)
          (by simp) hsum hd ⟨by omega, by omega⟩
      · have hcw : Jvm.Cond.codeWith (am_y r1) (am_by r1) (am_nL r1) (am_rt r1) (am_hh r1) ∈ lw_tbl := by
          rcases hcal with ⟨h1, _⟩ | ⟨_, h2⟩
          · exact absurd h1 hh
          · exact h2
        refine vx_runSX (l := l) (hh := am_hh r1) (rest := rst.map (am_rn ρ)) (g := F0 mid pc ls ((As.reverse ++ rst).map (am_rn ρ))) (Ts := []) (args := args) (below := below) (locs := locs) (cells := cells) (slots := slots) (H := H) (As := As.map (am_rn ρ)) (e := e) (meth := meth) (n := As.length)
          ⟨hx, hb, hml, hown, fun _ h => nomatch h⟩ hM ⟨⟨rfl, rfl, by simp only [am_rm]; omega, ?_, am_pay hG.1 hcal, by unfold am_wsy; rw [if_neg hh]; exact List.mem_cons_self⟩, hG.1 args _ hcw rfl, hG.1 args _ hcx.1 rfl, ⟨hcx.2.1, hcx.2.2.1⟩, fun sig h => ?_, hG.1 args _ hlink rfl, hG.1 args _ hstat rfl⟩ ⟨am_Pc_blind, am_PcU (As := As) hG hS hR⟩ rfl (by simp) (hL.1.1.trans hL.2.2.2)
          (by simp) hsum hd ⟨by omega, by omega⟩
        · have h20 : am_nL r1 ≤ 21 := hcx.2.2.2.1
          simp only [am_rm]
          omega
        · rw [h] at hn
          exact (Option.some.inj hn).symm
    refine am_goon C' hS hL hvr hrm hext h1 h2 hr h5 fun x B' I' P' G' ρ' al' H' locs' q ce hx5 hQ hS' hR' hext' hce hcv hcl => am_thr C' hm0 hx5 ?_ hS' hR' hext' hce hcv hcl (by omega) (by omega)
    have := h6 x B' I' P' G' hQ
    rw [am_hd_none hm0] at this
    exact this
  all_goals exact hcase.elim
end SW
