/-! SOUNDNESS: a call in a world of its own -/
section FR
variable {l : Launch} {D : va_G} {tc : Nat → ClassId} {b0 : Nat}
theorem am_hh228 : am_hh 228 = [] := by decide +kernel
theorem am_goonF {sz0 : Nat} {p : Program} {e : Env} {R : Room} {s0 : State} {mid : MethodId} {args : Array Value} {below : List Frame} {meth : Method} {c : Code} {H : Heap} {locs : List Loc} {cells slots : Nat} {ρ : Nat → Nat} {al : Nat → Prop} {ls : Array Slot} {ρ0 : Nat → Nat} {al0 : Nat → Prop} {ρ1 : Nat → Nat} {al1 : Nat → Prop}
    {m pc : Nat} {L : List (Option Value)} {B : Nat} {I : am_I} {P : am_P} {G : am_G} {k sl d : Nat} {Q : am_Q} {st0 rst : List Value} {a : Array Value} {mc ms : Nat} {Rq : am_Q} (C : am_Ctx D tc sz0 b0 m Q p e R s0 mid meth c) (hS : va_S (am_A sz0) s0.heap H locs) (hR : am_R D tc sz0 b0 ρ al B I P G H) (hz : sz0 ≤ s0.heap.size) (hL : am_rl m ρ al L ls) (hv : am_vs al rst) (hrm : cells + k ≤ R.cells ∧ slots + sl ≤ R.slots ∧ d + 8 ≤ R.frames ∧ (d + 8) * 100 ≤ R.locals) (hext : am_ext ρ0 al0 ρ al) (hmc : mc ≤ k) (hms : ms ≤ sl)
    (hr : vx_Run p l e R s0 mid args below meth c H locs cells slots mc ms (F0 mid pc ls st0) (rst.map (am_rn ρ)) (am_Qc D tc H.size b0 Rq ρ1 al1 a) (am_XC D tc H.size b0 Rq ρ1 al1) (am_A H.size))
    (h5 : ∀ (v : Option Value) (B' : Nat) (I' : am_I) (P' : am_P) (G' : am_G), Rq (.inl v) B' I' P' G' → ∃ x, v = some (.int x) ∧ am_Snd l D tc sz0 b0 m (pc + 3) L (.int x :: rst) B I P G (k - mc) (sl - ms) d Q)
    (h6 : ∀ (x B' : Nat) (I' : am_I) (P' : am_P) (G' : am_G), ¬ Rq (.inr x) B' I' P' G') :
    W p l e R s0 mid args below meth c H locs cells slots (vx_MQ below (am_Qc D tc sz0 b0 Q ρ0 al0) (am_XC D tc sz0 b0 Q ρ0 al0) args s0 R.cells R.slots (am_A sz0)) (F0 mid pc ls st0) := by
  intro T hT X
  rcases hr T hT X with ⟨v, st₀, t, T', L', h0, X', hL', e1, e2, hq, st⟩ | ⟨q, st₀, t, T', L', E, ce, h0, X', hL', e1, e2, hq, hce, hcv, hcl, st⟩
  · obtain ⟨v0, ρ', al', B', I', P', G', ho, hvs', hQ, hR', hext', hF⟩ := hq
    cases ho
    have hsz : sz0 ≤ H.size := Nat.le_trans hz hS.1
    obtain ⟨k1, k2, k3⟩ := vx_keep h0 e1 hS (fun q _ (h : H.size ≤ q) => (Nat.le_trans hsz h : sz0 ≤ q)) (fun q (h : H.size ≤ q) => (Nat.le_trans hsz h : sz0 ≤ q)) hL' hF
    obtain ⟨x, rfl, hX⟩ := h5 v0 B' I' P' G' hQ
    have hW := hX C (H := T'.heap) (locs := locs ++ L') (cells := cells + mc) (slots := slots + ms) (ls := ls) (ρ0 := ρ0) (al0 := al0) (args := args) (below := below)
      ⟨k3, hR.kept (fun q hq => k2 q hq (Nat.not_le.mpr hq)), hL, ⟨trivial, hv⟩, ⟨by omega, by omega, hrm.2.2⟩, hext⟩
    obtain ⟨t2, a1, b1⟩ := hW T' rfl X'
    exact ⟨t2, st t2 a1, b1⟩
  · obtain ⟨x, ρ', al', B', I', P', G', hx5, hE, hQ, hR', hext', hF⟩ := hq
    exact absurd hQ (h6 _ _ _ _ _)
set_option maxHeartbeats 4000000 in
theorem am_sndF {m pc ix len r2 : Nat} (hk0 : am_okE m pc (.invokestatic ix, len, 906, r2)) {L : List (Option Value)} {st : List Value} {B : Nat} {I : am_I} {P : am_P} {G : am_G} {k sl d : Nat} {Q : am_Q} (hs : am_St (fun m pc L st B I P G k sl d Q => ∀ sz : Nat, am_Snd l D tc sz b0 m pc L st B I P G k sl d Q) (.invokestatic ix, len, 906, r2) m pc L st B I P G k sl d Q) (sz0 : Nat) : am_Snd l D tc sz0 b0 m pc L st B I P G k sl d Q := by
  obtain ⟨hd, hlen, hlk⟩ := hk0
  dsimp only at hd hlen hlk
  intro p e R s0 mid args below meth c H locs cells slots ρ al ls ρ0 al0 C V
  have C' := C
  obtain ⟨hx, hb, hml, hrt, hown, hlocks, hname, htab, hG⟩ := C
  obtain ⟨hS, hR, hL, hv, hrm, hext⟩ := V
  have hK := hG.2.2.1
  have hl : len = 3 := hlen (show (3 : Nat) ≠ 0 by decide)
  subst hl
  rcases hs with ⟨h9, _⟩ | ⟨h9, _⟩ | ⟨h9, _⟩ | ⟨h9, _⟩ | ⟨-, hlen9, Rq, mc, ms, dd, hrest4, hEl, hEk, h1, h2, h3, hA, h4, h5, h6⟩ | ⟨h9, _⟩
  · cases (show (906 : Nat) = 901 from h9)
  · cases (show (906 : Nat) = 902 from h9)
  · cases (show (906 : Nat) = 903 from h9)
  · cases (show (906 : Nat) = 904 from h9)
  · dsimp only at hlen9 hrest4 hEl hEk hA h4 h5 h6 hlk
    obtain ⟨hm228, hh, hcal, hcx, hdesc, hlink, hstat⟩ := hlk.2.2.2.2.2 rfl
    have e2 : st = (st.take (am_na r2)).reverse.reverse ++ st.drop (am_na r2) := by rw [List.reverse_reverse]; exact (List.take_append_drop _ st).symm
    have hlenA : (st.take (am_na r2)).reverse.length = am_na r2 := by
      rw [List.length_reverse, List.length_take]; omega
    generalize (st.take (am_na r2)).reverse = As at e2 h4 hEl hEk hlenA hA
    generalize st.drop (am_na r2) = rst at e2 hrest4 h5
    subst e2
    obtain ⟨hvA, hvr⟩ := am_vs_app.mp hv
    have hvA := am_vs_rev.mp hvA
    have hsz : sz0 ≤ H.size := Nat.le_trans hG.2.2.2.1 hS.1
    obtain ⟨al1, hal1⟩ : ∃ al1 : Nat → Prop, al1 = fun a => al a ∧ (a = 9 ∨ (a % 4096 = 4000 ∧ 4096 ≤ a)) := ⟨_, rfl⟩
    have hT18 : ∀ a, a % 4096 = 4000 → 4096 ≤ a → 18 ≤ (am_TY a).1 := fun a q1 q2 => by
      unfold am_TY
      rw [if_neg (by omega), q1]
      simp [am_tl]
    have hT : ∀ a, al1 a → 18 ≤ (am_TY a).1 := fun a ha => by
      rw [hal1] at ha
      rcases ha.2 with rfl | ⟨q1, q2⟩
      · rw [TY9]; decide
      · exact hT18 a q1 q2
    have hvA1 : am_vs al1 As := am_vs_mem.mpr fun v hv => by
      obtain ⟨r, rfl, q1, q2⟩ := hA v hv
      have := am_vs_mem.mp hvA _ hv
      rw [hal1]
      exact ⟨this, Or.inr ⟨q1, q2⟩⟩
    have hR1 : am_R D tc H.size b0 ρ al1 10 I (fun _ _ => none) G H := by
      refine ⟨fun a ha => ?_, fun a b ha hb => ?_, (fun a k r _ h => by cases h), ?_, hR.2.2.2.2⟩
      · have h18 := hT a ha
        have ha' : al a := by rw [hal1] at ha; exact ha.1
        refine ⟨(hR.1 a ha').1, ?_, ?_, Or.inr h18⟩
        · have := (hR.1 a ha').2.1
          unfold am_cell at this ⊢
          rw [if_pos h18] at this ⊢
          exact this
        · rw [hal1] at ha
          rcases ha.2 with rfl | ⟨q1, q2⟩
          · exact Or.inl (by omega)
          · exact Or.inr q1
      · rw [hal1] at ha hb
        exact hR.2.1 a b ha.1 hb.1
      · rw [hal1]; exact ⟨hR.2.2.2.1, Or.inl rfl⟩
    have hM := am_met (D := D) (tc := tc) (sz0 := H.size) (b0 := b0) (ρ := ρ) hcx (h4 H.size) (As := As) hvA1 hEl hEk
    have hPc : ∀ U : State, U.heap = H → s0.WarmedH U.vm → am_Pc D tc H.size b0 ρ al1 As 10 I (fun _ _ => none) G (As.map (am_rn ρ)).toArray U := by
      intro U hU hW
      refine ⟨rfl, ?_, by rw [hU]; exact hR1⟩
      rw [hU]
      exact (hG.moved hW hS.1 hS.2.1).up hsz (Nat.le_refl _)
    have hn : (parseMethodDescriptor (am_y r2).desc).map (fun d => d.parameters.length) = some As.length := by rw [hlenA]; exact hdesc
    have hsum : 2 * (F0 mid pc ls ((As.reverse ++ rst).map (am_rn ρ))).monitorRoom + ((rst.map (am_rn ρ)).map fun v => v.category).sum ≤ 8 := by
      rw [am_mon]; have := am_cats (rst.map (am_rn ρ)); rw [List.length_map] at this; omega
    have hr : vx_Run p l e R s0 mid args below meth c H locs cells slots mc ms (F0 mid pc ls ((As.reverse ++ rst).map (am_rn ρ))) (rst.map (am_rn ρ)) (am_Qc D tc H.size b0 Rq ρ al1 (As.map (am_rn ρ)).toArray) (am_XC D tc H.size b0 Rq ρ al1) (am_A H.size) :=
      vx_runS (l := l) (rest := rst.map (am_rn ρ)) (g := F0 mid pc ls ((As.reverse ++ rst).map (am_rn ρ))) (Ts := []) (args := args) (below := below) (locs := locs) (cells := cells) (slots := slots) (H := H) (As := As.map (am_rn ρ)) (e := e) (meth := meth)
        ⟨hx, hb, hml, hown, fun _ h => nomatch h⟩ hM ⟨am_callB (args := args) hG.1 hh hcal hcx hn hlink h3 hrm.2.2.1 hrm.2.2.2, hG.1 args _ hstat rfl⟩ ⟨am_Pc_blind, hPc⟩ rfl (by simp) (hL.1.1.trans hL.2.2.2)
        (by simp) hsum hd ⟨by omega, by omega⟩
    exact am_goonF C' hS hR hG.2.2.2.1 hL hvr hrm hext h1 h2 hr (fun v B' I' P' G' hq => by obtain ⟨x, e1, e2⟩ := h5 v B' I' P' G' hq; exact ⟨x, e1, e2 sz0⟩) h6
  · exact absurd (show (906 : Nat) < 900 from h9) (by decide)
end FR
