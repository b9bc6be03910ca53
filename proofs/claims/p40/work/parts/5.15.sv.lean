/-! SOUNDNESS: behind a call -/
section SV
variable {l : Launch} {D : va_G} {tc : Nat → ClassId} {sz0 b0 : Nat}
variable {p : Program} {e : Env} {R : Room} {s0 : State} {mid : MethodId} {args : Array Value} {below : List Frame} {meth : Method} {c : Code} {H : Heap} {locs : List Loc} {cells slots : Nat} {ρ : Nat → Nat} {al : Nat → Prop} {ls : Array Slot} {ρ0 : Nat → Nat} {al0 : Nat → Prop}
variable {m pc : Nat} {L : List (Option Value)} {B : Nat} {I : am_I} {P : am_P} {G : am_G} {k sl d : Nat} {Q : am_Q}
theorem am_rl_nL (C : am_Ctx D tc sz0 b0 m Q p e R s0 mid meth c) (hL : am_rl m ρ al L ls) : c.maxLocals = ls.size := by
  rw [hL.1.1, hL.2.2.2]; exact C.2.2.1
theorem am_goon {st0 rst : List Value} {a : Array Value} {mc ms : Nat} {Rq : am_Q} (C : am_Ctx D tc sz0 b0 m Q p e R s0 mid meth c) (hS : va_S (am_A sz0) s0.heap H locs) (hL : am_rl m ρ al L ls) (hv : am_vs al rst) (hrm : cells + k ≤ R.cells ∧ slots + sl ≤ R.slots ∧ d + 8 ≤ R.frames ∧ (d + 8) * 100 ≤ R.locals) (hext : am_ext ρ0 al0 ρ al) (hmc : mc ≤ k) (hms : ms ≤ sl)
    (hr : vx_Run p l e R s0 mid args below meth c H locs cells slots mc ms (F0 mid pc ls st0) (rst.map (am_rn ρ)) (am_Qc D tc sz0 b0 Rq ρ al a) (am_XC D tc sz0 b0 Rq ρ al) (am_A sz0))
    (h5 : ∀ (v : Option Value) (B' : Nat) (I' : am_I) (P' : am_P) (G' : am_G), Rq (.inl v) B' I' P' G' → am_Snd l D tc sz0 b0 m (pc + 3) L (v.toList ++ rst) B' I' P' G' (k - mc) (sl - ms) d Q)
    (h6 : ∀ (x : Nat) (B' : Nat) (I' : am_I) (P' : am_P) (G' : am_G) (ρ' : Nat → Nat) (al' : Nat → Prop) (H' : Heap) (locs' : List Loc) (q : Addr) (ce : Cell), x < 5 → Rq (.inr x) B' I' P' G' → va_S (am_A sz0) s0.heap H' locs' → am_R D tc sz0 b0 ρ' al' B' I' P' G' H' → am_ext ρ0 al0 ρ' al' → H'[q]? = some ce → ce.vm = .none → s0.vm.findClass (am_exn x) = some ce.cls →
      vx_W p l e R s0 mid args below meth c H' locs' (cells + mc) (slots + ms) (vx_MQ below (am_Qc D tc sz0 b0 Q ρ0 al0) (am_XC D tc sz0 b0 Q ρ0 al0) args s0 R.cells R.slots (am_A sz0)) (F0 mid pc ls (rst.map (am_rn ρ))) q) :
    W p l e R s0 mid args below meth c H locs cells slots (vx_MQ below (am_Qc D tc sz0 b0 Q ρ0 al0) (am_XC D tc sz0 b0 Q ρ0 al0) args s0 R.cells R.slots (am_A sz0)) (F0 mid pc ls st0) := by
  intro T hT X
  rcases hr T hT X with ⟨v, st₀, t, T', L', h0, X', hL', e1, e2, hq, st⟩ | ⟨q, st₀, t, T', L', E, ce, h0, X', hL', e1, e2, hq, hce, hcv, hcl, st⟩
  · obtain ⟨v0, ρ', al', B', I', P', G', ho, hvs', hQ, hR', hext', hF⟩ := hq
    cases ho
    obtain ⟨k1, k2, k3⟩ := vx_keep h0 e1 hS (fun _ _ h => h) (fun _ h => h) hL' hF
    have hve := am_vs_ext hext' hv
    have hW := h5 v0 B' I' P' G' hQ C (H := T'.heap) (locs := locs ++ L') (cells := cells + mc) (slots := slots + ms) (ls := ls) (ρ0 := ρ0) (al0 := al0) (args := args) (below := below)
      ⟨k3, by rw [e1]; exact hR', am_rl_ext hext' hL, am_vs_app.mpr ⟨hvs', hve.1⟩, ⟨by omega, by omega, hrm.2.2⟩, hext.trans hext'⟩
    obtain ⟨t2, a1, b1⟩ := hW T' rfl X'
    have hst : (v0.toList ++ rst).map (am_rn ρ') = (v0.map (am_rn ρ')).toList ++ rst.map (am_rn ρ) := by
      rw [List.map_append, hve.2]
      cases v0 <;> rfl
    rw [hst] at a1
    exact ⟨t2, st t2 a1, b1⟩
  · obtain ⟨x, ρ', al', B', I', P', G', hx5, hE, hQ, hR', hext', hF⟩ := hq
    subst hE
    obtain ⟨k1, k2, k3⟩ := vx_keep h0 e1 hS (fun _ _ h => h) (fun _ h => h) hL' hF
    obtain ⟨t2, a1, b1⟩ := h6 x B' I' P' G' ρ' al' T'.heap (locs ++ L') q ce hx5 hQ k3 (by rw [e1]; exact hR') (hext.trans hext') (by rw [e1]; exact hce) hcv hcl T' rfl X'
    exact ⟨t2, st.trans a1, b1⟩
/-- not caught: no table here -/
theorem am_thr {x : Nat} {B' : Nat} {I' : am_I} {P' : am_P} {G' : am_G} {ρ' : Nat → Nat} {al' : Nat → Prop} {H' : Heap} {locs' : List Loc} {q : Addr} {ce : Cell} {rest : List Value} (C : am_Ctx D tc sz0 b0 m Q p e R s0 mid meth c) (hh : am_hh m = []) (hx5 : x < 5) (hQ : Q (.inr x) B' I' P' G') (hS : va_S (am_A sz0) s0.heap H' locs') (hR : am_R D tc sz0 b0 ρ' al' B' I' P' G' H') (hext : am_ext ρ0 al0 ρ' al') (hce : H'[q]? = some ce) (hcv : ce.vm = .none) (hcl : s0.vm.findClass (am_exn x) = some ce.cls) (hc : cells ≤ R.cells) (hsl : slots ≤ R.slots) :
    vx_W p l e R s0 mid args below meth c H' locs' cells slots (vx_MQ below (am_Qc D tc sz0 b0 Q ρ0 al0) (am_XC D tc sz0 b0 Q ρ0 al0) args s0 R.cells R.slots (am_A sz0)) (F0 mid pc ls rest) q := by
  obtain ⟨hx, hb, hml, hrt, hown, hlocks, hname, htab, hG⟩ := C
  rcases htab with htab | ⟨_, hn⟩
  case inr => exact (hn _ _ _ _ _ hQ).elim
  refine vx_out (E := am_exn x) ?_ hlocks hce hcv hcl (fun t ht _ => ⟨x, ρ', al', B', I', P', G', hx5, rfl, hQ, by rw [ht]; exact hR, hext, by rw [va_F, ht]; exact ⟨hS.1, hS.2.1⟩⟩) hS.2.2 hc hsl
  rw [htab, hh]
  intro z hz
  cases hz
/-- the words of a callee -/
theorem am_pay {y : Nat} (hG : am_Gw s0) (hcal : am_cal y) : (∀ w ∈ am_wsy y, ∀ (a' : Array Value) (U : State), s0.WarmedH U.vm → w.before a' U = true) := by
  intro w hw a' U hW
  unfold am_wsy at hw
  rcases hcal with ⟨h1, h2⟩ | ⟨h1, h2⟩
  · rw [if_pos h1] at hw
    rw [List.mem_singleton.mp hw]
    exact hG.warm hW a' _ h2 rfl
  · rw [if_neg h1] at hw
    rw [List.mem_singleton.mp hw]
    exact hG.warm hW a' _ h2 rfl
theorem am_callB {y i n mc ms dd : Nat} (hG : am_Gw s0) (hh : am_hh y = []) (hcal : am_cal y) (hcx : am_calx y) (hn : (parseMethodDescriptor (am_y y).desc).map (fun d => d.parameters.length) = some n) (hlink : Jvm.Cond.methodLink (am_y m).cls i (am_y y) ∈ lw_tbl) (hdd : dd < d) (hf : d + 8 ≤ R.frames) (hlo : (d + 8) * 100 ≤ R.locals) :
    CallB R s0 args (am_y m).cls i (am_y y) (am_by y) (am_nL y) (am_rt y) (am_wsy y) (am_rm mc ms dd) mc ms n := by
  have hc : Jvm.Cond.code (am_y y) (am_by y) (am_nL y) (am_rt y) ∈ lw_tbl := by
    rcases hcal with ⟨_, h2⟩ | ⟨h1, _⟩
    · exact h2
    · exact absurd hh h1
  refine ⟨rfl, rfl, by simp only [am_rm]; omega, ?_, am_pay hG hcal, by unfold am_wsy; rw [if_pos hh]; exact List.mem_cons_self, hG args _ hc rfl, hG args _ hcx.1 rfl, ⟨hcx.2.1, hcx.2.2.1⟩, fun sig h => ?_, hG args _ hlink rfl⟩
  · have := hcx.2.2.2.1
    simp only [am_rm]
    omega
  · rw [h] at hn
    exact (Option.some.inj hn).symm
theorem am_take {st : List Value} {n : Nat} {a : Nat} (h : (st.take n).getLast? = some (.ref a)) : ∃ As, (st.take n).reverse = .ref a :: As ∧ st = As.reverse ++ .ref a :: st.drop n := by
  have h2 : (st.take n).reverse.head? = some (.ref a) := by rw [List.head?_reverse]; exact h
  cases hr : (st.take n).reverse with
  | nil => rw [hr] at h2; simp at h2
  | cons v As =>
    rw [hr] at h2
    simp at h2
    subst h2
    refine ⟨As, rfl, ?_⟩
    have h3 : st.take n = (Value.ref a :: As).reverse := by rw [← hr, List.reverse_reverse]
    calc st = st.take n ++ st.drop n := (List.take_append_drop n st).symm
      _ = As.reverse ++ .ref a :: st.drop n := by rw [h3]; simp
theorem am_PcU {As : List Value} (hG : am_Gd D tc sz0 b0 s0 s0.heap) (hS : va_S (am_A sz0) s0.heap H locs) (hR : am_R D tc sz0 b0 ρ al B I P G H) : ∀ U : State, U.heap = H → s0.WarmedH U.vm → am_Pc D tc sz0 b0 ρ al As B I P G (As.map (am_rn ρ)).toArray U := by
  intro U hU hW
  refine ⟨rfl, ?_, by rw [hU]; exact hR⟩
  rw [hU]
  exact hG.moved hW hS.1 hS.2.1
end SV
