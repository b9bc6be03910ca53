/-! SOUNDNESS: calls -/
section SU
variable {l : Launch} {D : va_G} {tc : Nat → ClassId} {sz0 b0 : Nat}
theorem am_tl_cases (q r : Nat) : am_tl q r ∈ [(18, q - 1), (5, 3), (14, 10), (14, 15), (14, 22), (14, 33), (1, 10), (10, 3), (2, 4), (0, 3), (10, 10), (15, 10), (10, r - 3900), (11, 2), (12, 4), (99, 0)] := by
  unfold am_tl
  by_cases h0 : r = 4000
  · rw [if_pos h0]; exact List.mem_cons_self
  rw [if_neg h0]
  by_cases h1 : r = 1
  · rw [if_pos h1]; exact List.mem_cons_of_mem _ (List.mem_cons_self)
  rw [if_neg h1]
  by_cases h2 : r = 2
  · rw [if_pos h2]; exact List.mem_cons_of_mem _ (List.mem_cons_of_mem _ (List.mem_cons_self))
  rw [if_neg h2]
  by_cases h3 : r = 3
  · rw [if_pos h3]; exact List.mem_cons_of_mem _ (List.mem_cons_of_mem _ (List.mem_cons_of_mem _ (List.mem_cons_self)))
  rw [if_neg h3]
  by_cases h4 : r = 4
  · rw [if_pos h4]; exact List.mem_cons_of_mem _ (List.mem_cons_of_mem _ (List.mem_cons_of_mem _ (List.mem_cons_of_mem _ (List.mem_cons_self))))
  rw [if_neg h4]
  by_cases h5 : r = 5
  · rw [if_pos h5]; exact List.mem_cons_of_mem _ (List.mem_cons_of_mem _ (List.mem_cons_of_mem _ (List.mem_cons_of_mem _ (List.mem_cons_of_mem _ (List.mem_cons_self)))))
  rw [if_neg h5]
  by_cases h6 : 200 ≤ r ∧ r < 250
  · rw [if_pos h6]; exact List.mem_cons_of_mem _ (List.mem_cons_of_mem _ (List.mem_cons_of_mem _ (List.mem_cons_of_mem _ (List.mem_cons_of_mem _ (List.mem_cons_of_mem _ (List.mem_cons_self))))))
  rw [if_neg h6]
  by_cases h7 : 300 ≤ r ∧ r < 350
  · rw [if_pos h7]; exact List.mem_cons_of_mem _ (List.mem_cons_of_mem _ (List.mem_cons_of_mem _ (List.mem_cons_of_mem _ (List.mem_cons_of_mem _ (List.mem_cons_of_mem _ (List.mem_cons_of_mem _ (List.mem_cons_self)))))))
  rw [if_neg h7]
  by_cases h8 : 401 ≤ r ∧ r < 405
  · rw [if_pos h8]; exact List.mem_cons_of_mem _ (List.mem_cons_of_mem _ (List.mem_cons_of_mem _ (List.mem_cons_of_mem _ (List.mem_cons_of_mem _ (List.mem_cons_of_mem _ (List.mem_cons_of_mem _ (List.mem_cons_of_mem _ (List.mem_cons_self))))))))
  rw [if_neg h8]
  by_cases h9 : 411 ≤ r ∧ r < 415
  · rw [if_pos h9]; exact List.mem_cons_of_mem _ (List.mem_cons_of_mem _ (List.mem_cons_of_mem _ (List.mem_cons_of_mem _ (List.mem_cons_of_mem _ (List.mem_cons_of_mem _ (List.mem_cons_of_mem _ (List.mem_cons_of_mem _ (List.mem_cons_of_mem _ (List.mem_cons_self)))))))))
  rw [if_neg h9]
  by_cases h10 : 421 ≤ r ∧ r < 425
  · rw [if_pos h10]; exact List.mem_cons_of_mem _ (List.mem_cons_of_mem _ (List.mem_cons_of_mem _ (List.mem_cons_of_mem _ (List.mem_cons_of_mem _ (List.mem_cons_of_mem _ (List.mem_cons_of_mem _ (List.mem_cons_of_mem _ (List.mem_cons_of_mem _ (List.mem_cons_of_mem _ (List.mem_cons_self))))))))))
  rw [if_neg h10]
  by_cases h11 : 431 ≤ r ∧ r < 435
  · rw [if_pos h11]; exact List.mem_cons_of_mem _ (List.mem_cons_of_mem _ (List.mem_cons_of_mem _ (List.mem_cons_of_mem _ (List.mem_cons_of_mem _ (List.mem_cons_of_mem _ (List.mem_cons_of_mem _ (List.mem_cons_of_mem _ (List.mem_cons_of_mem _ (List.mem_cons_of_mem _ (List.mem_cons_of_mem _ (List.mem_cons_self)))))))))))
  rw [if_neg h11]
  by_cases h12 : 3900 ≤ r ∧ r < 3910
  · rw [if_pos h12]; exact List.mem_cons_of_mem _ (List.mem_cons_of_mem _ (List.mem_cons_of_mem _ (List.mem_cons_of_mem _ (List.mem_cons_of_mem _ (List.mem_cons_of_mem _ (List.mem_cons_of_mem _ (List.mem_cons_of_mem _ (List.mem_cons_of_mem _ (List.mem_cons_of_mem _ (List.mem_cons_of_mem _ (List.mem_cons_of_mem _ (List.mem_cons_self))))))))))))
  rw [if_neg h12]
  by_cases h13 : r = 3911
  · rw [if_pos h13]; exact List.mem_cons_of_mem _ (List.mem_cons_of_mem _ (List.mem_cons_of_mem _ (List.mem_cons_of_mem _ (List.mem_cons_of_mem _ (List.mem_cons_of_mem _ (List.mem_cons_of_mem _ (List.mem_cons_of_mem _ (List.mem_cons_of_mem _ (List.mem_cons_of_mem _ (List.mem_cons_of_mem _ (List.mem_cons_of_mem _ (List.mem_cons_of_mem _ (List.mem_cons_self)))))))))))))
  rw [if_neg h13]
  by_cases h14 : r = 3912
  · rw [if_pos h14]; exact List.mem_cons_of_mem _ (List.mem_cons_of_mem _ (List.mem_cons_of_mem _ (List.mem_cons_of_mem _ (List.mem_cons_of_mem _ (List.mem_cons_of_mem _ (List.mem_cons_of_mem _ (List.mem_cons_of_mem _ (List.mem_cons_of_mem _ (List.mem_cons_of_mem _ (List.mem_cons_of_mem _ (List.mem_cons_of_mem _ (List.mem_cons_of_mem _ (List.mem_cons_of_mem _ (List.mem_cons_self))))))))))))))
  rw [if_neg h14]
  exact List.mem_cons_of_mem _ (List.mem_cons_of_mem _ (List.mem_cons_of_mem _ (List.mem_cons_of_mem _ (List.mem_cons_of_mem _ (List.mem_cons_of_mem _ (List.mem_cons_of_mem _ (List.mem_cons_of_mem _ (List.mem_cons_of_mem _ (List.mem_cons_of_mem _ (List.mem_cons_of_mem _ (List.mem_cons_of_mem _ (List.mem_cons_of_mem _ (List.mem_cons_of_mem _ (List.mem_cons_of_mem _ (List.mem_cons_self)))))))))))))))
theorem am_TY_N {a : Nat} (h : (am_TY a).1 < 10) : (am_TY a).2 = am_cN (am_TY a).1 ∧ (am_TY a).2 ≠ 0 := by
  unfold am_TY at h ⊢
  split at h
  · rename_i hlt
    rw [if_pos hlt]
    by_cases h2 : a < 161
    · have hall : ∀ b, b < 161 → (am_tsl.getD b (99, 0)).1 < 10 → (am_tsl.getD b (99, 0)).2 = am_cN (am_tsl.getD b (99, 0)).1 ∧ (am_tsl.getD b (99, 0)).2 ≠ 0 := by decide +kernel
      exact hall a h2 h
    · rw [List.getD_eq_getElem?_getD, List.getElem?_eq_none (by show 161 ≤ a; omega)] at h
      simp at h
  · rename_i hge
    rw [if_neg hge]
    have hm := am_tl_cases (a / 4096) (a % 4096)
    generalize am_tl (a / 4096) (a % 4096) = z at h hm
    generalize a % 4096 - 3900 = zr at hm
    simp only [List.mem_cons, List.not_mem_nil, or_false] at hm
    rcases hm with rfl | rfl | rfl | rfl | rfl | rfl | rfl | rfl | rfl | rfl | rfl | rfl | rfl | rfl | rfl | rfl
    all_goals first | exact ⟨rfl, by decide⟩ | exact absurd h (by simp)
def am_Pc (D : va_G) (tc : Nat → ClassId) (sz0 b0 : Nat) (ρ : Nat → Nat) (al : Nat → Prop) (As : List Value) (B : Nat) (I : am_I) (P : am_P) (G : am_G) : Array Value → State → Prop := fun a U => a = (As.map (am_rn ρ)).toArray ∧ am_Gd D tc sz0 b0 U U.heap ∧ am_R D tc sz0 b0 ρ al B I P G U.heap
theorem am_Pc_blind {ρ : Nat → Nat} {al : Nat → Prop} {As : List Value} {B : Nat} {I : am_I} {P : am_P} {G : am_G} : FrameBlind (am_Pc D tc sz0 b0 ρ al As B I P G) := by
  intro a U g mk h
  obtain ⟨h1, h2, h3⟩ := h
  refine ⟨h1, h2.moved (State.WarmedH.refl U) (Nat.le_refl _) (fun _ _ _ => rfl), h3⟩
theorem am_la_args {ρ : Nat → Nat} : ∀ (As : List Value) (n i : Nat), ∀ q ∈ am_la ρ (am_ex As ++ List.replicate n none) i, q ∈ lv_args i (As.map (am_rn ρ))
  | [], n, i, q, hq => by
    exfalso
    obtain ⟨j, w⟩ := q
    obtain ⟨v, k, h1, -, -⟩ := (am_la_mem _ i j w).mp hq
    simp [am_ex, List.getElem?_replicate] at h1
  | v :: As, n, i, q, hq => by
    rw [am_ex] at hq
    simp only [List.map_cons, lv_args, am_cat_rn]
    split at hq
    · rename_i hc
      rw [if_pos hc]
      simp only [List.cons_append, am_la, List.mem_cons] at hq
      rcases hq with h | h
      · exact List.mem_cons.mpr (Or.inl h)
      · exact List.mem_cons_of_mem _ (am_la_args As n (i + 1 + 1) q h)
    · rename_i hc
      rw [if_neg hc]
      simp only [List.cons_append, am_la, List.mem_cons] at hq
      rcases hq with h | h
      · exact List.mem_cons.mpr (Or.inl h)
      · exact List.mem_cons_of_mem _ (am_la_args As n (i + 1) q h)
theorem am_ex_len {ρ : Nat → Nat} : ∀ (As : List Value), (lg_sl (As.map (am_rn ρ))).length = (am_ex As).length
  | [] => rfl
  | v :: As => by
    have ih := am_ex_len (ρ := ρ) As
    simp only [lg_sl, List.map_cons, List.flatMap_cons, am_ex, am_cat_rn] at ih ⊢
    split <;> simp [ih]
theorem am_ex_mem {al : Nat → Prop} : ∀ (As : List Value) (i : Nat) (v : Value), am_vs al As → (am_ex As)[i]? = some (some v) → am_vok al v
  | [], i, v, _, h => by simp [am_ex] at h
  | u :: As, i, v, hv, h => by
    rw [am_ex] at h
    split at h
    · match i with
      | 0 => simp at h; rw [← h]; exact hv.1
      | 1 => simp at h
      | i + 2 => exact am_ex_mem As i v hv.2 (by simpa using h)
    · match i with
      | 0 => simp at h; rw [← h]; exact hv.1
      | i + 1 => exact am_ex_mem As i v hv.2 (by simpa using h)
theorem am_lck_at {id : Nat} : ∀ (L : List (Option Value)) (i j : Nat) (x : Int64), am_lck id L i → L[j]? = some (some (.long x)) → am_lp id (i + j) = true
  | [], i, j, x, _, h => by simp at h
  | none :: L, i, j, x, hk, h => by
    cases j with
    | zero => simp at h
    | succ j => have := am_lck_at L (i + 1) j x hk (by simpa using h); rw [show i + (j + 1) = i + 1 + j by omega]; exact this
  | some v :: L, i, j, x, hk, h => by
    cases j with
    | zero => simp at h; subst h; exact hk.1 rfl
    | succ j => have := am_lck_at L (i + 1) j x hk.2 (by simpa using h); rw [show i + (j + 1) = i + 1 + j by omega]; exact this
def am_rm (mc ms dd : Nat) : Room := { frames := dd + 8, cells := mc, slots := ms, locals := (dd + 8) * 100 }
noncomputable def am_wsy (y : Nat) : List Jvm.Cond := if am_hh y = [] then [.code (am_y y) (am_by y) (am_nL y) (am_rt y)] else [.codeWith (am_y y) (am_by y) (am_nL y) (am_rt y) (am_hh y)]
theorem am_entry {y : Nat} {As : List Value} {ρ : Nat → Nat} {al : Nat → Prop} (hvs : am_vs al As) (hEl : (am_en As (am_nL y)).length = am_nL y) (hEk : am_lck y (am_en As (am_nL y)) 0) : am_rl y ρ al (am_en As (am_nL y)) ((lg_sl (As.map (am_rn ρ)) ++ List.replicate (am_nL y - (lg_sl (As.map (am_rn ρ))).length) Slot.unset).toArray) := by
  have hlen : (am_ex As).length ≤ am_nL y := by
    unfold am_en at hEl
    rw [List.length_append, List.length_replicate] at hEl
    omega
  have hent := lv_entry (As.map (am_rn ρ)) (n := am_nL y) (by rw [am_ex_len]; exact hlen)
  refine ⟨lv_has_mem hent hEl.symm fun q hq => am_la_args As _ 0 q hq, fun i v hi => ?_, fun i x hi => ?_, hEl⟩
  · unfold am_en at hi
    by_cases hlt : i < (am_ex As).length
    · rw [List.getElem?_append_left hlt] at hi
      exact am_ex_mem As i v hvs hi
    · rw [List.getElem?_append_right (by omega), List.getElem?_replicate] at hi
      split at hi <;> cases hi
  · have := am_lck_at _ 0 i x hEk hi
    simpa using this
theorem am_body {y : Nat} {As : List Value} {B : Nat} {I : am_I} {P : am_P} {G : am_G} {mc ms dd : Nat} {Rq : am_Q} {ρ : Nat → Nat} {al : Nat → Prop} (hX : am_Snd l D tc sz0 b0 y 0 (am_en As (am_nL y)) [] B I P G mc ms dd Rq) (hvs : am_vs al As) (hEl : (am_en As (am_nL y)).length = am_nL y) (hEk : am_lck y (am_en As (am_nL y)) 0) {ws : List Jvm.Cond} :
    ∀ p e s m args below meth c s₁, BodyLoose p l (am_y y) (headSpec ws (am_rm mc ms dd)) (am_by y) (am_nL y) (am_rt y) e s m args below meth c s₁ → c.maxLocals = am_nL y → c.exceptionTable.toList = tableOf (am_hh y) → am_Pc D tc sz0 b0 ρ al As B I P G args s →
      W p l e (am_rm mc ms dd) s m args below meth c s.heap [] 0 0 (vx_MQ below (am_Qc D tc sz0 b0 Rq ρ al) (am_XC D tc sz0 b0 Rq ρ al) args s mc ms (am_A sz0)) (entryFrame m args (am_nL y)) := by
  intro p e s m args below meth c s₁ Bd hml htab hPc
  obtain ⟨rfl, hGd, hR⟩ := hPc
  rw [lg_entry_eq]
  have hL := am_entry (y := y) (ρ := ρ) hvs hEl hEk
  exact hX ⟨Bd.exec, Bd.bytes, hml, Bd.returns, findClass_of_methodNamed Bd.named, Bd.notSynchronized, fun h => (name_of_methodNamed Bd.named Bd.method).1.trans h, Or.inl htab, hGd⟩
    ⟨⟨Nat.le_refl _, fun _ _ _ => rfl, by simp⟩, hR, hL, trivial, ⟨by simp [am_rm], by simp [am_rm], Nat.le_refl _, Nat.le_refl _⟩, am_ext.refl⟩
theorem am_met {y : Nat} (hcx : am_calx y) {As : List Value} {B : Nat} {I : am_I} {P : am_P} {G : am_G} {mc ms dd : Nat} {Rq : am_Q} {ρ : Nat → Nat} {al : Nat → Prop} (hX : am_Snd l D tc sz0 b0 y 0 (am_en As (am_nL y)) [] B I P G mc ms dd Rq) (hvs : am_vs al As) (hEl : (am_en As (am_nL y)).length = am_nL y) (hEk : am_lck y (am_en As (am_nL y)) 0) :
    vx_Met l (am_y y) (am_wsy y) (am_rm mc ms dd) (am_Pc D tc sz0 b0 ρ al As B I P G) (am_Qc D tc sz0 b0 Rq ρ al) (am_XC D tc sz0 b0 Rq ρ al) mc ms (am_A sz0) := by
  unfold am_wsy
  split
  · rename_i hh
    refine vx_ofW hcx.2.2.2.2 rfl fun p e s m args below meth c s₁ Bd hml htab hPc => ?_
    refine am_body hX hvs hEl hEk p e s m args below meth c s₁ Bd hml ?_ hPc
    rw [hh]
    cases h : c.exceptionTable.toList with
    | nil => rfl
    | cons x xs => exact (htab x (by rw [h]; exact List.mem_cons_self)).elim
  · refine vx_ofWH hcx.2.2.2.2 rfl fun p e s m args below meth c s₁ Bd hml hPc => ?_
    refine am_body hX hvs hEl hEk p e s m args below meth c s₁ Bd hml ?_ hPc
    exact vx_table (x := am_y y) Bd (atoms_spec Bd.pre _ List.mem_cons_self)
end SU
