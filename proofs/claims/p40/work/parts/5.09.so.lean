/-! SOUNDNESS, a row a kind of memory step -/
section SO
variable {p : Program} {l : Launch} {e : Env} {R : Room} {s : State} {mid : MethodId} {args : Array Value} {below : List Frame} {meth : Method} {c : Code} {H : Heap} {locs : List Loc} {cells slots : Nat} {Z : State → Prop}
variable {cc : ByteArray} {pc : Nat} {ls : Array Slot} {rest : List Value} {D : va_G} {tc : Nat → ClassId} {sz0 b0 : Nat} {ρ : Nat → Nat} {al : Nat → Prop} {B : Nat} {I : am_I} {P : am_P} {G : am_G}
theorem am_Gw.ws {U : State} (h : am_Gw U) {c : Nat} (hc : c < 10) (args : Array Value) : ∀ w ∈ u_ws (am_C c) (am_T c) (am_cN c), w.before args U = true := fun w hw => h args w (am_uws hc w hw).1 (am_uws hc w hw).2
theorem am_E_o {a : Nat} (h : (am_TY a).1 < 10) : am_E tc ρ I P G a = .inr ((am_TY a).1, (List.range (am_cN (am_TY a).1)).map (fun k => am_rn ρ (am_fv (am_TY a).1 k I P a))) := by rw [am_E, if_pos h]
theorem am_E_l {a : Nat} (h : (am_TY a).1 = 13) : am_E tc ρ I P G a = .inr (99, []) := by rw [am_E, if_neg (by omega), if_pos h]
/-- no array of longs is there -/
theorem am_no13 {q : Nat} {H : Heap} : ¬ va_at D am_cl (q, .inr (99, [])) H := by
  rintro ⟨r, h1, _⟩
  exact absurd (List.getElem?_eq_some_iff.mp h1).1 (by first | decide | simp [am_cl])
theorem am_E_r {a : Nat} (h : 14 ≤ (am_TY a).1) (h2 : (am_TY a).1 ≤ 17) : am_E tc ρ I P G a = .inl (tc (am_TY a).1, (am_TY a).2, .inr (.inr (.inr (.inr (fun i => (P a i).map ρ))))) := by rw [am_E, if_neg (by omega), if_neg (by omega), if_pos ⟨h, h2⟩]
theorem am_E_i {a : Nat} (h : (am_TY a).1 = 10 ∨ (am_TY a).1 = 11 ∨ (am_TY a).1 = 12 ∨ (am_TY a).1 = 18) : am_E tc ρ I P G a = .inl (tc (am_TY a).1, (am_TY a).2, .inl (I a)) := by rw [am_E, if_neg (by omega), if_neg (by omega), if_neg (by omega)]
theorem va_P1 {D : va_G} {cl : List vw_C} {q : Nat × va_E} {H : Heap} (h : va_at D cl q H) : va_P D cl [q] H := by
  intro k z hz
  cases k with
  | zero => simp at hz; subst hz; exact h
  | succ k => simp at hz
/-- a world after a change at one role -/
theorem am_R.upd (h : am_R D tc sz0 b0 ρ al B I P G H) {a : Nat} (ha : al a) {I' : am_I} {P' : am_P} {G' : am_G} {H' : Heap} (h18 : (am_TY a).1 < 18) (ho : ∀ b, b ≠ a → I' b = I b ∧ P' b = P b ∧ G' b = G b) (hn : va_at D am_cl (ρ a, am_E tc ρ I' P' G' a) H') (hq : ∀ q, q ≠ ρ a → H'[q]? = H[q]?) (hc : ∀ k r, P' a k = some r → al r) : am_R D tc sz0 b0 ρ al B I' P' G' H' := by
  obtain ⟨h1, h2, h3, h4, h5⟩ := h
  refine ⟨fun b hb => ?_, h2, fun b k r hb hr => ?_, h4, h5⟩
  · obtain ⟨e1, e2, e3, e4⟩ := h1 b hb
    by_cases e : b = a
    · subst e; exact ⟨e1, by unfold am_cell; rw [if_neg (by omega)]; exact hn, e3, e4⟩
    · have hE : am_E tc ρ I' P' G' b = am_E tc ρ I P G b := by
        obtain ⟨q1, q2, q3⟩ := ho b e
        simp only [am_E, am_fv, q1, q2, q3]
      refine ⟨e1, ?_, e3, e4⟩
      have hIb := (ho b e).1
      have e2' : am_cell D tc ρ I' P' G' b H := by
        unfold am_cell at e2 ⊢
        rw [hE, hIb]
        exact e2
      exact e2'.kept (hq _ fun q => e (h2 b a hb ha q))
  · by_cases e : b = a
    · subst e; exact hc k r hr
    · rw [(ho b e).2.1] at hr; exact h3 b k r hb hr
theorem am_fv_rn {c k a : Nat} : (am_isR (am_ty c k) = true ∧ am_fv c k I P a = va_rf (P a k)) ∨ (am_isR (am_ty c k) = false ∧ am_fv c k I P a = .int (I a k)) := by
  unfold am_fv
  cases h : am_isR (am_ty c k)
  · exact Or.inr ⟨rfl, by simp⟩
  · exact Or.inl ⟨rfl, by simp⟩
theorem am_fv_ok (h : am_R D tc sz0 b0 ρ al B I P G H) {a : Nat} (ha : al a) (c k : Nat) : am_vok al (am_fv c k I P a) := by
  rcases am_fv_rn (c := c) (k := k) (a := a) (I := I) (P := P) with ⟨_, e⟩ | ⟨_, e⟩ <;> rw [e]
  · cases hp : P a k with
    | none => trivial
    | some r => exact h.2.2.1 a k r ha hp
  · trivial
theorem w_get (hexec : p.tables.exec = Jvm.exec) (hb : c.code = cc) {own ref : String} {index : Nat} (hG : am_Gw s) (hown : s.vm.findClass own = some mid.cls) (hK : va_K D am_cl (am_tys tc) s) (hR : am_R D tc sz0 b0 ρ al B I P G H) {a k : Nat} (ha : al a) {t : Nat} (ht : (am_TY a).1 = t) (h10 : t < 10) (hk : k < am_cN t)
    (hlink : Jvm.Cond.fieldLink own index ref (am_T t k).2.1 (am_T t k).2.2.1 ∈ lw_tbl) (hsame : ref = (am_T t k).1 ∨ Jvm.Cond.sameField ref (am_T t k).1 (am_T t k).2.1 (am_T t k).2.2.1 ∈ lw_tbl) (hdg : decode cc pc = .ok (.getfield index, 3))
    (kk : W p l e R s mid args below meth c H locs cells slots Z (F0 mid (pc + 3) ls (am_rn ρ (am_fv t k I P a) :: rest))) : W p l e R s mid args below meth c H locs cells slots Z (F0 mid pc ls (.ref (ρ a) :: rest)) := by
  subst ht
  have e2 := hR.at ha (by omega)
  rw [am_E_o h10] at e2
  refine va_get hexec hb (hG.ws h10 args) (fun w hw => hw) hown hK (va_P1 e2) 0 rfl (am_cl_at h10) k hk (hG args _ hlink rfl) (fun x hx => ?_) (v := am_rn ρ (am_fv (am_TY a).1 k I P a)) ?_ hdg kk
  · rcases hsame with h | h
    · rw [h]; exact hx
    · exact u_same (hG args _ h rfl) x hx
  · simp [hk]
theorem w_iald (hexec : p.tables.exec = Jvm.exec) (hb : c.code = cc) (hK : va_K D am_cl (am_tys tc) s) (hF : am_Fc tc s) (hR : am_R D tc sz0 b0 ρ al B I P G H) {a : Nat} (ha : al a) {i : Int32} (ht : am_ia (am_TY a).1) (hin : vp_in i (am_TY a).2) (hdg : decode cc pc = .ok (.iaload, 1))
    (kk : W p l e R s mid args below meth c H locs cells slots Z (F0 mid (pc + 1) ls (.int (I a i.toNatClampNeg) :: rest))) : W p l e R s mid args below meth c H locs cells slots Z (F0 mid pc ls (.int i :: .ref (ρ a) :: rest)) := by
  rcases ht with ht | ht
  · have e2 := hR.at ha (by omega)
    rw [am_E_i (Or.inl ht), ht] at e2
    exact va_iald hexec hb hK (va_P1 e2) 0 0 rfl rfl hin hdg kk
  · obtain ⟨cell, c1, c2, c3, c4, c5, c6⟩ := hR.fa ha (by omega)
    have hlt : i.toNatClampNeg < (am_TY a).2 := Nat.not_le.mp fun q => hin (Or.inr q)
    have harr : s.isArrayOf cell .int := by
      have h0 := hF.1 0 (fun _ => .null)
      obtain ⟨-, k, hk, comp, hkind⟩ := h0
      exact ⟨c3, k, by rw [c2, ht]; exact hk, comp, hkind⟩
    exact W.iald (v := .int (I a i.toNatClampNeg)) hexec hb c1 harr c4 (by rw [c5]; exact hin) (c6 _ hlt) rfl rfl hdg kk
theorem w_zald (hexec : p.tables.exec = Jvm.exec) (hb : c.code = cc) (hK : va_K D am_cl (am_tys tc) s) (hR : am_R D tc sz0 b0 ρ al B I P G H) {a : Nat} (ha : al a) {i : Int32} (ht : (am_TY a).1 = 11) (hin : vp_in i (am_TY a).2) (hdg : decode cc pc = .ok (.baload, 1))
    (kk : W p l e R s mid args below meth c H locs cells slots Z (F0 mid (pc + 1) ls (.int (I a i.toNatClampNeg) :: rest))) : W p l e R s mid args below meth c H locs cells slots Z (F0 mid pc ls (.int i :: .ref (ρ a) :: rest)) := by
  have e2 := hR.at ha (by omega)
  rw [am_E_i (Or.inr (Or.inl ht)), ht] at e2
  exact va_zald hexec hb hK (va_P1 e2) 0 1 rfl rfl hin hdg kk
theorem w_cald (hexec : p.tables.exec = Jvm.exec) (hb : c.code = cc) (hK : va_K D am_cl (am_tys tc) s) (hR : am_R D tc sz0 b0 ρ al B I P G H) {a : Nat} (ha : al a) {i : Int32} (ht : (am_TY a).1 = 12) (hin : vp_in i (am_TY a).2) (hdg : decode cc pc = .ok (.caload, 1))
    (kk : W p l e R s mid args below meth c H locs cells slots Z (F0 mid (pc + 1) ls (.int (I a i.toNatClampNeg) :: rest))) : W p l e R s mid args below meth c H locs cells slots Z (F0 mid pc ls (.int i :: .ref (ρ a) :: rest)) := by
  have e2 := hR.at ha (by omega)
  rw [am_E_i (Or.inr (Or.inr (Or.inl ht))), ht] at e2
  exact va_cald hexec hb hK (va_P1 e2) 0 2 rfl rfl hin hdg kk
theorem w_lald (hexec : p.tables.exec = Jvm.exec) (hb : c.code = cc) (hK : va_K D am_cl (am_tys tc) s) (hR : am_R D tc sz0 b0 ρ al B I P G H) {a : Nat} (ha : al a) {i : Int32} (ht : (am_TY a).1 = 13) (hin : vp_in i (am_TY a).2) (hdg : decode cc pc = .ok (.laload, 1))
    (kk : W p l e R s mid args below meth c H locs cells slots Z (F0 mid (pc + 1) ls (.long (G a i.toNatClampNeg) :: rest))) : W p l e R s mid args below meth c H locs cells slots Z (F0 mid pc ls (.int i :: .ref (ρ a) :: rest)) := by
  have e2 := hR.at ha (by omega)
  rw [am_E_l ht] at e2
  exact absurd e2 am_no13
theorem am_rf_map {r : Option Nat} : am_rn ρ (va_rf r) = va_rf (r.map ρ) := by cases r <;> rfl
theorem w_aald (hexec : p.tables.exec = Jvm.exec) (hb : c.code = cc) (hK : va_K D am_cl (am_tys tc) s) (hR : am_R D tc sz0 b0 ρ al B I P G H) {a : Nat} (ha : al a) {i : Int32} (h14 : 14 ≤ (am_TY a).1) (h17 : (am_TY a).1 ≤ 17) (hin : vp_in i (am_TY a).2) (hdg : decode cc pc = .ok (.aaload, 1))
    (kk : W p l e R s mid args below meth c H locs cells slots Z (F0 mid (pc + 1) ls (am_rn ρ (va_rf (P a i.toNatClampNeg)) :: rest))) : W p l e R s mid args below meth c H locs cells slots Z (F0 mid pc ls (.int i :: .ref (ρ a) :: rest)) := by
  have e2 := hR.at ha (by omega)
  rw [am_E_r h14 h17] at e2
  have hlt : i.toNatClampNeg < (am_TY a).2 := Nat.not_le.mp fun q => hin (Or.inr q)
  have hty : ∃ ty, (am_tys tc)[(am_TY a).1 - 10]? = some (tc (am_TY a).1, ty) ∧ ty.isReference = true := by
    have h : (am_TY a).1 = 14 ∨ (am_TY a).1 = 15 ∨ (am_TY a).1 = 16 ∨ (am_TY a).1 = 17 := by omega
    rcases h with h | h | h | h <;> rw [h] <;> exact ⟨_, rfl, rfl⟩
  obtain ⟨ty, h1, h2⟩ := hty
  rw [am_rf_map] at kk
  exact W.aald (v := va_rf ((P a i.toNatClampNeg).map ρ)) hexec hb e2 ((hK.2 _ _ h1).1 (am_TY a).2 (fun j => va_rf ((P a j).map ρ))) h2 (fun q => by cases q) (by show ¬ (i < 0 ∨ (arrV _ _ _).slots.size ≤ _); rw [arrV_size]; exact hin) (by show (arrV _ _ _).slots[_]? = _; rw [arrV_read _ _ hlt]) rfl rfl hdg kk
theorem w_alen (hexec : p.tables.exec = Jvm.exec) (hb : c.code = cc) (hK : va_K D am_cl (am_tys tc) s) (hF : am_Fc tc s) (hR : am_R D tc sz0 b0 ρ al B I P G H) {a : Nat} (ha : al a) (h10 : 10 ≤ (am_TY a).1) (h19 : (am_TY a).1 ≤ 19) (hdg : decode cc pc = .ok (.arraylength, 1))
    (kk : W p l e R s mid args below meth c H locs cells slots Z (F0 mid (pc + 1) ls (.int (nI (am_TY a).2) :: rest))) : W p l e R s mid args below meth c H locs cells slots Z (F0 mid pc ls (.ref (ρ a) :: rest)) := by
  by_cases h18 : 18 ≤ (am_TY a).1
  · obtain ⟨cell, c1, c2, c3, c4, c5, c6⟩ := hR.fa ha h18
    have hty : ∃ ty, ArrOfT s (tc (am_TY a).1) ty := by
      have h : (am_TY a).1 = 18 ∨ (am_TY a).1 = 19 := by omega
      rcases h with h | h <;> rw [h]
      · exact ⟨_, hF.1⟩
      · exact ⟨_, hF.2.1⟩
    obtain ⟨ty, h1⟩ := hty
    have harr : s.isArrayOf cell ty := by
      have h0 := h1 0 (fun _ => .null)
      obtain ⟨-, k, hk, comp, hkind⟩ := h0
      exact ⟨c3, k, by rw [c2]; exact hk, comp, hkind⟩
    exact W.alen (n := nI (am_TY a).2) hexec hb c1 harr (by rw [c5]; rfl) rfl rfl hdg kk
  · have hty : ∃ ty, (am_tys tc)[(am_TY a).1 - 10]? = some (tc (am_TY a).1, ty) := by
      have h : (am_TY a).1 = 10 ∨ (am_TY a).1 = 11 ∨ (am_TY a).1 = 12 ∨ (am_TY a).1 = 13 ∨ (am_TY a).1 = 14 ∨ (am_TY a).1 = 15 ∨ (am_TY a).1 = 16 ∨ (am_TY a).1 = 17 := by omega
      rcases h with h | h | h | h | h | h | h | h <;> rw [h] <;> exact ⟨_, rfl⟩
    obtain ⟨ty, h1⟩ := hty
    have e2 := hR.at ha (by omega)
    by_cases h13 : (am_TY a).1 = 13
    · rw [am_E_l h13] at e2
      exact absurd e2 am_no13
    have hE : ∃ x, am_E tc ρ I P G a = .inl (tc (am_TY a).1, (am_TY a).2, x) := by
      unfold am_E
      rw [if_neg (by omega), if_neg h13]
      split <;> exact ⟨_, rfl⟩
    obtain ⟨x, hE⟩ := hE
    rw [hE] at e2
    exact va_alen hexec hb hK (va_P1 e2) 0 _ rfl h1 rfl hdg kk
/-! stores -/
theorem am_lt {i : Int32} {n : Nat} (hin : vp_in i n) : i.toNatClampNeg < n := Nat.not_le.mp fun q => hin (Or.inr q)
theorem am_big {a : Nat} (hR : am_R D tc sz0 b0 ρ al B I P G H) (ha : al a) {i : Int32} (hin : vp_in i (am_TY a).2) (h : (am_TY a).1 < 18) : sz0 ≤ ρ a := by
  rcases (hR.1 a ha).2.2.2 with q | q
  · exact q
  · exact absurd q (by omega)
theorem am_S {locs' : List Loc} {H' : Heap} {a : Nat} (hS : va_S (am_A sz0) s.heap H locs) (hsz : H'.size = H.size) (hq : ∀ q, q ≠ a → H'[q]? = H[q]?) (ha : sz0 ≤ a) (hl : ∀ q ∈ locs', q.base = a) : va_S (am_A sz0) s.heap H' (locs ++ locs') := by
  refine ⟨by rw [hsz]; exact hS.1, fun q h1 h2 => ?_, fun z hz => ?_⟩
  · rw [hq q (fun h => h2 (h ▸ ha))]; exact hS.2.1 q h1 h2
  · rcases List.mem_append.mp hz with h | h
    · exact hS.2.2 z h
    · show sz0 ≤ z.base; rw [hl z h]; exact ha
theorem am_updI {a : Nat} {i : Int32} {x : Int32} : (fun j => Value.int (am_u I a i.toNatClampNeg x a j)) = updV (fun j => .int (I a j)) i.toNatClampNeg (.int x) := by
  funext j
  by_cases h : j = i.toNatClampNeg <;> simp [am_u, updV, h]
theorem w_iast (hexec : p.tables.exec = Jvm.exec) (hb : c.code = cc) (hK : va_K D am_cl (am_tys tc) s) (hR : am_R D tc sz0 b0 ρ al B I P G H) (hS : va_S (am_A sz0) s.heap H locs) {a : Nat} (ha : al a) {i x : Int32} (ht : (am_TY a).1 = 10) (hin : vp_in i (am_TY a).2) (hdg : decode cc pc = .ok (.iastore, 1))
    (kk : ∀ H' locs', am_R D tc sz0 b0 ρ al B (am_u I a i.toNatClampNeg x) P G H' → va_S (am_A sz0) s.heap H' locs' → W p l e R s mid args below meth c H' locs' cells slots Z (F0 mid (pc + 1) ls rest)) : W p l e R s mid args below meth c H locs cells slots Z (F0 mid pc ls (.int x :: .int i :: .ref (ρ a) :: rest)) := by
  have e2 := hR.at ha (by omega)
  rw [am_E_i (Or.inl ht), ht] at e2
  refine W.iast hexec hb e2 ((hK.2 0 _ rfl).1 (am_TY a).2 (fun j => .int (I a j))) (fun q => by cases q) (by show ¬ (i < 0 ∨ (arrV _ _ _).slots.size ≤ _); rw [arrV_size]; exact hin) rfl rfl hdg fun H1 e z oq => ?_
  refine kk H1 _ (hR.upd ha (by omega) (fun b hb => ⟨by funext j; simp [am_u, hb], rfl, rfl⟩) ?_ oq (fun k r h => hR.2.2.1 a k r ha h)) (am_S hS z oq (am_big hR ha hin (by omega)) (by simp))
  rw [am_E_i (Or.inl ht), ht]
  show H1[ρ a]? = some (vp_cell _ _)
  rw [e, vp_cell_i, vp_cell_i, arrV_store, am_updI]
theorem w_zast (hexec : p.tables.exec = Jvm.exec) (hb : c.code = cc) (hK : va_K D am_cl (am_tys tc) s) (hR : am_R D tc sz0 b0 ρ al B I P G H) (hS : va_S (am_A sz0) s.heap H locs) {a : Nat} (ha : al a) {i x : Int32} (ht : (am_TY a).1 = 11) (hin : vp_in i (am_TY a).2) (hx : am_okx .boolean x) (hdg : decode cc pc = .ok (.bastore, 1))
    (kk : ∀ H' locs', am_R D tc sz0 b0 ρ al B (am_u I a i.toNatClampNeg x) P G H' → va_S (am_A sz0) s.heap H' locs' → W p l e R s mid args below meth c H' locs' cells slots Z (F0 mid (pc + 1) ls rest)) : W p l e R s mid args below meth c H locs cells slots Z (F0 mid pc ls (.int x :: .int i :: .ref (ρ a) :: rest)) := by
  have e2 := hR.at ha (by omega)
  rw [am_E_i (Or.inr (Or.inl ht)), ht] at e2
  have hnar : narrow .boolean (.int x) = .int x := by rcases hx with rfl | rfl <;> rfl
  refine W.zast hexec hb e2 ((hK.2 1 _ rfl).1 (am_TY a).2 (fun j => .int (I a j))) (fun q => by cases q) (by show ¬ (i < 0 ∨ (arrV _ _ _).slots.size ≤ _); rw [arrV_size]; exact hin) rfl rfl hdg fun H1 e z oq => ?_
  refine kk H1 _ (hR.upd ha (by omega) (fun b hb => ⟨by funext j; simp [am_u, hb], rfl, rfl⟩) ?_ oq (fun k r h => hR.2.2.1 a k r ha h)) (am_S hS z oq (am_big hR ha hin (by omega)) (by simp))
  rw [am_E_i (Or.inr (Or.inl ht)), ht]
  show H1[ρ a]? = some (vp_cell _ _)
  rw [e, hnar, vp_cell_i, vp_cell_i, arrV_store, am_updI]
theorem w_cast (hexec : p.tables.exec = Jvm.exec) (hb : c.code = cc) (hK : va_K D am_cl (am_tys tc) s) (hR : am_R D tc sz0 b0 ρ al B I P G H) (hS : va_S (am_A sz0) s.heap H locs) {a : Nat} (ha : al a) {i x : Int32} (ht : (am_TY a).1 = 12) (hin : vp_in i (am_TY a).2) (hx : am_okx .char x) (hdg : decode cc pc = .ok (.castore, 1))
    (kk : ∀ H' locs', am_R D tc sz0 b0 ρ al B (am_u I a i.toNatClampNeg x) P G H' → va_S (am_A sz0) s.heap H' locs' → W p l e R s mid args below meth c H' locs' cells slots Z (F0 mid (pc + 1) ls rest)) : W p l e R s mid args below meth c H locs cells slots Z (F0 mid pc ls (.int x :: .int i :: .ref (ρ a) :: rest)) := by
  have e2 := hR.at ha (by omega)
  rw [am_E_i (Or.inr (Or.inr (Or.inl ht))), ht] at e2
  have hnar : narrow .char (.int x) = .int x := by
    have hx' : x = (x.toUInt32 % 65536).toInt32 := hx
    rw [hx']; exact pk_nc x
  refine W.cast hexec hb e2 ((hK.2 2 _ rfl).1 (am_TY a).2 (fun j => .int (I a j))) (fun q => by cases q) (by show ¬ (i < 0 ∨ (arrV _ _ _).slots.size ≤ _); rw [arrV_size]; exact hin) rfl rfl hdg fun H1 e z oq => ?_
  refine kk H1 _ (hR.upd ha (by omega) (fun b hb => ⟨by funext j; simp [am_u, hb], rfl, rfl⟩) ?_ oq (fun k r h => hR.2.2.1 a k r ha h)) (am_S hS z oq (am_big hR ha hin (by omega)) (by simp))
  rw [am_E_i (Or.inr (Or.inr (Or.inl ht))), ht]
  show H1[ρ a]? = some (vp_cell _ _)
  rw [e, hnar, vp_cell_i, vp_cell_i, arrV_store, am_updI]
theorem w_last (hexec : p.tables.exec = Jvm.exec) (hb : c.code = cc) (hK : va_K D am_cl (am_tys tc) s) (hR : am_R D tc sz0 b0 ρ al B I P G H) (hS : va_S (am_A sz0) s.heap H locs) {a : Nat} (ha : al a) {i : Int32} {x : Int64} (ht : (am_TY a).1 = 13) (hin : vp_in i (am_TY a).2) (hdg : decode cc pc = .ok (.lastore, 1))
    (kk : ∀ H' locs', am_R D tc sz0 b0 ρ al B I P (am_u G a i.toNatClampNeg x) H' → va_S (am_A sz0) s.heap H' locs' → W p l e R s mid args below meth c H' locs' cells slots Z (F0 mid (pc + 1) ls rest)) : W p l e R s mid args below meth c H locs cells slots Z (F0 mid pc ls (.long x :: .int i :: .ref (ρ a) :: rest)) := by
  have e2 := hR.at ha (by omega)
  rw [am_E_l ht] at e2
  exact absurd e2 am_no13
theorem am_cE {t k x : Nat} (h : k < am_cN t) : ((List.range (am_cN t)).map (fun k => am_rn ρ (am_fv t k I P x))).length = am_cN t := by simp
theorem am_fields_set {t a k : Nat} {v : Value} {I' : am_I} {P' : am_P} (hk : k < am_cN t) (hv : am_fv t k I' P' a = v) (ho : ∀ j, j ≠ k → am_fv t j I' P' a = am_fv t j I P a) : (List.range (am_cN t)).map (fun k => am_rn ρ (am_fv t k I' P' a)) = ((List.range (am_cN t)).map (fun k => am_rn ρ (am_fv t k I P a))).set k (am_rn ρ v) := by
  apply List.ext_getElem
  · simp
  · intro j h1 h2
    simp only [List.length_map, List.length_range] at h1
    rw [List.getElem_set]
    by_cases e : k = j
    · subst e; simp [hv]
    · rw [if_neg e]; simp [ho j (fun q => e q.symm)]
theorem am_nar {ty : FieldType} (h : am_isR ty = false) {x : Int32} (hx : am_okx ty x) : narrow ty (.int x) = .int x ∧ Jvm.fits ty (.int x) = true := by
  cases ty <;> simp [am_okx, am_isR] at hx h ⊢
  case boolean => rcases hx with rfl | rfl <;> exact ⟨rfl, rfl⟩
  case char => rw [hx]; exact ⟨pk_nc x, pk_fc x⟩
  case int => exact ⟨rfl, rfl⟩
theorem am_narR {ty : FieldType} (h : am_isR ty = true) (r : Option Nat) : narrow ty (va_rf r) = va_rf r ∧ Jvm.fits ty (va_rf r) = true := by
  cases ty <;> simp [am_isR] at h <;> cases r <;> exact ⟨rfl, rfl⟩
theorem w_put (hexec : p.tables.exec = Jvm.exec) (hb : c.code = cc) {own ref : String} {index : Nat} (hG : am_Gw s) (hown : s.vm.findClass own = some mid.cls) (hK : va_K D am_cl (am_tys tc) s) (hR : am_R D tc sz0 b0 ρ al B I P G H) (hS : va_S (am_A sz0) s.heap H locs) {a k : Nat} (ha : al a) {t : Nat} (ht : (am_TY a).1 = t) (h10 : t < 10) (hk : k < am_cN t)
    (hlink : Jvm.Cond.fieldLink own index ref (am_T t k).2.1 (am_T t k).2.2.1 ∈ lw_tbl) (hsame : ref = (am_T t k).1 ∨ Jvm.Cond.sameField ref (am_T t k).1 (am_T t k).2.1 (am_T t k).2.2.1 ∈ lw_tbl) (hfin : (am_T t k).2.2.2 = false ∨ ((am_T t k).2.2.2 = true ∧ meth.name = "<init>" ∧ (am_T t k).1 = own))
    {v : Value} (hn : narrow (am_ty t k) (am_rn ρ v) = am_rn ρ v ∧ Jvm.fits (am_ty t k) (am_rn ρ v) = true) {I' : am_I} {P' : am_P} (hIP : ∀ b, b ≠ a → I' b = I b ∧ P' b = P b) (hv : am_fv t k I' P' a = v) (ho : ∀ j, j ≠ k → am_fv t j I' P' a = am_fv t j I P a) (hcl : ∀ k r, P' a k = some r → al r) (hbig : sz0 ≤ ρ a) (hdg : decode cc pc = .ok (.putfield index, 3))
    (kk : ∀ H' locs', am_R D tc sz0 b0 ρ al B I' P' G H' → va_S (am_A sz0) s.heap H' locs' → W p l e R s mid args below meth c H' locs' cells slots Z (F0 mid (pc + 3) ls rest)) : W p l e R s mid args below meth c H locs cells slots Z (F0 mid pc ls (am_rn ρ v :: .ref (ρ a) :: rest)) := by
  subst ht
  have e2 := hR.at ha (by omega)
  rw [am_E_o h10] at e2
  have hts := hG.ws h10 args
  have hin : ∀ w ∈ u_ws (am_C (am_TY a).1) (am_T (am_TY a).1) (am_cN (am_TY a).1), w ∈ u_ws (am_C (am_TY a).1) (am_T (am_TY a).1) (am_cN (am_TY a).1) := fun w hw => hw
  have hc := am_cl_at h10
  have hap := va_apart (own := own) hts hin (am_ty (am_TY a).1) (fun k hk => am_ty_ok h10 hk) (am_nm_ok h10) hK hc
  obtain ⟨r, h1, cell, q1, q2, q3, q4⟩ := e2
  have hr : r = (am_C (am_TY a).1, am_T (am_TY a).1, am_cN (am_TY a).1) := Option.some.inj (h1.symm.trans hc)
  subst hr
  obtain ⟨hSl, hfc, kC, hkC, hkind⟩ := hK.1 _ _ hc
  obtain ⟨cf, kf, fi, f, hi, hsl⟩ := hSl k hk
  have hsm : ∀ x, s.fieldFound? (am_T (am_TY a).1 k).1 (am_T (am_TY a).1 k).2.1 (am_T (am_TY a).1 k).2.2.1 = some x → s.fieldFound? ref (am_T (am_TY a).1 k).2.1 (am_T (am_TY a).1 k).2.2.1 = some x := by
    intro x hx
    rcases hsame with h | h
    · rw [h]; exact hx
    · exact u_same (hG args _ h rfl) x hx
  have hlay := hts _ (u_in_lay hk)
  have hst := (u_facts hfc hkC (u_lays hts hin hk) hi).1
  have fin : ∀ H' : Heap, H'[ρ a]? = some (cell.setSlot ((D.2 (am_TY a).1) k) (am_rn ρ v)) → H'.size = H.size → (∀ q, q ≠ ρ a → H'[q]? = H[q]?) → ∀ L : List Loc, (∀ q ∈ L, q.base = ρ a) → W p l e R s mid args below meth c H' (locs ++ L) cells slots Z (F0 mid (pc + 3) ls rest) := by
    intro H' e1 e2 e3 L hL
    refine kk H' _ (hR.upd ha (by omega) (fun b hb => ⟨(hIP b hb).1, (hIP b hb).2, rfl⟩) ?_ e3 hcl) (am_S hS e2 e3 hbig hL)
    rw [am_E_o h10, am_fields_set hk hv ho]
    exact ⟨_, hc, t_OB.to (V := updV (vp_V _) k (am_rn ρ v)) ⟨_, e1, q2, q3, t_set q4 hap hk _⟩ (fun j _ => vp_updV_set (by simp [hk]) _ j)⟩
  rcases hfin with hf | ⟨hf, hin2, hdecl⟩
  · unfold u_lay at hlay
    rw [if_neg (by rw [hf]; decide)] at hlay
    have h6 := u_store hfc hkC hkind hlay hi (am_ty_ok h10 hk) hn.1 hn.2
    refine W.putK hexec hb (f := f) ⟨hown, hG args _ hlink rfl, ⟨_, _, _, hsm _ hi⟩, hst⟩ (by rw [q2]; exact h6) q1 q3 (by rw [hsl]; exact k2_hasslot (q4 k hk)) rfl rfl hdg fun H' e1 e2 e3 => ?_
    rw [hsl] at e1 ⊢
    exact fin H' e1 e2 e3 _ (by simp)
  · unfold u_lay at hlay
    rw [if_pos hf] at hlay
    have hcf : mid.cls = cf := by
      obtain ⟨_, _, c', _, _, _, -, -, hf', -, -, -, hown2, -⟩ := Cond.laysFinal_spec hlay
      have e1 : c' = cf := by have := hi.symm.trans hf'; simp at this; exact this.1.symm
      rw [hdecl] at hown2
      rw [← e1]; exact Option.some.inj (hown.symm.trans hown2)
    have h6 := u_fits hfc hkC hkind (Or.inr hlay) hi (am_ty_ok h10 hk) hn.1 hn.2
    refine W.putFinK hexec hb hown (hG args _ hlink rfl) (hsm _ hi) hst hcf hin2 (by rw [q2]; exact h6) q1 q3 (by rw [hsl]; exact k2_hasslot (q4 k hk)) rfl rfl hdg fun H' e1 e2 e3 => ?_
    rw [hsl] at e1 ⊢
    exact fin H' e1 e2 e3 _ (by simp)
end SO
