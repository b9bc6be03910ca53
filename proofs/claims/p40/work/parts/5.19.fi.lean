/-! SOUNDNESS, whole; and the start of the law -/
section FI
theorem am_inst : ∀ c, c < 10 → Jvm.Cond.instantiable (am_C c) (am_cN c) ∈ lw_tbl := by decide +kernel
theorem am_rest (l : Launch) (D : va_G) (tc : Nat → ClassId) (sz0 b0 : Nat) {m pc : Nat} {e0 : am_e} {L : List (Option Value)} {st : List Value} {B : Nat} {I : am_I} {P : am_P} {G : am_G} {k sl d : Nat} {Q : am_Q} (h6 : ∀ i len r2, e0 ≠ (.invokestatic i, len, 906, r2)) (hk0 : am_okE m pc e0) (hcase : (match e0.1 with | .multianewarray _ _ => True | .invokestatic _ => 903 ≤ e0.2.2.1 | _ => False)) (hs : am_St (am_Snd l D tc sz0 b0) e0 m pc L st B I P G k sl d Q) : am_Snd l D tc sz0 b0 m pc L st B I P G k sl d Q := by
  obtain ⟨ins, len, r1, r2⟩ := e0
  cases ins
  case multianewarray ix dm => exact am_sndM hk0 hs
  case invokestatic ix =>
    have h903 : 903 ≤ r1 := hcase
    rcases (show r1 = 903 ∨ r1 ≠ 903 by omega) with h3 | h3
    · subst h3; exact @am_sndB l D tc sz0 b0 m pc ix len r2 hk0 L st B I P G k sl d Q hs
    rcases (show r1 = 904 ∨ r1 ≠ 904 by omega) with h4 | h4
    · subst h4; exact @am_sndA l D tc sz0 b0 m pc ix len r2 hk0 L st B I P G k sl d Q hs
    rcases (show r1 = 906 ∨ r1 ≠ 906 by omega) with h5 | h5
    · subst h5; exfalso; exact h6 ix len r2 rfl
    rcases hs with ⟨h9, _⟩ | ⟨h9, _⟩ | ⟨h9, _⟩ | ⟨h9, _⟩ | ⟨h9, _⟩ | ⟨h9, _⟩
    · exfalso; exact absurd (show r1 = 901 from h9) (by omega)
    · exfalso; exact absurd (show r1 = 902 from h9) (by omega)
    · exfalso; exact absurd (show r1 = 903 from h9) h3
    · exfalso; exact absurd (show r1 = 904 from h9) h4
    · exfalso; exact absurd (show r1 = 906 from h9) h5
    · exfalso; exact absurd (show r1 < 900 from h9) (by omega)
  all_goals exact hcase.elim
/-- what the abstract machine comes to, the machine comes to -/
theorem am_sound {l : Launch} {D : va_G} {tc : Nat → ClassId} {b0 : Nat} (hl : l.stackTraces = false) {m pc : Nat} {L : List (Option Value)} {st : List Value} {B : Nat} {I : am_I} {P : am_P} {G : am_G} {k sl d : Nat} {Q : am_Q} (h : am_Ev m pc L st B I P G k sl d Q) : ∀ sz0 : Nat, am_Snd l D tc sz0 b0 m pc L st B I P G k sl d Q := by
  refine am_ind (fun m pc L st B I P G k sl d Q => ∀ sz0 : Nat, am_Snd l D tc sz0 b0 m pc L st B I P G k sl d Q) (fun m pc L st B I P G k sl d Q h => ?_) h
  obtain ⟨e0, hc, hs⟩ := h
  intro sz0
  rcases Classical.em (∃ i len r2, e0 = (.invokestatic i, len, 906, r2)) with ⟨i, len, r2, rfl⟩ | h6
  · exact @am_sndF l D tc b0 m pc i len r2 (am_all hc) L st B I P G k sl d Q hs sz0
  · have hs1 : am_St (am_Snd l D tc sz0 b0) e0 m pc L st B I P G k sl d Q := am_St_mono (X := fun m pc L st B I P G k sl d Q => ∀ sz0 : Nat, am_Snd l D tc sz0 b0 m pc L st B I P G k sl d Q) (Y := am_Snd l D tc sz0 b0) (Q := Q) (Q' := Q) (fun _ _ _ _ _ _ _ _ _ _ _ q => @q sz0) (fun _ _ _ _ _ _ _ _ _ _ _ _ q => @q sz0) (fun _ _ _ _ _ q => q) _ _ _ _ _ _ _ _ _ _ _ _ hs
    rcases Classical.em (am_hh m = []) with hh | hh
    · exact @am_snd3 l D tc sz0 b0 hl m pc e0 (am_all hc) hh L st B I P G k sl d Q hs1 (fun hcase => @am_rest l D tc sz0 b0 m pc e0 L st B I P G k sl d Q (fun i len r2 e => h6 ⟨i, len, r2, e⟩) (am_all hc) hcase hs1)
    · exact @am_sndH l D tc sz0 b0 m pc e0 hc (am_all hc) hh L st B I P G k sl d Q hs1
set_option maxHeartbeats 4000000 in
set_option maxRecDepth 100000 in
theorem am_begin {b : Addr} {s : State} {L : Nat} {xs : Nat → Int32} (hts : ∀ w ∈ lw_tbl, w.before #[Value.ref b] s = true) (hX : va_X b L xs s s.heap) (hgv : (Jvm.Cond.and given_1 narrow_1).before #[Value.ref b] s = true) :
    ∃ (D : va_G) (tc : Nat → ClassId) (b0 : Nat), am_Gd D tc s.heap.size b0 s s.heap ∧ am_fa (tc 19) 0 (fun _ => 0) b0 s.heap ∧ am_fa (tc 18) L xs b s.heap ∧ b ≠ b0 := by
  have hG : am_Gw s := fun args w hw hp => am_pw_at hp (hts w hw) args
  have hfl := flat_of_before _ hgv
  have hK0 : ∀ c, ∃ q : ClassId × (Nat → Nat), c < 10 → u_Kn s (am_C c) (am_T c) (am_cN c) q.1 q.2 := by
    intro c
    by_cases hc : c < 10
    · obtain ⟨cC, iS, h⟩ := u_known (hG.ws hc #[]) (fun w hw => hw) (hG #[] _ (am_inst c hc) rfl)
      exact ⟨(cC, iS), fun _ => h⟩
    · exact ⟨(0, fun _ => 0), fun h => absurd h hc⟩
  obtain ⟨c10, k10, p10, n10, g10, d10⟩ := Cond.arrayClass_spec (hG #[] (.arrayClass .int) (by decide +kernel) rfl)
  obtain ⟨c11, k11, p11, n11, g11, d11⟩ := Cond.arrayClass_spec (hG #[] (.arrayClass .boolean) (by decide +kernel) rfl)
  obtain ⟨c12, k12, p12, n12, g12, d12⟩ := Cond.arrayClass_spec (hG #[] (.arrayClass .char) (by decide +kernel) rfl)
  obtain ⟨p14, c14, k14, f14, -, g14, d14, n14⟩ := Cond.arrayOver_spec (hG #[] (.arrayOver (.object "java/lang/Object")) (by decide +kernel) rfl)
  obtain ⟨p15, c15, k15, f15, -, g15, d15, n15⟩ := Cond.arrayOver_spec (hG #[] (.arrayOver (.object "SaywhatSeen$Fact")) (by decide +kernel) rfl)
  obtain ⟨p16, c16, k16, f16, -, g16, d16, n16⟩ := Cond.arrayOver_spec (hG #[] (.arrayOver (.object "SaywhatSeen$Film")) (by decide +kernel) rfl)
  obtain ⟨p17, c17, k17, f17, -, g17, d17, n17⟩ := arrayOverA_spec (hG #[] (.arrayOver (.array .int)) (by decide +kernel) rfl)
  obtain ⟨scr, x1, x2, x3, x4, x5⟩ := hX
  have y1 : (Jvm.Cond.exactly (.static "java/util/ArrayList" "DEFAULTCAPACITY_EMPTY_ELEMENTDATA" "[Ljava/lang/Object;") "[Ljava/lang/Object;").before #[Value.ref b] s = true := hfl _ (by decide +kernel)
  have y2 : (Jvm.Cond.arrayOf (.static "java/util/ArrayList" "DEFAULTCAPACITY_EMPTY_ELEMENTDATA" "[Ljava/lang/Object;") (.object "java/lang/Object")).before #[Value.ref b] s = true := hfl _ (by decide +kernel)
  have y3 : (Jvm.Cond.eq (.length (.static "java/util/ArrayList" "DEFAULTCAPACITY_EMPTY_ELEMENTDATA" "[Ljava/lang/Object;")) (.int 0)).before #[Value.ref b] s = true := hfl _ (by decide +kernel)
  obtain ⟨b0, cE, cellE, kE, e1, e2, e3, e4, e5, e6, -⟩ := Cond.exactly_spec y1
  obtain ⟨e7, e8⟩ := Cond.arrayOf_spec y2 e1 e3
  have e9 : cellE.slots.size = 0 := by
    have harr : s.arrayAt? b0 = some cellE := by
      obtain ⟨-, k, hk, comp, hkind⟩ := e7
      unfold State.arrayAt?
      simp only [e3, Option.bind_eq_bind, Option.bind_some, hk, hkind]
      rw [if_neg (by rintro (h | h); exact e8 h; rw [e5] at h; cases h)]
    have hlen : (Term.length (.static "java/util/ArrayList" "DEFAULTCAPACITY_EMPTY_ELEMENTDATA" "[Ljava/lang/Object;")).eval #[Value.ref b] s none [] s = if cellE.slots.size < 2 ^ 31 then some (.int cellE.slots.size.toInt32) else none := by
      rw [Term.eval]
      rw [e1]
      simp [harr]
    by_cases hsz : cellE.slots.size < 2 ^ 31
    · rw [if_pos hsz] at hlen
      have h0 : (Term.int 0).eval #[Value.ref b] s none [] s = some (.int 0) := rfl
      have y4 : (Int32.ofNat cellE.slots.size) = 0 := by
        simpa [Cond.before, Cond.holds, Cond.value, hlen, h0] using y3
      have := congrArg Int32.toInt y4
      rw [show Int32.ofNat cellE.slots.size = nI cellE.slots.size from rfl, nI_toInt hsz] at this
      simpa using this
    · rw [if_neg hsz] at hlen
      simp [Cond.before, Cond.holds, Cond.value, hlen] at y3
  have nc01 : va_Nc (am_exn 0) (am_exn 1) s := va_Nc.of (args := #[Value.ref b]) (hfl _ (by decide +kernel))
  have nc02 : va_Nc (am_exn 0) (am_exn 2) s := va_Nc.of (args := #[Value.ref b]) (hfl _ (by decide +kernel))
  have nc03 : va_Nc (am_exn 0) (am_exn 3) s := va_Nc.of (args := #[Value.ref b]) (hfl _ (by decide +kernel))
  have nc04 : va_Nc (am_exn 0) (am_exn 4) s := va_Nc.of (args := #[Value.ref b]) (hfl _ (by decide +kernel))
  have nc10 : va_Nc (am_exn 1) (am_exn 0) s := va_Nc.of (args := #[Value.ref b]) (hfl _ (by decide +kernel))
  have nc12 : va_Nc (am_exn 1) (am_exn 2) s := va_Nc.of (args := #[Value.ref b]) (hfl _ (by decide +kernel))
  have nc13 : va_Nc (am_exn 1) (am_exn 3) s := va_Nc.of (args := #[Value.ref b]) (hfl _ (by decide +kernel))
  have nc14 : va_Nc (am_exn 1) (am_exn 4) s := va_Nc.of (args := #[Value.ref b]) (hfl _ (by decide +kernel))
  have nc20 : va_Nc (am_exn 2) (am_exn 0) s := va_Nc.of (args := #[Value.ref b]) (hfl _ (by decide +kernel))
  have nc21 : va_Nc (am_exn 2) (am_exn 1) s := va_Nc.of (args := #[Value.ref b]) (hfl _ (by decide +kernel))
  have nc23 : va_Nc (am_exn 2) (am_exn 3) s := va_Nc.of (args := #[Value.ref b]) (hfl _ (by decide +kernel))
  have nc24 : va_Nc (am_exn 2) (am_exn 4) s := va_Nc.of (args := #[Value.ref b]) (hfl _ (by decide +kernel))
  have nc30 : va_Nc (am_exn 3) (am_exn 0) s := va_Nc.of (args := #[Value.ref b]) (hfl _ (by decide +kernel))
  have nc31 : va_Nc (am_exn 3) (am_exn 1) s := va_Nc.of (args := #[Value.ref b]) (hfl _ (by decide +kernel))
  have nc32 : va_Nc (am_exn 3) (am_exn 2) s := va_Nc.of (args := #[Value.ref b]) (hfl _ (by decide +kernel))
  have nc34 : va_Nc (am_exn 3) (am_exn 4) s := va_Nc.of (args := #[Value.ref b]) (hfl _ (by decide +kernel))
  have nc40 : va_Nc (am_exn 4) (am_exn 0) s := va_Nc.of (args := #[Value.ref b]) (hfl _ (by decide +kernel))
  have nc41 : va_Nc (am_exn 4) (am_exn 1) s := va_Nc.of (args := #[Value.ref b]) (hfl _ (by decide +kernel))
  have nc42 : va_Nc (am_exn 4) (am_exn 2) s := va_Nc.of (args := #[Value.ref b]) (hfl _ (by decide +kernel))
  have nc43 : va_Nc (am_exn 4) (am_exn 3) s := va_Nc.of (args := #[Value.ref b]) (hfl _ (by decide +kernel))
  let D : va_G := (fun c => (Classical.choose (hK0 c)).1, fun c => (Classical.choose (hK0 c)).2)
  let tc : Nat → ClassId := fun t => match t with
    | 10 => c10
    | 11 => c11
    | 12 => c12
    | 13 => c10
    | 14 => c14
    | 15 => c15
    | 16 => c16
    | 17 => c17
    | 18 => scr.cls
    | _ => cellE.cls
  have arr : ∀ {c comp : ClassId} {k : Class} {ty : FieldType}, s.vm.classes[c]? = some k → k.kind = .array comp ty → ArrOfT s c ty := fun h1 h2 n z => ⟨fun _ h => (by cases h), _, h1, _, h2⟩
  have hnA : ∀ a : Nat, a < s.heap.size → ¬ am_A s.heap.size a := fun a h1 h2 => absurd h1 (Nat.not_lt.mpr h2)
  have hKc : ∀ c, c < 10 → u_Kn s (am_C c) (am_T c) (am_cN c) (D.1 c) (D.2 c) := fun c hc => Classical.choose_spec (hK0 c) hc
  have hZ : ∀ n d, Jvm.Cond.laysStatic Bundle.tN n d ∈ lw_tbl → (Jvm.Cond.isRef (.static Bundle.tN n d)).before #[Value.ref b] s = true → vx_Zq Bundle.tN n d (am_A s.heap.size) s s.heap := fun n d h1 h2 =>
    vx_Zqof (hts _ h1) (hts (.initialized "java/lang/Throwable") (by decide +kernel)) h2 hnA
  refine ⟨D, tc, b0, ⟨hG, fun k tx hm => ?_, ⟨fun c q hq => ?_, fun k q hq => ?_⟩, Nat.le_refl _, ?_, ?_, ?_, ?_, ?_⟩, ?_, ?_, ?_⟩
  · obtain ⟨_, _, _, a, _, _, _, _, _, hev⟩ := Cond.stringRef_spec (hKc 8 (by omega)).2.1 (hts _ hm)
    exact ⟨a, vk_R.of (hts _ hm) hev⟩
  · have hc : c < 10 := (List.getElem?_eq_some_iff.mp hq).1
    have hq2 := Option.some.inj ((am_cl_at hc).symm.trans hq)
    subst hq2
    exact hKc c hc
  · rcases k with _ | _ | _ | _ | _ | _ | _ | _ | k
    · cases hq; exact ⟨arr g10 d10, n10⟩
    · cases hq; exact ⟨arr g11 d11, n11⟩
    · cases hq; exact ⟨arr g12 d12, n12⟩
    · cases hq; exact ⟨arr g10 d10, n10⟩
    · cases hq; exact ⟨arr g14 d14, _, _, g14, d14, f14, n14⟩
    · cases hq; exact ⟨arr g15 d15, _, _, g15, d15, f15, n15⟩
    · cases hq; exact ⟨arr g16 d16, _, _, g16, d16, f16, n16⟩
    · cases hq; exact ⟨arr g17 d17, n17⟩
    · exact absurd (List.getElem?_eq_some_iff.mp hq).1 (by simp [am_tys])
  · exact hZ _ _ (by decide +kernel) (hfl _ (by decide +kernel))
  · exact hZ _ _ (by decide +kernel) (hfl _ (by decide +kernel))
  · exact va_Zof (hts (.laysStatic "java/util/ArrayList" "DEFAULTCAPACITY_EMPTY_ELEMENTDATA" "[Ljava/lang/Object;") (by decide +kernel)) (hts (.initialized "java/util/ArrayList") (by decide +kernel)) e1 hnA
  · exact fun x y hx hy hxy => match x, y, hx, hy, hxy with
    | 0, 0, _, _, h => absurd rfl h
    | 0, 1, _, _, _ => nc01
    | 0, 2, _, _, _ => nc02
    | 0, 3, _, _, _ => nc03
    | 0, 4, _, _, _ => nc04
    | 1, 0, _, _, _ => nc10
    | 1, 1, _, _, h => absurd rfl h
    | 1, 2, _, _, _ => nc12
    | 1, 3, _, _, _ => nc13
    | 1, 4, _, _, _ => nc14
    | 2, 0, _, _, _ => nc20
    | 2, 1, _, _, _ => nc21
    | 2, 2, _, _, h => absurd rfl h
    | 2, 3, _, _, _ => nc23
    | 2, 4, _, _, _ => nc24
    | 3, 0, _, _, _ => nc30
    | 3, 1, _, _, _ => nc31
    | 3, 2, _, _, _ => nc32
    | 3, 3, _, _, h => absurd rfl h
    | 3, 4, _, _, _ => nc34
    | 4, 0, _, _, _ => nc40
    | 4, 1, _, _, _ => nc41
    | 4, 2, _, _, _ => nc42
    | 4, 3, _, _, _ => nc43
    | 4, 4, _, _, h => absurd rfl h
  · refine ⟨?_, ?_⟩
    · obtain ⟨-, k, hk, comp, hkind⟩ := x2
      exact arr hk hkind
    · obtain ⟨-, k, hk, comp, hkind⟩ := e7
      exact ⟨arr hk hkind, va_Mi.of (args := #[Value.ref b]) (hfl _ (by decide +kernel))⟩
  · exact ⟨cellE, e3, rfl, (fun k h => by rw [h] at e5; cases e5), e8, e9, fun j hj => absurd hj (by omega)⟩
  · exact ⟨scr, x1, rfl, x2.1, x3, x4, x5⟩
  · intro h
    subst h
    rw [x1] at e3
    cases e3
    obtain ⟨-, k, hk, comp, hkind⟩ := x2
    obtain ⟨-, k', hk', comp', hkind'⟩ := e7
    rw [hk] at hk'
    cases hk'
    rw [hkind] at hkind'
    cases hkind'
/-- the script's role -/
def am_sr (L : Nat) : Nat := 4096 * (L + 1) + 4000
theorem am_sr_TY (L : Nat) : am_TY (am_sr L) = (18, L) := by
  unfold am_TY am_sr
  rw [if_neg (by omega), show (4096 * (L + 1) + 4000) / 4096 = L + 1 by omega, show (4096 * (L + 1) + 4000) % 4096 = 4000 by omega]
  simp [am_tl]
def am_Q1 : am_Q := fun o _ _ _ _ => o = .inl (some (.int 1))
/-- what the law owes in the abstract machine -/
def am_Law : Prop := ∀ (L : Nat) (xs : Nat → Int32), L ≤ 260 → am_Ev 228 0 [some (.ref (am_sr L)), none] [] 10 (fun _ j => xs j) (fun _ _ => none) (fun _ _ => 0) 600086 7301442 100 am_Q1
set_option maxRecDepth 100000 in
theorem am_whole (hlaw : am_Law) {p : Program} {e : Env} {s : State} {m : MethodId} {below : List Frame} {meth : Method} {c : Code} (l : Launch) (hl : l.stackTraces = false) {b L : Nat} {xs : Nat → Int32} (hL : L ≤ 260)
    (h1 : p.tables.exec = Jvm.exec) (h2 : c.code = code) (h3 : meth.sig.returnType = ret) (h4 : c.maxLocals = 2) (h5 : s.vm.findClass "SaywhatSeenLaw" = some m.cls) (hts : ∀ w ∈ lw_tbl, w.before #[Value.ref b] s = true) (hX : va_X b L xs s s.heap) (h6 : meth.locks = false) (hgv : (Jvm.Cond.and given_1 narrow_1).before #[Value.ref b] s = true) :
    W p l e room_1 s m #[Value.ref b] below meth c s.heap [] 0 0 (fun t => ∃ o, t.status = .running ∧ Ended t below o ∧ o = .returned (some (.int 1)) ∧ Framed s o t [] 600086 7301442) (entryFrame m ([Value.ref b] : List Value).toArray 2) := by
  obtain ⟨D, tc, b0, hGd, hE, hScr, hne⟩ := am_begin hts hX hgv
  have hsnd : am_Snd l D tc s.heap.size b0 228 0 [some (.ref (am_sr L)), none] [] 10 (fun _ j => xs j) (fun _ _ => none) (fun _ _ => 0) 600086 7301442 100 am_Q1 := am_sound (D := D) (tc := tc) (b0 := b0) hl (hlaw L xs hL) s.heap.size
  have C : am_Ctx D tc s.heap.size b0 228 am_Q1 p e room_1 s m meth c :=
    ⟨h1, h2.trans rfl, h4.trans (by decide +kernel), h3.trans (by decide +kernel), h5, h6, fun h => absurd h (by decide +kernel), Or.inr ⟨by decide +kernel, fun x B I P G h => by cases h⟩, hGd⟩
  have h9 : am_sr L ≠ 9 := by unfold am_sr; omega
  have hR : am_R D tc s.heap.size b0 (fun a => if a = 9 then b0 else b) (fun a => a = 9 ∨ a = am_sr L) 10 (fun _ j => xs j) (fun _ _ => none) (fun _ _ => 0) s.heap := by
    refine ⟨fun a ha => ?_, fun a a' ha ha' hh => ?_, (fun a k r _ h => by cases h), Or.inl rfl, rfl⟩
    · rcases ha with rfl | rfl
      · refine ⟨by rw [TY9]; decide, ?_, Or.inl (by omega), Or.inr (by rw [TY9]; decide)⟩
        unfold am_cell
        rw [TY9, if_pos (by decide)]
        obtain ⟨cell, q1, q2, q3, q4, q5, q6⟩ := hE
        exact ⟨cell, q1, q2, q3, q4, q5, fun j hj => absurd hj (by omega)⟩
      · refine ⟨by rw [am_sr_TY]; exact (show 18 ≤ 19 by decide), ?_, Or.inr (by unfold am_sr; omega), Or.inr (by rw [am_sr_TY]; exact (show 18 ≤ 18 by decide))⟩
        unfold am_cell
        rw [am_sr_TY, if_pos (show 18 ≤ 18 by decide)]
        simp only [h9, if_false]
        exact hScr
    · rcases ha with rfl | rfl <;> rcases ha' with rfl | rfl
      · rfl
      · simp [h9] at hh; exact absurd hh.symm hne
      · simp [h9] at hh; exact absurd hh hne
      · rfl
  have hrl := am_entry (y := 228) (As := [.ref (am_sr L)]) (ρ := fun a => if a = 9 then b0 else b) (al := fun a => a = 9 ∨ a = am_sr L) ⟨Or.inr rfl, trivial⟩ (by rw [show am_nL 228 = 2 by decide +kernel]; rfl) (by rw [show am_nL 228 = 2 by decide +kernel]; exact ⟨fun h => absurd h (show ¬ (1 : Nat) = 2 by decide), trivial⟩)
  rw [show am_nL 228 = 2 by decide +kernel] at hrl
  have hW := hsnd C (args := #[Value.ref b]) (below := below) (H := s.heap) (locs := []) (cells := 0) (slots := 0) (ρ0 := fun a => if a = 9 then b0 else b) (al0 := fun a => a = 9 ∨ a = am_sr L)
    ⟨⟨Nat.le_refl _, fun _ _ _ => rfl, by simp⟩, hR, hrl, trivial, ⟨by decide, by decide, by decide, by decide⟩, am_ext.refl⟩
  have hrn : ([Value.ref (am_sr L)] : List Value).map (am_rn (fun a => if a = 9 then b0 else b)) = [Value.ref b] := by simp [am_rn, h9]
  rw [hrn] at hW
  rw [lg_entry_eq]
  intro T hT X
  obtain ⟨t, a1, o, b1, b2, b3⟩ := hW T hT X
  refine ⟨t, a1, o, b1, b2, ?_⟩
  rcases b3 with ⟨⟨v, ρ', al', B', I', P', G', ho, -, hQ, -, -, -⟩, LL, hF, hLL⟩ | ⟨q, -, E, ce, LL, ⟨x, ρ', al', B', I', P', G', -, -, hQ, -⟩, -⟩
  · cases hQ
    refine ⟨ho, hF.1, hF.2.1, hF.2.2.weaken (fun y hy hlt => absurd hlt (Nat.not_lt.mpr (hLL y hy))) (Nat.le_refl _) (Nat.le_refl _)⟩
  · cases hQ
end FI
