/-! SOUNDNESS: the theorem -/
section ST
variable {l : Launch} {D : va_G} {tc : Nat → ClassId} {sz0 b0 : Nat}
theorem am_vs_app {al : Nat → Prop} : ∀ {a b : List Value}, am_vs al (a ++ b) ↔ am_vs al a ∧ am_vs al b
  | [], b => by simp [am_vs]
  | v :: a, b => by simp [am_vs, am_vs_app (a := a), and_assoc]
theorem am_vs_rev {al : Nat → Prop} : ∀ {a : List Value}, am_vs al a.reverse ↔ am_vs al a
  | [] => by simp [am_vs]
  | v :: a => by simp [am_vs, am_vs_app, am_vs_rev (a := a), and_comm]
theorem am_vs_mem {al : Nat → Prop} : ∀ {a : List Value}, am_vs al a ↔ ∀ v ∈ a, am_vok al v
  | [] => by simp [am_vs]
  | v :: a => by simp [am_vs, am_vs_mem (a := a)]
theorem am_vok_ext {ρ ρ' : Nat → Nat} {al al' : Nat → Prop} (h : am_ext ρ al ρ' al') {v : Value} (hv : am_vok al v) : am_vok al' v ∧ am_rn ρ' v = am_rn ρ v := by
  cases v <;> simp [am_vok, am_rn] at hv ⊢
  exact ⟨(h _ hv).1, (h _ hv).2⟩
theorem am_vs_ext {ρ ρ' : Nat → Nat} {al al' : Nat → Prop} (h : am_ext ρ al ρ' al') : ∀ {a : List Value}, am_vs al a → am_vs al' a ∧ a.map (am_rn ρ') = a.map (am_rn ρ)
  | [], _ => ⟨trivial, rfl⟩
  | v :: a, hv => by
    have h1 := am_vok_ext h hv.1
    have h2 := am_vs_ext h (a := a) hv.2
    exact ⟨⟨h1.1, h2.1⟩, by simp [h1.2, h2.2]⟩
theorem am_rl_ext {m : Nat} {ρ ρ' : Nat → Nat} {al al' : Nat → Prop} {L : List (Option Value)} {ls : Array Slot} (h : am_ext ρ al ρ' al') (hL : am_rl m ρ al L ls) : am_rl m ρ' al' L ls := by
  refine ⟨lv_has_mem hL.1 rfl fun q hq => ?_, fun i v hi => (am_vok_ext h (hL.2.1 i v hi)).1, hL.2.2⟩
  obtain ⟨j, w⟩ := q
  obtain ⟨v, k, h1, h2, h3⟩ := (am_la_mem L 0 j w).mp hq
  exact (am_la_mem L 0 j w).mpr ⟨v, k, h1, h2, by rw [h3, (am_vok_ext h (hL.2.1 k v h1)).2]⟩
theorem am_isrf_rn {ρ : Nat → Nat} {v : Value} (h : am_isrf v) : (v = .null ∧ am_rn ρ v = .null) ∨ ∃ a, v = .ref a ∧ am_rn ρ v = .ref (ρ a) := by
  obtain ⟨r, rfl⟩ := h
  cases r
  · exact Or.inl ⟨rfl, rfl⟩
  · exact Or.inr ⟨_, rfl, rfl⟩
theorem am_tgt_eq {pc : Nat} {off : Int} (h : am_up pc off) : (pc : Int) + off = (am_tgt pc off : Int) := (Int.toNat_of_nonneg h).symm
theorem am_cats (vs : List Value) : (vs.map fun v => v.category).sum ≤ 2 * vs.length := by
  induction vs with
  | nil => simp
  | cons v vs ih =>
    simp only [List.map_cons, List.sum_cons, List.length_cons]
    have : v.category ≤ 2 := by rcases lv_cat v with h | h <;> omega
    omega
theorem am_rf_ok {ρ : Nat → Nat} {al : Nat → Prop} {B : Nat} {I : am_I} {P : am_P} {G : am_G} {H : Heap} (h : am_R D tc sz0 b0 ρ al B I P G H) {a : Nat} (ha : al a) (k : Nat) : am_vok al (va_rf (P a k)) := by
  cases hp : P a k with
  | none => trivial
  | some r => exact h.2.2.1 a k r ha hp
theorem am_map_inj {ρ : Nat → Nat} {al : Nat → Prop} {B : Nat} {I : am_I} {P : am_P} {G : am_G} {H : Heap} (h : am_R D tc sz0 b0 ρ al B I P G H) {r q : Option Nat} (hr : am_vok al (va_rf r)) (hq : am_vok al (va_rf q)) : r.map ρ = q.map ρ ↔ r = q := by
  cases r <;> cases q <;> simp
  exact ⟨fun z => h.2.1 _ _ hr hq z, fun z => by rw [z]⟩
set_option maxHeartbeats 8000000 in
/-- the plain instructions -/
theorem am_snd1 {m pc : Nat} {e0 : am_e} (hk0 : am_okE m pc e0) {L : List (Option Value)} {st : List Value} {B : Nat} {I : am_I} {P : am_P} {G : am_G} {k sl d : Nat} {Q : am_Q} (hs : am_St (am_Snd l D tc sz0 b0) e0 m pc L st B I P G k sl d Q)
    (hrest : (match e0.1 with | .new _ => True | .multianewarray _ _ => True | .invokevirtual _ => True | .invokespecial _ => True | .invokestatic _ => True | .getstatic _ => True | .putfield _ => True | .newarray _ => True | .anewarray _ => True | _ => False) → am_Snd l D tc sz0 b0 m pc L st B I P G k sl d Q) : am_Snd l D tc sz0 b0 m pc L st B I P G k sl d Q := by
  obtain ⟨ins, len, r1, r2⟩ := e0
  obtain ⟨hd, hlen, hlk⟩ := hk0
  dsimp only at hd hlen hlk hs hrest
  cases ins
  case iconst n =>
    intro p e R s0 mid args below meth c H locs cells slots ρ al ls ρ0 al0 C V
    have C' := C
    obtain ⟨hx, hb, hml, hrt, hown, hlocks, hname, htab, hG⟩ := C
    obtain ⟨hS, hR, hL, hv, hrm, hext⟩ := V
    have hK := hG.2.2.1
    have hl : len = 1 := hlen (show (1 : Nat) ≠ 0 by decide)
    subst hl
    exact lv_iconst hx hb hd rfl (hs C' ⟨hS, hR, hL, ⟨trivial, hv⟩, hrm, hext⟩)
  case bipush n =>
    intro p e R s0 mid args below meth c H locs cells slots ρ al ls ρ0 al0 C V
    have C' := C
    obtain ⟨hx, hb, hml, hrt, hown, hlocks, hname, htab, hG⟩ := C
    obtain ⟨hS, hR, hL, hv, hrm, hext⟩ := V
    have hK := hG.2.2.1
    have hl : len = 2 := hlen (show (2 : Nat) ≠ 0 by decide)
    subst hl
    exact lv_bipush hx hb hd rfl (hs C' ⟨hS, hR, hL, ⟨trivial, hv⟩, hrm, hext⟩)
  case sipush n =>
    intro p e R s0 mid args below meth c H locs cells slots ρ al ls ρ0 al0 C V
    have C' := C
    obtain ⟨hx, hb, hml, hrt, hown, hlocks, hname, htab, hG⟩ := C
    obtain ⟨hS, hR, hL, hv, hrm, hext⟩ := V
    have hK := hG.2.2.1
    have hl : len = 3 := hlen (show (3 : Nat) ≠ 0 by decide)
    subst hl
    exact lv_sipush hx hb hd rfl (hs C' ⟨hS, hR, hL, ⟨trivial, hv⟩, hrm, hext⟩)
  case lconst n =>
    intro p e R s0 mid args below meth c H locs cells slots ρ al ls ρ0 al0 C V
    have C' := C
    obtain ⟨hx, hb, hml, hrt, hown, hlocks, hname, htab, hG⟩ := C
    obtain ⟨hS, hR, hL, hv, hrm, hext⟩ := V
    have hK := hG.2.2.1
    have hl : len = 1 := hlen (show (1 : Nat) ≠ 0 by decide)
    subst hl
    exact lv_lconst hx hb hd rfl (hs C' ⟨hS, hR, hL, ⟨trivial, hv⟩, hrm, hext⟩)
  case ldc i =>
    intro p e R s0 mid args below meth c H locs cells slots ρ al ls ρ0 al0 C V
    have C' := C
    obtain ⟨hx, hb, hml, hrt, hown, hlocks, hname, htab, hG⟩ := C
    obtain ⟨hS, hR, hL, hv, hrm, hext⟩ := V
    have hK := hG.2.2.1
    have hl : len = 2 := hlen (show (2 : Nat) ≠ 0 by decide)
    subst hl
    exact lv_ldc hx hb hown (hG.1 args _ (hlk hs.1) rfl) hd (hs.2 C' ⟨hS, hR, hL, ⟨trivial, hv⟩, hrm, hext⟩)
  case ldc_w i =>
    intro p e R s0 mid args below meth c H locs cells slots ρ al ls ρ0 al0 C V
    have C' := C
    obtain ⟨hx, hb, hml, hrt, hown, hlocks, hname, htab, hG⟩ := C
    obtain ⟨hS, hR, hL, hv, hrm, hext⟩ := V
    have hK := hG.2.2.1
    have hl : len = 3 := hlen (show (3 : Nat) ≠ 0 by decide)
    subst hl
    exact lv_ldcw hx hb hown (hG.1 args _ (hlk hs.1) rfl) hd (hs.2 C' ⟨hS, hR, hL, ⟨trivial, hv⟩, hrm, hext⟩)
  case ldc2_w i =>
    intro p e R s0 mid args below meth c H locs cells slots ρ al ls ρ0 al0 C V
    have C' := C
    obtain ⟨hx, hb, hml, hrt, hown, hlocks, hname, htab, hG⟩ := C
    obtain ⟨hS, hR, hL, hv, hrm, hext⟩ := V
    have hK := hG.2.2.1
    have hl : len = 3 := hlen (show (3 : Nat) ≠ 0 by decide)
    subst hl
    exact lv_ldc2 hx hb hown (hG.1 args _ (hlk hs.1) rfl) hd (hs.2 C' ⟨hS, hR, hL, ⟨trivial, hv⟩, hrm, hext⟩)
  case aconst_null =>
    intro p e R s0 mid args below meth c H locs cells slots ρ al ls ρ0 al0 C V
    have C' := C
    obtain ⟨hx, hb, hml, hrt, hown, hlocks, hname, htab, hG⟩ := C
    obtain ⟨hS, hR, hL, hv, hrm, hext⟩ := V
    have hK := hG.2.2.1
    have hl : len = 1 := hlen (show (1 : Nat) ≠ 0 by decide)
    subst hl
    exact lv_null hx hb hd (hs C' ⟨hS, hR, hL, ⟨trivial, hv⟩, hrm, hext⟩)
  case iload i =>
    intro p e R s0 mid args below meth c H locs cells slots ρ al ls ρ0 al0 C V
    have C' := C
    obtain ⟨hx, hb, hml, hrt, hown, hlocks, hname, htab, hG⟩ := C
    obtain ⟨hS, hR, hL, hv, hrm, hext⟩ := V
    have hK := hG.2.2.1
    have hl : len = 2 := hlen (show (2 : Nat) ≠ 0 by decide)
    subst hl
    obtain ⟨x, h1, hX⟩ := hs
    exact lv_iload hx hb hd (hL.at h1) (hX C' ⟨hS, hR, hL, ⟨trivial, hv⟩, hrm, hext⟩)
  case iload_n i =>
    intro p e R s0 mid args below meth c H locs cells slots ρ al ls ρ0 al0 C V
    have C' := C
    obtain ⟨hx, hb, hml, hrt, hown, hlocks, hname, htab, hG⟩ := C
    obtain ⟨hS, hR, hL, hv, hrm, hext⟩ := V
    have hK := hG.2.2.1
    have hl : len = 1 := hlen (show (1 : Nat) ≠ 0 by decide)
    subst hl
    obtain ⟨x, h1, hX⟩ := hs
    exact lv_iload_n hx hb hd rfl (hL.at h1) (hX C' ⟨hS, hR, hL, ⟨trivial, hv⟩, hrm, hext⟩)
  case lload i =>
    intro p e R s0 mid args below meth c H locs cells slots ρ al ls ρ0 al0 C V
    have C' := C
    obtain ⟨hx, hb, hml, hrt, hown, hlocks, hname, htab, hG⟩ := C
    obtain ⟨hS, hR, hL, hv, hrm, hext⟩ := V
    have hK := hG.2.2.1
    have hl : len = 2 := hlen (show (2 : Nat) ≠ 0 by decide)
    subst hl
    obtain ⟨x, h1, hX⟩ := hs
    exact lv_lload hx hb hd (hL.at h1) (hX C' ⟨hS, hR, hL, ⟨trivial, hv⟩, hrm, hext⟩)
  case lload_n i =>
    intro p e R s0 mid args below meth c H locs cells slots ρ al ls ρ0 al0 C V
    have C' := C
    obtain ⟨hx, hb, hml, hrt, hown, hlocks, hname, htab, hG⟩ := C
    obtain ⟨hS, hR, hL, hv, hrm, hext⟩ := V
    have hK := hG.2.2.1
    have hl : len = 1 := hlen (show (1 : Nat) ≠ 0 by decide)
    subst hl
    obtain ⟨x, h1, hX⟩ := hs
    exact lv_lload_n hx hb hd rfl (hL.at h1) (hX C' ⟨hS, hR, hL, ⟨trivial, hv⟩, hrm, hext⟩)
  case aload i =>
    intro p e R s0 mid args below meth c H locs cells slots ρ al ls ρ0 al0 C V
    have C' := C
    obtain ⟨hx, hb, hml, hrt, hown, hlocks, hname, htab, hG⟩ := C
    obtain ⟨hS, hR, hL, hv, hrm, hext⟩ := V
    have hK := hG.2.2.1
    have hl : len = 2 := hlen (show (2 : Nat) ≠ 0 by decide)
    subst hl
    obtain ⟨v, h1, hrf, hX⟩ := hs
    rcases am_isrf_rn (ρ := ρ) hrf with ⟨rfl, e9⟩ | ⟨a, rfl, e9⟩
    · exact lv_aloadN hx hb hd (hL.at h1) (hX C' ⟨hS, hR, hL, ⟨trivial, hv⟩, hrm, hext⟩)
    · exact lv_aload hx hb hd (hL.at h1) (hX C' ⟨hS, hR, hL, ⟨hL.2.1 _ _ h1, hv⟩, hrm, hext⟩)
  case aload_n i =>
    intro p e R s0 mid args below meth c H locs cells slots ρ al ls ρ0 al0 C V
    have C' := C
    obtain ⟨hx, hb, hml, hrt, hown, hlocks, hname, htab, hG⟩ := C
    obtain ⟨hS, hR, hL, hv, hrm, hext⟩ := V
    have hK := hG.2.2.1
    have hl : len = 1 := hlen (show (1 : Nat) ≠ 0 by decide)
    subst hl
    obtain ⟨v, h1, hrf, hX⟩ := hs
    rcases am_isrf_rn (ρ := ρ) hrf with ⟨rfl, e9⟩ | ⟨a, rfl, e9⟩
    · exact lv_aload_nN hx hb hd rfl (hL.at h1) (hX C' ⟨hS, hR, hL, ⟨trivial, hv⟩, hrm, hext⟩)
    · exact lv_aload_n hx hb hd rfl (hL.at h1) (hX C' ⟨hS, hR, hL, ⟨hL.2.1 _ _ h1, hv⟩, hrm, hext⟩)
  case istore i =>
    intro p e R s0 mid args below meth c H locs cells slots ρ al ls ρ0 al0 C V
    have C' := C
    obtain ⟨hx, hb, hml, hrt, hown, hlocks, hname, htab, hG⟩ := C
    obtain ⟨hS, hR, hL, hv, hrm, hext⟩ := V
    have hK := hG.2.2.1
    have hl : len = 2 := hlen (show (2 : Nat) ≠ 0 by decide)
    subst hl
    obtain ⟨hi, ho, x, st', rfl, hX⟩ := hs
    exact lv_istore hx hb hd hL.1 hi rfl fun ls' h' => hX C' ⟨hS, hR, hL.set hi ho rfl trivial h', hv.2, hrm, hext⟩
  case istore_n i =>
    intro p e R s0 mid args below meth c H locs cells slots ρ al ls ρ0 al0 C V
    have C' := C
    obtain ⟨hx, hb, hml, hrt, hown, hlocks, hname, htab, hG⟩ := C
    obtain ⟨hS, hR, hL, hv, hrm, hext⟩ := V
    have hK := hG.2.2.1
    have hl : len = 1 := hlen (show (1 : Nat) ≠ 0 by decide)
    subst hl
    obtain ⟨hi, ho, x, st', rfl, hX⟩ := hs
    exact lv_istore_n hx hb hd rfl hL.1 hi rfl fun ls' h' => hX C' ⟨hS, hR, hL.set hi ho rfl trivial h', hv.2, hrm, hext⟩
  case astore i =>
    intro p e R s0 mid args below meth c H locs cells slots ρ al ls ρ0 al0 C V
    have C' := C
    obtain ⟨hx, hb, hml, hrt, hown, hlocks, hname, htab, hG⟩ := C
    obtain ⟨hS, hR, hL, hv, hrm, hext⟩ := V
    have hK := hG.2.2.1
    have hl : len = 2 := hlen (show (2 : Nat) ≠ 0 by decide)
    subst hl
    obtain ⟨hi, ho, v, st', rfl, hrf, hX⟩ := hs
    rcases am_isrf_rn (ρ := ρ) hrf with ⟨rfl, e9⟩ | ⟨a, rfl, e9⟩
    · exact lv_astoreN hx hb hd hL.1 hi rfl fun ls' h' => hX C' ⟨hS, hR, hL.set hi ho rfl trivial h', hv.2, hrm, hext⟩
    · exact lv_astore hx hb hd hL.1 hi rfl fun ls' h' => hX C' ⟨hS, hR, hL.set hi ho rfl hv.1 h', hv.2, hrm, hext⟩
  case astore_n i =>
    intro p e R s0 mid args below meth c H locs cells slots ρ al ls ρ0 al0 C V
    have C' := C
    obtain ⟨hx, hb, hml, hrt, hown, hlocks, hname, htab, hG⟩ := C
    obtain ⟨hS, hR, hL, hv, hrm, hext⟩ := V
    have hK := hG.2.2.1
    have hl : len = 1 := hlen (show (1 : Nat) ≠ 0 by decide)
    subst hl
    obtain ⟨hi, ho, v, st', rfl, hrf, hX⟩ := hs
    rcases am_isrf_rn (ρ := ρ) hrf with ⟨rfl, e9⟩ | ⟨a, rfl, e9⟩
    · exact lv_astore_nN hx hb hd rfl hL.1 hi rfl fun ls' h' => hX C' ⟨hS, hR, hL.set hi ho rfl trivial h', hv.2, hrm, hext⟩
    · exact lv_astore_n hx hb hd rfl hL.1 hi rfl fun ls' h' => hX C' ⟨hS, hR, hL.set hi ho rfl hv.1 h', hv.2, hrm, hext⟩
  case lstore_n i =>
    intro p e R s0 mid args below meth c H locs cells slots ρ al ls ρ0 al0 C V
    have C' := C
    obtain ⟨hx, hb, hml, hrt, hown, hlocks, hname, htab, hG⟩ := C
    obtain ⟨hS, hR, hL, hv, hrm, hext⟩ := V
    have hK := hG.2.2.1
    have hl : len = 1 := hlen (show (1 : Nat) ≠ 0 by decide)
    subst hl
    obtain ⟨hi, ho, hp, x, st', rfl, hX⟩ := hs
    exact lv_lstore_n hx hb hd rfl hL.1 hi rfl fun ls' h' => hX C' ⟨hS, hR, hL.setL hi ho hp h', hv.2, hrm, hext⟩
  case iinc i n =>
    intro p e R s0 mid args below meth c H locs cells slots ρ al ls ρ0 al0 C V
    have C' := C
    obtain ⟨hx, hb, hml, hrt, hown, hlocks, hname, htab, hG⟩ := C
    obtain ⟨hS, hR, hL, hv, hrm, hext⟩ := V
    have hK := hG.2.2.1
    have hl : len = 3 := hlen (show (3 : Nat) ≠ 0 by decide)
    subst hl
    obtain ⟨ho, x, h1, hX⟩ := hs
    obtain ⟨k9, hk9⟩ := List.getElem?_of_mem ((am_la_mem L 0 i (am_rn ρ (.int x))).mpr ⟨.int x, i, h1, by omega, rfl⟩)
    have hi : i < L.length := (List.getElem?_eq_some_iff.mp h1).1
    exact lv_iinc hx hb hd hL.1 hk9 rfl hi rfl fun ls' h' => hX C' ⟨hS, hR, hL.set hi ho rfl trivial h', hv, hrm, hext⟩
  case iadd =>
    intro p e R s0 mid args below meth c H locs cells slots ρ al ls ρ0 al0 C V
    have C' := C
    obtain ⟨hx, hb, hml, hrt, hown, hlocks, hname, htab, hG⟩ := C
    obtain ⟨hS, hR, hL, hv, hrm, hext⟩ := V
    have hK := hG.2.2.1
    have hl : len = 1 := hlen (show (1 : Nat) ≠ 0 by decide)
    subst hl
    obtain ⟨x, y, st', rfl, hX⟩ := hs
    exact lv_iadd hx hb hd (hX C' ⟨hS, hR, hL, ⟨trivial, hv.2.2⟩, hrm, hext⟩)
  case isub =>
    intro p e R s0 mid args below meth c H locs cells slots ρ al ls ρ0 al0 C V
    have C' := C
    obtain ⟨hx, hb, hml, hrt, hown, hlocks, hname, htab, hG⟩ := C
    obtain ⟨hS, hR, hL, hv, hrm, hext⟩ := V
    have hK := hG.2.2.1
    have hl : len = 1 := hlen (show (1 : Nat) ≠ 0 by decide)
    subst hl
    obtain ⟨x, y, st', rfl, hX⟩ := hs
    exact lv_isub hx hb hd (hX C' ⟨hS, hR, hL, ⟨trivial, hv.2.2⟩, hrm, hext⟩)
  case imul =>
    intro p e R s0 mid args below meth c H locs cells slots ρ al ls ρ0 al0 C V
    have C' := C
    obtain ⟨hx, hb, hml, hrt, hown, hlocks, hname, htab, hG⟩ := C
    obtain ⟨hS, hR, hL, hv, hrm, hext⟩ := V
    have hK := hG.2.2.1
    have hl : len = 1 := hlen (show (1 : Nat) ≠ 0 by decide)
    subst hl
    obtain ⟨x, y, st', rfl, hX⟩ := hs
    exact lv_imul hx hb hd (hX C' ⟨hS, hR, hL, ⟨trivial, hv.2.2⟩, hrm, hext⟩)
  case iand =>
    intro p e R s0 mid args below meth c H locs cells slots ρ al ls ρ0 al0 C V
    have C' := C
    obtain ⟨hx, hb, hml, hrt, hown, hlocks, hname, htab, hG⟩ := C
    obtain ⟨hS, hR, hL, hv, hrm, hext⟩ := V
    have hK := hG.2.2.1
    have hl : len = 1 := hlen (show (1 : Nat) ≠ 0 by decide)
    subst hl
    obtain ⟨x, y, st', rfl, hX⟩ := hs
    exact lv_iand hx hb hd (hX C' ⟨hS, hR, hL, ⟨trivial, hv.2.2⟩, hrm, hext⟩)
  case ior =>
    intro p e R s0 mid args below meth c H locs cells slots ρ al ls ρ0 al0 C V
    have C' := C
    obtain ⟨hx, hb, hml, hrt, hown, hlocks, hname, htab, hG⟩ := C
    obtain ⟨hS, hR, hL, hv, hrm, hext⟩ := V
    have hK := hG.2.2.1
    have hl : len = 1 := hlen (show (1 : Nat) ≠ 0 by decide)
    subst hl
    obtain ⟨x, y, st', rfl, hX⟩ := hs
    exact lv_ior hx hb hd (hX C' ⟨hS, hR, hL, ⟨trivial, hv.2.2⟩, hrm, hext⟩)
  case ixor =>
    intro p e R s0 mid args below meth c H locs cells slots ρ al ls ρ0 al0 C V
    have C' := C
    obtain ⟨hx, hb, hml, hrt, hown, hlocks, hname, htab, hG⟩ := C
    obtain ⟨hS, hR, hL, hv, hrm, hext⟩ := V
    have hK := hG.2.2.1
    have hl : len = 1 := hlen (show (1 : Nat) ≠ 0 by decide)
    subst hl
    obtain ⟨x, y, st', rfl, hX⟩ := hs
    exact lv_ixor hx hb hd (hX C' ⟨hS, hR, hL, ⟨trivial, hv.2.2⟩, hrm, hext⟩)
  case ishl =>
    intro p e R s0 mid args below meth c H locs cells slots ρ al ls ρ0 al0 C V
    have C' := C
    obtain ⟨hx, hb, hml, hrt, hown, hlocks, hname, htab, hG⟩ := C
    obtain ⟨hS, hR, hL, hv, hrm, hext⟩ := V
    have hK := hG.2.2.1
    have hl : len = 1 := hlen (show (1 : Nat) ≠ 0 by decide)
    subst hl
    obtain ⟨x, y, st', rfl, hX⟩ := hs
    exact lv_ishl hx hb hd (hX C' ⟨hS, hR, hL, ⟨trivial, hv.2.2⟩, hrm, hext⟩)
  case ishr =>
    intro p e R s0 mid args below meth c H locs cells slots ρ al ls ρ0 al0 C V
    have C' := C
    obtain ⟨hx, hb, hml, hrt, hown, hlocks, hname, htab, hG⟩ := C
    obtain ⟨hS, hR, hL, hv, hrm, hext⟩ := V
    have hK := hG.2.2.1
    have hl : len = 1 := hlen (show (1 : Nat) ≠ 0 by decide)
    subst hl
    obtain ⟨x, y, st', rfl, hX⟩ := hs
    exact lv_ishr hx hb hd (hX C' ⟨hS, hR, hL, ⟨trivial, hv.2.2⟩, hrm, hext⟩)
  case ladd =>
    intro p e R s0 mid args below meth c H locs cells slots ρ al ls ρ0 al0 C V
    have C' := C
    obtain ⟨hx, hb, hml, hrt, hown, hlocks, hname, htab, hG⟩ := C
    obtain ⟨hS, hR, hL, hv, hrm, hext⟩ := V
    have hK := hG.2.2.1
    have hl : len = 1 := hlen (show (1 : Nat) ≠ 0 by decide)
    subst hl
    obtain ⟨x, y, st', rfl, hX⟩ := hs
    exact lv_ladd hx hb hd (hX C' ⟨hS, hR, hL, ⟨trivial, hv.2.2⟩, hrm, hext⟩)
  case lsub =>
    intro p e R s0 mid args below meth c H locs cells slots ρ al ls ρ0 al0 C V
    have C' := C
    obtain ⟨hx, hb, hml, hrt, hown, hlocks, hname, htab, hG⟩ := C
    obtain ⟨hS, hR, hL, hv, hrm, hext⟩ := V
    have hK := hG.2.2.1
    have hl : len = 1 := hlen (show (1 : Nat) ≠ 0 by decide)
    subst hl
    obtain ⟨x, y, st', rfl, hX⟩ := hs
    exact lv_lsub hx hb hd (hX C' ⟨hS, hR, hL, ⟨trivial, hv.2.2⟩, hrm, hext⟩)
  case lmul =>
    intro p e R s0 mid args below meth c H locs cells slots ρ al ls ρ0 al0 C V
    have C' := C
    obtain ⟨hx, hb, hml, hrt, hown, hlocks, hname, htab, hG⟩ := C
    obtain ⟨hS, hR, hL, hv, hrm, hext⟩ := V
    have hK := hG.2.2.1
    have hl : len = 1 := hlen (show (1 : Nat) ≠ 0 by decide)
    subst hl
    obtain ⟨x, y, st', rfl, hX⟩ := hs
    exact lv_lmul hx hb hd (hX C' ⟨hS, hR, hL, ⟨trivial, hv.2.2⟩, hrm, hext⟩)
  case iushr =>
    intro p e R s0 mid args below meth c H locs cells slots ρ al ls ρ0 al0 C V
    have C' := C
    obtain ⟨hx, hb, hml, hrt, hown, hlocks, hname, htab, hG⟩ := C
    obtain ⟨hS, hR, hL, hv, hrm, hext⟩ := V
    have hK := hG.2.2.1
    have hl : len = 1 := hlen (show (1 : Nat) ≠ 0 by decide)
    subst hl
    obtain ⟨x, y, st', rfl, hX⟩ := hs
    exact lv_iushr hx hb hd rfl (hX C' ⟨hS, hR, hL, ⟨trivial, hv.2.2⟩, hrm, hext⟩)
  case idiv =>
    intro p e R s0 mid args below meth c H locs cells slots ρ al ls ρ0 al0 C V
    have C' := C
    obtain ⟨hx, hb, hml, hrt, hown, hlocks, hname, htab, hG⟩ := C
    obtain ⟨hS, hR, hL, hv, hrm, hext⟩ := V
    have hK := hG.2.2.1
    have hl : len = 1 := hlen (show (1 : Nat) ≠ 0 by decide)
    subst hl
    obtain ⟨x, y, st', rfl, hne, hX⟩ := hs
    exact lv_idiv hx hb hd hne (hX C' ⟨hS, hR, hL, ⟨trivial, hv.2.2⟩, hrm, hext⟩)
  case irem =>
    intro p e R s0 mid args below meth c H locs cells slots ρ al ls ρ0 al0 C V
    have C' := C
    obtain ⟨hx, hb, hml, hrt, hown, hlocks, hname, htab, hG⟩ := C
    obtain ⟨hS, hR, hL, hv, hrm, hext⟩ := V
    have hK := hG.2.2.1
    have hl : len = 1 := hlen (show (1 : Nat) ≠ 0 by decide)
    subst hl
    obtain ⟨x, y, st', rfl, hne, hX⟩ := hs
    exact lv_irem hx hb hd hne (hX C' ⟨hS, hR, hL, ⟨trivial, hv.2.2⟩, hrm, hext⟩)
  case lcmp =>
    intro p e R s0 mid args below meth c H locs cells slots ρ al ls ρ0 al0 C V
    have C' := C
    obtain ⟨hx, hb, hml, hrt, hown, hlocks, hname, htab, hG⟩ := C
    obtain ⟨hS, hR, hL, hv, hrm, hext⟩ := V
    have hK := hG.2.2.1
    have hl : len = 1 := hlen (show (1 : Nat) ≠ 0 by decide)
    subst hl
    obtain ⟨x, y, st', rfl, hX⟩ := hs
    exact W.lcmp hx hb hd (hX C' ⟨hS, hR, hL, ⟨trivial, hv.2.2⟩, hrm, hext⟩)
  case i2l =>
    intro p e R s0 mid args below meth c H locs cells slots ρ al ls ρ0 al0 C V
    have C' := C
    obtain ⟨hx, hb, hml, hrt, hown, hlocks, hname, htab, hG⟩ := C
    obtain ⟨hS, hR, hL, hv, hrm, hext⟩ := V
    have hK := hG.2.2.1
    have hl : len = 1 := hlen (show (1 : Nat) ≠ 0 by decide)
    subst hl
    obtain ⟨x, st', rfl, hX⟩ := hs
    exact lv_i2l hx hb hd rfl (hX C' ⟨hS, hR, hL, ⟨trivial, hv.2⟩, hrm, hext⟩)
  case i2c =>
    intro p e R s0 mid args below meth c H locs cells slots ρ al ls ρ0 al0 C V
    have C' := C
    obtain ⟨hx, hb, hml, hrt, hown, hlocks, hname, htab, hG⟩ := C
    obtain ⟨hS, hR, hL, hv, hrm, hext⟩ := V
    have hK := hG.2.2.1
    have hl : len = 1 := hlen (show (1 : Nat) ≠ 0 by decide)
    subst hl
    obtain ⟨x, st', rfl, hX⟩ := hs
    exact lv_i2c hx hb hd rfl (hX C' ⟨hS, hR, hL, ⟨trivial, hv.2⟩, hrm, hext⟩)
  case dup =>
    intro p e R s0 mid args below meth c H locs cells slots ρ al ls ρ0 al0 C V
    have C' := C
    obtain ⟨hx, hb, hml, hrt, hown, hlocks, hname, htab, hG⟩ := C
    obtain ⟨hS, hR, hL, hv, hrm, hext⟩ := V
    have hK := hG.2.2.1
    have hl : len = 1 := hlen (show (1 : Nat) ≠ 0 by decide)
    subst hl
    obtain ⟨v, st', rfl, hc1, hX⟩ := hs
    exact lv_dup hx hb hd (am_cat_rn.trans hc1) (hX C' ⟨hS, hR, hL, ⟨hv.1, hv⟩, hrm, hext⟩)
  case pop =>
    intro p e R s0 mid args below meth c H locs cells slots ρ al ls ρ0 al0 C V
    have C' := C
    obtain ⟨hx, hb, hml, hrt, hown, hlocks, hname, htab, hG⟩ := C
    obtain ⟨hS, hR, hL, hv, hrm, hext⟩ := V
    have hK := hG.2.2.1
    have hl : len = 1 := hlen (show (1 : Nat) ≠ 0 by decide)
    subst hl
    obtain ⟨v, st', rfl, hc1, hX⟩ := hs
    exact lv_pop hx hb hd (am_cat_rn.trans hc1) (hX C' ⟨hS, hR, hL, hv.2, hrm, hext⟩)
  case dup_x1 =>
    intro p e R s0 mid args below meth c H locs cells slots ρ al ls ρ0 al0 C V
    have C' := C
    obtain ⟨hx, hb, hml, hrt, hown, hlocks, hname, htab, hG⟩ := C
    obtain ⟨hS, hR, hL, hv, hrm, hext⟩ := V
    have hK := hG.2.2.1
    have hl : len = 1 := hlen (show (1 : Nat) ≠ 0 by decide)
    subst hl
    obtain ⟨v, w, st', rfl, hc1, hc2, hX⟩ := hs
    exact lv_dup_x1 hx hb hd (am_cat_rn.trans hc1) (am_cat_rn.trans hc2) (hX C' ⟨hS, hR, hL, ⟨hv.1, hv.2.1, hv.1, hv.2.2⟩, hrm, hext⟩)
  case dup2 =>
    intro p e R s0 mid args below meth c H locs cells slots ρ al ls ρ0 al0 C V
    have C' := C
    obtain ⟨hx, hb, hml, hrt, hown, hlocks, hname, htab, hG⟩ := C
    obtain ⟨hS, hR, hL, hv, hrm, hext⟩ := V
    have hK := hG.2.2.1
    have hl : len = 1 := hlen (show (1 : Nat) ≠ 0 by decide)
    subst hl
    obtain ⟨v, w, st', rfl, hc1, hc2, hX⟩ := hs
    exact lv_dup2_11 hx hb hd (am_cat_rn.trans hc1) (am_cat_rn.trans hc2) (hX C' ⟨hS, hR, hL, ⟨hv.1, hv.2.1, hv⟩, hrm, hext⟩)
  case ifCond cond off =>
    intro p e R s0 mid args below meth c H locs cells slots ρ al ls ρ0 al0 C V
    have C' := C
    obtain ⟨hx, hb, hml, hrt, hown, hlocks, hname, htab, hG⟩ := C
    obtain ⟨hS, hR, hL, hv, hrm, hext⟩ := V
    have hK := hG.2.2.1
    have hl : len = 3 := hlen (show (3 : Nat) ≠ 0 by decide)
    subst hl
    obtain ⟨x, st', rfl, h1, h2⟩ := hs
    cases cond
    · exact lv_if_eq hx hb hd (am_tgt_eq hlk) (fun z => h1 z C' ⟨hS, hR, hL, hv.2, hrm, hext⟩) (fun z => h2 z C' ⟨hS, hR, hL, hv.2, hrm, hext⟩)
    · exact lv_if_ne hx hb hd (am_tgt_eq hlk) (fun z => h1 z C' ⟨hS, hR, hL, hv.2, hrm, hext⟩) (fun z => h2 (fun z2 => z2 z) C' ⟨hS, hR, hL, hv.2, hrm, hext⟩)
    · exact lv_if_lt hx hb hd (am_tgt_eq hlk) (fun z => h1 z C' ⟨hS, hR, hL, hv.2, hrm, hext⟩) (fun z => h2 z C' ⟨hS, hR, hL, hv.2, hrm, hext⟩)
    · exact lv_if_ge hx hb hd (am_tgt_eq hlk) (fun z => h1 z C' ⟨hS, hR, hL, hv.2, hrm, hext⟩) (fun z => h2 z C' ⟨hS, hR, hL, hv.2, hrm, hext⟩)
    · exact lv_if_gt hx hb hd (am_tgt_eq hlk) (fun z => h1 z C' ⟨hS, hR, hL, hv.2, hrm, hext⟩) (fun z => h2 z C' ⟨hS, hR, hL, hv.2, hrm, hext⟩)
    · exact lv_if_le hx hb hd (am_tgt_eq hlk) (fun z => h1 z C' ⟨hS, hR, hL, hv.2, hrm, hext⟩) (fun z => h2 z C' ⟨hS, hR, hL, hv.2, hrm, hext⟩)
  case if_icmp cond off =>
    intro p e R s0 mid args below meth c H locs cells slots ρ al ls ρ0 al0 C V
    have C' := C
    obtain ⟨hx, hb, hml, hrt, hown, hlocks, hname, htab, hG⟩ := C
    obtain ⟨hS, hR, hL, hv, hrm, hext⟩ := V
    have hK := hG.2.2.1
    have hl : len = 3 := hlen (show (3 : Nat) ≠ 0 by decide)
    subst hl
    obtain ⟨x, y, st', rfl, h1, h2⟩ := hs
    cases cond
    · exact lv_icmp_eq hx hb hd (am_tgt_eq hlk) (fun z => h1 z C' ⟨hS, hR, hL, hv.2.2, hrm, hext⟩) (fun z => h2 z C' ⟨hS, hR, hL, hv.2.2, hrm, hext⟩)
    · exact lv_icmp_ne hx hb hd (am_tgt_eq hlk) (fun z => h1 z C' ⟨hS, hR, hL, hv.2.2, hrm, hext⟩) (fun z => h2 (fun z2 => z2 z) C' ⟨hS, hR, hL, hv.2.2, hrm, hext⟩)
    · exact lv_icmp_lt hx hb hd (am_tgt_eq hlk) (fun z => h1 z C' ⟨hS, hR, hL, hv.2.2, hrm, hext⟩) (fun z => h2 z C' ⟨hS, hR, hL, hv.2.2, hrm, hext⟩)
    · exact lv_icmp_ge hx hb hd (am_tgt_eq hlk) (fun z => h1 z C' ⟨hS, hR, hL, hv.2.2, hrm, hext⟩) (fun z => h2 z C' ⟨hS, hR, hL, hv.2.2, hrm, hext⟩)
    · exact lv_icmp_gt hx hb hd (am_tgt_eq hlk) (fun z => h1 z C' ⟨hS, hR, hL, hv.2.2, hrm, hext⟩) (fun z => h2 z C' ⟨hS, hR, hL, hv.2.2, hrm, hext⟩)
    · exact lv_icmp_le hx hb hd (am_tgt_eq hlk) (fun z => h1 z C' ⟨hS, hR, hL, hv.2.2, hrm, hext⟩) (fun z => h2 z C' ⟨hS, hR, hL, hv.2.2, hrm, hext⟩)
  case ifnull off =>
    intro p e R s0 mid args below meth c H locs cells slots ρ al ls ρ0 al0 C V
    have C' := C
    obtain ⟨hx, hb, hml, hrt, hown, hlocks, hname, htab, hG⟩ := C
    obtain ⟨hS, hR, hL, hv, hrm, hext⟩ := V
    have hK := hG.2.2.1
    have hl : len = 3 := hlen (show (3 : Nat) ≠ 0 by decide)
    subst hl
    obtain ⟨r, st', rfl, h1, h2⟩ := hs
    cases r
    · exact lv_ifnullN hx hb hd (am_tgt_eq hlk) (h1 rfl C' ⟨hS, hR, hL, hv.2, hrm, hext⟩)
    · exact lv_ifnull hx hb hd (h2 (by simp) C' ⟨hS, hR, hL, hv.2, hrm, hext⟩)
  case ifnonnull off =>
    intro p e R s0 mid args below meth c H locs cells slots ρ al ls ρ0 al0 C V
    have C' := C
    obtain ⟨hx, hb, hml, hrt, hown, hlocks, hname, htab, hG⟩ := C
    obtain ⟨hS, hR, hL, hv, hrm, hext⟩ := V
    have hK := hG.2.2.1
    have hl : len = 3 := hlen (show (3 : Nat) ≠ 0 by decide)
    subst hl
    obtain ⟨r, st', rfl, h1, h2⟩ := hs
    cases r
    · exact lv_ifnonnullN hx hb hd (h2 rfl C' ⟨hS, hR, hL, hv.2, hrm, hext⟩)
    · exact lv_ifnonnull hx hb hd (am_tgt_eq hlk) (h1 (by simp) C' ⟨hS, hR, hL, hv.2, hrm, hext⟩)
  case goto off =>
    intro p e R s0 mid args below meth c H locs cells slots ρ al ls ρ0 al0 C V
    have C' := C
    obtain ⟨hx, hb, hml, hrt, hown, hlocks, hname, htab, hG⟩ := C
    obtain ⟨hS, hR, hL, hv, hrm, hext⟩ := V
    have hK := hG.2.2.1
    have hl : len = 3 := hlen (show (3 : Nat) ≠ 0 by decide)
    subst hl
    exact lv_goto hx hb hd (am_tgt_eq hlk) (hs C' ⟨hS, hR, hL, hv, hrm, hext⟩)
  case if_acmp cond off =>
    intro p e R s0 mid args below meth c H locs cells slots ρ al ls ρ0 al0 C V
    have C' := C
    obtain ⟨hx, hb, hml, hrt, hown, hlocks, hname, htab, hG⟩ := C
    obtain ⟨hS, hR, hL, hv, hrm, hext⟩ := V
    have hK := hG.2.2.1
    have hl : len = 3 := hlen (show (3 : Nat) ≠ 0 by decide)
    subst hl
    cases cond
    · obtain ⟨r, q, st', rfl, h1, h2⟩ := hs
      have hiff : r.map ρ = q.map ρ ↔ r = q := am_map_inj hR hv.2.1 hv.1
      have hgo := lv_acmp_eq (p := p) (l := l) (e := e) (R := R) (s := s0) (m := mid) (args := args) (below := below) (meth := meth) (c := c) (H := H) (locs := locs) (cells := cells) (slots := slots) (Q := vx_MQ below (am_Qc D tc sz0 b0 Q ρ0 al0) (am_XC D tc sz0 b0 Q ρ0 al0) args s0 R.cells R.slots (am_A sz0)) (ls := ls) (rest := st'.map (am_rn ρ)) (rx := r.map ρ) (ry := q.map ρ) hx hb hd (am_tgt_eq hlk) (fun z => h1 (hiff.mp z) C' ⟨hS, hR, hL, hv.2.2, hrm, hext⟩) (fun z => h2 (fun z2 => z (hiff.mpr z2)) C' ⟨hS, hR, hL, hv.2.2, hrm, hext⟩)
      simpa only [List.map_cons, am_rf_map] using hgo
    · obtain ⟨r, q, st', rfl, h1, h2⟩ := hs
      have hiff : r.map ρ = q.map ρ ↔ r = q := am_map_inj hR hv.2.1 hv.1
      have hgo := lv_acmp_ne (p := p) (l := l) (e := e) (R := R) (s := s0) (m := mid) (args := args) (below := below) (meth := meth) (c := c) (H := H) (locs := locs) (cells := cells) (slots := slots) (Q := vx_MQ below (am_Qc D tc sz0 b0 Q ρ0 al0) (am_XC D tc sz0 b0 Q ρ0 al0) args s0 R.cells R.slots (am_A sz0)) (ls := ls) (rest := st'.map (am_rn ρ)) (rx := r.map ρ) (ry := q.map ρ) hx hb hd (am_tgt_eq hlk) (fun z => h1 (fun z2 => z (hiff.mpr z2)) C' ⟨hS, hR, hL, hv.2.2, hrm, hext⟩) (fun z => h2 (hiff.mp z) C' ⟨hS, hR, hL, hv.2.2, hrm, hext⟩)
      simpa only [List.map_cons, am_rf_map] using hgo
  case tableswitch df lo hi offs =>
    intro p e R s0 mid args below meth c H locs cells slots ρ al ls ρ0 al0 C V
    have C' := C
    obtain ⟨hx, hb, hml, hrt, hown, hlocks, hname, htab, hG⟩ := C
    obtain ⟨hS, hR, hL, hv, hrm, hext⟩ := V
    have hK := hG.2.2.1
    obtain ⟨x, st', rfl, h1, h2⟩ := hs
    obtain ⟨k1, k2, k3⟩ := hlk
    by_cases hr1 : x.toInt < lo ∨ hi < x.toInt
    · exact lv_tableOut hx hb hd hr1 (am_tgt_eq k1) (h1 hr1 C' ⟨hS, hR, hL, hv.2, hrm, hext⟩)
    · have g1 : ¬ x.toInt < lo := fun z => hr1 (Or.inl z)
      have g2 : ¬ hi < x.toInt := fun z => hr1 (Or.inr z)
      have g3 : (x.toInt - lo).toNat < offs.size := by omega
      have g4 : offs[(x.toInt - lo).toNat]? = some offs[(x.toInt - lo).toNat] := Array.getElem?_eq_getElem g3
      exact lv_tableIn hx hb hd g1 g2 g4 (am_tgt_eq (k2 _ (by simp))) (h2 _ _ g4 (by omega) C' ⟨hS, hR, hL, hv.2, hrm, hext⟩)
  case getfield i =>
    intro p e R s0 mid args below meth c H locs cells slots ρ al ls ρ0 al0 C V
    have C' := C
    obtain ⟨hx, hb, hml, hrt, hown, hlocks, hname, htab, hG⟩ := C
    obtain ⟨hS, hR, hL, hv, hrm, hext⟩ := V
    have hK := hG.2.2.1
    have hl : len = 3 := hlen (show (3 : Nat) ≠ 0 by decide)
    subst hl
    obtain ⟨a, st', rfl, ht, hX⟩ := hs
    rcases hlk with ⟨h10, hk9, ref, hl1, hl2⟩ | h18
    · exact w_get hx hb hG.1 hown hK hR hv.1 ht h10 hk9 hl1 hl2 hd (hX C' ⟨hS, hR, hL, ⟨am_fv_ok hR hv.1 _ _, hv.2⟩, hrm, hext⟩)
    · have h19 := (hR.1 a hv.1).1
      have h9 : (am_TY a).1 = r1 := ht
      have h18' : 19 < r1 := h18
      omega
  case iaload =>
    intro p e R s0 mid args below meth c H locs cells slots ρ al ls ρ0 al0 C V
    have C' := C
    obtain ⟨hx, hb, hml, hrt, hown, hlocks, hname, htab, hG⟩ := C
    obtain ⟨hS, hR, hL, hv, hrm, hext⟩ := V
    have hK := hG.2.2.1
    have hl : len = 1 := hlen (show (1 : Nat) ≠ 0 by decide)
    subst hl
    obtain ⟨i, a, st', rfl, ht, hin, hX⟩ := hs
    exact w_iald hx hb hK hG.2.2.2.2.2.2.2.2 hR hv.2.1 ht hin hd (hX C' ⟨hS, hR, hL, ⟨trivial, hv.2.2⟩, hrm, hext⟩)
  case baload =>
    intro p e R s0 mid args below meth c H locs cells slots ρ al ls ρ0 al0 C V
    have C' := C
    obtain ⟨hx, hb, hml, hrt, hown, hlocks, hname, htab, hG⟩ := C
    obtain ⟨hS, hR, hL, hv, hrm, hext⟩ := V
    have hK := hG.2.2.1
    have hl : len = 1 := hlen (show (1 : Nat) ≠ 0 by decide)
    subst hl
    obtain ⟨i, a, st', rfl, ht, hin, hX⟩ := hs
    exact w_zald hx hb hK hR hv.2.1 ht hin hd (hX C' ⟨hS, hR, hL, ⟨trivial, hv.2.2⟩, hrm, hext⟩)
  case caload =>
    intro p e R s0 mid args below meth c H locs cells slots ρ al ls ρ0 al0 C V
    have C' := C
    obtain ⟨hx, hb, hml, hrt, hown, hlocks, hname, htab, hG⟩ := C
    obtain ⟨hS, hR, hL, hv, hrm, hext⟩ := V
    have hK := hG.2.2.1
    have hl : len = 1 := hlen (show (1 : Nat) ≠ 0 by decide)
    subst hl
    obtain ⟨i, a, st', rfl, ht, hin, hX⟩ := hs
    exact w_cald hx hb hK hR hv.2.1 ht hin hd (hX C' ⟨hS, hR, hL, ⟨trivial, hv.2.2⟩, hrm, hext⟩)
  case laload =>
    intro p e R s0 mid args below meth c H locs cells slots ρ al ls ρ0 al0 C V
    have C' := C
    obtain ⟨hx, hb, hml, hrt, hown, hlocks, hname, htab, hG⟩ := C
    obtain ⟨hS, hR, hL, hv, hrm, hext⟩ := V
    have hK := hG.2.2.1
    have hl : len = 1 := hlen (show (1 : Nat) ≠ 0 by decide)
    subst hl
    obtain ⟨i, a, st', rfl, ht, hin, hX⟩ := hs
    exact w_lald hx hb hK hR hv.2.1 ht hin hd (hX C' ⟨hS, hR, hL, ⟨trivial, hv.2.2⟩, hrm, hext⟩)
  case aaload =>
    intro p e R s0 mid args below meth c H locs cells slots ρ al ls ρ0 al0 C V
    have C' := C
    obtain ⟨hx, hb, hml, hrt, hown, hlocks, hname, htab, hG⟩ := C
    obtain ⟨hS, hR, hL, hv, hrm, hext⟩ := V
    have hK := hG.2.2.1
    have hl : len = 1 := hlen (show (1 : Nat) ≠ 0 by decide)
    subst hl
    obtain ⟨i, a, st', rfl, h14, h17, hin, hX⟩ := hs
    exact w_aald hx hb hK hR hv.2.1 h14 h17 hin hd (hX C' ⟨hS, hR, hL, ⟨am_rf_ok hR hv.2.1 _, hv.2.2⟩, hrm, hext⟩)
  case arraylength =>
    intro p e R s0 mid args below meth c H locs cells slots ρ al ls ρ0 al0 C V
    have C' := C
    obtain ⟨hx, hb, hml, hrt, hown, hlocks, hname, htab, hG⟩ := C
    obtain ⟨hS, hR, hL, hv, hrm, hext⟩ := V
    have hK := hG.2.2.1
    have hl : len = 1 := hlen (show (1 : Nat) ≠ 0 by decide)
    subst hl
    obtain ⟨a, st', rfl, h10, h18, hX⟩ := hs
    exact w_alen hx hb hK hG.2.2.2.2.2.2.2.2 hR hv.1 h10 h18 hd (hX C' ⟨hS, hR, hL, ⟨trivial, hv.2⟩, hrm, hext⟩)
  case iastore =>
    intro p e R s0 mid args below meth c H locs cells slots ρ al ls ρ0 al0 C V
    have C' := C
    obtain ⟨hx, hb, hml, hrt, hown, hlocks, hname, htab, hG⟩ := C
    obtain ⟨hS, hR, hL, hv, hrm, hext⟩ := V
    have hK := hG.2.2.1
    have hl : len = 1 := hlen (show (1 : Nat) ≠ 0 by decide)
    subst hl
    obtain ⟨x, i, a, st', rfl, ht, hin, hX⟩ := hs
    exact w_iast hx hb hK hR hS hv.2.2.1 ht hin hd (fun H' locs' hR' hS' => hX C' ⟨hS', hR', hL, hv.2.2.2, hrm, hext⟩)
  case bastore =>
    intro p e R s0 mid args below meth c H locs cells slots ρ al ls ρ0 al0 C V
    have C' := C
    obtain ⟨hx, hb, hml, hrt, hown, hlocks, hname, htab, hG⟩ := C
    obtain ⟨hS, hR, hL, hv, hrm, hext⟩ := V
    have hK := hG.2.2.1
    have hl : len = 1 := hlen (show (1 : Nat) ≠ 0 by decide)
    subst hl
    obtain ⟨x, i, a, st', rfl, ht, hin, ho, hX⟩ := hs
    exact w_zast hx hb hK hR hS hv.2.2.1 ht hin ho hd (fun H' locs' hR' hS' => hX C' ⟨hS', hR', hL, hv.2.2.2, hrm, hext⟩)
  case castore =>
    intro p e R s0 mid args below meth c H locs cells slots ρ al ls ρ0 al0 C V
    have C' := C
    obtain ⟨hx, hb, hml, hrt, hown, hlocks, hname, htab, hG⟩ := C
    obtain ⟨hS, hR, hL, hv, hrm, hext⟩ := V
    have hK := hG.2.2.1
    have hl : len = 1 := hlen (show (1 : Nat) ≠ 0 by decide)
    subst hl
    obtain ⟨x, i, a, st', rfl, ht, hin, ho, hX⟩ := hs
    exact w_cast hx hb hK hR hS hv.2.2.1 ht hin ho hd (fun H' locs' hR' hS' => hX C' ⟨hS', hR', hL, hv.2.2.2, hrm, hext⟩)
  case lastore =>
    intro p e R s0 mid args below meth c H locs cells slots ρ al ls ρ0 al0 C V
    have C' := C
    obtain ⟨hx, hb, hml, hrt, hown, hlocks, hname, htab, hG⟩ := C
    obtain ⟨hS, hR, hL, hv, hrm, hext⟩ := V
    have hK := hG.2.2.1
    have hl : len = 1 := hlen (show (1 : Nat) ≠ 0 by decide)
    subst hl
    obtain ⟨x, i, a, st', rfl, ht, hin, hX⟩ := hs
    exact w_last hx hb hK hR hS hv.2.2.1 ht hin hd (fun H' locs' hR' hS' => hX C' ⟨hS', hR', hL, hv.2.2.2, hrm, hext⟩)
  case aastore =>
    intro p e R s0 mid args below meth c H locs cells slots ρ al ls ρ0 al0 C V
    have C' := C
    obtain ⟨hx, hb, hml, hrt, hown, hlocks, hname, htab, hG⟩ := C
    obtain ⟨hS, hR, hL, hv, hrm, hext⟩ := V
    have hK := hG.2.2.1
    have hl : len = 1 := hlen (show (1 : Nat) ≠ 0 by decide)
    subst hl
    obtain ⟨r, i, a, st', rfl, hin, hel, h14, h16, hX⟩ := hs
    exact w_aast hx hb hG.1 hK hR hS hv.2.2.1 (fun b hb => ⟨by have := hv.1; rw [hb] at this; exact this, hel b hb⟩) h14 h16 hin hd (fun H' locs' hR' hS' => hX C' ⟨hS', hR', hL, hv.2.2.2, hrm, hext⟩)
  case checkcast i =>
    intro p e R s0 mid args below meth c H locs cells slots ρ al ls ρ0 al0 C V
    have C' := C
    obtain ⟨hx, hb, hml, hrt, hown, hlocks, hname, htab, hG⟩ := C
    obtain ⟨hS, hR, hL, hv, hrm, hext⟩ := V
    have hK := hG.2.2.1
    have hl : len = 3 := hlen (show (3 : Nat) ≠ 0 by decide)
    subst hl
    obtain ⟨v, st', rfl, hrf, hc1, hX⟩ := hs
    rcases am_isrf_rn (ρ := ρ) hrf with ⟨rfl, e9⟩ | ⟨a, rfl, e9⟩
    · exact lv_castN hx hb hd (hX C' ⟨hS, hR, hL, hv, hrm, hext⟩)
    · rcases hlk with ⟨h10, hl1⟩ | h18 | ⟨h10a, hlA⟩
      rotate_right
      · have ht : (am_TY a).1 = 10 := (hc1 a rfl).trans h10a
        have f2 := hR.at hv.1 (by rw [ht]; decide)
        rw [am_E_i (Or.inl ht), ht] at f2
        exact va_castA hx hb hown (hG.1 args _ hlA rfl) (va_P1 f2) 0 rfl (va_nm_int (hK.2 0 _ rfl).2) hd (hX C' ⟨hS, hR, hL, hv, hrm, hext⟩)
      · have ht : (am_TY a).1 = r1 := hc1 a rfl
        have h10' : r1 < 10 := h10
        have f2 := hR.at hv.1 (by rw [ht]; omega)
        rw [am_E_o (by rw [ht]; exact h10), ht] at f2
        obtain ⟨r', hr', cellV, g1, g2, g3, -⟩ := f2
        have hcls := (hK.1 r1 _ (am_cl_at h10)).2
        exact va_castS hx hb hown (hG.1 args _ hl1 rfl) hcls ⟨cellV, g1, by rw [g3]; rfl, by rw [g2]; exact hcls.1⟩ hd (hX C' ⟨hS, hR, hL, hv, hrm, hext⟩)
      · have h19 := (hR.1 a hv.1).1
        have h9 : (am_TY a).1 = r1 := hc1 a rfl
        have h18' : 19 < r1 := h18
        omega
  case ireturn =>
    intro p e R s0 mid args below meth c H locs cells slots ρ al ls ρ0 al0 C V
    have C' := C
    obtain ⟨hx, hb, hml, hrt, hown, hlocks, hname, htab, hG⟩ := C
    obtain ⟨hS, hR, hL, hv, hrm, hext⟩ := V
    have hK := hG.2.2.1
    have hl : len = 1 := hlen (show (1 : Nat) ≠ 0 by decide)
    subst hl
    obtain ⟨x, ty, rfl, hty, hok, hQ⟩ := hs
    refine W.widen (by omega) (by omega) (vx_ret (W.zret (ty := ty) hx hb (hrt.trans hty) ?_ (fun t ht hW => ⟨some (.int x), ρ, al, B, I, P, G, rfl, ⟨trivial, trivial⟩, hQ, by rw [ht]; exact hR, hext, by rw [va_F, ht]; exact ⟨hS.1, hS.2.1⟩⟩) hS.2.2 hd hlocks))
    cases hr9 : am_isR ty
    · exact (am_nar hr9 hok).1
    · cases ty <;> simp [am_isR, am_okx] at hr9 hok
  case lreturn =>
    intro p e R s0 mid args below meth c H locs cells slots ρ al ls ρ0 al0 C V
    have C' := C
    obtain ⟨hx, hb, hml, hrt, hown, hlocks, hname, htab, hG⟩ := C
    obtain ⟨hS, hR, hL, hv, hrm, hext⟩ := V
    have hK := hG.2.2.1
    have hl : len = 1 := hlen (show (1 : Nat) ≠ 0 by decide)
    subst hl
    obtain ⟨x, rfl, hty, hQ⟩ := hs
    exact W.widen (by omega) (by omega) (vx_ret (W.lret hx hb (hrt.trans hty) (fun t ht hW => ⟨some (.long x), ρ, al, B, I, P, G, rfl, ⟨trivial, trivial⟩, hQ, by rw [ht]; exact hR, hext, by rw [va_F, ht]; exact ⟨hS.1, hS.2.1⟩⟩) hS.2.2 hd hlocks))
  case areturn =>
    intro p e R s0 mid args below meth c H locs cells slots ρ al ls ρ0 al0 C V
    have C' := C
    obtain ⟨hx, hb, hml, hrt, hown, hlocks, hname, htab, hG⟩ := C
    obtain ⟨hS, hR, hL, hv, hrm, hext⟩ := V
    have hK := hG.2.2.1
    have hl : len = 1 := hlen (show (1 : Nat) ≠ 0 by decide)
    subst hl
    obtain ⟨v, ty, rfl, hrf, hty, hr9, hQ⟩ := hs
    refine W.widen (by omega) (by omega) (vx_ret (W.aret (rt := ty) hx hb (hrt.trans hty) ?_ ?_ (fun t ht hW => ⟨some v, ρ, al, B, I, P, G, rfl, hv, hQ, by rw [ht]; exact hR, hext, by rw [va_F, ht]; exact ⟨hS.1, hS.2.1⟩⟩) hS.2.2 hd hlocks))
    · cases ty <;> simp [am_isR] at hr9 ⊢
    · rcases am_isrf_rn (ρ := ρ) hrf with ⟨_, e9⟩ | ⟨a, _, e9⟩
      · exact Or.inl e9
      · exact Or.inr ⟨_, e9⟩
  case return_ =>
    intro p e R s0 mid args below meth c H locs cells slots ρ al ls ρ0 al0 C V
    have C' := C
    obtain ⟨hx, hb, hml, hrt, hown, hlocks, hname, htab, hG⟩ := C
    obtain ⟨hS, hR, hL, hv, hrm, hext⟩ := V
    have hK := hG.2.2.1
    have hl : len = 1 := hlen (show (1 : Nat) ≠ 0 by decide)
    subst hl
    obtain ⟨rfl, hty, hQ⟩ := hs
    exact W.widen (by omega) (by omega) (vx_ret (W.vret hx hb (hrt.trans hty) (fun t ht hW => ⟨none, ρ, al, B, I, P, G, rfl, trivial, hQ, by rw [ht]; exact hR, hext, by rw [va_F, ht]; exact ⟨hS.1, hS.2.1⟩⟩) hS.2.2 hd hlocks))
  case new i => exact hrest trivial
  case multianewarray i d => exact hrest trivial
  case invokevirtual i => exact hrest trivial
  case invokespecial i => exact hrest trivial
  case invokestatic i => exact hrest trivial
  case getstatic i => exact hrest trivial
  case putfield i => exact hrest trivial
  case newarray i => exact hrest trivial
  case anewarray i => exact hrest trivial
  all_goals exact absurd hs id
end ST
