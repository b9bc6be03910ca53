/-! SOUNDNESS: roles may be left out; a world of its own -/
theorem am_R.raise {D : va_G} {tc : Nat → ClassId} {sz0 b0 : Nat} {ρ : Nat → Nat} {al : Nat → Prop} {B B2 : Nat} {I : am_I} {P : am_P} {G : am_G} {H : Heap} (h : am_R D tc sz0 b0 ρ al B I P G H) (hB : B ≤ B2) : am_R D tc sz0 b0 ρ al B2 I P G H :=
  ⟨fun a ha => ⟨(h.1 a ha).1, (h.1 a ha).2.1, (h.1 a ha).2.2.1.imp (fun q => Nat.lt_of_lt_of_le q hB) id, (h.1 a ha).2.2.2⟩, h.2⟩
theorem am_Snd_B {l : Launch} {D : va_G} {tc : Nat → ClassId} {sz0 b0 : Nat} {m pc : Nat} {L : List (Option Value)} {st : List Value} {B B2 : Nat} {I : am_I} {P : am_P} {G : am_G} {k sl d : Nat} {Q : am_Q} (h : am_Snd l D tc sz0 b0 m pc L st B2 I P G k sl d Q) (hB : B ≤ B2) : am_Snd l D tc sz0 b0 m pc L st B I P G k sl d Q := by
  intro p e R s0 mid args below meth c H locs cells slots ρ al ls ρ0 al0 C V
  obtain ⟨hS, hR, hL, hv, hrm, hext⟩ := V
  exact h C ⟨hS, hR.raise hB, hL, hv, hrm, hext⟩
theorem am_Gd.up {D : va_G} {tc : Nat → ClassId} {sz0 sz1 b0 : Nat} {U : State} {H : Heap} (h : am_Gd D tc sz0 b0 U H) (h1 : sz0 ≤ sz1) (h2 : sz1 ≤ H.size) : am_Gd D tc sz1 b0 U H := by
  obtain ⟨a1, a2, a3, a0, a4, a5, a6, a7, a8⟩ := h
  exact ⟨a1, a2, a3, h2, a4.narrow (fun q (z : sz1 ≤ q) => Nat.le_trans h1 z), a5.narrow (fun q (z : sz1 ≤ q) => Nat.le_trans h1 z), a6.narrow (fun q (z : sz1 ≤ q) => Nat.le_trans h1 z), a7, a8⟩
