/-! SOUNDNESS: throws -/
section SX
variable {l : Launch} {D : va_G} {tc : Nat → ClassId} {sz0 b0 : Nat}
theorem am_R.kept {ρ : Nat → Nat} {al : Nat → Prop} {B : Nat} {I : am_I} {P : am_P} {G : am_G} {H H' : Heap} (h : am_R D tc sz0 b0 ρ al B I P G H) (hq : ∀ q : Nat, q < H.size → H'[q]? = H[q]?) : am_R D tc sz0 b0 ρ al B I P G H' :=
  ⟨fun a ha => ⟨(h.1 a ha).1, (h.1 a ha).2.1.kept (hq _ (h.lt ha)), (h.1 a ha).2.2⟩, h.2⟩
set_option maxHeartbeats 8000000 in
theorem am_snd3 (hl : l.stackTraces = false) {m pc : Nat} {e0 : am_e} (hk0 : am_okE m pc e0) (hm0 : am_hh m = []) {L : List (Option Value)} {st : List Value} {B : Nat} {I : am_I} {P : am_P} {G : am_G} {k sl d : Nat} {Q : am_Q} (hs : am_St (am_Snd l D tc sz0 b0) e0 m pc L st B I P G k sl d Q)
    (hrest : (match e0.1 with | .multianewarray _ _ => True | .invokestatic _ => 903 ≤ e0.2.2.1 | _ => False) → am_Snd l D tc sz0 b0 m pc L st B I P G k sl d Q) : am_Snd l D tc sz0 b0 m pc L st B I P G k sl d Q := by
  refine am_snd2 hk0 hm0 hs fun hcase => ?_
  obtain ⟨ins, len, r1, r2⟩ := e0
  obtain ⟨hd, hlen, hlk⟩ := hk0
  dsimp only at hd hlen hlk hs hrest hcase
  cases ins
  case multianewarray i d => exact hrest trivial
  case invokestatic i => exact hrest hcase
  case new i =>
    intro p e R s0 mid args below meth c H locs cells slots ρ al ls ρ0 al0 C V
    have C' := C
    obtain ⟨hx, hb, hml, hrt, hown, hlocks, hname, htab, hG⟩ := C
    obtain ⟨hS, hR, hL, hv, hrm, hext⟩ := V
    have hl3 : len = 3 := hlen (show (3 : Nat) ≠ 0 by decide)
    subst hl3
    rcases hs with ⟨h200, h205, h8, hk1, hs6, hQ⟩ | ⟨h10, _⟩
    · have h200' : 200 ≤ r1 := h200
      have h205' : r1 < 205 := h205
      obtain ⟨hcl, is, ic, text, d3, d469, k1, k2, k3, k4⟩ := hlk.2 h200 h205
      obtain ⟨sa, hstr⟩ := hG.2.1 is text k3
      have hcls : Bundle.fit (am_exn (r1 - 200)) = true := by
        have h : r1 - 200 = 0 ∨ r1 - 200 = 1 ∨ r1 - 200 = 2 ∨ r1 - 200 = 3 ∨ r1 - 200 = 4 := by omega
        rcases h with h | h | h | h | h <;> rw [h] <;> decide +kernel
      rcases htab with htab | ⟨_, hn⟩
      case inr => exact (hn _ _ _ _ _ hQ).elim
      have hsum := am_cats (st.map (am_rn ρ))
      rw [List.length_map] at hsum
      have hown' := hown
      rw [hcl] at hown'
      by_cases h3 : r1 - 200 = 3
      · unfold am_thrW at k4
        rw [if_pos h3, hcl] at k4
        rcases d469 with ⟨d4, d6, d9⟩ | ⟨d4, d6, d9⟩
        · refine am_throwX (own := "SaywhatSeen") (A := am_A sz0) (names := ["java/lang/Exception"]) (sa := sa) (is := is) (ic := ic) (text := text) (cls := am_exn (r1 - 200)) (ix := 13) (rx := am_nseB) (Y9 := "java/lang/RuntimeException") hx hb hl (by decide +kernel) (by decide +kernel) (by decide +kernel) (by decide +kernel) (by decide +kernel) hown' hcls (by decide +kernel) (by have := hG.1 args _ k1 rfl; rw [hcl] at this; exact this) (hG.1 args _ k2 rfl) hstr
            (fun w hw => hG.1 args w (k4 w hw).1 (k4 w hw).2.1) (fun w hw => ?_) hG.2.2.2.2.1 hG.2.2.2.2.2.1 hS (am_rl_nL C' hL).symm hd d3 d4 d6 d9 ?_ ?_ ?_ (by omega) (by omega) hlocks (fun t ht1 ht2 ht3 => ?_) hS.2.2 (by omega) (by omega)
          · rcases List.mem_cons.mp hw with rfl | hw
            · rfl
            · rcases List.mem_cons.mp hw with rfl | hw
              · rfl
              · exact (k4 w hw).2.2
          · rw [htab, hm0]
            intro z hz
            cases hz
          · show 1 + 4 < R.frames
            omega
          · show _ + (13 * (1 + 2) + 43) ≤ R.locals
            omega
          · refine ⟨r1 - 200, ρ, al, B, I, P, G, by omega, rfl, hQ, hR.kept ht3, hext, ?_⟩
            exact ⟨Nat.le_trans hS.1 ht2, fun q h1 h2 => by rw [ht3 q (Nat.lt_of_lt_of_le h1 hS.1)]; exact hS.2.1 q h1 h2⟩
        · refine am_throwXW (own := "SaywhatSeen") (A := am_A sz0) (names := ["java/lang/Exception"]) (sa := sa) (is := is) (ic := ic) (text := text) (cls := am_exn (r1 - 200)) (ix := 13) (rx := am_nseB) (Y9 := "java/lang/RuntimeException") hx hb hl (by decide +kernel) (by decide +kernel) (by decide +kernel) (by decide +kernel) (by decide +kernel) hown' hcls (by decide +kernel) (by have := hG.1 args _ k1 rfl; rw [hcl] at this; exact this) (hG.1 args _ k2 rfl) hstr
            (fun w hw => hG.1 args w (k4 w hw).1 (k4 w hw).2.1) (fun w hw => ?_) hG.2.2.2.2.1 hG.2.2.2.2.2.1 hS (am_rl_nL C' hL).symm hd d3 d4 d6 d9 ?_ ?_ ?_ (by omega) (by omega) hlocks (fun t ht1 ht2 ht3 => ?_) hS.2.2 (by omega) (by omega)
          · rcases List.mem_cons.mp hw with rfl | hw
            · rfl
            · rcases List.mem_cons.mp hw with rfl | hw
              · rfl
              · exact (k4 w hw).2.2
          · rw [htab, hm0]
            intro z hz
            cases hz
          · show 1 + 4 < R.frames
            omega
          · show _ + (13 * (1 + 2) + 43) ≤ R.locals
            omega
          · refine ⟨r1 - 200, ρ, al, B, I, P, G, by omega, rfl, hQ, hR.kept ht3, hext, ?_⟩
            exact ⟨Nat.le_trans hS.1 ht2, fun q h1 h2 => by rw [ht3 q (Nat.lt_of_lt_of_le h1 hS.1)]; exact hS.2.1 q h1 h2⟩
      · unfold am_thrW at k4
        rw [if_neg h3, hcl] at k4
        rcases d469 with ⟨d4, d6, d9⟩ | ⟨d4, d6, d9⟩
        · refine vx_throwS (own := "SaywhatSeen") (A := am_A sz0) (names := am_names) (sa := sa) (is := is) (ic := ic) (text := text) (cls := am_exn (r1 - 200)) hx hb hl hown' hcls (by decide +kernel) (by have := hG.1 args _ k1 rfl; rw [hcl] at this; exact this) (hG.1 args _ k2 rfl) hstr
            (fun w hw => hG.1 args w (k4 w hw).1 (k4 w hw).2.1) (fun w hw => ?_) hG.2.2.2.2.1 hG.2.2.2.2.2.1 hS (am_rl_nL C' hL).symm hd d3 d4 d6 d9 ?_ ?_ ?_ (by omega) (by omega) hlocks (fun t ht1 ht2 ht3 => ?_) hS.2.2 (by omega) (by omega)
          · rcases List.mem_cons.mp hw with rfl | hw
            · rfl
            · rcases List.mem_cons.mp hw with rfl | hw
              · rfl
              · exact (k4 w hw).2.2
          · rw [htab, hm0]
            intro z hz
            cases hz
          · show 2 + 3 < R.frames
            omega
          · show _ + (13 * (2 + 1) + 43) ≤ R.locals
            omega
          · refine ⟨r1 - 200, ρ, al, B, I, P, G, by omega, rfl, hQ, hR.kept ht3, hext, ?_⟩
            exact ⟨Nat.le_trans hS.1 ht2, fun q h1 h2 => by rw [ht3 q (Nat.lt_of_lt_of_le h1 hS.1)]; exact hS.2.1 q h1 h2⟩
        · refine vx_throwSW (own := "SaywhatSeen") (A := am_A sz0) (names := am_names) (sa := sa) (is := is) (ic := ic) (text := text) (cls := am_exn (r1 - 200)) hx hb hl hown' hcls (by decide +kernel) (by have := hG.1 args _ k1 rfl; rw [hcl] at this; exact this) (hG.1 args _ k2 rfl) hstr
            (fun w hw => hG.1 args w (k4 w hw).1 (k4 w hw).2.1) (fun w hw => ?_) hG.2.2.2.2.1 hG.2.2.2.2.2.1 hS (am_rl_nL C' hL).symm hd d3 d4 d6 d9 ?_ ?_ ?_ (by omega) (by omega) hlocks (fun t ht1 ht2 ht3 => ?_) hS.2.2 (by omega) (by omega)
          · rcases List.mem_cons.mp hw with rfl | hw
            · rfl
            · rcases List.mem_cons.mp hw with rfl | hw
              · rfl
              · exact (k4 w hw).2.2
          · rw [htab, hm0]
            intro z hz
            cases hz
          · show 2 + 3 < R.frames
            omega
          · show _ + (13 * (2 + 1) + 43) ≤ R.locals
            omega
          · refine ⟨r1 - 200, ρ, al, B, I, P, G, by omega, rfl, hQ, hR.kept ht3, hext, ?_⟩
            exact ⟨Nat.le_trans hS.1 ht2, fun q h1 h2 => by rw [ht3 q (Nat.lt_of_lt_of_le h1 hS.1)]; exact hS.2.1 q h1 h2⟩
    · have : r1 < 10 := h10
      have : 200 ≤ r1 := hcase
      omega
  all_goals exact hcase.elim
end SX
