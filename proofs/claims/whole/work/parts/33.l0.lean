/-! THE LAW: the state between calls -/
theorem iM_o {M : Nat → Nat → Int} {C : am_I} {a j : Nat} (h : ¬ (100 ≤ a ∧ a < 160)) : iM M C a j = C a j := by simp [iM, h]
theorem iM_self {M : Nat → Nat → Int} {I : am_I} (h : ∀ a j, 100 ≤ a → a < 160 → I a j = iI (M a j)) : iM M I = I := by
  funext a j
  by_cases q : 100 ≤ a ∧ a < 160
  · rw [iM_r q, h a j q.1 q.2]
  · exact iM_o q
theorem md_cg {P P' : am_P} (h : md_P P) (hc : ∀ j, P' 100 j = P 100 j) : md_P P' := by
  unfold md_P
  rw [hc, hc, hc, hc, hc, hc, hc, hc, hc, hc, hc, hc, hc, hc, hc, hc, hc, hc, hc, hc, hc, hc, hc, hc, hc, hc, hc, hc, hc, hc, hc, hc, hc, hc, hc, hc, hc, hc, hc, hc, hc]
  exact h
theorem RC_C {K : Int} {M : Nat → Nat → Int} {sh : Nat → Nat → Nat} {se : Nat → Nat → Nat → Nat} {I I' : am_I} {P : am_P} {B : Nat} (h : RC K M sh se I P B) (hI : ∀ a j, ¬ (100 ≤ a ∧ a < 160) → I' a j = I a j) : RC K M sh se I' P B :=
  ⟨rc_p h, rc_b h, FM_I (rc_f h) (fun a j ha => hI a j (by omega)), VO_cg (rc_v h) ⟨rfl, rfl⟩ ⟨hI _ _ (by omega), hI _ _ (by omega)⟩, ED_cg (rc_e h) ⟨rfl, fun _ _ _ _ => rfl⟩ (hI _ _ (by omega)) (fun _ => rfl) (fm_cap (rc_f h)) (Or.inl rfl) (Nat.le_refl _) (rc_b h) (fun a _ _ _ _ _ j => ⟨hI a j (by omega), rfl⟩),
    RP_cg (rc_pl h) FA_rfl rfl (fun a _ _ j => hI a j (by omega)), RS_cg (rc_s h) (Int.le_refl _) ⟨rfl, rfl, rfl, rfl, rfl⟩ (fun _ => rfl) (fun _ => rfl) (fun a _ _ j => hI a j (by omega)), RM_cg (rc_m h) (fun _ => rfl) (fun j => hI 43 j (by omega))⟩
/-- a helper's end -/
def hq (K : Int) (R : (Nat → Nat → Int) → Prop) (c v : Int32) (I : am_I) (P : am_P) : am_Q := fun o' B' I' P' G' => o' = .inl (some (.int c)) ∧ (c = iI 0 → G' 160 0 = v.toInt64) ∧ (∃ sh' se', ∀ M', R M' → RC K M' sh' se' I' P' B') ∧ ∀ a, ((100 ≤ a ∧ a < 161) ∨ a % 4096 = 4000) → ∀ j, I' a j = I a j ∧ P' a j = P a j
/-- what a helper answers -/
def ho (h pc : Nat) (o : am_O) (c v : Int32) : Prop := (o = .inl (some (.int v)) ∧ c = iI 0) ∨ ∃ x, o = .inr x ∧ am_hd h pc x = some c ∧ c ≠ iI 0
theorem ho_oc {h pc e1 e2 e3 : Nat} {r : (Nat → Nat → Int) × Int} (hr : r.1 100 0 = 0 ∨ (r.1 100 0 = 1 ∧ am_hd h pc e1 = some (iI 1)) ∨ (r.1 100 0 = 2 ∧ am_hd h pc e2 = some (iI 2)) ∨ (r.1 100 0 = 3 ∧ am_hd h pc e3 = some (iI 3))) : ho h pc (oc e1 e2 e3 r) (iI (r.1 100 0)) (iI r.2) := by
  unfold ho oc
  rcases hr with q | ⟨q, q2⟩ | ⟨q, q2⟩ | ⟨q, q2⟩ <;> rw [q]
  · exact Or.inl ⟨rfl, rfl⟩
  · exact Or.inr ⟨e1, rfl, q2, by decide +kernel⟩
  · exact Or.inr ⟨e2, rfl, q2, by decide +kernel⟩
  · exact Or.inr ⟨e3, rfl, q2, by decide +kernel⟩
/-- the law goes on -/
def am_NX (xi : Nat → Int) (sr i : Nat) (K : Int) (k s d : Nat) (Q : am_Q) : Prop := ∀ (M' : Nat → Nat → Int) (C' : am_I) (P' : am_P) (B' : Nat) (G' : am_G) (sh' : Nat → Nat → Nat) (se' : Nat → Nat → Nat → Nat) (L5 L6 : Option Value) (k' s' : Nat), INV (K + 1000) M' → md_P P' → RC (K + 1000) M' sh' se' (iM M' C') P' B' → (∀ j, C' sr j = iI (xi j)) → k ≤ k' + 110 → s ≤ s' + 2050 →
  am_Ev 228 2369 [some (.ref sr), some (.ref 10), some (.ref 100), some (.ref 160), some (.int (iI (i : Int))), L5, L6] [] B' (iM M' C') P' G' k' s' d Q
theorem am_nx {xi : Nat → Int} {sr i : Nat} {K K' : Int} {k s d : Nat} {Q : am_Q} (h : am_NX xi sr i K k s d Q) {M M' : Nat → Nat → Int} {C C' : am_I} {P P' : am_P} {B' : Nat} {G' : am_G} {sh' : Nat → Nat → Nat} {se' : Nat → Nat → Nat → Nat} (hK' : K' ≤ K + 1000) (hiv : INV (K + 1000) M') (hmd : md_P P) (hsr : 4096 ≤ sr ∧ sr % 4096 = 4000) (hX : ∀ j, C sr j = iI (xi j)) (hrc : RC K' M' sh' se' C' P' B') (hfx : ∀ a, ((100 ≤ a ∧ a < 161) ∨ a % 4096 = 4000) → ∀ j, C' a j = iM M C a j ∧ P' a j = P a j)
    {L5 L6 : Option Value} {k' s' : Nat} (hk : k ≤ k' + 110) (hs : s ≤ s' + 2050) : am_Ev 228 2369 [some (.ref sr), some (.ref 10), some (.ref 100), some (.ref 160), some (.int (iI (i : Int))), L5, L6] [] B' (iM M' C') P' G' k' s' d Q :=
  h M' C' P' B' G' sh' se' L5 L6 k' s' hiv (md_cg hmd (fun j => (hfx 100 (by omega) j).2)) (RC_C (RC_w hrc hK') (fun a j q => iM_o q)) (fun j => by rw [(hfx sr (by omega) j).1, iM_o (by omega)]; exact hX j) hk hs
/-- the class's heap keeps the model's numbers -/
theorem am_keep {M : Nat → Nat → Int} {C C' : am_I} {P P' : am_P} (hfx : ∀ a, ((100 ≤ a ∧ a < 161) ∨ a % 4096 = 4000) → ∀ j, C' a j = iM M C a j ∧ P' a j = P a j) : iM M C' = C' := iM_self (fun a j q1 q2 => by rw [(hfx a (by omega) j).1, iM_r ⟨q1, q2⟩])
section
variable {st : List Value} {B : Nat} {I C : am_I} {P : am_P} {G : am_G} {k s d : Nat} {Q : am_Q}
theorem sw228 {x0 x1 x2 x3 x4 x5 x6 : Option Value} {x : Int32} (hd : x.toInt < 0 ∨ 36 < x.toInt → am_Ev 228 2369 [x0, x1, x2, x3, x4, x5, x6] st B I P G k s d Q) (h : ∀ (j : Nat), j < 37 → x.toInt = (j : Int) → am_Ev 228 (40 + [164, 220, 302, 315, 359, 400, 512, 580, 648, 768, 824, 892, 972, 1040, 1108, 1195, 1275, 1288, 1332, 1376, 1432, 1488, 1544, 1607, 1675, 1743, 1787, 1843, 1856, 1935, 1998, 2054, 2110, 2166, 2246, 2302, 2316].getD j 0) [x0, x1, x2, x3, x4, x5, x6] st B I P G k s d Q) :
    am_Ev 228 40 [x0, x1, x2, x3, x4, x5, x6] (.int x :: st) B I P G k s d Q := by
  refine (am_step (by decide +kernel : am_cod 228 40 = some (.tableswitch 2329 0 36 #[164, 220, 302, 315, 359, 400, 512, 580, 648, 768, 824, 892, 972, 1040, 1108, 1195, 1275, 1288, 1332, 1376, 1432, 1488, 1544, 1607, 1675, 1743, 1787, 1843, 1856, 1935, 1998, 2054, 2110, 2166, 2246, 2302, 2316], 164, 0, 0))).mpr ⟨x, st, rfl, hd, fun j off hj hx => ?_⟩
  have hj2 : j < 37 := by
    have := Array.getElem?_eq_some_iff.mp hj
    exact this.1
  have h2 := h j hj2 (by omega)
  have e : am_tgt 40 off = 40 + [164, 220, 302, 315, 359, 400, 512, 580, 648, 768, 824, 892, 972, 1040, 1108, 1195, 1275, 1288, 1332, 1376, 1432, 1488, 1544, 1607, 1675, 1743, 1787, 1843, 1856, 1935, 1998, 2054, 2110, 2166, 2246, 2302, 2316].getD j 0 := by
    revert hj
    have h37 : j = 0 ∨ j = 1 ∨ j = 2 ∨ j = 3 ∨ j = 4 ∨ j = 5 ∨ j = 6 ∨ j = 7 ∨ j = 8 ∨ j = 9 ∨ j = 10 ∨ j = 11 ∨ j = 12 ∨ j = 13 ∨ j = 14 ∨ j = 15 ∨ j = 16 ∨ j = 17 ∨ j = 18 ∨ j = 19 ∨ j = 20 ∨ j = 21 ∨ j = 22 ∨ j = 23 ∨ j = 24 ∨ j = 25 ∨ j = 26 ∨ j = 27 ∨ j = 28 ∨ j = 29 ∨ j = 30 ∨ j = 31 ∨ j = 32 ∨ j = 33 ∨ j = 34 ∨ j = 35 ∨ j = 36 := by omega
    rcases h37 with rfl | rfl | rfl | rfl | rfl | rfl | rfl | rfl | rfl | rfl | rfl | rfl | rfl | rfl | rfl | rfl | rfl | rfl | rfl | rfl | rfl | rfl | rfl | rfl | rfl | rfl | rfl | rfl | rfl | rfl | rfl | rfl | rfl | rfl | rfl | rfl | rfl <;> (intro hj; cases hj; rfl)
  rw [e]; exact h2
end
