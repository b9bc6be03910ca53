/-! SOUNDNESS: rows of rows -/
section MN
variable {p : Program} {l : Launch} {e : Env} {R : Room} {s : State} {mid : MethodId} {args : Array Value} {below : List Frame} {meth : Method} {c : Code} {H : Heap} {locs : List Loc} {cells slots : Nat} {Z : State → Prop}
variable {cc : ByteArray} {pc : Nat} {ls : Array Slot} {rest : List Value} {D : va_G} {tc : Nat → ClassId} {sz0 b0 : Nat} {ρ : Nat → Nat} {al : Nat → Prop} {B : Nat} {I : am_I} {P : am_P} {G : am_G}
theorem am_cellq {cell : Cell} {cA : ClassId} {n : Nat} {f : Nat → Value} (h1 : cell.cls = cA) (h2 : cell.vm = .none) (h3 : cell.slots.size = n) (h5 : cell.monitor = {} ∧ cell.hash = none) (h4 : ∀ j, j < n → cell.slots[j]? = some (f j)) : cell = arrV cA n f := by
  obtain ⟨c1, s1, m1, x1, v1⟩ := cell
  obtain ⟨h5, h6⟩ := h5
  dsimp only at h1 h2 h3 h4 h5 h6
  subst h1 h2 h5 h6
  have hs : s1 = Array.ofFn (n := n) fun j => f j.val := by
    refine Array.ext (by simp [h3]) fun i hi1 hi2 => ?_
    have := h4 i (by omega)
    rw [Array.getElem?_eq_getElem hi1] at this
    simpa using this
  subst hs
  rfl
def am_rm2 (ρ : Nat → Nat) (a n q : Nat) : Nat → Nat := fun b => if a ≤ b ∧ b ≤ a + n then q + (b - a) else ρ b
def am_am (al : Nat → Prop) (a n : Nat) : Nat → Prop := fun b => (a ≤ b ∧ b ≤ a + n) ∨ al b
def am_cI (I : am_I) (a n : Nat) : am_I := fun b i => if a ≤ b ∧ b ≤ a + n then 0 else I b i
def am_cP (P : am_P) (a n : Nat) : am_P := fun b i => if b = a then (if i < n then some (a + 1 + i) else none) else if a < b ∧ b ≤ a + n then none else P b i
theorem am_freshM (h : am_R D tc sz0 b0 ρ al B I P G H) {a n : Nat} (hB : B ≤ a) (hm : a % 4096 + n < 4000) : ∀ b, al b → ¬ (a ≤ b ∧ b ≤ a + n) := fun b hb e => by
  rcases (h.1 b hb).2.2.1 with z | z <;> omega
theorem am_ext_newM (h : am_R D tc sz0 b0 ρ al B I P G H) {a n q : Nat} (hB : B ≤ a) (hm : a % 4096 + n < 4000) : am_ext ρ al (am_rm2 ρ a n q) (am_am al a n) := fun b hb => ⟨Or.inr hb, by unfold am_rm2; rw [if_neg (am_freshM h hB hm b hb)]⟩
theorem am_R.newM (h : am_R D tc sz0 b0 ρ al B I P G H) {a n j : Nat} (hB : B ≤ a) (hm : a % 4096 + n < 4000) (hTa : am_TY a = (17, n)) (hTi : ∀ i, i < n → am_TY (a + 1 + i) = (10, j)) {H' : Heap} (hz : sz0 ≤ H.size)
    (hO : H'[H.size]? = some (arrV (tc 17) n (fun i => va_rf (if i < n then some (H.size + 1 + i) else none)))) (hI : ∀ i, i < n → H'[H.size + 1 + i]? = some (arrV (tc 10) j (fun _ => .int 0))) (hq : ∀ q, q < H.size → H'[q]? = H[q]?) :
    am_R D tc sz0 b0 (am_rm2 ρ a n H.size) (am_am al a n) (a + 1 + n) (am_cI I a n) (am_cP P a n) G H' := by
  have hne := am_freshM h hB hm
  have hr : ∀ b, al b → am_rm2 ρ a n H.size b = ρ b := fun b hb => by unfold am_rm2; rw [if_neg (hne b hb)]
  have hIo : ∀ b, al b → am_cI I a n b = I b := fun b hb => by funext i; unfold am_cI; rw [if_neg (hne b hb)]
  have hPo : ∀ b, al b → am_cP P a n b = P b := fun b hb => by
    funext i
    unfold am_cP
    have := hne b hb
    rw [if_neg (by omega), if_neg (by omega)]
  refine ⟨fun b hb => ?_, fun b b2 hb hc hbc => ?_, fun b k r hb hr' => ?_, Or.inr h.2.2.2.1, by rw [hr _ h.2.2.2.1]; exact h.2.2.2.2⟩
  · by_cases e : a ≤ b ∧ b ≤ a + n
    · have e1 : am_rm2 ρ a n H.size b = H.size + (b - a) := by unfold am_rm2; rw [if_pos e]
      by_cases eb : b = a
      · subst eb
        refine ⟨by rw [hTa]; exact (show 17 ≤ 19 by decide), ?_, Or.inl (by omega), Or.inl (by rw [e1]; omega)⟩
        unfold am_cell
        rw [if_neg (by rw [hTa]; exact (show ¬ 18 ≤ 17 by decide)), e1, am_E_r (by rw [hTa]; exact (show 14 ≤ 17 by decide)) (by rw [hTa]; exact Nat.le_refl 17), hTa]
        have hf : (fun i => (am_cP P b n b i).map (am_rm2 ρ b n H.size)) = fun i => if i < n then some (H.size + 1 + i) else none := by
          funext i
          unfold am_cP
          rw [if_pos rfl]
          split
          · rename_i hi
            simp only [Option.map_some, am_rm2]
            rw [if_pos ⟨by omega, by omega⟩]
            congr 1; omega
          · rfl
        rw [hf]
        show H'[H.size + (b - b)]? = some (vp_cell (tc 17) (n, _))
        rw [Nat.sub_self, Nat.add_zero, hO, vp_cell_q]
      · have hi : b = a + 1 + (b - a - 1) := by omega
        have hTb : am_TY b = (10, j) := by rw [hi]; exact hTi _ (by omega)
        refine ⟨by rw [hTb]; exact (show 10 ≤ 19 by decide), ?_, Or.inl (by omega), Or.inl (by rw [e1]; omega)⟩
        unfold am_cell
        have hcI : am_cI I a n b = fun _ => 0 := by funext i; unfold am_cI; rw [if_pos e]
        rw [if_neg (by rw [hTb]; exact (show ¬ 18 ≤ 10 by decide)), e1, am_E_i (Or.inl (by rw [hTb])), hTb, hcI]
        show H'[H.size + (b - a)]? = some (vp_cell (tc 10) (j, _))
        rw [show H.size + (b - a) = H.size + 1 + (b - a - 1) by omega, hI _ (by omega), vp_cell_i]
    · have hb' : al b := hb.resolve_left e
      obtain ⟨e1, e2, e3, e4⟩ := h.1 b hb'
      refine ⟨e1, ?_, ?_, by rw [hr b hb']; exact e4⟩
      · have e2' : am_cell D tc (am_rm2 ρ a n H.size) (am_cI I a n) (am_cP P a n) G b H := by
          unfold am_cell at e2 ⊢
          rw [hr b hb', am_E_ext (hIo b hb') (hPo b hb') rfl (fun k r hp => hr r (h.2.2.1 b k r hb' hp)), hIo b hb']
          exact e2
        refine e2'.kept ?_
        rw [hr b hb']
        exact hq _ (h.lt hb')
      · rcases e3 with z | z
        · exact Or.inl (by omega)
        · exact Or.inr z
  · by_cases e : a ≤ b ∧ b ≤ a + n <;> by_cases e2 : a ≤ b2 ∧ b2 ≤ a + n
    · unfold am_rm2 at hbc
      rw [if_pos e, if_pos e2] at hbc
      omega
    · have hc' : al b2 := hc.resolve_left e2
      rw [hr b2 hc'] at hbc
      unfold am_rm2 at hbc
      rw [if_pos e] at hbc
      have := h.lt hc'
      omega
    · have hb' : al b := hb.resolve_left e
      rw [hr b hb'] at hbc
      unfold am_rm2 at hbc
      rw [if_pos e2] at hbc
      have := h.lt hb'
      omega
    · have hb' : al b := hb.resolve_left e
      have hc' : al b2 := hc.resolve_left e2
      rw [hr b hb', hr b2 hc'] at hbc
      exact h.2.1 b b2 hb' hc' hbc
  · by_cases e : a ≤ b ∧ b ≤ a + n
    · unfold am_cP at hr'
      split at hr'
      · split at hr'
        · cases hr'; exact Or.inl ⟨by omega, by omega⟩
        · cases hr'
      · rw [if_pos ⟨by omega, e.2⟩] at hr'; cases hr'
    · have hb' : al b := hb.resolve_left e
      rw [hPo b hb'] at hr'
      exact Or.inr (h.2.2.1 b k r hb' hr')
theorem w_multi (hexec : p.tables.exec = Jvm.exec) (hb : c.code = cc) {own : String} {index : Nat} (hG : am_Gw s) (hown : s.vm.findClass own = some mid.cls) (hK : va_K D am_cl (am_tys tc) s) (hR : am_R D tc sz0 b0 ρ al B I P G H) (hS : va_S (am_A sz0) s.heap H locs) (hz : sz0 ≤ s.heap.size) {a n j : Nat} (hB : B ≤ a) (hm : a % 4096 + n < 4000) (hTa : am_TY a = (17, n)) (hTi : ∀ i, i < n → am_TY (a + 1 + i) = (10, j)) (hn : n < 4096) (hj : j < 4096)
    (w1 : Jvm.Cond.classLink own index "[[I" ∈ lw_tbl) (w2 : Jvm.Cond.arrayOver (.array .int) ∈ lw_tbl) (w3 : Jvm.Cond.arrayClass .int ∈ lw_tbl) (hdg : decode cc pc = .ok (.multianewarray index 2, 4)) (hc : cells + (1 + n) ≤ R.cells) (hsl : slots + (n + n * j) ≤ R.slots)
    (kk : ∀ H' locs', am_R D tc sz0 b0 (am_rm2 ρ a n H.size) (am_am al a n) (a + 1 + n) (am_cI I a n) (am_cP P a n) G H' → va_S (am_A sz0) s.heap H' locs' → W p l e R s mid args below meth c H' locs' (cells + (1 + n)) (slots + (n + n * j)) Z (F0 mid (pc + 4) ls (.ref H.size :: rest))) : W p l e R s mid args below meth c H locs cells slots Z (F0 mid pc ls (.int (nI j) :: .int (nI n) :: rest)) := by
  intro T hT X
  have n1 : (nI n).toNatClampNeg = n := nI_clamp (by omega)
  have j1 : (nI j).toNatClampNeg = j := nI_clamp (by omega)
  have hjb : j * componentBytes .int ≤ 536870912 := Nat.le_trans (Nat.mul_le_mul_left j (show componentBytes .int ≤ 8 by decide)) (by omega)
  have es : "[" ++ (FieldType.array .int).toString = "[[I" := by first | rfl | decide +kernel
  obtain ⟨vm₁, cA, comp, hW, hfA, hfC, hO, hI, X1, st⟩ := Jvm.Stand.multianewarray2F X hexec (own := own) (index := index) (ty := .int) hown (by rw [es]; exact hG args _ w1 rfl) (hG args _ w2 rfl) (hG args _ w3 rfl) (g := F0 mid pc ls (.int (nI j) :: .int (nI n) :: rest)) rfl (by rw [hb]; exact hdg) rfl (nI_pos (by omega)) (nI_pos (by omega)) (by rw [n1]; omega) (by rw [j1]; exact hjb) (by rw [j1]; omega) rfl rfl (by rw [n1]; exact hc) (by rw [n1, j1]; exact hsl)
  rw [n1, j1] at X1 st
  have hcA : cA = tc 17 := Option.some.inj (hfA.symm.trans (hK.2 7 _ rfl).2)
  have hcm : comp = tc 10 := Option.some.inj (hfC.symm.trans (hK.2 0 _ rfl).2)
  subst hcA hcm
  subst hT
  obtain ⟨f1, f2, f3, f4⟩ := Jvm.Free.Multi.fill_facts (T.setVm vm₁) (tc 17) (tc 10) n j (defaultValue .int) n
  have fo := fun (q : Nat) (hq : q < T.heap.size) => Jvm.Free.Multi.fill_old (T.setVm vm₁) (tc 17) (tc 10) n j (defaultValue .int) (a := q) hq n
  have fi := fun (i : Nat) (hi : i < n) => Jvm.Free.Multi.fill_inner (T.setVm vm₁) (tc 17) (tc 10) n j (defaultValue .int) n i hi
  obtain ⟨o1, o2, o3⟩ := Jvm.Free.Multi.outerC_facts (tc 17) n T.heap.size n
  have o4 := Jvm.Free.Multi.outerC_plain (tc 17) n T.heap.size n
  have os := fun (i : Nat) (hi : i < n) => Jvm.Free.Multi.outerC_slot (tc 17) n T.heap.size n i hi
  obtain ⟨t, a1, b1⟩ := kk (Jvm.Free.Multi.fill (T.setVm vm₁) (tc 17) (tc 10) n j (defaultValue .int) n).heap locs (hR.newM hB hm hTa hTi (by have := hS.1; omega)
      (f2.trans (congrArg some (am_cellq o1 o2 o3 o4 fun i hi => (os i hi).trans (by rw [if_pos hi, if_pos hi]; rfl))))
      (fun i hi => (fi i hi).trans (by rw [← arrV_new]; rfl)) (fun q hq => fo q hq))
    ⟨by rw [f1]; have := hS.1; show _ ≤ T.heap.size + 1 + n; omega, fun q h1 h2 => by rw [fo q (by have := hS.1; omega)]; exact hS.2.1 q h1 h2, hS.2.2⟩ _ rfl
    (by rw [show cells + (1 + n) = cells + 1 + n by omega, show slots + (n + n * j) = slots + n + n * j by omega]; exact X1)
  exact ⟨t, st t a1, b1⟩
end MN
section MN2
variable {l : Launch} {D : va_G} {tc : Nat → ClassId} {sz0 b0 : Nat}
theorem am_sndM {m pc ix dm len r1 r2 : Nat} (hk0 : am_okE m pc (.multianewarray ix dm, len, r1, r2)) {L : List (Option Value)} {st : List Value} {B : Nat} {I : am_I} {P : am_P} {G : am_G} {k sl d : Nat} {Q : am_Q} (hs : am_St (am_Snd l D tc sz0 b0) (.multianewarray ix dm, len, r1, r2) m pc L st B I P G k sl d Q) : am_Snd l D tc sz0 b0 m pc L st B I P G k sl d Q := by
  obtain ⟨hd, hlen, hlk⟩ := hk0
  dsimp only at hd hlen hlk
  intro p e R s0 mid args below meth c H locs cells slots ρ al ls ρ0 al0 C V
  have C' := C
  obtain ⟨hx, hb, hml, hrt, hown, hlocks, hname, htab, hG⟩ := C
  obtain ⟨hS, hR, hL, hv, hrm, hext⟩ := V
  have hK := hG.2.2.1
  have hl : len = 4 := hlen (show (4 : Nat) ≠ 0 by decide)
  subst hl
  obtain ⟨n, j, st', a, rfl, hn, hj, hk1, hns, hB, hmm, ht, hti, hX⟩ := hs
  obtain ⟨rfl, k1, k2, k3⟩ := hlk
  have he := am_ext_newM hR (q := H.size) hB hmm
  refine w_multi hx hb hG.1 hown hK hR hS hG.2.2.2.1 hB hmm ht hti hn hj k1 k2 k3 hd (by omega) (by omega) fun H' locs' hR' hS' => ?_
  have hve := am_vs_ext he hv.2.2
  have hW := hX C' (H := H') (locs := locs') (cells := cells + (1 + n)) (slots := slots + (n + n * j)) (ls := ls) (ρ0 := ρ0) (al0 := al0) (args := args) (below := below) ⟨hS', hR', am_rl_ext he hL, ⟨Or.inl ⟨Nat.le_refl _, by omega⟩, hve.1⟩, ⟨by omega, by omega, hrm.2.2⟩, hext.trans he⟩
  rw [List.map_cons, hve.2] at hW
  have e9 : am_rn (am_rm2 ρ a n H.size) (.ref a) = .ref H.size := by simp [am_rn, am_rm2]
  rw [e9] at hW
  exact hW
end MN2
