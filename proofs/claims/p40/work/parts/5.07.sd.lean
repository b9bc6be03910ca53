/-! SOUNDNESS, its words: what the abstract machine comes to, the machine comes to -/
/-- the tables' words that last -/
def am_Gw (U : State) : Prop := ∀ (args : Array Value) (w : Jvm.Cond), w ∈ lw_tbl → am_pw w = true → w.before args U = true
theorem am_pw_warm {w : Jvm.Cond} (h : am_pw w = true) {s U : State} (hW : s.WarmedH U.vm) (args : Array Value) (hb : ∀ a, w.before a s = true) : w.before args U = true := by
  cases w
  case declares x => exact va_Nw.use rfl (va_Nw.warmD hW (hb #[]))
  case castable a b => exact va_Nw.use rfl (va_Nw.warmC hW (hb #[]))
  case methodLinkNest a b c d => exact va_Nw.use rfl (va_Nw.warmM hW (hb #[]))
  case arrayOver t =>
    have h1 : (Jvm.Cond.arrayOver t).before args (s.setVm U.vm) = true := by rw [Cond.arrayOver_setVmC hW.alike]; exact hb args
    exact h1
  all_goals exact word_at hW (good_of_word h) (hb #[])
theorem am_pw_at {w : Jvm.Cond} (h : am_pw w = true) {s : State} {a0 : Array Value} (hb : w.before a0 s = true) : ∀ a, w.before a s = true := by
  intro a
  cases w
  case declares x => exact va_Nw.use rfl (va_Nw.of rfl hb)
  case castable a b => exact va_Nw.use rfl (va_Nw.of rfl hb)
  case methodLinkNest a b c d => exact va_Nw.use rfl (va_Nw.of rfl hb)
  case arrayOver t => exact hb
  all_goals exact word_at (State.WarmedH.refl s) (good_of_word h) hb
theorem am_Gw.warm {s U : State} (hW : s.WarmedH U.vm) (h : am_Gw s) : am_Gw U := fun args w h1 h2 => am_pw_warm h2 hW args (fun a => h a w h1 h2)
def am_rn (ρ : Nat → Nat) (v : Value) : Value := match v with
  | .ref r => .ref (ρ r)
  | v => v
def am_vok (al : Nat → Prop) (v : Value) : Prop := match v with
  | .ref r => al r
  | .int _ => True
  | .long _ => True
  | .null => True
  | _ => False
/-- the cell of a role -/
def am_E (tc : Nat → ClassId) (ρ : Nat → Nat) (I : am_I) (P : am_P) (G : am_G) (a : Nat) : va_E :=
  if (am_TY a).1 < 10 then .inr ((am_TY a).1, (List.range (am_cN (am_TY a).1)).map (fun k => am_rn ρ (am_fv (am_TY a).1 k I P a)))
  else if (am_TY a).1 = 13 then .inr (99, [])
  else if 14 ≤ (am_TY a).1 ∧ (am_TY a).1 ≤ 17 then .inl (tc (am_TY a).1, (am_TY a).2, .inr (.inr (.inr (.inr (fun i => (P a i).map ρ)))))
  else .inl (tc (am_TY a).1, (am_TY a).2, .inl (I a))
/-- an array that isn't ours: what it holds, but not the whole cell -/
def am_fa (c : ClassId) (n : Nat) (f : Nat → Int32) (q : Nat) (H : Heap) : Prop := ∃ cell : Cell, H[q]? = some cell ∧ cell.cls = c ∧ (∀ k, cell.vm ≠ .statics k) ∧ cell.vm ≠ .unknown ∧ cell.slots.size = n ∧ ∀ j : Nat, j < n → cell.slots[j]? = some (.int (f j))
theorem am_fa.kept {c : ClassId} {n : Nat} {f : Nat → Int32} {q : Nat} {H H' : Heap} (h : am_fa c n f q H) (hq : H'[q]? = H[q]?) : am_fa c n f q H' := by
  obtain ⟨cell, h1, h2⟩ := h
  exact ⟨cell, hq.trans h1, h2⟩
/-- what lies at a role -/
def am_cell (D : va_G) (tc : Nat → ClassId) (ρ : Nat → Nat) (I : am_I) (P : am_P) (G : am_G) (a : Nat) (H : Heap) : Prop := if 18 ≤ (am_TY a).1 then am_fa (tc (am_TY a).1) (am_TY a).2 (I a) (ρ a) H else va_at D am_cl (ρ a, am_E tc ρ I P G a) H
/-- the roles that are there, and what lies at them -/
def am_R (D : va_G) (tc : Nat → ClassId) (sz0 b0 : Nat) (ρ : Nat → Nat) (al : Nat → Prop) (B : Nat) (I : am_I) (P : am_P) (G : am_G) (H : Heap) : Prop :=
  (∀ a, al a → (am_TY a).1 ≤ 19 ∧ am_cell D tc ρ I P G a H ∧ (a < B ∨ a % 4096 = 4000) ∧ (sz0 ≤ ρ a ∨ 18 ≤ (am_TY a).1)) ∧
  (∀ a b, al a → al b → ρ a = ρ b → a = b) ∧ (∀ a k r, al a → P a k = some r → al r) ∧ al am_emp ∧ ρ am_emp = b0
theorem am_R.at {D : va_G} {tc : Nat → ClassId} {sz0 b0 : Nat} {ρ : Nat → Nat} {al : Nat → Prop} {B : Nat} {I : am_I} {P : am_P} {G : am_G} {H : Heap} (h : am_R D tc sz0 b0 ρ al B I P G H) {a : Nat} (ha : al a) (h18 : (am_TY a).1 < 18) : va_at D am_cl (ρ a, am_E tc ρ I P G a) H := by
  have h2 := (h.1 a ha).2.1
  unfold am_cell at h2
  rwa [if_neg (by omega)] at h2
theorem am_R.fa {D : va_G} {tc : Nat → ClassId} {sz0 b0 : Nat} {ρ : Nat → Nat} {al : Nat → Prop} {B : Nat} {I : am_I} {P : am_P} {G : am_G} {H : Heap} (h : am_R D tc sz0 b0 ρ al B I P G H) {a : Nat} (ha : al a) (h18 : 18 ≤ (am_TY a).1) : am_fa (tc (am_TY a).1) (am_TY a).2 (I a) (ρ a) H := by
  have h2 := (h.1 a ha).2.1
  unfold am_cell at h2
  rwa [if_pos h18] at h2
theorem am_cell.kept {D : va_G} {tc : Nat → ClassId} {ρ : Nat → Nat} {I : am_I} {P : am_P} {G : am_G} {a : Nat} {H H' : Heap} (h : am_cell D tc ρ I P G a H) (hq : H'[ρ a]? = H[ρ a]?) : am_cell D tc ρ I P G a H' := by
  unfold am_cell at h ⊢
  split
  · rename_i h18; rw [if_pos h18] at h; exact h.kept hq
  · rename_i h18; rw [if_neg h18] at h; exact h.kept hq
theorem am_cell.lt {D : va_G} {tc : Nat → ClassId} {ρ : Nat → Nat} {I : am_I} {P : am_P} {G : am_G} {a : Nat} {H : Heap} (h : am_cell D tc ρ I P G a H) : ρ a < H.size := by
  unfold am_cell at h
  split at h
  · obtain ⟨cell, h1, -⟩ := h; exact (Array.getElem?_eq_some_iff.mp h1).1
  · exact va_at.lt h
def am_ext (ρ0 : Nat → Nat) (al0 : Nat → Prop) (ρ : Nat → Nat) (al : Nat → Prop) : Prop := ∀ a, al0 a → al a ∧ ρ a = ρ0 a
theorem am_ext.refl {ρ : Nat → Nat} {al : Nat → Prop} : am_ext ρ al ρ al := fun _ h => ⟨h, rfl⟩
theorem am_ext.trans {ρ0 ρ1 ρ2 : Nat → Nat} {al0 al1 al2 : Nat → Prop} (h : am_ext ρ0 al0 ρ1 al1) (h2 : am_ext ρ1 al1 ρ2 al2) : am_ext ρ0 al0 ρ2 al2 := fun a ha => ⟨(h2 a (h a ha).1).1, ((h2 a (h a ha).1).2).trans (h a ha).2⟩
/-- the locals, as the kit has them -/
def am_la (ρ : Nat → Nat) : List (Option Value) → Nat → List (Nat × Value)
  | [], _ => []
  | none :: L, i => am_la ρ L (i + 1)
  | some v :: L, i => (i, am_rn ρ v) :: am_la ρ L (i + 1)
theorem am_la_mem {ρ : Nat → Nat} : ∀ (L : List (Option Value)) (i j : Nat) (w : Value), (j, w) ∈ am_la ρ L i ↔ ∃ v k, L[k]? = some (some v) ∧ j = i + k ∧ w = am_rn ρ v
  | [], i, j, w => by simp [am_la]
  | none :: L, i, j, w => by
    rw [am_la, am_la_mem L (i + 1) j w]
    constructor
    · rintro ⟨v, k, h1, h2, h3⟩; exact ⟨v, k + 1, by simpa using h1, by omega, h3⟩
    · rintro ⟨v, k, h1, h2, h3⟩
      cases k with
      | zero => simp at h1
      | succ k => exact ⟨v, k, by simpa using h1, by omega, h3⟩
  | some u :: L, i, j, w => by
    rw [am_la, List.mem_cons, am_la_mem L (i + 1) j w]
    constructor
    · rintro (h | ⟨v, k, h1, h2, h3⟩)
      · cases h; exact ⟨u, 0, by simp, by omega, rfl⟩
      · exact ⟨v, k + 1, by simpa using h1, by omega, h3⟩
    · rintro ⟨v, k, h1, h2, h3⟩
      cases k with
      | zero => simp at h1; subst h1; exact Or.inl (by rw [h2, h3]; rfl)
      | succ k => exact Or.inr ⟨v, k, by simpa using h1, by omega, h3⟩
def am_rl (m : Nat) (ρ : Nat → Nat) (al : Nat → Prop) (L : List (Option Value)) (ls : Array Slot) : Prop :=
  lv_has ls L.length (am_la ρ L 0) ∧ (∀ (i : Nat) (v : Value), L[i]? = some (some v) → am_vok al v) ∧ (∀ (i : Nat) (x : Int64), L[i]? = some (some (.long x)) → am_lp m i = true) ∧ L.length = am_nL m
theorem am_rl.at {m : Nat} {ρ : Nat → Nat} {al : Nat → Prop} {L : List (Option Value)} {ls : Array Slot} (h : am_rl m ρ al L ls) {i : Nat} {v : Value} (hi : L[i]? = some (some v)) : ls[i]? = some (.val (am_rn ρ v)) :=
  h.1.2.2 (i, am_rn ρ v) ((am_la_mem L 0 i _).mpr ⟨v, i, hi, by omega, rfl⟩)
theorem lv_has_mem {ls : Array Slot} {n n' : Nat} {l l' : List (Nat × Value)} (h : lv_has ls n l) (hn : n = n') (hl : ∀ q ∈ l', q ∈ l) : lv_has ls n' l' := ⟨hn ▸ h.1, h.2.1, fun q hq => h.2.2 q (hl q hq)⟩
theorem am_cat_rn {ρ : Nat → Nat} {v : Value} : (am_rn ρ v).category = v.category := by cases v <;> rfl
/-- a store of one word -/
theorem am_rl.set {m : Nat} {ρ : Nat → Nat} {al : Nat → Prop} {L : List (Option Value)} {ls ls' : Array Slot} (h : am_rl m ρ al L ls) {i : Nat} {v : Value} (hi : i < L.length) (ho : am_lpok m i = true) (hc : v.category = 1) (hv : am_vok al v)
    (h' : lv_has ls' L.length ((i, am_rn ρ v) :: (am_la ρ L 0).filter (fun q => !(q.1 == i) && !(q.1 + 1 == i && q.2.category == 2)))) : am_rl m ρ al (L.set i (some v)) ls' := by
  refine ⟨lv_has_mem h' (List.length_set ..).symm fun q hq => ?_, fun j w hj => ?_, fun j x hj => ?_, (List.length_set ..).trans h.2.2.2⟩
  · obtain ⟨j, w⟩ := q
    obtain ⟨u, k, h1, h2, h3⟩ := (am_la_mem _ 0 j w).mp hq
    rw [List.getElem?_set] at h1
    have h2' : j = k := by omega
    subst h2'
    by_cases e : i = j
    · subst e
      rw [if_pos rfl, if_pos hi] at h1
      cases h1
      rw [h3]; exact List.mem_cons_self
    · rw [if_neg e] at h1
      refine List.mem_cons_of_mem _ (List.mem_filter.mpr ⟨(am_la_mem L 0 j w).mpr ⟨u, j, h1, by omega, h3⟩, ?_⟩)
      have n1 : (j == i) = false := by simpa using fun q : j = i => e q.symm
      simp only [n1, Bool.not_false, Bool.true_and, Bool.not_eq_true', Bool.and_eq_false_iff, beq_eq_false_iff_ne, ne_eq]
      by_cases e2 : j + 1 = i
      · right
        intro hcat
        rw [h3, am_cat_rn] at hcat
        have hvk := h.2.1 j u h1
        cases u <;> simp [Value.category, am_vok] at hcat hvk
        have := h.2.2.1 j _ h1
        unfold am_lpok at ho
        have e3 : i - 1 = j := by omega
        rw [e3, this] at ho
        simp at ho
        omega
      · exact Or.inl e2
  · rw [List.getElem?_set] at hj
    by_cases e : i = j
    · rw [if_pos e, if_pos hi] at hj; cases hj; exact hv
    · rw [if_neg e] at hj; exact h.2.1 j w hj
  · rw [List.getElem?_set] at hj
    by_cases e : i = j
    · rw [if_pos e, if_pos hi] at hj; cases hj; simp [Value.category] at hc
    · rw [if_neg e] at hj; exact h.2.2.1 j x hj
theorem am_rl.setL {m : Nat} {ρ : Nat → Nat} {al : Nat → Prop} {L : List (Option Value)} {ls ls' : Array Slot} (h : am_rl m ρ al L ls) {i : Nat} {x : Int64} (hi : i + 1 < L.length) (ho : am_lpok m i = true) (hp : am_lp m i = true)
    (h' : lv_has ls' L.length ((i, Value.long x) :: (am_la ρ L 0).filter (fun q => !(q.1 == i) && (!(q.1 == i + 1) && !(q.1 + 1 == i && q.2.category == 2))))) : am_rl m ρ al ((L.set i (some (.long x))).set (i + 1) none) ls' := by
  have key : ∀ (j : Nat) (w : Value), ((L.set i (some (.long x))).set (i + 1) none)[j]? = some (some w) → (j = i ∧ w = .long x) ∨ (j ≠ i ∧ j ≠ i + 1 ∧ L[j]? = some (some w)) := by
    intro j w hj
    rw [List.getElem?_set, List.getElem?_set] at hj
    by_cases e : i + 1 = j
    · rw [if_pos e] at hj; simp at hj
    · rw [if_neg e] at hj
      by_cases e2 : i = j
      · rw [if_pos e2, if_pos (by omega)] at hj; cases hj; exact Or.inl ⟨e2.symm, rfl⟩
      · rw [if_neg e2] at hj; exact Or.inr ⟨fun q => e2 q.symm, fun q => e q.symm, hj⟩
  refine ⟨lv_has_mem h' (by rw [List.length_set, List.length_set]) fun q hq => ?_, fun j w hj => ?_, fun j y hj => ?_, by rw [List.length_set, List.length_set]; exact h.2.2.2⟩
  · obtain ⟨j, w⟩ := q
    obtain ⟨u, k, h1, h2, h3⟩ := (am_la_mem _ 0 j w).mp hq
    have h2' : j = k := by omega
    subst h2'
    rcases key j u h1 with ⟨e1, e2⟩ | ⟨e1, e2, e3⟩
    · subst e1 e2; rw [h3]; exact List.mem_cons_self
    · refine List.mem_cons_of_mem _ (List.mem_filter.mpr ⟨(am_la_mem L 0 j w).mpr ⟨u, j, e3, by omega, h3⟩, ?_⟩)
      have n1 : (j == i) = false := by simpa using e1
      have n2 : (j == i + 1) = false := by simpa using e2
      simp only [n1, n2, Bool.not_false, Bool.true_and, Bool.not_eq_true', Bool.and_eq_false_iff, beq_eq_false_iff_ne, ne_eq]
      by_cases e4 : j + 1 = i
      · right
        intro hcat
        rw [h3, am_cat_rn] at hcat
        have hvk := h.2.1 j u e3
        cases u <;> simp [Value.category, am_vok] at hcat hvk
        have := h.2.2.1 j _ e3
        unfold am_lpok at ho
        have e5 : i - 1 = j := by omega
        rw [e5, this] at ho
        simp at ho
        omega
      · exact Or.inl e4
  · rcases key j w hj with ⟨_, e2⟩ | ⟨_, _, e3⟩
    · subst e2; trivial
    · exact h.2.1 j w e3
  · rcases key j _ hj with ⟨e1, _⟩ | ⟨_, _, e3⟩
    · subst e1; exact hp
    · exact h.2.2.1 j y e3
/-- the cells' kinds of arrays -/
def am_tys (tc : Nat → ClassId) : List (ClassId × FieldType) := [(tc 10, .int), (tc 11, .boolean), (tc 12, .char), (tc 13, .int), (tc 14, .object "java/lang/Object"), (tc 15, .object "SaywhatSeen$Fact"), (tc 16, .object "SaywhatSeen$Film"), (tc 17, .array .int)]
def am_A (sz0 : Nat) : Nat → Prop := fun q => sz0 ≤ q
/-- the classes of the arrays that aren't ours: the script's, the empty one's -/
def am_Fc (tc : Nat → ClassId) (U : State) : Prop := ArrOfT U (tc 18) .int ∧ ArrOfT U (tc 19) (.object "java/lang/Object") ∧ ∃ mi : Nat, va_Mi "[Ljava/lang/Object;" mi U
/-- what lasts over the whole run: the tables' words, the texts, the classes, three statics -/
def am_Gd (D : va_G) (tc : Nat → ClassId) (sz0 b0 : Nat) (U : State) (H : Heap) : Prop :=
  am_Gw U ∧ (∀ (k : Nat) (tx : String), Jvm.Cond.stringRef "SaywhatSeen" k tx ∈ lw_tbl → ∃ a, vk_R "SaywhatSeen" k tx a U) ∧ va_K D am_cl (am_tys tc) U ∧ sz0 ≤ H.size ∧
  vx_Zq Bundle.tN "UNASSIGNED_STACK" Bundle.steD (am_A sz0) U H ∧ vx_Zq Bundle.tN "SUPPRESSED_SENTINEL" Bundle.listD (am_A sz0) U H ∧ va_Z "java/util/ArrayList" "DEFAULTCAPACITY_EMPTY_ELEMENTDATA" "[Ljava/lang/Object;" (.ref b0) (am_A sz0) U H ∧ (∀ x y, x < 5 → y < 5 → x ≠ y → va_Nc (am_exn x) (am_exn y) U) ∧ am_Fc tc U
theorem am_Gd.moved {D : va_G} {tc : Nat → ClassId} {sz0 b0 : Nat} {s U : State} {H H1 : Heap} (h : am_Gd D tc sz0 b0 s H) (hW : s.WarmedH U.vm) (hs : H.size ≤ H1.size) (hq : ∀ q : Nat, q < H.size → ¬ am_A sz0 q → H1[q]? = H[q]?) : am_Gd D tc sz0 b0 U H1 := by
  obtain ⟨h1, h2, h3, h0, h4, h5, h6, h7, h8⟩ := h
  exact ⟨h1.warm hW, fun k tx hm => (h2 k tx hm).imp fun a ha => ha.warm hW, h3.moved hW.alike, Nat.le_trans h0 hs, (h4.moved hW.alike).kept hq, (h5.moved hW.alike).kept hq, (h6.moved hW.alike).kept hq, fun x y a b c => (h7 x y a b c).moved hW.alike, arrOfT_moved hW.alike h8.1, arrOfT_moved hW.alike h8.2.1, h8.2.2.imp fun mi h => h.moved hW.alike⟩
