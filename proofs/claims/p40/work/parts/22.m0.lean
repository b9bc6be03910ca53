/-! THE MODEL'S HEAP: whole numbers M by role (100 to 159) and place, over the rest C -/
def iM (M : Nat → Nat → Int) (C : am_I) : am_I := fun a j => if 100 ≤ a ∧ a < 160 then iI (M a j) else C a j
theorem iM_r {M : Nat → Nat → Int} {C : am_I} {a j : Nat} (h : 100 ≤ a ∧ a < 160) : iM M C a j = iI (M a j) := by simp [iM, h]
theorem iM_w {M : Nat → Nat → Int} {C : am_I} {a j : Nat} {v : Int} (h : 100 ≤ a ∧ a < 160) : am_u (iM M C) a j (iI v) = iM (am_u M a j v) C := by
  funext b i
  by_cases hb : b = a ∧ i = j
  · obtain ⟨rfl, rfl⟩ := hb; simp [am_u, iM, h]
  · simp [am_u, iM, hb]
/-- the model's pointers -/
def md_P (P : am_P) : Prop := P 100 5 = some 106 ∧ P 100 6 = some 107 ∧ P 100 7 = some 108 ∧ P 100 8 = some 109 ∧ P 100 9 = some 110 ∧ P 100 10 = some 111 ∧ P 100 11 = some 112 ∧ P 100 12 = some 113 ∧ P 100 13 = some 114 ∧ P 100 14 = some 115 ∧ P 100 15 = some 116 ∧ P 100 16 = some 117 ∧ P 100 17 = some 118 ∧ P 100 18 = some 119 ∧ P 100 19 = some 120 ∧ P 100 23 = some 124 ∧ P 100 24 = some 125 ∧ P 100 25 = some 126 ∧ P 100 26 = some 127 ∧ P 100 27 = some 128 ∧ P 100 28 = some 129 ∧ P 100 30 = some 131 ∧ P 100 31 = some 132 ∧ P 100 32 = some 133 ∧ P 100 33 = some 134 ∧ P 100 34 = some 135 ∧ P 100 35 = some 136 ∧ P 100 36 = some 137 ∧ P 100 37 = some 138 ∧ P 100 38 = some 139 ∧ P 100 39 = some 140 ∧ P 100 40 = some 141 ∧ P 100 41 = some 142 ∧ P 100 42 = some 143 ∧ P 100 43 = some 144 ∧ P 100 44 = some 145 ∧ P 100 45 = some 146 ∧ P 100 46 = some 147 ∧ P 100 49 = some 150 ∧ P 100 53 = some 154 ∧ P 100 54 = some 155
theorem md5 {P : am_P} (h : md_P P) : P 100 5 = some 106 := h.1
theorem md6 {P : am_P} (h : md_P P) : P 100 6 = some 107 := h.2.1
theorem md7 {P : am_P} (h : md_P P) : P 100 7 = some 108 := h.2.2.1
theorem md8 {P : am_P} (h : md_P P) : P 100 8 = some 109 := h.2.2.2.1
theorem md9 {P : am_P} (h : md_P P) : P 100 9 = some 110 := h.2.2.2.2.1
theorem md10 {P : am_P} (h : md_P P) : P 100 10 = some 111 := h.2.2.2.2.2.1
theorem md11 {P : am_P} (h : md_P P) : P 100 11 = some 112 := h.2.2.2.2.2.2.1
theorem md12 {P : am_P} (h : md_P P) : P 100 12 = some 113 := h.2.2.2.2.2.2.2.1
theorem md13 {P : am_P} (h : md_P P) : P 100 13 = some 114 := h.2.2.2.2.2.2.2.2.1
theorem md14 {P : am_P} (h : md_P P) : P 100 14 = some 115 := h.2.2.2.2.2.2.2.2.2.1
theorem md15 {P : am_P} (h : md_P P) : P 100 15 = some 116 := h.2.2.2.2.2.2.2.2.2.2.1
theorem md16 {P : am_P} (h : md_P P) : P 100 16 = some 117 := h.2.2.2.2.2.2.2.2.2.2.2.1
theorem md17 {P : am_P} (h : md_P P) : P 100 17 = some 118 := h.2.2.2.2.2.2.2.2.2.2.2.2.1
theorem md18 {P : am_P} (h : md_P P) : P 100 18 = some 119 := h.2.2.2.2.2.2.2.2.2.2.2.2.2.1
theorem md19 {P : am_P} (h : md_P P) : P 100 19 = some 120 := h.2.2.2.2.2.2.2.2.2.2.2.2.2.2.1
theorem md23 {P : am_P} (h : md_P P) : P 100 23 = some 124 := h.2.2.2.2.2.2.2.2.2.2.2.2.2.2.2.1
theorem md24 {P : am_P} (h : md_P P) : P 100 24 = some 125 := h.2.2.2.2.2.2.2.2.2.2.2.2.2.2.2.2.1
theorem md25 {P : am_P} (h : md_P P) : P 100 25 = some 126 := h.2.2.2.2.2.2.2.2.2.2.2.2.2.2.2.2.2.1
theorem md26 {P : am_P} (h : md_P P) : P 100 26 = some 127 := h.2.2.2.2.2.2.2.2.2.2.2.2.2.2.2.2.2.2.1
theorem md27 {P : am_P} (h : md_P P) : P 100 27 = some 128 := h.2.2.2.2.2.2.2.2.2.2.2.2.2.2.2.2.2.2.2.1
theorem md28 {P : am_P} (h : md_P P) : P 100 28 = some 129 := h.2.2.2.2.2.2.2.2.2.2.2.2.2.2.2.2.2.2.2.2.1
theorem md30 {P : am_P} (h : md_P P) : P 100 30 = some 131 := h.2.2.2.2.2.2.2.2.2.2.2.2.2.2.2.2.2.2.2.2.2.1
theorem md31 {P : am_P} (h : md_P P) : P 100 31 = some 132 := h.2.2.2.2.2.2.2.2.2.2.2.2.2.2.2.2.2.2.2.2.2.2.1
theorem md32 {P : am_P} (h : md_P P) : P 100 32 = some 133 := h.2.2.2.2.2.2.2.2.2.2.2.2.2.2.2.2.2.2.2.2.2.2.2.1
theorem md33 {P : am_P} (h : md_P P) : P 100 33 = some 134 := h.2.2.2.2.2.2.2.2.2.2.2.2.2.2.2.2.2.2.2.2.2.2.2.2.1
theorem md34 {P : am_P} (h : md_P P) : P 100 34 = some 135 := h.2.2.2.2.2.2.2.2.2.2.2.2.2.2.2.2.2.2.2.2.2.2.2.2.2.1
theorem md35 {P : am_P} (h : md_P P) : P 100 35 = some 136 := h.2.2.2.2.2.2.2.2.2.2.2.2.2.2.2.2.2.2.2.2.2.2.2.2.2.2.1
theorem md36 {P : am_P} (h : md_P P) : P 100 36 = some 137 := h.2.2.2.2.2.2.2.2.2.2.2.2.2.2.2.2.2.2.2.2.2.2.2.2.2.2.2.1
theorem md37 {P : am_P} (h : md_P P) : P 100 37 = some 138 := h.2.2.2.2.2.2.2.2.2.2.2.2.2.2.2.2.2.2.2.2.2.2.2.2.2.2.2.2.1
theorem md38 {P : am_P} (h : md_P P) : P 100 38 = some 139 := h.2.2.2.2.2.2.2.2.2.2.2.2.2.2.2.2.2.2.2.2.2.2.2.2.2.2.2.2.2.1
theorem md39 {P : am_P} (h : md_P P) : P 100 39 = some 140 := h.2.2.2.2.2.2.2.2.2.2.2.2.2.2.2.2.2.2.2.2.2.2.2.2.2.2.2.2.2.2.1
theorem md40 {P : am_P} (h : md_P P) : P 100 40 = some 141 := h.2.2.2.2.2.2.2.2.2.2.2.2.2.2.2.2.2.2.2.2.2.2.2.2.2.2.2.2.2.2.2.1
theorem md41 {P : am_P} (h : md_P P) : P 100 41 = some 142 := h.2.2.2.2.2.2.2.2.2.2.2.2.2.2.2.2.2.2.2.2.2.2.2.2.2.2.2.2.2.2.2.2.1
theorem md42 {P : am_P} (h : md_P P) : P 100 42 = some 143 := h.2.2.2.2.2.2.2.2.2.2.2.2.2.2.2.2.2.2.2.2.2.2.2.2.2.2.2.2.2.2.2.2.2.1
theorem md43 {P : am_P} (h : md_P P) : P 100 43 = some 144 := h.2.2.2.2.2.2.2.2.2.2.2.2.2.2.2.2.2.2.2.2.2.2.2.2.2.2.2.2.2.2.2.2.2.2.1
theorem md44 {P : am_P} (h : md_P P) : P 100 44 = some 145 := h.2.2.2.2.2.2.2.2.2.2.2.2.2.2.2.2.2.2.2.2.2.2.2.2.2.2.2.2.2.2.2.2.2.2.2.1
theorem md45 {P : am_P} (h : md_P P) : P 100 45 = some 146 := h.2.2.2.2.2.2.2.2.2.2.2.2.2.2.2.2.2.2.2.2.2.2.2.2.2.2.2.2.2.2.2.2.2.2.2.2.1
theorem md46 {P : am_P} (h : md_P P) : P 100 46 = some 147 := h.2.2.2.2.2.2.2.2.2.2.2.2.2.2.2.2.2.2.2.2.2.2.2.2.2.2.2.2.2.2.2.2.2.2.2.2.2.1
theorem md49 {P : am_P} (h : md_P P) : P 100 49 = some 150 := h.2.2.2.2.2.2.2.2.2.2.2.2.2.2.2.2.2.2.2.2.2.2.2.2.2.2.2.2.2.2.2.2.2.2.2.2.2.2.1
theorem md53 {P : am_P} (h : md_P P) : P 100 53 = some 154 := h.2.2.2.2.2.2.2.2.2.2.2.2.2.2.2.2.2.2.2.2.2.2.2.2.2.2.2.2.2.2.2.2.2.2.2.2.2.2.2.1
theorem md54 {P : am_P} (h : md_P P) : P 100 54 = some 155 := h.2.2.2.2.2.2.2.2.2.2.2.2.2.2.2.2.2.2.2.2.2.2.2.2.2.2.2.2.2.2.2.2.2.2.2.2.2.2.2.2
/-- bounds of a film -/
def WFi (K : Int) (M : Nat → Nat → Int) : Prop := (1 ≤ M 100 1 ∧ M 100 1 ≤ 900) ∧ (0 ≤ M 100 4 ∧ M 100 4 ≤ 30) ∧
  (∀ k : Nat, (k : Int) < M 100 4 → 0 ≤ M 107 k ∧ M 107 k < M 108 k ∧ M 108 k ≤ M 100 1) ∧ (∀ k : Nat, (k : Int) < M 100 4 → 0 ≤ M 106 k ∧ M 106 k ≤ 65535) ∧
  (∀ j, j < 10 → 0 ≤ M 109 j ∧ M 109 j ≤ K) ∧ (∀ j, j < 10 → M 110 j = 0 ∨ M 110 j = 1) ∧ (∀ j, j < 10 → 0 ≤ M 111 j ∧ M 111 j ≤ K) ∧ (∀ j, j < 10 → 0 ≤ M 112 j ∧ M 112 j ≤ K) ∧
  (∀ j, j < 10 → M 110 j = 1 → M 111 j ≤ M 100 1 ∧ M 112 j ≤ M 100 1) ∧ (∀ j, j < 10 → 0 ≤ M 113 j ∧ M 113 j ≤ 99) ∧ (∀ j, j < 10 → 0 ≤ M 114 j ∧ M 114 j ≤ 60) ∧ (∀ j, j < 10 → M 115 j = 0 ∨ M 115 j = 1) ∧
  (∀ j, j < 10 → 0 ≤ M 116 j ∧ M 116 j ≤ 10) ∧ (∀ j, j < 10 → 0 ≤ M 117 j ∧ M 117 j ≤ 10) ∧ (∀ j, j < 10 → -2147483648 ≤ M 118 j ∧ M 118 j ≤ 2147483647) ∧ (∀ j, j < 10 → 0 ≤ M 119 j ∧ M 119 j ≤ 3) ∧
  (∀ i, i < 30 → 0 ≤ M 120 i ∧ M 120 i ≤ 80) ∧ (∀ j v : Nat, j < 10 → M 110 j = 1 → (v : Int) < M 119 j → 1 ≤ M 120 (3 * j + v))
theorem wf_tk {K : Int} {M : Nat → Nat → Int} (h : WFi K M) : (1 ≤ M 100 1 ∧ M 100 1 ≤ 900) := h.1
theorem wf_n {K : Int} {M : Nat → Nat → Int} (h : WFi K M) : (0 ≤ M 100 4 ∧ M 100 4 ≤ 30) := h.2.1
theorem wf_so {K : Int} {M : Nat → Nat → Int} (h : WFi K M) : (∀ k : Nat, (k : Int) < M 100 4 → 0 ≤ M 107 k ∧ M 107 k < M 108 k ∧ M 108 k ≤ M 100 1) := h.2.2.1
theorem wf_kd {K : Int} {M : Nat → Nat → Int} (h : WFi K M) : (∀ k : Nat, (k : Int) < M 100 4 → 0 ≤ M 106 k ∧ M 106 k ≤ 65535) := h.2.2.2.1
theorem wf_nm {K : Int} {M : Nat → Nat → Int} (h : WFi K M) : (∀ j, j < 10 → 0 ≤ M 109 j ∧ M 109 j ≤ K) := h.2.2.2.2.1
theorem wf_th {K : Int} {M : Nat → Nat → Int} (h : WFi K M) : (∀ j, j < 10 → M 110 j = 0 ∨ M 110 j = 1) := h.2.2.2.2.2.1
theorem wf_se {K : Int} {M : Nat → Nat → Int} (h : WFi K M) : (∀ j, j < 10 → 0 ≤ M 111 j ∧ M 111 j ≤ K) := h.2.2.2.2.2.2.1
theorem wf_by {K : Int} {M : Nat → Nat → Int} (h : WFi K M) : (∀ j, j < 10 → 0 ≤ M 112 j ∧ M 112 j ≤ K) := h.2.2.2.2.2.2.2.1
theorem wf_sb {K : Int} {M : Nat → Nat → Int} (h : WFi K M) : (∀ j, j < 10 → M 110 j = 1 → M 111 j ≤ M 100 1 ∧ M 112 j ≤ M 100 1) := h.2.2.2.2.2.2.2.2.1
theorem wf_wt {K : Int} {M : Nat → Nat → Int} (h : WFi K M) : (∀ j, j < 10 → 0 ≤ M 113 j ∧ M 113 j ≤ 99) := h.2.2.2.2.2.2.2.2.2.1
theorem wf_ah {K : Int} {M : Nat → Nat → Int} (h : WFi K M) : (∀ j, j < 10 → 0 ≤ M 114 j ∧ M 114 j ≤ 60) := h.2.2.2.2.2.2.2.2.2.2.1
theorem wf_ov {K : Int} {M : Nat → Nat → Int} (h : WFi K M) : (∀ j, j < 10 → M 115 j = 0 ∨ M 115 j = 1) := h.2.2.2.2.2.2.2.2.2.2.2.1
theorem wf_pe {K : Int} {M : Nat → Nat → Int} (h : WFi K M) : (∀ j, j < 10 → 0 ≤ M 116 j ∧ M 116 j ≤ 10) := h.2.2.2.2.2.2.2.2.2.2.2.2.1
theorem wf_ti {K : Int} {M : Nat → Nat → Int} (h : WFi K M) : (∀ j, j < 10 → 0 ≤ M 117 j ∧ M 117 j ≤ 10) := h.2.2.2.2.2.2.2.2.2.2.2.2.2.1
theorem wf_te {K : Int} {M : Nat → Nat → Int} (h : WFi K M) : (∀ j, j < 10 → -2147483648 ≤ M 118 j ∧ M 118 j ≤ 2147483647) := h.2.2.2.2.2.2.2.2.2.2.2.2.2.2.1
theorem wf_vs {K : Int} {M : Nat → Nat → Int} (h : WFi K M) : (∀ j, j < 10 → 0 ≤ M 119 j ∧ M 119 j ≤ 3) := h.2.2.2.2.2.2.2.2.2.2.2.2.2.2.2.1
theorem wf_sy {K : Int} {M : Nat → Nat → Int} (h : WFi K M) : (∀ i, i < 30 → 0 ≤ M 120 i ∧ M 120 i ≤ 80) := h.2.2.2.2.2.2.2.2.2.2.2.2.2.2.2.2.1
theorem wf_s1 {K : Int} {M : Nat → Nat → Int} (h : WFi K M) : (∀ j v : Nat, j < 10 → M 110 j = 1 → (v : Int) < M 119 j → 1 ≤ M 120 (3 * j + v)) := h.2.2.2.2.2.2.2.2.2.2.2.2.2.2.2.2.2
