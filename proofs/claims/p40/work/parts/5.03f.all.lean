/-! SOUNDNESS: every entry of the tables is as the bytes and the words have it -/
theorem am_cks_ok {m i n : Nat} (h : am_cks m i n = true) : ∀ j, i ≤ j → j < i + n → ∀ q, ((am_tabs.getD m []).zip (am_xs.getD m []))[j]? = some q → am_okE m q.1.1 q.1.2 := by
  intro j h1 h2 q hq
  refine am_ckE_ok (List.all_eq_true.mp h q ?_)
  refine List.mem_of_getElem? (i := j - i) ?_
  rw [List.getElem?_take_of_lt (by omega), List.getElem?_drop, show i + (j - i) = j by omega]
  exact hq
theorem am_m0 : ∀ (j : Nat) (q : (Nat × am_e) × List Nat), ((am_tabs.getD 0 []).zip (am_xs.getD 0 []))[j]? = some q → am_okE 0 q.1.1 q.1.2 := by
  intro j q hq
  have hlen : ((am_tabs.getD 0 []).zip (am_xs.getD 0 [])).length = 28 := by decide +kernel
  exact am_cks_ok am_k0_0 j (by omega) (by have := (List.getElem?_eq_some_iff.mp hq).1; omega) q hq
theorem am_m1 : ∀ (j : Nat) (q : (Nat × am_e) × List Nat), ((am_tabs.getD 1 []).zip (am_xs.getD 1 []))[j]? = some q → am_okE 1 q.1.1 q.1.2 := by
  intro j q hq
  have hlen : ((am_tabs.getD 1 []).zip (am_xs.getD 1 [])).length = 47 := by decide +kernel
  exact am_cks_ok am_k1_0 j (by omega) (by have := (List.getElem?_eq_some_iff.mp hq).1; omega) q hq
theorem am_m2 : ∀ (j : Nat) (q : (Nat × am_e) × List Nat), ((am_tabs.getD 2 []).zip (am_xs.getD 2 []))[j]? = some q → am_okE 2 q.1.1 q.1.2 := by
  intro j q hq
  have hlen : ((am_tabs.getD 2 []).zip (am_xs.getD 2 [])).length = 15 := by decide +kernel
  exact am_cks_ok am_k2_0 j (by omega) (by have := (List.getElem?_eq_some_iff.mp hq).1; omega) q hq
theorem am_m3 : ∀ (j : Nat) (q : (Nat × am_e) × List Nat), ((am_tabs.getD 3 []).zip (am_xs.getD 3 []))[j]? = some q → am_okE 3 q.1.1 q.1.2 := by
  intro j q hq
  have hlen : ((am_tabs.getD 3 []).zip (am_xs.getD 3 [])).length = 17 := by decide +kernel
  exact am_cks_ok am_k3_0 j (by omega) (by have := (List.getElem?_eq_some_iff.mp hq).1; omega) q hq
theorem am_m4 : ∀ (j : Nat) (q : (Nat × am_e) × List Nat), ((am_tabs.getD 4 []).zip (am_xs.getD 4 []))[j]? = some q → am_okE 4 q.1.1 q.1.2 := by
  intro j q hq
  have hlen : ((am_tabs.getD 4 []).zip (am_xs.getD 4 [])).length = 22 := by decide +kernel
  exact am_cks_ok am_k4_0 j (by omega) (by have := (List.getElem?_eq_some_iff.mp hq).1; omega) q hq
theorem am_m5 : ∀ (j : Nat) (q : (Nat × am_e) × List Nat), ((am_tabs.getD 5 []).zip (am_xs.getD 5 []))[j]? = some q → am_okE 5 q.1.1 q.1.2 := by
  intro j q hq
  have hlen : ((am_tabs.getD 5 []).zip (am_xs.getD 5 [])).length = 22 := by decide +kernel
  exact am_cks_ok am_k5_0 j (by omega) (by have := (List.getElem?_eq_some_iff.mp hq).1; omega) q hq
theorem am_m6 : ∀ (j : Nat) (q : (Nat × am_e) × List Nat), ((am_tabs.getD 6 []).zip (am_xs.getD 6 []))[j]? = some q → am_okE 6 q.1.1 q.1.2 := by
  intro j q hq
  have hlen : ((am_tabs.getD 6 []).zip (am_xs.getD 6 [])).length = 20 := by decide +kernel
  exact am_cks_ok am_k6_0 j (by omega) (by have := (List.getElem?_eq_some_iff.mp hq).1; omega) q hq
theorem am_m7 : ∀ (j : Nat) (q : (Nat × am_e) × List Nat), ((am_tabs.getD 7 []).zip (am_xs.getD 7 []))[j]? = some q → am_okE 7 q.1.1 q.1.2 := by
  intro j q hq
  have hlen : ((am_tabs.getD 7 []).zip (am_xs.getD 7 [])).length = 23 := by decide +kernel
  exact am_cks_ok am_k7_0 j (by omega) (by have := (List.getElem?_eq_some_iff.mp hq).1; omega) q hq
theorem am_m8 : ∀ (j : Nat) (q : (Nat × am_e) × List Nat), ((am_tabs.getD 8 []).zip (am_xs.getD 8 []))[j]? = some q → am_okE 8 q.1.1 q.1.2 := by
  intro j q hq
  have hlen : ((am_tabs.getD 8 []).zip (am_xs.getD 8 [])).length = 74 := by decide +kernel
  exact am_cks_ok am_k8_0 j (by omega) (by have := (List.getElem?_eq_some_iff.mp hq).1; omega) q hq
theorem am_m9 : ∀ (j : Nat) (q : (Nat × am_e) × List Nat), ((am_tabs.getD 9 []).zip (am_xs.getD 9 []))[j]? = some q → am_okE 9 q.1.1 q.1.2 := by
  intro j q hq
  have hlen : ((am_tabs.getD 9 []).zip (am_xs.getD 9 [])).length = 43 := by decide +kernel
  exact am_cks_ok am_k9_0 j (by omega) (by have := (List.getElem?_eq_some_iff.mp hq).1; omega) q hq
theorem am_m10 : ∀ (j : Nat) (q : (Nat × am_e) × List Nat), ((am_tabs.getD 10 []).zip (am_xs.getD 10 []))[j]? = some q → am_okE 10 q.1.1 q.1.2 := by
  intro j q hq
  have hlen : ((am_tabs.getD 10 []).zip (am_xs.getD 10 [])).length = 14 := by decide +kernel
  exact am_cks_ok am_k10_0 j (by omega) (by have := (List.getElem?_eq_some_iff.mp hq).1; omega) q hq
theorem am_m11 : ∀ (j : Nat) (q : (Nat × am_e) × List Nat), ((am_tabs.getD 11 []).zip (am_xs.getD 11 []))[j]? = some q → am_okE 11 q.1.1 q.1.2 := by
  intro j q hq
  have hlen : ((am_tabs.getD 11 []).zip (am_xs.getD 11 [])).length = 13 := by decide +kernel
  exact am_cks_ok am_k11_0 j (by omega) (by have := (List.getElem?_eq_some_iff.mp hq).1; omega) q hq
theorem am_m12 : ∀ (j : Nat) (q : (Nat × am_e) × List Nat), ((am_tabs.getD 12 []).zip (am_xs.getD 12 []))[j]? = some q → am_okE 12 q.1.1 q.1.2 := by
  intro j q hq
  have hlen : ((am_tabs.getD 12 []).zip (am_xs.getD 12 [])).length = 18 := by decide +kernel
  exact am_cks_ok am_k12_0 j (by omega) (by have := (List.getElem?_eq_some_iff.mp hq).1; omega) q hq
theorem am_m13 : ∀ (j : Nat) (q : (Nat × am_e) × List Nat), ((am_tabs.getD 13 []).zip (am_xs.getD 13 []))[j]? = some q → am_okE 13 q.1.1 q.1.2 := by
  intro j q hq
  have hlen : ((am_tabs.getD 13 []).zip (am_xs.getD 13 [])).length = 24 := by decide +kernel
  exact am_cks_ok am_k13_0 j (by omega) (by have := (List.getElem?_eq_some_iff.mp hq).1; omega) q hq
theorem am_m14 : ∀ (j : Nat) (q : (Nat × am_e) × List Nat), ((am_tabs.getD 14 []).zip (am_xs.getD 14 []))[j]? = some q → am_okE 14 q.1.1 q.1.2 := by
  intro j q hq
  have hlen : ((am_tabs.getD 14 []).zip (am_xs.getD 14 [])).length = 4 := by decide +kernel
  exact am_cks_ok am_k14_0 j (by omega) (by have := (List.getElem?_eq_some_iff.mp hq).1; omega) q hq
theorem am_m15 : ∀ (j : Nat) (q : (Nat × am_e) × List Nat), ((am_tabs.getD 15 []).zip (am_xs.getD 15 []))[j]? = some q → am_okE 15 q.1.1 q.1.2 := by
  intro j q hq
  have hlen : ((am_tabs.getD 15 []).zip (am_xs.getD 15 [])).length = 25 := by decide +kernel
  exact am_cks_ok am_k15_0 j (by omega) (by have := (List.getElem?_eq_some_iff.mp hq).1; omega) q hq
theorem am_m16 : ∀ (j : Nat) (q : (Nat × am_e) × List Nat), ((am_tabs.getD 16 []).zip (am_xs.getD 16 []))[j]? = some q → am_okE 16 q.1.1 q.1.2 := by
  intro j q hq
  have hlen : ((am_tabs.getD 16 []).zip (am_xs.getD 16 [])).length = 25 := by decide +kernel
  exact am_cks_ok am_k16_0 j (by omega) (by have := (List.getElem?_eq_some_iff.mp hq).1; omega) q hq
theorem am_m17 : ∀ (j : Nat) (q : (Nat × am_e) × List Nat), ((am_tabs.getD 17 []).zip (am_xs.getD 17 []))[j]? = some q → am_okE 17 q.1.1 q.1.2 := by
  intro j q hq
  have hlen : ((am_tabs.getD 17 []).zip (am_xs.getD 17 [])).length = 28 := by decide +kernel
  exact am_cks_ok am_k17_0 j (by omega) (by have := (List.getElem?_eq_some_iff.mp hq).1; omega) q hq
theorem am_m18 : ∀ (j : Nat) (q : (Nat × am_e) × List Nat), ((am_tabs.getD 18 []).zip (am_xs.getD 18 []))[j]? = some q → am_okE 18 q.1.1 q.1.2 := by
  intro j q hq
  have hlen : ((am_tabs.getD 18 []).zip (am_xs.getD 18 [])).length = 47 := by decide +kernel
  exact am_cks_ok am_k18_0 j (by omega) (by have := (List.getElem?_eq_some_iff.mp hq).1; omega) q hq
theorem am_m19 : ∀ (j : Nat) (q : (Nat × am_e) × List Nat), ((am_tabs.getD 19 []).zip (am_xs.getD 19 []))[j]? = some q → am_okE 19 q.1.1 q.1.2 := by
  intro j q hq
  have hlen : ((am_tabs.getD 19 []).zip (am_xs.getD 19 [])).length = 33 := by decide +kernel
  exact am_cks_ok am_k19_0 j (by omega) (by have := (List.getElem?_eq_some_iff.mp hq).1; omega) q hq
theorem am_m20 : ∀ (j : Nat) (q : (Nat × am_e) × List Nat), ((am_tabs.getD 20 []).zip (am_xs.getD 20 []))[j]? = some q → am_okE 20 q.1.1 q.1.2 := by
  intro j q hq
  have hlen : ((am_tabs.getD 20 []).zip (am_xs.getD 20 [])).length = 34 := by decide +kernel
  exact am_cks_ok am_k20_0 j (by omega) (by have := (List.getElem?_eq_some_iff.mp hq).1; omega) q hq
theorem am_m21 : ∀ (j : Nat) (q : (Nat × am_e) × List Nat), ((am_tabs.getD 21 []).zip (am_xs.getD 21 []))[j]? = some q → am_okE 21 q.1.1 q.1.2 := by
  intro j q hq
  have hlen : ((am_tabs.getD 21 []).zip (am_xs.getD 21 [])).length = 28 := by decide +kernel
  exact am_cks_ok am_k21_0 j (by omega) (by have := (List.getElem?_eq_some_iff.mp hq).1; omega) q hq
theorem am_m22 : ∀ (j : Nat) (q : (Nat × am_e) × List Nat), ((am_tabs.getD 22 []).zip (am_xs.getD 22 []))[j]? = some q → am_okE 22 q.1.1 q.1.2 := by
  intro j q hq
  have hlen : ((am_tabs.getD 22 []).zip (am_xs.getD 22 [])).length = 38 := by decide +kernel
  exact am_cks_ok am_k22_0 j (by omega) (by have := (List.getElem?_eq_some_iff.mp hq).1; omega) q hq
theorem am_m23 : ∀ (j : Nat) (q : (Nat × am_e) × List Nat), ((am_tabs.getD 23 []).zip (am_xs.getD 23 []))[j]? = some q → am_okE 23 q.1.1 q.1.2 := by
  intro j q hq
  have hlen : ((am_tabs.getD 23 []).zip (am_xs.getD 23 [])).length = 38 := by decide +kernel
  exact am_cks_ok am_k23_0 j (by omega) (by have := (List.getElem?_eq_some_iff.mp hq).1; omega) q hq
theorem am_m24 : ∀ (j : Nat) (q : (Nat × am_e) × List Nat), ((am_tabs.getD 24 []).zip (am_xs.getD 24 []))[j]? = some q → am_okE 24 q.1.1 q.1.2 := by
  intro j q hq
  have hlen : ((am_tabs.getD 24 []).zip (am_xs.getD 24 [])).length = 36 := by decide +kernel
  exact am_cks_ok am_k24_0 j (by omega) (by have := (List.getElem?_eq_some_iff.mp hq).1; omega) q hq
theorem am_m25 : ∀ (j : Nat) (q : (Nat × am_e) × List Nat), ((am_tabs.getD 25 []).zip (am_xs.getD 25 []))[j]? = some q → am_okE 25 q.1.1 q.1.2 := by
  intro j q hq
  have hlen : ((am_tabs.getD 25 []).zip (am_xs.getD 25 [])).length = 43 := by decide +kernel
  exact am_cks_ok am_k25_0 j (by omega) (by have := (List.getElem?_eq_some_iff.mp hq).1; omega) q hq
theorem am_m26 : ∀ (j : Nat) (q : (Nat × am_e) × List Nat), ((am_tabs.getD 26 []).zip (am_xs.getD 26 []))[j]? = some q → am_okE 26 q.1.1 q.1.2 := by
  intro j q hq
  have hlen : ((am_tabs.getD 26 []).zip (am_xs.getD 26 [])).length = 124 := by decide +kernel
  by_cases h0 : j < 80
  · exact am_cks_ok am_k26_0 j (by omega) (by omega) q hq
  exact am_cks_ok am_k26_80 j (by omega) (by have := (List.getElem?_eq_some_iff.mp hq).1; omega) q hq
theorem am_m27 : ∀ (j : Nat) (q : (Nat × am_e) × List Nat), ((am_tabs.getD 27 []).zip (am_xs.getD 27 []))[j]? = some q → am_okE 27 q.1.1 q.1.2 := by
  intro j q hq
  have hlen : ((am_tabs.getD 27 []).zip (am_xs.getD 27 [])).length = 11 := by decide +kernel
  exact am_cks_ok am_k27_0 j (by omega) (by have := (List.getElem?_eq_some_iff.mp hq).1; omega) q hq
theorem am_m28 : ∀ (j : Nat) (q : (Nat × am_e) × List Nat), ((am_tabs.getD 28 []).zip (am_xs.getD 28 []))[j]? = some q → am_okE 28 q.1.1 q.1.2 := by
  intro j q hq
  have hlen : ((am_tabs.getD 28 []).zip (am_xs.getD 28 [])).length = 130 := by decide +kernel
  by_cases h0 : j < 80
  · exact am_cks_ok am_k28_0 j (by omega) (by omega) q hq
  exact am_cks_ok am_k28_80 j (by omega) (by have := (List.getElem?_eq_some_iff.mp hq).1; omega) q hq
theorem am_m29 : ∀ (j : Nat) (q : (Nat × am_e) × List Nat), ((am_tabs.getD 29 []).zip (am_xs.getD 29 []))[j]? = some q → am_okE 29 q.1.1 q.1.2 := by
  intro j q hq
  have hlen : ((am_tabs.getD 29 []).zip (am_xs.getD 29 [])).length = 11 := by decide +kernel
  exact am_cks_ok am_k29_0 j (by omega) (by have := (List.getElem?_eq_some_iff.mp hq).1; omega) q hq
theorem am_m30 : ∀ (j : Nat) (q : (Nat × am_e) × List Nat), ((am_tabs.getD 30 []).zip (am_xs.getD 30 []))[j]? = some q → am_okE 30 q.1.1 q.1.2 := by
  intro j q hq
  have hlen : ((am_tabs.getD 30 []).zip (am_xs.getD 30 [])).length = 27 := by decide +kernel
  exact am_cks_ok am_k30_0 j (by omega) (by have := (List.getElem?_eq_some_iff.mp hq).1; omega) q hq
theorem am_m31 : ∀ (j : Nat) (q : (Nat × am_e) × List Nat), ((am_tabs.getD 31 []).zip (am_xs.getD 31 []))[j]? = some q → am_okE 31 q.1.1 q.1.2 := by
  intro j q hq
  have hlen : ((am_tabs.getD 31 []).zip (am_xs.getD 31 [])).length = 14 := by decide +kernel
  exact am_cks_ok am_k31_0 j (by omega) (by have := (List.getElem?_eq_some_iff.mp hq).1; omega) q hq
theorem am_m32 : ∀ (j : Nat) (q : (Nat × am_e) × List Nat), ((am_tabs.getD 32 []).zip (am_xs.getD 32 []))[j]? = some q → am_okE 32 q.1.1 q.1.2 := by
  intro j q hq
  have hlen : ((am_tabs.getD 32 []).zip (am_xs.getD 32 [])).length = 20 := by decide +kernel
  exact am_cks_ok am_k32_0 j (by omega) (by have := (List.getElem?_eq_some_iff.mp hq).1; omega) q hq
theorem am_m33 : ∀ (j : Nat) (q : (Nat × am_e) × List Nat), ((am_tabs.getD 33 []).zip (am_xs.getD 33 []))[j]? = some q → am_okE 33 q.1.1 q.1.2 := by
  intro j q hq
  have hlen : ((am_tabs.getD 33 []).zip (am_xs.getD 33 [])).length = 53 := by decide +kernel
  exact am_cks_ok am_k33_0 j (by omega) (by have := (List.getElem?_eq_some_iff.mp hq).1; omega) q hq
theorem am_m34 : ∀ (j : Nat) (q : (Nat × am_e) × List Nat), ((am_tabs.getD 34 []).zip (am_xs.getD 34 []))[j]? = some q → am_okE 34 q.1.1 q.1.2 := by
  intro j q hq
  have hlen : ((am_tabs.getD 34 []).zip (am_xs.getD 34 [])).length = 15 := by decide +kernel
  exact am_cks_ok am_k34_0 j (by omega) (by have := (List.getElem?_eq_some_iff.mp hq).1; omega) q hq
theorem am_m35 : ∀ (j : Nat) (q : (Nat × am_e) × List Nat), ((am_tabs.getD 35 []).zip (am_xs.getD 35 []))[j]? = some q → am_okE 35 q.1.1 q.1.2 := by
  intro j q hq
  have hlen : ((am_tabs.getD 35 []).zip (am_xs.getD 35 [])).length = 73 := by decide +kernel
  exact am_cks_ok am_k35_0 j (by omega) (by have := (List.getElem?_eq_some_iff.mp hq).1; omega) q hq
theorem am_m36 : ∀ (j : Nat) (q : (Nat × am_e) × List Nat), ((am_tabs.getD 36 []).zip (am_xs.getD 36 []))[j]? = some q → am_okE 36 q.1.1 q.1.2 := by
  intro j q hq
  have hlen : ((am_tabs.getD 36 []).zip (am_xs.getD 36 [])).length = 18 := by decide +kernel
  exact am_cks_ok am_k36_0 j (by omega) (by have := (List.getElem?_eq_some_iff.mp hq).1; omega) q hq
theorem am_m37 : ∀ (j : Nat) (q : (Nat × am_e) × List Nat), ((am_tabs.getD 37 []).zip (am_xs.getD 37 []))[j]? = some q → am_okE 37 q.1.1 q.1.2 := by
  intro j q hq
  have hlen : ((am_tabs.getD 37 []).zip (am_xs.getD 37 [])).length = 74 := by decide +kernel
  exact am_cks_ok am_k37_0 j (by omega) (by have := (List.getElem?_eq_some_iff.mp hq).1; omega) q hq
theorem am_m38 : ∀ (j : Nat) (q : (Nat × am_e) × List Nat), ((am_tabs.getD 38 []).zip (am_xs.getD 38 []))[j]? = some q → am_okE 38 q.1.1 q.1.2 := by
  intro j q hq
  have hlen : ((am_tabs.getD 38 []).zip (am_xs.getD 38 [])).length = 26 := by decide +kernel
  exact am_cks_ok am_k38_0 j (by omega) (by have := (List.getElem?_eq_some_iff.mp hq).1; omega) q hq
theorem am_m39 : ∀ (j : Nat) (q : (Nat × am_e) × List Nat), ((am_tabs.getD 39 []).zip (am_xs.getD 39 []))[j]? = some q → am_okE 39 q.1.1 q.1.2 := by
  intro j q hq
  have hlen : ((am_tabs.getD 39 []).zip (am_xs.getD 39 [])).length = 21 := by decide +kernel
  exact am_cks_ok am_k39_0 j (by omega) (by have := (List.getElem?_eq_some_iff.mp hq).1; omega) q hq
theorem am_m40 : ∀ (j : Nat) (q : (Nat × am_e) × List Nat), ((am_tabs.getD 40 []).zip (am_xs.getD 40 []))[j]? = some q → am_okE 40 q.1.1 q.1.2 := by
  intro j q hq
  have hlen : ((am_tabs.getD 40 []).zip (am_xs.getD 40 [])).length = 12 := by decide +kernel
  exact am_cks_ok am_k40_0 j (by omega) (by have := (List.getElem?_eq_some_iff.mp hq).1; omega) q hq
theorem am_m41 : ∀ (j : Nat) (q : (Nat × am_e) × List Nat), ((am_tabs.getD 41 []).zip (am_xs.getD 41 []))[j]? = some q → am_okE 41 q.1.1 q.1.2 := by
  intro j q hq
  have hlen : ((am_tabs.getD 41 []).zip (am_xs.getD 41 [])).length = 10 := by decide +kernel
  exact am_cks_ok am_k41_0 j (by omega) (by have := (List.getElem?_eq_some_iff.mp hq).1; omega) q hq
theorem am_m42 : ∀ (j : Nat) (q : (Nat × am_e) × List Nat), ((am_tabs.getD 42 []).zip (am_xs.getD 42 []))[j]? = some q → am_okE 42 q.1.1 q.1.2 := by
  intro j q hq
  have hlen : ((am_tabs.getD 42 []).zip (am_xs.getD 42 [])).length = 12 := by decide +kernel
  exact am_cks_ok am_k42_0 j (by omega) (by have := (List.getElem?_eq_some_iff.mp hq).1; omega) q hq
theorem am_m43 : ∀ (j : Nat) (q : (Nat × am_e) × List Nat), ((am_tabs.getD 43 []).zip (am_xs.getD 43 []))[j]? = some q → am_okE 43 q.1.1 q.1.2 := by
  intro j q hq
  have hlen : ((am_tabs.getD 43 []).zip (am_xs.getD 43 [])).length = 14 := by decide +kernel
  exact am_cks_ok am_k43_0 j (by omega) (by have := (List.getElem?_eq_some_iff.mp hq).1; omega) q hq
theorem am_m44 : ∀ (j : Nat) (q : (Nat × am_e) × List Nat), ((am_tabs.getD 44 []).zip (am_xs.getD 44 []))[j]? = some q → am_okE 44 q.1.1 q.1.2 := by
  intro j q hq
  have hlen : ((am_tabs.getD 44 []).zip (am_xs.getD 44 [])).length = 44 := by decide +kernel
  exact am_cks_ok am_k44_0 j (by omega) (by have := (List.getElem?_eq_some_iff.mp hq).1; omega) q hq
theorem am_m45 : ∀ (j : Nat) (q : (Nat × am_e) × List Nat), ((am_tabs.getD 45 []).zip (am_xs.getD 45 []))[j]? = some q → am_okE 45 q.1.1 q.1.2 := by
  intro j q hq
  have hlen : ((am_tabs.getD 45 []).zip (am_xs.getD 45 [])).length = 9 := by decide +kernel
  exact am_cks_ok am_k45_0 j (by omega) (by have := (List.getElem?_eq_some_iff.mp hq).1; omega) q hq
theorem am_m46 : ∀ (j : Nat) (q : (Nat × am_e) × List Nat), ((am_tabs.getD 46 []).zip (am_xs.getD 46 []))[j]? = some q → am_okE 46 q.1.1 q.1.2 := by
  intro j q hq
  have hlen : ((am_tabs.getD 46 []).zip (am_xs.getD 46 [])).length = 38 := by decide +kernel
  exact am_cks_ok am_k46_0 j (by omega) (by have := (List.getElem?_eq_some_iff.mp hq).1; omega) q hq
theorem am_m47 : ∀ (j : Nat) (q : (Nat × am_e) × List Nat), ((am_tabs.getD 47 []).zip (am_xs.getD 47 []))[j]? = some q → am_okE 47 q.1.1 q.1.2 := by
  intro j q hq
  have hlen : ((am_tabs.getD 47 []).zip (am_xs.getD 47 [])).length = 11 := by decide +kernel
  exact am_cks_ok am_k47_0 j (by omega) (by have := (List.getElem?_eq_some_iff.mp hq).1; omega) q hq
theorem am_m48 : ∀ (j : Nat) (q : (Nat × am_e) × List Nat), ((am_tabs.getD 48 []).zip (am_xs.getD 48 []))[j]? = some q → am_okE 48 q.1.1 q.1.2 := by
  intro j q hq
  have hlen : ((am_tabs.getD 48 []).zip (am_xs.getD 48 [])).length = 37 := by decide +kernel
  exact am_cks_ok am_k48_0 j (by omega) (by have := (List.getElem?_eq_some_iff.mp hq).1; omega) q hq
theorem am_m49 : ∀ (j : Nat) (q : (Nat × am_e) × List Nat), ((am_tabs.getD 49 []).zip (am_xs.getD 49 []))[j]? = some q → am_okE 49 q.1.1 q.1.2 := by
  intro j q hq
  have hlen : ((am_tabs.getD 49 []).zip (am_xs.getD 49 [])).length = 12 := by decide +kernel
  exact am_cks_ok am_k49_0 j (by omega) (by have := (List.getElem?_eq_some_iff.mp hq).1; omega) q hq
theorem am_m50 : ∀ (j : Nat) (q : (Nat × am_e) × List Nat), ((am_tabs.getD 50 []).zip (am_xs.getD 50 []))[j]? = some q → am_okE 50 q.1.1 q.1.2 := by
  intro j q hq
  have hlen : ((am_tabs.getD 50 []).zip (am_xs.getD 50 [])).length = 14 := by decide +kernel
  exact am_cks_ok am_k50_0 j (by omega) (by have := (List.getElem?_eq_some_iff.mp hq).1; omega) q hq
theorem am_m51 : ∀ (j : Nat) (q : (Nat × am_e) × List Nat), ((am_tabs.getD 51 []).zip (am_xs.getD 51 []))[j]? = some q → am_okE 51 q.1.1 q.1.2 := by
  intro j q hq
  have hlen : ((am_tabs.getD 51 []).zip (am_xs.getD 51 [])).length = 13 := by decide +kernel
  exact am_cks_ok am_k51_0 j (by omega) (by have := (List.getElem?_eq_some_iff.mp hq).1; omega) q hq
theorem am_m52 : ∀ (j : Nat) (q : (Nat × am_e) × List Nat), ((am_tabs.getD 52 []).zip (am_xs.getD 52 []))[j]? = some q → am_okE 52 q.1.1 q.1.2 := by
  intro j q hq
  have hlen : ((am_tabs.getD 52 []).zip (am_xs.getD 52 [])).length = 19 := by decide +kernel
  exact am_cks_ok am_k52_0 j (by omega) (by have := (List.getElem?_eq_some_iff.mp hq).1; omega) q hq
theorem am_m53 : ∀ (j : Nat) (q : (Nat × am_e) × List Nat), ((am_tabs.getD 53 []).zip (am_xs.getD 53 []))[j]? = some q → am_okE 53 q.1.1 q.1.2 := by
  intro j q hq
  have hlen : ((am_tabs.getD 53 []).zip (am_xs.getD 53 [])).length = 36 := by decide +kernel
  exact am_cks_ok am_k53_0 j (by omega) (by have := (List.getElem?_eq_some_iff.mp hq).1; omega) q hq
theorem am_m54 : ∀ (j : Nat) (q : (Nat × am_e) × List Nat), ((am_tabs.getD 54 []).zip (am_xs.getD 54 []))[j]? = some q → am_okE 54 q.1.1 q.1.2 := by
  intro j q hq
  have hlen : ((am_tabs.getD 54 []).zip (am_xs.getD 54 [])).length = 103 := by decide +kernel
  by_cases h0 : j < 80
  · exact am_cks_ok am_k54_0 j (by omega) (by omega) q hq
  exact am_cks_ok am_k54_80 j (by omega) (by have := (List.getElem?_eq_some_iff.mp hq).1; omega) q hq
theorem am_m55 : ∀ (j : Nat) (q : (Nat × am_e) × List Nat), ((am_tabs.getD 55 []).zip (am_xs.getD 55 []))[j]? = some q → am_okE 55 q.1.1 q.1.2 := by
  intro j q hq
  have hlen : ((am_tabs.getD 55 []).zip (am_xs.getD 55 [])).length = 23 := by decide +kernel
  exact am_cks_ok am_k55_0 j (by omega) (by have := (List.getElem?_eq_some_iff.mp hq).1; omega) q hq
theorem am_m56 : ∀ (j : Nat) (q : (Nat × am_e) × List Nat), ((am_tabs.getD 56 []).zip (am_xs.getD 56 []))[j]? = some q → am_okE 56 q.1.1 q.1.2 := by
  intro j q hq
  have hlen : ((am_tabs.getD 56 []).zip (am_xs.getD 56 [])).length = 58 := by decide +kernel
  exact am_cks_ok am_k56_0 j (by omega) (by have := (List.getElem?_eq_some_iff.mp hq).1; omega) q hq
theorem am_m57 : ∀ (j : Nat) (q : (Nat × am_e) × List Nat), ((am_tabs.getD 57 []).zip (am_xs.getD 57 []))[j]? = some q → am_okE 57 q.1.1 q.1.2 := by
  intro j q hq
  have hlen : ((am_tabs.getD 57 []).zip (am_xs.getD 57 [])).length = 55 := by decide +kernel
  exact am_cks_ok am_k57_0 j (by omega) (by have := (List.getElem?_eq_some_iff.mp hq).1; omega) q hq
theorem am_m58 : ∀ (j : Nat) (q : (Nat × am_e) × List Nat), ((am_tabs.getD 58 []).zip (am_xs.getD 58 []))[j]? = some q → am_okE 58 q.1.1 q.1.2 := by
  intro j q hq
  have hlen : ((am_tabs.getD 58 []).zip (am_xs.getD 58 [])).length = 57 := by decide +kernel
  exact am_cks_ok am_k58_0 j (by omega) (by have := (List.getElem?_eq_some_iff.mp hq).1; omega) q hq
theorem am_m59 : ∀ (j : Nat) (q : (Nat × am_e) × List Nat), ((am_tabs.getD 59 []).zip (am_xs.getD 59 []))[j]? = some q → am_okE 59 q.1.1 q.1.2 := by
  intro j q hq
  have hlen : ((am_tabs.getD 59 []).zip (am_xs.getD 59 [])).length = 95 := by decide +kernel
  by_cases h0 : j < 80
  · exact am_cks_ok am_k59_0 j (by omega) (by omega) q hq
  exact am_cks_ok am_k59_80 j (by omega) (by have := (List.getElem?_eq_some_iff.mp hq).1; omega) q hq
theorem am_m60 : ∀ (j : Nat) (q : (Nat × am_e) × List Nat), ((am_tabs.getD 60 []).zip (am_xs.getD 60 []))[j]? = some q → am_okE 60 q.1.1 q.1.2 := by
  intro j q hq
  have hlen : ((am_tabs.getD 60 []).zip (am_xs.getD 60 [])).length = 12 := by decide +kernel
  exact am_cks_ok am_k60_0 j (by omega) (by have := (List.getElem?_eq_some_iff.mp hq).1; omega) q hq
theorem am_m61 : ∀ (j : Nat) (q : (Nat × am_e) × List Nat), ((am_tabs.getD 61 []).zip (am_xs.getD 61 []))[j]? = some q → am_okE 61 q.1.1 q.1.2 := by
  intro j q hq
  have hlen : ((am_tabs.getD 61 []).zip (am_xs.getD 61 [])).length = 12 := by decide +kernel
  exact am_cks_ok am_k61_0 j (by omega) (by have := (List.getElem?_eq_some_iff.mp hq).1; omega) q hq
theorem am_m62 : ∀ (j : Nat) (q : (Nat × am_e) × List Nat), ((am_tabs.getD 62 []).zip (am_xs.getD 62 []))[j]? = some q → am_okE 62 q.1.1 q.1.2 := by
  intro j q hq
  have hlen : ((am_tabs.getD 62 []).zip (am_xs.getD 62 [])).length = 12 := by decide +kernel
  exact am_cks_ok am_k62_0 j (by omega) (by have := (List.getElem?_eq_some_iff.mp hq).1; omega) q hq
theorem am_m63 : ∀ (j : Nat) (q : (Nat × am_e) × List Nat), ((am_tabs.getD 63 []).zip (am_xs.getD 63 []))[j]? = some q → am_okE 63 q.1.1 q.1.2 := by
  intro j q hq
  have hlen : ((am_tabs.getD 63 []).zip (am_xs.getD 63 [])).length = 25 := by decide +kernel
  exact am_cks_ok am_k63_0 j (by omega) (by have := (List.getElem?_eq_some_iff.mp hq).1; omega) q hq
theorem am_m64 : ∀ (j : Nat) (q : (Nat × am_e) × List Nat), ((am_tabs.getD 64 []).zip (am_xs.getD 64 []))[j]? = some q → am_okE 64 q.1.1 q.1.2 := by
  intro j q hq
  have hlen : ((am_tabs.getD 64 []).zip (am_xs.getD 64 [])).length = 46 := by decide +kernel
  exact am_cks_ok am_k64_0 j (by omega) (by have := (List.getElem?_eq_some_iff.mp hq).1; omega) q hq
theorem am_m65 : ∀ (j : Nat) (q : (Nat × am_e) × List Nat), ((am_tabs.getD 65 []).zip (am_xs.getD 65 []))[j]? = some q → am_okE 65 q.1.1 q.1.2 := by
  intro j q hq
  have hlen : ((am_tabs.getD 65 []).zip (am_xs.getD 65 [])).length = 8 := by decide +kernel
  exact am_cks_ok am_k65_0 j (by omega) (by have := (List.getElem?_eq_some_iff.mp hq).1; omega) q hq
theorem am_m66 : ∀ (j : Nat) (q : (Nat × am_e) × List Nat), ((am_tabs.getD 66 []).zip (am_xs.getD 66 []))[j]? = some q → am_okE 66 q.1.1 q.1.2 := by
  intro j q hq
  have hlen : ((am_tabs.getD 66 []).zip (am_xs.getD 66 [])).length = 65 := by decide +kernel
  exact am_cks_ok am_k66_0 j (by omega) (by have := (List.getElem?_eq_some_iff.mp hq).1; omega) q hq
theorem am_m67 : ∀ (j : Nat) (q : (Nat × am_e) × List Nat), ((am_tabs.getD 67 []).zip (am_xs.getD 67 []))[j]? = some q → am_okE 67 q.1.1 q.1.2 := by
  intro j q hq
  have hlen : ((am_tabs.getD 67 []).zip (am_xs.getD 67 [])).length = 38 := by decide +kernel
  exact am_cks_ok am_k67_0 j (by omega) (by have := (List.getElem?_eq_some_iff.mp hq).1; omega) q hq
theorem am_m68 : ∀ (j : Nat) (q : (Nat × am_e) × List Nat), ((am_tabs.getD 68 []).zip (am_xs.getD 68 []))[j]? = some q → am_okE 68 q.1.1 q.1.2 := by
  intro j q hq
  have hlen : ((am_tabs.getD 68 []).zip (am_xs.getD 68 [])).length = 33 := by decide +kernel
  exact am_cks_ok am_k68_0 j (by omega) (by have := (List.getElem?_eq_some_iff.mp hq).1; omega) q hq
theorem am_m69 : ∀ (j : Nat) (q : (Nat × am_e) × List Nat), ((am_tabs.getD 69 []).zip (am_xs.getD 69 []))[j]? = some q → am_okE 69 q.1.1 q.1.2 := by
  intro j q hq
  have hlen : ((am_tabs.getD 69 []).zip (am_xs.getD 69 [])).length = 58 := by decide +kernel
  exact am_cks_ok am_k69_0 j (by omega) (by have := (List.getElem?_eq_some_iff.mp hq).1; omega) q hq
theorem am_m70 : ∀ (j : Nat) (q : (Nat × am_e) × List Nat), ((am_tabs.getD 70 []).zip (am_xs.getD 70 []))[j]? = some q → am_okE 70 q.1.1 q.1.2 := by
  intro j q hq
  have hlen : ((am_tabs.getD 70 []).zip (am_xs.getD 70 [])).length = 5 := by decide +kernel
  exact am_cks_ok am_k70_0 j (by omega) (by have := (List.getElem?_eq_some_iff.mp hq).1; omega) q hq
theorem am_m71 : ∀ (j : Nat) (q : (Nat × am_e) × List Nat), ((am_tabs.getD 71 []).zip (am_xs.getD 71 []))[j]? = some q → am_okE 71 q.1.1 q.1.2 := by
  intro j q hq
  have hlen : ((am_tabs.getD 71 []).zip (am_xs.getD 71 [])).length = 28 := by decide +kernel
  exact am_cks_ok am_k71_0 j (by omega) (by have := (List.getElem?_eq_some_iff.mp hq).1; omega) q hq
theorem am_m72 : ∀ (j : Nat) (q : (Nat × am_e) × List Nat), ((am_tabs.getD 72 []).zip (am_xs.getD 72 []))[j]? = some q → am_okE 72 q.1.1 q.1.2 := by
  intro j q hq
  have hlen : ((am_tabs.getD 72 []).zip (am_xs.getD 72 [])).length = 5 := by decide +kernel
  exact am_cks_ok am_k72_0 j (by omega) (by have := (List.getElem?_eq_some_iff.mp hq).1; omega) q hq
theorem am_m73 : ∀ (j : Nat) (q : (Nat × am_e) × List Nat), ((am_tabs.getD 73 []).zip (am_xs.getD 73 []))[j]? = some q → am_okE 73 q.1.1 q.1.2 := by
  intro j q hq
  have hlen : ((am_tabs.getD 73 []).zip (am_xs.getD 73 [])).length = 28 := by decide +kernel
  exact am_cks_ok am_k73_0 j (by omega) (by have := (List.getElem?_eq_some_iff.mp hq).1; omega) q hq
theorem am_m74 : ∀ (j : Nat) (q : (Nat × am_e) × List Nat), ((am_tabs.getD 74 []).zip (am_xs.getD 74 []))[j]? = some q → am_okE 74 q.1.1 q.1.2 := by
  intro j q hq
  have hlen : ((am_tabs.getD 74 []).zip (am_xs.getD 74 [])).length = 44 := by decide +kernel
  exact am_cks_ok am_k74_0 j (by omega) (by have := (List.getElem?_eq_some_iff.mp hq).1; omega) q hq
theorem am_m75 : ∀ (j : Nat) (q : (Nat × am_e) × List Nat), ((am_tabs.getD 75 []).zip (am_xs.getD 75 []))[j]? = some q → am_okE 75 q.1.1 q.1.2 := by
  intro j q hq
  have hlen : ((am_tabs.getD 75 []).zip (am_xs.getD 75 [])).length = 29 := by decide +kernel
  exact am_cks_ok am_k75_0 j (by omega) (by have := (List.getElem?_eq_some_iff.mp hq).1; omega) q hq
theorem am_m76 : ∀ (j : Nat) (q : (Nat × am_e) × List Nat), ((am_tabs.getD 76 []).zip (am_xs.getD 76 []))[j]? = some q → am_okE 76 q.1.1 q.1.2 := by
  intro j q hq
  have hlen : ((am_tabs.getD 76 []).zip (am_xs.getD 76 [])).length = 65 := by decide +kernel
  exact am_cks_ok am_k76_0 j (by omega) (by have := (List.getElem?_eq_some_iff.mp hq).1; omega) q hq
theorem am_m77 : ∀ (j : Nat) (q : (Nat × am_e) × List Nat), ((am_tabs.getD 77 []).zip (am_xs.getD 77 []))[j]? = some q → am_okE 77 q.1.1 q.1.2 := by
  intro j q hq
  have hlen : ((am_tabs.getD 77 []).zip (am_xs.getD 77 [])).length = 22 := by decide +kernel
  exact am_cks_ok am_k77_0 j (by omega) (by have := (List.getElem?_eq_some_iff.mp hq).1; omega) q hq
theorem am_m78 : ∀ (j : Nat) (q : (Nat × am_e) × List Nat), ((am_tabs.getD 78 []).zip (am_xs.getD 78 []))[j]? = some q → am_okE 78 q.1.1 q.1.2 := by
  intro j q hq
  have hlen : ((am_tabs.getD 78 []).zip (am_xs.getD 78 [])).length = 25 := by decide +kernel
  exact am_cks_ok am_k78_0 j (by omega) (by have := (List.getElem?_eq_some_iff.mp hq).1; omega) q hq
theorem am_m79 : ∀ (j : Nat) (q : (Nat × am_e) × List Nat), ((am_tabs.getD 79 []).zip (am_xs.getD 79 []))[j]? = some q → am_okE 79 q.1.1 q.1.2 := by
  intro j q hq
  have hlen : ((am_tabs.getD 79 []).zip (am_xs.getD 79 [])).length = 41 := by decide +kernel
  exact am_cks_ok am_k79_0 j (by omega) (by have := (List.getElem?_eq_some_iff.mp hq).1; omega) q hq
theorem am_m80 : ∀ (j : Nat) (q : (Nat × am_e) × List Nat), ((am_tabs.getD 80 []).zip (am_xs.getD 80 []))[j]? = some q → am_okE 80 q.1.1 q.1.2 := by
  intro j q hq
  have hlen : ((am_tabs.getD 80 []).zip (am_xs.getD 80 [])).length = 36 := by decide +kernel
  exact am_cks_ok am_k80_0 j (by omega) (by have := (List.getElem?_eq_some_iff.mp hq).1; omega) q hq
theorem am_m81 : ∀ (j : Nat) (q : (Nat × am_e) × List Nat), ((am_tabs.getD 81 []).zip (am_xs.getD 81 []))[j]? = some q → am_okE 81 q.1.1 q.1.2 := by
  intro j q hq
  have hlen : ((am_tabs.getD 81 []).zip (am_xs.getD 81 [])).length = 7 := by decide +kernel
  exact am_cks_ok am_k81_0 j (by omega) (by have := (List.getElem?_eq_some_iff.mp hq).1; omega) q hq
theorem am_m82 : ∀ (j : Nat) (q : (Nat × am_e) × List Nat), ((am_tabs.getD 82 []).zip (am_xs.getD 82 []))[j]? = some q → am_okE 82 q.1.1 q.1.2 := by
  intro j q hq
  have hlen : ((am_tabs.getD 82 []).zip (am_xs.getD 82 [])).length = 14 := by decide +kernel
  exact am_cks_ok am_k82_0 j (by omega) (by have := (List.getElem?_eq_some_iff.mp hq).1; omega) q hq
theorem am_m83 : ∀ (j : Nat) (q : (Nat × am_e) × List Nat), ((am_tabs.getD 83 []).zip (am_xs.getD 83 []))[j]? = some q → am_okE 83 q.1.1 q.1.2 := by
  intro j q hq
  have hlen : ((am_tabs.getD 83 []).zip (am_xs.getD 83 [])).length = 24 := by decide +kernel
  exact am_cks_ok am_k83_0 j (by omega) (by have := (List.getElem?_eq_some_iff.mp hq).1; omega) q hq
theorem am_m84 : ∀ (j : Nat) (q : (Nat × am_e) × List Nat), ((am_tabs.getD 84 []).zip (am_xs.getD 84 []))[j]? = some q → am_okE 84 q.1.1 q.1.2 := by
  intro j q hq
  have hlen : ((am_tabs.getD 84 []).zip (am_xs.getD 84 [])).length = 17 := by decide +kernel
  exact am_cks_ok am_k84_0 j (by omega) (by have := (List.getElem?_eq_some_iff.mp hq).1; omega) q hq
theorem am_m85 : ∀ (j : Nat) (q : (Nat × am_e) × List Nat), ((am_tabs.getD 85 []).zip (am_xs.getD 85 []))[j]? = some q → am_okE 85 q.1.1 q.1.2 := by
  intro j q hq
  have hlen : ((am_tabs.getD 85 []).zip (am_xs.getD 85 [])).length = 6 := by decide +kernel
  exact am_cks_ok am_k85_0 j (by omega) (by have := (List.getElem?_eq_some_iff.mp hq).1; omega) q hq
theorem am_m86 : ∀ (j : Nat) (q : (Nat × am_e) × List Nat), ((am_tabs.getD 86 []).zip (am_xs.getD 86 []))[j]? = some q → am_okE 86 q.1.1 q.1.2 := by
  intro j q hq
  have hlen : ((am_tabs.getD 86 []).zip (am_xs.getD 86 [])).length = 10 := by decide +kernel
  exact am_cks_ok am_k86_0 j (by omega) (by have := (List.getElem?_eq_some_iff.mp hq).1; omega) q hq
theorem am_m87 : ∀ (j : Nat) (q : (Nat × am_e) × List Nat), ((am_tabs.getD 87 []).zip (am_xs.getD 87 []))[j]? = some q → am_okE 87 q.1.1 q.1.2 := by
  intro j q hq
  have hlen : ((am_tabs.getD 87 []).zip (am_xs.getD 87 [])).length = 26 := by decide +kernel
  exact am_cks_ok am_k87_0 j (by omega) (by have := (List.getElem?_eq_some_iff.mp hq).1; omega) q hq
theorem am_m88 : ∀ (j : Nat) (q : (Nat × am_e) × List Nat), ((am_tabs.getD 88 []).zip (am_xs.getD 88 []))[j]? = some q → am_okE 88 q.1.1 q.1.2 := by
  intro j q hq
  have hlen : ((am_tabs.getD 88 []).zip (am_xs.getD 88 [])).length = 20 := by decide +kernel
  exact am_cks_ok am_k88_0 j (by omega) (by have := (List.getElem?_eq_some_iff.mp hq).1; omega) q hq
theorem am_m89 : ∀ (j : Nat) (q : (Nat × am_e) × List Nat), ((am_tabs.getD 89 []).zip (am_xs.getD 89 []))[j]? = some q → am_okE 89 q.1.1 q.1.2 := by
  intro j q hq
  have hlen : ((am_tabs.getD 89 []).zip (am_xs.getD 89 [])).length = 20 := by decide +kernel
  exact am_cks_ok am_k89_0 j (by omega) (by have := (List.getElem?_eq_some_iff.mp hq).1; omega) q hq
theorem am_m90 : ∀ (j : Nat) (q : (Nat × am_e) × List Nat), ((am_tabs.getD 90 []).zip (am_xs.getD 90 []))[j]? = some q → am_okE 90 q.1.1 q.1.2 := by
  intro j q hq
  have hlen : ((am_tabs.getD 90 []).zip (am_xs.getD 90 [])).length = 25 := by decide +kernel
  exact am_cks_ok am_k90_0 j (by omega) (by have := (List.getElem?_eq_some_iff.mp hq).1; omega) q hq
theorem am_m91 : ∀ (j : Nat) (q : (Nat × am_e) × List Nat), ((am_tabs.getD 91 []).zip (am_xs.getD 91 []))[j]? = some q → am_okE 91 q.1.1 q.1.2 := by
  intro j q hq
  have hlen : ((am_tabs.getD 91 []).zip (am_xs.getD 91 [])).length = 41 := by decide +kernel
  exact am_cks_ok am_k91_0 j (by omega) (by have := (List.getElem?_eq_some_iff.mp hq).1; omega) q hq
theorem am_m92 : ∀ (j : Nat) (q : (Nat × am_e) × List Nat), ((am_tabs.getD 92 []).zip (am_xs.getD 92 []))[j]? = some q → am_okE 92 q.1.1 q.1.2 := by
  intro j q hq
  have hlen : ((am_tabs.getD 92 []).zip (am_xs.getD 92 [])).length = 33 := by decide +kernel
  exact am_cks_ok am_k92_0 j (by omega) (by have := (List.getElem?_eq_some_iff.mp hq).1; omega) q hq
theorem am_m93 : ∀ (j : Nat) (q : (Nat × am_e) × List Nat), ((am_tabs.getD 93 []).zip (am_xs.getD 93 []))[j]? = some q → am_okE 93 q.1.1 q.1.2 := by
  intro j q hq
  have hlen : ((am_tabs.getD 93 []).zip (am_xs.getD 93 [])).length = 35 := by decide +kernel
  exact am_cks_ok am_k93_0 j (by omega) (by have := (List.getElem?_eq_some_iff.mp hq).1; omega) q hq
theorem am_m94 : ∀ (j : Nat) (q : (Nat × am_e) × List Nat), ((am_tabs.getD 94 []).zip (am_xs.getD 94 []))[j]? = some q → am_okE 94 q.1.1 q.1.2 := by
  intro j q hq
  have hlen : ((am_tabs.getD 94 []).zip (am_xs.getD 94 [])).length = 33 := by decide +kernel
  exact am_cks_ok am_k94_0 j (by omega) (by have := (List.getElem?_eq_some_iff.mp hq).1; omega) q hq
theorem am_m95 : ∀ (j : Nat) (q : (Nat × am_e) × List Nat), ((am_tabs.getD 95 []).zip (am_xs.getD 95 []))[j]? = some q → am_okE 95 q.1.1 q.1.2 := by
  intro j q hq
  have hlen : ((am_tabs.getD 95 []).zip (am_xs.getD 95 [])).length = 7 := by decide +kernel
  exact am_cks_ok am_k95_0 j (by omega) (by have := (List.getElem?_eq_some_iff.mp hq).1; omega) q hq
theorem am_m96 : ∀ (j : Nat) (q : (Nat × am_e) × List Nat), ((am_tabs.getD 96 []).zip (am_xs.getD 96 []))[j]? = some q → am_okE 96 q.1.1 q.1.2 := by
  intro j q hq
  have hlen : ((am_tabs.getD 96 []).zip (am_xs.getD 96 [])).length = 12 := by decide +kernel
  exact am_cks_ok am_k96_0 j (by omega) (by have := (List.getElem?_eq_some_iff.mp hq).1; omega) q hq
theorem am_m97 : ∀ (j : Nat) (q : (Nat × am_e) × List Nat), ((am_tabs.getD 97 []).zip (am_xs.getD 97 []))[j]? = some q → am_okE 97 q.1.1 q.1.2 := by
  intro j q hq
  have hlen : ((am_tabs.getD 97 []).zip (am_xs.getD 97 [])).length = 29 := by decide +kernel
  exact am_cks_ok am_k97_0 j (by omega) (by have := (List.getElem?_eq_some_iff.mp hq).1; omega) q hq
theorem am_m98 : ∀ (j : Nat) (q : (Nat × am_e) × List Nat), ((am_tabs.getD 98 []).zip (am_xs.getD 98 []))[j]? = some q → am_okE 98 q.1.1 q.1.2 := by
  intro j q hq
  have hlen : ((am_tabs.getD 98 []).zip (am_xs.getD 98 [])).length = 37 := by decide +kernel
  exact am_cks_ok am_k98_0 j (by omega) (by have := (List.getElem?_eq_some_iff.mp hq).1; omega) q hq
theorem am_m99 : ∀ (j : Nat) (q : (Nat × am_e) × List Nat), ((am_tabs.getD 99 []).zip (am_xs.getD 99 []))[j]? = some q → am_okE 99 q.1.1 q.1.2 := by
  intro j q hq
  have hlen : ((am_tabs.getD 99 []).zip (am_xs.getD 99 [])).length = 18 := by decide +kernel
  exact am_cks_ok am_k99_0 j (by omega) (by have := (List.getElem?_eq_some_iff.mp hq).1; omega) q hq
theorem am_m100 : ∀ (j : Nat) (q : (Nat × am_e) × List Nat), ((am_tabs.getD 100 []).zip (am_xs.getD 100 []))[j]? = some q → am_okE 100 q.1.1 q.1.2 := by
  intro j q hq
  have hlen : ((am_tabs.getD 100 []).zip (am_xs.getD 100 [])).length = 11 := by decide +kernel
  exact am_cks_ok am_k100_0 j (by omega) (by have := (List.getElem?_eq_some_iff.mp hq).1; omega) q hq
theorem am_m101 : ∀ (j : Nat) (q : (Nat × am_e) × List Nat), ((am_tabs.getD 101 []).zip (am_xs.getD 101 []))[j]? = some q → am_okE 101 q.1.1 q.1.2 := by
  intro j q hq
  have hlen : ((am_tabs.getD 101 []).zip (am_xs.getD 101 [])).length = 26 := by decide +kernel
  exact am_cks_ok am_k101_0 j (by omega) (by have := (List.getElem?_eq_some_iff.mp hq).1; omega) q hq
theorem am_m102 : ∀ (j : Nat) (q : (Nat × am_e) × List Nat), ((am_tabs.getD 102 []).zip (am_xs.getD 102 []))[j]? = some q → am_okE 102 q.1.1 q.1.2 := by
  intro j q hq
  have hlen : ((am_tabs.getD 102 []).zip (am_xs.getD 102 [])).length = 19 := by decide +kernel
  exact am_cks_ok am_k102_0 j (by omega) (by have := (List.getElem?_eq_some_iff.mp hq).1; omega) q hq
theorem am_m103 : ∀ (j : Nat) (q : (Nat × am_e) × List Nat), ((am_tabs.getD 103 []).zip (am_xs.getD 103 []))[j]? = some q → am_okE 103 q.1.1 q.1.2 := by
  intro j q hq
  have hlen : ((am_tabs.getD 103 []).zip (am_xs.getD 103 [])).length = 0 := by decide +kernel
  exact absurd (List.getElem?_eq_some_iff.mp hq).1 (by omega)
theorem am_m104 : ∀ (j : Nat) (q : (Nat × am_e) × List Nat), ((am_tabs.getD 104 []).zip (am_xs.getD 104 []))[j]? = some q → am_okE 104 q.1.1 q.1.2 := by
  intro j q hq
  have hlen : ((am_tabs.getD 104 []).zip (am_xs.getD 104 [])).length = 35 := by decide +kernel
  exact am_cks_ok am_k104_0 j (by omega) (by have := (List.getElem?_eq_some_iff.mp hq).1; omega) q hq
theorem am_m105 : ∀ (j : Nat) (q : (Nat × am_e) × List Nat), ((am_tabs.getD 105 []).zip (am_xs.getD 105 []))[j]? = some q → am_okE 105 q.1.1 q.1.2 := by
  intro j q hq
  have hlen : ((am_tabs.getD 105 []).zip (am_xs.getD 105 [])).length = 14 := by decide +kernel
  exact am_cks_ok am_k105_0 j (by omega) (by have := (List.getElem?_eq_some_iff.mp hq).1; omega) q hq
theorem am_m106 : ∀ (j : Nat) (q : (Nat × am_e) × List Nat), ((am_tabs.getD 106 []).zip (am_xs.getD 106 []))[j]? = some q → am_okE 106 q.1.1 q.1.2 := by
  intro j q hq
  have hlen : ((am_tabs.getD 106 []).zip (am_xs.getD 106 [])).length = 17 := by decide +kernel
  exact am_cks_ok am_k106_0 j (by omega) (by have := (List.getElem?_eq_some_iff.mp hq).1; omega) q hq
theorem am_m107 : ∀ (j : Nat) (q : (Nat × am_e) × List Nat), ((am_tabs.getD 107 []).zip (am_xs.getD 107 []))[j]? = some q → am_okE 107 q.1.1 q.1.2 := by
  intro j q hq
  have hlen : ((am_tabs.getD 107 []).zip (am_xs.getD 107 [])).length = 10 := by decide +kernel
  exact am_cks_ok am_k107_0 j (by omega) (by have := (List.getElem?_eq_some_iff.mp hq).1; omega) q hq
theorem am_m108 : ∀ (j : Nat) (q : (Nat × am_e) × List Nat), ((am_tabs.getD 108 []).zip (am_xs.getD 108 []))[j]? = some q → am_okE 108 q.1.1 q.1.2 := by
  intro j q hq
  have hlen : ((am_tabs.getD 108 []).zip (am_xs.getD 108 [])).length = 21 := by decide +kernel
  exact am_cks_ok am_k108_0 j (by omega) (by have := (List.getElem?_eq_some_iff.mp hq).1; omega) q hq
theorem am_m109 : ∀ (j : Nat) (q : (Nat × am_e) × List Nat), ((am_tabs.getD 109 []).zip (am_xs.getD 109 []))[j]? = some q → am_okE 109 q.1.1 q.1.2 := by
  intro j q hq
  have hlen : ((am_tabs.getD 109 []).zip (am_xs.getD 109 [])).length = 10 := by decide +kernel
  exact am_cks_ok am_k109_0 j (by omega) (by have := (List.getElem?_eq_some_iff.mp hq).1; omega) q hq
theorem am_m110 : ∀ (j : Nat) (q : (Nat × am_e) × List Nat), ((am_tabs.getD 110 []).zip (am_xs.getD 110 []))[j]? = some q → am_okE 110 q.1.1 q.1.2 := by
  intro j q hq
  have hlen : ((am_tabs.getD 110 []).zip (am_xs.getD 110 [])).length = 9 := by decide +kernel
  exact am_cks_ok am_k110_0 j (by omega) (by have := (List.getElem?_eq_some_iff.mp hq).1; omega) q hq
theorem am_m111 : ∀ (j : Nat) (q : (Nat × am_e) × List Nat), ((am_tabs.getD 111 []).zip (am_xs.getD 111 []))[j]? = some q → am_okE 111 q.1.1 q.1.2 := by
  intro j q hq
  have hlen : ((am_tabs.getD 111 []).zip (am_xs.getD 111 [])).length = 14 := by decide +kernel
  exact am_cks_ok am_k111_0 j (by omega) (by have := (List.getElem?_eq_some_iff.mp hq).1; omega) q hq
theorem am_m112 : ∀ (j : Nat) (q : (Nat × am_e) × List Nat), ((am_tabs.getD 112 []).zip (am_xs.getD 112 []))[j]? = some q → am_okE 112 q.1.1 q.1.2 := by
  intro j q hq
  have hlen : ((am_tabs.getD 112 []).zip (am_xs.getD 112 [])).length = 21 := by decide +kernel
  exact am_cks_ok am_k112_0 j (by omega) (by have := (List.getElem?_eq_some_iff.mp hq).1; omega) q hq
theorem am_m113 : ∀ (j : Nat) (q : (Nat × am_e) × List Nat), ((am_tabs.getD 113 []).zip (am_xs.getD 113 []))[j]? = some q → am_okE 113 q.1.1 q.1.2 := by
  intro j q hq
  have hlen : ((am_tabs.getD 113 []).zip (am_xs.getD 113 [])).length = 7 := by decide +kernel
  exact am_cks_ok am_k113_0 j (by omega) (by have := (List.getElem?_eq_some_iff.mp hq).1; omega) q hq
theorem am_m114 : ∀ (j : Nat) (q : (Nat × am_e) × List Nat), ((am_tabs.getD 114 []).zip (am_xs.getD 114 []))[j]? = some q → am_okE 114 q.1.1 q.1.2 := by
  intro j q hq
  have hlen : ((am_tabs.getD 114 []).zip (am_xs.getD 114 [])).length = 14 := by decide +kernel
  exact am_cks_ok am_k114_0 j (by omega) (by have := (List.getElem?_eq_some_iff.mp hq).1; omega) q hq
theorem am_m115 : ∀ (j : Nat) (q : (Nat × am_e) × List Nat), ((am_tabs.getD 115 []).zip (am_xs.getD 115 []))[j]? = some q → am_okE 115 q.1.1 q.1.2 := by
  intro j q hq
  have hlen : ((am_tabs.getD 115 []).zip (am_xs.getD 115 [])).length = 39 := by decide +kernel
  exact am_cks_ok am_k115_0 j (by omega) (by have := (List.getElem?_eq_some_iff.mp hq).1; omega) q hq
theorem am_m116 : ∀ (j : Nat) (q : (Nat × am_e) × List Nat), ((am_tabs.getD 116 []).zip (am_xs.getD 116 []))[j]? = some q → am_okE 116 q.1.1 q.1.2 := by
  intro j q hq
  have hlen : ((am_tabs.getD 116 []).zip (am_xs.getD 116 [])).length = 45 := by decide +kernel
  exact am_cks_ok am_k116_0 j (by omega) (by have := (List.getElem?_eq_some_iff.mp hq).1; omega) q hq
theorem am_m117 : ∀ (j : Nat) (q : (Nat × am_e) × List Nat), ((am_tabs.getD 117 []).zip (am_xs.getD 117 []))[j]? = some q → am_okE 117 q.1.1 q.1.2 := by
  intro j q hq
  have hlen : ((am_tabs.getD 117 []).zip (am_xs.getD 117 [])).length = 0 := by decide +kernel
  exact absurd (List.getElem?_eq_some_iff.mp hq).1 (by omega)
theorem am_m118 : ∀ (j : Nat) (q : (Nat × am_e) × List Nat), ((am_tabs.getD 118 []).zip (am_xs.getD 118 []))[j]? = some q → am_okE 118 q.1.1 q.1.2 := by
  intro j q hq
  have hlen : ((am_tabs.getD 118 []).zip (am_xs.getD 118 [])).length = 0 := by decide +kernel
  exact absurd (List.getElem?_eq_some_iff.mp hq).1 (by omega)
theorem am_m119 : ∀ (j : Nat) (q : (Nat × am_e) × List Nat), ((am_tabs.getD 119 []).zip (am_xs.getD 119 []))[j]? = some q → am_okE 119 q.1.1 q.1.2 := by
  intro j q hq
  have hlen : ((am_tabs.getD 119 []).zip (am_xs.getD 119 [])).length = 0 := by decide +kernel
  exact absurd (List.getElem?_eq_some_iff.mp hq).1 (by omega)
theorem am_m120 : ∀ (j : Nat) (q : (Nat × am_e) × List Nat), ((am_tabs.getD 120 []).zip (am_xs.getD 120 []))[j]? = some q → am_okE 120 q.1.1 q.1.2 := by
  intro j q hq
  have hlen : ((am_tabs.getD 120 []).zip (am_xs.getD 120 [])).length = 0 := by decide +kernel
  exact absurd (List.getElem?_eq_some_iff.mp hq).1 (by omega)
theorem am_m121 : ∀ (j : Nat) (q : (Nat × am_e) × List Nat), ((am_tabs.getD 121 []).zip (am_xs.getD 121 []))[j]? = some q → am_okE 121 q.1.1 q.1.2 := by
  intro j q hq
  have hlen : ((am_tabs.getD 121 []).zip (am_xs.getD 121 [])).length = 0 := by decide +kernel
  exact absurd (List.getElem?_eq_some_iff.mp hq).1 (by omega)
theorem am_m122 : ∀ (j : Nat) (q : (Nat × am_e) × List Nat), ((am_tabs.getD 122 []).zip (am_xs.getD 122 []))[j]? = some q → am_okE 122 q.1.1 q.1.2 := by
  intro j q hq
  have hlen : ((am_tabs.getD 122 []).zip (am_xs.getD 122 [])).length = 0 := by decide +kernel
  exact absurd (List.getElem?_eq_some_iff.mp hq).1 (by omega)
theorem am_m123 : ∀ (j : Nat) (q : (Nat × am_e) × List Nat), ((am_tabs.getD 123 []).zip (am_xs.getD 123 []))[j]? = some q → am_okE 123 q.1.1 q.1.2 := by
  intro j q hq
  have hlen : ((am_tabs.getD 123 []).zip (am_xs.getD 123 [])).length = 0 := by decide +kernel
  exact absurd (List.getElem?_eq_some_iff.mp hq).1 (by omega)
theorem am_m124 : ∀ (j : Nat) (q : (Nat × am_e) × List Nat), ((am_tabs.getD 124 []).zip (am_xs.getD 124 []))[j]? = some q → am_okE 124 q.1.1 q.1.2 := by
  intro j q hq
  have hlen : ((am_tabs.getD 124 []).zip (am_xs.getD 124 [])).length = 0 := by decide +kernel
  exact absurd (List.getElem?_eq_some_iff.mp hq).1 (by omega)
theorem am_m125 : ∀ (j : Nat) (q : (Nat × am_e) × List Nat), ((am_tabs.getD 125 []).zip (am_xs.getD 125 []))[j]? = some q → am_okE 125 q.1.1 q.1.2 := by
  intro j q hq
  have hlen : ((am_tabs.getD 125 []).zip (am_xs.getD 125 [])).length = 0 := by decide +kernel
  exact absurd (List.getElem?_eq_some_iff.mp hq).1 (by omega)
theorem am_m126 : ∀ (j : Nat) (q : (Nat × am_e) × List Nat), ((am_tabs.getD 126 []).zip (am_xs.getD 126 []))[j]? = some q → am_okE 126 q.1.1 q.1.2 := by
  intro j q hq
  have hlen : ((am_tabs.getD 126 []).zip (am_xs.getD 126 [])).length = 0 := by decide +kernel
  exact absurd (List.getElem?_eq_some_iff.mp hq).1 (by omega)
theorem am_m127 : ∀ (j : Nat) (q : (Nat × am_e) × List Nat), ((am_tabs.getD 127 []).zip (am_xs.getD 127 []))[j]? = some q → am_okE 127 q.1.1 q.1.2 := by
  intro j q hq
  have hlen : ((am_tabs.getD 127 []).zip (am_xs.getD 127 [])).length = 0 := by decide +kernel
  exact absurd (List.getElem?_eq_some_iff.mp hq).1 (by omega)
theorem am_m128 : ∀ (j : Nat) (q : (Nat × am_e) × List Nat), ((am_tabs.getD 128 []).zip (am_xs.getD 128 []))[j]? = some q → am_okE 128 q.1.1 q.1.2 := by
  intro j q hq
  have hlen : ((am_tabs.getD 128 []).zip (am_xs.getD 128 [])).length = 0 := by decide +kernel
  exact absurd (List.getElem?_eq_some_iff.mp hq).1 (by omega)
theorem am_m129 : ∀ (j : Nat) (q : (Nat × am_e) × List Nat), ((am_tabs.getD 129 []).zip (am_xs.getD 129 []))[j]? = some q → am_okE 129 q.1.1 q.1.2 := by
  intro j q hq
  have hlen : ((am_tabs.getD 129 []).zip (am_xs.getD 129 [])).length = 0 := by decide +kernel
  exact absurd (List.getElem?_eq_some_iff.mp hq).1 (by omega)
theorem am_m130 : ∀ (j : Nat) (q : (Nat × am_e) × List Nat), ((am_tabs.getD 130 []).zip (am_xs.getD 130 []))[j]? = some q → am_okE 130 q.1.1 q.1.2 := by
  intro j q hq
  have hlen : ((am_tabs.getD 130 []).zip (am_xs.getD 130 [])).length = 0 := by decide +kernel
  exact absurd (List.getElem?_eq_some_iff.mp hq).1 (by omega)
theorem am_m131 : ∀ (j : Nat) (q : (Nat × am_e) × List Nat), ((am_tabs.getD 131 []).zip (am_xs.getD 131 []))[j]? = some q → am_okE 131 q.1.1 q.1.2 := by
  intro j q hq
  have hlen : ((am_tabs.getD 131 []).zip (am_xs.getD 131 [])).length = 0 := by decide +kernel
  exact absurd (List.getElem?_eq_some_iff.mp hq).1 (by omega)
theorem am_m132 : ∀ (j : Nat) (q : (Nat × am_e) × List Nat), ((am_tabs.getD 132 []).zip (am_xs.getD 132 []))[j]? = some q → am_okE 132 q.1.1 q.1.2 := by
  intro j q hq
  have hlen : ((am_tabs.getD 132 []).zip (am_xs.getD 132 [])).length = 0 := by decide +kernel
  exact absurd (List.getElem?_eq_some_iff.mp hq).1 (by omega)
theorem am_m133 : ∀ (j : Nat) (q : (Nat × am_e) × List Nat), ((am_tabs.getD 133 []).zip (am_xs.getD 133 []))[j]? = some q → am_okE 133 q.1.1 q.1.2 := by
  intro j q hq
  have hlen : ((am_tabs.getD 133 []).zip (am_xs.getD 133 [])).length = 0 := by decide +kernel
  exact absurd (List.getElem?_eq_some_iff.mp hq).1 (by omega)
theorem am_m134 : ∀ (j : Nat) (q : (Nat × am_e) × List Nat), ((am_tabs.getD 134 []).zip (am_xs.getD 134 []))[j]? = some q → am_okE 134 q.1.1 q.1.2 := by
  intro j q hq
  have hlen : ((am_tabs.getD 134 []).zip (am_xs.getD 134 [])).length = 0 := by decide +kernel
  exact absurd (List.getElem?_eq_some_iff.mp hq).1 (by omega)
theorem am_m135 : ∀ (j : Nat) (q : (Nat × am_e) × List Nat), ((am_tabs.getD 135 []).zip (am_xs.getD 135 []))[j]? = some q → am_okE 135 q.1.1 q.1.2 := by
  intro j q hq
  have hlen : ((am_tabs.getD 135 []).zip (am_xs.getD 135 [])).length = 0 := by decide +kernel
  exact absurd (List.getElem?_eq_some_iff.mp hq).1 (by omega)
theorem am_m136 : ∀ (j : Nat) (q : (Nat × am_e) × List Nat), ((am_tabs.getD 136 []).zip (am_xs.getD 136 []))[j]? = some q → am_okE 136 q.1.1 q.1.2 := by
  intro j q hq
  have hlen : ((am_tabs.getD 136 []).zip (am_xs.getD 136 [])).length = 0 := by decide +kernel
  exact absurd (List.getElem?_eq_some_iff.mp hq).1 (by omega)
theorem am_m137 : ∀ (j : Nat) (q : (Nat × am_e) × List Nat), ((am_tabs.getD 137 []).zip (am_xs.getD 137 []))[j]? = some q → am_okE 137 q.1.1 q.1.2 := by
  intro j q hq
  have hlen : ((am_tabs.getD 137 []).zip (am_xs.getD 137 [])).length = 0 := by decide +kernel
  exact absurd (List.getElem?_eq_some_iff.mp hq).1 (by omega)
theorem am_m138 : ∀ (j : Nat) (q : (Nat × am_e) × List Nat), ((am_tabs.getD 138 []).zip (am_xs.getD 138 []))[j]? = some q → am_okE 138 q.1.1 q.1.2 := by
  intro j q hq
  have hlen : ((am_tabs.getD 138 []).zip (am_xs.getD 138 [])).length = 0 := by decide +kernel
  exact absurd (List.getElem?_eq_some_iff.mp hq).1 (by omega)
theorem am_m139 : ∀ (j : Nat) (q : (Nat × am_e) × List Nat), ((am_tabs.getD 139 []).zip (am_xs.getD 139 []))[j]? = some q → am_okE 139 q.1.1 q.1.2 := by
  intro j q hq
  have hlen : ((am_tabs.getD 139 []).zip (am_xs.getD 139 [])).length = 0 := by decide +kernel
  exact absurd (List.getElem?_eq_some_iff.mp hq).1 (by omega)
theorem am_m140 : ∀ (j : Nat) (q : (Nat × am_e) × List Nat), ((am_tabs.getD 140 []).zip (am_xs.getD 140 []))[j]? = some q → am_okE 140 q.1.1 q.1.2 := by
  intro j q hq
  have hlen : ((am_tabs.getD 140 []).zip (am_xs.getD 140 [])).length = 0 := by decide +kernel
  exact absurd (List.getElem?_eq_some_iff.mp hq).1 (by omega)
theorem am_m141 : ∀ (j : Nat) (q : (Nat × am_e) × List Nat), ((am_tabs.getD 141 []).zip (am_xs.getD 141 []))[j]? = some q → am_okE 141 q.1.1 q.1.2 := by
  intro j q hq
  have hlen : ((am_tabs.getD 141 []).zip (am_xs.getD 141 [])).length = 0 := by decide +kernel
  exact absurd (List.getElem?_eq_some_iff.mp hq).1 (by omega)
theorem am_m142 : ∀ (j : Nat) (q : (Nat × am_e) × List Nat), ((am_tabs.getD 142 []).zip (am_xs.getD 142 []))[j]? = some q → am_okE 142 q.1.1 q.1.2 := by
  intro j q hq
  have hlen : ((am_tabs.getD 142 []).zip (am_xs.getD 142 [])).length = 0 := by decide +kernel
  exact absurd (List.getElem?_eq_some_iff.mp hq).1 (by omega)
theorem am_m143 : ∀ (j : Nat) (q : (Nat × am_e) × List Nat), ((am_tabs.getD 143 []).zip (am_xs.getD 143 []))[j]? = some q → am_okE 143 q.1.1 q.1.2 := by
  intro j q hq
  have hlen : ((am_tabs.getD 143 []).zip (am_xs.getD 143 [])).length = 0 := by decide +kernel
  exact absurd (List.getElem?_eq_some_iff.mp hq).1 (by omega)
theorem am_m144 : ∀ (j : Nat) (q : (Nat × am_e) × List Nat), ((am_tabs.getD 144 []).zip (am_xs.getD 144 []))[j]? = some q → am_okE 144 q.1.1 q.1.2 := by
  intro j q hq
  have hlen : ((am_tabs.getD 144 []).zip (am_xs.getD 144 [])).length = 0 := by decide +kernel
  exact absurd (List.getElem?_eq_some_iff.mp hq).1 (by omega)
theorem am_m145 : ∀ (j : Nat) (q : (Nat × am_e) × List Nat), ((am_tabs.getD 145 []).zip (am_xs.getD 145 []))[j]? = some q → am_okE 145 q.1.1 q.1.2 := by
  intro j q hq
  have hlen : ((am_tabs.getD 145 []).zip (am_xs.getD 145 [])).length = 0 := by decide +kernel
  exact absurd (List.getElem?_eq_some_iff.mp hq).1 (by omega)
theorem am_m146 : ∀ (j : Nat) (q : (Nat × am_e) × List Nat), ((am_tabs.getD 146 []).zip (am_xs.getD 146 []))[j]? = some q → am_okE 146 q.1.1 q.1.2 := by
  intro j q hq
  have hlen : ((am_tabs.getD 146 []).zip (am_xs.getD 146 [])).length = 0 := by decide +kernel
  exact absurd (List.getElem?_eq_some_iff.mp hq).1 (by omega)
theorem am_m147 : ∀ (j : Nat) (q : (Nat × am_e) × List Nat), ((am_tabs.getD 147 []).zip (am_xs.getD 147 []))[j]? = some q → am_okE 147 q.1.1 q.1.2 := by
  intro j q hq
  have hlen : ((am_tabs.getD 147 []).zip (am_xs.getD 147 [])).length = 0 := by decide +kernel
  exact absurd (List.getElem?_eq_some_iff.mp hq).1 (by omega)
theorem am_m148 : ∀ (j : Nat) (q : (Nat × am_e) × List Nat), ((am_tabs.getD 148 []).zip (am_xs.getD 148 []))[j]? = some q → am_okE 148 q.1.1 q.1.2 := by
  intro j q hq
  have hlen : ((am_tabs.getD 148 []).zip (am_xs.getD 148 [])).length = 0 := by decide +kernel
  exact absurd (List.getElem?_eq_some_iff.mp hq).1 (by omega)
theorem am_m149 : ∀ (j : Nat) (q : (Nat × am_e) × List Nat), ((am_tabs.getD 149 []).zip (am_xs.getD 149 []))[j]? = some q → am_okE 149 q.1.1 q.1.2 := by
  intro j q hq
  have hlen : ((am_tabs.getD 149 []).zip (am_xs.getD 149 [])).length = 0 := by decide +kernel
  exact absurd (List.getElem?_eq_some_iff.mp hq).1 (by omega)
theorem am_m150 : ∀ (j : Nat) (q : (Nat × am_e) × List Nat), ((am_tabs.getD 150 []).zip (am_xs.getD 150 []))[j]? = some q → am_okE 150 q.1.1 q.1.2 := by
  intro j q hq
  have hlen : ((am_tabs.getD 150 []).zip (am_xs.getD 150 [])).length = 0 := by decide +kernel
  exact absurd (List.getElem?_eq_some_iff.mp hq).1 (by omega)
theorem am_m151 : ∀ (j : Nat) (q : (Nat × am_e) × List Nat), ((am_tabs.getD 151 []).zip (am_xs.getD 151 []))[j]? = some q → am_okE 151 q.1.1 q.1.2 := by
  intro j q hq
  have hlen : ((am_tabs.getD 151 []).zip (am_xs.getD 151 [])).length = 0 := by decide +kernel
  exact absurd (List.getElem?_eq_some_iff.mp hq).1 (by omega)
theorem am_m152 : ∀ (j : Nat) (q : (Nat × am_e) × List Nat), ((am_tabs.getD 152 []).zip (am_xs.getD 152 []))[j]? = some q → am_okE 152 q.1.1 q.1.2 := by
  intro j q hq
  have hlen : ((am_tabs.getD 152 []).zip (am_xs.getD 152 [])).length = 0 := by decide +kernel
  exact absurd (List.getElem?_eq_some_iff.mp hq).1 (by omega)
theorem am_m153 : ∀ (j : Nat) (q : (Nat × am_e) × List Nat), ((am_tabs.getD 153 []).zip (am_xs.getD 153 []))[j]? = some q → am_okE 153 q.1.1 q.1.2 := by
  intro j q hq
  have hlen : ((am_tabs.getD 153 []).zip (am_xs.getD 153 [])).length = 0 := by decide +kernel
  exact absurd (List.getElem?_eq_some_iff.mp hq).1 (by omega)
theorem am_m154 : ∀ (j : Nat) (q : (Nat × am_e) × List Nat), ((am_tabs.getD 154 []).zip (am_xs.getD 154 []))[j]? = some q → am_okE 154 q.1.1 q.1.2 := by
  intro j q hq
  have hlen : ((am_tabs.getD 154 []).zip (am_xs.getD 154 [])).length = 0 := by decide +kernel
  exact absurd (List.getElem?_eq_some_iff.mp hq).1 (by omega)
theorem am_m155 : ∀ (j : Nat) (q : (Nat × am_e) × List Nat), ((am_tabs.getD 155 []).zip (am_xs.getD 155 []))[j]? = some q → am_okE 155 q.1.1 q.1.2 := by
  intro j q hq
  have hlen : ((am_tabs.getD 155 []).zip (am_xs.getD 155 [])).length = 0 := by decide +kernel
  exact absurd (List.getElem?_eq_some_iff.mp hq).1 (by omega)
theorem am_m156 : ∀ (j : Nat) (q : (Nat × am_e) × List Nat), ((am_tabs.getD 156 []).zip (am_xs.getD 156 []))[j]? = some q → am_okE 156 q.1.1 q.1.2 := by
  intro j q hq
  have hlen : ((am_tabs.getD 156 []).zip (am_xs.getD 156 [])).length = 0 := by decide +kernel
  exact absurd (List.getElem?_eq_some_iff.mp hq).1 (by omega)
theorem am_m157 : ∀ (j : Nat) (q : (Nat × am_e) × List Nat), ((am_tabs.getD 157 []).zip (am_xs.getD 157 []))[j]? = some q → am_okE 157 q.1.1 q.1.2 := by
  intro j q hq
  have hlen : ((am_tabs.getD 157 []).zip (am_xs.getD 157 [])).length = 0 := by decide +kernel
  exact absurd (List.getElem?_eq_some_iff.mp hq).1 (by omega)
theorem am_m158 : ∀ (j : Nat) (q : (Nat × am_e) × List Nat), ((am_tabs.getD 158 []).zip (am_xs.getD 158 []))[j]? = some q → am_okE 158 q.1.1 q.1.2 := by
  intro j q hq
  have hlen : ((am_tabs.getD 158 []).zip (am_xs.getD 158 [])).length = 0 := by decide +kernel
  exact absurd (List.getElem?_eq_some_iff.mp hq).1 (by omega)
theorem am_m159 : ∀ (j : Nat) (q : (Nat × am_e) × List Nat), ((am_tabs.getD 159 []).zip (am_xs.getD 159 []))[j]? = some q → am_okE 159 q.1.1 q.1.2 := by
  intro j q hq
  have hlen : ((am_tabs.getD 159 []).zip (am_xs.getD 159 [])).length = 0 := by decide +kernel
  exact absurd (List.getElem?_eq_some_iff.mp hq).1 (by omega)
theorem am_m160 : ∀ (j : Nat) (q : (Nat × am_e) × List Nat), ((am_tabs.getD 160 []).zip (am_xs.getD 160 []))[j]? = some q → am_okE 160 q.1.1 q.1.2 := by
  intro j q hq
  have hlen : ((am_tabs.getD 160 []).zip (am_xs.getD 160 [])).length = 0 := by decide +kernel
  exact absurd (List.getElem?_eq_some_iff.mp hq).1 (by omega)
theorem am_m161 : ∀ (j : Nat) (q : (Nat × am_e) × List Nat), ((am_tabs.getD 161 []).zip (am_xs.getD 161 []))[j]? = some q → am_okE 161 q.1.1 q.1.2 := by
  intro j q hq
  have hlen : ((am_tabs.getD 161 []).zip (am_xs.getD 161 [])).length = 0 := by decide +kernel
  exact absurd (List.getElem?_eq_some_iff.mp hq).1 (by omega)
theorem am_m162 : ∀ (j : Nat) (q : (Nat × am_e) × List Nat), ((am_tabs.getD 162 []).zip (am_xs.getD 162 []))[j]? = some q → am_okE 162 q.1.1 q.1.2 := by
  intro j q hq
  have hlen : ((am_tabs.getD 162 []).zip (am_xs.getD 162 [])).length = 0 := by decide +kernel
  exact absurd (List.getElem?_eq_some_iff.mp hq).1 (by omega)
theorem am_m163 : ∀ (j : Nat) (q : (Nat × am_e) × List Nat), ((am_tabs.getD 163 []).zip (am_xs.getD 163 []))[j]? = some q → am_okE 163 q.1.1 q.1.2 := by
  intro j q hq
  have hlen : ((am_tabs.getD 163 []).zip (am_xs.getD 163 [])).length = 0 := by decide +kernel
  exact absurd (List.getElem?_eq_some_iff.mp hq).1 (by omega)
theorem am_m164 : ∀ (j : Nat) (q : (Nat × am_e) × List Nat), ((am_tabs.getD 164 []).zip (am_xs.getD 164 []))[j]? = some q → am_okE 164 q.1.1 q.1.2 := by
  intro j q hq
  have hlen : ((am_tabs.getD 164 []).zip (am_xs.getD 164 [])).length = 0 := by decide +kernel
  exact absurd (List.getElem?_eq_some_iff.mp hq).1 (by omega)
theorem am_m165 : ∀ (j : Nat) (q : (Nat × am_e) × List Nat), ((am_tabs.getD 165 []).zip (am_xs.getD 165 []))[j]? = some q → am_okE 165 q.1.1 q.1.2 := by
  intro j q hq
  have hlen : ((am_tabs.getD 165 []).zip (am_xs.getD 165 [])).length = 0 := by decide +kernel
  exact absurd (List.getElem?_eq_some_iff.mp hq).1 (by omega)
theorem am_m166 : ∀ (j : Nat) (q : (Nat × am_e) × List Nat), ((am_tabs.getD 166 []).zip (am_xs.getD 166 []))[j]? = some q → am_okE 166 q.1.1 q.1.2 := by
  intro j q hq
  have hlen : ((am_tabs.getD 166 []).zip (am_xs.getD 166 [])).length = 0 := by decide +kernel
  exact absurd (List.getElem?_eq_some_iff.mp hq).1 (by omega)
theorem am_m167 : ∀ (j : Nat) (q : (Nat × am_e) × List Nat), ((am_tabs.getD 167 []).zip (am_xs.getD 167 []))[j]? = some q → am_okE 167 q.1.1 q.1.2 := by
  intro j q hq
  have hlen : ((am_tabs.getD 167 []).zip (am_xs.getD 167 [])).length = 0 := by decide +kernel
  exact absurd (List.getElem?_eq_some_iff.mp hq).1 (by omega)
theorem am_m168 : ∀ (j : Nat) (q : (Nat × am_e) × List Nat), ((am_tabs.getD 168 []).zip (am_xs.getD 168 []))[j]? = some q → am_okE 168 q.1.1 q.1.2 := by
  intro j q hq
  have hlen : ((am_tabs.getD 168 []).zip (am_xs.getD 168 [])).length = 0 := by decide +kernel
  exact absurd (List.getElem?_eq_some_iff.mp hq).1 (by omega)
theorem am_m169 : ∀ (j : Nat) (q : (Nat × am_e) × List Nat), ((am_tabs.getD 169 []).zip (am_xs.getD 169 []))[j]? = some q → am_okE 169 q.1.1 q.1.2 := by
  intro j q hq
  have hlen : ((am_tabs.getD 169 []).zip (am_xs.getD 169 [])).length = 0 := by decide +kernel
  exact absurd (List.getElem?_eq_some_iff.mp hq).1 (by omega)
theorem am_m170 : ∀ (j : Nat) (q : (Nat × am_e) × List Nat), ((am_tabs.getD 170 []).zip (am_xs.getD 170 []))[j]? = some q → am_okE 170 q.1.1 q.1.2 := by
  intro j q hq
  have hlen : ((am_tabs.getD 170 []).zip (am_xs.getD 170 [])).length = 0 := by decide +kernel
  exact absurd (List.getElem?_eq_some_iff.mp hq).1 (by omega)
theorem am_m171 : ∀ (j : Nat) (q : (Nat × am_e) × List Nat), ((am_tabs.getD 171 []).zip (am_xs.getD 171 []))[j]? = some q → am_okE 171 q.1.1 q.1.2 := by
  intro j q hq
  have hlen : ((am_tabs.getD 171 []).zip (am_xs.getD 171 [])).length = 0 := by decide +kernel
  exact absurd (List.getElem?_eq_some_iff.mp hq).1 (by omega)
theorem am_m172 : ∀ (j : Nat) (q : (Nat × am_e) × List Nat), ((am_tabs.getD 172 []).zip (am_xs.getD 172 []))[j]? = some q → am_okE 172 q.1.1 q.1.2 := by
  intro j q hq
  have hlen : ((am_tabs.getD 172 []).zip (am_xs.getD 172 [])).length = 42 := by decide +kernel
  exact am_cks_ok am_k172_0 j (by omega) (by have := (List.getElem?_eq_some_iff.mp hq).1; omega) q hq
theorem am_m173 : ∀ (j : Nat) (q : (Nat × am_e) × List Nat), ((am_tabs.getD 173 []).zip (am_xs.getD 173 []))[j]? = some q → am_okE 173 q.1.1 q.1.2 := by
  intro j q hq
  have hlen : ((am_tabs.getD 173 []).zip (am_xs.getD 173 [])).length = 7 := by decide +kernel
  exact am_cks_ok am_k173_0 j (by omega) (by have := (List.getElem?_eq_some_iff.mp hq).1; omega) q hq
theorem am_m174 : ∀ (j : Nat) (q : (Nat × am_e) × List Nat), ((am_tabs.getD 174 []).zip (am_xs.getD 174 []))[j]? = some q → am_okE 174 q.1.1 q.1.2 := by
  intro j q hq
  have hlen : ((am_tabs.getD 174 []).zip (am_xs.getD 174 [])).length = 7 := by decide +kernel
  exact am_cks_ok am_k174_0 j (by omega) (by have := (List.getElem?_eq_some_iff.mp hq).1; omega) q hq
theorem am_m175 : ∀ (j : Nat) (q : (Nat × am_e) × List Nat), ((am_tabs.getD 175 []).zip (am_xs.getD 175 []))[j]? = some q → am_okE 175 q.1.1 q.1.2 := by
  intro j q hq
  have hlen : ((am_tabs.getD 175 []).zip (am_xs.getD 175 [])).length = 3 := by decide +kernel
  exact am_cks_ok am_k175_0 j (by omega) (by have := (List.getElem?_eq_some_iff.mp hq).1; omega) q hq
theorem am_m176 : ∀ (j : Nat) (q : (Nat × am_e) × List Nat), ((am_tabs.getD 176 []).zip (am_xs.getD 176 []))[j]? = some q → am_okE 176 q.1.1 q.1.2 := by
  intro j q hq
  have hlen : ((am_tabs.getD 176 []).zip (am_xs.getD 176 [])).length = 6 := by decide +kernel
  exact am_cks_ok am_k176_0 j (by omega) (by have := (List.getElem?_eq_some_iff.mp hq).1; omega) q hq
theorem am_m177 : ∀ (j : Nat) (q : (Nat × am_e) × List Nat), ((am_tabs.getD 177 []).zip (am_xs.getD 177 []))[j]? = some q → am_okE 177 q.1.1 q.1.2 := by
  intro j q hq
  have hlen : ((am_tabs.getD 177 []).zip (am_xs.getD 177 [])).length = 6 := by decide +kernel
  exact am_cks_ok am_k177_0 j (by omega) (by have := (List.getElem?_eq_some_iff.mp hq).1; omega) q hq
theorem am_m178 : ∀ (j : Nat) (q : (Nat × am_e) × List Nat), ((am_tabs.getD 178 []).zip (am_xs.getD 178 []))[j]? = some q → am_okE 178 q.1.1 q.1.2 := by
  intro j q hq
  have hlen : ((am_tabs.getD 178 []).zip (am_xs.getD 178 [])).length = 35 := by decide +kernel
  exact am_cks_ok am_k178_0 j (by omega) (by have := (List.getElem?_eq_some_iff.mp hq).1; omega) q hq
theorem am_m179 : ∀ (j : Nat) (q : (Nat × am_e) × List Nat), ((am_tabs.getD 179 []).zip (am_xs.getD 179 []))[j]? = some q → am_okE 179 q.1.1 q.1.2 := by
  intro j q hq
  have hlen : ((am_tabs.getD 179 []).zip (am_xs.getD 179 [])).length = 7 := by decide +kernel
  exact am_cks_ok am_k179_0 j (by omega) (by have := (List.getElem?_eq_some_iff.mp hq).1; omega) q hq
theorem am_m180 : ∀ (j : Nat) (q : (Nat × am_e) × List Nat), ((am_tabs.getD 180 []).zip (am_xs.getD 180 []))[j]? = some q → am_okE 180 q.1.1 q.1.2 := by
  intro j q hq
  have hlen : ((am_tabs.getD 180 []).zip (am_xs.getD 180 [])).length = 3 := by decide +kernel
  exact am_cks_ok am_k180_0 j (by omega) (by have := (List.getElem?_eq_some_iff.mp hq).1; omega) q hq
theorem am_m181 : ∀ (j : Nat) (q : (Nat × am_e) × List Nat), ((am_tabs.getD 181 []).zip (am_xs.getD 181 []))[j]? = some q → am_okE 181 q.1.1 q.1.2 := by
  intro j q hq
  have hlen : ((am_tabs.getD 181 []).zip (am_xs.getD 181 [])).length = 7 := by decide +kernel
  exact am_cks_ok am_k181_0 j (by omega) (by have := (List.getElem?_eq_some_iff.mp hq).1; omega) q hq
theorem am_m182 : ∀ (j : Nat) (q : (Nat × am_e) × List Nat), ((am_tabs.getD 182 []).zip (am_xs.getD 182 []))[j]? = some q → am_okE 182 q.1.1 q.1.2 := by
  intro j q hq
  have hlen : ((am_tabs.getD 182 []).zip (am_xs.getD 182 [])).length = 5 := by decide +kernel
  exact am_cks_ok am_k182_0 j (by omega) (by have := (List.getElem?_eq_some_iff.mp hq).1; omega) q hq
theorem am_m183 : ∀ (j : Nat) (q : (Nat × am_e) × List Nat), ((am_tabs.getD 183 []).zip (am_xs.getD 183 []))[j]? = some q → am_okE 183 q.1.1 q.1.2 := by
  intro j q hq
  have hlen : ((am_tabs.getD 183 []).zip (am_xs.getD 183 [])).length = 9 := by decide +kernel
  exact am_cks_ok am_k183_0 j (by omega) (by have := (List.getElem?_eq_some_iff.mp hq).1; omega) q hq
theorem am_m184 : ∀ (j : Nat) (q : (Nat × am_e) × List Nat), ((am_tabs.getD 184 []).zip (am_xs.getD 184 []))[j]? = some q → am_okE 184 q.1.1 q.1.2 := by
  intro j q hq
  have hlen : ((am_tabs.getD 184 []).zip (am_xs.getD 184 [])).length = 16 := by decide +kernel
  exact am_cks_ok am_k184_0 j (by omega) (by have := (List.getElem?_eq_some_iff.mp hq).1; omega) q hq
theorem am_m185 : ∀ (j : Nat) (q : (Nat × am_e) × List Nat), ((am_tabs.getD 185 []).zip (am_xs.getD 185 []))[j]? = some q → am_okE 185 q.1.1 q.1.2 := by
  intro j q hq
  have hlen : ((am_tabs.getD 185 []).zip (am_xs.getD 185 [])).length = 17 := by decide +kernel
  exact am_cks_ok am_k185_0 j (by omega) (by have := (List.getElem?_eq_some_iff.mp hq).1; omega) q hq
theorem am_m186 : ∀ (j : Nat) (q : (Nat × am_e) × List Nat), ((am_tabs.getD 186 []).zip (am_xs.getD 186 []))[j]? = some q → am_okE 186 q.1.1 q.1.2 := by
  intro j q hq
  have hlen : ((am_tabs.getD 186 []).zip (am_xs.getD 186 [])).length = 15 := by decide +kernel
  exact am_cks_ok am_k186_0 j (by omega) (by have := (List.getElem?_eq_some_iff.mp hq).1; omega) q hq
theorem am_m187 : ∀ (j : Nat) (q : (Nat × am_e) × List Nat), ((am_tabs.getD 187 []).zip (am_xs.getD 187 []))[j]? = some q → am_okE 187 q.1.1 q.1.2 := by
  intro j q hq
  have hlen : ((am_tabs.getD 187 []).zip (am_xs.getD 187 [])).length = 18 := by decide +kernel
  exact am_cks_ok am_k187_0 j (by omega) (by have := (List.getElem?_eq_some_iff.mp hq).1; omega) q hq
theorem am_m188 : ∀ (j : Nat) (q : (Nat × am_e) × List Nat), ((am_tabs.getD 188 []).zip (am_xs.getD 188 []))[j]? = some q → am_okE 188 q.1.1 q.1.2 := by
  intro j q hq
  have hlen : ((am_tabs.getD 188 []).zip (am_xs.getD 188 [])).length = 32 := by decide +kernel
  exact am_cks_ok am_k188_0 j (by omega) (by have := (List.getElem?_eq_some_iff.mp hq).1; omega) q hq
theorem am_m189 : ∀ (j : Nat) (q : (Nat × am_e) × List Nat), ((am_tabs.getD 189 []).zip (am_xs.getD 189 []))[j]? = some q → am_okE 189 q.1.1 q.1.2 := by
  intro j q hq
  have hlen : ((am_tabs.getD 189 []).zip (am_xs.getD 189 [])).length = 27 := by decide +kernel
  exact am_cks_ok am_k189_0 j (by omega) (by have := (List.getElem?_eq_some_iff.mp hq).1; omega) q hq
theorem am_m190 : ∀ (j : Nat) (q : (Nat × am_e) × List Nat), ((am_tabs.getD 190 []).zip (am_xs.getD 190 []))[j]? = some q → am_okE 190 q.1.1 q.1.2 := by
  intro j q hq
  have hlen : ((am_tabs.getD 190 []).zip (am_xs.getD 190 [])).length = 15 := by decide +kernel
  exact am_cks_ok am_k190_0 j (by omega) (by have := (List.getElem?_eq_some_iff.mp hq).1; omega) q hq
theorem am_m191 : ∀ (j : Nat) (q : (Nat × am_e) × List Nat), ((am_tabs.getD 191 []).zip (am_xs.getD 191 []))[j]? = some q → am_okE 191 q.1.1 q.1.2 := by
  intro j q hq
  have hlen : ((am_tabs.getD 191 []).zip (am_xs.getD 191 [])).length = 6 := by decide +kernel
  exact am_cks_ok am_k191_0 j (by omega) (by have := (List.getElem?_eq_some_iff.mp hq).1; omega) q hq
theorem am_m192 : ∀ (j : Nat) (q : (Nat × am_e) × List Nat), ((am_tabs.getD 192 []).zip (am_xs.getD 192 []))[j]? = some q → am_okE 192 q.1.1 q.1.2 := by
  intro j q hq
  have hlen : ((am_tabs.getD 192 []).zip (am_xs.getD 192 [])).length = 23 := by decide +kernel
  exact am_cks_ok am_k192_0 j (by omega) (by have := (List.getElem?_eq_some_iff.mp hq).1; omega) q hq
theorem am_m193 : ∀ (j : Nat) (q : (Nat × am_e) × List Nat), ((am_tabs.getD 193 []).zip (am_xs.getD 193 []))[j]? = some q → am_okE 193 q.1.1 q.1.2 := by
  intro j q hq
  have hlen : ((am_tabs.getD 193 []).zip (am_xs.getD 193 [])).length = 5 := by decide +kernel
  exact am_cks_ok am_k193_0 j (by omega) (by have := (List.getElem?_eq_some_iff.mp hq).1; omega) q hq
theorem am_m194 : ∀ (j : Nat) (q : (Nat × am_e) × List Nat), ((am_tabs.getD 194 []).zip (am_xs.getD 194 []))[j]? = some q → am_okE 194 q.1.1 q.1.2 := by
  intro j q hq
  have hlen : ((am_tabs.getD 194 []).zip (am_xs.getD 194 [])).length = 18 := by decide +kernel
  exact am_cks_ok am_k194_0 j (by omega) (by have := (List.getElem?_eq_some_iff.mp hq).1; omega) q hq
theorem am_m195 : ∀ (j : Nat) (q : (Nat × am_e) × List Nat), ((am_tabs.getD 195 []).zip (am_xs.getD 195 []))[j]? = some q → am_okE 195 q.1.1 q.1.2 := by
  intro j q hq
  have hlen : ((am_tabs.getD 195 []).zip (am_xs.getD 195 [])).length = 31 := by decide +kernel
  exact am_cks_ok am_k195_0 j (by omega) (by have := (List.getElem?_eq_some_iff.mp hq).1; omega) q hq
theorem am_m196 : ∀ (j : Nat) (q : (Nat × am_e) × List Nat), ((am_tabs.getD 196 []).zip (am_xs.getD 196 []))[j]? = some q → am_okE 196 q.1.1 q.1.2 := by
  intro j q hq
  have hlen : ((am_tabs.getD 196 []).zip (am_xs.getD 196 [])).length = 12 := by decide +kernel
  exact am_cks_ok am_k196_0 j (by omega) (by have := (List.getElem?_eq_some_iff.mp hq).1; omega) q hq
theorem am_m197 : ∀ (j : Nat) (q : (Nat × am_e) × List Nat), ((am_tabs.getD 197 []).zip (am_xs.getD 197 []))[j]? = some q → am_okE 197 q.1.1 q.1.2 := by
  intro j q hq
  have hlen : ((am_tabs.getD 197 []).zip (am_xs.getD 197 [])).length = 10 := by decide +kernel
  exact am_cks_ok am_k197_0 j (by omega) (by have := (List.getElem?_eq_some_iff.mp hq).1; omega) q hq
theorem am_m198 : ∀ (j : Nat) (q : (Nat × am_e) × List Nat), ((am_tabs.getD 198 []).zip (am_xs.getD 198 []))[j]? = some q → am_okE 198 q.1.1 q.1.2 := by
  intro j q hq
  have hlen : ((am_tabs.getD 198 []).zip (am_xs.getD 198 [])).length = 12 := by decide +kernel
  exact am_cks_ok am_k198_0 j (by omega) (by have := (List.getElem?_eq_some_iff.mp hq).1; omega) q hq
theorem am_m199 : ∀ (j : Nat) (q : (Nat × am_e) × List Nat), ((am_tabs.getD 199 []).zip (am_xs.getD 199 []))[j]? = some q → am_okE 199 q.1.1 q.1.2 := by
  intro j q hq
  have hlen : ((am_tabs.getD 199 []).zip (am_xs.getD 199 [])).length = 180 := by decide +kernel
  by_cases h0 : j < 16
  · exact am_cks_ok am_k199_0 j (by omega) (by omega) q hq
  by_cases h16 : j < 32
  · exact am_cks_ok am_k199_16 j (by omega) (by omega) q hq
  by_cases h32 : j < 48
  · exact am_cks_ok am_k199_32 j (by omega) (by omega) q hq
  by_cases h48 : j < 64
  · exact am_cks_ok am_k199_48 j (by omega) (by omega) q hq
  by_cases h64 : j < 80
  · exact am_cks_ok am_k199_64 j (by omega) (by omega) q hq
  by_cases h80 : j < 96
  · exact am_cks_ok am_k199_80 j (by omega) (by omega) q hq
  by_cases h96 : j < 112
  · exact am_cks_ok am_k199_96 j (by omega) (by omega) q hq
  by_cases h112 : j < 128
  · exact am_cks_ok am_k199_112 j (by omega) (by omega) q hq
  by_cases h128 : j < 144
  · exact am_cks_ok am_k199_128 j (by omega) (by omega) q hq
  by_cases h144 : j < 160
  · exact am_cks_ok am_k199_144 j (by omega) (by omega) q hq
  by_cases h160 : j < 176
  · exact am_cks_ok am_k199_160 j (by omega) (by omega) q hq
  exact am_cks_ok am_k199_176 j (by omega) (by have := (List.getElem?_eq_some_iff.mp hq).1; omega) q hq
theorem am_m200 : ∀ (j : Nat) (q : (Nat × am_e) × List Nat), ((am_tabs.getD 200 []).zip (am_xs.getD 200 []))[j]? = some q → am_okE 200 q.1.1 q.1.2 := by
  intro j q hq
  have hlen : ((am_tabs.getD 200 []).zip (am_xs.getD 200 [])).length = 124 := by decide +kernel
  by_cases h0 : j < 16
  · exact am_cks_ok am_k200_0 j (by omega) (by omega) q hq
  by_cases h16 : j < 32
  · exact am_cks_ok am_k200_16 j (by omega) (by omega) q hq
  by_cases h32 : j < 48
  · exact am_cks_ok am_k200_32 j (by omega) (by omega) q hq
  by_cases h48 : j < 64
  · exact am_cks_ok am_k200_48 j (by omega) (by omega) q hq
  by_cases h64 : j < 80
  · exact am_cks_ok am_k200_64 j (by omega) (by omega) q hq
  by_cases h80 : j < 96
  · exact am_cks_ok am_k200_80 j (by omega) (by omega) q hq
  by_cases h96 : j < 112
  · exact am_cks_ok am_k200_96 j (by omega) (by omega) q hq
  exact am_cks_ok am_k200_112 j (by omega) (by have := (List.getElem?_eq_some_iff.mp hq).1; omega) q hq
theorem am_m201 : ∀ (j : Nat) (q : (Nat × am_e) × List Nat), ((am_tabs.getD 201 []).zip (am_xs.getD 201 []))[j]? = some q → am_okE 201 q.1.1 q.1.2 := by
  intro j q hq
  have hlen : ((am_tabs.getD 201 []).zip (am_xs.getD 201 [])).length = 476 := by decide +kernel
  by_cases h0 : j < 16
  · exact am_cks_ok am_k201_0 j (by omega) (by omega) q hq
  by_cases h16 : j < 32
  · exact am_cks_ok am_k201_16 j (by omega) (by omega) q hq
  by_cases h32 : j < 48
  · exact am_cks_ok am_k201_32 j (by omega) (by omega) q hq
  by_cases h48 : j < 64
  · exact am_cks_ok am_k201_48 j (by omega) (by omega) q hq
  by_cases h64 : j < 80
  · exact am_cks_ok am_k201_64 j (by omega) (by omega) q hq
  by_cases h80 : j < 96
  · exact am_cks_ok am_k201_80 j (by omega) (by omega) q hq
  by_cases h96 : j < 112
  · exact am_cks_ok am_k201_96 j (by omega) (by omega) q hq
  by_cases h112 : j < 128
  · exact am_cks_ok am_k201_112 j (by omega) (by omega) q hq
  by_cases h128 : j < 144
  · exact am_cks_ok am_k201_128 j (by omega) (by omega) q hq
  by_cases h144 : j < 160
  · exact am_cks_ok am_k201_144 j (by omega) (by omega) q hq
  by_cases h160 : j < 176
  · exact am_cks_ok am_k201_160 j (by omega) (by omega) q hq
  by_cases h176 : j < 192
  · exact am_cks_ok am_k201_176 j (by omega) (by omega) q hq
  by_cases h192 : j < 208
  · exact am_cks_ok am_k201_192 j (by omega) (by omega) q hq
  by_cases h208 : j < 224
  · exact am_cks_ok am_k201_208 j (by omega) (by omega) q hq
  by_cases h224 : j < 240
  · exact am_cks_ok am_k201_224 j (by omega) (by omega) q hq
  by_cases h240 : j < 256
  · exact am_cks_ok am_k201_240 j (by omega) (by omega) q hq
  by_cases h256 : j < 272
  · exact am_cks_ok am_k201_256 j (by omega) (by omega) q hq
  by_cases h272 : j < 288
  · exact am_cks_ok am_k201_272 j (by omega) (by omega) q hq
  by_cases h288 : j < 304
  · exact am_cks_ok am_k201_288 j (by omega) (by omega) q hq
  by_cases h304 : j < 320
  · exact am_cks_ok am_k201_304 j (by omega) (by omega) q hq
  by_cases h320 : j < 336
  · exact am_cks_ok am_k201_320 j (by omega) (by omega) q hq
  by_cases h336 : j < 352
  · exact am_cks_ok am_k201_336 j (by omega) (by omega) q hq
  by_cases h352 : j < 368
  · exact am_cks_ok am_k201_352 j (by omega) (by omega) q hq
  by_cases h368 : j < 384
  · exact am_cks_ok am_k201_368 j (by omega) (by omega) q hq
  by_cases h384 : j < 400
  · exact am_cks_ok am_k201_384 j (by omega) (by omega) q hq
  by_cases h400 : j < 416
  · exact am_cks_ok am_k201_400 j (by omega) (by omega) q hq
  by_cases h416 : j < 432
  · exact am_cks_ok am_k201_416 j (by omega) (by omega) q hq
  by_cases h432 : j < 448
  · exact am_cks_ok am_k201_432 j (by omega) (by omega) q hq
  by_cases h448 : j < 464
  · exact am_cks_ok am_k201_448 j (by omega) (by omega) q hq
  exact am_cks_ok am_k201_464 j (by omega) (by have := (List.getElem?_eq_some_iff.mp hq).1; omega) q hq
theorem am_m202 : ∀ (j : Nat) (q : (Nat × am_e) × List Nat), ((am_tabs.getD 202 []).zip (am_xs.getD 202 []))[j]? = some q → am_okE 202 q.1.1 q.1.2 := by
  intro j q hq
  have hlen : ((am_tabs.getD 202 []).zip (am_xs.getD 202 [])).length = 311 := by decide +kernel
  by_cases h0 : j < 16
  · exact am_cks_ok am_k202_0 j (by omega) (by omega) q hq
  by_cases h16 : j < 32
  · exact am_cks_ok am_k202_16 j (by omega) (by omega) q hq
  by_cases h32 : j < 48
  · exact am_cks_ok am_k202_32 j (by omega) (by omega) q hq
  by_cases h48 : j < 64
  · exact am_cks_ok am_k202_48 j (by omega) (by omega) q hq
  by_cases h64 : j < 80
  · exact am_cks_ok am_k202_64 j (by omega) (by omega) q hq
  by_cases h80 : j < 96
  · exact am_cks_ok am_k202_80 j (by omega) (by omega) q hq
  by_cases h96 : j < 112
  · exact am_cks_ok am_k202_96 j (by omega) (by omega) q hq
  by_cases h112 : j < 128
  · exact am_cks_ok am_k202_112 j (by omega) (by omega) q hq
  by_cases h128 : j < 144
  · exact am_cks_ok am_k202_128 j (by omega) (by omega) q hq
  by_cases h144 : j < 160
  · exact am_cks_ok am_k202_144 j (by omega) (by omega) q hq
  by_cases h160 : j < 176
  · exact am_cks_ok am_k202_160 j (by omega) (by omega) q hq
  by_cases h176 : j < 192
  · exact am_cks_ok am_k202_176 j (by omega) (by omega) q hq
  by_cases h192 : j < 208
  · exact am_cks_ok am_k202_192 j (by omega) (by omega) q hq
  by_cases h208 : j < 224
  · exact am_cks_ok am_k202_208 j (by omega) (by omega) q hq
  by_cases h224 : j < 240
  · exact am_cks_ok am_k202_224 j (by omega) (by omega) q hq
  by_cases h240 : j < 256
  · exact am_cks_ok am_k202_240 j (by omega) (by omega) q hq
  by_cases h256 : j < 272
  · exact am_cks_ok am_k202_256 j (by omega) (by omega) q hq
  by_cases h272 : j < 288
  · exact am_cks_ok am_k202_272 j (by omega) (by omega) q hq
  by_cases h288 : j < 304
  · exact am_cks_ok am_k202_288 j (by omega) (by omega) q hq
  exact am_cks_ok am_k202_304 j (by omega) (by have := (List.getElem?_eq_some_iff.mp hq).1; omega) q hq
theorem am_m203 : ∀ (j : Nat) (q : (Nat × am_e) × List Nat), ((am_tabs.getD 203 []).zip (am_xs.getD 203 []))[j]? = some q → am_okE 203 q.1.1 q.1.2 := by
  intro j q hq
  have hlen : ((am_tabs.getD 203 []).zip (am_xs.getD 203 [])).length = 306 := by decide +kernel
  by_cases h0 : j < 16
  · exact am_cks_ok am_k203_0 j (by omega) (by omega) q hq
  by_cases h16 : j < 32
  · exact am_cks_ok am_k203_16 j (by omega) (by omega) q hq
  by_cases h32 : j < 48
  · exact am_cks_ok am_k203_32 j (by omega) (by omega) q hq
  by_cases h48 : j < 64
  · exact am_cks_ok am_k203_48 j (by omega) (by omega) q hq
  by_cases h64 : j < 80
  · exact am_cks_ok am_k203_64 j (by omega) (by omega) q hq
  by_cases h80 : j < 96
  · exact am_cks_ok am_k203_80 j (by omega) (by omega) q hq
  by_cases h96 : j < 112
  · exact am_cks_ok am_k203_96 j (by omega) (by omega) q hq
  by_cases h112 : j < 128
  · exact am_cks_ok am_k203_112 j (by omega) (by omega) q hq
  by_cases h128 : j < 144
  · exact am_cks_ok am_k203_128 j (by omega) (by omega) q hq
  by_cases h144 : j < 160
  · exact am_cks_ok am_k203_144 j (by omega) (by omega) q hq
  by_cases h160 : j < 176
  · exact am_cks_ok am_k203_160 j (by omega) (by omega) q hq
  by_cases h176 : j < 192
  · exact am_cks_ok am_k203_176 j (by omega) (by omega) q hq
  by_cases h192 : j < 208
  · exact am_cks_ok am_k203_192 j (by omega) (by omega) q hq
  by_cases h208 : j < 224
  · exact am_cks_ok am_k203_208 j (by omega) (by omega) q hq
  by_cases h224 : j < 240
  · exact am_cks_ok am_k203_224 j (by omega) (by omega) q hq
  by_cases h240 : j < 256
  · exact am_cks_ok am_k203_240 j (by omega) (by omega) q hq
  by_cases h256 : j < 272
  · exact am_cks_ok am_k203_256 j (by omega) (by omega) q hq
  by_cases h272 : j < 288
  · exact am_cks_ok am_k203_272 j (by omega) (by omega) q hq
  by_cases h288 : j < 304
  · exact am_cks_ok am_k203_288 j (by omega) (by omega) q hq
  exact am_cks_ok am_k203_304 j (by omega) (by have := (List.getElem?_eq_some_iff.mp hq).1; omega) q hq
theorem am_m204 : ∀ (j : Nat) (q : (Nat × am_e) × List Nat), ((am_tabs.getD 204 []).zip (am_xs.getD 204 []))[j]? = some q → am_okE 204 q.1.1 q.1.2 := by
  intro j q hq
  have hlen : ((am_tabs.getD 204 []).zip (am_xs.getD 204 [])).length = 0 := by decide +kernel
  exact absurd (List.getElem?_eq_some_iff.mp hq).1 (by omega)
theorem am_m205 : ∀ (j : Nat) (q : (Nat × am_e) × List Nat), ((am_tabs.getD 205 []).zip (am_xs.getD 205 []))[j]? = some q → am_okE 205 q.1.1 q.1.2 := by
  intro j q hq
  have hlen : ((am_tabs.getD 205 []).zip (am_xs.getD 205 [])).length = 0 := by decide +kernel
  exact absurd (List.getElem?_eq_some_iff.mp hq).1 (by omega)
theorem am_m206 : ∀ (j : Nat) (q : (Nat × am_e) × List Nat), ((am_tabs.getD 206 []).zip (am_xs.getD 206 []))[j]? = some q → am_okE 206 q.1.1 q.1.2 := by
  intro j q hq
  have hlen : ((am_tabs.getD 206 []).zip (am_xs.getD 206 [])).length = 0 := by decide +kernel
  exact absurd (List.getElem?_eq_some_iff.mp hq).1 (by omega)
theorem am_m207 : ∀ (j : Nat) (q : (Nat × am_e) × List Nat), ((am_tabs.getD 207 []).zip (am_xs.getD 207 []))[j]? = some q → am_okE 207 q.1.1 q.1.2 := by
  intro j q hq
  have hlen : ((am_tabs.getD 207 []).zip (am_xs.getD 207 [])).length = 0 := by decide +kernel
  exact absurd (List.getElem?_eq_some_iff.mp hq).1 (by omega)
theorem am_m208 : ∀ (j : Nat) (q : (Nat × am_e) × List Nat), ((am_tabs.getD 208 []).zip (am_xs.getD 208 []))[j]? = some q → am_okE 208 q.1.1 q.1.2 := by
  intro j q hq
  have hlen : ((am_tabs.getD 208 []).zip (am_xs.getD 208 [])).length = 0 := by decide +kernel
  exact absurd (List.getElem?_eq_some_iff.mp hq).1 (by omega)
theorem am_m209 : ∀ (j : Nat) (q : (Nat × am_e) × List Nat), ((am_tabs.getD 209 []).zip (am_xs.getD 209 []))[j]? = some q → am_okE 209 q.1.1 q.1.2 := by
  intro j q hq
  have hlen : ((am_tabs.getD 209 []).zip (am_xs.getD 209 [])).length = 0 := by decide +kernel
  exact absurd (List.getElem?_eq_some_iff.mp hq).1 (by omega)
theorem am_m210 : ∀ (j : Nat) (q : (Nat × am_e) × List Nat), ((am_tabs.getD 210 []).zip (am_xs.getD 210 []))[j]? = some q → am_okE 210 q.1.1 q.1.2 := by
  intro j q hq
  have hlen : ((am_tabs.getD 210 []).zip (am_xs.getD 210 [])).length = 0 := by decide +kernel
  exact absurd (List.getElem?_eq_some_iff.mp hq).1 (by omega)
theorem am_m211 : ∀ (j : Nat) (q : (Nat × am_e) × List Nat), ((am_tabs.getD 211 []).zip (am_xs.getD 211 []))[j]? = some q → am_okE 211 q.1.1 q.1.2 := by
  intro j q hq
  have hlen : ((am_tabs.getD 211 []).zip (am_xs.getD 211 [])).length = 0 := by decide +kernel
  exact absurd (List.getElem?_eq_some_iff.mp hq).1 (by omega)
theorem am_m212 : ∀ (j : Nat) (q : (Nat × am_e) × List Nat), ((am_tabs.getD 212 []).zip (am_xs.getD 212 []))[j]? = some q → am_okE 212 q.1.1 q.1.2 := by
  intro j q hq
  have hlen : ((am_tabs.getD 212 []).zip (am_xs.getD 212 [])).length = 0 := by decide +kernel
  exact absurd (List.getElem?_eq_some_iff.mp hq).1 (by omega)
theorem am_m213 : ∀ (j : Nat) (q : (Nat × am_e) × List Nat), ((am_tabs.getD 213 []).zip (am_xs.getD 213 []))[j]? = some q → am_okE 213 q.1.1 q.1.2 := by
  intro j q hq
  have hlen : ((am_tabs.getD 213 []).zip (am_xs.getD 213 [])).length = 0 := by decide +kernel
  exact absurd (List.getElem?_eq_some_iff.mp hq).1 (by omega)
theorem am_m214 : ∀ (j : Nat) (q : (Nat × am_e) × List Nat), ((am_tabs.getD 214 []).zip (am_xs.getD 214 []))[j]? = some q → am_okE 214 q.1.1 q.1.2 := by
  intro j q hq
  have hlen : ((am_tabs.getD 214 []).zip (am_xs.getD 214 [])).length = 0 := by decide +kernel
  exact absurd (List.getElem?_eq_some_iff.mp hq).1 (by omega)
theorem am_m215 : ∀ (j : Nat) (q : (Nat × am_e) × List Nat), ((am_tabs.getD 215 []).zip (am_xs.getD 215 []))[j]? = some q → am_okE 215 q.1.1 q.1.2 := by
  intro j q hq
  have hlen : ((am_tabs.getD 215 []).zip (am_xs.getD 215 [])).length = 0 := by decide +kernel
  exact absurd (List.getElem?_eq_some_iff.mp hq).1 (by omega)
theorem am_m216 : ∀ (j : Nat) (q : (Nat × am_e) × List Nat), ((am_tabs.getD 216 []).zip (am_xs.getD 216 []))[j]? = some q → am_okE 216 q.1.1 q.1.2 := by
  intro j q hq
  have hlen : ((am_tabs.getD 216 []).zip (am_xs.getD 216 [])).length = 0 := by decide +kernel
  exact absurd (List.getElem?_eq_some_iff.mp hq).1 (by omega)
theorem am_m217 : ∀ (j : Nat) (q : (Nat × am_e) × List Nat), ((am_tabs.getD 217 []).zip (am_xs.getD 217 []))[j]? = some q → am_okE 217 q.1.1 q.1.2 := by
  intro j q hq
  have hlen : ((am_tabs.getD 217 []).zip (am_xs.getD 217 [])).length = 0 := by decide +kernel
  exact absurd (List.getElem?_eq_some_iff.mp hq).1 (by omega)
theorem am_m218 : ∀ (j : Nat) (q : (Nat × am_e) × List Nat), ((am_tabs.getD 218 []).zip (am_xs.getD 218 []))[j]? = some q → am_okE 218 q.1.1 q.1.2 := by
  intro j q hq
  have hlen : ((am_tabs.getD 218 []).zip (am_xs.getD 218 [])).length = 0 := by decide +kernel
  exact absurd (List.getElem?_eq_some_iff.mp hq).1 (by omega)
theorem am_m219 : ∀ (j : Nat) (q : (Nat × am_e) × List Nat), ((am_tabs.getD 219 []).zip (am_xs.getD 219 []))[j]? = some q → am_okE 219 q.1.1 q.1.2 := by
  intro j q hq
  have hlen : ((am_tabs.getD 219 []).zip (am_xs.getD 219 [])).length = 0 := by decide +kernel
  exact absurd (List.getElem?_eq_some_iff.mp hq).1 (by omega)
theorem am_m220 : ∀ (j : Nat) (q : (Nat × am_e) × List Nat), ((am_tabs.getD 220 []).zip (am_xs.getD 220 []))[j]? = some q → am_okE 220 q.1.1 q.1.2 := by
  intro j q hq
  have hlen : ((am_tabs.getD 220 []).zip (am_xs.getD 220 [])).length = 0 := by decide +kernel
  exact absurd (List.getElem?_eq_some_iff.mp hq).1 (by omega)
theorem am_m221 : ∀ (j : Nat) (q : (Nat × am_e) × List Nat), ((am_tabs.getD 221 []).zip (am_xs.getD 221 []))[j]? = some q → am_okE 221 q.1.1 q.1.2 := by
  intro j q hq
  have hlen : ((am_tabs.getD 221 []).zip (am_xs.getD 221 [])).length = 0 := by decide +kernel
  exact absurd (List.getElem?_eq_some_iff.mp hq).1 (by omega)
theorem am_m222 : ∀ (j : Nat) (q : (Nat × am_e) × List Nat), ((am_tabs.getD 222 []).zip (am_xs.getD 222 []))[j]? = some q → am_okE 222 q.1.1 q.1.2 := by
  intro j q hq
  have hlen : ((am_tabs.getD 222 []).zip (am_xs.getD 222 [])).length = 0 := by decide +kernel
  exact absurd (List.getElem?_eq_some_iff.mp hq).1 (by omega)
theorem am_m223 : ∀ (j : Nat) (q : (Nat × am_e) × List Nat), ((am_tabs.getD 223 []).zip (am_xs.getD 223 []))[j]? = some q → am_okE 223 q.1.1 q.1.2 := by
  intro j q hq
  have hlen : ((am_tabs.getD 223 []).zip (am_xs.getD 223 [])).length = 0 := by decide +kernel
  exact absurd (List.getElem?_eq_some_iff.mp hq).1 (by omega)
theorem am_m224 : ∀ (j : Nat) (q : (Nat × am_e) × List Nat), ((am_tabs.getD 224 []).zip (am_xs.getD 224 []))[j]? = some q → am_okE 224 q.1.1 q.1.2 := by
  intro j q hq
  have hlen : ((am_tabs.getD 224 []).zip (am_xs.getD 224 [])).length = 0 := by decide +kernel
  exact absurd (List.getElem?_eq_some_iff.mp hq).1 (by omega)
theorem am_m225 : ∀ (j : Nat) (q : (Nat × am_e) × List Nat), ((am_tabs.getD 225 []).zip (am_xs.getD 225 []))[j]? = some q → am_okE 225 q.1.1 q.1.2 := by
  intro j q hq
  have hlen : ((am_tabs.getD 225 []).zip (am_xs.getD 225 [])).length = 0 := by decide +kernel
  exact absurd (List.getElem?_eq_some_iff.mp hq).1 (by omega)
theorem am_m226 : ∀ (j : Nat) (q : (Nat × am_e) × List Nat), ((am_tabs.getD 226 []).zip (am_xs.getD 226 []))[j]? = some q → am_okE 226 q.1.1 q.1.2 := by
  intro j q hq
  have hlen : ((am_tabs.getD 226 []).zip (am_xs.getD 226 [])).length = 0 := by decide +kernel
  exact absurd (List.getElem?_eq_some_iff.mp hq).1 (by omega)
theorem am_m227 : ∀ (j : Nat) (q : (Nat × am_e) × List Nat), ((am_tabs.getD 227 []).zip (am_xs.getD 227 []))[j]? = some q → am_okE 227 q.1.1 q.1.2 := by
  intro j q hq
  have hlen : ((am_tabs.getD 227 []).zip (am_xs.getD 227 [])).length = 0 := by decide +kernel
  exact absurd (List.getElem?_eq_some_iff.mp hq).1 (by omega)
theorem am_m228 : ∀ (j : Nat) (q : (Nat × am_e) × List Nat), ((am_tabs.getD 228 []).zip (am_xs.getD 228 []))[j]? = some q → am_okE 228 q.1.1 q.1.2 := by
  intro j q hq
  have hlen : ((am_tabs.getD 228 []).zip (am_xs.getD 228 [])).length = 641 := by decide +kernel
  by_cases h0 : j < 16
  · exact am_cks_ok am_k228_0 j (by omega) (by omega) q hq
  by_cases h16 : j < 32
  · exact am_cks_ok am_k228_16 j (by omega) (by omega) q hq
  by_cases h32 : j < 48
  · exact am_cks_ok am_k228_32 j (by omega) (by omega) q hq
  by_cases h48 : j < 64
  · exact am_cks_ok am_k228_48 j (by omega) (by omega) q hq
  by_cases h64 : j < 80
  · exact am_cks_ok am_k228_64 j (by omega) (by omega) q hq
  by_cases h80 : j < 96
  · exact am_cks_ok am_k228_80 j (by omega) (by omega) q hq
  by_cases h96 : j < 112
  · exact am_cks_ok am_k228_96 j (by omega) (by omega) q hq
  by_cases h112 : j < 128
  · exact am_cks_ok am_k228_112 j (by omega) (by omega) q hq
  by_cases h128 : j < 144
  · exact am_cks_ok am_k228_128 j (by omega) (by omega) q hq
  by_cases h144 : j < 160
  · exact am_cks_ok am_k228_144 j (by omega) (by omega) q hq
  by_cases h160 : j < 176
  · exact am_cks_ok am_k228_160 j (by omega) (by omega) q hq
  by_cases h176 : j < 192
  · exact am_cks_ok am_k228_176 j (by omega) (by omega) q hq
  by_cases h192 : j < 208
  · exact am_cks_ok am_k228_192 j (by omega) (by omega) q hq
  by_cases h208 : j < 224
  · exact am_cks_ok am_k228_208 j (by omega) (by omega) q hq
  by_cases h224 : j < 240
  · exact am_cks_ok am_k228_224 j (by omega) (by omega) q hq
  by_cases h240 : j < 256
  · exact am_cks_ok am_k228_240 j (by omega) (by omega) q hq
  by_cases h256 : j < 272
  · exact am_cks_ok am_k228_256 j (by omega) (by omega) q hq
  by_cases h272 : j < 288
  · exact am_cks_ok am_k228_272 j (by omega) (by omega) q hq
  by_cases h288 : j < 304
  · exact am_cks_ok am_k228_288 j (by omega) (by omega) q hq
  by_cases h304 : j < 320
  · exact am_cks_ok am_k228_304 j (by omega) (by omega) q hq
  by_cases h320 : j < 336
  · exact am_cks_ok am_k228_320 j (by omega) (by omega) q hq
  by_cases h336 : j < 352
  · exact am_cks_ok am_k228_336 j (by omega) (by omega) q hq
  by_cases h352 : j < 368
  · exact am_cks_ok am_k228_352 j (by omega) (by omega) q hq
  by_cases h368 : j < 384
  · exact am_cks_ok am_k228_368 j (by omega) (by omega) q hq
  by_cases h384 : j < 400
  · exact am_cks_ok am_k228_384 j (by omega) (by omega) q hq
  by_cases h400 : j < 416
  · exact am_cks_ok am_k228_400 j (by omega) (by omega) q hq
  by_cases h416 : j < 432
  · exact am_cks_ok am_k228_416 j (by omega) (by omega) q hq
  by_cases h432 : j < 448
  · exact am_cks_ok am_k228_432 j (by omega) (by omega) q hq
  by_cases h448 : j < 464
  · exact am_cks_ok am_k228_448 j (by omega) (by omega) q hq
  by_cases h464 : j < 480
  · exact am_cks_ok am_k228_464 j (by omega) (by omega) q hq
  by_cases h480 : j < 496
  · exact am_cks_ok am_k228_480 j (by omega) (by omega) q hq
  by_cases h496 : j < 512
  · exact am_cks_ok am_k228_496 j (by omega) (by omega) q hq
  by_cases h512 : j < 528
  · exact am_cks_ok am_k228_512 j (by omega) (by omega) q hq
  by_cases h528 : j < 544
  · exact am_cks_ok am_k228_528 j (by omega) (by omega) q hq
  by_cases h544 : j < 560
  · exact am_cks_ok am_k228_544 j (by omega) (by omega) q hq
  by_cases h560 : j < 576
  · exact am_cks_ok am_k228_560 j (by omega) (by omega) q hq
  by_cases h576 : j < 592
  · exact am_cks_ok am_k228_576 j (by omega) (by omega) q hq
  by_cases h592 : j < 608
  · exact am_cks_ok am_k228_592 j (by omega) (by omega) q hq
  by_cases h608 : j < 624
  · exact am_cks_ok am_k228_608 j (by omega) (by omega) q hq
  by_cases h624 : j < 640
  · exact am_cks_ok am_k228_624 j (by omega) (by omega) q hq
  exact am_cks_ok am_k228_640 j (by omega) (by have := (List.getElem?_eq_some_iff.mp hq).1; omega) q hq
theorem am_len_eq : ∀ m, m < 229 → (am_tabs.getD m []).length = (am_xs.getD m []).length := by decide +kernel
theorem am_mall (m : Nat) (hm : m < 229) : ∀ (j : Nat) (q : (Nat × am_e) × List Nat), ((am_tabs.getD m []).zip (am_xs.getD m []))[j]? = some q → am_okE m q.1.1 q.1.2 := by
  rcases Nat.lt_or_ge m 114 with h0_229 | h0_229
  · rcases Nat.lt_or_ge m 57 with h0_114 | h0_114
    · rcases Nat.lt_or_ge m 28 with h0_57 | h0_57
      · rcases Nat.lt_or_ge m 14 with h0_28 | h0_28
        · rcases Nat.lt_or_ge m 7 with h0_14 | h0_14
          · rcases Nat.lt_or_ge m 3 with h0_7 | h0_7
            · rcases Nat.lt_or_ge m 1 with h0_3 | h0_3
              · have : m = 0 := by omega
                subst this
                exact am_m0
              · rcases Nat.lt_or_ge m 2 with h1_3 | h1_3
                · have : m = 1 := by omega
                  subst this
                  exact am_m1
                · have : m = 2 := by omega
                  subst this
                  exact am_m2
            · rcases Nat.lt_or_ge m 5 with h3_7 | h3_7
              · rcases Nat.lt_or_ge m 4 with h3_5 | h3_5
                · have : m = 3 := by omega
                  subst this
                  exact am_m3
                · have : m = 4 := by omega
                  subst this
                  exact am_m4
              · rcases Nat.lt_or_ge m 6 with h5_7 | h5_7
                · have : m = 5 := by omega
                  subst this
                  exact am_m5
                · have : m = 6 := by omega
                  subst this
                  exact am_m6
          · rcases Nat.lt_or_ge m 10 with h7_14 | h7_14
            · rcases Nat.lt_or_ge m 8 with h7_10 | h7_10
              · have : m = 7 := by omega
                subst this
                exact am_m7
              · rcases Nat.lt_or_ge m 9 with h8_10 | h8_10
                · have : m = 8 := by omega
                  subst this
                  exact am_m8
                · have : m = 9 := by omega
                  subst this
                  exact am_m9
            · rcases Nat.lt_or_ge m 12 with h10_14 | h10_14
              · rcases Nat.lt_or_ge m 11 with h10_12 | h10_12
                · have : m = 10 := by omega
                  subst this
                  exact am_m10
                · have : m = 11 := by omega
                  subst this
                  exact am_m11
              · rcases Nat.lt_or_ge m 13 with h12_14 | h12_14
                · have : m = 12 := by omega
                  subst this
                  exact am_m12
                · have : m = 13 := by omega
                  subst this
                  exact am_m13
        · rcases Nat.lt_or_ge m 21 with h14_28 | h14_28
          · rcases Nat.lt_or_ge m 17 with h14_21 | h14_21
            · rcases Nat.lt_or_ge m 15 with h14_17 | h14_17
              · have : m = 14 := by omega
                subst this
                exact am_m14
              · rcases Nat.lt_or_ge m 16 with h15_17 | h15_17
                · have : m = 15 := by omega
                  subst this
                  exact am_m15
                · have : m = 16 := by omega
                  subst this
                  exact am_m16
            · rcases Nat.lt_or_ge m 19 with h17_21 | h17_21
              · rcases Nat.lt_or_ge m 18 with h17_19 | h17_19
                · have : m = 17 := by omega
                  subst this
                  exact am_m17
                · have : m = 18 := by omega
                  subst this
                  exact am_m18
              · rcases Nat.lt_or_ge m 20 with h19_21 | h19_21
                · have : m = 19 := by omega
                  subst this
                  exact am_m19
                · have : m = 20 := by omega
                  subst this
                  exact am_m20
          · rcases Nat.lt_or_ge m 24 with h21_28 | h21_28
            · rcases Nat.lt_or_ge m 22 with h21_24 | h21_24
              · have : m = 21 := by omega
                subst this
                exact am_m21
              · rcases Nat.lt_or_ge m 23 with h22_24 | h22_24
                · have : m = 22 := by omega
                  subst this
                  exact am_m22
                · have : m = 23 := by omega
                  subst this
                  exact am_m23
            · rcases Nat.lt_or_ge m 26 with h24_28 | h24_28
              · rcases Nat.lt_or_ge m 25 with h24_26 | h24_26
                · have : m = 24 := by omega
                  subst this
                  exact am_m24
                · have : m = 25 := by omega
                  subst this
                  exact am_m25
              · rcases Nat.lt_or_ge m 27 with h26_28 | h26_28
                · have : m = 26 := by omega
                  subst this
                  exact am_m26
                · have : m = 27 := by omega
                  subst this
                  exact am_m27
      · rcases Nat.lt_or_ge m 42 with h28_57 | h28_57
        · rcases Nat.lt_or_ge m 35 with h28_42 | h28_42
          · rcases Nat.lt_or_ge m 31 with h28_35 | h28_35
            · rcases Nat.lt_or_ge m 29 with h28_31 | h28_31
              · have : m = 28 := by omega
                subst this
                exact am_m28
              · rcases Nat.lt_or_ge m 30 with h29_31 | h29_31
                · have : m = 29 := by omega
                  subst this
                  exact am_m29
                · have : m = 30 := by omega
                  subst this
                  exact am_m30
            · rcases Nat.lt_or_ge m 33 with h31_35 | h31_35
              · rcases Nat.lt_or_ge m 32 with h31_33 | h31_33
                · have : m = 31 := by omega
                  subst this
                  exact am_m31
                · have : m = 32 := by omega
                  subst this
                  exact am_m32
              · rcases Nat.lt_or_ge m 34 with h33_35 | h33_35
                · have : m = 33 := by omega
                  subst this
                  exact am_m33
                · have : m = 34 := by omega
                  subst this
                  exact am_m34
          · rcases Nat.lt_or_ge m 38 with h35_42 | h35_42
            · rcases Nat.lt_or_ge m 36 with h35_38 | h35_38
              · have : m = 35 := by omega
                subst this
                exact am_m35
              · rcases Nat.lt_or_ge m 37 with h36_38 | h36_38
                · have : m = 36 := by omega
                  subst this
                  exact am_m36
                · have : m = 37 := by omega
                  subst this
                  exact am_m37
            · rcases Nat.lt_or_ge m 40 with h38_42 | h38_42
              · rcases Nat.lt_or_ge m 39 with h38_40 | h38_40
                · have : m = 38 := by omega
                  subst this
                  exact am_m38
                · have : m = 39 := by omega
                  subst this
                  exact am_m39
              · rcases Nat.lt_or_ge m 41 with h40_42 | h40_42
                · have : m = 40 := by omega
                  subst this
                  exact am_m40
                · have : m = 41 := by omega
                  subst this
                  exact am_m41
        · rcases Nat.lt_or_ge m 49 with h42_57 | h42_57
          · rcases Nat.lt_or_ge m 45 with h42_49 | h42_49
            · rcases Nat.lt_or_ge m 43 with h42_45 | h42_45
              · have : m = 42 := by omega
                subst this
                exact am_m42
              · rcases Nat.lt_or_ge m 44 with h43_45 | h43_45
                · have : m = 43 := by omega
                  subst this
                  exact am_m43
                · have : m = 44 := by omega
                  subst this
                  exact am_m44
            · rcases Nat.lt_or_ge m 47 with h45_49 | h45_49
              · rcases Nat.lt_or_ge m 46 with h45_47 | h45_47
                · have : m = 45 := by omega
                  subst this
                  exact am_m45
                · have : m = 46 := by omega
                  subst this
                  exact am_m46
              · rcases Nat.lt_or_ge m 48 with h47_49 | h47_49
                · have : m = 47 := by omega
                  subst this
                  exact am_m47
                · have : m = 48 := by omega
                  subst this
                  exact am_m48
          · rcases Nat.lt_or_ge m 53 with h49_57 | h49_57
            · rcases Nat.lt_or_ge m 51 with h49_53 | h49_53
              · rcases Nat.lt_or_ge m 50 with h49_51 | h49_51
                · have : m = 49 := by omega
                  subst this
                  exact am_m49
                · have : m = 50 := by omega
                  subst this
                  exact am_m50
              · rcases Nat.lt_or_ge m 52 with h51_53 | h51_53
                · have : m = 51 := by omega
                  subst this
                  exact am_m51
                · have : m = 52 := by omega
                  subst this
                  exact am_m52
            · rcases Nat.lt_or_ge m 55 with h53_57 | h53_57
              · rcases Nat.lt_or_ge m 54 with h53_55 | h53_55
                · have : m = 53 := by omega
                  subst this
                  exact am_m53
                · have : m = 54 := by omega
                  subst this
                  exact am_m54
              · rcases Nat.lt_or_ge m 56 with h55_57 | h55_57
                · have : m = 55 := by omega
                  subst this
                  exact am_m55
                · have : m = 56 := by omega
                  subst this
                  exact am_m56
    · rcases Nat.lt_or_ge m 85 with h57_114 | h57_114
      · rcases Nat.lt_or_ge m 71 with h57_85 | h57_85
        · rcases Nat.lt_or_ge m 64 with h57_71 | h57_71
          · rcases Nat.lt_or_ge m 60 with h57_64 | h57_64
            · rcases Nat.lt_or_ge m 58 with h57_60 | h57_60
              · have : m = 57 := by omega
                subst this
                exact am_m57
              · rcases Nat.lt_or_ge m 59 with h58_60 | h58_60
                · have : m = 58 := by omega
                  subst this
                  exact am_m58
                · have : m = 59 := by omega
                  subst this
                  exact am_m59
            · rcases Nat.lt_or_ge m 62 with h60_64 | h60_64
              · rcases Nat.lt_or_ge m 61 with h60_62 | h60_62
                · have : m = 60 := by omega
                  subst this
                  exact am_m60
                · have : m = 61 := by omega
                  subst this
                  exact am_m61
              · rcases Nat.lt_or_ge m 63 with h62_64 | h62_64
                · have : m = 62 := by omega
                  subst this
                  exact am_m62
                · have : m = 63 := by omega
                  subst this
                  exact am_m63
          · rcases Nat.lt_or_ge m 67 with h64_71 | h64_71
            · rcases Nat.lt_or_ge m 65 with h64_67 | h64_67
              · have : m = 64 := by omega
                subst this
                exact am_m64
              · rcases Nat.lt_or_ge m 66 with h65_67 | h65_67
                · have : m = 65 := by omega
                  subst this
                  exact am_m65
                · have : m = 66 := by omega
                  subst this
                  exact am_m66
            · rcases Nat.lt_or_ge m 69 with h67_71 | h67_71
              · rcases Nat.lt_or_ge m 68 with h67_69 | h67_69
                · have : m = 67 := by omega
                  subst this
                  exact am_m67
                · have : m = 68 := by omega
                  subst this
                  exact am_m68
              · rcases Nat.lt_or_ge m 70 with h69_71 | h69_71
                · have : m = 69 := by omega
                  subst this
                  exact am_m69
                · have : m = 70 := by omega
                  subst this
                  exact am_m70
        · rcases Nat.lt_or_ge m 78 with h71_85 | h71_85
          · rcases Nat.lt_or_ge m 74 with h71_78 | h71_78
            · rcases Nat.lt_or_ge m 72 with h71_74 | h71_74
              · have : m = 71 := by omega
                subst this
                exact am_m71
              · rcases Nat.lt_or_ge m 73 with h72_74 | h72_74
                · have : m = 72 := by omega
                  subst this
                  exact am_m72
                · have : m = 73 := by omega
                  subst this
                  exact am_m73
            · rcases Nat.lt_or_ge m 76 with h74_78 | h74_78
              · rcases Nat.lt_or_ge m 75 with h74_76 | h74_76
                · have : m = 74 := by omega
                  subst this
                  exact am_m74
                · have : m = 75 := by omega
                  subst this
                  exact am_m75
              · rcases Nat.lt_or_ge m 77 with h76_78 | h76_78
                · have : m = 76 := by omega
                  subst this
                  exact am_m76
                · have : m = 77 := by omega
                  subst this
                  exact am_m77
          · rcases Nat.lt_or_ge m 81 with h78_85 | h78_85
            · rcases Nat.lt_or_ge m 79 with h78_81 | h78_81
              · have : m = 78 := by omega
                subst this
                exact am_m78
              · rcases Nat.lt_or_ge m 80 with h79_81 | h79_81
                · have : m = 79 := by omega
                  subst this
                  exact am_m79
                · have : m = 80 := by omega
                  subst this
                  exact am_m80
            · rcases Nat.lt_or_ge m 83 with h81_85 | h81_85
              · rcases Nat.lt_or_ge m 82 with h81_83 | h81_83
                · have : m = 81 := by omega
                  subst this
                  exact am_m81
                · have : m = 82 := by omega
                  subst this
                  exact am_m82
              · rcases Nat.lt_or_ge m 84 with h83_85 | h83_85
                · have : m = 83 := by omega
                  subst this
                  exact am_m83
                · have : m = 84 := by omega
                  subst this
                  exact am_m84
      · rcases Nat.lt_or_ge m 99 with h85_114 | h85_114
        · rcases Nat.lt_or_ge m 92 with h85_99 | h85_99
          · rcases Nat.lt_or_ge m 88 with h85_92 | h85_92
            · rcases Nat.lt_or_ge m 86 with h85_88 | h85_88
              · have : m = 85 := by omega
                subst this
                exact am_m85
              · rcases Nat.lt_or_ge m 87 with h86_88 | h86_88
                · have : m = 86 := by omega
                  subst this
                  exact am_m86
                · have : m = 87 := by omega
                  subst this
                  exact am_m87
            · rcases Nat.lt_or_ge m 90 with h88_92 | h88_92
              · rcases Nat.lt_or_ge m 89 with h88_90 | h88_90
                · have : m = 88 := by omega
                  subst this
                  exact am_m88
                · have : m = 89 := by omega
                  subst this
                  exact am_m89
              · rcases Nat.lt_or_ge m 91 with h90_92 | h90_92
                · have : m = 90 := by omega
                  subst this
                  exact am_m90
                · have : m = 91 := by omega
                  subst this
                  exact am_m91
          · rcases Nat.lt_or_ge m 95 with h92_99 | h92_99
            · rcases Nat.lt_or_ge m 93 with h92_95 | h92_95
              · have : m = 92 := by omega
                subst this
                exact am_m92
              · rcases Nat.lt_or_ge m 94 with h93_95 | h93_95
                · have : m = 93 := by omega
                  subst this
                  exact am_m93
                · have : m = 94 := by omega
                  subst this
                  exact am_m94
            · rcases Nat.lt_or_ge m 97 with h95_99 | h95_99
              · rcases Nat.lt_or_ge m 96 with h95_97 | h95_97
                · have : m = 95 := by omega
                  subst this
                  exact am_m95
                · have : m = 96 := by omega
                  subst this
                  exact am_m96
              · rcases Nat.lt_or_ge m 98 with h97_99 | h97_99
                · have : m = 97 := by omega
                  subst this
                  exact am_m97
                · have : m = 98 := by omega
                  subst this
                  exact am_m98
        · rcases Nat.lt_or_ge m 106 with h99_114 | h99_114
          · rcases Nat.lt_or_ge m 102 with h99_106 | h99_106
            · rcases Nat.lt_or_ge m 100 with h99_102 | h99_102
              · have : m = 99 := by omega
                subst this
                exact am_m99
              · rcases Nat.lt_or_ge m 101 with h100_102 | h100_102
                · have : m = 100 := by omega
                  subst this
                  exact am_m100
                · have : m = 101 := by omega
                  subst this
                  exact am_m101
            · rcases Nat.lt_or_ge m 104 with h102_106 | h102_106
              · rcases Nat.lt_or_ge m 103 with h102_104 | h102_104
                · have : m = 102 := by omega
                  subst this
                  exact am_m102
                · have : m = 103 := by omega
                  subst this
                  exact am_m103
              · rcases Nat.lt_or_ge m 105 with h104_106 | h104_106
                · have : m = 104 := by omega
                  subst this
                  exact am_m104
                · have : m = 105 := by omega
                  subst this
                  exact am_m105
          · rcases Nat.lt_or_ge m 110 with h106_114 | h106_114
            · rcases Nat.lt_or_ge m 108 with h106_110 | h106_110
              · rcases Nat.lt_or_ge m 107 with h106_108 | h106_108
                · have : m = 106 := by omega
                  subst this
                  exact am_m106
                · have : m = 107 := by omega
                  subst this
                  exact am_m107
              · rcases Nat.lt_or_ge m 109 with h108_110 | h108_110
                · have : m = 108 := by omega
                  subst this
                  exact am_m108
                · have : m = 109 := by omega
                  subst this
                  exact am_m109
            · rcases Nat.lt_or_ge m 112 with h110_114 | h110_114
              · rcases Nat.lt_or_ge m 111 with h110_112 | h110_112
                · have : m = 110 := by omega
                  subst this
                  exact am_m110
                · have : m = 111 := by omega
                  subst this
                  exact am_m111
              · rcases Nat.lt_or_ge m 113 with h112_114 | h112_114
                · have : m = 112 := by omega
                  subst this
                  exact am_m112
                · have : m = 113 := by omega
                  subst this
                  exact am_m113
  · rcases Nat.lt_or_ge m 171 with h114_229 | h114_229
    · rcases Nat.lt_or_ge m 142 with h114_171 | h114_171
      · rcases Nat.lt_or_ge m 128 with h114_142 | h114_142
        · rcases Nat.lt_or_ge m 121 with h114_128 | h114_128
          · rcases Nat.lt_or_ge m 117 with h114_121 | h114_121
            · rcases Nat.lt_or_ge m 115 with h114_117 | h114_117
              · have : m = 114 := by omega
                subst this
                exact am_m114
              · rcases Nat.lt_or_ge m 116 with h115_117 | h115_117
                · have : m = 115 := by omega
                  subst this
                  exact am_m115
                · have : m = 116 := by omega
                  subst this
                  exact am_m116
            · rcases Nat.lt_or_ge m 119 with h117_121 | h117_121
              · rcases Nat.lt_or_ge m 118 with h117_119 | h117_119
                · have : m = 117 := by omega
                  subst this
                  exact am_m117
                · have : m = 118 := by omega
                  subst this
                  exact am_m118
              · rcases Nat.lt_or_ge m 120 with h119_121 | h119_121
                · have : m = 119 := by omega
                  subst this
                  exact am_m119
                · have : m = 120 := by omega
                  subst this
                  exact am_m120
          · rcases Nat.lt_or_ge m 124 with h121_128 | h121_128
            · rcases Nat.lt_or_ge m 122 with h121_124 | h121_124
              · have : m = 121 := by omega
                subst this
                exact am_m121
              · rcases Nat.lt_or_ge m 123 with h122_124 | h122_124
                · have : m = 122 := by omega
                  subst this
                  exact am_m122
                · have : m = 123 := by omega
                  subst this
                  exact am_m123
            · rcases Nat.lt_or_ge m 126 with h124_128 | h124_128
              · rcases Nat.lt_or_ge m 125 with h124_126 | h124_126
                · have : m = 124 := by omega
                  subst this
                  exact am_m124
                · have : m = 125 := by omega
                  subst this
                  exact am_m125
              · rcases Nat.lt_or_ge m 127 with h126_128 | h126_128
                · have : m = 126 := by omega
                  subst this
                  exact am_m126
                · have : m = 127 := by omega
                  subst this
                  exact am_m127
        · rcases Nat.lt_or_ge m 135 with h128_142 | h128_142
          · rcases Nat.lt_or_ge m 131 with h128_135 | h128_135
            · rcases Nat.lt_or_ge m 129 with h128_131 | h128_131
              · have : m = 128 := by omega
                subst this
                exact am_m128
              · rcases Nat.lt_or_ge m 130 with h129_131 | h129_131
                · have : m = 129 := by omega
                  subst this
                  exact am_m129
                · have : m = 130 := by omega
                  subst this
                  exact am_m130
            · rcases Nat.lt_or_ge m 133 with h131_135 | h131_135
              · rcases Nat.lt_or_ge m 132 with h131_133 | h131_133
                · have : m = 131 := by omega
                  subst this
                  exact am_m131
                · have : m = 132 := by omega
                  subst this
                  exact am_m132
              · rcases Nat.lt_or_ge m 134 with h133_135 | h133_135
                · have : m = 133 := by omega
                  subst this
                  exact am_m133
                · have : m = 134 := by omega
                  subst this
                  exact am_m134
          · rcases Nat.lt_or_ge m 138 with h135_142 | h135_142
            · rcases Nat.lt_or_ge m 136 with h135_138 | h135_138
              · have : m = 135 := by omega
                subst this
                exact am_m135
              · rcases Nat.lt_or_ge m 137 with h136_138 | h136_138
                · have : m = 136 := by omega
                  subst this
                  exact am_m136
                · have : m = 137 := by omega
                  subst this
                  exact am_m137
            · rcases Nat.lt_or_ge m 140 with h138_142 | h138_142
              · rcases Nat.lt_or_ge m 139 with h138_140 | h138_140
                · have : m = 138 := by omega
                  subst this
                  exact am_m138
                · have : m = 139 := by omega
                  subst this
                  exact am_m139
              · rcases Nat.lt_or_ge m 141 with h140_142 | h140_142
                · have : m = 140 := by omega
                  subst this
                  exact am_m140
                · have : m = 141 := by omega
                  subst this
                  exact am_m141
      · rcases Nat.lt_or_ge m 156 with h142_171 | h142_171
        · rcases Nat.lt_or_ge m 149 with h142_156 | h142_156
          · rcases Nat.lt_or_ge m 145 with h142_149 | h142_149
            · rcases Nat.lt_or_ge m 143 with h142_145 | h142_145
              · have : m = 142 := by omega
                subst this
                exact am_m142
              · rcases Nat.lt_or_ge m 144 with h143_145 | h143_145
                · have : m = 143 := by omega
                  subst this
                  exact am_m143
                · have : m = 144 := by omega
                  subst this
                  exact am_m144
            · rcases Nat.lt_or_ge m 147 with h145_149 | h145_149
              · rcases Nat.lt_or_ge m 146 with h145_147 | h145_147
                · have : m = 145 := by omega
                  subst this
                  exact am_m145
                · have : m = 146 := by omega
                  subst this
                  exact am_m146
              · rcases Nat.lt_or_ge m 148 with h147_149 | h147_149
                · have : m = 147 := by omega
                  subst this
                  exact am_m147
                · have : m = 148 := by omega
                  subst this
                  exact am_m148
          · rcases Nat.lt_or_ge m 152 with h149_156 | h149_156
            · rcases Nat.lt_or_ge m 150 with h149_152 | h149_152
              · have : m = 149 := by omega
                subst this
                exact am_m149
              · rcases Nat.lt_or_ge m 151 with h150_152 | h150_152
                · have : m = 150 := by omega
                  subst this
                  exact am_m150
                · have : m = 151 := by omega
                  subst this
                  exact am_m151
            · rcases Nat.lt_or_ge m 154 with h152_156 | h152_156
              · rcases Nat.lt_or_ge m 153 with h152_154 | h152_154
                · have : m = 152 := by omega
                  subst this
                  exact am_m152
                · have : m = 153 := by omega
                  subst this
                  exact am_m153
              · rcases Nat.lt_or_ge m 155 with h154_156 | h154_156
                · have : m = 154 := by omega
                  subst this
                  exact am_m154
                · have : m = 155 := by omega
                  subst this
                  exact am_m155
        · rcases Nat.lt_or_ge m 163 with h156_171 | h156_171
          · rcases Nat.lt_or_ge m 159 with h156_163 | h156_163
            · rcases Nat.lt_or_ge m 157 with h156_159 | h156_159
              · have : m = 156 := by omega
                subst this
                exact am_m156
              · rcases Nat.lt_or_ge m 158 with h157_159 | h157_159
                · have : m = 157 := by omega
                  subst this
                  exact am_m157
                · have : m = 158 := by omega
                  subst this
                  exact am_m158
            · rcases Nat.lt_or_ge m 161 with h159_163 | h159_163
              · rcases Nat.lt_or_ge m 160 with h159_161 | h159_161
                · have : m = 159 := by omega
                  subst this
                  exact am_m159
                · have : m = 160 := by omega
                  subst this
                  exact am_m160
              · rcases Nat.lt_or_ge m 162 with h161_163 | h161_163
                · have : m = 161 := by omega
                  subst this
                  exact am_m161
                · have : m = 162 := by omega
                  subst this
                  exact am_m162
          · rcases Nat.lt_or_ge m 167 with h163_171 | h163_171
            · rcases Nat.lt_or_ge m 165 with h163_167 | h163_167
              · rcases Nat.lt_or_ge m 164 with h163_165 | h163_165
                · have : m = 163 := by omega
                  subst this
                  exact am_m163
                · have : m = 164 := by omega
                  subst this
                  exact am_m164
              · rcases Nat.lt_or_ge m 166 with h165_167 | h165_167
                · have : m = 165 := by omega
                  subst this
                  exact am_m165
                · have : m = 166 := by omega
                  subst this
                  exact am_m166
            · rcases Nat.lt_or_ge m 169 with h167_171 | h167_171
              · rcases Nat.lt_or_ge m 168 with h167_169 | h167_169
                · have : m = 167 := by omega
                  subst this
                  exact am_m167
                · have : m = 168 := by omega
                  subst this
                  exact am_m168
              · rcases Nat.lt_or_ge m 170 with h169_171 | h169_171
                · have : m = 169 := by omega
                  subst this
                  exact am_m169
                · have : m = 170 := by omega
                  subst this
                  exact am_m170
    · rcases Nat.lt_or_ge m 200 with h171_229 | h171_229
      · rcases Nat.lt_or_ge m 185 with h171_200 | h171_200
        · rcases Nat.lt_or_ge m 178 with h171_185 | h171_185
          · rcases Nat.lt_or_ge m 174 with h171_178 | h171_178
            · rcases Nat.lt_or_ge m 172 with h171_174 | h171_174
              · have : m = 171 := by omega
                subst this
                exact am_m171
              · rcases Nat.lt_or_ge m 173 with h172_174 | h172_174
                · have : m = 172 := by omega
                  subst this
                  exact am_m172
                · have : m = 173 := by omega
                  subst this
                  exact am_m173
            · rcases Nat.lt_or_ge m 176 with h174_178 | h174_178
              · rcases Nat.lt_or_ge m 175 with h174_176 | h174_176
                · have : m = 174 := by omega
                  subst this
                  exact am_m174
                · have : m = 175 := by omega
                  subst this
                  exact am_m175
              · rcases Nat.lt_or_ge m 177 with h176_178 | h176_178
                · have : m = 176 := by omega
                  subst this
                  exact am_m176
                · have : m = 177 := by omega
                  subst this
                  exact am_m177
          · rcases Nat.lt_or_ge m 181 with h178_185 | h178_185
            · rcases Nat.lt_or_ge m 179 with h178_181 | h178_181
              · have : m = 178 := by omega
                subst this
                exact am_m178
              · rcases Nat.lt_or_ge m 180 with h179_181 | h179_181
                · have : m = 179 := by omega
                  subst this
                  exact am_m179
                · have : m = 180 := by omega
                  subst this
                  exact am_m180
            · rcases Nat.lt_or_ge m 183 with h181_185 | h181_185
              · rcases Nat.lt_or_ge m 182 with h181_183 | h181_183
                · have : m = 181 := by omega
                  subst this
                  exact am_m181
                · have : m = 182 := by omega
                  subst this
                  exact am_m182
              · rcases Nat.lt_or_ge m 184 with h183_185 | h183_185
                · have : m = 183 := by omega
                  subst this
                  exact am_m183
                · have : m = 184 := by omega
                  subst this
                  exact am_m184
        · rcases Nat.lt_or_ge m 192 with h185_200 | h185_200
          · rcases Nat.lt_or_ge m 188 with h185_192 | h185_192
            · rcases Nat.lt_or_ge m 186 with h185_188 | h185_188
              · have : m = 185 := by omega
                subst this
                exact am_m185
              · rcases Nat.lt_or_ge m 187 with h186_188 | h186_188
                · have : m = 186 := by omega
                  subst this
                  exact am_m186
                · have : m = 187 := by omega
                  subst this
                  exact am_m187
            · rcases Nat.lt_or_ge m 190 with h188_192 | h188_192
              · rcases Nat.lt_or_ge m 189 with h188_190 | h188_190
                · have : m = 188 := by omega
                  subst this
                  exact am_m188
                · have : m = 189 := by omega
                  subst this
                  exact am_m189
              · rcases Nat.lt_or_ge m 191 with h190_192 | h190_192
                · have : m = 190 := by omega
                  subst this
                  exact am_m190
                · have : m = 191 := by omega
                  subst this
                  exact am_m191
          · rcases Nat.lt_or_ge m 196 with h192_200 | h192_200
            · rcases Nat.lt_or_ge m 194 with h192_196 | h192_196
              · rcases Nat.lt_or_ge m 193 with h192_194 | h192_194
                · have : m = 192 := by omega
                  subst this
                  exact am_m192
                · have : m = 193 := by omega
                  subst this
                  exact am_m193
              · rcases Nat.lt_or_ge m 195 with h194_196 | h194_196
                · have : m = 194 := by omega
                  subst this
                  exact am_m194
                · have : m = 195 := by omega
                  subst this
                  exact am_m195
            · rcases Nat.lt_or_ge m 198 with h196_200 | h196_200
              · rcases Nat.lt_or_ge m 197 with h196_198 | h196_198
                · have : m = 196 := by omega
                  subst this
                  exact am_m196
                · have : m = 197 := by omega
                  subst this
                  exact am_m197
              · rcases Nat.lt_or_ge m 199 with h198_200 | h198_200
                · have : m = 198 := by omega
                  subst this
                  exact am_m198
                · have : m = 199 := by omega
                  subst this
                  exact am_m199
      · rcases Nat.lt_or_ge m 214 with h200_229 | h200_229
        · rcases Nat.lt_or_ge m 207 with h200_214 | h200_214
          · rcases Nat.lt_or_ge m 203 with h200_207 | h200_207
            · rcases Nat.lt_or_ge m 201 with h200_203 | h200_203
              · have : m = 200 := by omega
                subst this
                exact am_m200
              · rcases Nat.lt_or_ge m 202 with h201_203 | h201_203
                · have : m = 201 := by omega
                  subst this
                  exact am_m201
                · have : m = 202 := by omega
                  subst this
                  exact am_m202
            · rcases Nat.lt_or_ge m 205 with h203_207 | h203_207
              · rcases Nat.lt_or_ge m 204 with h203_205 | h203_205
                · have : m = 203 := by omega
                  subst this
                  exact am_m203
                · have : m = 204 := by omega
                  subst this
                  exact am_m204
              · rcases Nat.lt_or_ge m 206 with h205_207 | h205_207
                · have : m = 205 := by omega
                  subst this
                  exact am_m205
                · have : m = 206 := by omega
                  subst this
                  exact am_m206
          · rcases Nat.lt_or_ge m 210 with h207_214 | h207_214
            · rcases Nat.lt_or_ge m 208 with h207_210 | h207_210
              · have : m = 207 := by omega
                subst this
                exact am_m207
              · rcases Nat.lt_or_ge m 209 with h208_210 | h208_210
                · have : m = 208 := by omega
                  subst this
                  exact am_m208
                · have : m = 209 := by omega
                  subst this
                  exact am_m209
            · rcases Nat.lt_or_ge m 212 with h210_214 | h210_214
              · rcases Nat.lt_or_ge m 211 with h210_212 | h210_212
                · have : m = 210 := by omega
                  subst this
                  exact am_m210
                · have : m = 211 := by omega
                  subst this
                  exact am_m211
              · rcases Nat.lt_or_ge m 213 with h212_214 | h212_214
                · have : m = 212 := by omega
                  subst this
                  exact am_m212
                · have : m = 213 := by omega
                  subst this
                  exact am_m213
        · rcases Nat.lt_or_ge m 221 with h214_229 | h214_229
          · rcases Nat.lt_or_ge m 217 with h214_221 | h214_221
            · rcases Nat.lt_or_ge m 215 with h214_217 | h214_217
              · have : m = 214 := by omega
                subst this
                exact am_m214
              · rcases Nat.lt_or_ge m 216 with h215_217 | h215_217
                · have : m = 215 := by omega
                  subst this
                  exact am_m215
                · have : m = 216 := by omega
                  subst this
                  exact am_m216
            · rcases Nat.lt_or_ge m 219 with h217_221 | h217_221
              · rcases Nat.lt_or_ge m 218 with h217_219 | h217_219
                · have : m = 217 := by omega
                  subst this
                  exact am_m217
                · have : m = 218 := by omega
                  subst this
                  exact am_m218
              · rcases Nat.lt_or_ge m 220 with h219_221 | h219_221
                · have : m = 219 := by omega
                  subst this
                  exact am_m219
                · have : m = 220 := by omega
                  subst this
                  exact am_m220
          · rcases Nat.lt_or_ge m 225 with h221_229 | h221_229
            · rcases Nat.lt_or_ge m 223 with h221_225 | h221_225
              · rcases Nat.lt_or_ge m 222 with h221_223 | h221_223
                · have : m = 221 := by omega
                  subst this
                  exact am_m221
                · have : m = 222 := by omega
                  subst this
                  exact am_m222
              · rcases Nat.lt_or_ge m 224 with h223_225 | h223_225
                · have : m = 223 := by omega
                  subst this
                  exact am_m223
                · have : m = 224 := by omega
                  subst this
                  exact am_m224
            · rcases Nat.lt_or_ge m 227 with h225_229 | h225_229
              · rcases Nat.lt_or_ge m 226 with h225_227 | h225_227
                · have : m = 225 := by omega
                  subst this
                  exact am_m225
                · have : m = 226 := by omega
                  subst this
                  exact am_m226
              · rcases Nat.lt_or_ge m 228 with h227_229 | h227_229
                · have : m = 227 := by omega
                  subst this
                  exact am_m227
                · have : m = 228 := by omega
                  subst this
                  exact am_m228
theorem am_all {m pc : Nat} {e : am_e} (h : am_cod m pc = some e) : am_okE m pc e := by
  unfold am_cod at h
  obtain ⟨q, hq, rfl⟩ := Option.map_eq_some_iff.mp h
  have h1 := List.mem_of_find?_eq_some hq
  have h2 := List.find?_some hq
  simp only [beq_iff_eq] at h2
  subst h2
  obtain ⟨j, hj⟩ := List.getElem?_of_mem h1
  have hm : m < 229 := by
    rcases Nat.lt_or_ge m 229 with h | h
    · exact h
    · exfalso
      have hlen : am_tabs.length = 229 := by decide +kernel
      have hn : am_tabs[m]? = none := List.getElem?_eq_none (by rw [hlen]; exact h)
      rw [List.getD_eq_getElem?_getD, hn] at hj
      simp at hj
  have hl := am_len_eq m hm
  have hj2 : j < (am_xs.getD m []).length := by rw [← hl]; exact (List.getElem?_eq_some_iff.mp hj).1
  exact am_mall m hm j (q, (am_xs.getD m [])[j]) (by rw [List.getElem?_zip_eq_some]; exact ⟨hj, List.getElem?_eq_getElem hj2⟩)
