/-! p40, THE LAW'S ENTRY: a new object's answers -/
/-- an empty film, no plan (0) or the plan of nothing (1) -/
def EM (b : Int) (M : Nat → Nat → Int) : Prop := (M 100 1 = 600 ∧ M 100 4 = 0 ∧ M 100 29 = 0 ∧ M 100 47 = 0) ∧ (∀ r j, 106 ≤ r → r ≤ 120 → M r j = 0) ∧ M 100 20 = b ∧ (b = 1 → M 100 22 = 0)
section
variable {M : Nat → Nat → Int} {b : Int}
theorem EM_0 (h : EM b M) (c : Int) : EM b (am_u M 100 0 c) := by
  obtain ⟨⟨h1, h2, h3, h4⟩, h5, h6, h7⟩ := h
  have e : ∀ i, i ≠ 0 → am_u M 100 0 c 100 i = M 100 i := fun i hi => if_neg (by omega)
  refine ⟨⟨by rw [e 1 (by omega)]; exact h1, by rw [e 4 (by omega)]; exact h2, by rw [e 29 (by omega)]; exact h3, by rw [e 47 (by omega)]; exact h4⟩, fun r j q1 q2 => by rw [am_u_na _ _ _ _ (by omega)]; exact h5 r j q1 q2, by rw [e 20 (by omega)]; exact h6, fun q => by rw [e 22 (by omega)]; exact h7 q⟩
theorem EM_110 (h : EM b M) (j : Nat) : M 110 j = 0 := h.2.1 110 j (by omega) (by omega)
theorem EM_bar (h : EM b M) (u x y : Int) : bar M u x y = false := by unfold bar; rw [h.1.2.1]; rfl
theorem EM_bgn (h : EM b M) (u t : Int) : bgn M u t = decide (t = 0) := by unfold bgn; rw [EM_bar h, EM_bar h]; simp
theorem EM_gcn (h : EM b M) (u : Int) : ∀ n : Nat, gcn M u (n + 1) = 1
  | 0 => by
    show gcn M u 0 + (if bgn M u (0 : Nat) then 1 else 0) = 1
    rw [EM_bgn h]; rfl
  | n + 1 => by
    show gcn M u (n + 1) + (if bgn M u ((n + 1 : Nat) : Int) then 1 else 0) = 1
    rw [EM_gcn h u n, EM_bgn h, if_neg (by simp; omega)]; rfl
theorem EM_gen (h : EM b M) (u : Int) : ∀ n e : Nat, gen M u n e = e + n
  | 0, e => rfl
  | n + 1, e => by
    show (if bar M u e (e + 1) then e else gen M u n (e + 1)) = _
    rw [EM_bar h, if_neg (by simp), EM_gen h u n (e + 1)]; omega
theorem EM_gsr (h : EM b M) (u : Int) : gsr M u 0 (M 100 1).toNat 0 0 = some 0 := by
  rw [h.1.1]
  show (if bgn M u (0 : Nat) then (if (0 : Int) = 0 then some 0 else gsr M u 0 599 (0 + 1) (0 + 1)) else gsr M u 0 599 (0 + 1) 0) = some 0
  rw [EM_bgn h]; rfl
theorem EM_G1 (h : EM b M) : d_gapAt M 0 0 1 = (am_u M 100 0 0, 0) := by
  unfold d_gapAt; rw [EM_gsr h]; rfl
theorem EM_G0 (h : EM b M) : d_gapAt M 0 0 0 = (am_u M 100 0 0, 600) := by
  unfold d_gapAt; rw [EM_gsr h, h.1.1]
  show (_, if (0 : Int) = 0 then ((gen M 0 (600 - 0) 0 : Nat) : Int) else ((0 : Nat) : Int)) = _
  rw [EM_gen h]; rfl
theorem EM_isS (h : EM b M) (f : Nat) (t : Int) : isS M f t = false := by unfold isS; rw [EM_110 h]; rfl
theorem EM_nxw (h : EM b M) (f : Nat) : ∀ n, nxw M f n = -1
  | 0 => rfl
  | n + 1 => by
    show (if isS M f (M 100 1 - ((n : Int) + 1)) = true then M 100 1 - ((n : Int) + 1) else nxw M f n) = -1
    rw [EM_isS h, if_neg (by simp), EM_nxw h f n]
theorem EM_nxt (h : EM b M) (f : Nat) (t : Int) : nxt M f t = -1 := by unfold nxt; split; rfl; exact EM_nxw h f _
theorem EM_enS (h : EM b M) (T : Nat → Int) (f R : Nat) : enS M T f R = -1 := by unfold enS; rw [EM_nxt h, if_pos rfl]
theorem EM_wst (h : EM b M) (T : Nat → Int) (S : Nat) : ∀ n, wst M T S n = (-1, 0)
  | 0 => rfl
  | n + 1 => by
    rw [wst, if_neg (fun q => q.2.2.1 (EM_enS h T n _)), EM_wst h T S n]
theorem EM_wE (h : EM b M) {S : Nat} (hS : S ≠ 0) : wE M S = -1 := by rw [wE, if_neg hS, EM_wst h]
theorem EM_bst (h : EM b M) : ∀ n, bst M n = 0
  | 0 => rfl
  | n + 1 => by rw [bst, if_neg (fun q => q.2.1 (EM_wE h q.1)), EM_bst h n]
theorem EM_BS (h : EM b M) : BS M = 0 := EM_bst h 1024
theorem EM_pl (h : EM 0 M) : EM 1 (pl0 M) := by
  obtain ⟨⟨h1, h2, h3, h4⟩, h5, h6, h7⟩ := h
  have e : ∀ r i, ¬ (r = 100 ∧ (i = 0 ∨ i = 20 ∨ i = 21 ∨ i = 22)) → pl0 M r i = M r i := fun r i q => by
    unfold pl0 am_u; rw [if_neg (by omega), if_neg (by omega), if_neg (by omega), if_neg (by omega)]
  exact ⟨⟨by rw [e _ _ (by omega)]; exact h1, by rw [e _ _ (by omega)]; exact h2, by rw [e _ _ (by omega)]; exact h3, by rw [e _ _ (by omega)]; exact h4⟩, fun r j q1 q2 => by rw [e _ _ (by omega)]; exact h5 r j q1 q2, by simp [pl0, am_u], fun _ => by simp [pl0, am_u]⟩
theorem EM_new (h : NEW M) : EM 0 M := ⟨⟨h.1.2.1, h.1.2.2.2.2.1, h.1.2.2.2.2.2.2.1, h.1.2.2.2.2.2.2.2.1⟩, h.2.1, h.1.2.2.2.2.2.1, fun q => absurd q (by decide)⟩
theorem wof_0 (M : Nat → Nat → Int) : ∀ n, wof M 0 n = 0
  | 0 => rfl
  | n + 1 => by rw [wof, wof_0 M n, Nat.zero_testBit]; rfl
theorem EM_lof (h : EM b M) (S : Nat) : ∀ n, lof M S n = 0
  | 0 => rfl
  | n + 1 => by rw [lof, EM_lof h S n, if_neg (fun q => q.1 (EM_110 h n))]; rfl
theorem EM_w (h : EM 1 M) : d_weight M = (am_u M 100 0 0, 0) := by
  unfold d_weight; rw [if_neg (by rw [h.2.2.1]; decide), h.2.2.2 rfl]
  show (_, wof M 0 10) = _
  rw [wof_0]
theorem EM_l (h : EM 1 M) : d_loss M = (am_u M 100 0 0, 0) := by
  unfold d_loss; rw [if_neg (by rw [h.2.2.1]; decide), EM_lof h]
theorem EM_isF (h : EM b M) (f : Int) : ¬ (0 ≤ f ∧ f ≤ 9 ∧ M 110 f.toNat = 1) := fun q => by rw [EM_110 h] at q; exact absurd q.2.2 (by decide)
theorem EM_F (M : Nat → Nat → Int) : d_film M 901 = dno M 1 := by unfold d_film; rw [if_pos (by omega)]
theorem EM_S (h : EM b M) {c x y : Int} (q : ¬ (c = 115 ∨ c = 103 ∨ c = 110) ∨ y ≤ x ∨ 600 < y) : d_sound M c x y = dno M 1 := by unfold d_sound; rw [h.1.1, if_pos (by omega)]
theorem EM_U (h : EM b M) : d_unsound M = dno M 1 := by unfold d_unsound; rw [if_pos h.1.2.1]
theorem EM_N (h : EM b M) {w t : Int} (q : 9 < w ∨ 599 < t ∨ t < -1) : d_named M w t = dno M 1 := by unfold d_named; rw [h.1.1, if_pos (by omega)]
theorem EM_V {x y : Int} (q : x < 2 ∨ 20 < y) : d_voice M x y = dno M 1 := by unfold d_voice; rw [if_pos (by omega)]
theorem EM_f (h : EM b M) {x y w e o : Int} (q : y ≤ x ∨ 600 < y ∨ 99 < w ∨ 60 < e) : d_fact M x y w e o = dno M 1 := by unfold d_fact; rw [h.1.1, if_pos (by omega)]
theorem EM_d (h : EM b M) (f : Int) : d_drop M f = dno M 1 := by unfold d_drop; rw [if_pos (EM_isF h f)]
theorem EM_n (h : EM b M) (f w : Int) : d_names M f w = dno M 1 := by unfold d_names; rw [if_pos (EM_isF h f)]
theorem EM_t (h : EM b M) (f w x : Int) : d_thing M f w x = dno M 1 := by unfold d_thing; rw [if_pos (EM_isF h f)]
theorem EM_v (h : EM b M) (f w : Int) : d_version M f w = dno M 1 := by unfold d_version; rw [if_pos (EM_isF h f)]
theorem EM_nvc (h : EM b M) (f v : Int) : nvc M f v = 1 := by unfold nvc; rw [if_neg (EM_isF h f)]
theorem EM_k (h : EM b M) (f v : Int) : d_ticks M f v = dno M 1 := by unfold d_ticks; rw [EM_nvc h]; rfl
theorem EM_c (h : EM b M) (f v t : Int) : d_canStart M f v t = dno M 1 := by unfold d_canStart; rw [EM_nvc h]; rfl
theorem EM_i (h : EM b M) (f v t : Int) : d_firstStart M f v t = dno M 1 := by unfold d_firstStart; rw [EM_nvc h]; rfl
theorem EM_s (h : EM 1 M) (f : Int) : d_start M f = dno M 2 := by
  have e : npc M f = 2 := by unfold npc; rw [if_neg (by rw [h.2.2.1]; decide), if_pos (EM_isF h f)]
  unfold d_start; rw [e]; rfl
theorem EM_T1 (h : EM b M) : ¬ ctc M 1 = true := by
  intro q
  unfold ctc at q
  have h0 := EM_110 h 0
  have e : cta M (1 : Int).toNat 10 = false := by
    have e1 : ∀ n, cta M (1 : Int).toNat (n + 1) = false := by
      intro n
      induction n with
      | zero =>
        show (cta M 1 0 && (!(Nat.testBit 1 0) || decide (M 110 0 ≠ 0))) = false
        rw [h0]; rfl
      | succ n ih => rw [cta, ih]; rfl
    exact e1 9
  rw [e, Bool.and_false] at q
  exact absurd q (by decide)
theorem EM_T2 : ¬ ctc M (-1) = true := by
  intro q
  unfold ctc at q
  rw [show decide ((0 : Int) ≤ -1 ∧ (-1 : Int) ≤ 1023) = false by decide, Bool.false_and] at q
  exact absurd q (by decide)
theorem EM_P (h : EM b M) (u : Int) : d_speak M u = dno M 1 := by unfold d_speak; rw [if_pos h.1.2.2.2]
theorem EM_a (h : EM b M) (w : Int) : d_call M w = dno M 1 := by unfold d_call; rw [if_pos h.1.2.2.2]
theorem EM_Q (h : EM b M) (f : Int) : d_cue M f = dno M 1 := by unfold d_cue; rw [if_pos h.1.2.2.2]
theorem EM_K (h : EM b M) (m : Int) : d_tick M m = dno M 1 := by unfold d_tick; rw [if_pos h.1.2.2.2]
theorem EM_b (h : EM b M) (f : Int) : d_told M f = (am_u M 100 0 1, 32) := by unfold d_told; rw [if_pos h.1.2.2.2]
theorem EM_m (h : EM b M) (f l m : Int) : d_mark M f l m = dno M 1 := by unfold d_mark; rw [if_pos (EM_isF h f)]
theorem EM_r (h : EM b M) (f : Int) : d_review M f = dno M 1 := by unfold d_review; rw [if_pos (EM_isF h f)]
/-- a refused question -/
theorem EM_no (h : EM b M) {c : Int} {r : (Nat → Nat → Int) × Int} (hr : r = dno M c) : EM b r.1 := by rw [hr]; exact EM_0 h c
end
