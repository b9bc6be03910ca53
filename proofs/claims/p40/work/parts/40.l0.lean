/-! p40, THE LAW: its own rows beside the class's heap; what a question asks -/
theorem FR_X {M : Nat → Nat → Int} {sh : Nat → Nat → Nat} {e f al na fa : Nat} {I I' : am_I} {P P' : am_P} {B B' : Nat} (h : FR M sh e f al na fa I P B) (he : e < 5) (hI : ∀ a j, ¬ (4096 ≤ a ∧ 3900 ≤ a % 4096) → I' a j = I a j ∧ P' a j = P a j) (hB : B ≤ B') (hf : ¬ (4096 ≤ f ∧ 3900 ≤ f % 4096)) (hal : ¬ (4096 ≤ al ∧ 3900 ≤ al % 4096)) (hna : ¬ (4096 ≤ na ∧ 3900 ≤ na % 4096)) (hfa : ¬ (4096 ≤ fa ∧ 3900 ≤ fa % 4096)) : FR M sh e f al na fa I' P' B' := by
  refine FR_cg2 h hB (by rw [(hI f 0 hf).1]; exact h.1) rfl (fun _ _ _ _ => rfl) (fun j => (hI f j hf).2) (fun a ha j => hI a j ?_)
  rcases ha with rfl | rfl | rfl | ⟨rfl, r⟩ | ⟨k, r1, rfl⟩ | ⟨j', r1, r2, r3⟩
  · exact hal
  · exact hna
  · exact hfa
  · have u := h.2.2.1.2.resolve_left r; omega
  · have u := (h.2.2.2.1 k r1).2; omega
  · have u := (h.2.2.2.2.2.2 j' r1 r2).2.1
    unfold FL at u
    rcases r3 with rfl | rfl <;> omega
theorem RC_X {K : Int} {M : Nat → Nat → Int} {sh : Nat → Nat → Nat} {se : Nat → Nat → Nat → Nat} {I I' : am_I} {P P' : am_P} {B B' : Nat} (h : RC K M sh se I P B) (hI : ∀ a j, ¬ (4096 ≤ a ∧ 3900 ≤ a % 4096) → I' a j = I a j ∧ P' a j = P a j) (hB : B ≤ B') : RC K M sh se I' P' B' := by
  have eP : ∀ a, a < 4096 → P' a = P a := fun a ha => funext (fun j => (hI a j (by omega)).2)
  have eI : ∀ a, a < 4096 → I' a = I a := fun a ha => funext (fun j => (hI a j (by omega)).1)
  refine ⟨?_, Nat.le_trans (rc_b h) hB, FR_X (rc_f h) (by omega) hI hB (by omega) (by omega) (by omega) (by omega), ?_, ?_, ?_, ?_, ?_⟩
  · have hp := rc_p h
    unfold CP at hp ⊢
    rw [eP 10 (by omega), eP 35 (by omega), eP 39 (by omega), eP 42 (by omega), eP 16 (by omega), eP 22 (by omega)]
    exact hp
  · exact VO_cg (rc_v h) ⟨rfl, rfl⟩ ⟨by rw [eI 10 (by omega)], by rw [eI 10 (by omega)]⟩
  · obtain ⟨h1, h2⟩ := rc_e h
    refine ⟨by rw [eI 10 (by omega)]; exact h1, fun e he => ⟨fun q => ?_, fun q => by rw [eP 15 (by omega)]; exact (h2 e he).2 q⟩⟩
    obtain ⟨q1, ⟨⟨f1, f2, f3⟩, ⟨g1, g2, g3⟩, ⟨n1, n2, n3⟩, a1, a2, a3⟩, q3, q4⟩ := (h2 e he).1 q
    exact ⟨by rw [eP 15 (by omega)]; exact q1, ⟨⟨f1, f2, by omega⟩, ⟨g1, g2, by omega⟩, ⟨n1, n2, by omega⟩, a1, a2, by omega⟩, q3, FR_X q4 (by omega) hI hB (by omega) (by omega) (by omega) (by omega)⟩
  · exact RP_cg (rc_pl h) FA_rfl rfl (fun a _ _ j => by rw [eI a (by omega)])
  · exact RS_cg (rc_s h) (Int.le_refl _) ⟨rfl, rfl, rfl, rfl, rfl⟩ (fun _ => rfl) (fun _ => rfl) (fun a _ _ j => by rw [eI a (by omega)])
  · exact RM_cg (rc_m h) (fun _ => rfl) (fun j => by rw [eI 43 (by omega)])
/-- the class's object stands for M -/
def LSt (K : Int) (M : Nat → Nat → Int) (I : am_I) (P : am_P) (B : Nat) : Prop := INV K M ∧ ∃ sh se, RC K M sh se I P B
theorem LSt_X {K : Int} {M : Nat → Nat → Int} {I I' : am_I} {P P' : am_P} {B B' : Nat} (h : LSt K M I P B) (hI : ∀ a j, ¬ (4096 ≤ a ∧ 3900 ≤ a % 4096) → I' a j = I a j ∧ P' a j = P a j) (hB : B ≤ B') : LSt K M I' P' B' := by
  obtain ⟨h1, sh, se, h2⟩ := h
  exact ⟨h1, sh, se, RC_X h2 hI hB⟩
/-- a row of n numbers of the law's own, a question's -/
def AR (B a n : Nat) : Prop := B ≤ a ∧ 4096 ≤ a ∧ a % 4096 = 3900 + n ∧ n < 10 ∧ am_TY a = (10, n)
theorem am_tl_law {q n : Nat} (hn : n < 10) : am_tl q (3900 + n) = (10, n) := by
  unfold am_tl
  rw [if_neg (by omega), if_neg (by omega), if_neg (by omega), if_neg (by omega), if_neg (by omega), if_neg (by omega), if_neg (by omega), if_neg (by omega), if_neg (by omega), if_neg (by omega), if_neg (by omega), if_neg (by omega), if_pos (by omega), Nat.add_sub_cancel_left]
theorem AR_ex (B : Nat) {n : Nat} (hn : n < 10) : ∃ a, AR B a n := by
  refine ⟨4096 * (B / 4096 + 1) + (3900 + n), by omega, by omega, by omega, hn, ?_⟩
  unfold am_TY
  rw [if_neg (by omega), show (4096 * (B / 4096 + 1) + (3900 + n)) % 4096 = 3900 + n by omega]
  exact am_tl_law hn
/-- nothing but row a has changed -/
def ro (a : Nat) (I I' : am_I) (P P' : am_P) : Prop := ∀ b j, b ≠ a → I' b j = I b j ∧ P' b j = P b j
theorem ro_c {a : Nat} {I : am_I} {P : am_P} {x : Int32} : ro a I (am_c I a x) P (am_c P a none) := fun b j hb => ⟨am_c_na _ _ _ hb, am_c_na _ _ _ hb⟩
theorem ro_u {a i : Nat} {x : Int32} {I I' : am_I} {P P' : am_P} (h : ro a I I' P P') : ro a I (am_u I' a i x) P P' := fun b j hb => ⟨(by rw [am_u_na _ _ _ _ (by omega)]; exact (h b j hb).1), (h b j hb).2⟩
theorem LSt_r {K : Int} {M : Nat → Nat → Int} {I I1 : am_I} {P P1 : am_P} {B a n : Nat} (h : LSt K M I P B) (hA : AR B a n) (hr : ro a I I1 P P1) : LSt K M I1 P1 (a + 1) := LSt_X h (fun b j hb => hr b j (fun e => hb (by obtain ⟨q1, q2, q3, q4, q5⟩ := hA; omega))) (by have := hA.1; omega)
/-- what a thrown exception's number is -/
def zx (x : Nat) : Int := if x = 0 then -2000000002 else if x = 1 then -2000000003 else if x = 2 then -2000000004 else if x = 3 then -2000000005 else -2000000001
/-- a question's answer -/
def qz (e1 e2 e3 : Nat) (r : (Nat → Nat → Int) × Int) : Int := if r.1 100 0 = 0 then r.2 else if r.1 100 0 = 1 then zx e1 else if r.1 100 0 = 2 then zx e2 else zx e3
theorem qz_l {e1 e2 e3 : Nat} {r : (Nat → Nat → Int) × Int} {w : Option Value} (h : (.inl w : am_O) = oc e1 e2 e3 r) : w = some (.int (iI r.2)) ∧ qz e1 e2 e3 r = r.2 := by
  unfold oc at h
  unfold qz
  split at h
  · next q => cases h; exact ⟨rfl, by rw [if_pos q]⟩
  · split at h
    · cases h
    · split at h <;> cases h
theorem qz_r {e1 e2 e3 : Nat} {r : (Nat → Nat → Int) × Int} {x : Nat} (h : (.inr x : am_O) = oc e1 e2 e3 r) : qz e1 e2 e3 r = zx x ∧ (x = e1 ∨ x = e2 ∨ x = e3) := by
  unfold oc at h
  unfold qz
  split at h
  · cases h
  · next q0 =>
    split at h
    · next q1 => cases h; exact ⟨by rw [if_neg q0, if_pos q1], Or.inl rfl⟩
    · next q1 =>
      split at h
      · next q2 => cases h; exact ⟨by rw [if_neg q0, if_neg q1, if_pos q2], Or.inr (Or.inl rfl)⟩
      · next q2 => cases h; exact ⟨by rw [if_neg q0, if_neg q1, if_neg q2], Or.inr (Or.inr rfl)⟩
/-- a question's end: the answer, the object's new state, the law's rows as they were -/
def aqo (K : Int) (M' : Nat → Nat → Int) (o : am_O) (I : am_I) (B : Nat) : am_Q := fun o' B' I' P' G' => o' = o ∧ LSt (K + 1000) M' I' P' B' ∧ ∀ r, (4096 ≤ r ∧ 3900 ≤ r % 4096 ∧ (r < B ∨ r % 4096 = 4000)) → ∀ j, I' r j = I r j
def aq (K : Int) (M' : Nat → Nat → Int) (z : Int) (I : am_I) (B : Nat) : am_Q := aqo K M' (.inl (some (.int (iI z)))) I B
theorem aq_m {K K' : Int} {M' : Nat → Nat → Int} {I I1 I' : am_I} {P P1 P' : am_P} {G1 G' : am_G} {B B' a n : Nat} {sh' : Nat → Nat → Nat} {se' : Nat → Nat → Nat → Nat} (hA : AR B a n) (hr : ro a I I1 P P1) (hiv : INV (K + 1000) M') (hrc : RC K' M' sh' se' I' P' B') (hK : K' ≤ K + 1000) (hfx : Fx I1 P1 G1 I' P' G') : LSt (K + 1000) M' I' P' B' ∧ ∀ r, (4096 ≤ r ∧ 3900 ≤ r % 4096 ∧ (r < B ∨ r % 4096 = 4000)) → ∀ j, I' r j = I r j :=
  ⟨⟨hiv, sh', se', RC_w hrc hK⟩, fun r hq j => by
    obtain ⟨q1, q2, q3, q4, q5⟩ := hA
    rw [(hfx r (Or.inr hq.2.1) j).1, (hr r j (by omega)).1]⟩
section
variable {m pc len r1 r2 : Nat} {L : List (Option Value)} {st : List Value} {B : Nat} {I : am_I} {P : am_P} {G : am_G} {k s d : Nat} {Q : am_Q}
/-- a switch at a known number -/
theorem sw_at {df lo hi : Int} {offs : Array Int} (hc : am_cod m pc = some (.tableswitch df lo hi offs, len, r1, r2)) {x : Int32} (j0 : Nat) {off : Int} {t : Nat} (hx : x.toInt = lo + j0) (hj : offs[j0]? = some off) (ht : am_tgt pc off = t) (hh : lo + j0 ≤ hi) (h : am_Ev m t L st B I P G k s d Q) : am_Ev m pc L (.int x :: st) B I P G k s d Q := by
  refine (am_step hc).mpr ⟨x, st, rfl, fun q => absurd q (by omega), fun j off' hj' hx' => ?_⟩
  have e : j = j0 := by omega
  subst e
  rw [hj] at hj'
  cases hj'
  rw [ht]
  exact h
theorem sw_df {df lo hi : Int} {offs : Array Int} (hc : am_cod m pc = some (.tableswitch df lo hi offs, len, r1, r2)) {x : Int32} {t : Nat} (hx : x.toInt < lo ∨ hi < x.toInt) (ht : am_tgt pc df = t) (hh : (offs.size : Int) = hi - lo + 1) (h : am_Ev m t L st B I P G k s d Q) : am_Ev m pc L (.int x :: st) B I P G k s d Q := by
  refine (am_step hc).mpr ⟨x, st, rfl, fun _ => by rw [ht]; exact h, fun j off' hj' hx' => ?_⟩
  exfalso
  have hlt := (Array.getElem?_eq_some_iff.mp hj').1
  omega
end
