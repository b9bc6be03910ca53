/-! p40, THE LAW: a new object -/
/-- what a new object stands for -/
def NW : Nat → Nat → Int := fun r i => if r = 100 then (if i = 1 then 600 else if i = 2 then 4 else if i = 3 then 3 else if i = 50 then -1 else 0) else 0
theorem NEW_NW : NEW NW := by
  refine ⟨⟨rfl, rfl, rfl, rfl, rfl, rfl, rfl, rfl, rfl, rfl, rfl, rfl⟩, fun r j q1 q2 => ?_, fun j => rfl, fun j => rfl, fun j => rfl⟩
  unfold NW; rw [if_neg (by omega)]
theorem c_new {I : am_I} {P : am_P} {G : am_G} (hI : ∀ j, I 10 j = iI 0) : am_Ev 67 0 [some (.ref 10)] [] 11 I P G 60 20000 6 (fun o B' I' P' G' => o = .inl none ∧ B' = 44 ∧ LSt 10000 NW I' P' 161 ∧ ∀ r, 4096 ≤ r → ∀ j, I' r j = I r j) :=
  c67 rfl hI (by omega) (by omega) (by omega) (fun I' P' G' h1 h2 => ⟨rfl, rfl, ⟨iv_new NEW_NW, _, _, RC_w (h2 NW NEW_NW 161 (by omega)) (by omega)⟩, fun r hr j => (h1 r j (by omega)).1⟩)
/-- a part of the law says yes -/
def am_yes : am_Q := fun o _ _ _ _ => o = .inl (some (.int (iI 1)))
