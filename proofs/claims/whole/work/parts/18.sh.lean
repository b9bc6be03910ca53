/-! SOUNDNESS: methods with a table (the law's helpers) -/
def am_hp (m x : Nat) (w : Nat × Nat × Nat × Nat) : Prop := ∃ y, y < 5 ∧ y ≠ x ∧ w.2.2.2 ≠ 0 ∧ Jvm.Cond.classLink (am_y m).cls w.2.2.2 (am_exn y) ∈ lw_tbl
/-- what is done where the call at pc throws x -/
def am_hok (m pc x : Nat) : Prop := am_rt m = some .int ∧ match am_hd m pc x with
  | none => ∀ w ∈ am_hh m, am_hp m x w
  | some c => ∃ (pre : List (Nat × Nat × Nat × Nat)) (z : Nat × Nat × Nat × Nat) (suf : List (Nat × Nat × Nat × Nat)) (n : Int), am_hh m = pre ++ z :: suf ∧ (∀ w ∈ pre, am_hp m x w) ∧ z.1 ≤ pc ∧ pc < z.2.1 ∧ z.2.2.2 ≠ 0 ∧ Jvm.Cond.classLink (am_y m).cls z.2.2.2 (am_exn x) ∈ lw_tbl ∧ Jvm.Cond.castable (am_exn x) (am_exn x) ∈ lw_tbl ∧ Int32.ofInt n = c ∧
      ((∃ k : Fin 4, decode (am_by m) z.2.2.1 = .ok (.astore_n k, 1) ∧ (k : Nat) < am_nL m ∧ decode (am_by m) (z.2.2.1 + 1) = .ok (.iconst n, 1) ∧ decode (am_by m) (z.2.2.1 + 1 + 1) = .ok (.ireturn, 1)) ∨
       (∃ k : Nat, decode (am_by m) z.2.2.1 = .ok (.astore k, 2) ∧ k < am_nL m ∧ decode (am_by m) (z.2.2.1 + 2) = .ok (.iconst n, 1) ∧ decode (am_by m) (z.2.2.1 + 2 + 1) = .ok (.ireturn, 1)))
theorem am_hp_of {m x i ct : Nat} {w : Nat × Nat × Nat × Nat} (y : Nat) (hy : y < 5) (hyx : y ≠ x) (hw : w.2.2.2 = ct) (hc : ct ≠ 0) (h : am_wx i (.classLink (am_y m).cls ct (am_exn y)) = true) : am_hp m x w := ⟨y, hy, hyx, by rw [hw]; exact hc, by rw [hw]; exact am_has h⟩
theorem am_hh197 : am_hh 197 = [(0, 9, 12, 13), (0, 9, 15, 15)] := by decide +kernel
theorem am_h197_0 : am_hok 197 4 0 := by
  unfold am_hok
  rw [show am_hd 197 4 0 = some 1 by decide +kernel]
  exact ⟨by decide +kernel, [], (0, 9, 12, 13), [(0, 9, 15, 15)], 1, am_hh197, (fun _ h => nomatch h), by decide, by decide, by decide, am_has (ix := 488) (by decide +kernel), am_has (ix := 496) (by decide +kernel), by decide +kernel, Or.inl ⟨3, by decide +kernel, by decide +kernel, by decide +kernel, by decide +kernel⟩⟩
theorem am_h197_1 : am_hok 197 4 1 := by
  unfold am_hok
  rw [show am_hd 197 4 1 = none by decide +kernel, am_hh197]
  exact ⟨by decide +kernel, List.forall_mem_cons.mpr ⟨am_hp_of (i := 488) 0 (by decide) (by decide) (rfl : _ = 13) (by decide) (by decide +kernel), List.forall_mem_cons.mpr ⟨am_hp_of (i := 489) 2 (by decide) (by decide) (rfl : _ = 15) (by decide) (by decide +kernel), fun _ h => nomatch h⟩⟩⟩
theorem am_h197_2 : am_hok 197 4 2 := by
  unfold am_hok
  rw [show am_hd 197 4 2 = some 2 by decide +kernel]
  exact ⟨by decide +kernel, [(0, 9, 12, 13)], (0, 9, 15, 15), [], 2, am_hh197, List.forall_mem_cons.mpr ⟨am_hp_of (i := 488) 0 (by decide) (by decide) (rfl : _ = 13) (by decide) (by decide +kernel), fun _ h => nomatch h⟩, by decide, by decide, by decide, am_has (ix := 489) (by decide +kernel), am_has (ix := 570) (by decide +kernel), by decide +kernel, Or.inl ⟨3, by decide +kernel, by decide +kernel, by decide +kernel, by decide +kernel⟩⟩
theorem am_h197_3 : am_hok 197 4 3 := by
  unfold am_hok
  rw [show am_hd 197 4 3 = none by decide +kernel, am_hh197]
  exact ⟨by decide +kernel, List.forall_mem_cons.mpr ⟨am_hp_of (i := 488) 0 (by decide) (by decide) (rfl : _ = 13) (by decide) (by decide +kernel), List.forall_mem_cons.mpr ⟨am_hp_of (i := 489) 2 (by decide) (by decide) (rfl : _ = 15) (by decide) (by decide +kernel), fun _ h => nomatch h⟩⟩⟩
theorem am_h197_4 : am_hok 197 4 4 := by
  unfold am_hok
  rw [show am_hd 197 4 4 = none by decide +kernel, am_hh197]
  exact ⟨by decide +kernel, List.forall_mem_cons.mpr ⟨am_hp_of (i := 488) 0 (by decide) (by decide) (rfl : _ = 13) (by decide) (by decide +kernel), List.forall_mem_cons.mpr ⟨am_hp_of (i := 489) 2 (by decide) (by decide) (rfl : _ = 15) (by decide) (by decide +kernel), fun _ h => nomatch h⟩⟩⟩
theorem am_hx197 : ∀ x, x < 5 → am_hok 197 4 x := fun x hx => match x, hx with
  | 0, _ => am_h197_0
  | 1, _ => am_h197_1
  | 2, _ => am_h197_2
  | 3, _ => am_h197_3
  | 4, _ => am_h197_4
theorem am_hh198 : am_hh 198 = [(0, 12, 15, 13), (0, 12, 19, 21)] := by decide +kernel
theorem am_h198_0 : am_hok 198 7 0 := by
  unfold am_hok
  rw [show am_hd 198 7 0 = some 1 by decide +kernel]
  exact ⟨by decide +kernel, [], (0, 12, 15, 13), [(0, 12, 19, 21)], 1, am_hh198, (fun _ h => nomatch h), by decide, by decide, by decide, am_has (ix := 488) (by decide +kernel), am_has (ix := 496) (by decide +kernel), by decide +kernel, Or.inr ⟨5, by decide +kernel, by decide +kernel, by decide +kernel, by decide +kernel⟩⟩
theorem am_h198_1 : am_hok 198 7 1 := by
  unfold am_hok
  rw [show am_hd 198 7 1 = some 2 by decide +kernel]
  exact ⟨by decide +kernel, [(0, 12, 15, 13)], (0, 12, 19, 21), [], 2, am_hh198, List.forall_mem_cons.mpr ⟨am_hp_of (i := 488) 0 (by decide) (by decide) (rfl : _ = 13) (by decide) (by decide +kernel), fun _ h => nomatch h⟩, by decide, by decide, by decide, am_has (ix := 591) (by decide +kernel), am_has (ix := 600) (by decide +kernel), by decide +kernel, Or.inr ⟨5, by decide +kernel, by decide +kernel, by decide +kernel, by decide +kernel⟩⟩
theorem am_h198_2 : am_hok 198 7 2 := by
  unfold am_hok
  rw [show am_hd 198 7 2 = none by decide +kernel, am_hh198]
  exact ⟨by decide +kernel, List.forall_mem_cons.mpr ⟨am_hp_of (i := 488) 0 (by decide) (by decide) (rfl : _ = 13) (by decide) (by decide +kernel), List.forall_mem_cons.mpr ⟨am_hp_of (i := 591) 1 (by decide) (by decide) (rfl : _ = 21) (by decide) (by decide +kernel), fun _ h => nomatch h⟩⟩⟩
theorem am_h198_3 : am_hok 198 7 3 := by
  unfold am_hok
  rw [show am_hd 198 7 3 = none by decide +kernel, am_hh198]
  exact ⟨by decide +kernel, List.forall_mem_cons.mpr ⟨am_hp_of (i := 488) 0 (by decide) (by decide) (rfl : _ = 13) (by decide) (by decide +kernel), List.forall_mem_cons.mpr ⟨am_hp_of (i := 591) 1 (by decide) (by decide) (rfl : _ = 21) (by decide) (by decide +kernel), fun _ h => nomatch h⟩⟩⟩
theorem am_h198_4 : am_hok 198 7 4 := by
  unfold am_hok
  rw [show am_hd 198 7 4 = none by decide +kernel, am_hh198]
  exact ⟨by decide +kernel, List.forall_mem_cons.mpr ⟨am_hp_of (i := 488) 0 (by decide) (by decide) (rfl : _ = 13) (by decide) (by decide +kernel), List.forall_mem_cons.mpr ⟨am_hp_of (i := 591) 1 (by decide) (by decide) (rfl : _ = 21) (by decide) (by decide +kernel), fun _ h => nomatch h⟩⟩⟩
theorem am_hx198 : ∀ x, x < 5 → am_hok 198 7 x := fun x hx => match x, hx with
  | 0, _ => am_h198_0
  | 1, _ => am_h198_1
  | 2, _ => am_h198_2
  | 3, _ => am_h198_3
  | 4, _ => am_h198_4
theorem am_hh199 : am_hh 199 = [(0, 8, 11, 27)] := by decide +kernel
theorem am_h199_0 : am_hok 199 3 0 := by
  unfold am_hok
  rw [show am_hd 199 3 0 = none by decide +kernel, am_hh199]
  exact ⟨by decide +kernel, List.forall_mem_cons.mpr ⟨am_hp_of (i := 695) 3 (by decide) (by decide) (rfl : _ = 27) (by decide) (by decide +kernel), fun _ h => nomatch h⟩⟩
theorem am_h199_1 : am_hok 199 3 1 := by
  unfold am_hok
  rw [show am_hd 199 3 1 = none by decide +kernel, am_hh199]
  exact ⟨by decide +kernel, List.forall_mem_cons.mpr ⟨am_hp_of (i := 695) 3 (by decide) (by decide) (rfl : _ = 27) (by decide) (by decide +kernel), fun _ h => nomatch h⟩⟩
theorem am_h199_2 : am_hok 199 3 2 := by
  unfold am_hok
  rw [show am_hd 199 3 2 = none by decide +kernel, am_hh199]
  exact ⟨by decide +kernel, List.forall_mem_cons.mpr ⟨am_hp_of (i := 695) 3 (by decide) (by decide) (rfl : _ = 27) (by decide) (by decide +kernel), fun _ h => nomatch h⟩⟩
theorem am_h199_3 : am_hok 199 3 3 := by
  unfold am_hok
  rw [show am_hd 199 3 3 = some 1 by decide +kernel]
  exact ⟨by decide +kernel, [], (0, 8, 11, 27), [], 1, am_hh199, (fun _ h => nomatch h), by decide, by decide, by decide, am_has (ix := 695) (by decide +kernel), am_has (ix := 706) (by decide +kernel), by decide +kernel, Or.inl ⟨2, by decide +kernel, by decide +kernel, by decide +kernel, by decide +kernel⟩⟩
theorem am_h199_4 : am_hok 199 3 4 := by
  unfold am_hok
  rw [show am_hd 199 3 4 = none by decide +kernel, am_hh199]
  exact ⟨by decide +kernel, List.forall_mem_cons.mpr ⟨am_hp_of (i := 695) 3 (by decide) (by decide) (rfl : _ = 27) (by decide) (by decide +kernel), fun _ h => nomatch h⟩⟩
theorem am_hx199 : ∀ x, x < 5 → am_hok 199 3 x := fun x hx => match x, hx with
  | 0, _ => am_h199_0
  | 1, _ => am_h199_1
  | 2, _ => am_h199_2
  | 3, _ => am_h199_3
  | 4, _ => am_h199_4
theorem am_hh200 : am_hh 200 = [(0, 12, 15, 27)] := by decide +kernel
theorem am_h200_0 : am_hok 200 7 0 := by
  unfold am_hok
  rw [show am_hd 200 7 0 = none by decide +kernel, am_hh200]
  exact ⟨by decide +kernel, List.forall_mem_cons.mpr ⟨am_hp_of (i := 695) 3 (by decide) (by decide) (rfl : _ = 27) (by decide) (by decide +kernel), fun _ h => nomatch h⟩⟩
theorem am_h200_1 : am_hok 200 7 1 := by
  unfold am_hok
  rw [show am_hd 200 7 1 = none by decide +kernel, am_hh200]
  exact ⟨by decide +kernel, List.forall_mem_cons.mpr ⟨am_hp_of (i := 695) 3 (by decide) (by decide) (rfl : _ = 27) (by decide) (by decide +kernel), fun _ h => nomatch h⟩⟩
theorem am_h200_2 : am_hok 200 7 2 := by
  unfold am_hok
  rw [show am_hd 200 7 2 = none by decide +kernel, am_hh200]
  exact ⟨by decide +kernel, List.forall_mem_cons.mpr ⟨am_hp_of (i := 695) 3 (by decide) (by decide) (rfl : _ = 27) (by decide) (by decide +kernel), fun _ h => nomatch h⟩⟩
theorem am_h200_3 : am_hok 200 7 3 := by
  unfold am_hok
  rw [show am_hd 200 7 3 = some 1 by decide +kernel]
  exact ⟨by decide +kernel, [], (0, 12, 15, 27), [], 1, am_hh200, (fun _ h => nomatch h), by decide, by decide, by decide, am_has (ix := 695) (by decide +kernel), am_has (ix := 706) (by decide +kernel), by decide +kernel, Or.inr ⟨5, by decide +kernel, by decide +kernel, by decide +kernel, by decide +kernel⟩⟩
theorem am_h200_4 : am_hok 200 7 4 := by
  unfold am_hok
  rw [show am_hd 200 7 4 = none by decide +kernel, am_hh200]
  exact ⟨by decide +kernel, List.forall_mem_cons.mpr ⟨am_hp_of (i := 695) 3 (by decide) (by decide) (rfl : _ = 27) (by decide) (by decide +kernel), fun _ h => nomatch h⟩⟩
theorem am_hx200 : ∀ x, x < 5 → am_hok 200 7 x := fun x hx => match x, hx with
  | 0, _ => am_h200_0
  | 1, _ => am_h200_1
  | 2, _ => am_h200_2
  | 3, _ => am_h200_3
  | 4, _ => am_h200_4
theorem am_hh201 : am_hh 201 = [(0, 10, 13, 13)] := by decide +kernel
theorem am_h201_0 : am_hok 201 5 0 := by
  unfold am_hok
  rw [show am_hd 201 5 0 = some 1 by decide +kernel]
  exact ⟨by decide +kernel, [], (0, 10, 13, 13), [], 1, am_hh201, (fun _ h => nomatch h), by decide, by decide, by decide, am_has (ix := 488) (by decide +kernel), am_has (ix := 496) (by decide +kernel), by decide +kernel, Or.inr ⟨4, by decide +kernel, by decide +kernel, by decide +kernel, by decide +kernel⟩⟩
theorem am_h201_1 : am_hok 201 5 1 := by
  unfold am_hok
  rw [show am_hd 201 5 1 = none by decide +kernel, am_hh201]
  exact ⟨by decide +kernel, List.forall_mem_cons.mpr ⟨am_hp_of (i := 488) 0 (by decide) (by decide) (rfl : _ = 13) (by decide) (by decide +kernel), fun _ h => nomatch h⟩⟩
theorem am_h201_2 : am_hok 201 5 2 := by
  unfold am_hok
  rw [show am_hd 201 5 2 = none by decide +kernel, am_hh201]
  exact ⟨by decide +kernel, List.forall_mem_cons.mpr ⟨am_hp_of (i := 488) 0 (by decide) (by decide) (rfl : _ = 13) (by decide) (by decide +kernel), fun _ h => nomatch h⟩⟩
theorem am_h201_3 : am_hok 201 5 3 := by
  unfold am_hok
  rw [show am_hd 201 5 3 = none by decide +kernel, am_hh201]
  exact ⟨by decide +kernel, List.forall_mem_cons.mpr ⟨am_hp_of (i := 488) 0 (by decide) (by decide) (rfl : _ = 13) (by decide) (by decide +kernel), fun _ h => nomatch h⟩⟩
theorem am_h201_4 : am_hok 201 5 4 := by
  unfold am_hok
  rw [show am_hd 201 5 4 = none by decide +kernel, am_hh201]
  exact ⟨by decide +kernel, List.forall_mem_cons.mpr ⟨am_hp_of (i := 488) 0 (by decide) (by decide) (rfl : _ = 13) (by decide) (by decide +kernel), fun _ h => nomatch h⟩⟩
theorem am_hx201 : ∀ x, x < 5 → am_hok 201 5 x := fun x hx => match x, hx with
  | 0, _ => am_h201_0
  | 1, _ => am_h201_1
  | 2, _ => am_h201_2
  | 3, _ => am_h201_3
  | 4, _ => am_h201_4
theorem am_hh202 : am_hh 202 = [(0, 10, 13, 13)] := by decide +kernel
theorem am_h202_0 : am_hok 202 5 0 := by
  unfold am_hok
  rw [show am_hd 202 5 0 = some 1 by decide +kernel]
  exact ⟨by decide +kernel, [], (0, 10, 13, 13), [], 1, am_hh202, (fun _ h => nomatch h), by decide, by decide, by decide, am_has (ix := 488) (by decide +kernel), am_has (ix := 496) (by decide +kernel), by decide +kernel, Or.inr ⟨4, by decide +kernel, by decide +kernel, by decide +kernel, by decide +kernel⟩⟩
theorem am_h202_1 : am_hok 202 5 1 := by
  unfold am_hok
  rw [show am_hd 202 5 1 = none by decide +kernel, am_hh202]
  exact ⟨by decide +kernel, List.forall_mem_cons.mpr ⟨am_hp_of (i := 488) 0 (by decide) (by decide) (rfl : _ = 13) (by decide) (by decide +kernel), fun _ h => nomatch h⟩⟩
theorem am_h202_2 : am_hok 202 5 2 := by
  unfold am_hok
  rw [show am_hd 202 5 2 = none by decide +kernel, am_hh202]
  exact ⟨by decide +kernel, List.forall_mem_cons.mpr ⟨am_hp_of (i := 488) 0 (by decide) (by decide) (rfl : _ = 13) (by decide) (by decide +kernel), fun _ h => nomatch h⟩⟩
theorem am_h202_3 : am_hok 202 5 3 := by
  unfold am_hok
  rw [show am_hd 202 5 3 = none by decide +kernel, am_hh202]
  exact ⟨by decide +kernel, List.forall_mem_cons.mpr ⟨am_hp_of (i := 488) 0 (by decide) (by decide) (rfl : _ = 13) (by decide) (by decide +kernel), fun _ h => nomatch h⟩⟩
theorem am_h202_4 : am_hok 202 5 4 := by
  unfold am_hok
  rw [show am_hd 202 5 4 = none by decide +kernel, am_hh202]
  exact ⟨by decide +kernel, List.forall_mem_cons.mpr ⟨am_hp_of (i := 488) 0 (by decide) (by decide) (rfl : _ = 13) (by decide) (by decide +kernel), fun _ h => nomatch h⟩⟩
theorem am_hx202 : ∀ x, x < 5 → am_hok 202 5 x := fun x hx => match x, hx with
  | 0, _ => am_h202_0
  | 1, _ => am_h202_1
  | 2, _ => am_h202_2
  | 3, _ => am_h202_3
  | 4, _ => am_h202_4
theorem am_hh203 : am_hh 203 = [(0, 16, 19, 13), (0, 16, 23, 21)] := by decide +kernel
theorem am_h203_0 : am_hok 203 11 0 := by
  unfold am_hok
  rw [show am_hd 203 11 0 = some 1 by decide +kernel]
  exact ⟨by decide +kernel, [], (0, 16, 19, 13), [(0, 16, 23, 21)], 1, am_hh203, (fun _ h => nomatch h), by decide, by decide, by decide, am_has (ix := 488) (by decide +kernel), am_has (ix := 496) (by decide +kernel), by decide +kernel, Or.inr ⟨7, by decide +kernel, by decide +kernel, by decide +kernel, by decide +kernel⟩⟩
theorem am_h203_1 : am_hok 203 11 1 := by
  unfold am_hok
  rw [show am_hd 203 11 1 = some 2 by decide +kernel]
  exact ⟨by decide +kernel, [(0, 16, 19, 13)], (0, 16, 23, 21), [], 2, am_hh203, List.forall_mem_cons.mpr ⟨am_hp_of (i := 488) 0 (by decide) (by decide) (rfl : _ = 13) (by decide) (by decide +kernel), fun _ h => nomatch h⟩, by decide, by decide, by decide, am_has (ix := 591) (by decide +kernel), am_has (ix := 600) (by decide +kernel), by decide +kernel, Or.inr ⟨7, by decide +kernel, by decide +kernel, by decide +kernel, by decide +kernel⟩⟩
theorem am_h203_2 : am_hok 203 11 2 := by
  unfold am_hok
  rw [show am_hd 203 11 2 = none by decide +kernel, am_hh203]
  exact ⟨by decide +kernel, List.forall_mem_cons.mpr ⟨am_hp_of (i := 488) 0 (by decide) (by decide) (rfl : _ = 13) (by decide) (by decide +kernel), List.forall_mem_cons.mpr ⟨am_hp_of (i := 591) 1 (by decide) (by decide) (rfl : _ = 21) (by decide) (by decide +kernel), fun _ h => nomatch h⟩⟩⟩
theorem am_h203_3 : am_hok 203 11 3 := by
  unfold am_hok
  rw [show am_hd 203 11 3 = none by decide +kernel, am_hh203]
  exact ⟨by decide +kernel, List.forall_mem_cons.mpr ⟨am_hp_of (i := 488) 0 (by decide) (by decide) (rfl : _ = 13) (by decide) (by decide +kernel), List.forall_mem_cons.mpr ⟨am_hp_of (i := 591) 1 (by decide) (by decide) (rfl : _ = 21) (by decide) (by decide +kernel), fun _ h => nomatch h⟩⟩⟩
theorem am_h203_4 : am_hok 203 11 4 := by
  unfold am_hok
  rw [show am_hd 203 11 4 = none by decide +kernel, am_hh203]
  exact ⟨by decide +kernel, List.forall_mem_cons.mpr ⟨am_hp_of (i := 488) 0 (by decide) (by decide) (rfl : _ = 13) (by decide) (by decide +kernel), List.forall_mem_cons.mpr ⟨am_hp_of (i := 591) 1 (by decide) (by decide) (rfl : _ = 21) (by decide) (by decide +kernel), fun _ h => nomatch h⟩⟩⟩
theorem am_hx203 : ∀ x, x < 5 → am_hok 203 11 x := fun x hx => match x, hx with
  | 0, _ => am_h203_0
  | 1, _ => am_h203_1
  | 2, _ => am_h203_2
  | 3, _ => am_h203_3
  | 4, _ => am_h203_4
theorem am_hh204 : am_hh 204 = [(0, 9, 12, 47)] := by decide +kernel
theorem am_h204_0 : am_hok 204 4 0 := by
  unfold am_hok
  rw [show am_hd 204 4 0 = none by decide +kernel, am_hh204]
  exact ⟨by decide +kernel, List.forall_mem_cons.mpr ⟨am_hp_of (i := 825) 4 (by decide) (by decide) (rfl : _ = 47) (by decide) (by decide +kernel), fun _ h => nomatch h⟩⟩
theorem am_h204_1 : am_hok 204 4 1 := by
  unfold am_hok
  rw [show am_hd 204 4 1 = none by decide +kernel, am_hh204]
  exact ⟨by decide +kernel, List.forall_mem_cons.mpr ⟨am_hp_of (i := 825) 4 (by decide) (by decide) (rfl : _ = 47) (by decide) (by decide +kernel), fun _ h => nomatch h⟩⟩
theorem am_h204_2 : am_hok 204 4 2 := by
  unfold am_hok
  rw [show am_hd 204 4 2 = none by decide +kernel, am_hh204]
  exact ⟨by decide +kernel, List.forall_mem_cons.mpr ⟨am_hp_of (i := 825) 4 (by decide) (by decide) (rfl : _ = 47) (by decide) (by decide +kernel), fun _ h => nomatch h⟩⟩
theorem am_h204_3 : am_hok 204 4 3 := by
  unfold am_hok
  rw [show am_hd 204 4 3 = none by decide +kernel, am_hh204]
  exact ⟨by decide +kernel, List.forall_mem_cons.mpr ⟨am_hp_of (i := 825) 4 (by decide) (by decide) (rfl : _ = 47) (by decide) (by decide +kernel), fun _ h => nomatch h⟩⟩
theorem am_h204_4 : am_hok 204 4 4 := by
  unfold am_hok
  rw [show am_hd 204 4 4 = some 1 by decide +kernel]
  exact ⟨by decide +kernel, [], (0, 9, 12, 47), [], 1, am_hh204, (fun _ h => nomatch h), by decide, by decide, by decide, am_has (ix := 825) (by decide +kernel), am_has (ix := 832) (by decide +kernel), by decide +kernel, Or.inl ⟨3, by decide +kernel, by decide +kernel, by decide +kernel, by decide +kernel⟩⟩
theorem am_hx204 : ∀ x, x < 5 → am_hok 204 4 x := fun x hx => match x, hx with
  | 0, _ => am_h204_0
  | 1, _ => am_h204_1
  | 2, _ => am_h204_2
  | 3, _ => am_h204_3
  | 4, _ => am_h204_4
theorem am_hh205 : am_hh 205 = [(0, 10, 13, 47), (0, 10, 17, 13)] := by decide +kernel
theorem am_h205_0 : am_hok 205 5 0 := by
  unfold am_hok
  rw [show am_hd 205 5 0 = some 2 by decide +kernel]
  exact ⟨by decide +kernel, [(0, 10, 13, 47)], (0, 10, 17, 13), [], 2, am_hh205, List.forall_mem_cons.mpr ⟨am_hp_of (i := 825) 4 (by decide) (by decide) (rfl : _ = 47) (by decide) (by decide +kernel), fun _ h => nomatch h⟩, by decide, by decide, by decide, am_has (ix := 488) (by decide +kernel), am_has (ix := 496) (by decide +kernel), by decide +kernel, Or.inr ⟨4, by decide +kernel, by decide +kernel, by decide +kernel, by decide +kernel⟩⟩
theorem am_h205_1 : am_hok 205 5 1 := by
  unfold am_hok
  rw [show am_hd 205 5 1 = none by decide +kernel, am_hh205]
  exact ⟨by decide +kernel, List.forall_mem_cons.mpr ⟨am_hp_of (i := 825) 4 (by decide) (by decide) (rfl : _ = 47) (by decide) (by decide +kernel), List.forall_mem_cons.mpr ⟨am_hp_of (i := 488) 0 (by decide) (by decide) (rfl : _ = 13) (by decide) (by decide +kernel), fun _ h => nomatch h⟩⟩⟩
theorem am_h205_2 : am_hok 205 5 2 := by
  unfold am_hok
  rw [show am_hd 205 5 2 = none by decide +kernel, am_hh205]
  exact ⟨by decide +kernel, List.forall_mem_cons.mpr ⟨am_hp_of (i := 825) 4 (by decide) (by decide) (rfl : _ = 47) (by decide) (by decide +kernel), List.forall_mem_cons.mpr ⟨am_hp_of (i := 488) 0 (by decide) (by decide) (rfl : _ = 13) (by decide) (by decide +kernel), fun _ h => nomatch h⟩⟩⟩
theorem am_h205_3 : am_hok 205 5 3 := by
  unfold am_hok
  rw [show am_hd 205 5 3 = none by decide +kernel, am_hh205]
  exact ⟨by decide +kernel, List.forall_mem_cons.mpr ⟨am_hp_of (i := 825) 4 (by decide) (by decide) (rfl : _ = 47) (by decide) (by decide +kernel), List.forall_mem_cons.mpr ⟨am_hp_of (i := 488) 0 (by decide) (by decide) (rfl : _ = 13) (by decide) (by decide +kernel), fun _ h => nomatch h⟩⟩⟩
theorem am_h205_4 : am_hok 205 5 4 := by
  unfold am_hok
  rw [show am_hd 205 5 4 = some 1 by decide +kernel]
  exact ⟨by decide +kernel, [], (0, 10, 13, 47), [(0, 10, 17, 13)], 1, am_hh205, (fun _ h => nomatch h), by decide, by decide, by decide, am_has (ix := 825) (by decide +kernel), am_has (ix := 832) (by decide +kernel), by decide +kernel, Or.inr ⟨4, by decide +kernel, by decide +kernel, by decide +kernel, by decide +kernel⟩⟩
theorem am_hx205 : ∀ x, x < 5 → am_hok 205 5 x := fun x hx => match x, hx with
  | 0, _ => am_h205_0
  | 1, _ => am_h205_1
  | 2, _ => am_h205_2
  | 3, _ => am_h205_3
  | 4, _ => am_h205_4
theorem am_hh206 : am_hh 206 = [(0, 12, 15, 47), (0, 12, 19, 13)] := by decide +kernel
theorem am_h206_0 : am_hok 206 7 0 := by
  unfold am_hok
  rw [show am_hd 206 7 0 = some 2 by decide +kernel]
  exact ⟨by decide +kernel, [(0, 12, 15, 47)], (0, 12, 19, 13), [], 2, am_hh206, List.forall_mem_cons.mpr ⟨am_hp_of (i := 825) 4 (by decide) (by decide) (rfl : _ = 47) (by decide) (by decide +kernel), fun _ h => nomatch h⟩, by decide, by decide, by decide, am_has (ix := 488) (by decide +kernel), am_has (ix := 496) (by decide +kernel), by decide +kernel, Or.inr ⟨5, by decide +kernel, by decide +kernel, by decide +kernel, by decide +kernel⟩⟩
theorem am_h206_1 : am_hok 206 7 1 := by
  unfold am_hok
  rw [show am_hd 206 7 1 = none by decide +kernel, am_hh206]
  exact ⟨by decide +kernel, List.forall_mem_cons.mpr ⟨am_hp_of (i := 825) 4 (by decide) (by decide) (rfl : _ = 47) (by decide) (by decide +kernel), List.forall_mem_cons.mpr ⟨am_hp_of (i := 488) 0 (by decide) (by decide) (rfl : _ = 13) (by decide) (by decide +kernel), fun _ h => nomatch h⟩⟩⟩
theorem am_h206_2 : am_hok 206 7 2 := by
  unfold am_hok
  rw [show am_hd 206 7 2 = none by decide +kernel, am_hh206]
  exact ⟨by decide +kernel, List.forall_mem_cons.mpr ⟨am_hp_of (i := 825) 4 (by decide) (by decide) (rfl : _ = 47) (by decide) (by decide +kernel), List.forall_mem_cons.mpr ⟨am_hp_of (i := 488) 0 (by decide) (by decide) (rfl : _ = 13) (by decide) (by decide +kernel), fun _ h => nomatch h⟩⟩⟩
theorem am_h206_3 : am_hok 206 7 3 := by
  unfold am_hok
  rw [show am_hd 206 7 3 = none by decide +kernel, am_hh206]
  exact ⟨by decide +kernel, List.forall_mem_cons.mpr ⟨am_hp_of (i := 825) 4 (by decide) (by decide) (rfl : _ = 47) (by decide) (by decide +kernel), List.forall_mem_cons.mpr ⟨am_hp_of (i := 488) 0 (by decide) (by decide) (rfl : _ = 13) (by decide) (by decide +kernel), fun _ h => nomatch h⟩⟩⟩
theorem am_h206_4 : am_hok 206 7 4 := by
  unfold am_hok
  rw [show am_hd 206 7 4 = some 1 by decide +kernel]
  exact ⟨by decide +kernel, [], (0, 12, 15, 47), [(0, 12, 19, 13)], 1, am_hh206, (fun _ h => nomatch h), by decide, by decide, by decide, am_has (ix := 825) (by decide +kernel), am_has (ix := 832) (by decide +kernel), by decide +kernel, Or.inr ⟨5, by decide +kernel, by decide +kernel, by decide +kernel, by decide +kernel⟩⟩
theorem am_hx206 : ∀ x, x < 5 → am_hok 206 7 x := fun x hx => match x, hx with
  | 0, _ => am_h206_0
  | 1, _ => am_h206_1
  | 2, _ => am_h206_2
  | 3, _ => am_h206_3
  | 4, _ => am_h206_4
theorem am_hh207 : am_hh 207 = [(0, 10, 13, 47), (0, 10, 17, 13), (0, 10, 21, 21)] := by decide +kernel
theorem am_h207_0 : am_hok 207 5 0 := by
  unfold am_hok
  rw [show am_hd 207 5 0 = some 2 by decide +kernel]
  exact ⟨by decide +kernel, [(0, 10, 13, 47)], (0, 10, 17, 13), [(0, 10, 21, 21)], 2, am_hh207, List.forall_mem_cons.mpr ⟨am_hp_of (i := 825) 4 (by decide) (by decide) (rfl : _ = 47) (by decide) (by decide +kernel), fun _ h => nomatch h⟩, by decide, by decide, by decide, am_has (ix := 488) (by decide +kernel), am_has (ix := 496) (by decide +kernel), by decide +kernel, Or.inr ⟨4, by decide +kernel, by decide +kernel, by decide +kernel, by decide +kernel⟩⟩
theorem am_h207_1 : am_hok 207 5 1 := by
  unfold am_hok
  rw [show am_hd 207 5 1 = some 3 by decide +kernel]
  exact ⟨by decide +kernel, [(0, 10, 13, 47), (0, 10, 17, 13)], (0, 10, 21, 21), [], 3, am_hh207, List.forall_mem_cons.mpr ⟨am_hp_of (i := 825) 4 (by decide) (by decide) (rfl : _ = 47) (by decide) (by decide +kernel), List.forall_mem_cons.mpr ⟨am_hp_of (i := 488) 0 (by decide) (by decide) (rfl : _ = 13) (by decide) (by decide +kernel), fun _ h => nomatch h⟩⟩, by decide, by decide, by decide, am_has (ix := 591) (by decide +kernel), am_has (ix := 600) (by decide +kernel), by decide +kernel, Or.inr ⟨4, by decide +kernel, by decide +kernel, by decide +kernel, by decide +kernel⟩⟩
theorem am_h207_2 : am_hok 207 5 2 := by
  unfold am_hok
  rw [show am_hd 207 5 2 = none by decide +kernel, am_hh207]
  exact ⟨by decide +kernel, List.forall_mem_cons.mpr ⟨am_hp_of (i := 825) 4 (by decide) (by decide) (rfl : _ = 47) (by decide) (by decide +kernel), List.forall_mem_cons.mpr ⟨am_hp_of (i := 488) 0 (by decide) (by decide) (rfl : _ = 13) (by decide) (by decide +kernel), List.forall_mem_cons.mpr ⟨am_hp_of (i := 591) 1 (by decide) (by decide) (rfl : _ = 21) (by decide) (by decide +kernel), fun _ h => nomatch h⟩⟩⟩⟩
theorem am_h207_3 : am_hok 207 5 3 := by
  unfold am_hok
  rw [show am_hd 207 5 3 = none by decide +kernel, am_hh207]
  exact ⟨by decide +kernel, List.forall_mem_cons.mpr ⟨am_hp_of (i := 825) 4 (by decide) (by decide) (rfl : _ = 47) (by decide) (by decide +kernel), List.forall_mem_cons.mpr ⟨am_hp_of (i := 488) 0 (by decide) (by decide) (rfl : _ = 13) (by decide) (by decide +kernel), List.forall_mem_cons.mpr ⟨am_hp_of (i := 591) 1 (by decide) (by decide) (rfl : _ = 21) (by decide) (by decide +kernel), fun _ h => nomatch h⟩⟩⟩⟩
theorem am_h207_4 : am_hok 207 5 4 := by
  unfold am_hok
  rw [show am_hd 207 5 4 = some 1 by decide +kernel]
  exact ⟨by decide +kernel, [], (0, 10, 13, 47), [(0, 10, 17, 13), (0, 10, 21, 21)], 1, am_hh207, (fun _ h => nomatch h), by decide, by decide, by decide, am_has (ix := 825) (by decide +kernel), am_has (ix := 832) (by decide +kernel), by decide +kernel, Or.inr ⟨4, by decide +kernel, by decide +kernel, by decide +kernel, by decide +kernel⟩⟩
theorem am_hx207 : ∀ x, x < 5 → am_hok 207 5 x := fun x hx => match x, hx with
  | 0, _ => am_h207_0
  | 1, _ => am_h207_1
  | 2, _ => am_h207_2
  | 3, _ => am_h207_3
  | 4, _ => am_h207_4
theorem am_hh208 : am_hh 208 = [(0, 10, 13, 47), (0, 10, 17, 27)] := by decide +kernel
theorem am_h208_0 : am_hok 208 5 0 := by
  unfold am_hok
  rw [show am_hd 208 5 0 = none by decide +kernel, am_hh208]
  exact ⟨by decide +kernel, List.forall_mem_cons.mpr ⟨am_hp_of (i := 825) 4 (by decide) (by decide) (rfl : _ = 47) (by decide) (by decide +kernel), List.forall_mem_cons.mpr ⟨am_hp_of (i := 695) 3 (by decide) (by decide) (rfl : _ = 27) (by decide) (by decide +kernel), fun _ h => nomatch h⟩⟩⟩
theorem am_h208_1 : am_hok 208 5 1 := by
  unfold am_hok
  rw [show am_hd 208 5 1 = none by decide +kernel, am_hh208]
  exact ⟨by decide +kernel, List.forall_mem_cons.mpr ⟨am_hp_of (i := 825) 4 (by decide) (by decide) (rfl : _ = 47) (by decide) (by decide +kernel), List.forall_mem_cons.mpr ⟨am_hp_of (i := 695) 3 (by decide) (by decide) (rfl : _ = 27) (by decide) (by decide +kernel), fun _ h => nomatch h⟩⟩⟩
theorem am_h208_2 : am_hok 208 5 2 := by
  unfold am_hok
  rw [show am_hd 208 5 2 = none by decide +kernel, am_hh208]
  exact ⟨by decide +kernel, List.forall_mem_cons.mpr ⟨am_hp_of (i := 825) 4 (by decide) (by decide) (rfl : _ = 47) (by decide) (by decide +kernel), List.forall_mem_cons.mpr ⟨am_hp_of (i := 695) 3 (by decide) (by decide) (rfl : _ = 27) (by decide) (by decide +kernel), fun _ h => nomatch h⟩⟩⟩
theorem am_h208_3 : am_hok 208 5 3 := by
  unfold am_hok
  rw [show am_hd 208 5 3 = some 2 by decide +kernel]
  exact ⟨by decide +kernel, [(0, 10, 13, 47)], (0, 10, 17, 27), [], 2, am_hh208, List.forall_mem_cons.mpr ⟨am_hp_of (i := 825) 4 (by decide) (by decide) (rfl : _ = 47) (by decide) (by decide +kernel), fun _ h => nomatch h⟩, by decide, by decide, by decide, am_has (ix := 695) (by decide +kernel), am_has (ix := 706) (by decide +kernel), by decide +kernel, Or.inr ⟨4, by decide +kernel, by decide +kernel, by decide +kernel, by decide +kernel⟩⟩
theorem am_h208_4 : am_hok 208 5 4 := by
  unfold am_hok
  rw [show am_hd 208 5 4 = some 1 by decide +kernel]
  exact ⟨by decide +kernel, [], (0, 10, 13, 47), [(0, 10, 17, 27)], 1, am_hh208, (fun _ h => nomatch h), by decide, by decide, by decide, am_has (ix := 825) (by decide +kernel), am_has (ix := 832) (by decide +kernel), by decide +kernel, Or.inr ⟨4, by decide +kernel, by decide +kernel, by decide +kernel, by decide +kernel⟩⟩
theorem am_hx208 : ∀ x, x < 5 → am_hok 208 5 x := fun x hx => match x, hx with
  | 0, _ => am_h208_0
  | 1, _ => am_h208_1
  | 2, _ => am_h208_2
  | 3, _ => am_h208_3
  | 4, _ => am_h208_4
theorem am_hh209 : am_hh 209 = [(0, 19, 22, 47), (0, 19, 26, 27)] := by decide +kernel
theorem am_h209_0 : am_hok 209 7 0 := by
  unfold am_hok
  rw [show am_hd 209 7 0 = none by decide +kernel, am_hh209]
  exact ⟨by decide +kernel, List.forall_mem_cons.mpr ⟨am_hp_of (i := 825) 4 (by decide) (by decide) (rfl : _ = 47) (by decide) (by decide +kernel), List.forall_mem_cons.mpr ⟨am_hp_of (i := 695) 3 (by decide) (by decide) (rfl : _ = 27) (by decide) (by decide +kernel), fun _ h => nomatch h⟩⟩⟩
theorem am_h209_1 : am_hok 209 7 1 := by
  unfold am_hok
  rw [show am_hd 209 7 1 = none by decide +kernel, am_hh209]
  exact ⟨by decide +kernel, List.forall_mem_cons.mpr ⟨am_hp_of (i := 825) 4 (by decide) (by decide) (rfl : _ = 47) (by decide) (by decide +kernel), List.forall_mem_cons.mpr ⟨am_hp_of (i := 695) 3 (by decide) (by decide) (rfl : _ = 27) (by decide) (by decide +kernel), fun _ h => nomatch h⟩⟩⟩
theorem am_h209_2 : am_hok 209 7 2 := by
  unfold am_hok
  rw [show am_hd 209 7 2 = none by decide +kernel, am_hh209]
  exact ⟨by decide +kernel, List.forall_mem_cons.mpr ⟨am_hp_of (i := 825) 4 (by decide) (by decide) (rfl : _ = 47) (by decide) (by decide +kernel), List.forall_mem_cons.mpr ⟨am_hp_of (i := 695) 3 (by decide) (by decide) (rfl : _ = 27) (by decide) (by decide +kernel), fun _ h => nomatch h⟩⟩⟩
theorem am_h209_3 : am_hok 209 7 3 := by
  unfold am_hok
  rw [show am_hd 209 7 3 = some 2 by decide +kernel]
  exact ⟨by decide +kernel, [(0, 19, 22, 47)], (0, 19, 26, 27), [], 2, am_hh209, List.forall_mem_cons.mpr ⟨am_hp_of (i := 825) 4 (by decide) (by decide) (rfl : _ = 47) (by decide) (by decide +kernel), fun _ h => nomatch h⟩, by decide, by decide, by decide, am_has (ix := 695) (by decide +kernel), am_has (ix := 706) (by decide +kernel), by decide +kernel, Or.inr ⟨5, by decide +kernel, by decide +kernel, by decide +kernel, by decide +kernel⟩⟩
theorem am_h209_4 : am_hok 209 7 4 := by
  unfold am_hok
  rw [show am_hd 209 7 4 = some 1 by decide +kernel]
  exact ⟨by decide +kernel, [], (0, 19, 22, 47), [(0, 19, 26, 27)], 1, am_hh209, (fun _ h => nomatch h), by decide, by decide, by decide, am_has (ix := 825) (by decide +kernel), am_has (ix := 832) (by decide +kernel), by decide +kernel, Or.inr ⟨5, by decide +kernel, by decide +kernel, by decide +kernel, by decide +kernel⟩⟩
theorem am_hx209 : ∀ x, x < 5 → am_hok 209 7 x := fun x hx => match x, hx with
  | 0, _ => am_h209_0
  | 1, _ => am_h209_1
  | 2, _ => am_h209_2
  | 3, _ => am_h209_3
  | 4, _ => am_h209_4
theorem am_hh210 : am_hh 210 = [(0, 12, 15, 47), (0, 12, 19, 27)] := by decide +kernel
theorem am_h210_0 : am_hok 210 7 0 := by
  unfold am_hok
  rw [show am_hd 210 7 0 = none by decide +kernel, am_hh210]
  exact ⟨by decide +kernel, List.forall_mem_cons.mpr ⟨am_hp_of (i := 825) 4 (by decide) (by decide) (rfl : _ = 47) (by decide) (by decide +kernel), List.forall_mem_cons.mpr ⟨am_hp_of (i := 695) 3 (by decide) (by decide) (rfl : _ = 27) (by decide) (by decide +kernel), fun _ h => nomatch h⟩⟩⟩
theorem am_h210_1 : am_hok 210 7 1 := by
  unfold am_hok
  rw [show am_hd 210 7 1 = none by decide +kernel, am_hh210]
  exact ⟨by decide +kernel, List.forall_mem_cons.mpr ⟨am_hp_of (i := 825) 4 (by decide) (by decide) (rfl : _ = 47) (by decide) (by decide +kernel), List.forall_mem_cons.mpr ⟨am_hp_of (i := 695) 3 (by decide) (by decide) (rfl : _ = 27) (by decide) (by decide +kernel), fun _ h => nomatch h⟩⟩⟩
theorem am_h210_2 : am_hok 210 7 2 := by
  unfold am_hok
  rw [show am_hd 210 7 2 = none by decide +kernel, am_hh210]
  exact ⟨by decide +kernel, List.forall_mem_cons.mpr ⟨am_hp_of (i := 825) 4 (by decide) (by decide) (rfl : _ = 47) (by decide) (by decide +kernel), List.forall_mem_cons.mpr ⟨am_hp_of (i := 695) 3 (by decide) (by decide) (rfl : _ = 27) (by decide) (by decide +kernel), fun _ h => nomatch h⟩⟩⟩
theorem am_h210_3 : am_hok 210 7 3 := by
  unfold am_hok
  rw [show am_hd 210 7 3 = some 2 by decide +kernel]
  exact ⟨by decide +kernel, [(0, 12, 15, 47)], (0, 12, 19, 27), [], 2, am_hh210, List.forall_mem_cons.mpr ⟨am_hp_of (i := 825) 4 (by decide) (by decide) (rfl : _ = 47) (by decide) (by decide +kernel), fun _ h => nomatch h⟩, by decide, by decide, by decide, am_has (ix := 695) (by decide +kernel), am_has (ix := 706) (by decide +kernel), by decide +kernel, Or.inr ⟨5, by decide +kernel, by decide +kernel, by decide +kernel, by decide +kernel⟩⟩
theorem am_h210_4 : am_hok 210 7 4 := by
  unfold am_hok
  rw [show am_hd 210 7 4 = some 1 by decide +kernel]
  exact ⟨by decide +kernel, [], (0, 12, 15, 47), [(0, 12, 19, 27)], 1, am_hh210, (fun _ h => nomatch h), by decide, by decide, by decide, am_has (ix := 825) (by decide +kernel), am_has (ix := 832) (by decide +kernel), by decide +kernel, Or.inr ⟨5, by decide +kernel, by decide +kernel, by decide +kernel, by decide +kernel⟩⟩
theorem am_hx210 : ∀ x, x < 5 → am_hok 210 7 x := fun x hx => match x, hx with
  | 0, _ => am_h210_0
  | 1, _ => am_h210_1
  | 2, _ => am_h210_2
  | 3, _ => am_h210_3
  | 4, _ => am_h210_4
theorem am_hh211 : am_hh 211 = [(0, 8, 11, 21)] := by decide +kernel
theorem am_h211_0 : am_hok 211 3 0 := by
  unfold am_hok
  rw [show am_hd 211 3 0 = none by decide +kernel, am_hh211]
  exact ⟨by decide +kernel, List.forall_mem_cons.mpr ⟨am_hp_of (i := 591) 1 (by decide) (by decide) (rfl : _ = 21) (by decide) (by decide +kernel), fun _ h => nomatch h⟩⟩
theorem am_h211_1 : am_hok 211 3 1 := by
  unfold am_hok
  rw [show am_hd 211 3 1 = some 1 by decide +kernel]
  exact ⟨by decide +kernel, [], (0, 8, 11, 21), [], 1, am_hh211, (fun _ h => nomatch h), by decide, by decide, by decide, am_has (ix := 591) (by decide +kernel), am_has (ix := 600) (by decide +kernel), by decide +kernel, Or.inl ⟨2, by decide +kernel, by decide +kernel, by decide +kernel, by decide +kernel⟩⟩
theorem am_h211_2 : am_hok 211 3 2 := by
  unfold am_hok
  rw [show am_hd 211 3 2 = none by decide +kernel, am_hh211]
  exact ⟨by decide +kernel, List.forall_mem_cons.mpr ⟨am_hp_of (i := 591) 1 (by decide) (by decide) (rfl : _ = 21) (by decide) (by decide +kernel), fun _ h => nomatch h⟩⟩
theorem am_h211_3 : am_hok 211 3 3 := by
  unfold am_hok
  rw [show am_hd 211 3 3 = none by decide +kernel, am_hh211]
  exact ⟨by decide +kernel, List.forall_mem_cons.mpr ⟨am_hp_of (i := 591) 1 (by decide) (by decide) (rfl : _ = 21) (by decide) (by decide +kernel), fun _ h => nomatch h⟩⟩
theorem am_h211_4 : am_hok 211 3 4 := by
  unfold am_hok
  rw [show am_hd 211 3 4 = none by decide +kernel, am_hh211]
  exact ⟨by decide +kernel, List.forall_mem_cons.mpr ⟨am_hp_of (i := 591) 1 (by decide) (by decide) (rfl : _ = 21) (by decide) (by decide +kernel), fun _ h => nomatch h⟩⟩
theorem am_hx211 : ∀ x, x < 5 → am_hok 211 3 x := fun x hx => match x, hx with
  | 0, _ => am_h211_0
  | 1, _ => am_h211_1
  | 2, _ => am_h211_2
  | 3, _ => am_h211_3
  | 4, _ => am_h211_4
theorem am_hh212 : am_hh 212 = [(0, 8, 11, 21)] := by decide +kernel
theorem am_h212_0 : am_hok 212 3 0 := by
  unfold am_hok
  rw [show am_hd 212 3 0 = none by decide +kernel, am_hh212]
  exact ⟨by decide +kernel, List.forall_mem_cons.mpr ⟨am_hp_of (i := 591) 1 (by decide) (by decide) (rfl : _ = 21) (by decide) (by decide +kernel), fun _ h => nomatch h⟩⟩
theorem am_h212_1 : am_hok 212 3 1 := by
  unfold am_hok
  rw [show am_hd 212 3 1 = some 1 by decide +kernel]
  exact ⟨by decide +kernel, [], (0, 8, 11, 21), [], 1, am_hh212, (fun _ h => nomatch h), by decide, by decide, by decide, am_has (ix := 591) (by decide +kernel), am_has (ix := 600) (by decide +kernel), by decide +kernel, Or.inl ⟨2, by decide +kernel, by decide +kernel, by decide +kernel, by decide +kernel⟩⟩
theorem am_h212_2 : am_hok 212 3 2 := by
  unfold am_hok
  rw [show am_hd 212 3 2 = none by decide +kernel, am_hh212]
  exact ⟨by decide +kernel, List.forall_mem_cons.mpr ⟨am_hp_of (i := 591) 1 (by decide) (by decide) (rfl : _ = 21) (by decide) (by decide +kernel), fun _ h => nomatch h⟩⟩
theorem am_h212_3 : am_hok 212 3 3 := by
  unfold am_hok
  rw [show am_hd 212 3 3 = none by decide +kernel, am_hh212]
  exact ⟨by decide +kernel, List.forall_mem_cons.mpr ⟨am_hp_of (i := 591) 1 (by decide) (by decide) (rfl : _ = 21) (by decide) (by decide +kernel), fun _ h => nomatch h⟩⟩
theorem am_h212_4 : am_hok 212 3 4 := by
  unfold am_hok
  rw [show am_hd 212 3 4 = none by decide +kernel, am_hh212]
  exact ⟨by decide +kernel, List.forall_mem_cons.mpr ⟨am_hp_of (i := 591) 1 (by decide) (by decide) (rfl : _ = 21) (by decide) (by decide +kernel), fun _ h => nomatch h⟩⟩
theorem am_hx212 : ∀ x, x < 5 → am_hok 212 3 x := fun x hx => match x, hx with
  | 0, _ => am_h212_0
  | 1, _ => am_h212_1
  | 2, _ => am_h212_2
  | 3, _ => am_h212_3
  | 4, _ => am_h212_4
theorem am_hh213 : am_hh 213 = [(0, 9, 12, 21), (0, 9, 15, 27)] := by decide +kernel
theorem am_h213_0 : am_hok 213 4 0 := by
  unfold am_hok
  rw [show am_hd 213 4 0 = none by decide +kernel, am_hh213]
  exact ⟨by decide +kernel, List.forall_mem_cons.mpr ⟨am_hp_of (i := 591) 1 (by decide) (by decide) (rfl : _ = 21) (by decide) (by decide +kernel), List.forall_mem_cons.mpr ⟨am_hp_of (i := 695) 3 (by decide) (by decide) (rfl : _ = 27) (by decide) (by decide +kernel), fun _ h => nomatch h⟩⟩⟩
theorem am_h213_1 : am_hok 213 4 1 := by
  unfold am_hok
  rw [show am_hd 213 4 1 = some 1 by decide +kernel]
  exact ⟨by decide +kernel, [], (0, 9, 12, 21), [(0, 9, 15, 27)], 1, am_hh213, (fun _ h => nomatch h), by decide, by decide, by decide, am_has (ix := 591) (by decide +kernel), am_has (ix := 600) (by decide +kernel), by decide +kernel, Or.inl ⟨3, by decide +kernel, by decide +kernel, by decide +kernel, by decide +kernel⟩⟩
theorem am_h213_2 : am_hok 213 4 2 := by
  unfold am_hok
  rw [show am_hd 213 4 2 = none by decide +kernel, am_hh213]
  exact ⟨by decide +kernel, List.forall_mem_cons.mpr ⟨am_hp_of (i := 591) 1 (by decide) (by decide) (rfl : _ = 21) (by decide) (by decide +kernel), List.forall_mem_cons.mpr ⟨am_hp_of (i := 695) 3 (by decide) (by decide) (rfl : _ = 27) (by decide) (by decide +kernel), fun _ h => nomatch h⟩⟩⟩
theorem am_h213_3 : am_hok 213 4 3 := by
  unfold am_hok
  rw [show am_hd 213 4 3 = some 2 by decide +kernel]
  exact ⟨by decide +kernel, [(0, 9, 12, 21)], (0, 9, 15, 27), [], 2, am_hh213, List.forall_mem_cons.mpr ⟨am_hp_of (i := 591) 1 (by decide) (by decide) (rfl : _ = 21) (by decide) (by decide +kernel), fun _ h => nomatch h⟩, by decide, by decide, by decide, am_has (ix := 695) (by decide +kernel), am_has (ix := 706) (by decide +kernel), by decide +kernel, Or.inl ⟨3, by decide +kernel, by decide +kernel, by decide +kernel, by decide +kernel⟩⟩
theorem am_h213_4 : am_hok 213 4 4 := by
  unfold am_hok
  rw [show am_hd 213 4 4 = none by decide +kernel, am_hh213]
  exact ⟨by decide +kernel, List.forall_mem_cons.mpr ⟨am_hp_of (i := 591) 1 (by decide) (by decide) (rfl : _ = 21) (by decide) (by decide +kernel), List.forall_mem_cons.mpr ⟨am_hp_of (i := 695) 3 (by decide) (by decide) (rfl : _ = 27) (by decide) (by decide +kernel), fun _ h => nomatch h⟩⟩⟩
theorem am_hx213 : ∀ x, x < 5 → am_hok 213 4 x := fun x hx => match x, hx with
  | 0, _ => am_h213_0
  | 1, _ => am_h213_1
  | 2, _ => am_h213_2
  | 3, _ => am_h213_3
  | 4, _ => am_h213_4
theorem am_hh214 : am_hh 214 = [(0, 9, 12, 21), (0, 9, 15, 47), (0, 9, 18, 27)] := by decide +kernel
theorem am_h214_0 : am_hok 214 4 0 := by
  unfold am_hok
  rw [show am_hd 214 4 0 = none by decide +kernel, am_hh214]
  exact ⟨by decide +kernel, List.forall_mem_cons.mpr ⟨am_hp_of (i := 591) 1 (by decide) (by decide) (rfl : _ = 21) (by decide) (by decide +kernel), List.forall_mem_cons.mpr ⟨am_hp_of (i := 825) 4 (by decide) (by decide) (rfl : _ = 47) (by decide) (by decide +kernel), List.forall_mem_cons.mpr ⟨am_hp_of (i := 695) 3 (by decide) (by decide) (rfl : _ = 27) (by decide) (by decide +kernel), fun _ h => nomatch h⟩⟩⟩⟩
theorem am_h214_1 : am_hok 214 4 1 := by
  unfold am_hok
  rw [show am_hd 214 4 1 = some 1 by decide +kernel]
  exact ⟨by decide +kernel, [], (0, 9, 12, 21), [(0, 9, 15, 47), (0, 9, 18, 27)], 1, am_hh214, (fun _ h => nomatch h), by decide, by decide, by decide, am_has (ix := 591) (by decide +kernel), am_has (ix := 600) (by decide +kernel), by decide +kernel, Or.inl ⟨3, by decide +kernel, by decide +kernel, by decide +kernel, by decide +kernel⟩⟩
theorem am_h214_2 : am_hok 214 4 2 := by
  unfold am_hok
  rw [show am_hd 214 4 2 = none by decide +kernel, am_hh214]
  exact ⟨by decide +kernel, List.forall_mem_cons.mpr ⟨am_hp_of (i := 591) 1 (by decide) (by decide) (rfl : _ = 21) (by decide) (by decide +kernel), List.forall_mem_cons.mpr ⟨am_hp_of (i := 825) 4 (by decide) (by decide) (rfl : _ = 47) (by decide) (by decide +kernel), List.forall_mem_cons.mpr ⟨am_hp_of (i := 695) 3 (by decide) (by decide) (rfl : _ = 27) (by decide) (by decide +kernel), fun _ h => nomatch h⟩⟩⟩⟩
theorem am_h214_3 : am_hok 214 4 3 := by
  unfold am_hok
  rw [show am_hd 214 4 3 = some 3 by decide +kernel]
  exact ⟨by decide +kernel, [(0, 9, 12, 21), (0, 9, 15, 47)], (0, 9, 18, 27), [], 3, am_hh214, List.forall_mem_cons.mpr ⟨am_hp_of (i := 591) 1 (by decide) (by decide) (rfl : _ = 21) (by decide) (by decide +kernel), List.forall_mem_cons.mpr ⟨am_hp_of (i := 825) 4 (by decide) (by decide) (rfl : _ = 47) (by decide) (by decide +kernel), fun _ h => nomatch h⟩⟩, by decide, by decide, by decide, am_has (ix := 695) (by decide +kernel), am_has (ix := 706) (by decide +kernel), by decide +kernel, Or.inl ⟨3, by decide +kernel, by decide +kernel, by decide +kernel, by decide +kernel⟩⟩
theorem am_h214_4 : am_hok 214 4 4 := by
  unfold am_hok
  rw [show am_hd 214 4 4 = some 2 by decide +kernel]
  exact ⟨by decide +kernel, [(0, 9, 12, 21)], (0, 9, 15, 47), [(0, 9, 18, 27)], 2, am_hh214, List.forall_mem_cons.mpr ⟨am_hp_of (i := 591) 1 (by decide) (by decide) (rfl : _ = 21) (by decide) (by decide +kernel), fun _ h => nomatch h⟩, by decide, by decide, by decide, am_has (ix := 825) (by decide +kernel), am_has (ix := 832) (by decide +kernel), by decide +kernel, Or.inl ⟨3, by decide +kernel, by decide +kernel, by decide +kernel, by decide +kernel⟩⟩
theorem am_hx214 : ∀ x, x < 5 → am_hok 214 4 x := fun x hx => match x, hx with
  | 0, _ => am_h214_0
  | 1, _ => am_h214_1
  | 2, _ => am_h214_2
  | 3, _ => am_h214_3
  | 4, _ => am_h214_4
theorem am_hh215 : am_hh 215 = [(0, 9, 12, 21), (0, 9, 15, 47), (0, 9, 18, 27)] := by decide +kernel
theorem am_h215_0 : am_hok 215 4 0 := by
  unfold am_hok
  rw [show am_hd 215 4 0 = none by decide +kernel, am_hh215]
  exact ⟨by decide +kernel, List.forall_mem_cons.mpr ⟨am_hp_of (i := 591) 1 (by decide) (by decide) (rfl : _ = 21) (by decide) (by decide +kernel), List.forall_mem_cons.mpr ⟨am_hp_of (i := 825) 4 (by decide) (by decide) (rfl : _ = 47) (by decide) (by decide +kernel), List.forall_mem_cons.mpr ⟨am_hp_of (i := 695) 3 (by decide) (by decide) (rfl : _ = 27) (by decide) (by decide +kernel), fun _ h => nomatch h⟩⟩⟩⟩
theorem am_h215_1 : am_hok 215 4 1 := by
  unfold am_hok
  rw [show am_hd 215 4 1 = some 1 by decide +kernel]
  exact ⟨by decide +kernel, [], (0, 9, 12, 21), [(0, 9, 15, 47), (0, 9, 18, 27)], 1, am_hh215, (fun _ h => nomatch h), by decide, by decide, by decide, am_has (ix := 591) (by decide +kernel), am_has (ix := 600) (by decide +kernel), by decide +kernel, Or.inl ⟨3, by decide +kernel, by decide +kernel, by decide +kernel, by decide +kernel⟩⟩
theorem am_h215_2 : am_hok 215 4 2 := by
  unfold am_hok
  rw [show am_hd 215 4 2 = none by decide +kernel, am_hh215]
  exact ⟨by decide +kernel, List.forall_mem_cons.mpr ⟨am_hp_of (i := 591) 1 (by decide) (by decide) (rfl : _ = 21) (by decide) (by decide +kernel), List.forall_mem_cons.mpr ⟨am_hp_of (i := 825) 4 (by decide) (by decide) (rfl : _ = 47) (by decide) (by decide +kernel), List.forall_mem_cons.mpr ⟨am_hp_of (i := 695) 3 (by decide) (by decide) (rfl : _ = 27) (by decide) (by decide +kernel), fun _ h => nomatch h⟩⟩⟩⟩
theorem am_h215_3 : am_hok 215 4 3 := by
  unfold am_hok
  rw [show am_hd 215 4 3 = some 3 by decide +kernel]
  exact ⟨by decide +kernel, [(0, 9, 12, 21), (0, 9, 15, 47)], (0, 9, 18, 27), [], 3, am_hh215, List.forall_mem_cons.mpr ⟨am_hp_of (i := 591) 1 (by decide) (by decide) (rfl : _ = 21) (by decide) (by decide +kernel), List.forall_mem_cons.mpr ⟨am_hp_of (i := 825) 4 (by decide) (by decide) (rfl : _ = 47) (by decide) (by decide +kernel), fun _ h => nomatch h⟩⟩, by decide, by decide, by decide, am_has (ix := 695) (by decide +kernel), am_has (ix := 706) (by decide +kernel), by decide +kernel, Or.inl ⟨3, by decide +kernel, by decide +kernel, by decide +kernel, by decide +kernel⟩⟩
theorem am_h215_4 : am_hok 215 4 4 := by
  unfold am_hok
  rw [show am_hd 215 4 4 = some 2 by decide +kernel]
  exact ⟨by decide +kernel, [(0, 9, 12, 21)], (0, 9, 15, 47), [(0, 9, 18, 27)], 2, am_hh215, List.forall_mem_cons.mpr ⟨am_hp_of (i := 591) 1 (by decide) (by decide) (rfl : _ = 21) (by decide) (by decide +kernel), fun _ h => nomatch h⟩, by decide, by decide, by decide, am_has (ix := 825) (by decide +kernel), am_has (ix := 832) (by decide +kernel), by decide +kernel, Or.inl ⟨3, by decide +kernel, by decide +kernel, by decide +kernel, by decide +kernel⟩⟩
theorem am_hx215 : ∀ x, x < 5 → am_hok 215 4 x := fun x hx => match x, hx with
  | 0, _ => am_h215_0
  | 1, _ => am_h215_1
  | 2, _ => am_h215_2
  | 3, _ => am_h215_3
  | 4, _ => am_h215_4
theorem am_hh216 : am_hh 216 = [(0, 16, 19, 13)] := by decide +kernel
theorem am_h216_0 : am_hok 216 4 0 := by
  unfold am_hok
  rw [show am_hd 216 4 0 = some 1 by decide +kernel]
  exact ⟨by decide +kernel, [], (0, 16, 19, 13), [], 1, am_hh216, (fun _ h => nomatch h), by decide, by decide, by decide, am_has (ix := 488) (by decide +kernel), am_has (ix := 496) (by decide +kernel), by decide +kernel, Or.inl ⟨3, by decide +kernel, by decide +kernel, by decide +kernel, by decide +kernel⟩⟩
theorem am_h216_1 : am_hok 216 4 1 := by
  unfold am_hok
  rw [show am_hd 216 4 1 = none by decide +kernel, am_hh216]
  exact ⟨by decide +kernel, List.forall_mem_cons.mpr ⟨am_hp_of (i := 488) 0 (by decide) (by decide) (rfl : _ = 13) (by decide) (by decide +kernel), fun _ h => nomatch h⟩⟩
theorem am_h216_2 : am_hok 216 4 2 := by
  unfold am_hok
  rw [show am_hd 216 4 2 = none by decide +kernel, am_hh216]
  exact ⟨by decide +kernel, List.forall_mem_cons.mpr ⟨am_hp_of (i := 488) 0 (by decide) (by decide) (rfl : _ = 13) (by decide) (by decide +kernel), fun _ h => nomatch h⟩⟩
theorem am_h216_3 : am_hok 216 4 3 := by
  unfold am_hok
  rw [show am_hd 216 4 3 = none by decide +kernel, am_hh216]
  exact ⟨by decide +kernel, List.forall_mem_cons.mpr ⟨am_hp_of (i := 488) 0 (by decide) (by decide) (rfl : _ = 13) (by decide) (by decide +kernel), fun _ h => nomatch h⟩⟩
theorem am_h216_4 : am_hok 216 4 4 := by
  unfold am_hok
  rw [show am_hd 216 4 4 = none by decide +kernel, am_hh216]
  exact ⟨by decide +kernel, List.forall_mem_cons.mpr ⟨am_hp_of (i := 488) 0 (by decide) (by decide) (rfl : _ = 13) (by decide) (by decide +kernel), fun _ h => nomatch h⟩⟩
theorem am_hx216 : ∀ x, x < 5 → am_hok 216 4 x := fun x hx => match x, hx with
  | 0, _ => am_h216_0
  | 1, _ => am_h216_1
  | 2, _ => am_h216_2
  | 3, _ => am_h216_3
  | 4, _ => am_h216_4
theorem am_hh217 : am_hh 217 = [(0, 10, 13, 13)] := by decide +kernel
theorem am_h217_0 : am_hok 217 5 0 := by
  unfold am_hok
  rw [show am_hd 217 5 0 = some 1 by decide +kernel]
  exact ⟨by decide +kernel, [], (0, 10, 13, 13), [], 1, am_hh217, (fun _ h => nomatch h), by decide, by decide, by decide, am_has (ix := 488) (by decide +kernel), am_has (ix := 496) (by decide +kernel), by decide +kernel, Or.inr ⟨4, by decide +kernel, by decide +kernel, by decide +kernel, by decide +kernel⟩⟩
theorem am_h217_1 : am_hok 217 5 1 := by
  unfold am_hok
  rw [show am_hd 217 5 1 = none by decide +kernel, am_hh217]
  exact ⟨by decide +kernel, List.forall_mem_cons.mpr ⟨am_hp_of (i := 488) 0 (by decide) (by decide) (rfl : _ = 13) (by decide) (by decide +kernel), fun _ h => nomatch h⟩⟩
theorem am_h217_2 : am_hok 217 5 2 := by
  unfold am_hok
  rw [show am_hd 217 5 2 = none by decide +kernel, am_hh217]
  exact ⟨by decide +kernel, List.forall_mem_cons.mpr ⟨am_hp_of (i := 488) 0 (by decide) (by decide) (rfl : _ = 13) (by decide) (by decide +kernel), fun _ h => nomatch h⟩⟩
theorem am_h217_3 : am_hok 217 5 3 := by
  unfold am_hok
  rw [show am_hd 217 5 3 = none by decide +kernel, am_hh217]
  exact ⟨by decide +kernel, List.forall_mem_cons.mpr ⟨am_hp_of (i := 488) 0 (by decide) (by decide) (rfl : _ = 13) (by decide) (by decide +kernel), fun _ h => nomatch h⟩⟩
theorem am_h217_4 : am_hok 217 5 4 := by
  unfold am_hok
  rw [show am_hd 217 5 4 = none by decide +kernel, am_hh217]
  exact ⟨by decide +kernel, List.forall_mem_cons.mpr ⟨am_hp_of (i := 488) 0 (by decide) (by decide) (rfl : _ = 13) (by decide) (by decide +kernel), fun _ h => nomatch h⟩⟩
theorem am_hx217 : ∀ x, x < 5 → am_hok 217 5 x := fun x hx => match x, hx with
  | 0, _ => am_h217_0
  | 1, _ => am_h217_1
  | 2, _ => am_h217_2
  | 3, _ => am_h217_3
  | 4, _ => am_h217_4
theorem am_hh218 : am_hh 218 = [(0, 10, 13, 13)] := by decide +kernel
theorem am_h218_0 : am_hok 218 5 0 := by
  unfold am_hok
  rw [show am_hd 218 5 0 = some 1 by decide +kernel]
  exact ⟨by decide +kernel, [], (0, 10, 13, 13), [], 1, am_hh218, (fun _ h => nomatch h), by decide, by decide, by decide, am_has (ix := 488) (by decide +kernel), am_has (ix := 496) (by decide +kernel), by decide +kernel, Or.inr ⟨4, by decide +kernel, by decide +kernel, by decide +kernel, by decide +kernel⟩⟩
theorem am_h218_1 : am_hok 218 5 1 := by
  unfold am_hok
  rw [show am_hd 218 5 1 = none by decide +kernel, am_hh218]
  exact ⟨by decide +kernel, List.forall_mem_cons.mpr ⟨am_hp_of (i := 488) 0 (by decide) (by decide) (rfl : _ = 13) (by decide) (by decide +kernel), fun _ h => nomatch h⟩⟩
theorem am_h218_2 : am_hok 218 5 2 := by
  unfold am_hok
  rw [show am_hd 218 5 2 = none by decide +kernel, am_hh218]
  exact ⟨by decide +kernel, List.forall_mem_cons.mpr ⟨am_hp_of (i := 488) 0 (by decide) (by decide) (rfl : _ = 13) (by decide) (by decide +kernel), fun _ h => nomatch h⟩⟩
theorem am_h218_3 : am_hok 218 5 3 := by
  unfold am_hok
  rw [show am_hd 218 5 3 = none by decide +kernel, am_hh218]
  exact ⟨by decide +kernel, List.forall_mem_cons.mpr ⟨am_hp_of (i := 488) 0 (by decide) (by decide) (rfl : _ = 13) (by decide) (by decide +kernel), fun _ h => nomatch h⟩⟩
theorem am_h218_4 : am_hok 218 5 4 := by
  unfold am_hok
  rw [show am_hd 218 5 4 = none by decide +kernel, am_hh218]
  exact ⟨by decide +kernel, List.forall_mem_cons.mpr ⟨am_hp_of (i := 488) 0 (by decide) (by decide) (rfl : _ = 13) (by decide) (by decide +kernel), fun _ h => nomatch h⟩⟩
theorem am_hx218 : ∀ x, x < 5 → am_hok 218 5 x := fun x hx => match x, hx with
  | 0, _ => am_h218_0
  | 1, _ => am_h218_1
  | 2, _ => am_h218_2
  | 3, _ => am_h218_3
  | 4, _ => am_h218_4
theorem am_hh219 : am_hh 219 = [(0, 8, 11, 21)] := by decide +kernel
theorem am_h219_0 : am_hok 219 3 0 := by
  unfold am_hok
  rw [show am_hd 219 3 0 = none by decide +kernel, am_hh219]
  exact ⟨by decide +kernel, List.forall_mem_cons.mpr ⟨am_hp_of (i := 591) 1 (by decide) (by decide) (rfl : _ = 21) (by decide) (by decide +kernel), fun _ h => nomatch h⟩⟩
theorem am_h219_1 : am_hok 219 3 1 := by
  unfold am_hok
  rw [show am_hd 219 3 1 = some 1 by decide +kernel]
  exact ⟨by decide +kernel, [], (0, 8, 11, 21), [], 1, am_hh219, (fun _ h => nomatch h), by decide, by decide, by decide, am_has (ix := 591) (by decide +kernel), am_has (ix := 600) (by decide +kernel), by decide +kernel, Or.inl ⟨2, by decide +kernel, by decide +kernel, by decide +kernel, by decide +kernel⟩⟩
theorem am_h219_2 : am_hok 219 3 2 := by
  unfold am_hok
  rw [show am_hd 219 3 2 = none by decide +kernel, am_hh219]
  exact ⟨by decide +kernel, List.forall_mem_cons.mpr ⟨am_hp_of (i := 591) 1 (by decide) (by decide) (rfl : _ = 21) (by decide) (by decide +kernel), fun _ h => nomatch h⟩⟩
theorem am_h219_3 : am_hok 219 3 3 := by
  unfold am_hok
  rw [show am_hd 219 3 3 = none by decide +kernel, am_hh219]
  exact ⟨by decide +kernel, List.forall_mem_cons.mpr ⟨am_hp_of (i := 591) 1 (by decide) (by decide) (rfl : _ = 21) (by decide) (by decide +kernel), fun _ h => nomatch h⟩⟩
theorem am_h219_4 : am_hok 219 3 4 := by
  unfold am_hok
  rw [show am_hd 219 3 4 = none by decide +kernel, am_hh219]
  exact ⟨by decide +kernel, List.forall_mem_cons.mpr ⟨am_hp_of (i := 591) 1 (by decide) (by decide) (rfl : _ = 21) (by decide) (by decide +kernel), fun _ h => nomatch h⟩⟩
theorem am_hx219 : ∀ x, x < 5 → am_hok 219 3 x := fun x hx => match x, hx with
  | 0, _ => am_h219_0
  | 1, _ => am_h219_1
  | 2, _ => am_h219_2
  | 3, _ => am_h219_3
  | 4, _ => am_h219_4
theorem am_hh220 : am_hh 220 = [(0, 9, 12, 47)] := by decide +kernel
theorem am_h220_0 : am_hok 220 4 0 := by
  unfold am_hok
  rw [show am_hd 220 4 0 = none by decide +kernel, am_hh220]
  exact ⟨by decide +kernel, List.forall_mem_cons.mpr ⟨am_hp_of (i := 825) 4 (by decide) (by decide) (rfl : _ = 47) (by decide) (by decide +kernel), fun _ h => nomatch h⟩⟩
theorem am_h220_1 : am_hok 220 4 1 := by
  unfold am_hok
  rw [show am_hd 220 4 1 = none by decide +kernel, am_hh220]
  exact ⟨by decide +kernel, List.forall_mem_cons.mpr ⟨am_hp_of (i := 825) 4 (by decide) (by decide) (rfl : _ = 47) (by decide) (by decide +kernel), fun _ h => nomatch h⟩⟩
theorem am_h220_2 : am_hok 220 4 2 := by
  unfold am_hok
  rw [show am_hd 220 4 2 = none by decide +kernel, am_hh220]
  exact ⟨by decide +kernel, List.forall_mem_cons.mpr ⟨am_hp_of (i := 825) 4 (by decide) (by decide) (rfl : _ = 47) (by decide) (by decide +kernel), fun _ h => nomatch h⟩⟩
theorem am_h220_3 : am_hok 220 4 3 := by
  unfold am_hok
  rw [show am_hd 220 4 3 = none by decide +kernel, am_hh220]
  exact ⟨by decide +kernel, List.forall_mem_cons.mpr ⟨am_hp_of (i := 825) 4 (by decide) (by decide) (rfl : _ = 47) (by decide) (by decide +kernel), fun _ h => nomatch h⟩⟩
theorem am_h220_4 : am_hok 220 4 4 := by
  unfold am_hok
  rw [show am_hd 220 4 4 = some 1 by decide +kernel]
  exact ⟨by decide +kernel, [], (0, 9, 12, 47), [], 1, am_hh220, (fun _ h => nomatch h), by decide, by decide, by decide, am_has (ix := 825) (by decide +kernel), am_has (ix := 832) (by decide +kernel), by decide +kernel, Or.inl ⟨3, by decide +kernel, by decide +kernel, by decide +kernel, by decide +kernel⟩⟩
theorem am_hx220 : ∀ x, x < 5 → am_hok 220 4 x := fun x hx => match x, hx with
  | 0, _ => am_h220_0
  | 1, _ => am_h220_1
  | 2, _ => am_h220_2
  | 3, _ => am_h220_3
  | 4, _ => am_h220_4
theorem am_hh221 : am_hh 221 = [(0, 16, 19, 21)] := by decide +kernel
theorem am_h221_0 : am_hok 221 4 0 := by
  unfold am_hok
  rw [show am_hd 221 4 0 = none by decide +kernel, am_hh221]
  exact ⟨by decide +kernel, List.forall_mem_cons.mpr ⟨am_hp_of (i := 591) 1 (by decide) (by decide) (rfl : _ = 21) (by decide) (by decide +kernel), fun _ h => nomatch h⟩⟩
theorem am_h221_1 : am_hok 221 4 1 := by
  unfold am_hok
  rw [show am_hd 221 4 1 = some 1 by decide +kernel]
  exact ⟨by decide +kernel, [], (0, 16, 19, 21), [], 1, am_hh221, (fun _ h => nomatch h), by decide, by decide, by decide, am_has (ix := 591) (by decide +kernel), am_has (ix := 600) (by decide +kernel), by decide +kernel, Or.inl ⟨3, by decide +kernel, by decide +kernel, by decide +kernel, by decide +kernel⟩⟩
theorem am_h221_2 : am_hok 221 4 2 := by
  unfold am_hok
  rw [show am_hd 221 4 2 = none by decide +kernel, am_hh221]
  exact ⟨by decide +kernel, List.forall_mem_cons.mpr ⟨am_hp_of (i := 591) 1 (by decide) (by decide) (rfl : _ = 21) (by decide) (by decide +kernel), fun _ h => nomatch h⟩⟩
theorem am_h221_3 : am_hok 221 4 3 := by
  unfold am_hok
  rw [show am_hd 221 4 3 = none by decide +kernel, am_hh221]
  exact ⟨by decide +kernel, List.forall_mem_cons.mpr ⟨am_hp_of (i := 591) 1 (by decide) (by decide) (rfl : _ = 21) (by decide) (by decide +kernel), fun _ h => nomatch h⟩⟩
theorem am_h221_4 : am_hok 221 4 4 := by
  unfold am_hok
  rw [show am_hd 221 4 4 = none by decide +kernel, am_hh221]
  exact ⟨by decide +kernel, List.forall_mem_cons.mpr ⟨am_hp_of (i := 591) 1 (by decide) (by decide) (rfl : _ = 21) (by decide) (by decide +kernel), fun _ h => nomatch h⟩⟩
theorem am_hx221 : ∀ x, x < 5 → am_hok 221 4 x := fun x hx => match x, hx with
  | 0, _ => am_h221_0
  | 1, _ => am_h221_1
  | 2, _ => am_h221_2
  | 3, _ => am_h221_3
  | 4, _ => am_h221_4
theorem am_hh222 : am_hh 222 = [(0, 16, 19, 21), (0, 16, 22, 13)] := by decide +kernel
theorem am_h222_0 : am_hok 222 4 0 := by
  unfold am_hok
  rw [show am_hd 222 4 0 = some 2 by decide +kernel]
  exact ⟨by decide +kernel, [(0, 16, 19, 21)], (0, 16, 22, 13), [], 2, am_hh222, List.forall_mem_cons.mpr ⟨am_hp_of (i := 591) 1 (by decide) (by decide) (rfl : _ = 21) (by decide) (by decide +kernel), fun _ h => nomatch h⟩, by decide, by decide, by decide, am_has (ix := 488) (by decide +kernel), am_has (ix := 496) (by decide +kernel), by decide +kernel, Or.inl ⟨3, by decide +kernel, by decide +kernel, by decide +kernel, by decide +kernel⟩⟩
theorem am_h222_1 : am_hok 222 4 1 := by
  unfold am_hok
  rw [show am_hd 222 4 1 = some 1 by decide +kernel]
  exact ⟨by decide +kernel, [], (0, 16, 19, 21), [(0, 16, 22, 13)], 1, am_hh222, (fun _ h => nomatch h), by decide, by decide, by decide, am_has (ix := 591) (by decide +kernel), am_has (ix := 600) (by decide +kernel), by decide +kernel, Or.inl ⟨3, by decide +kernel, by decide +kernel, by decide +kernel, by decide +kernel⟩⟩
theorem am_h222_2 : am_hok 222 4 2 := by
  unfold am_hok
  rw [show am_hd 222 4 2 = none by decide +kernel, am_hh222]
  exact ⟨by decide +kernel, List.forall_mem_cons.mpr ⟨am_hp_of (i := 591) 1 (by decide) (by decide) (rfl : _ = 21) (by decide) (by decide +kernel), List.forall_mem_cons.mpr ⟨am_hp_of (i := 488) 0 (by decide) (by decide) (rfl : _ = 13) (by decide) (by decide +kernel), fun _ h => nomatch h⟩⟩⟩
theorem am_h222_3 : am_hok 222 4 3 := by
  unfold am_hok
  rw [show am_hd 222 4 3 = none by decide +kernel, am_hh222]
  exact ⟨by decide +kernel, List.forall_mem_cons.mpr ⟨am_hp_of (i := 591) 1 (by decide) (by decide) (rfl : _ = 21) (by decide) (by decide +kernel), List.forall_mem_cons.mpr ⟨am_hp_of (i := 488) 0 (by decide) (by decide) (rfl : _ = 13) (by decide) (by decide +kernel), fun _ h => nomatch h⟩⟩⟩
theorem am_h222_4 : am_hok 222 4 4 := by
  unfold am_hok
  rw [show am_hd 222 4 4 = none by decide +kernel, am_hh222]
  exact ⟨by decide +kernel, List.forall_mem_cons.mpr ⟨am_hp_of (i := 591) 1 (by decide) (by decide) (rfl : _ = 21) (by decide) (by decide +kernel), List.forall_mem_cons.mpr ⟨am_hp_of (i := 488) 0 (by decide) (by decide) (rfl : _ = 13) (by decide) (by decide +kernel), fun _ h => nomatch h⟩⟩⟩
theorem am_hx222 : ∀ x, x < 5 → am_hok 222 4 x := fun x hx => match x, hx with
  | 0, _ => am_h222_0
  | 1, _ => am_h222_1
  | 2, _ => am_h222_2
  | 3, _ => am_h222_3
  | 4, _ => am_h222_4
theorem am_hh223 : am_hh 223 = [(0, 9, 12, 21), (0, 9, 15, 47), (0, 9, 18, 15)] := by decide +kernel
theorem am_h223_0 : am_hok 223 4 0 := by
  unfold am_hok
  rw [show am_hd 223 4 0 = none by decide +kernel, am_hh223]
  exact ⟨by decide +kernel, List.forall_mem_cons.mpr ⟨am_hp_of (i := 591) 1 (by decide) (by decide) (rfl : _ = 21) (by decide) (by decide +kernel), List.forall_mem_cons.mpr ⟨am_hp_of (i := 825) 4 (by decide) (by decide) (rfl : _ = 47) (by decide) (by decide +kernel), List.forall_mem_cons.mpr ⟨am_hp_of (i := 489) 2 (by decide) (by decide) (rfl : _ = 15) (by decide) (by decide +kernel), fun _ h => nomatch h⟩⟩⟩⟩
theorem am_h223_1 : am_hok 223 4 1 := by
  unfold am_hok
  rw [show am_hd 223 4 1 = some 1 by decide +kernel]
  exact ⟨by decide +kernel, [], (0, 9, 12, 21), [(0, 9, 15, 47), (0, 9, 18, 15)], 1, am_hh223, (fun _ h => nomatch h), by decide, by decide, by decide, am_has (ix := 591) (by decide +kernel), am_has (ix := 600) (by decide +kernel), by decide +kernel, Or.inl ⟨3, by decide +kernel, by decide +kernel, by decide +kernel, by decide +kernel⟩⟩
theorem am_h223_2 : am_hok 223 4 2 := by
  unfold am_hok
  rw [show am_hd 223 4 2 = some 3 by decide +kernel]
  exact ⟨by decide +kernel, [(0, 9, 12, 21), (0, 9, 15, 47)], (0, 9, 18, 15), [], 3, am_hh223, List.forall_mem_cons.mpr ⟨am_hp_of (i := 591) 1 (by decide) (by decide) (rfl : _ = 21) (by decide) (by decide +kernel), List.forall_mem_cons.mpr ⟨am_hp_of (i := 825) 4 (by decide) (by decide) (rfl : _ = 47) (by decide) (by decide +kernel), fun _ h => nomatch h⟩⟩, by decide, by decide, by decide, am_has (ix := 489) (by decide +kernel), am_has (ix := 570) (by decide +kernel), by decide +kernel, Or.inl ⟨3, by decide +kernel, by decide +kernel, by decide +kernel, by decide +kernel⟩⟩
theorem am_h223_3 : am_hok 223 4 3 := by
  unfold am_hok
  rw [show am_hd 223 4 3 = none by decide +kernel, am_hh223]
  exact ⟨by decide +kernel, List.forall_mem_cons.mpr ⟨am_hp_of (i := 591) 1 (by decide) (by decide) (rfl : _ = 21) (by decide) (by decide +kernel), List.forall_mem_cons.mpr ⟨am_hp_of (i := 825) 4 (by decide) (by decide) (rfl : _ = 47) (by decide) (by decide +kernel), List.forall_mem_cons.mpr ⟨am_hp_of (i := 489) 2 (by decide) (by decide) (rfl : _ = 15) (by decide) (by decide +kernel), fun _ h => nomatch h⟩⟩⟩⟩
theorem am_h223_4 : am_hok 223 4 4 := by
  unfold am_hok
  rw [show am_hd 223 4 4 = some 2 by decide +kernel]
  exact ⟨by decide +kernel, [(0, 9, 12, 21)], (0, 9, 15, 47), [(0, 9, 18, 15)], 2, am_hh223, List.forall_mem_cons.mpr ⟨am_hp_of (i := 591) 1 (by decide) (by decide) (rfl : _ = 21) (by decide) (by decide +kernel), fun _ h => nomatch h⟩, by decide, by decide, by decide, am_has (ix := 825) (by decide +kernel), am_has (ix := 832) (by decide +kernel), by decide +kernel, Or.inl ⟨3, by decide +kernel, by decide +kernel, by decide +kernel, by decide +kernel⟩⟩
theorem am_hx223 : ∀ x, x < 5 → am_hok 223 4 x := fun x hx => match x, hx with
  | 0, _ => am_h223_0
  | 1, _ => am_h223_1
  | 2, _ => am_h223_2
  | 3, _ => am_h223_3
  | 4, _ => am_h223_4
theorem am_hh224 : am_hh 224 = [(0, 9, 12, 21), (0, 9, 15, 13)] := by decide +kernel
theorem am_h224_0 : am_hok 224 4 0 := by
  unfold am_hok
  rw [show am_hd 224 4 0 = some 2 by decide +kernel]
  exact ⟨by decide +kernel, [(0, 9, 12, 21)], (0, 9, 15, 13), [], 2, am_hh224, List.forall_mem_cons.mpr ⟨am_hp_of (i := 591) 1 (by decide) (by decide) (rfl : _ = 21) (by decide) (by decide +kernel), fun _ h => nomatch h⟩, by decide, by decide, by decide, am_has (ix := 488) (by decide +kernel), am_has (ix := 496) (by decide +kernel), by decide +kernel, Or.inl ⟨3, by decide +kernel, by decide +kernel, by decide +kernel, by decide +kernel⟩⟩
theorem am_h224_1 : am_hok 224 4 1 := by
  unfold am_hok
  rw [show am_hd 224 4 1 = some 1 by decide +kernel]
  exact ⟨by decide +kernel, [], (0, 9, 12, 21), [(0, 9, 15, 13)], 1, am_hh224, (fun _ h => nomatch h), by decide, by decide, by decide, am_has (ix := 591) (by decide +kernel), am_has (ix := 600) (by decide +kernel), by decide +kernel, Or.inl ⟨3, by decide +kernel, by decide +kernel, by decide +kernel, by decide +kernel⟩⟩
theorem am_h224_2 : am_hok 224 4 2 := by
  unfold am_hok
  rw [show am_hd 224 4 2 = none by decide +kernel, am_hh224]
  exact ⟨by decide +kernel, List.forall_mem_cons.mpr ⟨am_hp_of (i := 591) 1 (by decide) (by decide) (rfl : _ = 21) (by decide) (by decide +kernel), List.forall_mem_cons.mpr ⟨am_hp_of (i := 488) 0 (by decide) (by decide) (rfl : _ = 13) (by decide) (by decide +kernel), fun _ h => nomatch h⟩⟩⟩
theorem am_h224_3 : am_hok 224 4 3 := by
  unfold am_hok
  rw [show am_hd 224 4 3 = none by decide +kernel, am_hh224]
  exact ⟨by decide +kernel, List.forall_mem_cons.mpr ⟨am_hp_of (i := 591) 1 (by decide) (by decide) (rfl : _ = 21) (by decide) (by decide +kernel), List.forall_mem_cons.mpr ⟨am_hp_of (i := 488) 0 (by decide) (by decide) (rfl : _ = 13) (by decide) (by decide +kernel), fun _ h => nomatch h⟩⟩⟩
theorem am_h224_4 : am_hok 224 4 4 := by
  unfold am_hok
  rw [show am_hd 224 4 4 = none by decide +kernel, am_hh224]
  exact ⟨by decide +kernel, List.forall_mem_cons.mpr ⟨am_hp_of (i := 591) 1 (by decide) (by decide) (rfl : _ = 21) (by decide) (by decide +kernel), List.forall_mem_cons.mpr ⟨am_hp_of (i := 488) 0 (by decide) (by decide) (rfl : _ = 13) (by decide) (by decide +kernel), fun _ h => nomatch h⟩⟩⟩
theorem am_hx224 : ∀ x, x < 5 → am_hok 224 4 x := fun x hx => match x, hx with
  | 0, _ => am_h224_0
  | 1, _ => am_h224_1
  | 2, _ => am_h224_2
  | 3, _ => am_h224_3
  | 4, _ => am_h224_4
theorem am_hh225 : am_hh 225 = [(0, 9, 12, 21), (0, 9, 15, 47)] := by decide +kernel
theorem am_h225_0 : am_hok 225 4 0 := by
  unfold am_hok
  rw [show am_hd 225 4 0 = none by decide +kernel, am_hh225]
  exact ⟨by decide +kernel, List.forall_mem_cons.mpr ⟨am_hp_of (i := 591) 1 (by decide) (by decide) (rfl : _ = 21) (by decide) (by decide +kernel), List.forall_mem_cons.mpr ⟨am_hp_of (i := 825) 4 (by decide) (by decide) (rfl : _ = 47) (by decide) (by decide +kernel), fun _ h => nomatch h⟩⟩⟩
theorem am_h225_1 : am_hok 225 4 1 := by
  unfold am_hok
  rw [show am_hd 225 4 1 = some 1 by decide +kernel]
  exact ⟨by decide +kernel, [], (0, 9, 12, 21), [(0, 9, 15, 47)], 1, am_hh225, (fun _ h => nomatch h), by decide, by decide, by decide, am_has (ix := 591) (by decide +kernel), am_has (ix := 600) (by decide +kernel), by decide +kernel, Or.inl ⟨3, by decide +kernel, by decide +kernel, by decide +kernel, by decide +kernel⟩⟩
theorem am_h225_2 : am_hok 225 4 2 := by
  unfold am_hok
  rw [show am_hd 225 4 2 = none by decide +kernel, am_hh225]
  exact ⟨by decide +kernel, List.forall_mem_cons.mpr ⟨am_hp_of (i := 591) 1 (by decide) (by decide) (rfl : _ = 21) (by decide) (by decide +kernel), List.forall_mem_cons.mpr ⟨am_hp_of (i := 825) 4 (by decide) (by decide) (rfl : _ = 47) (by decide) (by decide +kernel), fun _ h => nomatch h⟩⟩⟩
theorem am_h225_3 : am_hok 225 4 3 := by
  unfold am_hok
  rw [show am_hd 225 4 3 = none by decide +kernel, am_hh225]
  exact ⟨by decide +kernel, List.forall_mem_cons.mpr ⟨am_hp_of (i := 591) 1 (by decide) (by decide) (rfl : _ = 21) (by decide) (by decide +kernel), List.forall_mem_cons.mpr ⟨am_hp_of (i := 825) 4 (by decide) (by decide) (rfl : _ = 47) (by decide) (by decide +kernel), fun _ h => nomatch h⟩⟩⟩
theorem am_h225_4 : am_hok 225 4 4 := by
  unfold am_hok
  rw [show am_hd 225 4 4 = some 2 by decide +kernel]
  exact ⟨by decide +kernel, [(0, 9, 12, 21)], (0, 9, 15, 47), [], 2, am_hh225, List.forall_mem_cons.mpr ⟨am_hp_of (i := 591) 1 (by decide) (by decide) (rfl : _ = 21) (by decide) (by decide +kernel), fun _ h => nomatch h⟩, by decide, by decide, by decide, am_has (ix := 825) (by decide +kernel), am_has (ix := 832) (by decide +kernel), by decide +kernel, Or.inl ⟨3, by decide +kernel, by decide +kernel, by decide +kernel, by decide +kernel⟩⟩
theorem am_hx225 : ∀ x, x < 5 → am_hok 225 4 x := fun x hx => match x, hx with
  | 0, _ => am_h225_0
  | 1, _ => am_h225_1
  | 2, _ => am_h225_2
  | 3, _ => am_h225_3
  | 4, _ => am_h225_4
theorem am_hh226 : am_hh 226 = [(0, 12, 15, 47), (0, 12, 19, 13)] := by decide +kernel
theorem am_h226_0 : am_hok 226 7 0 := by
  unfold am_hok
  rw [show am_hd 226 7 0 = some 2 by decide +kernel]
  exact ⟨by decide +kernel, [(0, 12, 15, 47)], (0, 12, 19, 13), [], 2, am_hh226, List.forall_mem_cons.mpr ⟨am_hp_of (i := 825) 4 (by decide) (by decide) (rfl : _ = 47) (by decide) (by decide +kernel), fun _ h => nomatch h⟩, by decide, by decide, by decide, am_has (ix := 488) (by decide +kernel), am_has (ix := 496) (by decide +kernel), by decide +kernel, Or.inr ⟨5, by decide +kernel, by decide +kernel, by decide +kernel, by decide +kernel⟩⟩
theorem am_h226_1 : am_hok 226 7 1 := by
  unfold am_hok
  rw [show am_hd 226 7 1 = none by decide +kernel, am_hh226]
  exact ⟨by decide +kernel, List.forall_mem_cons.mpr ⟨am_hp_of (i := 825) 4 (by decide) (by decide) (rfl : _ = 47) (by decide) (by decide +kernel), List.forall_mem_cons.mpr ⟨am_hp_of (i := 488) 0 (by decide) (by decide) (rfl : _ = 13) (by decide) (by decide +kernel), fun _ h => nomatch h⟩⟩⟩
theorem am_h226_2 : am_hok 226 7 2 := by
  unfold am_hok
  rw [show am_hd 226 7 2 = none by decide +kernel, am_hh226]
  exact ⟨by decide +kernel, List.forall_mem_cons.mpr ⟨am_hp_of (i := 825) 4 (by decide) (by decide) (rfl : _ = 47) (by decide) (by decide +kernel), List.forall_mem_cons.mpr ⟨am_hp_of (i := 488) 0 (by decide) (by decide) (rfl : _ = 13) (by decide) (by decide +kernel), fun _ h => nomatch h⟩⟩⟩
theorem am_h226_3 : am_hok 226 7 3 := by
  unfold am_hok
  rw [show am_hd 226 7 3 = none by decide +kernel, am_hh226]
  exact ⟨by decide +kernel, List.forall_mem_cons.mpr ⟨am_hp_of (i := 825) 4 (by decide) (by decide) (rfl : _ = 47) (by decide) (by decide +kernel), List.forall_mem_cons.mpr ⟨am_hp_of (i := 488) 0 (by decide) (by decide) (rfl : _ = 13) (by decide) (by decide +kernel), fun _ h => nomatch h⟩⟩⟩
theorem am_h226_4 : am_hok 226 7 4 := by
  unfold am_hok
  rw [show am_hd 226 7 4 = some 1 by decide +kernel]
  exact ⟨by decide +kernel, [], (0, 12, 15, 47), [(0, 12, 19, 13)], 1, am_hh226, (fun _ h => nomatch h), by decide, by decide, by decide, am_has (ix := 825) (by decide +kernel), am_has (ix := 832) (by decide +kernel), by decide +kernel, Or.inr ⟨5, by decide +kernel, by decide +kernel, by decide +kernel, by decide +kernel⟩⟩
theorem am_hx226 : ∀ x, x < 5 → am_hok 226 7 x := fun x hx => match x, hx with
  | 0, _ => am_h226_0
  | 1, _ => am_h226_1
  | 2, _ => am_h226_2
  | 3, _ => am_h226_3
  | 4, _ => am_h226_4
theorem am_hh227 : am_hh 227 = [(0, 9, 12, 47), (0, 9, 15, 27)] := by decide +kernel
theorem am_h227_0 : am_hok 227 4 0 := by
  unfold am_hok
  rw [show am_hd 227 4 0 = none by decide +kernel, am_hh227]
  exact ⟨by decide +kernel, List.forall_mem_cons.mpr ⟨am_hp_of (i := 825) 4 (by decide) (by decide) (rfl : _ = 47) (by decide) (by decide +kernel), List.forall_mem_cons.mpr ⟨am_hp_of (i := 695) 3 (by decide) (by decide) (rfl : _ = 27) (by decide) (by decide +kernel), fun _ h => nomatch h⟩⟩⟩
theorem am_h227_1 : am_hok 227 4 1 := by
  unfold am_hok
  rw [show am_hd 227 4 1 = none by decide +kernel, am_hh227]
  exact ⟨by decide +kernel, List.forall_mem_cons.mpr ⟨am_hp_of (i := 825) 4 (by decide) (by decide) (rfl : _ = 47) (by decide) (by decide +kernel), List.forall_mem_cons.mpr ⟨am_hp_of (i := 695) 3 (by decide) (by decide) (rfl : _ = 27) (by decide) (by decide +kernel), fun _ h => nomatch h⟩⟩⟩
theorem am_h227_2 : am_hok 227 4 2 := by
  unfold am_hok
  rw [show am_hd 227 4 2 = none by decide +kernel, am_hh227]
  exact ⟨by decide +kernel, List.forall_mem_cons.mpr ⟨am_hp_of (i := 825) 4 (by decide) (by decide) (rfl : _ = 47) (by decide) (by decide +kernel), List.forall_mem_cons.mpr ⟨am_hp_of (i := 695) 3 (by decide) (by decide) (rfl : _ = 27) (by decide) (by decide +kernel), fun _ h => nomatch h⟩⟩⟩
theorem am_h227_3 : am_hok 227 4 3 := by
  unfold am_hok
  rw [show am_hd 227 4 3 = some 2 by decide +kernel]
  exact ⟨by decide +kernel, [(0, 9, 12, 47)], (0, 9, 15, 27), [], 2, am_hh227, List.forall_mem_cons.mpr ⟨am_hp_of (i := 825) 4 (by decide) (by decide) (rfl : _ = 47) (by decide) (by decide +kernel), fun _ h => nomatch h⟩, by decide, by decide, by decide, am_has (ix := 695) (by decide +kernel), am_has (ix := 706) (by decide +kernel), by decide +kernel, Or.inl ⟨3, by decide +kernel, by decide +kernel, by decide +kernel, by decide +kernel⟩⟩
theorem am_h227_4 : am_hok 227 4 4 := by
  unfold am_hok
  rw [show am_hd 227 4 4 = some 1 by decide +kernel]
  exact ⟨by decide +kernel, [], (0, 9, 12, 47), [(0, 9, 15, 27)], 1, am_hh227, (fun _ h => nomatch h), by decide, by decide, by decide, am_has (ix := 825) (by decide +kernel), am_has (ix := 832) (by decide +kernel), by decide +kernel, Or.inl ⟨3, by decide +kernel, by decide +kernel, by decide +kernel, by decide +kernel⟩⟩
theorem am_hx227 : ∀ x, x < 5 → am_hok 227 4 x := fun x hx => match x, hx with
  | 0, _ => am_h227_0
  | 1, _ => am_h227_1
  | 2, _ => am_h227_2
  | 3, _ => am_h227_3
  | 4, _ => am_h227_4
/-- in a method with a table there are plain instructions and one call -/
def am_pl (i : Instr) : Bool := match i with
  | .new _ => false
  | .multianewarray _ _ => false
  | .invokespecial _ => false
  | .invokestatic _ => false
  | .getstatic _ => false
  | .putfield _ => false
  | .newarray _ => false
  | .anewarray _ => false
  | _ => true
def am_isV (i : Instr) : Bool := match i with
  | .invokevirtual _ => true
  | _ => false
def am_hpc : List (Nat × Nat) := [(197, 4), (198, 7), (199, 3), (200, 7), (201, 5), (202, 5), (203, 11), (204, 4), (205, 5), (206, 7), (207, 5), (208, 5), (209, 7), (210, 7), (211, 3), (212, 3), (213, 4), (214, 4), (215, 4), (216, 4), (217, 5), (218, 5), (219, 3), (220, 4), (221, 4), (222, 4), (223, 4), (224, 4), (225, 4), (226, 7), (227, 4)]
theorem am_hpl : ∀ z ∈ am_hpc, ∀ q ∈ am_tabs.getD z.1 [], am_pl q.2.1 = true ∧ (am_isV q.2.1 = true → q.1 = z.2) := by decide +kernel
theorem am_hin {m : Nat} (h : am_hh m ≠ []) : ∃ z ∈ am_hpc, z.1 = m := by
  unfold am_hh at h
  cases hf : am_hhs.find? (fun q => q.1 == m) with
  | none => rw [hf] at h; exact absurd rfl h
  | some q =>
    have h1 := List.find?_some hf
    have h2 := List.mem_of_find?_eq_some hf
    have hall : ∀ q ∈ am_hhs, ∃ z ∈ am_hpc, z.1 = q.1 := by decide +kernel
    obtain ⟨z, hz, he⟩ := hall q h2
    simp only [beq_iff_eq] at h1
    exact ⟨z, hz, he.trans h1⟩
theorem am_hoks : ∀ z ∈ am_hpc, ∀ x, x < 5 → am_hok z.1 z.2 x := by
  intro z hz
  simp only [am_hpc, List.mem_cons, List.not_mem_nil, or_false] at hz
  rcases hz with rfl | rfl | rfl | rfl | rfl | rfl | rfl | rfl | rfl | rfl | rfl | rfl | rfl | rfl | rfl | rfl | rfl | rfl | rfl | rfl | rfl | rfl | rfl | rfl | rfl | rfl | rfl | rfl | rfl | rfl | rfl
  · exact am_hx197
  · exact am_hx198
  · exact am_hx199
  · exact am_hx200
  · exact am_hx201
  · exact am_hx202
  · exact am_hx203
  · exact am_hx204
  · exact am_hx205
  · exact am_hx206
  · exact am_hx207
  · exact am_hx208
  · exact am_hx209
  · exact am_hx210
  · exact am_hx211
  · exact am_hx212
  · exact am_hx213
  · exact am_hx214
  · exact am_hx215
  · exact am_hx216
  · exact am_hx217
  · exact am_hx218
  · exact am_hx219
  · exact am_hx220
  · exact am_hx221
  · exact am_hx222
  · exact am_hx223
  · exact am_hx224
  · exact am_hx225
  · exact am_hx226
  · exact am_hx227
theorem am_cov {z : Nat × Nat × Nat × Nat} {pc : Nat} (h1 : z.1 ≤ pc) (h2 : pc < z.2.1) : covers (⟨z.1, z.2.1, z.2.2.1, z.2.2.2⟩ : ExceptionTableEntry) pc = true := by
  simp [covers, h1, h2]
section SH
variable {l : Launch} {D : va_G} {tc : Nat → ClassId} {sz0 b0 : Nat}
set_option maxHeartbeats 8000000 in
theorem am_sndH {m pc : Nat} {e0 : am_e} (hcod : am_cod m pc = some e0) (hk0 : am_okE m pc e0) (hm0 : am_hh m ≠ []) {L : List (Option Value)} {st : List Value} {B : Nat} {I : am_I} {P : am_P} {G : am_G} {k sl d : Nat} {Q : am_Q} (hs : am_St (am_Snd l D tc sz0 b0) e0 m pc L st B I P G k sl d Q) : am_Snd l D tc sz0 b0 m pc L st B I P G k sl d Q := by
  obtain ⟨z0, hz0, hz1⟩ := am_hin hm0
  subst hz1
  have hent : am_pl e0.1 = true ∧ (am_isV e0.1 = true → pc = z0.2) := by
    unfold am_cod at hcod
    obtain ⟨q, hq, rfl⟩ := Option.map_eq_some_iff.mp hcod
    have h2 := List.find?_some hq
    simp only [beq_iff_eq] at h2
    obtain ⟨g1, g2⟩ := am_hpl z0 hz0 q (List.mem_of_find?_eq_some hq)
    exact ⟨g1, fun h => h2 ▸ g2 h⟩
  have hgo := @am_snd1 l D tc sz0 b0 z0.1 pc e0 hk0 L st B I P G k sl d Q hs
  apply hgo
  clear hgo
  intro hcase
  obtain ⟨ins, len, r1, r2⟩ := e0
  obtain ⟨hd, hlen, hlk⟩ := hk0
  dsimp only at hd hlen hlk hs hcase hent
  cases ins
  case invokevirtual i =>
    intro p e R s0 mid args below meth c H locs cells slots ρ al ls ρ0 al0 C V
    have C' := C
    obtain ⟨hx, hb, hml, hrt, hown, hlocks, hname, htab, hG⟩ := C
    obtain ⟨hS, hR, hL, hv, hrm, hext⟩ := V
    have hK := hG.2.2.1
    have hl : len = 3 := hlen (show (3 : Nat) ≠ 0 by decide)
    subst hl
    obtain ⟨h900, hlen9, ⟨a, hlast, hTY⟩, Rq, mc, ms, dd, hrest4, hEl, hEk, h1, h2, h3, h4, h5, h6⟩ := hs
    dsimp only at h900 hlen9 hlast hTY hrest4 hEl hEk h4 h5 h6 hlk
    obtain ⟨hh, hcal, hcx, ho10, hcls, hdesc, hlink, hinst, hsel⟩ := hlk h900
    obtain ⟨As, e1, e2⟩ := am_take hlast
    rw [e1] at h4 hEl hEk
    have hlenA : As.length + 1 = am_na r1 := by
      have := congrArg List.length e1
      rw [List.length_reverse, List.length_take, List.length_cons] at this
      omega
    generalize st.drop (am_na r1) = rst at e2 hrest4 h5
    subst e2
    obtain ⟨hvA, hva, hvr⟩ := am_vs_app.mp hv
    have hvA := am_vs_rev.mp hvA
    have hM := am_met (ρ := ρ) hcx h4 (As := .ref a :: As) ⟨hva, hvA⟩ hEl hEk
    have hrecv : ∃ cellB : Cell, H[ρ a]? = some cellB ∧ cellB.vm.isStatics = false ∧ s0.vm.findClass (am_C (am_own r1)) = some cellB.cls := by
      have ho10' : am_own r1 < 10 := ho10
      have f2 := hR.at hva (by rw [hTY]; omega)
      rw [am_E_o (by rw [hTY]; exact ho10), hTY] at f2
      obtain ⟨r', hr', cellV, g1, g2, g3, -⟩ := f2
      exact ⟨cellV, g1, by rw [g3]; rfl, by rw [g2]; exact (hK.1 _ _ (am_cl_at ho10)).2.1⟩
    have hn : (parseMethodDescriptor (am_y r1).desc).map (fun d => d.parameters.length) = some As.length := by
      cases hp : parseMethodDescriptor (am_y r1).desc with
      | none => rw [hp] at hdesc; cases hdesc
      | some sg => rw [hp] at hdesc; simp at hdesc ⊢; omega
    have hr := vx_runV (l := l) (rest := rst.map (am_rn ρ)) (g := F0 mid pc ls ((As.reverse ++ .ref a :: rst).map (am_rn ρ))) (Ts := []) (args := args) (below := below) (locs := locs) (cells := cells) (slots := slots) (H := H) (C := am_C (am_own r1)) (b := ρ a) (As := As.map (am_rn ρ)) (e := e) (meth := meth)
      ⟨hx, hb, hml, hown, fun _ h => nomatch h⟩ hM ⟨am_callB (args := args) hG.1 hh hcal hcx hn hlink h3 hrm.2.2.1 hrm.2.2.2, hG.1 args _ hinst rfl, by rw [← hcls]; exact hG.1 args _ hsel rfl⟩ ⟨am_Pc_blind, hrecv, am_PcU (As := .ref a :: As) hG hS hR⟩ rfl (by simp) (hL.1.1.trans hL.2.2.2)
      (by simp [am_rn]) (by rw [am_mon]; have := am_cats (rst.map (am_rn ρ)); rw [List.length_map] at this; omega) hd ⟨by omega, by omega⟩
    have hpc : pc = z0.2 := hent.2 rfl
    have htab := htab.resolve_right (fun h => hm0 h.1)
    refine am_goon C' hS hL hvr hrm hext h1 h2 hr h5 fun x B' I' P' G' ρ' al' H' locs' q ce hx5 hQ hS' hR' hext' hce hcv hcl => ?_
    have h6' := h6 x B' I' P' G' hQ
    have hok := am_hoks z0 hz0 x hx5
    rw [← hpc] at hok
    unfold am_hok at hok
    obtain ⟨hrt9, hok⟩ := hok
    have hpass : ∀ w : Nat × Nat × Nat × Nat, am_hp z0.1 x w → (w.2.2.2 ≠ 0 ∧ ∃ nm : String, (Jvm.Cond.classLink (am_y z0.1).cls w.2.2.2 nm).before args s0 = true ∧ va_Nc (am_exn x) nm s0) := fun w hw => by
      obtain ⟨y, hy5, hyx, hw0, hwl⟩ := hw
      exact ⟨hw0, am_exn y, hG.1 args _ hwl rfl, hG.2.2.2.2.2.2.2.1 x y hx5 hy5 (fun q => hyx q.symm)⟩
    cases hhd : am_hd z0.1 pc x with
    | none =>
      rw [hhd] at hok h6'
      refine vx_outP (own := (am_y z0.1).cls) (E := am_exn x) hown hlocks ?_ hce hcv hcl (fun t ht _ => ⟨x, ρ', al', B', I', P', G', hx5, rfl, h6', by rw [ht]; exact hR', hext', by rw [va_F, ht]; exact ⟨hS'.1, hS'.2.1⟩⟩) hS'.2.2 (by omega) (by omega)
      intro y hy
      rw [htab] at hy
      obtain ⟨w, hw, rfl⟩ := List.mem_map.mp hy
      exact Or.inr (hpass w (hok w hw))
    | some cc =>
      rw [hhd] at hok h6'
      obtain ⟨pre, z, suf, n, k1, k2, k3, k4, k5, k6, k7, k8, k9⟩ := hok
      refine vx_catch (own := (am_y z0.1).cls) (name := am_exn x) (E := am_exn x) hown (tableOf pre) ⟨z.1, z.2.1, z.2.2.1, z.2.2.2⟩ (tableOf suf) (by rw [htab, k1]; simp [tableOf]) ?_ (am_cov k3 k4) k5 (hG.1 args _ k6 rfl) (hG.1 args _ k7 rfl) hce hcv hcl ?_
      · intro y hy
        obtain ⟨w, hw, rfl⟩ := List.mem_map.mp hy
        exact Or.inr (hpass w (k2 w hw))
      · have hend : ∀ (pc' : Nat) (ls' : Array Slot), decode (am_by z0.1) pc' = .ok (.ireturn, 1) → W p l e R s0 mid args below meth c H' locs' (cells + mc) (slots + ms) (vx_MQ below (am_Qc D tc sz0 b0 Q ρ0 al0) (am_XC D tc sz0 b0 Q ρ0 al0) args s0 R.cells R.slots (am_A sz0)) (F0 mid pc' ls' [.int cc]) := fun pc' ls' hdd =>
          W.widen (by omega) (by omega) (vx_ret (W.zret (ty := .int) hx hb (hrt.trans hrt9) rfl (fun t ht hW => ⟨some (.int cc), ρ', al', B', I', P', G', rfl, ⟨trivial, trivial⟩, h6', by rw [ht]; exact hR', hext', by rw [va_F, ht]; exact ⟨hS'.1, hS'.2.1⟩⟩) hS'.2.2 hdd hlocks))
        rcases k9 with ⟨k0, d1, d2, d3, d4⟩ | ⟨k0, d1, d2, d3, d4⟩
        · exact lv_astore_n hx hb d1 rfl hL.1 (by rw [hL.2.2.2]; exact d2) rfl fun ls' _ => lv_iconst hx hb d3 k8 (hend _ _ d4)
        · exact lv_astore hx hb d1 hL.1 (by rw [hL.2.2.2]; exact d2) rfl fun ls' _ => lv_iconst hx hb d3 k8 (hend _ _ d4)
  all_goals first | exact hcase.elim | exact absurd hent.1 (by decide) | (have := hent.1; simp [am_pl] at this)
end SH
