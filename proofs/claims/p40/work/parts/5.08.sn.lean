/-! SOUNDNESS, its rows -/
theorem am_cl_at {c : Nat} (h : c < 10) : am_cl[c]? = some (am_C c, am_T c, am_cN c) := by
  match c, h with
  | 0, _ => rfl
  | 1, _ => rfl
  | 2, _ => rfl
  | 3, _ => rfl
  | 4, _ => rfl
  | 5, _ => rfl
  | 6, _ => rfl
  | 7, _ => rfl
  | 8, _ => rfl
  | 9, _ => rfl
def am_uwsl : List Jvm.Cond := (List.range 10).flatMap (fun c => u_ws (am_C c) (am_T c) (am_cN c))
set_option maxRecDepth 100000 in
theorem am_uws_ok : (am_uwsl.all (fun w => decide (w ∈ lw_tbl) && am_pw w)) = true := by decide +kernel
theorem am_uws {c : Nat} (h : c < 10) : ∀ w ∈ u_ws (am_C c) (am_T c) (am_cN c), w ∈ lw_tbl ∧ am_pw w = true := by
  intro w hw
  have h1 := List.all_eq_true.mp am_uws_ok w (List.mem_flatMap.mpr ⟨c, List.mem_range.mpr h, hw⟩)
  simp only [Bool.and_eq_true, decide_eq_true_eq] at h1
  exact h1
theorem am_ty_ok {c k : Nat} (h : c < 10) (hk : k < am_cN c) : parseFieldDescriptor (am_T c k).2.2.1 = some (am_ty c k) := by
  match c, h with
  | 0, _ => exact tyJx4a65c_ok k hk
  | 1, _ => exact tyX0_ok k hk
  | 2, _ => exact tyX1_ok k hk
  | 3, _ => exact tyX2_ok k hk
  | 4, _ => exact tyX3_ok k hk
  | 5, _ => exact tyX4_ok k hk
  | 6, _ => exact tyX5_ok k hk
  | 7, _ => exact tyX6_ok k hk
  | 8, _ => exact tyX7_ok k hk
  | 9, _ => exact tyX7_ok k hk
theorem am_nm_ok {c : Nat} (h : c < 10) : ∀ a, a < am_cN c → ∀ b, b < am_cN c → a ≠ b → (am_T c a).2.1 ≠ (am_T c b).2.1 := by
  match c, h with
  | 0, _ => exact nmJx4a65c
  | 1, _ => exact nmX0
  | 2, _ => exact nmX1
  | 3, _ => exact nmX2
  | 4, _ => exact nmX3
  | 5, _ => exact nmX4
  | 6, _ => exact nmX5
  | 7, _ => exact nmX6
  | 8, _ => exact nmX7
  | 9, _ => exact nmX7
