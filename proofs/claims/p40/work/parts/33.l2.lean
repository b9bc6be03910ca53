/-! THE LAW: what is thrown; the calls that change nothing -/
section
variable {st : List Value} {B : Nat} {I C : am_I} {P : am_P} {G : am_G} {k s d : Nat} {Q : am_Q} {M : Nat → Nat → Int} {K : Int}
theorem pi_S (h : PI M) (h1 : M 100 20 = 1) : (0 ≤ M 100 22 ∧ M 100 22 < 1024) ∧ 0 ≤ M 100 21 ∧ M 100 21 ≤ 10 := by
  obtain ⟨q1, q2, _⟩ := h.2 h1
  have := BS_lt M
  have := ons_bd (BS M)
  omega
end
section
variable {K : Int} {M : Nat → Nat → Int}
theorem dno_0 (c : Int) : (dno M c).1 100 0 = c := am_u_eq M 100 0 _
theorem dc_film (t : Int) : (d_film M t).1 100 0 = 0 ∨ (d_film M t).1 100 0 = 1 ∨ (d_film M t).1 100 0 = 2 := by
  unfold d_film; split
  · exact Or.inr (Or.inl (dno_0 1))
  · split
    · exact Or.inr (Or.inr (dno_0 2))
    · exact Or.inl (by simp [dch, am_u])
theorem dc_sound (c a b : Int) : (d_sound M c a b).1 100 0 = 0 ∨ (d_sound M c a b).1 100 0 = 1 ∨ (d_sound M c a b).1 100 0 = 2 := by
  unfold d_sound; split
  · exact Or.inr (Or.inl (dno_0 1))
  · split
    · exact Or.inr (Or.inr (dno_0 2))
    · exact Or.inl (by simp [dch, am_u])
theorem dc_unsound : (d_unsound M).1 100 0 = 0 ∨ (d_unsound M).1 100 0 = 1 := by
  unfold d_unsound; split
  · exact Or.inr (dno_0 1)
  · exact Or.inl (by simp [dch, am_u])
theorem dc_gapAt (u ix w : Int) : (d_gapAt M u ix w).1 100 0 = 0 ∨ (d_gapAt M u ix w).1 100 0 = 1 := by
  unfold d_gapAt; split
  · exact Or.inr (am_u_eq M 100 0 _)
  · exact Or.inl (am_u_eq M 100 0 _)
theorem iv_gapAt (h : INV K M) (u ix w : Int) : INV (K + 1000) (d_gapAt M u ix w).1 := by
  unfold d_gapAt; split
  · exact INV_0 h 1
  · exact INV_0 h 0
theorem dc_named (w t : Int) : (d_named M w t).1 100 0 = 0 ∨ (d_named M w t).1 100 0 = 1 := by
  unfold d_named; split
  · exact Or.inr (dno_0 1)
  · exact Or.inl (by simp [dch, am_u])
theorem dc_voice (a b : Int) : (d_voice M a b).1 100 0 = 0 ∨ (d_voice M a b).1 100 0 = 1 := by
  unfold d_voice; split
  · exact Or.inr (dno_0 1)
  · exact Or.inl (by simp [dch, am_u])
theorem dc_fact (a b w e o : Int) : (d_fact M a b w e o).1 100 0 = 0 ∨ (d_fact M a b w e o).1 100 0 = 1 ∨ (d_fact M a b w e o).1 100 0 = 2 := by
  unfold d_fact; split
  · exact Or.inr (Or.inl (dno_0 1))
  · split
    · exact Or.inr (Or.inr (dno_0 2))
    · exact Or.inl (by simp [dch, am_u])
theorem dc_drop (f : Int) : (d_drop M f).1 100 0 = 0 ∨ (d_drop M f).1 100 0 = 1 := by
  unfold d_drop; split
  · exact Or.inr (dno_0 1)
  · left
    show dch (goes (am_u M 100 0 0) f.toNat) 100 0 = 0
    rw [drop_at, if_neg (by omega), if_neg (by omega), if_neg (by omega), if_neg (by omega), if_neg (by omega), if_neg (by omega), if_pos ⟨rfl, rfl⟩]
theorem dc_names (f w : Int) : (d_names M f w).1 100 0 = 0 ∨ (d_names M f w).1 100 0 = 1 ∨ (d_names M f w).1 100 0 = 2 := by
  unfold d_names; split
  · exact Or.inr (Or.inl (dno_0 1))
  · split
    · exact Or.inr (Or.inr (dno_0 2))
    · exact Or.inl (by simp [dch, am_u])
theorem dc_thing (f w a : Int) : (d_thing M f w a).1 100 0 = 0 ∨ (d_thing M f w a).1 100 0 = 1 ∨ (d_thing M f w a).1 100 0 = 2 := by
  unfold d_thing; split
  · exact Or.inr (Or.inl (dno_0 1))
  · split
    · exact Or.inr (Or.inr (dno_0 2))
    · exact Or.inl (by simp [dch, am_u])
theorem dc_version (f m : Int) : (d_version M f m).1 100 0 = 0 ∨ (d_version M f m).1 100 0 = 1 ∨ (d_version M f m).1 100 0 = 2 ∨ (d_version M f m).1 100 0 = 3 := by
  unfold d_version; split
  · exact Or.inr (Or.inl (dno_0 1))
  · split
    · exact Or.inr (Or.inr (Or.inl (dno_0 2)))
    · split
      · exact Or.inr (Or.inr (Or.inr (dno_0 3)))
      · exact Or.inl (by simp [dch, am_u])
theorem nvc_c (f v : Int) : nvc M f v = 0 ∨ nvc M f v = 1 ∨ nvc M f v = 2 := by
  unfold nvc; split
  · split
    · exact Or.inl rfl
    · exact Or.inr (Or.inr rfl)
  · exact Or.inr (Or.inl rfl)
theorem dc_ticks (f v : Int) : (d_ticks M f v).1 100 0 = 0 ∨ (d_ticks M f v).1 100 0 = 1 ∨ (d_ticks M f v).1 100 0 = 2 := by
  show am_u M 100 0 (nvc M f v) 100 0 = 0 ∨ am_u M 100 0 (nvc M f v) 100 0 = 1 ∨ am_u M 100 0 (nvc M f v) 100 0 = 2
  rw [am_u_eq]; exact nvc_c f v
theorem iv_ticks (h : INV K M) (f v : Int) : INV (K + 1000) (d_ticks M f v).1 := INV_0 h _
theorem dc_canStart (f v t : Int) : (d_canStart M f v t).1 100 0 = 0 ∨ (d_canStart M f v t).1 100 0 = 1 ∨ (d_canStart M f v t).1 100 0 = 2 := by
  show am_u M 100 0 (nvc M f v) 100 0 = 0 ∨ am_u M 100 0 (nvc M f v) 100 0 = 1 ∨ am_u M 100 0 (nvc M f v) 100 0 = 2
  rw [am_u_eq]; exact nvc_c f v
theorem iv_canStart (h : INV K M) (f v t : Int) : INV (K + 1000) (d_canStart M f v t).1 := INV_0 h _
theorem db_canStart (f v t : Int) : (d_canStart M f v t).2 = 0 ∨ (d_canStart M f v t).2 = 1 := by
  unfold d_canStart; dsimp only; split
  · exact Or.inr rfl
  · exact Or.inl rfl
theorem dc_firstStart (f v t : Int) : (d_firstStart M f v t).1 100 0 = 0 ∨ (d_firstStart M f v t).1 100 0 = 1 ∨ (d_firstStart M f v t).1 100 0 = 2 := by
  unfold d_firstStart; split
  · rw [dno_0]; exact nvc_c f v
  · split
    · exact Or.inl (am_u_eq M 100 0 _)
    · exact Or.inr (Or.inr (dno_0 2))
theorem iv_firstStart (h : INV K M) (f v t : Int) : INV (K + 1000) (d_firstStart M f v t).1 := by
  unfold d_firstStart; split
  · exact INV_0 h _
  · split
    · exact INV_0 h 0
    · exact INV_0 h 2
theorem dc_weight : (d_weight M).1 100 0 = 0 ∨ (d_weight M).1 100 0 = 1 := by
  unfold d_weight; split
  · exact Or.inr (dno_0 1)
  · exact Or.inl (am_u_eq M 100 0 _)
theorem iv_weight (h : INV K M) : INV (K + 1000) (d_weight M).1 := by
  unfold d_weight; split
  · exact INV_0 h 1
  · exact INV_0 h 0
theorem dc_loss : (d_loss M).1 100 0 = 0 ∨ (d_loss M).1 100 0 = 1 := by
  unfold d_loss; split
  · exact Or.inr (dno_0 1)
  · exact Or.inl (am_u_eq M 100 0 _)
theorem iv_loss (h : INV K M) : INV (K + 1000) (d_loss M).1 := by
  unfold d_loss; split
  · exact INV_0 h 1
  · exact INV_0 h 0
theorem dc_planned (x : Int) : (d_planned M x).1 100 0 = 0 ∨ (d_planned M x).1 100 0 = 1 ∨ (d_planned M x).1 100 0 = 2 := by
  unfold d_planned; split
  · exact Or.inr (Or.inl (dno_0 1))
  · split
    · exact Or.inr (Or.inr (dno_0 2))
    · exact Or.inl (am_u_eq M 100 0 _)
theorem iv_planned (h : INV K M) (x : Int) : INV (K + 1000) (d_planned M x).1 := by
  unfold d_planned; split
  · exact INV_0 h 1
  · split
    · exact INV_0 h 2
    · exact INV_0 h 0
theorem npc_c (f : Int) : npc M f = 0 ∨ npc M f = 1 ∨ npc M f = 2 ∨ npc M f = 3 := by
  unfold npc; repeat' split
  all_goals omega
theorem dc_start (f : Int) : (d_start M f).1 100 0 = 0 ∨ (d_start M f).1 100 0 = 1 ∨ (d_start M f).1 100 0 = 2 ∨ (d_start M f).1 100 0 = 3 := by
  unfold d_start; split
  · exact Or.inl (am_u_eq M 100 0 _)
  · rw [dno_0]; exact npc_c f
theorem iv_start (h : INV K M) (f : Int) : INV (K + 1000) (d_start M f).1 := by
  unfold d_start; split
  · exact INV_0 h 0
  · exact INV_0 h _
theorem dc_versionOf (f : Int) : (d_versionOf M f).1 100 0 = 0 ∨ (d_versionOf M f).1 100 0 = 1 ∨ (d_versionOf M f).1 100 0 = 2 ∨ (d_versionOf M f).1 100 0 = 3 := by
  unfold d_versionOf; split
  · exact Or.inl (am_u_eq M 100 0 _)
  · rw [dno_0]; exact npc_c f
theorem iv_versionOf (h : INV K M) (f : Int) : INV (K + 1000) (d_versionOf M f).1 := by
  unfold d_versionOf; split
  · exact INV_0 h 0
  · exact INV_0 h _
theorem dc_speak (u : Int) : (d_speak M u).1 100 0 = 0 ∨ (d_speak M u).1 100 0 = 1 := by
  unfold d_speak; split
  · exact Or.inr (dno_0 1)
  · left; dsimp only; split <;> simp [am_u]
theorem db_speak (h : INV K M) (u : Int) : (d_speak M u).2 = 0 ∨ (d_speak M u).2 = 1 := by
  unfold d_speak; split
  · exact Or.inl rfl
  · exact h.2.1.1.2.1
theorem dc_call (w : Int) : (d_call M w).1 100 0 = 0 ∨ (d_call M w).1 100 0 = 1 ∨ (d_call M w).1 100 0 = 2 := by
  unfold d_call; split
  · exact Or.inr (Or.inl (dno_0 1))
  · split
    · exact Or.inr (Or.inr (dno_0 2))
    · exact Or.inl (by simp [am_u])
theorem db_call (h : INV K M) (w : Int) : (d_call M w).2 = 0 ∨ (d_call M w).2 = 1 := by
  unfold d_call; split
  · exact Or.inl rfl
  · split
    · exact Or.inl rfl
    · next hg => exact h.2.1.1.2.2.2.2.2.1 w.toNat (by omega)
theorem dc_cue (f : Int) : (d_cue M f).1 100 0 = 0 ∨ (d_cue M f).1 100 0 = 1 ∨ (d_cue M f).1 100 0 = 2 ∨ (d_cue M f).1 100 0 = 3 := by
  unfold d_cue; split
  · exact Or.inr (Or.inl (dno_0 1))
  · split
    · exact Or.inr (Or.inr (Or.inl (dno_0 2)))
    · split
      · exact Or.inl (by simp [am_u])
      · exact Or.inr (Or.inr (Or.inr (dno_0 3)))
theorem dc_tick (h : INV K M) (hK : K ≤ 1000000) (m : Int) : (d_tick M m).1 100 0 = 0 ∨ (d_tick M m).1 100 0 = 1 ∨ (d_tick M m).1 100 0 = 2 := by
  unfold d_tick; split
  · exact Or.inr (Or.inl (dno_0 1))
  · split
    · exact Or.inr (Or.inr (dno_0 2))
    · exact Or.inl (tkn_bd h.2.1.1 hK m.toNat (by omega)).2.2.2.2.2
theorem dc_told (f : Int) : (d_told M f).1 100 0 = 0 ∨ (d_told M f).1 100 0 = 1 ∨ (d_told M f).1 100 0 = 2 := by
  unfold d_told; split
  · exact Or.inr (Or.inl (am_u_eq M 100 0 _))
  · split
    · exact Or.inr (Or.inr (am_u_eq M 100 0 _))
    · exact Or.inl (am_u_eq M 100 0 _)
theorem iv_told (h : INV K M) (f : Int) : INV (K + 1000) (d_told M f).1 := by
  unfold d_told; split
  · exact INV_0 h 1
  · split
    · exact INV_0 h 2
    · exact INV_0 h 0
theorem dc_mark (f l m : Int) : (d_mark M f l m).1 100 0 = 0 ∨ (d_mark M f l m).1 100 0 = 1 ∨ (d_mark M f l m).1 100 0 = 2 := by
  unfold d_mark; split
  · exact Or.inr (Or.inl (dno_0 1))
  · split
    · exact Or.inr (Or.inr (dno_0 2))
    · exact Or.inl (by simp [am_u])
theorem dc_review (f : Int) : (d_review M f).1 100 0 = 0 ∨ (d_review M f).1 100 0 = 1 ∨ (d_review M f).1 100 0 = 2 := by
  unfold d_review; split
  · exact Or.inr (Or.inl (dno_0 1))
  · split
    · exact Or.inr (Or.inr (dno_0 2))
    · exact Or.inl (am_u_eq M 100 0 _)
theorem iv_review (h : INV K M) (f : Int) : INV (K + 1000) (d_review M f).1 := by
  unfold d_review; split
  · exact INV_0 h 1
  · split
    · exact INV_0 h 2
    · exact INV_0 h 0
theorem t64_0 : (iI 0).toInt64 = (0 : Int64) := by decide +kernel
theorem t64_1 : (iI 1).toInt64 = (1 : Int64) := by decide +kernel
theorem i2c_iI (x : Int32) : ∃ c : Int, (x.toUInt32 % 65536).toInt32 = iI c ∧ 0 ≤ c ∧ c ≤ 65535 := by
  have h1 : (x.toUInt32 % 65536).toNat < 65536 := by
    rw [UInt32.toNat_mod]; exact Nat.mod_lt _ (by decide)
  refine ⟨((x.toUInt32 % 65536).toNat : Int), ?_, by omega, by omega⟩
  rw [← iI_nI (x.toUInt32 % 65536).toNat]
  show (x.toUInt32 % 65536).toInt32 = Int32.ofNat (x.toUInt32 % 65536).toNat
  apply Int32.toBitVec_inj.1
  show (x.toUInt32 % 65536).toBitVec = BitVec.ofNat 32 (x.toUInt32 % 65536).toNat
  apply BitVec.eq_of_toNat_eq
  rw [BitVec.toNat_ofNat, Nat.mod_eq_of_lt (by omega)]; rfl
end
