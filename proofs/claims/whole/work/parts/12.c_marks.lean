section
variable {st : List Value} {B : Nat} {I : am_I} {P : am_P} {G : am_G} {k s d : Nat} {Q : am_Q}
set_option maxHeartbeats 1000000 in
theorem c30_test {f l mk : Int32} (hP : P 42 0 = some 43) : am_Ev 30 0 [some (.ref 42), some (.int f), some (.int l), some (.int mk), none, none] [] B I P G k s d Q := by
  simp only [e30_0, e30_1, e30_3, e30_4, e30_5, e30_6, e30_8, e30_10, e30_13, e30_15, e30_16, e30_19, e30_20, e30_23, e30_24, e30_25, e30_26, e30_29, e30_31, e30_32, e30_34, e30_35, e30_38, e30_40, e30_41, e30_42, e30_44, am_rf_ref, am_rf_rf, am_rf_null, hP, va_rf_some, TY42, TY43, true_and, and_true, am_ia10]
  trace_state
  sorry
end
