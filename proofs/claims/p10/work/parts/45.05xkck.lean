set_option maxHeartbeats 0 in
theorem xk_c_55_ok (fz : Bool) : sx_ckc xk_T (xk_U fz) 400 xk_c_55 = true := by cases fz <;> decide +kernel
set_option maxHeartbeats 0 in
theorem xk_c_56_ok (fz : Bool) : sx_ckc xk_T (xk_U fz) 400 xk_c_56 = true := by cases fz <;> decide +kernel
set_option maxHeartbeats 0 in
theorem xk_c_57_ok (fz : Bool) : sx_ckc xk_T (xk_U fz) 400 xk_c_57 = true := by cases fz <;> decide +kernel
set_option maxHeartbeats 0 in
theorem xk_c_58_ok (fz : Bool) : sx_ckc xk_T (xk_U fz) 400 xk_c_58 = true := by cases fz <;> decide +kernel
set_option maxHeartbeats 0 in
theorem xk_c_59_ok (fz : Bool) : sx_ckc xk_T (xk_U fz) 400 xk_c_59 = true := by cases fz <;> decide +kernel
set_option maxHeartbeats 0 in
theorem xk_c_60_ok (fz : Bool) : sx_ckc xk_T (xk_U fz) 400 xk_c_60 = true := by cases fz <;> decide +kernel
set_option maxHeartbeats 0 in
theorem xk_c_61_ok (fz : Bool) : sx_ckc xk_T (xk_U fz) 400 xk_c_61 = true := by cases fz <;> decide +kernel
set_option maxHeartbeats 0 in
theorem xk_c_62_ok (fz : Bool) : sx_ckc xk_T (xk_U fz) 400 xk_c_62 = true := by cases fz <;> decide +kernel
set_option maxHeartbeats 0 in
theorem xk_c_63_ok (fz : Bool) : sx_ckc xk_T (xk_U fz) 400 xk_c_63 = true := by cases fz <;> decide +kernel
set_option maxHeartbeats 0 in
theorem xk_c_64_ok (fz : Bool) : sx_ckc xk_T (xk_U fz) 400 xk_c_64 = true := by cases fz <;> decide +kernel
theorem xk_ck (fz : Bool) : sx_ck xk_T (xk_U fz) 400 = true := by
  unfold sx_ck
  have h : ∀ c ∈ xk_T.2.1, sx_ckc xk_T (xk_U fz) 400 c = true := by
    intro c hc
    simp only [xk_T, List.mem_cons, List.not_mem_nil, or_false] at hc
    rcases hc with rfl | rfl | rfl | rfl | rfl | rfl | rfl | rfl | rfl | rfl | rfl | rfl | rfl | rfl | rfl | rfl | rfl | rfl | rfl | rfl | rfl | rfl | rfl | rfl | rfl | rfl | rfl | rfl | rfl | rfl | rfl | rfl | rfl | rfl | rfl | rfl | rfl | rfl | rfl | rfl | rfl | rfl | rfl | rfl | rfl | rfl | rfl | rfl | rfl | rfl | rfl | rfl | rfl | rfl | rfl | rfl | rfl | rfl | rfl | rfl | rfl | rfl | rfl | rfl
    · exact xk_c_1_ok fz
    · exact xk_c_2_ok fz
    · exact xk_c_3_ok fz
    · exact xk_c_4_ok fz
    · exact xk_c_5_ok fz
    · exact xk_c_6_ok fz
    · exact xk_c_7_ok fz
    · exact xk_c_8_ok fz
    · exact xk_c_9_ok fz
    · exact xk_c_10_ok fz
    · exact xk_c_11_ok fz
    · exact xk_c_12_ok fz
    · exact xk_c_13_ok fz
    · exact xk_c_14_ok fz
    · exact xk_c_15_ok fz
    · exact xk_c_16_ok fz
    · exact xk_c_17_ok fz
    · exact xk_c_18_ok fz
    · exact xk_c_19_ok fz
    · exact xk_c_20_ok fz
    · exact xk_c_21_ok fz
    · exact xk_c_22_ok fz
    · exact xk_c_23_ok fz
    · exact xk_c_24_ok fz
    · exact xk_c_25_ok fz
    · exact xk_c_26_ok fz
    · exact xk_c_27_ok fz
    · exact xk_c_28_ok fz
    · exact xk_c_29_ok fz
    · exact xk_c_30_ok fz
    · exact xk_c_31_ok fz
    · exact xk_c_32_ok fz
    · exact xk_c_33_ok fz
    · exact xk_c_34_ok fz
    · exact xk_c_35_ok fz
    · exact xk_c_36_ok fz
    · exact xk_c_37_ok fz
    · exact xk_c_38_ok fz
    · exact xk_c_39_ok fz
    · exact xk_c_40_ok fz
    · exact xk_c_41_ok fz
    · exact xk_c_42_ok fz
    · exact xk_c_43_ok fz
    · exact xk_c_44_ok fz
    · exact xk_c_45_ok fz
    · exact xk_c_46_ok fz
    · exact xk_c_47_ok fz
    · exact xk_c_48_ok fz
    · exact xk_c_49_ok fz
    · exact xk_c_50_ok fz
    · exact xk_c_51_ok fz
    · exact xk_c_52_ok fz
    · exact xk_c_53_ok fz
    · exact xk_c_54_ok fz
    · exact xk_c_55_ok fz
    · exact xk_c_56_ok fz
    · exact xk_c_57_ok fz
    · exact xk_c_58_ok fz
    · exact xk_c_59_ok fz
    · exact xk_c_60_ok fz
    · exact xk_c_61_ok fz
    · exact xk_c_62_ok fz
    · exact xk_c_63_ok fz
    · exact xk_c_64_ok fz
  rw [Bool.and_eq_true]
  exact ⟨List.all_eq_true.mpr h, by decide +kernel⟩
