set_option maxHeartbeats 0 in
theorem xk_c_11_ok (fz : Bool) : sx_ckc xk_T (xk_U fz) 400 xk_c_11 = true := by cases fz <;> decide +kernel
set_option maxHeartbeats 0 in
theorem xk_c_12_ok (fz : Bool) : sx_ckc xk_T (xk_U fz) 400 xk_c_12 = true := by cases fz <;> decide +kernel
set_option maxHeartbeats 0 in
theorem xk_c_13_ok (fz : Bool) : sx_ckc xk_T (xk_U fz) 400 xk_c_13 = true := by cases fz <;> decide +kernel
set_option maxHeartbeats 0 in
theorem xk_c_14_ok (fz : Bool) : sx_ckc xk_T (xk_U fz) 400 xk_c_14 = true := by cases fz <;> decide +kernel
set_option maxHeartbeats 0 in
theorem xk_c_15_ok (fz : Bool) : sx_ckc xk_T (xk_U fz) 400 xk_c_15 = true := by cases fz <;> decide +kernel
set_option maxHeartbeats 0 in
theorem xk_c_16_ok (fz : Bool) : sx_ckc xk_T (xk_U fz) 400 xk_c_16 = true := by cases fz <;> decide +kernel
set_option maxHeartbeats 0 in
theorem xk_c_17_ok (fz : Bool) : sx_ckc xk_T (xk_U fz) 400 xk_c_17 = true := by cases fz <;> decide +kernel
set_option maxHeartbeats 0 in
theorem xk_c_18_ok (fz : Bool) : sx_ckc xk_T (xk_U fz) 400 xk_c_18 = true := by cases fz <;> decide +kernel
set_option maxHeartbeats 0 in
theorem xk_c_19_ok (fz : Bool) : sx_ckc xk_T (xk_U fz) 400 xk_c_19 = true := by cases fz <;> decide +kernel
set_option maxHeartbeats 0 in
theorem xk_c_20_ok (fz : Bool) : sx_ckc xk_T (xk_U fz) 400 xk_c_20 = true := by cases fz <;> decide +kernel
set_option maxHeartbeats 0 in
theorem xk_c_21_ok (fz : Bool) : sx_ckc xk_T (xk_U fz) 400 xk_c_21 = true := by cases fz <;> decide +kernel
