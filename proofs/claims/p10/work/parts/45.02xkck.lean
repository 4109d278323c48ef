set_option maxHeartbeats 0 in
theorem xk_c_22_ok (fz : Bool) : sx_ckc xk_T (xk_U fz) 400 xk_c_22 = true := by cases fz <;> decide +kernel
set_option maxHeartbeats 0 in
theorem xk_c_23_ok (fz : Bool) : sx_ckc xk_T (xk_U fz) 400 xk_c_23 = true := by cases fz <;> decide +kernel
set_option maxHeartbeats 0 in
theorem xk_c_24_ok (fz : Bool) : sx_ckc xk_T (xk_U fz) 400 xk_c_24 = true := by cases fz <;> decide +kernel
set_option maxHeartbeats 0 in
theorem xk_c_25_ok (fz : Bool) : sx_ckc xk_T (xk_U fz) 400 xk_c_25 = true := by cases fz <;> decide +kernel
set_option maxHeartbeats 0 in
theorem xk_c_26_ok (fz : Bool) : sx_ckc xk_T (xk_U fz) 400 xk_c_26 = true := by cases fz <;> decide +kernel
set_option maxHeartbeats 0 in
theorem xk_c_27_ok (fz : Bool) : sx_ckc xk_T (xk_U fz) 400 xk_c_27 = true := by cases fz <;> decide +kernel
set_option maxHeartbeats 0 in
theorem xk_c_28_ok (fz : Bool) : sx_ckc xk_T (xk_U fz) 400 xk_c_28 = true := by cases fz <;> decide +kernel
set_option maxHeartbeats 0 in
theorem xk_c_29_ok (fz : Bool) : sx_ckc xk_T (xk_U fz) 400 xk_c_29 = true := by cases fz <;> decide +kernel
set_option maxHeartbeats 0 in
theorem xk_c_30_ok (fz : Bool) : sx_ckc xk_T (xk_U fz) 400 xk_c_30 = true := by cases fz <;> decide +kernel
set_option maxHeartbeats 0 in
theorem xk_c_31_ok (fz : Bool) : sx_ckc xk_T (xk_U fz) 400 xk_c_31 = true := by cases fz <;> decide +kernel
set_option maxHeartbeats 0 in
theorem xk_c_32_ok (fz : Bool) : sx_ckc xk_T (xk_U fz) 400 xk_c_32 = true := by cases fz <;> decide +kernel
