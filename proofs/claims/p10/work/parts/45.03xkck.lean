set_option maxHeartbeats 0 in
theorem xk_c_33_ok (fz : Bool) : sx_ckc xk_T (xk_U fz) 400 xk_c_33 = true := by cases fz <;> decide +kernel
set_option maxHeartbeats 0 in
theorem xk_c_34_ok (fz : Bool) : sx_ckc xk_T (xk_U fz) 400 xk_c_34 = true := by cases fz <;> decide +kernel
set_option maxHeartbeats 0 in
theorem xk_c_35_ok (fz : Bool) : sx_ckc xk_T (xk_U fz) 400 xk_c_35 = true := by cases fz <;> decide +kernel
set_option maxHeartbeats 0 in
theorem xk_c_36_ok (fz : Bool) : sx_ckc xk_T (xk_U fz) 400 xk_c_36 = true := by cases fz <;> decide +kernel
set_option maxHeartbeats 0 in
theorem xk_c_37_ok (fz : Bool) : sx_ckc xk_T (xk_U fz) 400 xk_c_37 = true := by cases fz <;> decide +kernel
set_option maxHeartbeats 0 in
theorem xk_c_38_ok (fz : Bool) : sx_ckc xk_T (xk_U fz) 400 xk_c_38 = true := by cases fz <;> decide +kernel
set_option maxHeartbeats 0 in
theorem xk_c_39_ok (fz : Bool) : sx_ckc xk_T (xk_U fz) 400 xk_c_39 = true := by cases fz <;> decide +kernel
set_option maxHeartbeats 0 in
theorem xk_c_40_ok (fz : Bool) : sx_ckc xk_T (xk_U fz) 400 xk_c_40 = true := by cases fz <;> decide +kernel
set_option maxHeartbeats 0 in
theorem xk_c_41_ok (fz : Bool) : sx_ckc xk_T (xk_U fz) 400 xk_c_41 = true := by cases fz <;> decide +kernel
set_option maxHeartbeats 0 in
theorem xk_c_42_ok (fz : Bool) : sx_ckc xk_T (xk_U fz) 400 xk_c_42 = true := by cases fz <;> decide +kernel
set_option maxHeartbeats 0 in
theorem xk_c_43_ok (fz : Bool) : sx_ckc xk_T (xk_U fz) 400 xk_c_43 = true := by cases fz <;> decide +kernel
