set_option maxHeartbeats 0 in
theorem xk_c_44_ok (fz : Bool) : sx_ckc xk_T (xk_U fz) 400 xk_c_44 = true := by cases fz <;> decide +kernel
set_option maxHeartbeats 0 in
theorem xk_c_45_ok (fz : Bool) : sx_ckc xk_T (xk_U fz) 400 xk_c_45 = true := by cases fz <;> decide +kernel
set_option maxHeartbeats 0 in
theorem xk_c_46_ok (fz : Bool) : sx_ckc xk_T (xk_U fz) 400 xk_c_46 = true := by cases fz <;> decide +kernel
set_option maxHeartbeats 0 in
theorem xk_c_47_ok (fz : Bool) : sx_ckc xk_T (xk_U fz) 400 xk_c_47 = true := by cases fz <;> decide +kernel
set_option maxHeartbeats 0 in
theorem xk_c_48_ok (fz : Bool) : sx_ckc xk_T (xk_U fz) 400 xk_c_48 = true := by cases fz <;> decide +kernel
set_option maxHeartbeats 0 in
theorem xk_c_49_ok (fz : Bool) : sx_ckc xk_T (xk_U fz) 400 xk_c_49 = true := by cases fz <;> decide +kernel
set_option maxHeartbeats 0 in
theorem xk_c_50_ok (fz : Bool) : sx_ckc xk_T (xk_U fz) 400 xk_c_50 = true := by cases fz <;> decide +kernel
set_option maxHeartbeats 0 in
theorem xk_c_51_ok (fz : Bool) : sx_ckc xk_T (xk_U fz) 400 xk_c_51 = true := by cases fz <;> decide +kernel
set_option maxHeartbeats 0 in
theorem xk_c_52_ok (fz : Bool) : sx_ckc xk_T (xk_U fz) 400 xk_c_52 = true := by cases fz <;> decide +kernel
set_option maxHeartbeats 0 in
theorem xk_c_53_ok (fz : Bool) : sx_ckc xk_T (xk_U fz) 400 xk_c_53 = true := by cases fz <;> decide +kernel
set_option maxHeartbeats 0 in
theorem xk_c_54_ok (fz : Bool) : sx_ckc xk_T (xk_U fz) 400 xk_c_54 = true := by cases fz <;> decide +kernel
