/-! the contracts hold, by the kernel (printed) -/
def xk_U (fz : Bool) : sxU := ⟨(cx0 fz, xk_G, fun _ => 0, (fun _ => .inl 0, 0, 0), (fun _ _ => 0, fun _ _ => 0, fun _ _ => none)), (show 0 < 22 from Nat.le_of_ble_eq_true rfl), fun a h1 h2 => absurd h2 (Nat.not_lt_zero _)⟩
set_option maxHeartbeats 0 in
theorem xk_c_1_ok (fz : Bool) : sx_ckc xk_T (xk_U fz) 400 xk_c_1 = true := by cases fz <;> decide +kernel
set_option maxHeartbeats 0 in
theorem xk_c_2_ok (fz : Bool) : sx_ckc xk_T (xk_U fz) 400 xk_c_2 = true := by cases fz <;> decide +kernel
set_option maxHeartbeats 0 in
theorem xk_c_3_ok (fz : Bool) : sx_ckc xk_T (xk_U fz) 400 xk_c_3 = true := by cases fz <;> decide +kernel
set_option maxHeartbeats 0 in
theorem xk_c_4_ok (fz : Bool) : sx_ckc xk_T (xk_U fz) 400 xk_c_4 = true := by cases fz <;> decide +kernel
set_option maxHeartbeats 0 in
theorem xk_c_5_ok (fz : Bool) : sx_ckc xk_T (xk_U fz) 400 xk_c_5 = true := by cases fz <;> decide +kernel
set_option maxHeartbeats 0 in
theorem xk_c_6_ok (fz : Bool) : sx_ckc xk_T (xk_U fz) 400 xk_c_6 = true := by cases fz <;> decide +kernel
set_option maxHeartbeats 0 in
theorem xk_c_7_ok (fz : Bool) : sx_ckc xk_T (xk_U fz) 400 xk_c_7 = true := by cases fz <;> decide +kernel
set_option maxHeartbeats 0 in
theorem xk_c_8_ok (fz : Bool) : sx_ckc xk_T (xk_U fz) 400 xk_c_8 = true := by cases fz <;> decide +kernel
set_option maxHeartbeats 0 in
theorem xk_c_9_ok (fz : Bool) : sx_ckc xk_T (xk_U fz) 400 xk_c_9 = true := by cases fz <;> decide +kernel
set_option maxHeartbeats 0 in
theorem xk_c_10_ok (fz : Bool) : sx_ckc xk_T (xk_U fz) 400 xk_c_10 = true := by cases fz <;> decide +kernel
