/-! the contracts hold, by the kernel (printed) -/
def xk_U (fz : Bool) : sxU := ⟨(cx0 fz, xk_G, fun _ => 0, (fun _ => .inl 0, 0, 0), (fun _ _ => 0, fun _ _ => 0, fun _ _ => none)), (show 0 < 22 from Nat.le_of_ble_eq_true rfl), fun a h1 h2 => absurd h2 (Nat.not_lt_zero _)⟩
theorem xk_T30 : ∀ q ∈ xk_T.1, q.1 ≠ 30 := by decide +kernel
theorem xk_c2 (fz : Bool) (k : sxC) (hk : k.1 ≠ 30) : sx_ckc xk_T (xk_U fz) 400 k = sx_ckc xk_T (xk_U true) 400 k := by
  unfold xk_U
  exact sx_ckc_c3 (T := xk_T) (C := cx0 fz) (C' := cx0 true) (G := xk_G) (rg := fun _ => 0) (S := (fun _ => .inl 0, 0, 0)) (m := (fun _ _ => 0, fun _ _ => 0, fun _ _ => none)) (xk_U fz).2.1 (xk_U fz).2.2 (xk_U true).2.1 (xk_U true).2.2 (cx0_c3 fz) xk_T30 (cx0_c4 fz) 400 k hk
set_option maxHeartbeats 0 in
theorem xk_c_1_ok (fz : Bool) : sx_ckc xk_T (xk_U fz) 400 xk_c_1 = true := (xk_c2 fz xk_c_1 (by decide)).trans (by decide +kernel)
set_option maxHeartbeats 0 in
theorem xk_c_2_ok (fz : Bool) : sx_ckc xk_T (xk_U fz) 400 xk_c_2 = true := (xk_c2 fz xk_c_2 (by decide)).trans (by decide +kernel)
set_option maxHeartbeats 0 in
theorem xk_c_3_ok (fz : Bool) : sx_ckc xk_T (xk_U fz) 400 xk_c_3 = true := (xk_c2 fz xk_c_3 (by decide)).trans (by decide +kernel)
set_option maxHeartbeats 0 in
theorem xk_c_4_ok (fz : Bool) : sx_ckc xk_T (xk_U fz) 400 xk_c_4 = true := (xk_c2 fz xk_c_4 (by decide)).trans (by decide +kernel)
set_option maxHeartbeats 0 in
theorem xk_c_5_ok (fz : Bool) : sx_ckc xk_T (xk_U fz) 400 xk_c_5 = true := (xk_c2 fz xk_c_5 (by decide)).trans (by decide +kernel)
set_option maxHeartbeats 0 in
theorem xk_c_6_ok (fz : Bool) : sx_ckc xk_T (xk_U fz) 400 xk_c_6 = true := (xk_c2 fz xk_c_6 (by decide)).trans (by decide +kernel)
set_option maxHeartbeats 0 in
theorem xk_c_7_ok (fz : Bool) : sx_ckc xk_T (xk_U fz) 400 xk_c_7 = true := (xk_c2 fz xk_c_7 (by decide)).trans (by decide +kernel)
set_option maxHeartbeats 0 in
theorem xk_c_8_ok (fz : Bool) : sx_ckc xk_T (xk_U fz) 400 xk_c_8 = true := (xk_c2 fz xk_c_8 (by decide)).trans (by decide +kernel)
set_option maxHeartbeats 0 in
theorem xk_c_9_ok (fz : Bool) : sx_ckc xk_T (xk_U fz) 400 xk_c_9 = true := (xk_c2 fz xk_c_9 (by decide)).trans (by decide +kernel)
set_option maxHeartbeats 0 in
theorem xk_c_10_ok (fz : Bool) : sx_ckc xk_T (xk_U fz) 400 xk_c_10 = true := (xk_c2 fz xk_c_10 (by decide)).trans (by decide +kernel)
set_option maxHeartbeats 0 in
theorem xk_c_11_ok (fz : Bool) : sx_ckc xk_T (xk_U fz) 400 xk_c_11 = true := (xk_c2 fz xk_c_11 (by decide)).trans (by decide +kernel)
set_option maxHeartbeats 0 in
theorem xk_c_12_ok (fz : Bool) : sx_ckc xk_T (xk_U fz) 400 xk_c_12 = true := (xk_c2 fz xk_c_12 (by decide)).trans (by decide +kernel)
set_option maxHeartbeats 0 in
theorem xk_c_13_ok (fz : Bool) : sx_ckc xk_T (xk_U fz) 400 xk_c_13 = true := (xk_c2 fz xk_c_13 (by decide)).trans (by decide +kernel)
set_option maxHeartbeats 0 in
theorem xk_c_14_ok (fz : Bool) : sx_ckc xk_T (xk_U fz) 400 xk_c_14 = true := (xk_c2 fz xk_c_14 (by decide)).trans (by decide +kernel)
set_option maxHeartbeats 0 in
theorem xk_c_15_ok (fz : Bool) : sx_ckc xk_T (xk_U fz) 400 xk_c_15 = true := (xk_c2 fz xk_c_15 (by decide)).trans (by decide +kernel)
set_option maxHeartbeats 0 in
theorem xk_c_16_ok (fz : Bool) : sx_ckc xk_T (xk_U fz) 400 xk_c_16 = true := (xk_c2 fz xk_c_16 (by decide)).trans (by decide +kernel)
set_option maxHeartbeats 0 in
theorem xk_c_17_ok (fz : Bool) : sx_ckc xk_T (xk_U fz) 400 xk_c_17 = true := (xk_c2 fz xk_c_17 (by decide)).trans (by decide +kernel)
set_option maxHeartbeats 0 in
theorem xk_c_18_ok (fz : Bool) : sx_ckc xk_T (xk_U fz) 400 xk_c_18 = true := (xk_c2 fz xk_c_18 (by decide)).trans (by decide +kernel)
set_option maxHeartbeats 0 in
theorem xk_c_19_ok (fz : Bool) : sx_ckc xk_T (xk_U fz) 400 xk_c_19 = true := (xk_c2 fz xk_c_19 (by decide)).trans (by decide +kernel)
set_option maxHeartbeats 0 in
theorem xk_c_20_ok (fz : Bool) : sx_ckc xk_T (xk_U fz) 400 xk_c_20 = true := (xk_c2 fz xk_c_20 (by decide)).trans (by decide +kernel)
set_option maxHeartbeats 0 in
theorem xk_c_21_ok (fz : Bool) : sx_ckc xk_T (xk_U fz) 400 xk_c_21 = true := (xk_c2 fz xk_c_21 (by decide)).trans (by decide +kernel)
set_option maxHeartbeats 0 in
theorem xk_c_22_ok (fz : Bool) : sx_ckc xk_T (xk_U fz) 400 xk_c_22 = true := (xk_c2 fz xk_c_22 (by decide)).trans (by decide +kernel)
set_option maxHeartbeats 0 in
theorem xk_c_23_ok (fz : Bool) : sx_ckc xk_T (xk_U fz) 400 xk_c_23 = true := (xk_c2 fz xk_c_23 (by decide)).trans (by decide +kernel)
set_option maxHeartbeats 0 in
theorem xk_c_24_ok (fz : Bool) : sx_ckc xk_T (xk_U fz) 400 xk_c_24 = true := (xk_c2 fz xk_c_24 (by decide)).trans (by decide +kernel)
set_option maxHeartbeats 0 in
theorem xk_c_25_ok (fz : Bool) : sx_ckc xk_T (xk_U fz) 400 xk_c_25 = true := (xk_c2 fz xk_c_25 (by decide)).trans (by decide +kernel)
set_option maxHeartbeats 0 in
theorem xk_c_26_ok (fz : Bool) : sx_ckc xk_T (xk_U fz) 400 xk_c_26 = true := (xk_c2 fz xk_c_26 (by decide)).trans (by decide +kernel)
set_option maxHeartbeats 0 in
theorem xk_c_27_ok (fz : Bool) : sx_ckc xk_T (xk_U fz) 400 xk_c_27 = true := (xk_c2 fz xk_c_27 (by decide)).trans (by decide +kernel)
set_option maxHeartbeats 0 in
theorem xk_c_28_ok (fz : Bool) : sx_ckc xk_T (xk_U fz) 400 xk_c_28 = true := (xk_c2 fz xk_c_28 (by decide)).trans (by decide +kernel)
set_option maxHeartbeats 0 in
theorem xk_c_29_ok (fz : Bool) : sx_ckc xk_T (xk_U fz) 400 xk_c_29 = true := (xk_c2 fz xk_c_29 (by decide)).trans (by decide +kernel)
set_option maxHeartbeats 0 in
theorem xk_c_30_ok (fz : Bool) : sx_ckc xk_T (xk_U fz) 400 xk_c_30 = true := (xk_c2 fz xk_c_30 (by decide)).trans (by decide +kernel)
set_option maxHeartbeats 0 in
theorem xk_c_31_ok (fz : Bool) : sx_ckc xk_T (xk_U fz) 400 xk_c_31 = true := (xk_c2 fz xk_c_31 (by decide)).trans (by decide +kernel)
set_option maxHeartbeats 0 in
theorem xk_c_32_ok (fz : Bool) : sx_ckc xk_T (xk_U fz) 400 xk_c_32 = true := (xk_c2 fz xk_c_32 (by decide)).trans (by decide +kernel)
set_option maxHeartbeats 0 in
theorem xk_c_33_ok (fz : Bool) : sx_ckc xk_T (xk_U fz) 400 xk_c_33 = true := (xk_c2 fz xk_c_33 (by decide)).trans (by decide +kernel)
set_option maxHeartbeats 0 in
theorem xk_c_34_ok (fz : Bool) : sx_ckc xk_T (xk_U fz) 400 xk_c_34 = true := (xk_c2 fz xk_c_34 (by decide)).trans (by decide +kernel)
set_option maxHeartbeats 0 in
theorem xk_c_35_ok (fz : Bool) : sx_ckc xk_T (xk_U fz) 400 xk_c_35 = true := (xk_c2 fz xk_c_35 (by decide)).trans (by decide +kernel)
set_option maxHeartbeats 0 in
theorem xk_c_36_ok (fz : Bool) : sx_ckc xk_T (xk_U fz) 400 xk_c_36 = true := (xk_c2 fz xk_c_36 (by decide)).trans (by decide +kernel)
set_option maxHeartbeats 0 in
theorem xk_c_37_ok (fz : Bool) : sx_ckc xk_T (xk_U fz) 400 xk_c_37 = true := (xk_c2 fz xk_c_37 (by decide)).trans (by decide +kernel)
set_option maxHeartbeats 0 in
theorem xk_c_38_ok (fz : Bool) : sx_ckc xk_T (xk_U fz) 400 xk_c_38 = true := (xk_c2 fz xk_c_38 (by decide)).trans (by decide +kernel)
set_option maxHeartbeats 0 in
theorem xk_c_39_ok (fz : Bool) : sx_ckc xk_T (xk_U fz) 400 xk_c_39 = true := (xk_c2 fz xk_c_39 (by decide)).trans (by decide +kernel)
set_option maxHeartbeats 0 in
theorem xk_c_40_ok (fz : Bool) : sx_ckc xk_T (xk_U fz) 400 xk_c_40 = true := (xk_c2 fz xk_c_40 (by decide)).trans (by decide +kernel)
set_option maxHeartbeats 0 in
theorem xk_c_41_ok (fz : Bool) : sx_ckc xk_T (xk_U fz) 400 xk_c_41 = true := (xk_c2 fz xk_c_41 (by decide)).trans (by decide +kernel)
set_option maxHeartbeats 0 in
theorem xk_c_42_ok (fz : Bool) : sx_ckc xk_T (xk_U fz) 400 xk_c_42 = true := (xk_c2 fz xk_c_42 (by decide)).trans (by decide +kernel)
set_option maxHeartbeats 0 in
theorem xk_c_43_ok (fz : Bool) : sx_ckc xk_T (xk_U fz) 400 xk_c_43 = true := (xk_c2 fz xk_c_43 (by decide)).trans (by decide +kernel)
set_option maxHeartbeats 0 in
theorem xk_c_44_ok (fz : Bool) : sx_ckc xk_T (xk_U fz) 400 xk_c_44 = true := (xk_c2 fz xk_c_44 (by decide)).trans (by decide +kernel)
set_option maxHeartbeats 0 in
theorem xk_c_45_ok (fz : Bool) : sx_ckc xk_T (xk_U fz) 400 xk_c_45 = true := (xk_c2 fz xk_c_45 (by decide)).trans (by decide +kernel)
set_option maxHeartbeats 0 in
theorem xk_c_46_ok (fz : Bool) : sx_ckc xk_T (xk_U fz) 400 xk_c_46 = true := (xk_c2 fz xk_c_46 (by decide)).trans (by decide +kernel)
set_option maxHeartbeats 0 in
theorem xk_c_47_ok (fz : Bool) : sx_ckc xk_T (xk_U fz) 400 xk_c_47 = true := (xk_c2 fz xk_c_47 (by decide)).trans (by decide +kernel)
set_option maxHeartbeats 0 in
theorem xk_c_48_ok (fz : Bool) : sx_ckc xk_T (xk_U fz) 400 xk_c_48 = true := (xk_c2 fz xk_c_48 (by decide)).trans (by decide +kernel)
set_option maxHeartbeats 0 in
theorem xk_c_49_ok (fz : Bool) : sx_ckc xk_T (xk_U fz) 400 xk_c_49 = true := (xk_c2 fz xk_c_49 (by decide)).trans (by decide +kernel)
set_option maxHeartbeats 0 in
theorem xk_c_50_ok (fz : Bool) : sx_ckc xk_T (xk_U fz) 400 xk_c_50 = true := (xk_c2 fz xk_c_50 (by decide)).trans (by decide +kernel)
set_option maxHeartbeats 0 in
theorem xk_c_51_ok (fz : Bool) : sx_ckc xk_T (xk_U fz) 400 xk_c_51 = true := (xk_c2 fz xk_c_51 (by decide)).trans (by decide +kernel)
set_option maxHeartbeats 0 in
theorem xk_c_52_ok (fz : Bool) : sx_ckc xk_T (xk_U fz) 400 xk_c_52 = true := (xk_c2 fz xk_c_52 (by decide)).trans (by decide +kernel)
set_option maxHeartbeats 0 in
theorem xk_c_53_ok (fz : Bool) : sx_ckc xk_T (xk_U fz) 400 xk_c_53 = true := (xk_c2 fz xk_c_53 (by decide)).trans (by decide +kernel)
set_option maxHeartbeats 0 in
theorem xk_c_54_ok (fz : Bool) : sx_ckc xk_T (xk_U fz) 400 xk_c_54 = true := (xk_c2 fz xk_c_54 (by decide)).trans (by decide +kernel)
set_option maxHeartbeats 0 in
theorem xk_c_55_ok (fz : Bool) : sx_ckc xk_T (xk_U fz) 400 xk_c_55 = true := (xk_c2 fz xk_c_55 (by decide)).trans (by decide +kernel)
set_option maxHeartbeats 0 in
theorem xk_c_56_ok (fz : Bool) : sx_ckc xk_T (xk_U fz) 400 xk_c_56 = true := (xk_c2 fz xk_c_56 (by decide)).trans (by decide +kernel)
set_option maxHeartbeats 0 in
theorem xk_c_57_ok (fz : Bool) : sx_ckc xk_T (xk_U fz) 400 xk_c_57 = true := (xk_c2 fz xk_c_57 (by decide)).trans (by decide +kernel)
set_option maxHeartbeats 0 in
theorem xk_c_58_ok (fz : Bool) : sx_ckc xk_T (xk_U fz) 400 xk_c_58 = true := (xk_c2 fz xk_c_58 (by decide)).trans (by decide +kernel)
set_option maxHeartbeats 0 in
theorem xk_c_59_ok (fz : Bool) : sx_ckc xk_T (xk_U fz) 400 xk_c_59 = true := (xk_c2 fz xk_c_59 (by decide)).trans (by decide +kernel)
set_option maxHeartbeats 0 in
theorem xk_c_60_ok (fz : Bool) : sx_ckc xk_T (xk_U fz) 400 xk_c_60 = true := (xk_c2 fz xk_c_60 (by decide)).trans (by decide +kernel)
set_option maxHeartbeats 0 in
theorem xk_c_61_ok (fz : Bool) : sx_ckc xk_T (xk_U fz) 400 xk_c_61 = true := (xk_c2 fz xk_c_61 (by decide)).trans (by decide +kernel)
set_option maxHeartbeats 0 in
theorem xk_c_62_ok (fz : Bool) : sx_ckc xk_T (xk_U fz) 400 xk_c_62 = true := (xk_c2 fz xk_c_62 (by decide)).trans (by decide +kernel)
set_option maxHeartbeats 0 in
theorem xk_c_63_ok (fz : Bool) : sx_ckc xk_T (xk_U fz) 400 xk_c_63 = true := (xk_c2 fz xk_c_63 (by decide)).trans (by decide +kernel)
set_option maxHeartbeats 0 in
theorem xk_c_64_ok (fz : Bool) : sx_ckc xk_T (xk_U fz) 400 xk_c_64 = true := (xk_c2 fz xk_c_64 (by decide)).trans (by decide +kernel)
theorem xk_ck (fz : Bool) : sx_ck xk_T (xk_U fz) 400 = true := by
  unfold sx_ck
  have h : ∀ c ∈ xk_T.2.1, sx_ckc xk_T (xk_U fz) 400 c = true := by
    intro c hc
    simp only [xk_T, List.mem_cons, List.not_mem_nil, or_false] at hc
    rcases hc with rfl | rfl | rfl | rfl | rfl | rfl | rfl | rfl | rfl | rfl | rfl | rfl | rfl | rfl | rfl | rfl | rfl | rfl | rfl | rfl | rfl | rfl | rfl | rfl | rfl | rfl | rfl | rfl | rfl | rfl | rfl | rfl | rfl | rfl | rfl | rfl | rfl | rfl | rfl | rfl | rfl | rfl | rfl | rfl | rfl | rfl | rfl | rfl | rfl | rfl | rfl | rfl | rfl | rfl | rfl | rfl | rfl | rfl | rfl | rfl | rfl | rfl | rfl | rfl
    · exact xk_c_1_ok fz
    · exact xk_c_2_ok fz
    · exact xk_c_3_ok fz
    · exact xk_c_4_ok fz
    · exact xk_c_5_ok fz
    · exact xk_c_6_ok fz
    · exact xk_c_7_ok fz
    · exact xk_c_8_ok fz
    · exact xk_c_9_ok fz
    · exact xk_c_10_ok fz
    · exact xk_c_11_ok fz
    · exact xk_c_12_ok fz
    · exact xk_c_13_ok fz
    · exact xk_c_14_ok fz
    · exact xk_c_15_ok fz
    · exact xk_c_16_ok fz
    · exact xk_c_17_ok fz
    · exact xk_c_18_ok fz
    · exact xk_c_19_ok fz
    · exact xk_c_20_ok fz
    · exact xk_c_21_ok fz
    · exact xk_c_22_ok fz
    · exact xk_c_23_ok fz
    · exact xk_c_24_ok fz
    · exact xk_c_25_ok fz
    · exact xk_c_26_ok fz
    · exact xk_c_27_ok fz
    · exact xk_c_28_ok fz
    · exact xk_c_29_ok fz
    · exact xk_c_30_ok fz
    · exact xk_c_31_ok fz
    · exact xk_c_32_ok fz
    · exact xk_c_33_ok fz
    · exact xk_c_34_ok fz
    · exact xk_c_35_ok fz
    · exact xk_c_36_ok fz
    · exact xk_c_37_ok fz
    · exact xk_c_38_ok fz
    · exact xk_c_39_ok fz
    · exact xk_c_40_ok fz
    · exact xk_c_41_ok fz
    · exact xk_c_42_ok fz
    · exact xk_c_43_ok fz
    · exact xk_c_44_ok fz
    · exact xk_c_45_ok fz
    · exact xk_c_46_ok fz
    · exact xk_c_47_ok fz
    · exact xk_c_48_ok fz
    · exact xk_c_49_ok fz
    · exact xk_c_50_ok fz
    · exact xk_c_51_ok fz
    · exact xk_c_52_ok fz
    · exact xk_c_53_ok fz
    · exact xk_c_54_ok fz
    · exact xk_c_55_ok fz
    · exact xk_c_56_ok fz
    · exact xk_c_57_ok fz
    · exact xk_c_58_ok fz
    · exact xk_c_59_ok fz
    · exact xk_c_60_ok fz
    · exact xk_c_61_ok fz
    · exact xk_c_62_ok fz
    · exact xk_c_63_ok fz
    · exact xk_c_64_ok fz
  rw [Bool.and_eq_true]
  exact ⟨List.all_eq_true.mpr h, by decide +kernel⟩
