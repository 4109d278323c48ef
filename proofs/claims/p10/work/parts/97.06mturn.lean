theorem kt_8_8 {fz : Bool} {S : gS} {a : Nat} (hS : rl S) (h : a ∈ k8) : pa fz S (a + 7) .int 8 := by
  have h := k8_or h
  rcases h with rfl | rfl | rfl | rfl | rfl | rfl | rfl | rfl | rfl
  all_goals exact ⟨⟨Nat.le_of_ble_eq_true rfl, by decide, Nat.lt_of_le_of_lt (Nat.le_of_ble_eq_true rfl) hS.1, hS.2 _ (Nat.le_of_ble_eq_true rfl) (Nat.le_of_ble_eq_true rfl)⟩, Nat.le_of_ble_eq_true rfl⟩
theorem kf_9_1 {M : rf_M} {a : Nat} (hM : kfr M) (h : a ∈ k9) : M.2.2 a 1 = some 325 := by
  have h := k9_or h
  subst h
  · exact hM (324, 1, 325) (by decide)
theorem kf_9_2 {M : rf_M} {a : Nat} (hM : kfr M) (h : a ∈ k9) : M.2.2 a 2 = some 326 := by
  have h := k9_or h
  subst h
  · exact hM (324, 2, 326) (by decide)
theorem kf_9_3 {M : rf_M} {a : Nat} (hM : kfr M) (h : a ∈ k9) : M.2.2 a 3 = some 327 := by
  have h := k9_or h
  subst h
  · exact hM (324, 3, 327) (by decide)
theorem kf_9_4 {M : rf_M} {a : Nat} (hM : kfr M) (h : a ∈ k9) : M.2.2 a 4 = some 328 := by
  have h := k9_or h
  subst h
  · exact hM (324, 4, 328) (by decide)
theorem kf_9_5 {M : rf_M} {a : Nat} (hM : kfr M) (h : a ∈ k9) : M.2.2 a 5 = some 329 := by
  have h := k9_or h
  subst h
  · exact hM (324, 5, 329) (by decide)
theorem kf_9_6 {M : rf_M} {a : Nat} (hM : kfr M) (h : a ∈ k9) : M.2.2 a 6 = some 330 := by
  have h := k9_or h
  subst h
  · exact hM (324, 6, 330) (by decide)
theorem kf_10_0 {M : rf_M} {a : Nat} (hM : kfr M) (h : a ∈ k10) : M.2.2 a 0 = some 332 := by
  have h := k10_or h
  subst h
  · exact hM (331, 0, 332) (by decide)
theorem kf_10_3 {M : rf_M} {a : Nat} (hM : kfr M) (h : a ∈ k10) : M.2.2 a 3 = some 24 := by
  have h := k10_or h
  subst h
  · exact hM (331, 3, 24) (by decide)
theorem kf_10_4 {M : rf_M} {a : Nat} (hM : kfr M) (h : a ∈ k10) : M.2.2 a 4 = some 340 := by
  have h := k10_or h
  subst h
  · exact hM (331, 4, 340) (by decide)
theorem kf_11_1 {M : rf_M} {a : Nat} (hM : kfr M) (h : a ∈ k11) : M.2.2 a 1 = some 354 := by
  have h := k11_or h
  subst h
  · exact hM (353, 1, 354) (by decide)
theorem kf_11_12 {M : rf_M} {a : Nat} (hM : kfr M) (h : a ∈ k11) : M.2.2 a 12 = some 355 := by
  have h := k11_or h
  subst h
  · exact hM (353, 12, 355) (by decide)
theorem kf_11_13 {M : rf_M} {a : Nat} (hM : kfr M) (h : a ∈ k11) : M.2.2 a 13 = some 356 := by
  have h := k11_or h
  subst h
  · exact hM (353, 13, 356) (by decide)
theorem kf_11_14 {M : rf_M} {a : Nat} (hM : kfr M) (h : a ∈ k11) : M.2.2 a 14 = some 357 := by
  have h := k11_or h
  subst h
  · exact hM (353, 14, 357) (by decide)
theorem kf_11_15 {M : rf_M} {a : Nat} (hM : kfr M) (h : a ∈ k11) : M.2.2 a 15 = some 358 := by
  have h := k11_or h
  subst h
  · exact hM (353, 15, 358) (by decide)
theorem kf_11_16 {M : rf_M} {a : Nat} (hM : kfr M) (h : a ∈ k11) : M.2.2 a 16 = some 359 := by
  have h := k11_or h
  subst h
  · exact hM (353, 16, 359) (by decide)
theorem kf_11_17 {M : rf_M} {a : Nat} (hM : kfr M) (h : a ∈ k11) : M.2.2 a 17 = some 360 := by
  have h := k11_or h
  subst h
  · exact hM (353, 17, 360) (by decide)
theorem kf_11_18 {M : rf_M} {a : Nat} (hM : kfr M) (h : a ∈ k11) : M.2.2 a 18 = some 361 := by
  have h := k11_or h
  subst h
  · exact hM (353, 18, 361) (by decide)
theorem kf_11_19 {M : rf_M} {a : Nat} (hM : kfr M) (h : a ∈ k11) : M.2.2 a 19 = some 362 := by
  have h := k11_or h
  subst h
  · exact hM (353, 19, 362) (by decide)
theorem kf_11_20 {M : rf_M} {a : Nat} (hM : kfr M) (h : a ∈ k11) : M.2.2 a 20 = some 363 := by
  have h := k11_or h
  subst h
  · exact hM (353, 20, 363) (by decide)
theorem kf_11_21 {M : rf_M} {a : Nat} (hM : kfr M) (h : a ∈ k11) : M.2.2 a 21 = some 364 := by
  have h := k11_or h
  subst h
  · exact hM (353, 21, 364) (by decide)
theorem kf_11_22 {M : rf_M} {a : Nat} (hM : kfr M) (h : a ∈ k11) : M.2.2 a 22 = some 365 := by
  have h := k11_or h
  subst h
  · exact hM (353, 22, 365) (by decide)
theorem kf_11_23 {M : rf_M} {a : Nat} (hM : kfr M) (h : a ∈ k11) : M.2.2 a 23 = some 366 := by
  have h := k11_or h
  subst h
  · exact hM (353, 23, 366) (by decide)
theorem kf_11_24 {M : rf_M} {a : Nat} (hM : kfr M) (h : a ∈ k11) : M.2.2 a 24 = some 367 := by
  have h := k11_or h
  subst h
  · exact hM (353, 24, 367) (by decide)
theorem kf_11_25 {M : rf_M} {a : Nat} (hM : kfr M) (h : a ∈ k11) : M.2.2 a 25 = some 368 := by
  have h := k11_or h
  subst h
  · exact hM (353, 25, 368) (by decide)
theorem kf_11_26 {M : rf_M} {a : Nat} (hM : kfr M) (h : a ∈ k11) : M.2.2 a 26 = some 369 := by
  have h := k11_or h
  subst h
  · exact hM (353, 26, 369) (by decide)
theorem kf_11_27 {M : rf_M} {a : Nat} (hM : kfr M) (h : a ∈ k11) : M.2.2 a 27 = some 370 := by
  have h := k11_or h
  subst h
  · exact hM (353, 27, 370) (by decide)
theorem kf_11_29 {M : rf_M} {a : Nat} (hM : kfr M) (h : a ∈ k11) : M.2.2 a 29 = some 371 := by
  have h := k11_or h
  subst h
  · exact hM (353, 29, 371) (by decide)
theorem kf_11_32 {M : rf_M} {a : Nat} (hM : kfr M) (h : a ∈ k11) : M.2.2 a 32 = some 372 := by
  have h := k11_or h
  subst h
  · exact hM (353, 32, 372) (by decide)
theorem kf_11_34 {M : rf_M} {a : Nat} (hM : kfr M) (h : a ∈ k11) : M.2.2 a 34 = some 373 := by
  have h := k11_or h
  subst h
  · exact hM (353, 34, 373) (by decide)
theorem kf_11_35 {M : rf_M} {a : Nat} (hM : kfr M) (h : a ∈ k11) : M.2.2 a 35 = some 374 := by
  have h := k11_or h
  subst h
  · exact hM (353, 35, 374) (by decide)
theorem kf_11_36 {M : rf_M} {a : Nat} (hM : kfr M) (h : a ∈ k11) : M.2.2 a 36 = some 375 := by
  have h := k11_or h
  subst h
  · exact hM (353, 36, 375) (by decide)
theorem kf_11_38 {M : rf_M} {a : Nat} (hM : kfr M) (h : a ∈ k11) : M.2.2 a 38 = some 376 := by
  have h := k11_or h
  subst h
  · exact hM (353, 38, 376) (by decide)
theorem kf_11_39 {M : rf_M} {a : Nat} (hM : kfr M) (h : a ∈ k11) : M.2.2 a 39 = some 377 := by
  have h := k11_or h
  subst h
  · exact hM (353, 39, 377) (by decide)
theorem kf_11_40 {M : rf_M} {a : Nat} (hM : kfr M) (h : a ∈ k11) : M.2.2 a 40 = some 378 := by
  have h := k11_or h
  subst h
  · exact hM (353, 40, 378) (by decide)
theorem kf_11_41 {M : rf_M} {a : Nat} (hM : kfr M) (h : a ∈ k11) : M.2.2 a 41 = some 379 := by
  have h := k11_or h
  subst h
  · exact hM (353, 41, 379) (by decide)
theorem kf_11_43 {M : rf_M} {a : Nat} (hM : kfr M) (h : a ∈ k11) : M.2.2 a 43 = some 380 := by
  have h := k11_or h
  subst h
  · exact hM (353, 43, 380) (by decide)
theorem kf_11_44 {M : rf_M} {a : Nat} (hM : kfr M) (h : a ∈ k11) : M.2.2 a 44 = some 381 := by
  have h := k11_or h
  subst h
  · exact hM (353, 44, 381) (by decide)
theorem kf_11_45 {M : rf_M} {a : Nat} (hM : kfr M) (h : a ∈ k11) : M.2.2 a 45 = some 382 := by
  have h := k11_or h
  subst h
  · exact hM (353, 45, 382) (by decide)
theorem kf_11_46 {M : rf_M} {a : Nat} (hM : kfr M) (h : a ∈ k11) : M.2.2 a 46 = some 383 := by
  have h := k11_or h
  subst h
  · exact hM (353, 46, 383) (by decide)
theorem kf_11_47 {M : rf_M} {a : Nat} (hM : kfr M) (h : a ∈ k11) : M.2.2 a 47 = some 384 := by
  have h := k11_or h
  subst h
  · exact hM (353, 47, 384) (by decide)
theorem kf_11_48 {M : rf_M} {a : Nat} (hM : kfr M) (h : a ∈ k11) : M.2.2 a 48 = some 385 := by
  have h := k11_or h
  subst h
  · exact hM (353, 48, 385) (by decide)
theorem kf_11_49 {M : rf_M} {a : Nat} (hM : kfr M) (h : a ∈ k11) : M.2.2 a 49 = some 386 := by
  have h := k11_or h
  subst h
  · exact hM (353, 49, 386) (by decide)
theorem kf_11_50 {M : rf_M} {a : Nat} (hM : kfr M) (h : a ∈ k11) : M.2.2 a 50 = some 387 := by
  have h := k11_or h
  subst h
  · exact hM (353, 50, 387) (by decide)
theorem kf_11_51 {M : rf_M} {a : Nat} (hM : kfr M) (h : a ∈ k11) : M.2.2 a 51 = some 388 := by
  have h := k11_or h
  subst h
  · exact hM (353, 51, 388) (by decide)
theorem kf_11_53 {M : rf_M} {a : Nat} (hM : kfr M) (h : a ∈ k11) : M.2.2 a 53 = some 389 := by
  have h := k11_or h
  subst h
  · exact hM (353, 53, 389) (by decide)
theorem kf_11_54 {M : rf_M} {a : Nat} (hM : kfr M) (h : a ∈ k11) : M.2.2 a 54 = some 390 := by
  have h := k11_or h
  subst h
  · exact hM (353, 54, 390) (by decide)
theorem kf_11_56 {M : rf_M} {a : Nat} (hM : kfr M) (h : a ∈ k11) : M.2.2 a 56 = some 391 := by
  have h := k11_or h
  subst h
  · exact hM (353, 56, 391) (by decide)
theorem kf_11_57 {M : rf_M} {a : Nat} (hM : kfr M) (h : a ∈ k11) : M.2.2 a 57 = some 392 := by
  have h := k11_or h
  subst h
  · exact hM (353, 57, 392) (by decide)
theorem kf_11_59 {M : rf_M} {a : Nat} (hM : kfr M) (h : a ∈ k11) : M.2.2 a 59 = some 393 := by
  have h := k11_or h
  subst h
  · exact hM (353, 59, 393) (by decide)
theorem kf_11_61 {M : rf_M} {a : Nat} (hM : kfr M) (h : a ∈ k11) : M.2.2 a 61 = some 394 := by
  have h := k11_or h
  subst h
  · exact hM (353, 61, 394) (by decide)
theorem kf_11_62 {M : rf_M} {a : Nat} (hM : kfr M) (h : a ∈ k11) : M.2.2 a 62 = some 395 := by
  have h := k11_or h
  subst h
  · exact hM (353, 62, 395) (by decide)
theorem kf_11_63 {M : rf_M} {a : Nat} (hM : kfr M) (h : a ∈ k11) : M.2.2 a 63 = some 396 := by
  have h := k11_or h
  subst h
  · exact hM (353, 63, 396) (by decide)
theorem kf_11_64 {M : rf_M} {a : Nat} (hM : kfr M) (h : a ∈ k11) : M.2.2 a 64 = some 397 := by
  have h := k11_or h
  subst h
  · exact hM (353, 64, 397) (by decide)
theorem kf_11_67 {M : rf_M} {a : Nat} (hM : kfr M) (h : a ∈ k11) : M.2.2 a 67 = some 398 := by
  have h := k11_or h
  subst h
  · exact hM (353, 67, 398) (by decide)
theorem kf_11_68 {M : rf_M} {a : Nat} (hM : kfr M) (h : a ∈ k11) : M.2.2 a 68 = some 399 := by
  have h := k11_or h
  subst h
  · exact hM (353, 68, 399) (by decide)
theorem kf_11_70 {M : rf_M} {a : Nat} (hM : kfr M) (h : a ∈ k11) : M.2.2 a 70 = some 400 := by
  have h := k11_or h
  subst h
  · exact hM (353, 70, 400) (by decide)
theorem kf_11_71 {M : rf_M} {a : Nat} (hM : kfr M) (h : a ∈ k11) : M.2.2 a 71 = some 401 := by
  have h := k11_or h
  subst h
  · exact hM (353, 71, 401) (by decide)
theorem kf_11_72 {M : rf_M} {a : Nat} (hM : kfr M) (h : a ∈ k11) : M.2.2 a 72 = some 402 := by
  have h := k11_or h
  subst h
  · exact hM (353, 72, 402) (by decide)
theorem kf_11_73 {M : rf_M} {a : Nat} (hM : kfr M) (h : a ∈ k11) : M.2.2 a 73 = some 403 := by
  have h := k11_or h
  subst h
  · exact hM (353, 73, 403) (by decide)
theorem kf_11_74 {M : rf_M} {a : Nat} (hM : kfr M) (h : a ∈ k11) : M.2.2 a 74 = some 404 := by
  have h := k11_or h
  subst h
  · exact hM (353, 74, 404) (by decide)
theorem kf_11_75 {M : rf_M} {a : Nat} (hM : kfr M) (h : a ∈ k11) : M.2.2 a 75 = some 405 := by
  have h := k11_or h
  subst h
  · exact hM (353, 75, 405) (by decide)
theorem kc_354 {fz : Bool} {S : gS} (hS : rl S) : ga (cx0 fz) S 354 .byte 800 ∧ True := ⟨⟨Nat.le_of_ble_eq_true rfl, by decide, Nat.lt_of_le_of_lt (Nat.le_of_ble_eq_true rfl) hS.1, hS.2 _ (Nat.le_of_ble_eq_true rfl) (Nat.le_of_ble_eq_true rfl)⟩, trivial⟩
theorem kc_355 {fz : Bool} {S : gS} (hS : rl S) : ga (cx0 fz) S 355 .int 12 ∧ True := ⟨⟨Nat.le_of_ble_eq_true rfl, by decide, Nat.lt_of_le_of_lt (Nat.le_of_ble_eq_true rfl) hS.1, hS.2 _ (Nat.le_of_ble_eq_true rfl) (Nat.le_of_ble_eq_true rfl)⟩, trivial⟩
theorem kc_356 {fz : Bool} {S : gS} (hS : rl S) : ga (cx0 fz) S 356 .int 12 ∧ True := ⟨⟨Nat.le_of_ble_eq_true rfl, by decide, Nat.lt_of_le_of_lt (Nat.le_of_ble_eq_true rfl) hS.1, hS.2 _ (Nat.le_of_ble_eq_true rfl) (Nat.le_of_ble_eq_true rfl)⟩, trivial⟩
theorem kc_357 {fz : Bool} {S : gS} (hS : rl S) : ga (cx0 fz) S 357 .int 12 ∧ True := ⟨⟨Nat.le_of_ble_eq_true rfl, by decide, Nat.lt_of_le_of_lt (Nat.le_of_ble_eq_true rfl) hS.1, hS.2 _ (Nat.le_of_ble_eq_true rfl) (Nat.le_of_ble_eq_true rfl)⟩, trivial⟩
theorem kc_358 {fz : Bool} {S : gS} (hS : rl S) : ga (cx0 fz) S 358 .int 12 ∧ True := ⟨⟨Nat.le_of_ble_eq_true rfl, by decide, Nat.lt_of_le_of_lt (Nat.le_of_ble_eq_true rfl) hS.1, hS.2 _ (Nat.le_of_ble_eq_true rfl) (Nat.le_of_ble_eq_true rfl)⟩, trivial⟩
theorem kc_359 {fz : Bool} {S : gS} (hS : rl S) : ga (cx0 fz) S 359 .int 12 ∧ True := ⟨⟨Nat.le_of_ble_eq_true rfl, by decide, Nat.lt_of_le_of_lt (Nat.le_of_ble_eq_true rfl) hS.1, hS.2 _ (Nat.le_of_ble_eq_true rfl) (Nat.le_of_ble_eq_true rfl)⟩, trivial⟩
theorem kc_360 {fz : Bool} {S : gS} (hS : rl S) : ga (cx0 fz) S 360 .int 480 ∧ True := ⟨⟨Nat.le_of_ble_eq_true rfl, by decide, Nat.lt_of_le_of_lt (Nat.le_of_ble_eq_true rfl) hS.1, hS.2 _ (Nat.le_of_ble_eq_true rfl) (Nat.le_of_ble_eq_true rfl)⟩, trivial⟩
theorem kc_361 {fz : Bool} {S : gS} (hS : rl S) : ga (cx0 fz) S 361 .int 480 ∧ True := ⟨⟨Nat.le_of_ble_eq_true rfl, by decide, Nat.lt_of_le_of_lt (Nat.le_of_ble_eq_true rfl) hS.1, hS.2 _ (Nat.le_of_ble_eq_true rfl) (Nat.le_of_ble_eq_true rfl)⟩, trivial⟩
theorem kc_362 {fz : Bool} {S : gS} (hS : rl S) : ga (cx0 fz) S 362 .int 480 ∧ True := ⟨⟨Nat.le_of_ble_eq_true rfl, by decide, Nat.lt_of_le_of_lt (Nat.le_of_ble_eq_true rfl) hS.1, hS.2 _ (Nat.le_of_ble_eq_true rfl) (Nat.le_of_ble_eq_true rfl)⟩, trivial⟩
theorem kc_363 {fz : Bool} {S : gS} (hS : rl S) : ga (cx0 fz) S 363 .int 480 ∧ True := ⟨⟨Nat.le_of_ble_eq_true rfl, by decide, Nat.lt_of_le_of_lt (Nat.le_of_ble_eq_true rfl) hS.1, hS.2 _ (Nat.le_of_ble_eq_true rfl) (Nat.le_of_ble_eq_true rfl)⟩, trivial⟩
theorem kc_364 {fz : Bool} {S : gS} (hS : rl S) : ga (cx0 fz) S 364 .int 480 ∧ True := ⟨⟨Nat.le_of_ble_eq_true rfl, by decide, Nat.lt_of_le_of_lt (Nat.le_of_ble_eq_true rfl) hS.1, hS.2 _ (Nat.le_of_ble_eq_true rfl) (Nat.le_of_ble_eq_true rfl)⟩, trivial⟩
theorem kc_365 {fz : Bool} {S : gS} (hS : rl S) : ga (cx0 fz) S 365 .int 480 ∧ True := ⟨⟨Nat.le_of_ble_eq_true rfl, by decide, Nat.lt_of_le_of_lt (Nat.le_of_ble_eq_true rfl) hS.1, hS.2 _ (Nat.le_of_ble_eq_true rfl) (Nat.le_of_ble_eq_true rfl)⟩, trivial⟩
theorem kc_366 {fz : Bool} {S : gS} (hS : rl S) : ga (cx0 fz) S 366 .int 480 ∧ True := ⟨⟨Nat.le_of_ble_eq_true rfl, by decide, Nat.lt_of_le_of_lt (Nat.le_of_ble_eq_true rfl) hS.1, hS.2 _ (Nat.le_of_ble_eq_true rfl) (Nat.le_of_ble_eq_true rfl)⟩, trivial⟩
theorem kc_367 {fz : Bool} {S : gS} (hS : rl S) : ga (cx0 fz) S 367 .int 480 ∧ True := ⟨⟨Nat.le_of_ble_eq_true rfl, by decide, Nat.lt_of_le_of_lt (Nat.le_of_ble_eq_true rfl) hS.1, hS.2 _ (Nat.le_of_ble_eq_true rfl) (Nat.le_of_ble_eq_true rfl)⟩, trivial⟩
theorem kc_368 {fz : Bool} {S : gS} (hS : rl S) : ga (cx0 fz) S 368 .int 2400 ∧ True := ⟨⟨Nat.le_of_ble_eq_true rfl, by decide, Nat.lt_of_le_of_lt (Nat.le_of_ble_eq_true rfl) hS.1, hS.2 _ (Nat.le_of_ble_eq_true rfl) (Nat.le_of_ble_eq_true rfl)⟩, trivial⟩
theorem kc_369 {fz : Bool} {S : gS} (hS : rl S) : ga (cx0 fz) S 369 .int 2400 ∧ True := ⟨⟨Nat.le_of_ble_eq_true rfl, by decide, Nat.lt_of_le_of_lt (Nat.le_of_ble_eq_true rfl) hS.1, hS.2 _ (Nat.le_of_ble_eq_true rfl) (Nat.le_of_ble_eq_true rfl)⟩, trivial⟩
theorem kc_370 {fz : Bool} {S : gS} (hS : rl S) : ga (cx0 fz) S 370 .long 2400 ∧ True := ⟨⟨Nat.le_of_ble_eq_true rfl, by decide, Nat.lt_of_le_of_lt (Nat.le_of_ble_eq_true rfl) hS.1, hS.2 _ (Nat.le_of_ble_eq_true rfl) (Nat.le_of_ble_eq_true rfl)⟩, trivial⟩
theorem kc_371 {fz : Bool} {S : gS} (hS : rl S) : ga (cx0 fz) S 371 .int 64 ∧ True := ⟨⟨Nat.le_of_ble_eq_true rfl, by decide, Nat.lt_of_le_of_lt (Nat.le_of_ble_eq_true rfl) hS.1, hS.2 _ (Nat.le_of_ble_eq_true rfl) (Nat.le_of_ble_eq_true rfl)⟩, trivial⟩
theorem kc_372 {fz : Bool} {S : gS} (hS : rl S) : ga (cx0 fz) S 372 .boolean 16 ∧ True := ⟨⟨Nat.le_of_ble_eq_true rfl, by decide, Nat.lt_of_le_of_lt (Nat.le_of_ble_eq_true rfl) hS.1, hS.2 _ (Nat.le_of_ble_eq_true rfl) (Nat.le_of_ble_eq_true rfl)⟩, trivial⟩
theorem kc_373 {fz : Bool} {S : gS} (hS : rl S) : ga (cx0 fz) S 373 .int 10 ∧ True := ⟨⟨Nat.le_of_ble_eq_true rfl, by decide, Nat.lt_of_le_of_lt (Nat.le_of_ble_eq_true rfl) hS.1, hS.2 _ (Nat.le_of_ble_eq_true rfl) (Nat.le_of_ble_eq_true rfl)⟩, trivial⟩
theorem kc_374 {fz : Bool} {S : gS} (hS : rl S) : ga (cx0 fz) S 374 .int 10 ∧ True := ⟨⟨Nat.le_of_ble_eq_true rfl, by decide, Nat.lt_of_le_of_lt (Nat.le_of_ble_eq_true rfl) hS.1, hS.2 _ (Nat.le_of_ble_eq_true rfl) (Nat.le_of_ble_eq_true rfl)⟩, trivial⟩
theorem kc_375 {fz : Bool} {S : gS} (hS : rl S) : ga (cx0 fz) S 375 .int 10 ∧ True := ⟨⟨Nat.le_of_ble_eq_true rfl, by decide, Nat.lt_of_le_of_lt (Nat.le_of_ble_eq_true rfl) hS.1, hS.2 _ (Nat.le_of_ble_eq_true rfl) (Nat.le_of_ble_eq_true rfl)⟩, trivial⟩
theorem kc_376 {fz : Bool} {S : gS} (hS : rl S) : ga (cx0 fz) S 376 .long 32 ∧ True := ⟨⟨Nat.le_of_ble_eq_true rfl, by decide, Nat.lt_of_le_of_lt (Nat.le_of_ble_eq_true rfl) hS.1, hS.2 _ (Nat.le_of_ble_eq_true rfl) (Nat.le_of_ble_eq_true rfl)⟩, trivial⟩
theorem kc_377 {fz : Bool} {S : gS} (hS : rl S) : ga (cx0 fz) S 377 .int 32 ∧ True := ⟨⟨Nat.le_of_ble_eq_true rfl, by decide, Nat.lt_of_le_of_lt (Nat.le_of_ble_eq_true rfl) hS.1, hS.2 _ (Nat.le_of_ble_eq_true rfl) (Nat.le_of_ble_eq_true rfl)⟩, trivial⟩
theorem kc_378 {fz : Bool} {S : gS} (hS : rl S) : ga (cx0 fz) S 378 .int 2 ∧ True := ⟨⟨Nat.le_of_ble_eq_true rfl, by decide, Nat.lt_of_le_of_lt (Nat.le_of_ble_eq_true rfl) hS.1, hS.2 _ (Nat.le_of_ble_eq_true rfl) (Nat.le_of_ble_eq_true rfl)⟩, trivial⟩
theorem kc_379 {fz : Bool} {S : gS} (hS : rl S) : ga (cx0 fz) S 379 .int 64 ∧ True := ⟨⟨Nat.le_of_ble_eq_true rfl, by decide, Nat.lt_of_le_of_lt (Nat.le_of_ble_eq_true rfl) hS.1, hS.2 _ (Nat.le_of_ble_eq_true rfl) (Nat.le_of_ble_eq_true rfl)⟩, trivial⟩
