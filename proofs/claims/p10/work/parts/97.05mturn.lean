theorem kt_1_13 {fz : Bool} {S : gS} {a : Nat} (hS : rl S) (h : a ∈ k1) : pa fz S (a + 9) .int 40 := by
  have h := k1_or h
  rcases h with rfl | rfl | rfl | rfl | rfl | rfl | rfl | rfl | rfl | rfl | rfl | rfl
  all_goals exact ⟨⟨Nat.le_of_ble_eq_true rfl, by decide, Nat.lt_of_le_of_lt (Nat.le_of_ble_eq_true rfl) hS.1, hS.2 _ (Nat.le_of_ble_eq_true rfl) (Nat.le_of_ble_eq_true rfl)⟩, Nat.le_of_ble_eq_true rfl⟩
theorem kf_1_14 {M : rf_M} {a : Nat} (hM : kfr M) (h : a ∈ k1) : M.2.2 a 14 = some (a + 10) := by
  have h := k1_or h
  rcases h with rfl | rfl | rfl | rfl | rfl | rfl | rfl | rfl | rfl | rfl | rfl | rfl
  · exact hM (25, 14, 35) (by decide)
  · exact hM (37, 14, 47) (by decide)
  · exact hM (49, 14, 59) (by decide)
  · exact hM (61, 14, 71) (by decide)
  · exact hM (73, 14, 83) (by decide)
  · exact hM (85, 14, 95) (by decide)
  · exact hM (97, 14, 107) (by decide)
  · exact hM (109, 14, 119) (by decide)
  · exact hM (121, 14, 131) (by decide)
  · exact hM (133, 14, 143) (by decide)
  · exact hM (145, 14, 155) (by decide)
  · exact hM (157, 14, 167) (by decide)
theorem kt_1_14 {fz : Bool} {S : gS} {a : Nat} (hS : rl S) (h : a ∈ k1) : pa fz S (a + 10) .int 160 := by
  have h := k1_or h
  rcases h with rfl | rfl | rfl | rfl | rfl | rfl | rfl | rfl | rfl | rfl | rfl | rfl
  all_goals exact ⟨⟨Nat.le_of_ble_eq_true rfl, by decide, Nat.lt_of_le_of_lt (Nat.le_of_ble_eq_true rfl) hS.1, hS.2 _ (Nat.le_of_ble_eq_true rfl) (Nat.le_of_ble_eq_true rfl)⟩, Nat.le_of_ble_eq_true rfl⟩
theorem kf_1_15 {M : rf_M} {a : Nat} (hM : kfr M) (h : a ∈ k1) : M.2.2 a 15 = some (a + 11) := by
  have h := k1_or h
  rcases h with rfl | rfl | rfl | rfl | rfl | rfl | rfl | rfl | rfl | rfl | rfl | rfl
  · exact hM (25, 15, 36) (by decide)
  · exact hM (37, 15, 48) (by decide)
  · exact hM (49, 15, 60) (by decide)
  · exact hM (61, 15, 72) (by decide)
  · exact hM (73, 15, 84) (by decide)
  · exact hM (85, 15, 96) (by decide)
  · exact hM (97, 15, 108) (by decide)
  · exact hM (109, 15, 120) (by decide)
  · exact hM (121, 15, 132) (by decide)
  · exact hM (133, 15, 144) (by decide)
  · exact hM (145, 15, 156) (by decide)
  · exact hM (157, 15, 168) (by decide)
theorem kt_1_15 {fz : Bool} {S : gS} {a : Nat} (hS : rl S) (h : a ∈ k1) : pa fz S (a + 11) .int 160 := by
  have h := k1_or h
  rcases h with rfl | rfl | rfl | rfl | rfl | rfl | rfl | rfl | rfl | rfl | rfl | rfl
  all_goals exact ⟨⟨Nat.le_of_ble_eq_true rfl, by decide, Nat.lt_of_le_of_lt (Nat.le_of_ble_eq_true rfl) hS.1, hS.2 _ (Nat.le_of_ble_eq_true rfl) (Nat.le_of_ble_eq_true rfl)⟩, Nat.le_of_ble_eq_true rfl⟩
theorem kf_2_0 {M : rf_M} {a : Nat} (hM : kfr M) (h : a ∈ k2) : M.2.2 a 0 = some 170 := by
  have h := k2_or h
  subst h
  · exact hM (169, 0, 170) (by decide)
theorem kf_3_0 {M : rf_M} {a : Nat} (hM : kfr M) (h : a ∈ k3) : M.2.2 a 0 = some 171 := by
  have h := k3_or h
  subst h
  · exact hM (170, 0, 171) (by decide)
theorem kf_3_1 {M : rf_M} {a : Nat} (hM : kfr M) (h : a ∈ k3) : M.2.2 a 1 = some 172 := by
  have h := k3_or h
  subst h
  · exact hM (170, 1, 172) (by decide)
theorem kf_3_2 {M : rf_M} {a : Nat} (hM : kfr M) (h : a ∈ k3) : M.2.2 a 2 = some 173 := by
  have h := k3_or h
  subst h
  · exact hM (170, 2, 173) (by decide)
theorem kf_4_0 {M : rf_M} {a : Nat} (hM : kfr M) (h : a ∈ k4) : M.2.2 a 0 = some (a + 1) := by
  have h := k4_or h
  rcases h with rfl | rfl
  · exact hM (187, 0, 188) (by decide)
  · exact hM (332, 0, 333) (by decide)
theorem kt_4_0 {fz : Bool} {S : gS} {a : Nat} (hS : rl S) (h : a ∈ k4) : pa fz S (a + 1) .long 16 := by
  have h := k4_or h
  rcases h with rfl | rfl
  all_goals exact ⟨⟨Nat.le_of_ble_eq_true rfl, by decide, Nat.lt_of_le_of_lt (Nat.le_of_ble_eq_true rfl) hS.1, hS.2 _ (Nat.le_of_ble_eq_true rfl) (Nat.le_of_ble_eq_true rfl)⟩, Nat.le_of_ble_eq_true rfl⟩
theorem kf_4_1 {M : rf_M} {a : Nat} (hM : kfr M) (h : a ∈ k4) : M.2.2 a 1 = some (a + 2) := by
  have h := k4_or h
  rcases h with rfl | rfl
  · exact hM (187, 1, 189) (by decide)
  · exact hM (332, 1, 334) (by decide)
theorem kt_4_1 {fz : Bool} {S : gS} {a : Nat} (hS : rl S) (h : a ∈ k4) : pa fz S (a + 2) .int 16 := by
  have h := k4_or h
  rcases h with rfl | rfl
  all_goals exact ⟨⟨Nat.le_of_ble_eq_true rfl, by decide, Nat.lt_of_le_of_lt (Nat.le_of_ble_eq_true rfl) hS.1, hS.2 _ (Nat.le_of_ble_eq_true rfl) (Nat.le_of_ble_eq_true rfl)⟩, Nat.le_of_ble_eq_true rfl⟩
theorem kf_4_3 {M : rf_M} {a : Nat} (hM : kfr M) (h : a ∈ k4) : M.2.2 a 3 = some (a + 3) := by
  have h := k4_or h
  rcases h with rfl | rfl
  · exact hM (187, 3, 190) (by decide)
  · exact hM (332, 3, 335) (by decide)
theorem kt_4_3 {fz : Bool} {S : gS} {a : Nat} (hS : rl S) (h : a ∈ k4) : pa fz S (a + 3) (.object "MemoryTransactions$Program") 32 := by
  have h := k4_or h
  rcases h with rfl | rfl
  all_goals exact ⟨⟨Nat.le_of_ble_eq_true rfl, by decide, Nat.lt_of_le_of_lt (Nat.le_of_ble_eq_true rfl) hS.1, hS.2 _ (Nat.le_of_ble_eq_true rfl) (Nat.le_of_ble_eq_true rfl)⟩, Nat.le_of_ble_eq_true rfl⟩
theorem kf_4_4 {M : rf_M} {a : Nat} (hM : kfr M) (h : a ∈ k4) : M.2.2 a 4 = some (a + 4) := by
  have h := k4_or h
  rcases h with rfl | rfl
  · exact hM (187, 4, 191) (by decide)
  · exact hM (332, 4, 336) (by decide)
theorem kt_4_4 {fz : Bool} {S : gS} {a : Nat} (hS : rl S) (h : a ∈ k4) : pa fz S (a + 4) .int 32 := by
  have h := k4_or h
  rcases h with rfl | rfl
  all_goals exact ⟨⟨Nat.le_of_ble_eq_true rfl, by decide, Nat.lt_of_le_of_lt (Nat.le_of_ble_eq_true rfl) hS.1, hS.2 _ (Nat.le_of_ble_eq_true rfl) (Nat.le_of_ble_eq_true rfl)⟩, Nat.le_of_ble_eq_true rfl⟩
theorem kf_4_5 {M : rf_M} {a : Nat} (hM : kfr M) (h : a ∈ k4) : M.2.2 a 5 = some (a + 5) := by
  have h := k4_or h
  rcases h with rfl | rfl
  · exact hM (187, 5, 192) (by decide)
  · exact hM (332, 5, 337) (by decide)
theorem kt_4_5 {fz : Bool} {S : gS} {a : Nat} (hS : rl S) (h : a ∈ k4) : pa fz S (a + 5) .long 16 := by
  have h := k4_or h
  rcases h with rfl | rfl
  all_goals exact ⟨⟨Nat.le_of_ble_eq_true rfl, by decide, Nat.lt_of_le_of_lt (Nat.le_of_ble_eq_true rfl) hS.1, hS.2 _ (Nat.le_of_ble_eq_true rfl) (Nat.le_of_ble_eq_true rfl)⟩, Nat.le_of_ble_eq_true rfl⟩
theorem kf_4_6 {M : rf_M} {a : Nat} (hM : kfr M) (h : a ∈ k4) : M.2.2 a 6 = some (a + 6) := by
  have h := k4_or h
  rcases h with rfl | rfl
  · exact hM (187, 6, 193) (by decide)
  · exact hM (332, 6, 338) (by decide)
theorem kt_4_6 {a : Nat} (h : a ∈ k4) : (a + 6) ∈ k5 := by
  have h := k4_or h
  rcases h with rfl | rfl <;> decide
theorem kf_5_0 {M : rf_M} {a : Nat} (hM : kfr M) (h : a ∈ k5) : M.2.2 a 0 = some (a + 1) := by
  have h := k5_or h
  rcases h with rfl | rfl | rfl | rfl | rfl | rfl | rfl | rfl | rfl | rfl | rfl
  · exact hM (193, 0, 194) (by decide)
  · exact hM (210, 0, 211) (by decide)
  · exact hM (226, 0, 227) (by decide)
  · exact hM (242, 0, 243) (by decide)
  · exact hM (258, 0, 259) (by decide)
  · exact hM (274, 0, 275) (by decide)
  · exact hM (290, 0, 291) (by decide)
  · exact hM (306, 0, 307) (by decide)
  · exact hM (322, 0, 323) (by decide)
  · exact hM (338, 0, 339) (by decide)
  · exact hM (351, 0, 352) (by decide)
theorem kt_5_0 {fz : Bool} {S : gS} {a : Nat} (hS : rl S) (h : a ∈ k5) : pa fz S (a + 1) .long 60 := by
  have h := k5_or h
  rcases h with rfl | rfl | rfl | rfl | rfl | rfl | rfl | rfl | rfl | rfl | rfl
  all_goals exact ⟨⟨Nat.le_of_ble_eq_true rfl, by decide, Nat.lt_of_le_of_lt (Nat.le_of_ble_eq_true rfl) hS.1, hS.2 _ (Nat.le_of_ble_eq_true rfl) (Nat.le_of_ble_eq_true rfl)⟩, Nat.le_of_ble_eq_true rfl⟩
theorem kf_7_4 {M : rf_M} {a : Nat} (hM : kfr M) (h : a ∈ k7) : M.2.2 a 4 = some (a + 1) := by
  have h := k7_or h
  rcases h with rfl | rfl | rfl | rfl | rfl | rfl | rfl | rfl | rfl
  · exact hM (199, 4, 200) (by decide)
  · exact hM (215, 4, 216) (by decide)
  · exact hM (231, 4, 232) (by decide)
  · exact hM (247, 4, 248) (by decide)
  · exact hM (263, 4, 264) (by decide)
  · exact hM (279, 4, 280) (by decide)
  · exact hM (295, 4, 296) (by decide)
  · exact hM (311, 4, 312) (by decide)
  · exact hM (340, 4, 341) (by decide)
theorem kt_7_4 {fz : Bool} {S : gS} {a : Nat} (hS : rl S) (h : a ∈ k7) : pa fz S (a + 1) .int 16 := by
  have h := k7_or h
  rcases h with rfl | rfl | rfl | rfl | rfl | rfl | rfl | rfl | rfl
  all_goals exact ⟨⟨Nat.le_of_ble_eq_true rfl, by decide, Nat.lt_of_le_of_lt (Nat.le_of_ble_eq_true rfl) hS.1, hS.2 _ (Nat.le_of_ble_eq_true rfl) (Nat.le_of_ble_eq_true rfl)⟩, Nat.le_of_ble_eq_true rfl⟩
theorem kf_7_5 {M : rf_M} {a : Nat} (hM : kfr M) (h : a ∈ k7) : M.2.2 a 5 = some (a + 2) := by
  have h := k7_or h
  rcases h with rfl | rfl | rfl | rfl | rfl | rfl | rfl | rfl | rfl
  · exact hM (199, 5, 201) (by decide)
  · exact hM (215, 5, 217) (by decide)
  · exact hM (231, 5, 233) (by decide)
  · exact hM (247, 5, 249) (by decide)
  · exact hM (263, 5, 265) (by decide)
  · exact hM (279, 5, 281) (by decide)
  · exact hM (295, 5, 297) (by decide)
  · exact hM (311, 5, 313) (by decide)
  · exact hM (340, 5, 342) (by decide)
theorem kt_7_5 {a : Nat} (h : a ∈ k7) : (a + 2) ∈ k8 := by
  have h := k7_or h
  rcases h with rfl | rfl | rfl | rfl | rfl | rfl | rfl | rfl | rfl <;> decide
theorem kf_7_7 {M : rf_M} {a : Nat} (hM : kfr M) (h : a ∈ k7) : M.2.2 a 7 = some (a + 10) := by
  have h := k7_or h
  rcases h with rfl | rfl | rfl | rfl | rfl | rfl | rfl | rfl | rfl
  · exact hM (199, 7, 209) (by decide)
  · exact hM (215, 7, 225) (by decide)
  · exact hM (231, 7, 241) (by decide)
  · exact hM (247, 7, 257) (by decide)
  · exact hM (263, 7, 273) (by decide)
  · exact hM (279, 7, 289) (by decide)
  · exact hM (295, 7, 305) (by decide)
  · exact hM (311, 7, 321) (by decide)
  · exact hM (340, 7, 350) (by decide)
theorem kt_7_7 {fz : Bool} {S : gS} {a : Nat} (hS : rl S) (h : a ∈ k7) : pa fz S (a + 10) .long 16 := by
  have h := k7_or h
  rcases h with rfl | rfl | rfl | rfl | rfl | rfl | rfl | rfl | rfl
  all_goals exact ⟨⟨Nat.le_of_ble_eq_true rfl, by decide, Nat.lt_of_le_of_lt (Nat.le_of_ble_eq_true rfl) hS.1, hS.2 _ (Nat.le_of_ble_eq_true rfl) (Nat.le_of_ble_eq_true rfl)⟩, Nat.le_of_ble_eq_true rfl⟩
theorem kf_7_8 {M : rf_M} {a : Nat} (hM : kfr M) (h : a ∈ k7) : M.2.2 a 8 = some (stR a) := by
  have h := k7_or h
  rcases h with rfl | rfl | rfl | rfl | rfl | rfl | rfl | rfl | rfl
  · exact hM (199, 8, 187) (by decide)
  · exact hM (215, 8, 187) (by decide)
  · exact hM (231, 8, 187) (by decide)
  · exact hM (247, 8, 187) (by decide)
  · exact hM (263, 8, 187) (by decide)
  · exact hM (279, 8, 187) (by decide)
  · exact hM (295, 8, 187) (by decide)
  · exact hM (311, 8, 187) (by decide)
  · exact hM (340, 8, 332) (by decide)
theorem kt_7_8 {a : Nat} (h : a ∈ k7) : (stR a) ∈ k4 := by
  have h := k7_or h
  rcases h with rfl | rfl | rfl | rfl | rfl | rfl | rfl | rfl | rfl <;> decide
theorem kf_7_9 {M : rf_M} {a : Nat} (hM : kfr M) (h : a ∈ k7) : M.2.2 a 9 = some (a + 11) := by
  have h := k7_or h
  rcases h with rfl | rfl | rfl | rfl | rfl | rfl | rfl | rfl | rfl
  · exact hM (199, 9, 210) (by decide)
  · exact hM (215, 9, 226) (by decide)
  · exact hM (231, 9, 242) (by decide)
  · exact hM (247, 9, 258) (by decide)
  · exact hM (263, 9, 274) (by decide)
  · exact hM (279, 9, 290) (by decide)
  · exact hM (295, 9, 306) (by decide)
  · exact hM (311, 9, 322) (by decide)
  · exact hM (340, 9, 351) (by decide)
theorem kt_7_9 {a : Nat} (h : a ∈ k7) : (a + 11) ∈ k5 := by
  have h := k7_or h
  rcases h with rfl | rfl | rfl | rfl | rfl | rfl | rfl | rfl | rfl <;> decide
theorem kf_8_1 {M : rf_M} {a : Nat} (hM : kfr M) (h : a ∈ k8) : M.2.2 a 1 = some (a + 1) := by
  have h := k8_or h
  rcases h with rfl | rfl | rfl | rfl | rfl | rfl | rfl | rfl | rfl
  · exact hM (201, 1, 202) (by decide)
  · exact hM (217, 1, 218) (by decide)
  · exact hM (233, 1, 234) (by decide)
  · exact hM (249, 1, 250) (by decide)
  · exact hM (265, 1, 266) (by decide)
  · exact hM (281, 1, 282) (by decide)
  · exact hM (297, 1, 298) (by decide)
  · exact hM (313, 1, 314) (by decide)
  · exact hM (342, 1, 343) (by decide)
theorem kt_8_1 {fz : Bool} {S : gS} {a : Nat} (hS : rl S) (h : a ∈ k8) : pa fz S (a + 1) .long 16 := by
  have h := k8_or h
  rcases h with rfl | rfl | rfl | rfl | rfl | rfl | rfl | rfl | rfl
  all_goals exact ⟨⟨Nat.le_of_ble_eq_true rfl, by decide, Nat.lt_of_le_of_lt (Nat.le_of_ble_eq_true rfl) hS.1, hS.2 _ (Nat.le_of_ble_eq_true rfl) (Nat.le_of_ble_eq_true rfl)⟩, Nat.le_of_ble_eq_true rfl⟩
theorem kf_8_2 {M : rf_M} {a : Nat} (hM : kfr M) (h : a ∈ k8) : M.2.2 a 2 = some (a + 2) := by
  have h := k8_or h
  rcases h with rfl | rfl | rfl | rfl | rfl | rfl | rfl | rfl | rfl
  · exact hM (201, 2, 203) (by decide)
  · exact hM (217, 2, 219) (by decide)
  · exact hM (233, 2, 235) (by decide)
  · exact hM (249, 2, 251) (by decide)
  · exact hM (265, 2, 267) (by decide)
  · exact hM (281, 2, 283) (by decide)
  · exact hM (297, 2, 299) (by decide)
  · exact hM (313, 2, 315) (by decide)
  · exact hM (342, 2, 344) (by decide)
theorem kt_8_2 {fz : Bool} {S : gS} {a : Nat} (hS : rl S) (h : a ∈ k8) : pa fz S (a + 2) .long 10 := by
  have h := k8_or h
  rcases h with rfl | rfl | rfl | rfl | rfl | rfl | rfl | rfl | rfl
  all_goals exact ⟨⟨Nat.le_of_ble_eq_true rfl, by decide, Nat.lt_of_le_of_lt (Nat.le_of_ble_eq_true rfl) hS.1, hS.2 _ (Nat.le_of_ble_eq_true rfl) (Nat.le_of_ble_eq_true rfl)⟩, Nat.le_of_ble_eq_true rfl⟩
theorem kf_8_4 {M : rf_M} {a : Nat} (hM : kfr M) (h : a ∈ k8) : M.2.2 a 4 = some (a + 3) := by
  have h := k8_or h
  rcases h with rfl | rfl | rfl | rfl | rfl | rfl | rfl | rfl | rfl
  · exact hM (201, 4, 204) (by decide)
  · exact hM (217, 4, 220) (by decide)
  · exact hM (233, 4, 236) (by decide)
  · exact hM (249, 4, 252) (by decide)
  · exact hM (265, 4, 268) (by decide)
  · exact hM (281, 4, 284) (by decide)
  · exact hM (297, 4, 300) (by decide)
  · exact hM (313, 4, 316) (by decide)
  · exact hM (342, 4, 345) (by decide)
theorem kt_8_4 {fz : Bool} {S : gS} {a : Nat} (hS : rl S) (h : a ∈ k8) : pa fz S (a + 3) .int 300 := by
  have h := k8_or h
  rcases h with rfl | rfl | rfl | rfl | rfl | rfl | rfl | rfl | rfl
  all_goals exact ⟨⟨Nat.le_of_ble_eq_true rfl, by decide, Nat.lt_of_le_of_lt (Nat.le_of_ble_eq_true rfl) hS.1, hS.2 _ (Nat.le_of_ble_eq_true rfl) (Nat.le_of_ble_eq_true rfl)⟩, Nat.le_of_ble_eq_true rfl⟩
theorem kf_8_5 {M : rf_M} {a : Nat} (hM : kfr M) (h : a ∈ k8) : M.2.2 a 5 = some (a + 4) := by
  have h := k8_or h
  rcases h with rfl | rfl | rfl | rfl | rfl | rfl | rfl | rfl | rfl
  · exact hM (201, 5, 205) (by decide)
  · exact hM (217, 5, 221) (by decide)
  · exact hM (233, 5, 237) (by decide)
  · exact hM (249, 5, 253) (by decide)
  · exact hM (265, 5, 269) (by decide)
  · exact hM (281, 5, 285) (by decide)
  · exact hM (297, 5, 301) (by decide)
  · exact hM (313, 5, 317) (by decide)
  · exact hM (342, 5, 346) (by decide)
theorem kt_8_5 {fz : Bool} {S : gS} {a : Nat} (hS : rl S) (h : a ∈ k8) : pa fz S (a + 4) .int 8 := by
  have h := k8_or h
  rcases h with rfl | rfl | rfl | rfl | rfl | rfl | rfl | rfl | rfl
  all_goals exact ⟨⟨Nat.le_of_ble_eq_true rfl, by decide, Nat.lt_of_le_of_lt (Nat.le_of_ble_eq_true rfl) hS.1, hS.2 _ (Nat.le_of_ble_eq_true rfl) (Nat.le_of_ble_eq_true rfl)⟩, Nat.le_of_ble_eq_true rfl⟩
theorem kf_8_6 {M : rf_M} {a : Nat} (hM : kfr M) (h : a ∈ k8) : M.2.2 a 6 = some (a + 5) := by
  have h := k8_or h
  rcases h with rfl | rfl | rfl | rfl | rfl | rfl | rfl | rfl | rfl
  · exact hM (201, 6, 206) (by decide)
  · exact hM (217, 6, 222) (by decide)
  · exact hM (233, 6, 238) (by decide)
  · exact hM (249, 6, 254) (by decide)
  · exact hM (265, 6, 270) (by decide)
  · exact hM (281, 6, 286) (by decide)
  · exact hM (297, 6, 302) (by decide)
  · exact hM (313, 6, 318) (by decide)
  · exact hM (342, 6, 347) (by decide)
theorem kt_8_6 {fz : Bool} {S : gS} {a : Nat} (hS : rl S) (h : a ∈ k8) : pa fz S (a + 5) .long 128 := by
  have h := k8_or h
  rcases h with rfl | rfl | rfl | rfl | rfl | rfl | rfl | rfl | rfl
  all_goals exact ⟨⟨Nat.le_of_ble_eq_true rfl, by decide, Nat.lt_of_le_of_lt (Nat.le_of_ble_eq_true rfl) hS.1, hS.2 _ (Nat.le_of_ble_eq_true rfl) (Nat.le_of_ble_eq_true rfl)⟩, Nat.le_of_ble_eq_true rfl⟩
theorem kf_8_7 {M : rf_M} {a : Nat} (hM : kfr M) (h : a ∈ k8) : M.2.2 a 7 = some (a + 6) := by
  have h := k8_or h
  rcases h with rfl | rfl | rfl | rfl | rfl | rfl | rfl | rfl | rfl
  · exact hM (201, 7, 207) (by decide)
  · exact hM (217, 7, 223) (by decide)
  · exact hM (233, 7, 239) (by decide)
  · exact hM (249, 7, 255) (by decide)
  · exact hM (265, 7, 271) (by decide)
  · exact hM (281, 7, 287) (by decide)
  · exact hM (297, 7, 303) (by decide)
  · exact hM (313, 7, 319) (by decide)
  · exact hM (342, 7, 348) (by decide)
theorem kt_8_7 {fz : Bool} {S : gS} {a : Nat} (hS : rl S) (h : a ∈ k8) : pa fz S (a + 6) .long 80 := by
  have h := k8_or h
  rcases h with rfl | rfl | rfl | rfl | rfl | rfl | rfl | rfl | rfl
  all_goals exact ⟨⟨Nat.le_of_ble_eq_true rfl, by decide, Nat.lt_of_le_of_lt (Nat.le_of_ble_eq_true rfl) hS.1, hS.2 _ (Nat.le_of_ble_eq_true rfl) (Nat.le_of_ble_eq_true rfl)⟩, Nat.le_of_ble_eq_true rfl⟩
theorem kf_8_8 {M : rf_M} {a : Nat} (hM : kfr M) (h : a ∈ k8) : M.2.2 a 8 = some (a + 7) := by
  have h := k8_or h
  rcases h with rfl | rfl | rfl | rfl | rfl | rfl | rfl | rfl | rfl
  · exact hM (201, 8, 208) (by decide)
  · exact hM (217, 8, 224) (by decide)
  · exact hM (233, 8, 240) (by decide)
  · exact hM (249, 8, 256) (by decide)
  · exact hM (265, 8, 272) (by decide)
  · exact hM (281, 8, 288) (by decide)
  · exact hM (297, 8, 304) (by decide)
  · exact hM (313, 8, 320) (by decide)
  · exact hM (342, 8, 349) (by decide)
