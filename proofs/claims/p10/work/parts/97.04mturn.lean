def rl (S : gS) : Prop := 405 < S.2.1 ∧ ∀ a, 22 ≤ a → a < 406 → S.1 a = shK.getD (a - 22) shD
abbrev pa (fz : Bool) (S : gS) (a : Nat) (ty : FieldType) (n : Nat) : Prop := ga (cx0 fz) S a ty n ∧ a < 353
def kfr (M : rf_M) : Prop := ∀ q ∈ rfF, M.2.2 q.1 q.2.1 = some q.2.2
def stR (a : Nat) : Nat := if a = 340 then 332 else 187
def pgA (i : Int) : Nat := 25 + 12 * i.toNat
def clA (i : Int) : Nat := 196 + 16 * i.toNat
theorem k0_or {a : Nat} (h : a ∈ k0) : a = 22 := by
  simpa only [k0, List.mem_cons, List.not_mem_nil, or_false] using h
theorem kl_0 {a : Nat} (h : a ∈ k0) : a < 353 := by
  have h := k0_or h; omega
theorem ko_0 {fz : Bool} {S : gS} {a : Nat} (hS : rl S) (h : a ∈ k0) : go (cx0 fz) S a 0 := by
  have h := k0_or h
  subst h
  all_goals exact ⟨Nat.le_of_ble_eq_true rfl, by decide, Nat.lt_of_le_of_lt (Nat.le_of_ble_eq_true rfl) hS.1, hS.2 _ (Nat.le_of_ble_eq_true rfl) (Nat.le_of_ble_eq_true rfl)⟩
theorem k1_or {a : Nat} (h : a ∈ k1) : a = 25 ∨ a = 37 ∨ a = 49 ∨ a = 61 ∨ a = 73 ∨ a = 85 ∨ a = 97 ∨ a = 109 ∨ a = 121 ∨ a = 133 ∨ a = 145 ∨ a = 157 := by
  simpa only [k1, List.mem_cons, List.not_mem_nil, or_false] using h
theorem kl_1 {a : Nat} (h : a ∈ k1) : a < 353 := by
  have h := k1_or h; omega
theorem ko_1 {fz : Bool} {S : gS} {a : Nat} (hS : rl S) (h : a ∈ k1) : go (cx0 fz) S a 1 := by
  have h := k1_or h
  rcases h with rfl | rfl | rfl | rfl | rfl | rfl | rfl | rfl | rfl | rfl | rfl | rfl
  all_goals exact ⟨Nat.le_of_ble_eq_true rfl, by decide, Nat.lt_of_le_of_lt (Nat.le_of_ble_eq_true rfl) hS.1, hS.2 _ (Nat.le_of_ble_eq_true rfl) (Nat.le_of_ble_eq_true rfl)⟩
theorem k2_or {a : Nat} (h : a ∈ k2) : a = 169 := by
  simpa only [k2, List.mem_cons, List.not_mem_nil, or_false] using h
theorem kl_2 {a : Nat} (h : a ∈ k2) : a < 353 := by
  have h := k2_or h; omega
theorem ko_2 {fz : Bool} {S : gS} {a : Nat} (hS : rl S) (h : a ∈ k2) : go (cx0 fz) S a 2 := by
  have h := k2_or h
  subst h
  all_goals exact ⟨Nat.le_of_ble_eq_true rfl, by decide, Nat.lt_of_le_of_lt (Nat.le_of_ble_eq_true rfl) hS.1, hS.2 _ (Nat.le_of_ble_eq_true rfl) (Nat.le_of_ble_eq_true rfl)⟩
theorem k3_or {a : Nat} (h : a ∈ k3) : a = 170 := by
  simpa only [k3, List.mem_cons, List.not_mem_nil, or_false] using h
theorem ko_3 {fz : Bool} {S : gS} {a : Nat} (hS : rl S) (h : a ∈ k3) : go (cx0 fz) S a 3 := by
  have h := k3_or h
  subst h
  all_goals exact ⟨Nat.le_of_ble_eq_true rfl, by decide, Nat.lt_of_le_of_lt (Nat.le_of_ble_eq_true rfl) hS.1, hS.2 _ (Nat.le_of_ble_eq_true rfl) (Nat.le_of_ble_eq_true rfl)⟩
theorem k4_or {a : Nat} (h : a ∈ k4) : a = 187 ∨ a = 332 := by
  simpa only [k4, List.mem_cons, List.not_mem_nil, or_false] using h
theorem kl_4 {a : Nat} (h : a ∈ k4) : a < 353 := by
  have h := k4_or h; omega
theorem ko_4 {fz : Bool} {S : gS} {a : Nat} (hS : rl S) (h : a ∈ k4) : go (cx0 fz) S a 4 := by
  have h := k4_or h
  rcases h with rfl | rfl
  all_goals exact ⟨Nat.le_of_ble_eq_true rfl, by decide, Nat.lt_of_le_of_lt (Nat.le_of_ble_eq_true rfl) hS.1, hS.2 _ (Nat.le_of_ble_eq_true rfl) (Nat.le_of_ble_eq_true rfl)⟩
theorem k5_or {a : Nat} (h : a ∈ k5) : a = 193 ∨ a = 210 ∨ a = 226 ∨ a = 242 ∨ a = 258 ∨ a = 274 ∨ a = 290 ∨ a = 306 ∨ a = 322 ∨ a = 338 ∨ a = 351 := by
  simpa only [k5, List.mem_cons, List.not_mem_nil, or_false] using h
theorem kl_5 {a : Nat} (h : a ∈ k5) : a < 353 := by
  have h := k5_or h; omega
theorem ko_5 {fz : Bool} {S : gS} {a : Nat} (hS : rl S) (h : a ∈ k5) : go (cx0 fz) S a 5 := by
  have h := k5_or h
  rcases h with rfl | rfl | rfl | rfl | rfl | rfl | rfl | rfl | rfl | rfl | rfl
  all_goals exact ⟨Nat.le_of_ble_eq_true rfl, by decide, Nat.lt_of_le_of_lt (Nat.le_of_ble_eq_true rfl) hS.1, hS.2 _ (Nat.le_of_ble_eq_true rfl) (Nat.le_of_ble_eq_true rfl)⟩
theorem k6_or {a : Nat} (h : a ∈ k6) : a = 196 ∨ a = 212 ∨ a = 228 ∨ a = 244 ∨ a = 260 ∨ a = 276 ∨ a = 292 ∨ a = 308 := by
  simpa only [k6, List.mem_cons, List.not_mem_nil, or_false] using h
theorem kl_6 {a : Nat} (h : a ∈ k6) : a < 353 := by
  have h := k6_or h; omega
theorem ko_6 {fz : Bool} {S : gS} {a : Nat} (hS : rl S) (h : a ∈ k6) : go (cx0 fz) S a 6 := by
  have h := k6_or h
  rcases h with rfl | rfl | rfl | rfl | rfl | rfl | rfl | rfl
  all_goals exact ⟨Nat.le_of_ble_eq_true rfl, by decide, Nat.lt_of_le_of_lt (Nat.le_of_ble_eq_true rfl) hS.1, hS.2 _ (Nat.le_of_ble_eq_true rfl) (Nat.le_of_ble_eq_true rfl)⟩
theorem k7_or {a : Nat} (h : a ∈ k7) : a = 199 ∨ a = 215 ∨ a = 231 ∨ a = 247 ∨ a = 263 ∨ a = 279 ∨ a = 295 ∨ a = 311 ∨ a = 340 := by
  simpa only [k7, List.mem_cons, List.not_mem_nil, or_false] using h
theorem kl_7 {a : Nat} (h : a ∈ k7) : a < 353 := by
  have h := k7_or h; omega
theorem ko_7 {fz : Bool} {S : gS} {a : Nat} (hS : rl S) (h : a ∈ k7) : go (cx0 fz) S a 7 := by
  have h := k7_or h
  rcases h with rfl | rfl | rfl | rfl | rfl | rfl | rfl | rfl | rfl
  all_goals exact ⟨Nat.le_of_ble_eq_true rfl, by decide, Nat.lt_of_le_of_lt (Nat.le_of_ble_eq_true rfl) hS.1, hS.2 _ (Nat.le_of_ble_eq_true rfl) (Nat.le_of_ble_eq_true rfl)⟩
theorem k8_or {a : Nat} (h : a ∈ k8) : a = 201 ∨ a = 217 ∨ a = 233 ∨ a = 249 ∨ a = 265 ∨ a = 281 ∨ a = 297 ∨ a = 313 ∨ a = 342 := by
  simpa only [k8, List.mem_cons, List.not_mem_nil, or_false] using h
theorem kl_8 {a : Nat} (h : a ∈ k8) : a < 353 := by
  have h := k8_or h; omega
theorem ko_8 {fz : Bool} {S : gS} {a : Nat} (hS : rl S) (h : a ∈ k8) : go (cx0 fz) S a 8 := by
  have h := k8_or h
  rcases h with rfl | rfl | rfl | rfl | rfl | rfl | rfl | rfl | rfl
  all_goals exact ⟨Nat.le_of_ble_eq_true rfl, by decide, Nat.lt_of_le_of_lt (Nat.le_of_ble_eq_true rfl) hS.1, hS.2 _ (Nat.le_of_ble_eq_true rfl) (Nat.le_of_ble_eq_true rfl)⟩
theorem k9_or {a : Nat} (h : a ∈ k9) : a = 324 := by
  simpa only [k9, List.mem_cons, List.not_mem_nil, or_false] using h
theorem kl_9 {a : Nat} (h : a ∈ k9) : a < 353 := by
  have h := k9_or h; omega
theorem ko_9 {fz : Bool} {S : gS} {a : Nat} (hS : rl S) (h : a ∈ k9) : go (cx0 fz) S a 9 := by
  have h := k9_or h
  subst h
  all_goals exact ⟨Nat.le_of_ble_eq_true rfl, by decide, Nat.lt_of_le_of_lt (Nat.le_of_ble_eq_true rfl) hS.1, hS.2 _ (Nat.le_of_ble_eq_true rfl) (Nat.le_of_ble_eq_true rfl)⟩
theorem k10_or {a : Nat} (h : a ∈ k10) : a = 331 := by
  simpa only [k10, List.mem_cons, List.not_mem_nil, or_false] using h
theorem kl_10 {a : Nat} (h : a ∈ k10) : a < 353 := by
  have h := k10_or h; omega
theorem ko_10 {fz : Bool} {S : gS} {a : Nat} (hS : rl S) (h : a ∈ k10) : go (cx0 fz) S a 10 := by
  have h := k10_or h
  subst h
  all_goals exact ⟨Nat.le_of_ble_eq_true rfl, by decide, Nat.lt_of_le_of_lt (Nat.le_of_ble_eq_true rfl) hS.1, hS.2 _ (Nat.le_of_ble_eq_true rfl) (Nat.le_of_ble_eq_true rfl)⟩
theorem k11_or {a : Nat} (h : a ∈ k11) : a = 353 := by
  simpa only [k11, List.mem_cons, List.not_mem_nil, or_false] using h
theorem ko_11 {fz : Bool} {S : gS} {a : Nat} (hS : rl S) (h : a ∈ k11) : go (cx0 fz) S a 11 := by
  have h := k11_or h
  subst h
  all_goals exact ⟨Nat.le_of_ble_eq_true rfl, by decide, Nat.lt_of_le_of_lt (Nat.le_of_ble_eq_true rfl) hS.1, hS.2 _ (Nat.le_of_ble_eq_true rfl) (Nat.le_of_ble_eq_true rfl)⟩
theorem kf_0_0 {M : rf_M} {a : Nat} (hM : kfr M) (h : a ∈ k0) : M.2.2 a 0 = some 23 := by
  have h := k0_or h
  subst h
  · exact hM (22, 0, 23) (by decide)
theorem kf_0_2 {M : rf_M} {a : Nat} (hM : kfr M) (h : a ∈ k0) : M.2.2 a 2 = some 24 := by
  have h := k0_or h
  subst h
  · exact hM (22, 2, 24) (by decide)
theorem kf_0_5 {M : rf_M} {a : Nat} (hM : kfr M) (h : a ∈ k0) : M.2.2 a 5 = some 169 := by
  have h := k0_or h
  subst h
  · exact hM (22, 5, 169) (by decide)
theorem kf_0_6 {M : rf_M} {a : Nat} (hM : kfr M) (h : a ∈ k0) : M.2.2 a 6 = some 187 := by
  have h := k0_or h
  subst h
  · exact hM (22, 6, 187) (by decide)
theorem kf_0_7 {M : rf_M} {a : Nat} (hM : kfr M) (h : a ∈ k0) : M.2.2 a 7 = some 195 := by
  have h := k0_or h
  subst h
  · exact hM (22, 7, 195) (by decide)
theorem kf_0_8 {M : rf_M} {a : Nat} (hM : kfr M) (h : a ∈ k0) : M.2.2 a 8 = some 324 := by
  have h := k0_or h
  subst h
  · exact hM (22, 8, 324) (by decide)
theorem kf_0_9 {M : rf_M} {a : Nat} (hM : kfr M) (h : a ∈ k0) : M.2.2 a 9 = some 331 := by
  have h := k0_or h
  subst h
  · exact hM (22, 9, 331) (by decide)
theorem kf_1_5 {M : rf_M} {a : Nat} (hM : kfr M) (h : a ∈ k1) : M.2.2 a 5 = some (a + 1) := by
  have h := k1_or h
  rcases h with rfl | rfl | rfl | rfl | rfl | rfl | rfl | rfl | rfl | rfl | rfl | rfl
  · exact hM (25, 5, 26) (by decide)
  · exact hM (37, 5, 38) (by decide)
  · exact hM (49, 5, 50) (by decide)
  · exact hM (61, 5, 62) (by decide)
  · exact hM (73, 5, 74) (by decide)
  · exact hM (85, 5, 86) (by decide)
  · exact hM (97, 5, 98) (by decide)
  · exact hM (109, 5, 110) (by decide)
  · exact hM (121, 5, 122) (by decide)
  · exact hM (133, 5, 134) (by decide)
  · exact hM (145, 5, 146) (by decide)
  · exact hM (157, 5, 158) (by decide)
theorem kt_1_5 {fz : Bool} {S : gS} {a : Nat} (hS : rl S) (h : a ∈ k1) : pa fz S (a + 1) .int 40 := by
  have h := k1_or h
  rcases h with rfl | rfl | rfl | rfl | rfl | rfl | rfl | rfl | rfl | rfl | rfl | rfl
  all_goals exact ⟨⟨Nat.le_of_ble_eq_true rfl, by decide, Nat.lt_of_le_of_lt (Nat.le_of_ble_eq_true rfl) hS.1, hS.2 _ (Nat.le_of_ble_eq_true rfl) (Nat.le_of_ble_eq_true rfl)⟩, Nat.le_of_ble_eq_true rfl⟩
theorem kf_1_6 {M : rf_M} {a : Nat} (hM : kfr M) (h : a ∈ k1) : M.2.2 a 6 = some (a + 2) := by
  have h := k1_or h
  rcases h with rfl | rfl | rfl | rfl | rfl | rfl | rfl | rfl | rfl | rfl | rfl | rfl
  · exact hM (25, 6, 27) (by decide)
  · exact hM (37, 6, 39) (by decide)
  · exact hM (49, 6, 51) (by decide)
  · exact hM (61, 6, 63) (by decide)
  · exact hM (73, 6, 75) (by decide)
  · exact hM (85, 6, 87) (by decide)
  · exact hM (97, 6, 99) (by decide)
  · exact hM (109, 6, 111) (by decide)
  · exact hM (121, 6, 123) (by decide)
  · exact hM (133, 6, 135) (by decide)
  · exact hM (145, 6, 147) (by decide)
  · exact hM (157, 6, 159) (by decide)
theorem kt_1_6 {fz : Bool} {S : gS} {a : Nat} (hS : rl S) (h : a ∈ k1) : pa fz S (a + 2) .int 40 := by
  have h := k1_or h
  rcases h with rfl | rfl | rfl | rfl | rfl | rfl | rfl | rfl | rfl | rfl | rfl | rfl
  all_goals exact ⟨⟨Nat.le_of_ble_eq_true rfl, by decide, Nat.lt_of_le_of_lt (Nat.le_of_ble_eq_true rfl) hS.1, hS.2 _ (Nat.le_of_ble_eq_true rfl) (Nat.le_of_ble_eq_true rfl)⟩, Nat.le_of_ble_eq_true rfl⟩
theorem kf_1_7 {M : rf_M} {a : Nat} (hM : kfr M) (h : a ∈ k1) : M.2.2 a 7 = some (a + 3) := by
  have h := k1_or h
  rcases h with rfl | rfl | rfl | rfl | rfl | rfl | rfl | rfl | rfl | rfl | rfl | rfl
  · exact hM (25, 7, 28) (by decide)
  · exact hM (37, 7, 40) (by decide)
  · exact hM (49, 7, 52) (by decide)
  · exact hM (61, 7, 64) (by decide)
  · exact hM (73, 7, 76) (by decide)
  · exact hM (85, 7, 88) (by decide)
  · exact hM (97, 7, 100) (by decide)
  · exact hM (109, 7, 112) (by decide)
  · exact hM (121, 7, 124) (by decide)
  · exact hM (133, 7, 136) (by decide)
  · exact hM (145, 7, 148) (by decide)
  · exact hM (157, 7, 160) (by decide)
theorem kt_1_7 {fz : Bool} {S : gS} {a : Nat} (hS : rl S) (h : a ∈ k1) : pa fz S (a + 3) .int 40 := by
  have h := k1_or h
  rcases h with rfl | rfl | rfl | rfl | rfl | rfl | rfl | rfl | rfl | rfl | rfl | rfl
  all_goals exact ⟨⟨Nat.le_of_ble_eq_true rfl, by decide, Nat.lt_of_le_of_lt (Nat.le_of_ble_eq_true rfl) hS.1, hS.2 _ (Nat.le_of_ble_eq_true rfl) (Nat.le_of_ble_eq_true rfl)⟩, Nat.le_of_ble_eq_true rfl⟩
theorem kf_1_8 {M : rf_M} {a : Nat} (hM : kfr M) (h : a ∈ k1) : M.2.2 a 8 = some (a + 4) := by
  have h := k1_or h
  rcases h with rfl | rfl | rfl | rfl | rfl | rfl | rfl | rfl | rfl | rfl | rfl | rfl
  · exact hM (25, 8, 29) (by decide)
  · exact hM (37, 8, 41) (by decide)
  · exact hM (49, 8, 53) (by decide)
  · exact hM (61, 8, 65) (by decide)
  · exact hM (73, 8, 77) (by decide)
  · exact hM (85, 8, 89) (by decide)
  · exact hM (97, 8, 101) (by decide)
  · exact hM (109, 8, 113) (by decide)
  · exact hM (121, 8, 125) (by decide)
  · exact hM (133, 8, 137) (by decide)
  · exact hM (145, 8, 149) (by decide)
  · exact hM (157, 8, 161) (by decide)
theorem kt_1_8 {fz : Bool} {S : gS} {a : Nat} (hS : rl S) (h : a ∈ k1) : pa fz S (a + 4) .int 40 := by
  have h := k1_or h
  rcases h with rfl | rfl | rfl | rfl | rfl | rfl | rfl | rfl | rfl | rfl | rfl | rfl
  all_goals exact ⟨⟨Nat.le_of_ble_eq_true rfl, by decide, Nat.lt_of_le_of_lt (Nat.le_of_ble_eq_true rfl) hS.1, hS.2 _ (Nat.le_of_ble_eq_true rfl) (Nat.le_of_ble_eq_true rfl)⟩, Nat.le_of_ble_eq_true rfl⟩
theorem kf_1_9 {M : rf_M} {a : Nat} (hM : kfr M) (h : a ∈ k1) : M.2.2 a 9 = some (a + 5) := by
  have h := k1_or h
  rcases h with rfl | rfl | rfl | rfl | rfl | rfl | rfl | rfl | rfl | rfl | rfl | rfl
  · exact hM (25, 9, 30) (by decide)
  · exact hM (37, 9, 42) (by decide)
  · exact hM (49, 9, 54) (by decide)
  · exact hM (61, 9, 66) (by decide)
  · exact hM (73, 9, 78) (by decide)
  · exact hM (85, 9, 90) (by decide)
  · exact hM (97, 9, 102) (by decide)
  · exact hM (109, 9, 114) (by decide)
  · exact hM (121, 9, 126) (by decide)
  · exact hM (133, 9, 138) (by decide)
  · exact hM (145, 9, 150) (by decide)
  · exact hM (157, 9, 162) (by decide)
theorem kt_1_9 {fz : Bool} {S : gS} {a : Nat} (hS : rl S) (h : a ∈ k1) : pa fz S (a + 5) .int 40 := by
  have h := k1_or h
  rcases h with rfl | rfl | rfl | rfl | rfl | rfl | rfl | rfl | rfl | rfl | rfl | rfl
  all_goals exact ⟨⟨Nat.le_of_ble_eq_true rfl, by decide, Nat.lt_of_le_of_lt (Nat.le_of_ble_eq_true rfl) hS.1, hS.2 _ (Nat.le_of_ble_eq_true rfl) (Nat.le_of_ble_eq_true rfl)⟩, Nat.le_of_ble_eq_true rfl⟩
theorem kf_1_10 {M : rf_M} {a : Nat} (hM : kfr M) (h : a ∈ k1) : M.2.2 a 10 = some (a + 6) := by
  have h := k1_or h
  rcases h with rfl | rfl | rfl | rfl | rfl | rfl | rfl | rfl | rfl | rfl | rfl | rfl
  · exact hM (25, 10, 31) (by decide)
  · exact hM (37, 10, 43) (by decide)
  · exact hM (49, 10, 55) (by decide)
  · exact hM (61, 10, 67) (by decide)
  · exact hM (73, 10, 79) (by decide)
  · exact hM (85, 10, 91) (by decide)
  · exact hM (97, 10, 103) (by decide)
  · exact hM (109, 10, 115) (by decide)
  · exact hM (121, 10, 127) (by decide)
  · exact hM (133, 10, 139) (by decide)
  · exact hM (145, 10, 151) (by decide)
  · exact hM (157, 10, 163) (by decide)
theorem kt_1_10 {fz : Bool} {S : gS} {a : Nat} (hS : rl S) (h : a ∈ k1) : pa fz S (a + 6) .int 40 := by
  have h := k1_or h
  rcases h with rfl | rfl | rfl | rfl | rfl | rfl | rfl | rfl | rfl | rfl | rfl | rfl
  all_goals exact ⟨⟨Nat.le_of_ble_eq_true rfl, by decide, Nat.lt_of_le_of_lt (Nat.le_of_ble_eq_true rfl) hS.1, hS.2 _ (Nat.le_of_ble_eq_true rfl) (Nat.le_of_ble_eq_true rfl)⟩, Nat.le_of_ble_eq_true rfl⟩
theorem kf_1_11 {M : rf_M} {a : Nat} (hM : kfr M) (h : a ∈ k1) : M.2.2 a 11 = some (a + 7) := by
  have h := k1_or h
  rcases h with rfl | rfl | rfl | rfl | rfl | rfl | rfl | rfl | rfl | rfl | rfl | rfl
  · exact hM (25, 11, 32) (by decide)
  · exact hM (37, 11, 44) (by decide)
  · exact hM (49, 11, 56) (by decide)
  · exact hM (61, 11, 68) (by decide)
  · exact hM (73, 11, 80) (by decide)
  · exact hM (85, 11, 92) (by decide)
  · exact hM (97, 11, 104) (by decide)
  · exact hM (109, 11, 116) (by decide)
  · exact hM (121, 11, 128) (by decide)
  · exact hM (133, 11, 140) (by decide)
  · exact hM (145, 11, 152) (by decide)
  · exact hM (157, 11, 164) (by decide)
theorem kt_1_11 {fz : Bool} {S : gS} {a : Nat} (hS : rl S) (h : a ∈ k1) : pa fz S (a + 7) .int 40 := by
  have h := k1_or h
  rcases h with rfl | rfl | rfl | rfl | rfl | rfl | rfl | rfl | rfl | rfl | rfl | rfl
  all_goals exact ⟨⟨Nat.le_of_ble_eq_true rfl, by decide, Nat.lt_of_le_of_lt (Nat.le_of_ble_eq_true rfl) hS.1, hS.2 _ (Nat.le_of_ble_eq_true rfl) (Nat.le_of_ble_eq_true rfl)⟩, Nat.le_of_ble_eq_true rfl⟩
theorem kf_1_12 {M : rf_M} {a : Nat} (hM : kfr M) (h : a ∈ k1) : M.2.2 a 12 = some (a + 8) := by
  have h := k1_or h
  rcases h with rfl | rfl | rfl | rfl | rfl | rfl | rfl | rfl | rfl | rfl | rfl | rfl
  · exact hM (25, 12, 33) (by decide)
  · exact hM (37, 12, 45) (by decide)
  · exact hM (49, 12, 57) (by decide)
  · exact hM (61, 12, 69) (by decide)
  · exact hM (73, 12, 81) (by decide)
  · exact hM (85, 12, 93) (by decide)
  · exact hM (97, 12, 105) (by decide)
  · exact hM (109, 12, 117) (by decide)
  · exact hM (121, 12, 129) (by decide)
  · exact hM (133, 12, 141) (by decide)
  · exact hM (145, 12, 153) (by decide)
  · exact hM (157, 12, 165) (by decide)
theorem kt_1_12 {fz : Bool} {S : gS} {a : Nat} (hS : rl S) (h : a ∈ k1) : pa fz S (a + 8) .int 40 := by
  have h := k1_or h
  rcases h with rfl | rfl | rfl | rfl | rfl | rfl | rfl | rfl | rfl | rfl | rfl | rfl
  all_goals exact ⟨⟨Nat.le_of_ble_eq_true rfl, by decide, Nat.lt_of_le_of_lt (Nat.le_of_ble_eq_true rfl) hS.1, hS.2 _ (Nat.le_of_ble_eq_true rfl) (Nat.le_of_ble_eq_true rfl)⟩, Nat.le_of_ble_eq_true rfl⟩
theorem kf_1_13 {M : rf_M} {a : Nat} (hM : kfr M) (h : a ∈ k1) : M.2.2 a 13 = some (a + 9) := by
  have h := k1_or h
  rcases h with rfl | rfl | rfl | rfl | rfl | rfl | rfl | rfl | rfl | rfl | rfl | rfl
  · exact hM (25, 13, 34) (by decide)
  · exact hM (37, 13, 46) (by decide)
  · exact hM (49, 13, 58) (by decide)
  · exact hM (61, 13, 70) (by decide)
  · exact hM (73, 13, 82) (by decide)
  · exact hM (85, 13, 94) (by decide)
  · exact hM (97, 13, 106) (by decide)
  · exact hM (109, 13, 118) (by decide)
  · exact hM (121, 13, 130) (by decide)
  · exact hM (133, 13, 142) (by decide)
  · exact hM (145, 13, 154) (by decide)
  · exact hM (157, 13, 166) (by decide)
