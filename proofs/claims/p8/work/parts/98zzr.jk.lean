/-! the program without its replay: its objects and what they hold (printed by wip/tools/vl3.py) -/
abbrev pb (fz : Bool) (S : gS) (a : Nat) (ty : FieldType) (n : Nat) : Prop := ga (cx0 fz) S a ty n ∧ a < 331
def j4 : List Nat := [187]
def j5 : List Nat := [193, 210, 226, 242, 258, 274, 290, 306, 322]
def j6 : List Nat := [196, 212, 228, 244, 260, 276, 292, 308]
def j7 : List Nat := [199, 215, 231, 247, 263, 279, 295, 311]
def j8 : List Nat := [201, 217, 233, 249, 265, 281, 297, 313]
theorem jl_0 {a : Nat} (h : a ∈ k0) : a < 331 := by
  have h := k0_or h; omega
theorem jl_1 {a : Nat} (h : a ∈ k1) : a < 331 := by
  have h := k1_or h; omega
theorem jl_2 {a : Nat} (h : a ∈ k2) : a < 331 := by
  have h := k2_or h; omega
theorem jl_3 {a : Nat} (h : a ∈ k3) : a < 331 := by
  have h := k3_or h; omega
theorem j4_or {a : Nat} (h : a ∈ j4) : a = 187 := by
  simpa only [j4, List.mem_cons, List.not_mem_nil, or_false] using h
theorem jl_4 {a : Nat} (h : a ∈ j4) : a < 331 := by
  have h := j4_or h; omega
theorem jo_4 {fz : Bool} {S : gS} {a : Nat} (hS : rl S) (h : a ∈ j4) : go (cx0 fz) S a 4 := by
  have h := j4_or h
  subst h
  all_goals exact ⟨Nat.le_of_ble_eq_true rfl, by decide, Nat.lt_of_le_of_lt (Nat.le_of_ble_eq_true rfl) hS.1, hS.2 _ (Nat.le_of_ble_eq_true rfl) (Nat.le_of_ble_eq_true rfl)⟩
theorem j5_or {a : Nat} (h : a ∈ j5) : a = 193 ∨ a = 210 ∨ a = 226 ∨ a = 242 ∨ a = 258 ∨ a = 274 ∨ a = 290 ∨ a = 306 ∨ a = 322 := by
  simpa only [j5, List.mem_cons, List.not_mem_nil, or_false] using h
theorem jl_5 {a : Nat} (h : a ∈ j5) : a < 331 := by
  have h := j5_or h; omega
theorem jo_5 {fz : Bool} {S : gS} {a : Nat} (hS : rl S) (h : a ∈ j5) : go (cx0 fz) S a 5 := by
  have h := j5_or h
  rcases h with rfl | rfl | rfl | rfl | rfl | rfl | rfl | rfl | rfl
  all_goals exact ⟨Nat.le_of_ble_eq_true rfl, by decide, Nat.lt_of_le_of_lt (Nat.le_of_ble_eq_true rfl) hS.1, hS.2 _ (Nat.le_of_ble_eq_true rfl) (Nat.le_of_ble_eq_true rfl)⟩
theorem j6_or {a : Nat} (h : a ∈ j6) : a = 196 ∨ a = 212 ∨ a = 228 ∨ a = 244 ∨ a = 260 ∨ a = 276 ∨ a = 292 ∨ a = 308 := by
  simpa only [j6, List.mem_cons, List.not_mem_nil, or_false] using h
theorem jl_6 {a : Nat} (h : a ∈ j6) : a < 331 := by
  have h := j6_or h; omega
theorem jo_6 {fz : Bool} {S : gS} {a : Nat} (hS : rl S) (h : a ∈ j6) : go (cx0 fz) S a 6 := by
  have h := j6_or h
  rcases h with rfl | rfl | rfl | rfl | rfl | rfl | rfl | rfl
  all_goals exact ⟨Nat.le_of_ble_eq_true rfl, by decide, Nat.lt_of_le_of_lt (Nat.le_of_ble_eq_true rfl) hS.1, hS.2 _ (Nat.le_of_ble_eq_true rfl) (Nat.le_of_ble_eq_true rfl)⟩
theorem j7_or {a : Nat} (h : a ∈ j7) : a = 199 ∨ a = 215 ∨ a = 231 ∨ a = 247 ∨ a = 263 ∨ a = 279 ∨ a = 295 ∨ a = 311 := by
  simpa only [j7, List.mem_cons, List.not_mem_nil, or_false] using h
theorem jl_7 {a : Nat} (h : a ∈ j7) : a < 331 := by
  have h := j7_or h; omega
theorem jo_7 {fz : Bool} {S : gS} {a : Nat} (hS : rl S) (h : a ∈ j7) : go (cx0 fz) S a 7 := by
  have h := j7_or h
  rcases h with rfl | rfl | rfl | rfl | rfl | rfl | rfl | rfl
  all_goals exact ⟨Nat.le_of_ble_eq_true rfl, by decide, Nat.lt_of_le_of_lt (Nat.le_of_ble_eq_true rfl) hS.1, hS.2 _ (Nat.le_of_ble_eq_true rfl) (Nat.le_of_ble_eq_true rfl)⟩
theorem j8_or {a : Nat} (h : a ∈ j8) : a = 201 ∨ a = 217 ∨ a = 233 ∨ a = 249 ∨ a = 265 ∨ a = 281 ∨ a = 297 ∨ a = 313 := by
  simpa only [j8, List.mem_cons, List.not_mem_nil, or_false] using h
theorem jl_8 {a : Nat} (h : a ∈ j8) : a < 331 := by
  have h := j8_or h; omega
theorem jo_8 {fz : Bool} {S : gS} {a : Nat} (hS : rl S) (h : a ∈ j8) : go (cx0 fz) S a 8 := by
  have h := j8_or h
  rcases h with rfl | rfl | rfl | rfl | rfl | rfl | rfl | rfl
  all_goals exact ⟨Nat.le_of_ble_eq_true rfl, by decide, Nat.lt_of_le_of_lt (Nat.le_of_ble_eq_true rfl) hS.1, hS.2 _ (Nat.le_of_ble_eq_true rfl) (Nat.le_of_ble_eq_true rfl)⟩
theorem jl_9 {a : Nat} (h : a ∈ k9) : a < 331 := by
  have h := k9_or h; omega
theorem jt_1_5 {fz : Bool} {S : gS} {a : Nat} (hS : rl S) (h : a ∈ k1) : pb fz S (a + 1) .int 40 := by
  have h := k1_or h
  rcases h with rfl | rfl | rfl | rfl | rfl | rfl | rfl | rfl | rfl | rfl | rfl | rfl
  all_goals exact ⟨⟨Nat.le_of_ble_eq_true rfl, by decide, Nat.lt_of_le_of_lt (Nat.le_of_ble_eq_true rfl) hS.1, hS.2 _ (Nat.le_of_ble_eq_true rfl) (Nat.le_of_ble_eq_true rfl)⟩, Nat.le_of_ble_eq_true rfl⟩
theorem jt_1_6 {fz : Bool} {S : gS} {a : Nat} (hS : rl S) (h : a ∈ k1) : pb fz S (a + 2) .int 40 := by
  have h := k1_or h
  rcases h with rfl | rfl | rfl | rfl | rfl | rfl | rfl | rfl | rfl | rfl | rfl | rfl
  all_goals exact ⟨⟨Nat.le_of_ble_eq_true rfl, by decide, Nat.lt_of_le_of_lt (Nat.le_of_ble_eq_true rfl) hS.1, hS.2 _ (Nat.le_of_ble_eq_true rfl) (Nat.le_of_ble_eq_true rfl)⟩, Nat.le_of_ble_eq_true rfl⟩
theorem jt_1_7 {fz : Bool} {S : gS} {a : Nat} (hS : rl S) (h : a ∈ k1) : pb fz S (a + 3) .int 40 := by
  have h := k1_or h
  rcases h with rfl | rfl | rfl | rfl | rfl | rfl | rfl | rfl | rfl | rfl | rfl | rfl
  all_goals exact ⟨⟨Nat.le_of_ble_eq_true rfl, by decide, Nat.lt_of_le_of_lt (Nat.le_of_ble_eq_true rfl) hS.1, hS.2 _ (Nat.le_of_ble_eq_true rfl) (Nat.le_of_ble_eq_true rfl)⟩, Nat.le_of_ble_eq_true rfl⟩
theorem jt_1_8 {fz : Bool} {S : gS} {a : Nat} (hS : rl S) (h : a ∈ k1) : pb fz S (a + 4) .int 40 := by
  have h := k1_or h
  rcases h with rfl | rfl | rfl | rfl | rfl | rfl | rfl | rfl | rfl | rfl | rfl | rfl
  all_goals exact ⟨⟨Nat.le_of_ble_eq_true rfl, by decide, Nat.lt_of_le_of_lt (Nat.le_of_ble_eq_true rfl) hS.1, hS.2 _ (Nat.le_of_ble_eq_true rfl) (Nat.le_of_ble_eq_true rfl)⟩, Nat.le_of_ble_eq_true rfl⟩
theorem jt_1_9 {fz : Bool} {S : gS} {a : Nat} (hS : rl S) (h : a ∈ k1) : pb fz S (a + 5) .int 40 := by
  have h := k1_or h
  rcases h with rfl | rfl | rfl | rfl | rfl | rfl | rfl | rfl | rfl | rfl | rfl | rfl
  all_goals exact ⟨⟨Nat.le_of_ble_eq_true rfl, by decide, Nat.lt_of_le_of_lt (Nat.le_of_ble_eq_true rfl) hS.1, hS.2 _ (Nat.le_of_ble_eq_true rfl) (Nat.le_of_ble_eq_true rfl)⟩, Nat.le_of_ble_eq_true rfl⟩
theorem jt_1_10 {fz : Bool} {S : gS} {a : Nat} (hS : rl S) (h : a ∈ k1) : pb fz S (a + 6) .int 40 := by
  have h := k1_or h
  rcases h with rfl | rfl | rfl | rfl | rfl | rfl | rfl | rfl | rfl | rfl | rfl | rfl
  all_goals exact ⟨⟨Nat.le_of_ble_eq_true rfl, by decide, Nat.lt_of_le_of_lt (Nat.le_of_ble_eq_true rfl) hS.1, hS.2 _ (Nat.le_of_ble_eq_true rfl) (Nat.le_of_ble_eq_true rfl)⟩, Nat.le_of_ble_eq_true rfl⟩
theorem jt_1_11 {fz : Bool} {S : gS} {a : Nat} (hS : rl S) (h : a ∈ k1) : pb fz S (a + 7) .int 40 := by
  have h := k1_or h
  rcases h with rfl | rfl | rfl | rfl | rfl | rfl | rfl | rfl | rfl | rfl | rfl | rfl
  all_goals exact ⟨⟨Nat.le_of_ble_eq_true rfl, by decide, Nat.lt_of_le_of_lt (Nat.le_of_ble_eq_true rfl) hS.1, hS.2 _ (Nat.le_of_ble_eq_true rfl) (Nat.le_of_ble_eq_true rfl)⟩, Nat.le_of_ble_eq_true rfl⟩
theorem jt_1_12 {fz : Bool} {S : gS} {a : Nat} (hS : rl S) (h : a ∈ k1) : pb fz S (a + 8) .int 40 := by
  have h := k1_or h
  rcases h with rfl | rfl | rfl | rfl | rfl | rfl | rfl | rfl | rfl | rfl | rfl | rfl
  all_goals exact ⟨⟨Nat.le_of_ble_eq_true rfl, by decide, Nat.lt_of_le_of_lt (Nat.le_of_ble_eq_true rfl) hS.1, hS.2 _ (Nat.le_of_ble_eq_true rfl) (Nat.le_of_ble_eq_true rfl)⟩, Nat.le_of_ble_eq_true rfl⟩
theorem jt_1_13 {fz : Bool} {S : gS} {a : Nat} (hS : rl S) (h : a ∈ k1) : pb fz S (a + 9) .int 40 := by
  have h := k1_or h
  rcases h with rfl | rfl | rfl | rfl | rfl | rfl | rfl | rfl | rfl | rfl | rfl | rfl
  all_goals exact ⟨⟨Nat.le_of_ble_eq_true rfl, by decide, Nat.lt_of_le_of_lt (Nat.le_of_ble_eq_true rfl) hS.1, hS.2 _ (Nat.le_of_ble_eq_true rfl) (Nat.le_of_ble_eq_true rfl)⟩, Nat.le_of_ble_eq_true rfl⟩
theorem jt_1_14 {fz : Bool} {S : gS} {a : Nat} (hS : rl S) (h : a ∈ k1) : pb fz S (a + 10) .int 160 := by
  have h := k1_or h
  rcases h with rfl | rfl | rfl | rfl | rfl | rfl | rfl | rfl | rfl | rfl | rfl | rfl
  all_goals exact ⟨⟨Nat.le_of_ble_eq_true rfl, by decide, Nat.lt_of_le_of_lt (Nat.le_of_ble_eq_true rfl) hS.1, hS.2 _ (Nat.le_of_ble_eq_true rfl) (Nat.le_of_ble_eq_true rfl)⟩, Nat.le_of_ble_eq_true rfl⟩
theorem jt_1_15 {fz : Bool} {S : gS} {a : Nat} (hS : rl S) (h : a ∈ k1) : pb fz S (a + 11) .int 160 := by
  have h := k1_or h
  rcases h with rfl | rfl | rfl | rfl | rfl | rfl | rfl | rfl | rfl | rfl | rfl | rfl
  all_goals exact ⟨⟨Nat.le_of_ble_eq_true rfl, by decide, Nat.lt_of_le_of_lt (Nat.le_of_ble_eq_true rfl) hS.1, hS.2 _ (Nat.le_of_ble_eq_true rfl) (Nat.le_of_ble_eq_true rfl)⟩, Nat.le_of_ble_eq_true rfl⟩
theorem jf_4_0 {M : rf_M} {a : Nat} (hM : kfr M) (h : a ∈ j4) : M.2.2 a 0 = some (a + 1) := by
  have h := j4_or h
  subst h
  · exact hM (187, 0, 188) (by decide)
theorem jt_4_0 {fz : Bool} {S : gS} {a : Nat} (hS : rl S) (h : a ∈ j4) : pb fz S (a + 1) .long 16 := by
  have h := j4_or h
  subst h
  all_goals exact ⟨⟨Nat.le_of_ble_eq_true rfl, by decide, Nat.lt_of_le_of_lt (Nat.le_of_ble_eq_true rfl) hS.1, hS.2 _ (Nat.le_of_ble_eq_true rfl) (Nat.le_of_ble_eq_true rfl)⟩, Nat.le_of_ble_eq_true rfl⟩
theorem jf_4_1 {M : rf_M} {a : Nat} (hM : kfr M) (h : a ∈ j4) : M.2.2 a 1 = some (a + 2) := by
  have h := j4_or h
  subst h
  · exact hM (187, 1, 189) (by decide)
theorem jt_4_1 {fz : Bool} {S : gS} {a : Nat} (hS : rl S) (h : a ∈ j4) : pb fz S (a + 2) .int 16 := by
  have h := j4_or h
  subst h
  all_goals exact ⟨⟨Nat.le_of_ble_eq_true rfl, by decide, Nat.lt_of_le_of_lt (Nat.le_of_ble_eq_true rfl) hS.1, hS.2 _ (Nat.le_of_ble_eq_true rfl) (Nat.le_of_ble_eq_true rfl)⟩, Nat.le_of_ble_eq_true rfl⟩
theorem jf_4_3 {M : rf_M} {a : Nat} (hM : kfr M) (h : a ∈ j4) : M.2.2 a 3 = some (a + 3) := by
  have h := j4_or h
  subst h
  · exact hM (187, 3, 190) (by decide)
theorem jt_4_3 {fz : Bool} {S : gS} {a : Nat} (hS : rl S) (h : a ∈ j4) : pb fz S (a + 3) (.object "MemoryTransactions$Program") 32 := by
  have h := j4_or h
  subst h
  all_goals exact ⟨⟨Nat.le_of_ble_eq_true rfl, by decide, Nat.lt_of_le_of_lt (Nat.le_of_ble_eq_true rfl) hS.1, hS.2 _ (Nat.le_of_ble_eq_true rfl) (Nat.le_of_ble_eq_true rfl)⟩, Nat.le_of_ble_eq_true rfl⟩
theorem jf_4_4 {M : rf_M} {a : Nat} (hM : kfr M) (h : a ∈ j4) : M.2.2 a 4 = some (a + 4) := by
  have h := j4_or h
  subst h
  · exact hM (187, 4, 191) (by decide)
theorem jt_4_4 {fz : Bool} {S : gS} {a : Nat} (hS : rl S) (h : a ∈ j4) : pb fz S (a + 4) .int 32 := by
  have h := j4_or h
  subst h
  all_goals exact ⟨⟨Nat.le_of_ble_eq_true rfl, by decide, Nat.lt_of_le_of_lt (Nat.le_of_ble_eq_true rfl) hS.1, hS.2 _ (Nat.le_of_ble_eq_true rfl) (Nat.le_of_ble_eq_true rfl)⟩, Nat.le_of_ble_eq_true rfl⟩
theorem jf_4_5 {M : rf_M} {a : Nat} (hM : kfr M) (h : a ∈ j4) : M.2.2 a 5 = some (a + 5) := by
  have h := j4_or h
  subst h
  · exact hM (187, 5, 192) (by decide)
theorem jt_4_5 {fz : Bool} {S : gS} {a : Nat} (hS : rl S) (h : a ∈ j4) : pb fz S (a + 5) .long 16 := by
  have h := j4_or h
  subst h
  all_goals exact ⟨⟨Nat.le_of_ble_eq_true rfl, by decide, Nat.lt_of_le_of_lt (Nat.le_of_ble_eq_true rfl) hS.1, hS.2 _ (Nat.le_of_ble_eq_true rfl) (Nat.le_of_ble_eq_true rfl)⟩, Nat.le_of_ble_eq_true rfl⟩
theorem jf_4_6 {M : rf_M} {a : Nat} (hM : kfr M) (h : a ∈ j4) : M.2.2 a 6 = some (a + 6) := by
  have h := j4_or h
  subst h
  · exact hM (187, 6, 193) (by decide)
theorem jt_4_6 {a : Nat} (h : a ∈ j4) : (a + 6) ∈ j5 := by
  have h := j4_or h
  subst h <;> decide
theorem jf_5_0 {M : rf_M} {a : Nat} (hM : kfr M) (h : a ∈ j5) : M.2.2 a 0 = some (a + 1) := by
  have h := j5_or h
  rcases h with rfl | rfl | rfl | rfl | rfl | rfl | rfl | rfl | rfl
  · exact hM (193, 0, 194) (by decide)
  · exact hM (210, 0, 211) (by decide)
  · exact hM (226, 0, 227) (by decide)
  · exact hM (242, 0, 243) (by decide)
  · exact hM (258, 0, 259) (by decide)
  · exact hM (274, 0, 275) (by decide)
  · exact hM (290, 0, 291) (by decide)
  · exact hM (306, 0, 307) (by decide)
  · exact hM (322, 0, 323) (by decide)
theorem jt_5_0 {fz : Bool} {S : gS} {a : Nat} (hS : rl S) (h : a ∈ j5) : pb fz S (a + 1) .long 60 := by
  have h := j5_or h
  rcases h with rfl | rfl | rfl | rfl | rfl | rfl | rfl | rfl | rfl
  all_goals exact ⟨⟨Nat.le_of_ble_eq_true rfl, by decide, Nat.lt_of_le_of_lt (Nat.le_of_ble_eq_true rfl) hS.1, hS.2 _ (Nat.le_of_ble_eq_true rfl) (Nat.le_of_ble_eq_true rfl)⟩, Nat.le_of_ble_eq_true rfl⟩
theorem jf_6_3 {M : rf_M} {a : Nat} (hM : kfr M) (h : a ∈ j6) : M.2.2 a 3 = some (a + 1) := by
  have h := j6_or h
  rcases h with rfl | rfl | rfl | rfl | rfl | rfl | rfl | rfl
  · exact hM (196, 3, 197) (by decide)
  · exact hM (212, 3, 213) (by decide)
  · exact hM (228, 3, 229) (by decide)
  · exact hM (244, 3, 245) (by decide)
  · exact hM (260, 3, 261) (by decide)
  · exact hM (276, 3, 277) (by decide)
  · exact hM (292, 3, 293) (by decide)
  · exact hM (308, 3, 309) (by decide)
theorem jt_6_3 {fz : Bool} {S : gS} {a : Nat} (hS : rl S) (h : a ∈ j6) : pb fz S (a + 1) .int 16 := by
  have h := j6_or h
  rcases h with rfl | rfl | rfl | rfl | rfl | rfl | rfl | rfl
  all_goals exact ⟨⟨Nat.le_of_ble_eq_true rfl, by decide, Nat.lt_of_le_of_lt (Nat.le_of_ble_eq_true rfl) hS.1, hS.2 _ (Nat.le_of_ble_eq_true rfl) (Nat.le_of_ble_eq_true rfl)⟩, Nat.le_of_ble_eq_true rfl⟩
theorem jf_6_4 {M : rf_M} {a : Nat} (hM : kfr M) (h : a ∈ j6) : M.2.2 a 4 = some (a + 3) := by
  have h := j6_or h
  rcases h with rfl | rfl | rfl | rfl | rfl | rfl | rfl | rfl
  · exact hM (196, 4, 199) (by decide)
  · exact hM (212, 4, 215) (by decide)
  · exact hM (228, 4, 231) (by decide)
  · exact hM (244, 4, 247) (by decide)
  · exact hM (260, 4, 263) (by decide)
  · exact hM (276, 4, 279) (by decide)
  · exact hM (292, 4, 295) (by decide)
  · exact hM (308, 4, 311) (by decide)
theorem jt_6_4 {a : Nat} (h : a ∈ j6) : (a + 3) ∈ j7 := by
  have h := j6_or h
  rcases h with rfl | rfl | rfl | rfl | rfl | rfl | rfl | rfl <;> decide
theorem jf_6_7 {M : rf_M} {a : Nat} (hM : kfr M) (h : a ∈ j6) : M.2.2 a 7 = some (a + 2) := by
  have h := j6_or h
  rcases h with rfl | rfl | rfl | rfl | rfl | rfl | rfl | rfl
  · exact hM (196, 7, 198) (by decide)
  · exact hM (212, 7, 214) (by decide)
  · exact hM (228, 7, 230) (by decide)
  · exact hM (244, 7, 246) (by decide)
  · exact hM (260, 7, 262) (by decide)
  · exact hM (276, 7, 278) (by decide)
  · exact hM (292, 7, 294) (by decide)
  · exact hM (308, 7, 310) (by decide)
theorem jt_6_7 {fz : Bool} {S : gS} {a : Nat} (hS : rl S) (h : a ∈ j6) : pb fz S (a + 2) .int 16 := by
  have h := j6_or h
  rcases h with rfl | rfl | rfl | rfl | rfl | rfl | rfl | rfl
  all_goals exact ⟨⟨Nat.le_of_ble_eq_true rfl, by decide, Nat.lt_of_le_of_lt (Nat.le_of_ble_eq_true rfl) hS.1, hS.2 _ (Nat.le_of_ble_eq_true rfl) (Nat.le_of_ble_eq_true rfl)⟩, Nat.le_of_ble_eq_true rfl⟩
theorem jf_7_4 {M : rf_M} {a : Nat} (hM : kfr M) (h : a ∈ j7) : M.2.2 a 4 = some (a + 1) := by
  have h := j7_or h
  rcases h with rfl | rfl | rfl | rfl | rfl | rfl | rfl | rfl
  · exact hM (199, 4, 200) (by decide)
  · exact hM (215, 4, 216) (by decide)
  · exact hM (231, 4, 232) (by decide)
  · exact hM (247, 4, 248) (by decide)
  · exact hM (263, 4, 264) (by decide)
  · exact hM (279, 4, 280) (by decide)
  · exact hM (295, 4, 296) (by decide)
  · exact hM (311, 4, 312) (by decide)
theorem jt_7_4 {fz : Bool} {S : gS} {a : Nat} (hS : rl S) (h : a ∈ j7) : pb fz S (a + 1) .int 16 := by
  have h := j7_or h
  rcases h with rfl | rfl | rfl | rfl | rfl | rfl | rfl | rfl
  all_goals exact ⟨⟨Nat.le_of_ble_eq_true rfl, by decide, Nat.lt_of_le_of_lt (Nat.le_of_ble_eq_true rfl) hS.1, hS.2 _ (Nat.le_of_ble_eq_true rfl) (Nat.le_of_ble_eq_true rfl)⟩, Nat.le_of_ble_eq_true rfl⟩
theorem jf_7_5 {M : rf_M} {a : Nat} (hM : kfr M) (h : a ∈ j7) : M.2.2 a 5 = some (a + 2) := by
  have h := j7_or h
  rcases h with rfl | rfl | rfl | rfl | rfl | rfl | rfl | rfl
  · exact hM (199, 5, 201) (by decide)
  · exact hM (215, 5, 217) (by decide)
  · exact hM (231, 5, 233) (by decide)
  · exact hM (247, 5, 249) (by decide)
  · exact hM (263, 5, 265) (by decide)
  · exact hM (279, 5, 281) (by decide)
  · exact hM (295, 5, 297) (by decide)
  · exact hM (311, 5, 313) (by decide)
theorem jt_7_5 {a : Nat} (h : a ∈ j7) : (a + 2) ∈ j8 := by
  have h := j7_or h
  rcases h with rfl | rfl | rfl | rfl | rfl | rfl | rfl | rfl <;> decide
theorem jf_7_7 {M : rf_M} {a : Nat} (hM : kfr M) (h : a ∈ j7) : M.2.2 a 7 = some (a + 10) := by
  have h := j7_or h
  rcases h with rfl | rfl | rfl | rfl | rfl | rfl | rfl | rfl
  · exact hM (199, 7, 209) (by decide)
  · exact hM (215, 7, 225) (by decide)
  · exact hM (231, 7, 241) (by decide)
  · exact hM (247, 7, 257) (by decide)
  · exact hM (263, 7, 273) (by decide)
  · exact hM (279, 7, 289) (by decide)
  · exact hM (295, 7, 305) (by decide)
  · exact hM (311, 7, 321) (by decide)
theorem jt_7_7 {fz : Bool} {S : gS} {a : Nat} (hS : rl S) (h : a ∈ j7) : pb fz S (a + 10) .long 16 := by
  have h := j7_or h
  rcases h with rfl | rfl | rfl | rfl | rfl | rfl | rfl | rfl
  all_goals exact ⟨⟨Nat.le_of_ble_eq_true rfl, by decide, Nat.lt_of_le_of_lt (Nat.le_of_ble_eq_true rfl) hS.1, hS.2 _ (Nat.le_of_ble_eq_true rfl) (Nat.le_of_ble_eq_true rfl)⟩, Nat.le_of_ble_eq_true rfl⟩
theorem jf_7_8 {M : rf_M} {a : Nat} (hM : kfr M) (h : a ∈ j7) : M.2.2 a 8 = some (stR a) := by
  have h := j7_or h
  rcases h with rfl | rfl | rfl | rfl | rfl | rfl | rfl | rfl
  · exact hM (199, 8, 187) (by decide)
  · exact hM (215, 8, 187) (by decide)
  · exact hM (231, 8, 187) (by decide)
  · exact hM (247, 8, 187) (by decide)
  · exact hM (263, 8, 187) (by decide)
  · exact hM (279, 8, 187) (by decide)
  · exact hM (295, 8, 187) (by decide)
  · exact hM (311, 8, 187) (by decide)
theorem jt_7_8 {a : Nat} (h : a ∈ j7) : (stR a) ∈ j4 := by
  have h := j7_or h
  rcases h with rfl | rfl | rfl | rfl | rfl | rfl | rfl | rfl <;> decide
theorem jf_7_9 {M : rf_M} {a : Nat} (hM : kfr M) (h : a ∈ j7) : M.2.2 a 9 = some (a + 11) := by
  have h := j7_or h
  rcases h with rfl | rfl | rfl | rfl | rfl | rfl | rfl | rfl
  · exact hM (199, 9, 210) (by decide)
  · exact hM (215, 9, 226) (by decide)
  · exact hM (231, 9, 242) (by decide)
  · exact hM (247, 9, 258) (by decide)
  · exact hM (263, 9, 274) (by decide)
  · exact hM (279, 9, 290) (by decide)
  · exact hM (295, 9, 306) (by decide)
  · exact hM (311, 9, 322) (by decide)
theorem jt_7_9 {a : Nat} (h : a ∈ j7) : (a + 11) ∈ j5 := by
  have h := j7_or h
  rcases h with rfl | rfl | rfl | rfl | rfl | rfl | rfl | rfl <;> decide
theorem jf_8_1 {M : rf_M} {a : Nat} (hM : kfr M) (h : a ∈ j8) : M.2.2 a 1 = some (a + 1) := by
  have h := j8_or h
  rcases h with rfl | rfl | rfl | rfl | rfl | rfl | rfl | rfl
  · exact hM (201, 1, 202) (by decide)
  · exact hM (217, 1, 218) (by decide)
  · exact hM (233, 1, 234) (by decide)
  · exact hM (249, 1, 250) (by decide)
  · exact hM (265, 1, 266) (by decide)
  · exact hM (281, 1, 282) (by decide)
  · exact hM (297, 1, 298) (by decide)
  · exact hM (313, 1, 314) (by decide)
theorem jt_8_1 {fz : Bool} {S : gS} {a : Nat} (hS : rl S) (h : a ∈ j8) : pb fz S (a + 1) .long 16 := by
  have h := j8_or h
  rcases h with rfl | rfl | rfl | rfl | rfl | rfl | rfl | rfl
  all_goals exact ⟨⟨Nat.le_of_ble_eq_true rfl, by decide, Nat.lt_of_le_of_lt (Nat.le_of_ble_eq_true rfl) hS.1, hS.2 _ (Nat.le_of_ble_eq_true rfl) (Nat.le_of_ble_eq_true rfl)⟩, Nat.le_of_ble_eq_true rfl⟩
theorem jf_8_2 {M : rf_M} {a : Nat} (hM : kfr M) (h : a ∈ j8) : M.2.2 a 2 = some (a + 2) := by
  have h := j8_or h
  rcases h with rfl | rfl | rfl | rfl | rfl | rfl | rfl | rfl
  · exact hM (201, 2, 203) (by decide)
  · exact hM (217, 2, 219) (by decide)
  · exact hM (233, 2, 235) (by decide)
  · exact hM (249, 2, 251) (by decide)
  · exact hM (265, 2, 267) (by decide)
  · exact hM (281, 2, 283) (by decide)
  · exact hM (297, 2, 299) (by decide)
  · exact hM (313, 2, 315) (by decide)
theorem jt_8_2 {fz : Bool} {S : gS} {a : Nat} (hS : rl S) (h : a ∈ j8) : pb fz S (a + 2) .long 10 := by
  have h := j8_or h
  rcases h with rfl | rfl | rfl | rfl | rfl | rfl | rfl | rfl
  all_goals exact ⟨⟨Nat.le_of_ble_eq_true rfl, by decide, Nat.lt_of_le_of_lt (Nat.le_of_ble_eq_true rfl) hS.1, hS.2 _ (Nat.le_of_ble_eq_true rfl) (Nat.le_of_ble_eq_true rfl)⟩, Nat.le_of_ble_eq_true rfl⟩
theorem jf_8_4 {M : rf_M} {a : Nat} (hM : kfr M) (h : a ∈ j8) : M.2.2 a 4 = some (a + 3) := by
  have h := j8_or h
  rcases h with rfl | rfl | rfl | rfl | rfl | rfl | rfl | rfl
  · exact hM (201, 4, 204) (by decide)
  · exact hM (217, 4, 220) (by decide)
  · exact hM (233, 4, 236) (by decide)
  · exact hM (249, 4, 252) (by decide)
  · exact hM (265, 4, 268) (by decide)
  · exact hM (281, 4, 284) (by decide)
  · exact hM (297, 4, 300) (by decide)
  · exact hM (313, 4, 316) (by decide)
theorem jt_8_4 {fz : Bool} {S : gS} {a : Nat} (hS : rl S) (h : a ∈ j8) : pb fz S (a + 3) .int 300 := by
  have h := j8_or h
  rcases h with rfl | rfl | rfl | rfl | rfl | rfl | rfl | rfl
  all_goals exact ⟨⟨Nat.le_of_ble_eq_true rfl, by decide, Nat.lt_of_le_of_lt (Nat.le_of_ble_eq_true rfl) hS.1, hS.2 _ (Nat.le_of_ble_eq_true rfl) (Nat.le_of_ble_eq_true rfl)⟩, Nat.le_of_ble_eq_true rfl⟩
theorem jf_8_5 {M : rf_M} {a : Nat} (hM : kfr M) (h : a ∈ j8) : M.2.2 a 5 = some (a + 4) := by
  have h := j8_or h
  rcases h with rfl | rfl | rfl | rfl | rfl | rfl | rfl | rfl
  · exact hM (201, 5, 205) (by decide)
  · exact hM (217, 5, 221) (by decide)
  · exact hM (233, 5, 237) (by decide)
  · exact hM (249, 5, 253) (by decide)
  · exact hM (265, 5, 269) (by decide)
  · exact hM (281, 5, 285) (by decide)
  · exact hM (297, 5, 301) (by decide)
  · exact hM (313, 5, 317) (by decide)
theorem jt_8_5 {fz : Bool} {S : gS} {a : Nat} (hS : rl S) (h : a ∈ j8) : pb fz S (a + 4) .int 8 := by
  have h := j8_or h
  rcases h with rfl | rfl | rfl | rfl | rfl | rfl | rfl | rfl
  all_goals exact ⟨⟨Nat.le_of_ble_eq_true rfl, by decide, Nat.lt_of_le_of_lt (Nat.le_of_ble_eq_true rfl) hS.1, hS.2 _ (Nat.le_of_ble_eq_true rfl) (Nat.le_of_ble_eq_true rfl)⟩, Nat.le_of_ble_eq_true rfl⟩
theorem jf_8_6 {M : rf_M} {a : Nat} (hM : kfr M) (h : a ∈ j8) : M.2.2 a 6 = some (a + 5) := by
  have h := j8_or h
  rcases h with rfl | rfl | rfl | rfl | rfl | rfl | rfl | rfl
  · exact hM (201, 6, 206) (by decide)
  · exact hM (217, 6, 222) (by decide)
  · exact hM (233, 6, 238) (by decide)
  · exact hM (249, 6, 254) (by decide)
  · exact hM (265, 6, 270) (by decide)
  · exact hM (281, 6, 286) (by decide)
  · exact hM (297, 6, 302) (by decide)
  · exact hM (313, 6, 318) (by decide)
theorem jt_8_6 {fz : Bool} {S : gS} {a : Nat} (hS : rl S) (h : a ∈ j8) : pb fz S (a + 5) .long 128 := by
  have h := j8_or h
  rcases h with rfl | rfl | rfl | rfl | rfl | rfl | rfl | rfl
  all_goals exact ⟨⟨Nat.le_of_ble_eq_true rfl, by decide, Nat.lt_of_le_of_lt (Nat.le_of_ble_eq_true rfl) hS.1, hS.2 _ (Nat.le_of_ble_eq_true rfl) (Nat.le_of_ble_eq_true rfl)⟩, Nat.le_of_ble_eq_true rfl⟩
theorem jf_8_7 {M : rf_M} {a : Nat} (hM : kfr M) (h : a ∈ j8) : M.2.2 a 7 = some (a + 6) := by
  have h := j8_or h
  rcases h with rfl | rfl | rfl | rfl | rfl | rfl | rfl | rfl
  · exact hM (201, 7, 207) (by decide)
  · exact hM (217, 7, 223) (by decide)
  · exact hM (233, 7, 239) (by decide)
  · exact hM (249, 7, 255) (by decide)
  · exact hM (265, 7, 271) (by decide)
  · exact hM (281, 7, 287) (by decide)
  · exact hM (297, 7, 303) (by decide)
  · exact hM (313, 7, 319) (by decide)
theorem jt_8_7 {fz : Bool} {S : gS} {a : Nat} (hS : rl S) (h : a ∈ j8) : pb fz S (a + 6) .long 80 := by
  have h := j8_or h
  rcases h with rfl | rfl | rfl | rfl | rfl | rfl | rfl | rfl
  all_goals exact ⟨⟨Nat.le_of_ble_eq_true rfl, by decide, Nat.lt_of_le_of_lt (Nat.le_of_ble_eq_true rfl) hS.1, hS.2 _ (Nat.le_of_ble_eq_true rfl) (Nat.le_of_ble_eq_true rfl)⟩, Nat.le_of_ble_eq_true rfl⟩
theorem jf_8_8 {M : rf_M} {a : Nat} (hM : kfr M) (h : a ∈ j8) : M.2.2 a 8 = some (a + 7) := by
  have h := j8_or h
  rcases h with rfl | rfl | rfl | rfl | rfl | rfl | rfl | rfl
  · exact hM (201, 8, 208) (by decide)
  · exact hM (217, 8, 224) (by decide)
  · exact hM (233, 8, 240) (by decide)
  · exact hM (249, 8, 256) (by decide)
  · exact hM (265, 8, 272) (by decide)
  · exact hM (281, 8, 288) (by decide)
  · exact hM (297, 8, 304) (by decide)
  · exact hM (313, 8, 320) (by decide)
theorem jt_8_8 {fz : Bool} {S : gS} {a : Nat} (hS : rl S) (h : a ∈ j8) : pb fz S (a + 7) .int 8 := by
  have h := j8_or h
  rcases h with rfl | rfl | rfl | rfl | rfl | rfl | rfl | rfl
  all_goals exact ⟨⟨Nat.le_of_ble_eq_true rfl, by decide, Nat.lt_of_le_of_lt (Nat.le_of_ble_eq_true rfl) hS.1, hS.2 _ (Nat.le_of_ble_eq_true rfl) (Nat.le_of_ble_eq_true rfl)⟩, Nat.le_of_ble_eq_true rfl⟩
theorem jc_23 {fz : Bool} {S : gS} (hS : rl S) : pb fz S 23 .int 800 := ⟨⟨Nat.le_of_ble_eq_true rfl, by decide, Nat.lt_of_le_of_lt (Nat.le_of_ble_eq_true rfl) hS.1, hS.2 _ (Nat.le_of_ble_eq_true rfl) (Nat.le_of_ble_eq_true rfl)⟩, Nat.le_of_ble_eq_true rfl⟩
theorem jc_24 {fz : Bool} {S : gS} (hS : rl S) : pb fz S 24 (.object "MemoryTransactions$Program") 12 := ⟨⟨Nat.le_of_ble_eq_true rfl, by decide, Nat.lt_of_le_of_lt (Nat.le_of_ble_eq_true rfl) hS.1, hS.2 _ (Nat.le_of_ble_eq_true rfl) (Nat.le_of_ble_eq_true rfl)⟩, Nat.le_of_ble_eq_true rfl⟩
theorem jc_171 {fz : Bool} {S : gS} (hS : rl S) : pb fz S 171 .int 801 := ⟨⟨Nat.le_of_ble_eq_true rfl, by decide, Nat.lt_of_le_of_lt (Nat.le_of_ble_eq_true rfl) hS.1, hS.2 _ (Nat.le_of_ble_eq_true rfl) (Nat.le_of_ble_eq_true rfl)⟩, Nat.le_of_ble_eq_true rfl⟩
theorem jc_172 {fz : Bool} {S : gS} (hS : rl S) : pb fz S 172 .int 801 := ⟨⟨Nat.le_of_ble_eq_true rfl, by decide, Nat.lt_of_le_of_lt (Nat.le_of_ble_eq_true rfl) hS.1, hS.2 _ (Nat.le_of_ble_eq_true rfl) (Nat.le_of_ble_eq_true rfl)⟩, Nat.le_of_ble_eq_true rfl⟩
theorem jc_173 {fz : Bool} {S : gS} (hS : rl S) : pb fz S 173 .int 801 := ⟨⟨Nat.le_of_ble_eq_true rfl, by decide, Nat.lt_of_le_of_lt (Nat.le_of_ble_eq_true rfl) hS.1, hS.2 _ (Nat.le_of_ble_eq_true rfl) (Nat.le_of_ble_eq_true rfl)⟩, Nat.le_of_ble_eq_true rfl⟩
theorem jc_188 {fz : Bool} {S : gS} (hS : rl S) : pb fz S 188 .long 16 := ⟨⟨Nat.le_of_ble_eq_true rfl, by decide, Nat.lt_of_le_of_lt (Nat.le_of_ble_eq_true rfl) hS.1, hS.2 _ (Nat.le_of_ble_eq_true rfl) (Nat.le_of_ble_eq_true rfl)⟩, Nat.le_of_ble_eq_true rfl⟩
theorem jc_189 {fz : Bool} {S : gS} (hS : rl S) : pb fz S 189 .int 16 := ⟨⟨Nat.le_of_ble_eq_true rfl, by decide, Nat.lt_of_le_of_lt (Nat.le_of_ble_eq_true rfl) hS.1, hS.2 _ (Nat.le_of_ble_eq_true rfl) (Nat.le_of_ble_eq_true rfl)⟩, Nat.le_of_ble_eq_true rfl⟩
theorem jc_190 {fz : Bool} {S : gS} (hS : rl S) : pb fz S 190 (.object "MemoryTransactions$Program") 32 := ⟨⟨Nat.le_of_ble_eq_true rfl, by decide, Nat.lt_of_le_of_lt (Nat.le_of_ble_eq_true rfl) hS.1, hS.2 _ (Nat.le_of_ble_eq_true rfl) (Nat.le_of_ble_eq_true rfl)⟩, Nat.le_of_ble_eq_true rfl⟩
theorem jc_191 {fz : Bool} {S : gS} (hS : rl S) : pb fz S 191 .int 32 := ⟨⟨Nat.le_of_ble_eq_true rfl, by decide, Nat.lt_of_le_of_lt (Nat.le_of_ble_eq_true rfl) hS.1, hS.2 _ (Nat.le_of_ble_eq_true rfl) (Nat.le_of_ble_eq_true rfl)⟩, Nat.le_of_ble_eq_true rfl⟩
theorem jc_192 {fz : Bool} {S : gS} (hS : rl S) : pb fz S 192 .long 16 := ⟨⟨Nat.le_of_ble_eq_true rfl, by decide, Nat.lt_of_le_of_lt (Nat.le_of_ble_eq_true rfl) hS.1, hS.2 _ (Nat.le_of_ble_eq_true rfl) (Nat.le_of_ble_eq_true rfl)⟩, Nat.le_of_ble_eq_true rfl⟩
theorem jc_194 {fz : Bool} {S : gS} (hS : rl S) : pb fz S 194 .long 60 := ⟨⟨Nat.le_of_ble_eq_true rfl, by decide, Nat.lt_of_le_of_lt (Nat.le_of_ble_eq_true rfl) hS.1, hS.2 _ (Nat.le_of_ble_eq_true rfl) (Nat.le_of_ble_eq_true rfl)⟩, Nat.le_of_ble_eq_true rfl⟩
theorem jc_195 {fz : Bool} {S : gS} (hS : rl S) : pb fz S 195 (.object "MemoryTransactions$Client") 8 := ⟨⟨Nat.le_of_ble_eq_true rfl, by decide, Nat.lt_of_le_of_lt (Nat.le_of_ble_eq_true rfl) hS.1, hS.2 _ (Nat.le_of_ble_eq_true rfl) (Nat.le_of_ble_eq_true rfl)⟩, Nat.le_of_ble_eq_true rfl⟩
theorem jc_325 {fz : Bool} {S : gS} (hS : rl S) : pb fz S 325 .int 300 := ⟨⟨Nat.le_of_ble_eq_true rfl, by decide, Nat.lt_of_le_of_lt (Nat.le_of_ble_eq_true rfl) hS.1, hS.2 _ (Nat.le_of_ble_eq_true rfl) (Nat.le_of_ble_eq_true rfl)⟩, Nat.le_of_ble_eq_true rfl⟩
theorem jc_326 {fz : Bool} {S : gS} (hS : rl S) : pb fz S 326 .int 300 := ⟨⟨Nat.le_of_ble_eq_true rfl, by decide, Nat.lt_of_le_of_lt (Nat.le_of_ble_eq_true rfl) hS.1, hS.2 _ (Nat.le_of_ble_eq_true rfl) (Nat.le_of_ble_eq_true rfl)⟩, Nat.le_of_ble_eq_true rfl⟩
theorem jc_327 {fz : Bool} {S : gS} (hS : rl S) : pb fz S 327 .int 300 := ⟨⟨Nat.le_of_ble_eq_true rfl, by decide, Nat.lt_of_le_of_lt (Nat.le_of_ble_eq_true rfl) hS.1, hS.2 _ (Nat.le_of_ble_eq_true rfl) (Nat.le_of_ble_eq_true rfl)⟩, Nat.le_of_ble_eq_true rfl⟩
theorem jc_328 {fz : Bool} {S : gS} (hS : rl S) : pb fz S 328 .int 300 := ⟨⟨Nat.le_of_ble_eq_true rfl, by decide, Nat.lt_of_le_of_lt (Nat.le_of_ble_eq_true rfl) hS.1, hS.2 _ (Nat.le_of_ble_eq_true rfl) (Nat.le_of_ble_eq_true rfl)⟩, Nat.le_of_ble_eq_true rfl⟩
theorem jc_329 {fz : Bool} {S : gS} (hS : rl S) : pb fz S 329 .int 300 := ⟨⟨Nat.le_of_ble_eq_true rfl, by decide, Nat.lt_of_le_of_lt (Nat.le_of_ble_eq_true rfl) hS.1, hS.2 _ (Nat.le_of_ble_eq_true rfl) (Nat.le_of_ble_eq_true rfl)⟩, Nat.le_of_ble_eq_true rfl⟩
theorem jc_330 {fz : Bool} {S : gS} (hS : rl S) : pb fz S 330 .long 300 := ⟨⟨Nat.le_of_ble_eq_true rfl, by decide, Nat.lt_of_le_of_lt (Nat.le_of_ble_eq_true rfl) hS.1, hS.2 _ (Nat.le_of_ble_eq_true rfl) (Nat.le_of_ble_eq_true rfl)⟩, Nat.le_of_ble_eq_true rfl⟩
theorem clA_mem3 {i : Int} (h : 0 ≤ i ∧ i < 8) : clA i ∈ j6 := by
  have : ∀ n, n < 8 → 196 + 16 * n ∈ j6 := by decide
  exact this i.toNat (by omega)
theorem j7_k {a : Nat} (h : a ∈ j7) : a ∈ k7 := by
  have h := j7_or h
  rcases h with rfl | rfl | rfl | rfl | rfl | rfl | rfl | rfl <;> decide
theorem fl.wqR3 {B M M' : rf_M} {a e : Nat} (h : fl 22 331 B M) (ha : a ∈ j7) (hM : M' = wq M a 0 e) : fl 22 331 B M' := by
  subst hM
  refine h.wq' ?_ (jl_7 ha) (fun q hq => ?_)
  · have := j7_or ha; omega
  · by_cases e : q.1 = a
    · exact Or.inr (rfF_R q hq (by rw [e]; exact j7_k ha))
    · exact Or.inl e
theorem fl.wqS3 {B M M' : rf_M} {a k e : Nat} (h : fl 22 331 B M) (ha : a ∈ j4) (hM : M' = wq M (a + 3) k e) : fl 22 331 B M' := by
  subst hM
  have ho := j4_or ha
  refine h.wq' (by omega) (by omega) (fun q hq => Or.inl ?_)
  have := rfF_S q hq
  omega
