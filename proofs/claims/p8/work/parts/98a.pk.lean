/-! the program: its objects and what they hold -/
def k0 : List Nat := [22]
def k1 : List Nat := [25, 37, 49, 61, 73, 85, 97, 109, 121, 133, 145, 157]
def k2 : List Nat := [169]
def k3 : List Nat := [170]
def k4 : List Nat := [187, 332]
def k5 : List Nat := [193, 210, 226, 242, 258, 274, 290, 306, 322, 338, 351]
def k6 : List Nat := [196, 212, 228, 244, 260, 276, 292, 308]
def k7 : List Nat := [199, 215, 231, 247, 263, 279, 295, 311, 340]
def k8 : List Nat := [201, 217, 233, 249, 265, 281, 297, 313, 342]
def k9 : List Nat := [324]
def k10 : List Nat := [331]
def k11 : List Nat := [353]
def rfF : List (Nat × Nat × Nat) := [(22, 0, 23), (22, 2, 24), (22, 5, 169), (22, 6, 187), (22, 7, 195), (22, 8, 324), (22, 9, 331), (24, 0, 25), (24, 1, 37), (24, 2, 49), (24, 3, 61), (24, 4, 73), (24, 5, 85), (24, 6, 97), (24, 7, 109), (24, 8, 121), (24, 9, 133), (24, 10, 145), (24, 11, 157), (25, 5, 26), (25, 6, 27), (25, 7, 28), (25, 8, 29), (25, 9, 30), (25, 10, 31), (25, 11, 32), (25, 12, 33), (25, 13, 34), (25, 14, 35), (25, 15, 36), (37, 5, 38), (37, 6, 39), (37, 7, 40), (37, 8, 41), (37, 9, 42), (37, 10, 43), (37, 11, 44), (37, 12, 45), (37, 13, 46), (37, 14, 47), (37, 15, 48), (49, 5, 50), (49, 6, 51), (49, 7, 52), (49, 8, 53), (49, 9, 54), (49, 10, 55), (49, 11, 56), (49, 12, 57), (49, 13, 58), (49, 14, 59), (49, 15, 60), (61, 5, 62), (61, 6, 63), (61, 7, 64), (61, 8, 65), (61, 9, 66), (61, 10, 67), (61, 11, 68), (61, 12, 69), (61, 13, 70), (61, 14, 71), (61, 15, 72), (73, 5, 74), (73, 6, 75), (73, 7, 76), (73, 8, 77), (73, 9, 78), (73, 10, 79), (73, 11, 80), (73, 12, 81), (73, 13, 82), (73, 14, 83), (73, 15, 84), (85, 5, 86), (85, 6, 87), (85, 7, 88), (85, 8, 89), (85, 9, 90), (85, 10, 91), (85, 11, 92), (85, 12, 93), (85, 13, 94), (85, 14, 95), (85, 15, 96), (97, 5, 98), (97, 6, 99), (97, 7, 100), (97, 8, 101), (97, 9, 102), (97, 10, 103), (97, 11, 104), (97, 12, 105), (97, 13, 106), (97, 14, 107), (97, 15, 108), (109, 5, 110), (109, 6, 111), (109, 7, 112), (109, 8, 113), (109, 9, 114), (109, 10, 115), (109, 11, 116), (109, 12, 117), (109, 13, 118), (109, 14, 119), (109, 15, 120), (121, 5, 122), (121, 6, 123), (121, 7, 124), (121, 8, 125), (121, 9, 126), (121, 10, 127), (121, 11, 128), (121, 12, 129), (121, 13, 130), (121, 14, 131), (121, 15, 132), (133, 5, 134), (133, 6, 135), (133, 7, 136), (133, 8, 137), (133, 9, 138), (133, 10, 139), (133, 11, 140), (133, 12, 141), (133, 13, 142), (133, 14, 143), (133, 15, 144), (145, 5, 146), (145, 6, 147), (145, 7, 148), (145, 8, 149), (145, 9, 150), (145, 10, 151), (145, 11, 152), (145, 12, 153), (145, 13, 154), (145, 14, 155), (145, 15, 156), (157, 5, 158), (157, 6, 159), (157, 7, 160), (157, 8, 161), (157, 9, 162), (157, 10, 163), (157, 11, 164), (157, 12, 165), (157, 13, 166), (157, 14, 167), (157, 15, 168), (169, 0, 170), (170, 0, 171), (170, 1, 172), (170, 2, 173), (187, 0, 188), (187, 1, 189), (187, 3, 190), (187, 4, 191), (187, 5, 192), (187, 6, 193), (193, 0, 194), (195, 0, 196), (195, 1, 212), (195, 2, 228), (195, 3, 244), (195, 4, 260), (195, 5, 276), (195, 6, 292), (195, 7, 308), (196, 3, 197), (196, 4, 199), (196, 7, 198), (199, 4, 200), (199, 5, 201), (199, 7, 209), (199, 8, 187), (199, 9, 210), (201, 1, 202), (201, 2, 203), (201, 4, 204), (201, 5, 205), (201, 6, 206), (201, 7, 207), (201, 8, 208), (210, 0, 211), (212, 3, 213), (212, 4, 215), (212, 7, 214), (215, 4, 216), (215, 5, 217), (215, 7, 225), (215, 8, 187), (215, 9, 226), (217, 1, 218), (217, 2, 219), (217, 4, 220), (217, 5, 221), (217, 6, 222), (217, 7, 223), (217, 8, 224), (226, 0, 227), (228, 3, 229), (228, 4, 231), (228, 7, 230), (231, 4, 232), (231, 5, 233), (231, 7, 241), (231, 8, 187), (231, 9, 242), (233, 1, 234), (233, 2, 235), (233, 4, 236), (233, 5, 237), (233, 6, 238), (233, 7, 239), (233, 8, 240), (242, 0, 243), (244, 3, 245), (244, 4, 247), (244, 7, 246), (247, 4, 248), (247, 5, 249), (247, 7, 257), (247, 8, 187), (247, 9, 258), (249, 1, 250), (249, 2, 251), (249, 4, 252), (249, 5, 253), (249, 6, 254), (249, 7, 255), (249, 8, 256), (258, 0, 259), (260, 3, 261), (260, 4, 263), (260, 7, 262), (263, 4, 264), (263, 5, 265), (263, 7, 273), (263, 8, 187), (263, 9, 274), (265, 1, 266), (265, 2, 267), (265, 4, 268), (265, 5, 269), (265, 6, 270), (265, 7, 271), (265, 8, 272), (274, 0, 275), (276, 3, 277), (276, 4, 279), (276, 7, 278), (279, 4, 280), (279, 5, 281), (279, 7, 289), (279, 8, 187), (279, 9, 290), (281, 1, 282), (281, 2, 283), (281, 4, 284), (281, 5, 285), (281, 6, 286), (281, 7, 287), (281, 8, 288), (290, 0, 291), (292, 3, 293), (292, 4, 295), (292, 7, 294), (295, 4, 296), (295, 5, 297), (295, 7, 305), (295, 8, 187), (295, 9, 306), (297, 1, 298), (297, 2, 299), (297, 4, 300), (297, 5, 301), (297, 6, 302), (297, 7, 303), (297, 8, 304), (306, 0, 307), (308, 3, 309), (308, 4, 311), (308, 7, 310), (311, 4, 312), (311, 5, 313), (311, 7, 321), (311, 8, 187), (311, 9, 322), (313, 1, 314), (313, 2, 315), (313, 4, 316), (313, 5, 317), (313, 6, 318), (313, 7, 319), (313, 8, 320), (322, 0, 323), (324, 1, 325), (324, 2, 326), (324, 3, 327), (324, 4, 328), (324, 5, 329), (324, 6, 330), (331, 0, 332), (331, 3, 24), (331, 4, 340), (332, 0, 333), (332, 1, 334), (332, 3, 335), (332, 4, 336), (332, 5, 337), (332, 6, 338), (338, 0, 339), (340, 4, 341), (340, 5, 342), (340, 7, 350), (340, 8, 332), (340, 9, 351), (342, 1, 343), (342, 2, 344), (342, 4, 345), (342, 5, 346), (342, 6, 347), (342, 7, 348), (342, 8, 349), (351, 0, 352), (353, 1, 354), (353, 12, 355), (353, 13, 356), (353, 14, 357), (353, 15, 358), (353, 16, 359), (353, 17, 360), (353, 18, 361), (353, 19, 362), (353, 20, 363), (353, 21, 364), (353, 22, 365), (353, 23, 366), (353, 24, 367), (353, 25, 368), (353, 26, 369), (353, 27, 370), (353, 29, 371), (353, 32, 372), (353, 34, 373), (353, 35, 374), (353, 36, 375), (353, 38, 376), (353, 39, 377), (353, 40, 378), (353, 41, 379), (353, 43, 380), (353, 44, 381), (353, 45, 382), (353, 46, 383), (353, 47, 384), (353, 48, 385), (353, 49, 386), (353, 50, 387), (353, 51, 388), (353, 53, 389), (353, 54, 390), (353, 56, 391), (353, 57, 392), (353, 59, 393), (353, 61, 394), (353, 62, 395), (353, 63, 396), (353, 64, 397), (353, 67, 398), (353, 68, 399), (353, 70, 400), (353, 71, 401), (353, 72, 402), (353, 73, 403), (353, 74, 404), (353, 75, 405)]
def rl (S : gS) : Prop := 405 < S.2.1 ∧ ∀ a, 22 ≤ a → a < 406 → S.1 a = shK.getD (a - 22) shD
abbrev pa (fz : Bool) (S : gS) (a : Nat) (ty : FieldType) (n : Nat) : Prop := ga (cx0 fz) S a ty n ∧ a < 353
def kfr (M : rf_M) : Prop := ∀ q ∈ rfF, M.2.2 q.1 q.2.1 = some q.2.2
def stR (a : Nat) : Nat := if a = 340 then 332 else 187
def pgA (i : Int) : Nat := 25 + 12 * i.toNat
def clA (i : Int) : Nat := 196 + 16 * i.toNat
theorem k0_or {a : Nat} (h : a ∈ k0) : a = 22 := by
  simpa only [k0, List.mem_cons, List.not_mem_nil, or_false] using h
theorem kl_0 {a : Nat} (h : a ∈ k0) : a < 353 := by
  have h := k0_or h; omega
theorem ko_0 {fz : Bool} {S : gS} {a : Nat} (hS : rl S) (h : a ∈ k0) : go (cx0 fz) S a 0 := by
  have h := k0_or h
  subst h
  all_goals exact ⟨Nat.le_of_ble_eq_true rfl, by decide, Nat.lt_of_le_of_lt (Nat.le_of_ble_eq_true rfl) hS.1, hS.2 _ (Nat.le_of_ble_eq_true rfl) (Nat.le_of_ble_eq_true rfl)⟩
theorem k1_or {a : Nat} (h : a ∈ k1) : a = 25 ∨ a = 37 ∨ a = 49 ∨ a = 61 ∨ a = 73 ∨ a = 85 ∨ a = 97 ∨ a = 109 ∨ a = 121 ∨ a = 133 ∨ a = 145 ∨ a = 157 := by
  simpa only [k1, List.mem_cons, List.not_mem_nil, or_false] using h
theorem kl_1 {a : Nat} (h : a ∈ k1) : a < 353 := by
  have h := k1_or h; omega
theorem ko_1 {fz : Bool} {S : gS} {a : Nat} (hS : rl S) (h : a ∈ k1) : go (cx0 fz) S a 1 := by
  have h := k1_or h
  rcases h with rfl | rfl | rfl | rfl | rfl | rfl | rfl | rfl | rfl | rfl | rfl | rfl
  all_goals exact ⟨Nat.le_of_ble_eq_true rfl, by decide, Nat.lt_of_le_of_lt (Nat.le_of_ble_eq_true rfl) hS.1, hS.2 _ (Nat.le_of_ble_eq_true rfl) (Nat.le_of_ble_eq_true rfl)⟩
theorem k2_or {a : Nat} (h : a ∈ k2) : a = 169 := by
  simpa only [k2, List.mem_cons, List.not_mem_nil, or_false] using h
theorem kl_2 {a : Nat} (h : a ∈ k2) : a < 353 := by
  have h := k2_or h; omega
theorem ko_2 {fz : Bool} {S : gS} {a : Nat} (hS : rl S) (h : a ∈ k2) : go (cx0 fz) S a 2 := by
  have h := k2_or h
  subst h
  all_goals exact ⟨Nat.le_of_ble_eq_true rfl, by decide, Nat.lt_of_le_of_lt (Nat.le_of_ble_eq_true rfl) hS.1, hS.2 _ (Nat.le_of_ble_eq_true rfl) (Nat.le_of_ble_eq_true rfl)⟩
theorem k3_or {a : Nat} (h : a ∈ k3) : a = 170 := by
  simpa only [k3, List.mem_cons, List.not_mem_nil, or_false] using h
theorem kl_3 {a : Nat} (h : a ∈ k3) : a < 353 := by
  have h := k3_or h; omega
theorem ko_3 {fz : Bool} {S : gS} {a : Nat} (hS : rl S) (h : a ∈ k3) : go (cx0 fz) S a 3 := by
  have h := k3_or h
  subst h
  all_goals exact ⟨Nat.le_of_ble_eq_true rfl, by decide, Nat.lt_of_le_of_lt (Nat.le_of_ble_eq_true rfl) hS.1, hS.2 _ (Nat.le_of_ble_eq_true rfl) (Nat.le_of_ble_eq_true rfl)⟩
theorem k4_or {a : Nat} (h : a ∈ k4) : a = 187 ∨ a = 332 := by
  simpa only [k4, List.mem_cons, List.not_mem_nil, or_false] using h
theorem kl_4 {a : Nat} (h : a ∈ k4) : a < 353 := by
  have h := k4_or h; omega
theorem ko_4 {fz : Bool} {S : gS} {a : Nat} (hS : rl S) (h : a ∈ k4) : go (cx0 fz) S a 4 := by
  have h := k4_or h
  rcases h with rfl | rfl
  all_goals exact ⟨Nat.le_of_ble_eq_true rfl, by decide, Nat.lt_of_le_of_lt (Nat.le_of_ble_eq_true rfl) hS.1, hS.2 _ (Nat.le_of_ble_eq_true rfl) (Nat.le_of_ble_eq_true rfl)⟩
theorem k5_or {a : Nat} (h : a ∈ k5) : a = 193 ∨ a = 210 ∨ a = 226 ∨ a = 242 ∨ a = 258 ∨ a = 274 ∨ a = 290 ∨ a = 306 ∨ a = 322 ∨ a = 338 ∨ a = 351 := by
  simpa only [k5, List.mem_cons, List.not_mem_nil, or_false] using h
theorem kl_5 {a : Nat} (h : a ∈ k5) : a < 353 := by
  have h := k5_or h; omega
theorem ko_5 {fz : Bool} {S : gS} {a : Nat} (hS : rl S) (h : a ∈ k5) : go (cx0 fz) S a 5 := by
  have h := k5_or h
  rcases h with rfl | rfl | rfl | rfl | rfl | rfl | rfl | rfl | rfl | rfl | rfl
  all_goals exact ⟨Nat.le_of_ble_eq_true rfl, by decide, Nat.lt_of_le_of_lt (Nat.le_of_ble_eq_true rfl) hS.1, hS.2 _ (Nat.le_of_ble_eq_true rfl) (Nat.le_of_ble_eq_true rfl)⟩
theorem k6_or {a : Nat} (h : a ∈ k6) : a = 196 ∨ a = 212 ∨ a = 228 ∨ a = 244 ∨ a = 260 ∨ a = 276 ∨ a = 292 ∨ a = 308 := by
  simpa only [k6, List.mem_cons, List.not_mem_nil, or_false] using h
theorem kl_6 {a : Nat} (h : a ∈ k6) : a < 353 := by
  have h := k6_or h; omega
theorem ko_6 {fz : Bool} {S : gS} {a : Nat} (hS : rl S) (h : a ∈ k6) : go (cx0 fz) S a 6 := by
  have h := k6_or h
  rcases h with rfl | rfl | rfl | rfl | rfl | rfl | rfl | rfl
  all_goals exact ⟨Nat.le_of_ble_eq_true rfl, by decide, Nat.lt_of_le_of_lt (Nat.le_of_ble_eq_true rfl) hS.1, hS.2 _ (Nat.le_of_ble_eq_true rfl) (Nat.le_of_ble_eq_true rfl)⟩
theorem k7_or {a : Nat} (h : a ∈ k7) : a = 199 ∨ a = 215 ∨ a = 231 ∨ a = 247 ∨ a = 263 ∨ a = 279 ∨ a = 295 ∨ a = 311 ∨ a = 340 := by
  simpa only [k7, List.mem_cons, List.not_mem_nil, or_false] using h
theorem kl_7 {a : Nat} (h : a ∈ k7) : a < 353 := by
  have h := k7_or h; omega
theorem ko_7 {fz : Bool} {S : gS} {a : Nat} (hS : rl S) (h : a ∈ k7) : go (cx0 fz) S a 7 := by
  have h := k7_or h
  rcases h with rfl | rfl | rfl | rfl | rfl | rfl | rfl | rfl | rfl
  all_goals exact ⟨Nat.le_of_ble_eq_true rfl, by decide, Nat.lt_of_le_of_lt (Nat.le_of_ble_eq_true rfl) hS.1, hS.2 _ (Nat.le_of_ble_eq_true rfl) (Nat.le_of_ble_eq_true rfl)⟩
theorem k8_or {a : Nat} (h : a ∈ k8) : a = 201 ∨ a = 217 ∨ a = 233 ∨ a = 249 ∨ a = 265 ∨ a = 281 ∨ a = 297 ∨ a = 313 ∨ a = 342 := by
  simpa only [k8, List.mem_cons, List.not_mem_nil, or_false] using h
theorem kl_8 {a : Nat} (h : a ∈ k8) : a < 353 := by
  have h := k8_or h; omega
theorem ko_8 {fz : Bool} {S : gS} {a : Nat} (hS : rl S) (h : a ∈ k8) : go (cx0 fz) S a 8 := by
  have h := k8_or h
  rcases h with rfl | rfl | rfl | rfl | rfl | rfl | rfl | rfl | rfl
  all_goals exact ⟨Nat.le_of_ble_eq_true rfl, by decide, Nat.lt_of_le_of_lt (Nat.le_of_ble_eq_true rfl) hS.1, hS.2 _ (Nat.le_of_ble_eq_true rfl) (Nat.le_of_ble_eq_true rfl)⟩
theorem k9_or {a : Nat} (h : a ∈ k9) : a = 324 := by
  simpa only [k9, List.mem_cons, List.not_mem_nil, or_false] using h
theorem kl_9 {a : Nat} (h : a ∈ k9) : a < 353 := by
  have h := k9_or h; omega
theorem ko_9 {fz : Bool} {S : gS} {a : Nat} (hS : rl S) (h : a ∈ k9) : go (cx0 fz) S a 9 := by
  have h := k9_or h
  subst h
  all_goals exact ⟨Nat.le_of_ble_eq_true rfl, by decide, Nat.lt_of_le_of_lt (Nat.le_of_ble_eq_true rfl) hS.1, hS.2 _ (Nat.le_of_ble_eq_true rfl) (Nat.le_of_ble_eq_true rfl)⟩
theorem k10_or {a : Nat} (h : a ∈ k10) : a = 331 := by
  simpa only [k10, List.mem_cons, List.not_mem_nil, or_false] using h
theorem kl_10 {a : Nat} (h : a ∈ k10) : a < 353 := by
  have h := k10_or h; omega
theorem ko_10 {fz : Bool} {S : gS} {a : Nat} (hS : rl S) (h : a ∈ k10) : go (cx0 fz) S a 10 := by
  have h := k10_or h
  subst h
  all_goals exact ⟨Nat.le_of_ble_eq_true rfl, by decide, Nat.lt_of_le_of_lt (Nat.le_of_ble_eq_true rfl) hS.1, hS.2 _ (Nat.le_of_ble_eq_true rfl) (Nat.le_of_ble_eq_true rfl)⟩
theorem k11_or {a : Nat} (h : a ∈ k11) : a = 353 := by
  simpa only [k11, List.mem_cons, List.not_mem_nil, or_false] using h
theorem ko_11 {fz : Bool} {S : gS} {a : Nat} (hS : rl S) (h : a ∈ k11) : go (cx0 fz) S a 11 := by
  have h := k11_or h
  subst h
  all_goals exact ⟨Nat.le_of_ble_eq_true rfl, by decide, Nat.lt_of_le_of_lt (Nat.le_of_ble_eq_true rfl) hS.1, hS.2 _ (Nat.le_of_ble_eq_true rfl) (Nat.le_of_ble_eq_true rfl)⟩
theorem kf_0_0 {M : rf_M} {a : Nat} (hM : kfr M) (h : a ∈ k0) : M.2.2 a 0 = some 23 := by
  have h := k0_or h
  subst h
  · exact hM (22, 0, 23) (by decide)
theorem kf_0_2 {M : rf_M} {a : Nat} (hM : kfr M) (h : a ∈ k0) : M.2.2 a 2 = some 24 := by
  have h := k0_or h
  subst h
  · exact hM (22, 2, 24) (by decide)
theorem kf_0_5 {M : rf_M} {a : Nat} (hM : kfr M) (h : a ∈ k0) : M.2.2 a 5 = some 169 := by
  have h := k0_or h
  subst h
  · exact hM (22, 5, 169) (by decide)
theorem kf_0_6 {M : rf_M} {a : Nat} (hM : kfr M) (h : a ∈ k0) : M.2.2 a 6 = some 187 := by
  have h := k0_or h
  subst h
  · exact hM (22, 6, 187) (by decide)
theorem kf_0_7 {M : rf_M} {a : Nat} (hM : kfr M) (h : a ∈ k0) : M.2.2 a 7 = some 195 := by
  have h := k0_or h
  subst h
  · exact hM (22, 7, 195) (by decide)
theorem kf_0_8 {M : rf_M} {a : Nat} (hM : kfr M) (h : a ∈ k0) : M.2.2 a 8 = some 324 := by
  have h := k0_or h
  subst h
  · exact hM (22, 8, 324) (by decide)
theorem kf_0_9 {M : rf_M} {a : Nat} (hM : kfr M) (h : a ∈ k0) : M.2.2 a 9 = some 331 := by
  have h := k0_or h
  subst h
  · exact hM (22, 9, 331) (by decide)
theorem kf_1_5 {M : rf_M} {a : Nat} (hM : kfr M) (h : a ∈ k1) : M.2.2 a 5 = some (a + 1) := by
  have h := k1_or h
  rcases h with rfl | rfl | rfl | rfl | rfl | rfl | rfl | rfl | rfl | rfl | rfl | rfl
  · exact hM (25, 5, 26) (by decide)
  · exact hM (37, 5, 38) (by decide)
  · exact hM (49, 5, 50) (by decide)
  · exact hM (61, 5, 62) (by decide)
  · exact hM (73, 5, 74) (by decide)
  · exact hM (85, 5, 86) (by decide)
  · exact hM (97, 5, 98) (by decide)
  · exact hM (109, 5, 110) (by decide)
  · exact hM (121, 5, 122) (by decide)
  · exact hM (133, 5, 134) (by decide)
  · exact hM (145, 5, 146) (by decide)
  · exact hM (157, 5, 158) (by decide)
theorem kt_1_5 {fz : Bool} {S : gS} {a : Nat} (hS : rl S) (h : a ∈ k1) : pa fz S (a + 1) .int 40 := by
  have h := k1_or h
  rcases h with rfl | rfl | rfl | rfl | rfl | rfl | rfl | rfl | rfl | rfl | rfl | rfl
  all_goals exact ⟨⟨Nat.le_of_ble_eq_true rfl, by decide, Nat.lt_of_le_of_lt (Nat.le_of_ble_eq_true rfl) hS.1, hS.2 _ (Nat.le_of_ble_eq_true rfl) (Nat.le_of_ble_eq_true rfl)⟩, Nat.le_of_ble_eq_true rfl⟩
theorem kf_1_6 {M : rf_M} {a : Nat} (hM : kfr M) (h : a ∈ k1) : M.2.2 a 6 = some (a + 2) := by
  have h := k1_or h
  rcases h with rfl | rfl | rfl | rfl | rfl | rfl | rfl | rfl | rfl | rfl | rfl | rfl
  · exact hM (25, 6, 27) (by decide)
  · exact hM (37, 6, 39) (by decide)
  · exact hM (49, 6, 51) (by decide)
  · exact hM (61, 6, 63) (by decide)
  · exact hM (73, 6, 75) (by decide)
  · exact hM (85, 6, 87) (by decide)
  · exact hM (97, 6, 99) (by decide)
  · exact hM (109, 6, 111) (by decide)
  · exact hM (121, 6, 123) (by decide)
  · exact hM (133, 6, 135) (by decide)
  · exact hM (145, 6, 147) (by decide)
  · exact hM (157, 6, 159) (by decide)
theorem kt_1_6 {fz : Bool} {S : gS} {a : Nat} (hS : rl S) (h : a ∈ k1) : pa fz S (a + 2) .int 40 := by
  have h := k1_or h
  rcases h with rfl | rfl | rfl | rfl | rfl | rfl | rfl | rfl | rfl | rfl | rfl | rfl
  all_goals exact ⟨⟨Nat.le_of_ble_eq_true rfl, by decide, Nat.lt_of_le_of_lt (Nat.le_of_ble_eq_true rfl) hS.1, hS.2 _ (Nat.le_of_ble_eq_true rfl) (Nat.le_of_ble_eq_true rfl)⟩, Nat.le_of_ble_eq_true rfl⟩
theorem kf_1_7 {M : rf_M} {a : Nat} (hM : kfr M) (h : a ∈ k1) : M.2.2 a 7 = some (a + 3) := by
  have h := k1_or h
  rcases h with rfl | rfl | rfl | rfl | rfl | rfl | rfl | rfl | rfl | rfl | rfl | rfl
  · exact hM (25, 7, 28) (by decide)
  · exact hM (37, 7, 40) (by decide)
  · exact hM (49, 7, 52) (by decide)
  · exact hM (61, 7, 64) (by decide)
  · exact hM (73, 7, 76) (by decide)
  · exact hM (85, 7, 88) (by decide)
  · exact hM (97, 7, 100) (by decide)
  · exact hM (109, 7, 112) (by decide)
  · exact hM (121, 7, 124) (by decide)
  · exact hM (133, 7, 136) (by decide)
  · exact hM (145, 7, 148) (by decide)
  · exact hM (157, 7, 160) (by decide)
theorem kt_1_7 {fz : Bool} {S : gS} {a : Nat} (hS : rl S) (h : a ∈ k1) : pa fz S (a + 3) .int 40 := by
  have h := k1_or h
  rcases h with rfl | rfl | rfl | rfl | rfl | rfl | rfl | rfl | rfl | rfl | rfl | rfl
  all_goals exact ⟨⟨Nat.le_of_ble_eq_true rfl, by decide, Nat.lt_of_le_of_lt (Nat.le_of_ble_eq_true rfl) hS.1, hS.2 _ (Nat.le_of_ble_eq_true rfl) (Nat.le_of_ble_eq_true rfl)⟩, Nat.le_of_ble_eq_true rfl⟩
theorem kf_1_8 {M : rf_M} {a : Nat} (hM : kfr M) (h : a ∈ k1) : M.2.2 a 8 = some (a + 4) := by
  have h := k1_or h
  rcases h with rfl | rfl | rfl | rfl | rfl | rfl | rfl | rfl | rfl | rfl | rfl | rfl
  · exact hM (25, 8, 29) (by decide)
  · exact hM (37, 8, 41) (by decide)
  · exact hM (49, 8, 53) (by decide)
  · exact hM (61, 8, 65) (by decide)
  · exact hM (73, 8, 77) (by decide)
  · exact hM (85, 8, 89) (by decide)
  · exact hM (97, 8, 101) (by decide)
  · exact hM (109, 8, 113) (by decide)
  · exact hM (121, 8, 125) (by decide)
  · exact hM (133, 8, 137) (by decide)
  · exact hM (145, 8, 149) (by decide)
  · exact hM (157, 8, 161) (by decide)
theorem kt_1_8 {fz : Bool} {S : gS} {a : Nat} (hS : rl S) (h : a ∈ k1) : pa fz S (a + 4) .int 40 := by
  have h := k1_or h
  rcases h with rfl | rfl | rfl | rfl | rfl | rfl | rfl | rfl | rfl | rfl | rfl | rfl
  all_goals exact ⟨⟨Nat.le_of_ble_eq_true rfl, by decide, Nat.lt_of_le_of_lt (Nat.le_of_ble_eq_true rfl) hS.1, hS.2 _ (Nat.le_of_ble_eq_true rfl) (Nat.le_of_ble_eq_true rfl)⟩, Nat.le_of_ble_eq_true rfl⟩
theorem kf_1_9 {M : rf_M} {a : Nat} (hM : kfr M) (h : a ∈ k1) : M.2.2 a 9 = some (a + 5) := by
  have h := k1_or h
  rcases h with rfl | rfl | rfl | rfl | rfl | rfl | rfl | rfl | rfl | rfl | rfl | rfl
  · exact hM (25, 9, 30) (by decide)
  · exact hM (37, 9, 42) (by decide)
  · exact hM (49, 9, 54) (by decide)
  · exact hM (61, 9, 66) (by decide)
  · exact hM (73, 9, 78) (by decide)
  · exact hM (85, 9, 90) (by decide)
  · exact hM (97, 9, 102) (by decide)
  · exact hM (109, 9, 114) (by decide)
  · exact hM (121, 9, 126) (by decide)
  · exact hM (133, 9, 138) (by decide)
  · exact hM (145, 9, 150) (by decide)
  · exact hM (157, 9, 162) (by decide)
theorem kt_1_9 {fz : Bool} {S : gS} {a : Nat} (hS : rl S) (h : a ∈ k1) : pa fz S (a + 5) .int 40 := by
  have h := k1_or h
  rcases h with rfl | rfl | rfl | rfl | rfl | rfl | rfl | rfl | rfl | rfl | rfl | rfl
  all_goals exact ⟨⟨Nat.le_of_ble_eq_true rfl, by decide, Nat.lt_of_le_of_lt (Nat.le_of_ble_eq_true rfl) hS.1, hS.2 _ (Nat.le_of_ble_eq_true rfl) (Nat.le_of_ble_eq_true rfl)⟩, Nat.le_of_ble_eq_true rfl⟩
theorem kf_1_10 {M : rf_M} {a : Nat} (hM : kfr M) (h : a ∈ k1) : M.2.2 a 10 = some (a + 6) := by
  have h := k1_or h
  rcases h with rfl | rfl | rfl | rfl | rfl | rfl | rfl | rfl | rfl | rfl | rfl | rfl
  · exact hM (25, 10, 31) (by decide)
  · exact hM (37, 10, 43) (by decide)
  · exact hM (49, 10, 55) (by decide)
  · exact hM (61, 10, 67) (by decide)
  · exact hM (73, 10, 79) (by decide)
  · exact hM (85, 10, 91) (by decide)
  · exact hM (97, 10, 103) (by decide)
  · exact hM (109, 10, 115) (by decide)
  · exact hM (121, 10, 127) (by decide)
  · exact hM (133, 10, 139) (by decide)
  · exact hM (145, 10, 151) (by decide)
  · exact hM (157, 10, 163) (by decide)
theorem kt_1_10 {fz : Bool} {S : gS} {a : Nat} (hS : rl S) (h : a ∈ k1) : pa fz S (a + 6) .int 40 := by
  have h := k1_or h
  rcases h with rfl | rfl | rfl | rfl | rfl | rfl | rfl | rfl | rfl | rfl | rfl | rfl
  all_goals exact ⟨⟨Nat.le_of_ble_eq_true rfl, by decide, Nat.lt_of_le_of_lt (Nat.le_of_ble_eq_true rfl) hS.1, hS.2 _ (Nat.le_of_ble_eq_true rfl) (Nat.le_of_ble_eq_true rfl)⟩, Nat.le_of_ble_eq_true rfl⟩
theorem kf_1_11 {M : rf_M} {a : Nat} (hM : kfr M) (h : a ∈ k1) : M.2.2 a 11 = some (a + 7) := by
  have h := k1_or h
  rcases h with rfl | rfl | rfl | rfl | rfl | rfl | rfl | rfl | rfl | rfl | rfl | rfl
  · exact hM (25, 11, 32) (by decide)
  · exact hM (37, 11, 44) (by decide)
  · exact hM (49, 11, 56) (by decide)
  · exact hM (61, 11, 68) (by decide)
  · exact hM (73, 11, 80) (by decide)
  · exact hM (85, 11, 92) (by decide)
  · exact hM (97, 11, 104) (by decide)
  · exact hM (109, 11, 116) (by decide)
  · exact hM (121, 11, 128) (by decide)
  · exact hM (133, 11, 140) (by decide)
  · exact hM (145, 11, 152) (by decide)
  · exact hM (157, 11, 164) (by decide)
theorem kt_1_11 {fz : Bool} {S : gS} {a : Nat} (hS : rl S) (h : a ∈ k1) : pa fz S (a + 7) .int 40 := by
  have h := k1_or h
  rcases h with rfl | rfl | rfl | rfl | rfl | rfl | rfl | rfl | rfl | rfl | rfl | rfl
  all_goals exact ⟨⟨Nat.le_of_ble_eq_true rfl, by decide, Nat.lt_of_le_of_lt (Nat.le_of_ble_eq_true rfl) hS.1, hS.2 _ (Nat.le_of_ble_eq_true rfl) (Nat.le_of_ble_eq_true rfl)⟩, Nat.le_of_ble_eq_true rfl⟩
theorem kf_1_12 {M : rf_M} {a : Nat} (hM : kfr M) (h : a ∈ k1) : M.2.2 a 12 = some (a + 8) := by
  have h := k1_or h
  rcases h with rfl | rfl | rfl | rfl | rfl | rfl | rfl | rfl | rfl | rfl | rfl | rfl
  · exact hM (25, 12, 33) (by decide)
  · exact hM (37, 12, 45) (by decide)
  · exact hM (49, 12, 57) (by decide)
  · exact hM (61, 12, 69) (by decide)
  · exact hM (73, 12, 81) (by decide)
  · exact hM (85, 12, 93) (by decide)
  · exact hM (97, 12, 105) (by decide)
  · exact hM (109, 12, 117) (by decide)
  · exact hM (121, 12, 129) (by decide)
  · exact hM (133, 12, 141) (by decide)
  · exact hM (145, 12, 153) (by decide)
  · exact hM (157, 12, 165) (by decide)
theorem kt_1_12 {fz : Bool} {S : gS} {a : Nat} (hS : rl S) (h : a ∈ k1) : pa fz S (a + 8) .int 40 := by
  have h := k1_or h
  rcases h with rfl | rfl | rfl | rfl | rfl | rfl | rfl | rfl | rfl | rfl | rfl | rfl
  all_goals exact ⟨⟨Nat.le_of_ble_eq_true rfl, by decide, Nat.lt_of_le_of_lt (Nat.le_of_ble_eq_true rfl) hS.1, hS.2 _ (Nat.le_of_ble_eq_true rfl) (Nat.le_of_ble_eq_true rfl)⟩, Nat.le_of_ble_eq_true rfl⟩
theorem kf_1_13 {M : rf_M} {a : Nat} (hM : kfr M) (h : a ∈ k1) : M.2.2 a 13 = some (a + 9) := by
  have h := k1_or h
  rcases h with rfl | rfl | rfl | rfl | rfl | rfl | rfl | rfl | rfl | rfl | rfl | rfl
  · exact hM (25, 13, 34) (by decide)
  · exact hM (37, 13, 46) (by decide)
  · exact hM (49, 13, 58) (by decide)
  · exact hM (61, 13, 70) (by decide)
  · exact hM (73, 13, 82) (by decide)
  · exact hM (85, 13, 94) (by decide)
  · exact hM (97, 13, 106) (by decide)
  · exact hM (109, 13, 118) (by decide)
  · exact hM (121, 13, 130) (by decide)
  · exact hM (133, 13, 142) (by decide)
  · exact hM (145, 13, 154) (by decide)
  · exact hM (157, 13, 166) (by decide)
theorem kt_1_13 {fz : Bool} {S : gS} {a : Nat} (hS : rl S) (h : a ∈ k1) : pa fz S (a + 9) .int 40 := by
  have h := k1_or h
  rcases h with rfl | rfl | rfl | rfl | rfl | rfl | rfl | rfl | rfl | rfl | rfl | rfl
  all_goals exact ⟨⟨Nat.le_of_ble_eq_true rfl, by decide, Nat.lt_of_le_of_lt (Nat.le_of_ble_eq_true rfl) hS.1, hS.2 _ (Nat.le_of_ble_eq_true rfl) (Nat.le_of_ble_eq_true rfl)⟩, Nat.le_of_ble_eq_true rfl⟩
theorem kf_1_14 {M : rf_M} {a : Nat} (hM : kfr M) (h : a ∈ k1) : M.2.2 a 14 = some (a + 10) := by
  have h := k1_or h
  rcases h with rfl | rfl | rfl | rfl | rfl | rfl | rfl | rfl | rfl | rfl | rfl | rfl
  · exact hM (25, 14, 35) (by decide)
  · exact hM (37, 14, 47) (by decide)
  · exact hM (49, 14, 59) (by decide)
  · exact hM (61, 14, 71) (by decide)
  · exact hM (73, 14, 83) (by decide)
  · exact hM (85, 14, 95) (by decide)
  · exact hM (97, 14, 107) (by decide)
  · exact hM (109, 14, 119) (by decide)
  · exact hM (121, 14, 131) (by decide)
  · exact hM (133, 14, 143) (by decide)
  · exact hM (145, 14, 155) (by decide)
  · exact hM (157, 14, 167) (by decide)
theorem kt_1_14 {fz : Bool} {S : gS} {a : Nat} (hS : rl S) (h : a ∈ k1) : pa fz S (a + 10) .int 160 := by
  have h := k1_or h
  rcases h with rfl | rfl | rfl | rfl | rfl | rfl | rfl | rfl | rfl | rfl | rfl | rfl
  all_goals exact ⟨⟨Nat.le_of_ble_eq_true rfl, by decide, Nat.lt_of_le_of_lt (Nat.le_of_ble_eq_true rfl) hS.1, hS.2 _ (Nat.le_of_ble_eq_true rfl) (Nat.le_of_ble_eq_true rfl)⟩, Nat.le_of_ble_eq_true rfl⟩
theorem kf_1_15 {M : rf_M} {a : Nat} (hM : kfr M) (h : a ∈ k1) : M.2.2 a 15 = some (a + 11) := by
  have h := k1_or h
  rcases h with rfl | rfl | rfl | rfl | rfl | rfl | rfl | rfl | rfl | rfl | rfl | rfl
  · exact hM (25, 15, 36) (by decide)
  · exact hM (37, 15, 48) (by decide)
  · exact hM (49, 15, 60) (by decide)
  · exact hM (61, 15, 72) (by decide)
  · exact hM (73, 15, 84) (by decide)
  · exact hM (85, 15, 96) (by decide)
  · exact hM (97, 15, 108) (by decide)
  · exact hM (109, 15, 120) (by decide)
  · exact hM (121, 15, 132) (by decide)
  · exact hM (133, 15, 144) (by decide)
  · exact hM (145, 15, 156) (by decide)
  · exact hM (157, 15, 168) (by decide)
theorem kt_1_15 {fz : Bool} {S : gS} {a : Nat} (hS : rl S) (h : a ∈ k1) : pa fz S (a + 11) .int 160 := by
  have h := k1_or h
  rcases h with rfl | rfl | rfl | rfl | rfl | rfl | rfl | rfl | rfl | rfl | rfl | rfl
  all_goals exact ⟨⟨Nat.le_of_ble_eq_true rfl, by decide, Nat.lt_of_le_of_lt (Nat.le_of_ble_eq_true rfl) hS.1, hS.2 _ (Nat.le_of_ble_eq_true rfl) (Nat.le_of_ble_eq_true rfl)⟩, Nat.le_of_ble_eq_true rfl⟩
theorem kf_2_0 {M : rf_M} {a : Nat} (hM : kfr M) (h : a ∈ k2) : M.2.2 a 0 = some 170 := by
  have h := k2_or h
  subst h
  · exact hM (169, 0, 170) (by decide)
theorem kf_3_0 {M : rf_M} {a : Nat} (hM : kfr M) (h : a ∈ k3) : M.2.2 a 0 = some 171 := by
  have h := k3_or h
  subst h
  · exact hM (170, 0, 171) (by decide)
theorem kf_3_1 {M : rf_M} {a : Nat} (hM : kfr M) (h : a ∈ k3) : M.2.2 a 1 = some 172 := by
  have h := k3_or h
  subst h
  · exact hM (170, 1, 172) (by decide)
theorem kf_3_2 {M : rf_M} {a : Nat} (hM : kfr M) (h : a ∈ k3) : M.2.2 a 2 = some 173 := by
  have h := k3_or h
  subst h
  · exact hM (170, 2, 173) (by decide)
theorem kf_4_0 {M : rf_M} {a : Nat} (hM : kfr M) (h : a ∈ k4) : M.2.2 a 0 = some (a + 1) := by
  have h := k4_or h
  rcases h with rfl | rfl
  · exact hM (187, 0, 188) (by decide)
  · exact hM (332, 0, 333) (by decide)
theorem kt_4_0 {fz : Bool} {S : gS} {a : Nat} (hS : rl S) (h : a ∈ k4) : pa fz S (a + 1) .long 16 := by
  have h := k4_or h
  rcases h with rfl | rfl
  all_goals exact ⟨⟨Nat.le_of_ble_eq_true rfl, by decide, Nat.lt_of_le_of_lt (Nat.le_of_ble_eq_true rfl) hS.1, hS.2 _ (Nat.le_of_ble_eq_true rfl) (Nat.le_of_ble_eq_true rfl)⟩, Nat.le_of_ble_eq_true rfl⟩
theorem kf_4_1 {M : rf_M} {a : Nat} (hM : kfr M) (h : a ∈ k4) : M.2.2 a 1 = some (a + 2) := by
  have h := k4_or h
  rcases h with rfl | rfl
  · exact hM (187, 1, 189) (by decide)
  · exact hM (332, 1, 334) (by decide)
theorem kt_4_1 {fz : Bool} {S : gS} {a : Nat} (hS : rl S) (h : a ∈ k4) : pa fz S (a + 2) .int 16 := by
  have h := k4_or h
  rcases h with rfl | rfl
  all_goals exact ⟨⟨Nat.le_of_ble_eq_true rfl, by decide, Nat.lt_of_le_of_lt (Nat.le_of_ble_eq_true rfl) hS.1, hS.2 _ (Nat.le_of_ble_eq_true rfl) (Nat.le_of_ble_eq_true rfl)⟩, Nat.le_of_ble_eq_true rfl⟩
theorem kf_4_3 {M : rf_M} {a : Nat} (hM : kfr M) (h : a ∈ k4) : M.2.2 a 3 = some (a + 3) := by
  have h := k4_or h
  rcases h with rfl | rfl
  · exact hM (187, 3, 190) (by decide)
  · exact hM (332, 3, 335) (by decide)
theorem kt_4_3 {fz : Bool} {S : gS} {a : Nat} (hS : rl S) (h : a ∈ k4) : pa fz S (a + 3) (.object "MemoryTransactions$Program") 32 := by
  have h := k4_or h
  rcases h with rfl | rfl
  all_goals exact ⟨⟨Nat.le_of_ble_eq_true rfl, by decide, Nat.lt_of_le_of_lt (Nat.le_of_ble_eq_true rfl) hS.1, hS.2 _ (Nat.le_of_ble_eq_true rfl) (Nat.le_of_ble_eq_true rfl)⟩, Nat.le_of_ble_eq_true rfl⟩
theorem kf_4_4 {M : rf_M} {a : Nat} (hM : kfr M) (h : a ∈ k4) : M.2.2 a 4 = some (a + 4) := by
  have h := k4_or h
  rcases h with rfl | rfl
  · exact hM (187, 4, 191) (by decide)
  · exact hM (332, 4, 336) (by decide)
theorem kt_4_4 {fz : Bool} {S : gS} {a : Nat} (hS : rl S) (h : a ∈ k4) : pa fz S (a + 4) .int 32 := by
  have h := k4_or h
  rcases h with rfl | rfl
  all_goals exact ⟨⟨Nat.le_of_ble_eq_true rfl, by decide, Nat.lt_of_le_of_lt (Nat.le_of_ble_eq_true rfl) hS.1, hS.2 _ (Nat.le_of_ble_eq_true rfl) (Nat.le_of_ble_eq_true rfl)⟩, Nat.le_of_ble_eq_true rfl⟩
theorem kf_4_5 {M : rf_M} {a : Nat} (hM : kfr M) (h : a ∈ k4) : M.2.2 a 5 = some (a + 5) := by
  have h := k4_or h
  rcases h with rfl | rfl
  · exact hM (187, 5, 192) (by decide)
  · exact hM (332, 5, 337) (by decide)
theorem kt_4_5 {fz : Bool} {S : gS} {a : Nat} (hS : rl S) (h : a ∈ k4) : pa fz S (a + 5) .long 16 := by
  have h := k4_or h
  rcases h with rfl | rfl
  all_goals exact ⟨⟨Nat.le_of_ble_eq_true rfl, by decide, Nat.lt_of_le_of_lt (Nat.le_of_ble_eq_true rfl) hS.1, hS.2 _ (Nat.le_of_ble_eq_true rfl) (Nat.le_of_ble_eq_true rfl)⟩, Nat.le_of_ble_eq_true rfl⟩
theorem kf_4_6 {M : rf_M} {a : Nat} (hM : kfr M) (h : a ∈ k4) : M.2.2 a 6 = some (a + 6) := by
  have h := k4_or h
  rcases h with rfl | rfl
  · exact hM (187, 6, 193) (by decide)
  · exact hM (332, 6, 338) (by decide)
theorem kt_4_6 {a : Nat} (h : a ∈ k4) : (a + 6) ∈ k5 := by
  have h := k4_or h
  rcases h with rfl | rfl <;> decide
theorem kf_5_0 {M : rf_M} {a : Nat} (hM : kfr M) (h : a ∈ k5) : M.2.2 a 0 = some (a + 1) := by
  have h := k5_or h
  rcases h with rfl | rfl | rfl | rfl | rfl | rfl | rfl | rfl | rfl | rfl | rfl
  · exact hM (193, 0, 194) (by decide)
  · exact hM (210, 0, 211) (by decide)
  · exact hM (226, 0, 227) (by decide)
  · exact hM (242, 0, 243) (by decide)
  · exact hM (258, 0, 259) (by decide)
  · exact hM (274, 0, 275) (by decide)
  · exact hM (290, 0, 291) (by decide)
  · exact hM (306, 0, 307) (by decide)
  · exact hM (322, 0, 323) (by decide)
  · exact hM (338, 0, 339) (by decide)
  · exact hM (351, 0, 352) (by decide)
theorem kt_5_0 {fz : Bool} {S : gS} {a : Nat} (hS : rl S) (h : a ∈ k5) : pa fz S (a + 1) .long 60 := by
  have h := k5_or h
  rcases h with rfl | rfl | rfl | rfl | rfl | rfl | rfl | rfl | rfl | rfl | rfl
  all_goals exact ⟨⟨Nat.le_of_ble_eq_true rfl, by decide, Nat.lt_of_le_of_lt (Nat.le_of_ble_eq_true rfl) hS.1, hS.2 _ (Nat.le_of_ble_eq_true rfl) (Nat.le_of_ble_eq_true rfl)⟩, Nat.le_of_ble_eq_true rfl⟩
theorem kf_6_3 {M : rf_M} {a : Nat} (hM : kfr M) (h : a ∈ k6) : M.2.2 a 3 = some (a + 1) := by
  have h := k6_or h
  rcases h with rfl | rfl | rfl | rfl | rfl | rfl | rfl | rfl
  · exact hM (196, 3, 197) (by decide)
  · exact hM (212, 3, 213) (by decide)
  · exact hM (228, 3, 229) (by decide)
  · exact hM (244, 3, 245) (by decide)
  · exact hM (260, 3, 261) (by decide)
  · exact hM (276, 3, 277) (by decide)
  · exact hM (292, 3, 293) (by decide)
  · exact hM (308, 3, 309) (by decide)
theorem kt_6_3 {fz : Bool} {S : gS} {a : Nat} (hS : rl S) (h : a ∈ k6) : pa fz S (a + 1) .int 16 := by
  have h := k6_or h
  rcases h with rfl | rfl | rfl | rfl | rfl | rfl | rfl | rfl
  all_goals exact ⟨⟨Nat.le_of_ble_eq_true rfl, by decide, Nat.lt_of_le_of_lt (Nat.le_of_ble_eq_true rfl) hS.1, hS.2 _ (Nat.le_of_ble_eq_true rfl) (Nat.le_of_ble_eq_true rfl)⟩, Nat.le_of_ble_eq_true rfl⟩
theorem kf_6_4 {M : rf_M} {a : Nat} (hM : kfr M) (h : a ∈ k6) : M.2.2 a 4 = some (a + 3) := by
  have h := k6_or h
  rcases h with rfl | rfl | rfl | rfl | rfl | rfl | rfl | rfl
  · exact hM (196, 4, 199) (by decide)
  · exact hM (212, 4, 215) (by decide)
  · exact hM (228, 4, 231) (by decide)
  · exact hM (244, 4, 247) (by decide)
  · exact hM (260, 4, 263) (by decide)
  · exact hM (276, 4, 279) (by decide)
  · exact hM (292, 4, 295) (by decide)
  · exact hM (308, 4, 311) (by decide)
theorem kt_6_4 {a : Nat} (h : a ∈ k6) : (a + 3) ∈ k7 := by
  have h := k6_or h
  rcases h with rfl | rfl | rfl | rfl | rfl | rfl | rfl | rfl <;> decide
theorem kf_6_7 {M : rf_M} {a : Nat} (hM : kfr M) (h : a ∈ k6) : M.2.2 a 7 = some (a + 2) := by
  have h := k6_or h
  rcases h with rfl | rfl | rfl | rfl | rfl | rfl | rfl | rfl
  · exact hM (196, 7, 198) (by decide)
  · exact hM (212, 7, 214) (by decide)
  · exact hM (228, 7, 230) (by decide)
  · exact hM (244, 7, 246) (by decide)
  · exact hM (260, 7, 262) (by decide)
  · exact hM (276, 7, 278) (by decide)
  · exact hM (292, 7, 294) (by decide)
  · exact hM (308, 7, 310) (by decide)
theorem kt_6_7 {fz : Bool} {S : gS} {a : Nat} (hS : rl S) (h : a ∈ k6) : pa fz S (a + 2) .int 16 := by
  have h := k6_or h
  rcases h with rfl | rfl | rfl | rfl | rfl | rfl | rfl | rfl
  all_goals exact ⟨⟨Nat.le_of_ble_eq_true rfl, by decide, Nat.lt_of_le_of_lt (Nat.le_of_ble_eq_true rfl) hS.1, hS.2 _ (Nat.le_of_ble_eq_true rfl) (Nat.le_of_ble_eq_true rfl)⟩, Nat.le_of_ble_eq_true rfl⟩
theorem kf_7_4 {M : rf_M} {a : Nat} (hM : kfr M) (h : a ∈ k7) : M.2.2 a 4 = some (a + 1) := by
  have h := k7_or h
  rcases h with rfl | rfl | rfl | rfl | rfl | rfl | rfl | rfl | rfl
  · exact hM (199, 4, 200) (by decide)
  · exact hM (215, 4, 216) (by decide)
  · exact hM (231, 4, 232) (by decide)
  · exact hM (247, 4, 248) (by decide)
  · exact hM (263, 4, 264) (by decide)
  · exact hM (279, 4, 280) (by decide)
  · exact hM (295, 4, 296) (by decide)
  · exact hM (311, 4, 312) (by decide)
  · exact hM (340, 4, 341) (by decide)
theorem kt_7_4 {fz : Bool} {S : gS} {a : Nat} (hS : rl S) (h : a ∈ k7) : pa fz S (a + 1) .int 16 := by
  have h := k7_or h
  rcases h with rfl | rfl | rfl | rfl | rfl | rfl | rfl | rfl | rfl
  all_goals exact ⟨⟨Nat.le_of_ble_eq_true rfl, by decide, Nat.lt_of_le_of_lt (Nat.le_of_ble_eq_true rfl) hS.1, hS.2 _ (Nat.le_of_ble_eq_true rfl) (Nat.le_of_ble_eq_true rfl)⟩, Nat.le_of_ble_eq_true rfl⟩
theorem kf_7_5 {M : rf_M} {a : Nat} (hM : kfr M) (h : a ∈ k7) : M.2.2 a 5 = some (a + 2) := by
  have h := k7_or h
  rcases h with rfl | rfl | rfl | rfl | rfl | rfl | rfl | rfl | rfl
  · exact hM (199, 5, 201) (by decide)
  · exact hM (215, 5, 217) (by decide)
  · exact hM (231, 5, 233) (by decide)
  · exact hM (247, 5, 249) (by decide)
  · exact hM (263, 5, 265) (by decide)
  · exact hM (279, 5, 281) (by decide)
  · exact hM (295, 5, 297) (by decide)
  · exact hM (311, 5, 313) (by decide)
  · exact hM (340, 5, 342) (by decide)
theorem kt_7_5 {a : Nat} (h : a ∈ k7) : (a + 2) ∈ k8 := by
  have h := k7_or h
  rcases h with rfl | rfl | rfl | rfl | rfl | rfl | rfl | rfl | rfl <;> decide
theorem kf_7_7 {M : rf_M} {a : Nat} (hM : kfr M) (h : a ∈ k7) : M.2.2 a 7 = some (a + 10) := by
  have h := k7_or h
  rcases h with rfl | rfl | rfl | rfl | rfl | rfl | rfl | rfl | rfl
  · exact hM (199, 7, 209) (by decide)
  · exact hM (215, 7, 225) (by decide)
  · exact hM (231, 7, 241) (by decide)
  · exact hM (247, 7, 257) (by decide)
  · exact hM (263, 7, 273) (by decide)
  · exact hM (279, 7, 289) (by decide)
  · exact hM (295, 7, 305) (by decide)
  · exact hM (311, 7, 321) (by decide)
  · exact hM (340, 7, 350) (by decide)
theorem kt_7_7 {fz : Bool} {S : gS} {a : Nat} (hS : rl S) (h : a ∈ k7) : pa fz S (a + 10) .long 16 := by
  have h := k7_or h
  rcases h with rfl | rfl | rfl | rfl | rfl | rfl | rfl | rfl | rfl
  all_goals exact ⟨⟨Nat.le_of_ble_eq_true rfl, by decide, Nat.lt_of_le_of_lt (Nat.le_of_ble_eq_true rfl) hS.1, hS.2 _ (Nat.le_of_ble_eq_true rfl) (Nat.le_of_ble_eq_true rfl)⟩, Nat.le_of_ble_eq_true rfl⟩
theorem kf_7_8 {M : rf_M} {a : Nat} (hM : kfr M) (h : a ∈ k7) : M.2.2 a 8 = some (stR a) := by
  have h := k7_or h
  rcases h with rfl | rfl | rfl | rfl | rfl | rfl | rfl | rfl | rfl
  · exact hM (199, 8, 187) (by decide)
  · exact hM (215, 8, 187) (by decide)
  · exact hM (231, 8, 187) (by decide)
  · exact hM (247, 8, 187) (by decide)
  · exact hM (263, 8, 187) (by decide)
  · exact hM (279, 8, 187) (by decide)
  · exact hM (295, 8, 187) (by decide)
  · exact hM (311, 8, 187) (by decide)
  · exact hM (340, 8, 332) (by decide)
theorem kt_7_8 {a : Nat} (h : a ∈ k7) : (stR a) ∈ k4 := by
  have h := k7_or h
  rcases h with rfl | rfl | rfl | rfl | rfl | rfl | rfl | rfl | rfl <;> decide
theorem kf_7_9 {M : rf_M} {a : Nat} (hM : kfr M) (h : a ∈ k7) : M.2.2 a 9 = some (a + 11) := by
  have h := k7_or h
  rcases h with rfl | rfl | rfl | rfl | rfl | rfl | rfl | rfl | rfl
  · exact hM (199, 9, 210) (by decide)
  · exact hM (215, 9, 226) (by decide)
  · exact hM (231, 9, 242) (by decide)
  · exact hM (247, 9, 258) (by decide)
  · exact hM (263, 9, 274) (by decide)
  · exact hM (279, 9, 290) (by decide)
  · exact hM (295, 9, 306) (by decide)
  · exact hM (311, 9, 322) (by decide)
  · exact hM (340, 9, 351) (by decide)
theorem kt_7_9 {a : Nat} (h : a ∈ k7) : (a + 11) ∈ k5 := by
  have h := k7_or h
  rcases h with rfl | rfl | rfl | rfl | rfl | rfl | rfl | rfl | rfl <;> decide
theorem kf_8_1 {M : rf_M} {a : Nat} (hM : kfr M) (h : a ∈ k8) : M.2.2 a 1 = some (a + 1) := by
  have h := k8_or h
  rcases h with rfl | rfl | rfl | rfl | rfl | rfl | rfl | rfl | rfl
  · exact hM (201, 1, 202) (by decide)
  · exact hM (217, 1, 218) (by decide)
  · exact hM (233, 1, 234) (by decide)
  · exact hM (249, 1, 250) (by decide)
  · exact hM (265, 1, 266) (by decide)
  · exact hM (281, 1, 282) (by decide)
  · exact hM (297, 1, 298) (by decide)
  · exact hM (313, 1, 314) (by decide)
  · exact hM (342, 1, 343) (by decide)
theorem kt_8_1 {fz : Bool} {S : gS} {a : Nat} (hS : rl S) (h : a ∈ k8) : pa fz S (a + 1) .long 16 := by
  have h := k8_or h
  rcases h with rfl | rfl | rfl | rfl | rfl | rfl | rfl | rfl | rfl
  all_goals exact ⟨⟨Nat.le_of_ble_eq_true rfl, by decide, Nat.lt_of_le_of_lt (Nat.le_of_ble_eq_true rfl) hS.1, hS.2 _ (Nat.le_of_ble_eq_true rfl) (Nat.le_of_ble_eq_true rfl)⟩, Nat.le_of_ble_eq_true rfl⟩
theorem kf_8_2 {M : rf_M} {a : Nat} (hM : kfr M) (h : a ∈ k8) : M.2.2 a 2 = some (a + 2) := by
  have h := k8_or h
  rcases h with rfl | rfl | rfl | rfl | rfl | rfl | rfl | rfl | rfl
  · exact hM (201, 2, 203) (by decide)
  · exact hM (217, 2, 219) (by decide)
  · exact hM (233, 2, 235) (by decide)
  · exact hM (249, 2, 251) (by decide)
  · exact hM (265, 2, 267) (by decide)
  · exact hM (281, 2, 283) (by decide)
  · exact hM (297, 2, 299) (by decide)
  · exact hM (313, 2, 315) (by decide)
  · exact hM (342, 2, 344) (by decide)
theorem kt_8_2 {fz : Bool} {S : gS} {a : Nat} (hS : rl S) (h : a ∈ k8) : pa fz S (a + 2) .long 10 := by
  have h := k8_or h
  rcases h with rfl | rfl | rfl | rfl | rfl | rfl | rfl | rfl | rfl
  all_goals exact ⟨⟨Nat.le_of_ble_eq_true rfl, by decide, Nat.lt_of_le_of_lt (Nat.le_of_ble_eq_true rfl) hS.1, hS.2 _ (Nat.le_of_ble_eq_true rfl) (Nat.le_of_ble_eq_true rfl)⟩, Nat.le_of_ble_eq_true rfl⟩
theorem kf_8_4 {M : rf_M} {a : Nat} (hM : kfr M) (h : a ∈ k8) : M.2.2 a 4 = some (a + 3) := by
  have h := k8_or h
  rcases h with rfl | rfl | rfl | rfl | rfl | rfl | rfl | rfl | rfl
  · exact hM (201, 4, 204) (by decide)
  · exact hM (217, 4, 220) (by decide)
  · exact hM (233, 4, 236) (by decide)
  · exact hM (249, 4, 252) (by decide)
  · exact hM (265, 4, 268) (by decide)
  · exact hM (281, 4, 284) (by decide)
  · exact hM (297, 4, 300) (by decide)
  · exact hM (313, 4, 316) (by decide)
  · exact hM (342, 4, 345) (by decide)
theorem kt_8_4 {fz : Bool} {S : gS} {a : Nat} (hS : rl S) (h : a ∈ k8) : pa fz S (a + 3) .int 300 := by
  have h := k8_or h
  rcases h with rfl | rfl | rfl | rfl | rfl | rfl | rfl | rfl | rfl
  all_goals exact ⟨⟨Nat.le_of_ble_eq_true rfl, by decide, Nat.lt_of_le_of_lt (Nat.le_of_ble_eq_true rfl) hS.1, hS.2 _ (Nat.le_of_ble_eq_true rfl) (Nat.le_of_ble_eq_true rfl)⟩, Nat.le_of_ble_eq_true rfl⟩
theorem kf_8_5 {M : rf_M} {a : Nat} (hM : kfr M) (h : a ∈ k8) : M.2.2 a 5 = some (a + 4) := by
  have h := k8_or h
  rcases h with rfl | rfl | rfl | rfl | rfl | rfl | rfl | rfl | rfl
  · exact hM (201, 5, 205) (by decide)
  · exact hM (217, 5, 221) (by decide)
  · exact hM (233, 5, 237) (by decide)
  · exact hM (249, 5, 253) (by decide)
  · exact hM (265, 5, 269) (by decide)
  · exact hM (281, 5, 285) (by decide)
  · exact hM (297, 5, 301) (by decide)
  · exact hM (313, 5, 317) (by decide)
  · exact hM (342, 5, 346) (by decide)
theorem kt_8_5 {fz : Bool} {S : gS} {a : Nat} (hS : rl S) (h : a ∈ k8) : pa fz S (a + 4) .int 8 := by
  have h := k8_or h
  rcases h with rfl | rfl | rfl | rfl | rfl | rfl | rfl | rfl | rfl
  all_goals exact ⟨⟨Nat.le_of_ble_eq_true rfl, by decide, Nat.lt_of_le_of_lt (Nat.le_of_ble_eq_true rfl) hS.1, hS.2 _ (Nat.le_of_ble_eq_true rfl) (Nat.le_of_ble_eq_true rfl)⟩, Nat.le_of_ble_eq_true rfl⟩
theorem kf_8_6 {M : rf_M} {a : Nat} (hM : kfr M) (h : a ∈ k8) : M.2.2 a 6 = some (a + 5) := by
  have h := k8_or h
  rcases h with rfl | rfl | rfl | rfl | rfl | rfl | rfl | rfl | rfl
  · exact hM (201, 6, 206) (by decide)
  · exact hM (217, 6, 222) (by decide)
  · exact hM (233, 6, 238) (by decide)
  · exact hM (249, 6, 254) (by decide)
  · exact hM (265, 6, 270) (by decide)
  · exact hM (281, 6, 286) (by decide)
  · exact hM (297, 6, 302) (by decide)
  · exact hM (313, 6, 318) (by decide)
  · exact hM (342, 6, 347) (by decide)
theorem kt_8_6 {fz : Bool} {S : gS} {a : Nat} (hS : rl S) (h : a ∈ k8) : pa fz S (a + 5) .long 128 := by
  have h := k8_or h
  rcases h with rfl | rfl | rfl | rfl | rfl | rfl | rfl | rfl | rfl
  all_goals exact ⟨⟨Nat.le_of_ble_eq_true rfl, by decide, Nat.lt_of_le_of_lt (Nat.le_of_ble_eq_true rfl) hS.1, hS.2 _ (Nat.le_of_ble_eq_true rfl) (Nat.le_of_ble_eq_true rfl)⟩, Nat.le_of_ble_eq_true rfl⟩
theorem kf_8_7 {M : rf_M} {a : Nat} (hM : kfr M) (h : a ∈ k8) : M.2.2 a 7 = some (a + 6) := by
  have h := k8_or h
  rcases h with rfl | rfl | rfl | rfl | rfl | rfl | rfl | rfl | rfl
  · exact hM (201, 7, 207) (by decide)
  · exact hM (217, 7, 223) (by decide)
  · exact hM (233, 7, 239) (by decide)
  · exact hM (249, 7, 255) (by decide)
  · exact hM (265, 7, 271) (by decide)
  · exact hM (281, 7, 287) (by decide)
  · exact hM (297, 7, 303) (by decide)
  · exact hM (313, 7, 319) (by decide)
  · exact hM (342, 7, 348) (by decide)
theorem kt_8_7 {fz : Bool} {S : gS} {a : Nat} (hS : rl S) (h : a ∈ k8) : pa fz S (a + 6) .long 80 := by
  have h := k8_or h
  rcases h with rfl | rfl | rfl | rfl | rfl | rfl | rfl | rfl | rfl
  all_goals exact ⟨⟨Nat.le_of_ble_eq_true rfl, by decide, Nat.lt_of_le_of_lt (Nat.le_of_ble_eq_true rfl) hS.1, hS.2 _ (Nat.le_of_ble_eq_true rfl) (Nat.le_of_ble_eq_true rfl)⟩, Nat.le_of_ble_eq_true rfl⟩
theorem kf_8_8 {M : rf_M} {a : Nat} (hM : kfr M) (h : a ∈ k8) : M.2.2 a 8 = some (a + 7) := by
  have h := k8_or h
  rcases h with rfl | rfl | rfl | rfl | rfl | rfl | rfl | rfl | rfl
  · exact hM (201, 8, 208) (by decide)
  · exact hM (217, 8, 224) (by decide)
  · exact hM (233, 8, 240) (by decide)
  · exact hM (249, 8, 256) (by decide)
  · exact hM (265, 8, 272) (by decide)
  · exact hM (281, 8, 288) (by decide)
  · exact hM (297, 8, 304) (by decide)
  · exact hM (313, 8, 320) (by decide)
  · exact hM (342, 8, 349) (by decide)
theorem kt_8_8 {fz : Bool} {S : gS} {a : Nat} (hS : rl S) (h : a ∈ k8) : pa fz S (a + 7) .int 8 := by
  have h := k8_or h
  rcases h with rfl | rfl | rfl | rfl | rfl | rfl | rfl | rfl | rfl
  all_goals exact ⟨⟨Nat.le_of_ble_eq_true rfl, by decide, Nat.lt_of_le_of_lt (Nat.le_of_ble_eq_true rfl) hS.1, hS.2 _ (Nat.le_of_ble_eq_true rfl) (Nat.le_of_ble_eq_true rfl)⟩, Nat.le_of_ble_eq_true rfl⟩
theorem kf_9_1 {M : rf_M} {a : Nat} (hM : kfr M) (h : a ∈ k9) : M.2.2 a 1 = some 325 := by
  have h := k9_or h
  subst h
  · exact hM (324, 1, 325) (by decide)
theorem kf_9_2 {M : rf_M} {a : Nat} (hM : kfr M) (h : a ∈ k9) : M.2.2 a 2 = some 326 := by
  have h := k9_or h
  subst h
  · exact hM (324, 2, 326) (by decide)
theorem kf_9_3 {M : rf_M} {a : Nat} (hM : kfr M) (h : a ∈ k9) : M.2.2 a 3 = some 327 := by
  have h := k9_or h
  subst h
  · exact hM (324, 3, 327) (by decide)
theorem kf_9_4 {M : rf_M} {a : Nat} (hM : kfr M) (h : a ∈ k9) : M.2.2 a 4 = some 328 := by
  have h := k9_or h
  subst h
  · exact hM (324, 4, 328) (by decide)
theorem kf_9_5 {M : rf_M} {a : Nat} (hM : kfr M) (h : a ∈ k9) : M.2.2 a 5 = some 329 := by
  have h := k9_or h
  subst h
  · exact hM (324, 5, 329) (by decide)
theorem kf_9_6 {M : rf_M} {a : Nat} (hM : kfr M) (h : a ∈ k9) : M.2.2 a 6 = some 330 := by
  have h := k9_or h
  subst h
  · exact hM (324, 6, 330) (by decide)
theorem kf_10_0 {M : rf_M} {a : Nat} (hM : kfr M) (h : a ∈ k10) : M.2.2 a 0 = some 332 := by
  have h := k10_or h
  subst h
  · exact hM (331, 0, 332) (by decide)
theorem kf_10_3 {M : rf_M} {a : Nat} (hM : kfr M) (h : a ∈ k10) : M.2.2 a 3 = some 24 := by
  have h := k10_or h
  subst h
  · exact hM (331, 3, 24) (by decide)
theorem kf_10_4 {M : rf_M} {a : Nat} (hM : kfr M) (h : a ∈ k10) : M.2.2 a 4 = some 340 := by
  have h := k10_or h
  subst h
  · exact hM (331, 4, 340) (by decide)
theorem kf_11_1 {M : rf_M} {a : Nat} (hM : kfr M) (h : a ∈ k11) : M.2.2 a 1 = some 354 := by
  have h := k11_or h
  subst h
  · exact hM (353, 1, 354) (by decide)
theorem kf_11_12 {M : rf_M} {a : Nat} (hM : kfr M) (h : a ∈ k11) : M.2.2 a 12 = some 355 := by
  have h := k11_or h
  subst h
  · exact hM (353, 12, 355) (by decide)
theorem kf_11_13 {M : rf_M} {a : Nat} (hM : kfr M) (h : a ∈ k11) : M.2.2 a 13 = some 356 := by
  have h := k11_or h
  subst h
  · exact hM (353, 13, 356) (by decide)
theorem kf_11_14 {M : rf_M} {a : Nat} (hM : kfr M) (h : a ∈ k11) : M.2.2 a 14 = some 357 := by
  have h := k11_or h
  subst h
  · exact hM (353, 14, 357) (by decide)
theorem kf_11_15 {M : rf_M} {a : Nat} (hM : kfr M) (h : a ∈ k11) : M.2.2 a 15 = some 358 := by
  have h := k11_or h
  subst h
  · exact hM (353, 15, 358) (by decide)
theorem kf_11_16 {M : rf_M} {a : Nat} (hM : kfr M) (h : a ∈ k11) : M.2.2 a 16 = some 359 := by
  have h := k11_or h
  subst h
  · exact hM (353, 16, 359) (by decide)
theorem kf_11_17 {M : rf_M} {a : Nat} (hM : kfr M) (h : a ∈ k11) : M.2.2 a 17 = some 360 := by
  have h := k11_or h
  subst h
  · exact hM (353, 17, 360) (by decide)
theorem kf_11_18 {M : rf_M} {a : Nat} (hM : kfr M) (h : a ∈ k11) : M.2.2 a 18 = some 361 := by
  have h := k11_or h
  subst h
  · exact hM (353, 18, 361) (by decide)
theorem kf_11_19 {M : rf_M} {a : Nat} (hM : kfr M) (h : a ∈ k11) : M.2.2 a 19 = some 362 := by
  have h := k11_or h
  subst h
  · exact hM (353, 19, 362) (by decide)
theorem kf_11_20 {M : rf_M} {a : Nat} (hM : kfr M) (h : a ∈ k11) : M.2.2 a 20 = some 363 := by
  have h := k11_or h
  subst h
  · exact hM (353, 20, 363) (by decide)
theorem kf_11_21 {M : rf_M} {a : Nat} (hM : kfr M) (h : a ∈ k11) : M.2.2 a 21 = some 364 := by
  have h := k11_or h
  subst h
  · exact hM (353, 21, 364) (by decide)
theorem kf_11_22 {M : rf_M} {a : Nat} (hM : kfr M) (h : a ∈ k11) : M.2.2 a 22 = some 365 := by
  have h := k11_or h
  subst h
  · exact hM (353, 22, 365) (by decide)
theorem kf_11_23 {M : rf_M} {a : Nat} (hM : kfr M) (h : a ∈ k11) : M.2.2 a 23 = some 366 := by
  have h := k11_or h
  subst h
  · exact hM (353, 23, 366) (by decide)
theorem kf_11_24 {M : rf_M} {a : Nat} (hM : kfr M) (h : a ∈ k11) : M.2.2 a 24 = some 367 := by
  have h := k11_or h
  subst h
  · exact hM (353, 24, 367) (by decide)
theorem kf_11_25 {M : rf_M} {a : Nat} (hM : kfr M) (h : a ∈ k11) : M.2.2 a 25 = some 368 := by
  have h := k11_or h
  subst h
  · exact hM (353, 25, 368) (by decide)
theorem kf_11_26 {M : rf_M} {a : Nat} (hM : kfr M) (h : a ∈ k11) : M.2.2 a 26 = some 369 := by
  have h := k11_or h
  subst h
  · exact hM (353, 26, 369) (by decide)
theorem kf_11_27 {M : rf_M} {a : Nat} (hM : kfr M) (h : a ∈ k11) : M.2.2 a 27 = some 370 := by
  have h := k11_or h
  subst h
  · exact hM (353, 27, 370) (by decide)
theorem kf_11_29 {M : rf_M} {a : Nat} (hM : kfr M) (h : a ∈ k11) : M.2.2 a 29 = some 371 := by
  have h := k11_or h
  subst h
  · exact hM (353, 29, 371) (by decide)
theorem kf_11_32 {M : rf_M} {a : Nat} (hM : kfr M) (h : a ∈ k11) : M.2.2 a 32 = some 372 := by
  have h := k11_or h
  subst h
  · exact hM (353, 32, 372) (by decide)
theorem kf_11_34 {M : rf_M} {a : Nat} (hM : kfr M) (h : a ∈ k11) : M.2.2 a 34 = some 373 := by
  have h := k11_or h
  subst h
  · exact hM (353, 34, 373) (by decide)
theorem kf_11_35 {M : rf_M} {a : Nat} (hM : kfr M) (h : a ∈ k11) : M.2.2 a 35 = some 374 := by
  have h := k11_or h
  subst h
  · exact hM (353, 35, 374) (by decide)
theorem kf_11_36 {M : rf_M} {a : Nat} (hM : kfr M) (h : a ∈ k11) : M.2.2 a 36 = some 375 := by
  have h := k11_or h
  subst h
  · exact hM (353, 36, 375) (by decide)
theorem kf_11_38 {M : rf_M} {a : Nat} (hM : kfr M) (h : a ∈ k11) : M.2.2 a 38 = some 376 := by
  have h := k11_or h
  subst h
  · exact hM (353, 38, 376) (by decide)
theorem kf_11_39 {M : rf_M} {a : Nat} (hM : kfr M) (h : a ∈ k11) : M.2.2 a 39 = some 377 := by
  have h := k11_or h
  subst h
  · exact hM (353, 39, 377) (by decide)
theorem kf_11_40 {M : rf_M} {a : Nat} (hM : kfr M) (h : a ∈ k11) : M.2.2 a 40 = some 378 := by
  have h := k11_or h
  subst h
  · exact hM (353, 40, 378) (by decide)
theorem kf_11_41 {M : rf_M} {a : Nat} (hM : kfr M) (h : a ∈ k11) : M.2.2 a 41 = some 379 := by
  have h := k11_or h
  subst h
  · exact hM (353, 41, 379) (by decide)
theorem kf_11_43 {M : rf_M} {a : Nat} (hM : kfr M) (h : a ∈ k11) : M.2.2 a 43 = some 380 := by
  have h := k11_or h
  subst h
  · exact hM (353, 43, 380) (by decide)
theorem kf_11_44 {M : rf_M} {a : Nat} (hM : kfr M) (h : a ∈ k11) : M.2.2 a 44 = some 381 := by
  have h := k11_or h
  subst h
  · exact hM (353, 44, 381) (by decide)
theorem kf_11_45 {M : rf_M} {a : Nat} (hM : kfr M) (h : a ∈ k11) : M.2.2 a 45 = some 382 := by
  have h := k11_or h
  subst h
  · exact hM (353, 45, 382) (by decide)
theorem kf_11_46 {M : rf_M} {a : Nat} (hM : kfr M) (h : a ∈ k11) : M.2.2 a 46 = some 383 := by
  have h := k11_or h
  subst h
  · exact hM (353, 46, 383) (by decide)
theorem kf_11_47 {M : rf_M} {a : Nat} (hM : kfr M) (h : a ∈ k11) : M.2.2 a 47 = some 384 := by
  have h := k11_or h
  subst h
  · exact hM (353, 47, 384) (by decide)
theorem kf_11_48 {M : rf_M} {a : Nat} (hM : kfr M) (h : a ∈ k11) : M.2.2 a 48 = some 385 := by
  have h := k11_or h
  subst h
  · exact hM (353, 48, 385) (by decide)
theorem kf_11_49 {M : rf_M} {a : Nat} (hM : kfr M) (h : a ∈ k11) : M.2.2 a 49 = some 386 := by
  have h := k11_or h
  subst h
  · exact hM (353, 49, 386) (by decide)
theorem kf_11_50 {M : rf_M} {a : Nat} (hM : kfr M) (h : a ∈ k11) : M.2.2 a 50 = some 387 := by
  have h := k11_or h
  subst h
  · exact hM (353, 50, 387) (by decide)
theorem kf_11_51 {M : rf_M} {a : Nat} (hM : kfr M) (h : a ∈ k11) : M.2.2 a 51 = some 388 := by
  have h := k11_or h
  subst h
  · exact hM (353, 51, 388) (by decide)
theorem kf_11_53 {M : rf_M} {a : Nat} (hM : kfr M) (h : a ∈ k11) : M.2.2 a 53 = some 389 := by
  have h := k11_or h
  subst h
  · exact hM (353, 53, 389) (by decide)
theorem kf_11_54 {M : rf_M} {a : Nat} (hM : kfr M) (h : a ∈ k11) : M.2.2 a 54 = some 390 := by
  have h := k11_or h
  subst h
  · exact hM (353, 54, 390) (by decide)
theorem kf_11_56 {M : rf_M} {a : Nat} (hM : kfr M) (h : a ∈ k11) : M.2.2 a 56 = some 391 := by
  have h := k11_or h
  subst h
  · exact hM (353, 56, 391) (by decide)
theorem kf_11_57 {M : rf_M} {a : Nat} (hM : kfr M) (h : a ∈ k11) : M.2.2 a 57 = some 392 := by
  have h := k11_or h
  subst h
  · exact hM (353, 57, 392) (by decide)
theorem kf_11_59 {M : rf_M} {a : Nat} (hM : kfr M) (h : a ∈ k11) : M.2.2 a 59 = some 393 := by
  have h := k11_or h
  subst h
  · exact hM (353, 59, 393) (by decide)
theorem kf_11_61 {M : rf_M} {a : Nat} (hM : kfr M) (h : a ∈ k11) : M.2.2 a 61 = some 394 := by
  have h := k11_or h
  subst h
  · exact hM (353, 61, 394) (by decide)
theorem kf_11_62 {M : rf_M} {a : Nat} (hM : kfr M) (h : a ∈ k11) : M.2.2 a 62 = some 395 := by
  have h := k11_or h
  subst h
  · exact hM (353, 62, 395) (by decide)
theorem kf_11_63 {M : rf_M} {a : Nat} (hM : kfr M) (h : a ∈ k11) : M.2.2 a 63 = some 396 := by
  have h := k11_or h
  subst h
  · exact hM (353, 63, 396) (by decide)
theorem kf_11_64 {M : rf_M} {a : Nat} (hM : kfr M) (h : a ∈ k11) : M.2.2 a 64 = some 397 := by
  have h := k11_or h
  subst h
  · exact hM (353, 64, 397) (by decide)
theorem kf_11_67 {M : rf_M} {a : Nat} (hM : kfr M) (h : a ∈ k11) : M.2.2 a 67 = some 398 := by
  have h := k11_or h
  subst h
  · exact hM (353, 67, 398) (by decide)
theorem kf_11_68 {M : rf_M} {a : Nat} (hM : kfr M) (h : a ∈ k11) : M.2.2 a 68 = some 399 := by
  have h := k11_or h
  subst h
  · exact hM (353, 68, 399) (by decide)
theorem kf_11_70 {M : rf_M} {a : Nat} (hM : kfr M) (h : a ∈ k11) : M.2.2 a 70 = some 400 := by
  have h := k11_or h
  subst h
  · exact hM (353, 70, 400) (by decide)
theorem kf_11_71 {M : rf_M} {a : Nat} (hM : kfr M) (h : a ∈ k11) : M.2.2 a 71 = some 401 := by
  have h := k11_or h
  subst h
  · exact hM (353, 71, 401) (by decide)
theorem kf_11_72 {M : rf_M} {a : Nat} (hM : kfr M) (h : a ∈ k11) : M.2.2 a 72 = some 402 := by
  have h := k11_or h
  subst h
  · exact hM (353, 72, 402) (by decide)
theorem kf_11_73 {M : rf_M} {a : Nat} (hM : kfr M) (h : a ∈ k11) : M.2.2 a 73 = some 403 := by
  have h := k11_or h
  subst h
  · exact hM (353, 73, 403) (by decide)
theorem kf_11_74 {M : rf_M} {a : Nat} (hM : kfr M) (h : a ∈ k11) : M.2.2 a 74 = some 404 := by
  have h := k11_or h
  subst h
  · exact hM (353, 74, 404) (by decide)
theorem kf_11_75 {M : rf_M} {a : Nat} (hM : kfr M) (h : a ∈ k11) : M.2.2 a 75 = some 405 := by
  have h := k11_or h
  subst h
  · exact hM (353, 75, 405) (by decide)
theorem kc_354 {fz : Bool} {S : gS} (hS : rl S) : ga (cx0 fz) S 354 .byte 800 ∧ True := ⟨⟨Nat.le_of_ble_eq_true rfl, by decide, Nat.lt_of_le_of_lt (Nat.le_of_ble_eq_true rfl) hS.1, hS.2 _ (Nat.le_of_ble_eq_true rfl) (Nat.le_of_ble_eq_true rfl)⟩, trivial⟩
theorem kc_355 {fz : Bool} {S : gS} (hS : rl S) : ga (cx0 fz) S 355 .int 12 ∧ True := ⟨⟨Nat.le_of_ble_eq_true rfl, by decide, Nat.lt_of_le_of_lt (Nat.le_of_ble_eq_true rfl) hS.1, hS.2 _ (Nat.le_of_ble_eq_true rfl) (Nat.le_of_ble_eq_true rfl)⟩, trivial⟩
theorem kc_356 {fz : Bool} {S : gS} (hS : rl S) : ga (cx0 fz) S 356 .int 12 ∧ True := ⟨⟨Nat.le_of_ble_eq_true rfl, by decide, Nat.lt_of_le_of_lt (Nat.le_of_ble_eq_true rfl) hS.1, hS.2 _ (Nat.le_of_ble_eq_true rfl) (Nat.le_of_ble_eq_true rfl)⟩, trivial⟩
theorem kc_357 {fz : Bool} {S : gS} (hS : rl S) : ga (cx0 fz) S 357 .int 12 ∧ True := ⟨⟨Nat.le_of_ble_eq_true rfl, by decide, Nat.lt_of_le_of_lt (Nat.le_of_ble_eq_true rfl) hS.1, hS.2 _ (Nat.le_of_ble_eq_true rfl) (Nat.le_of_ble_eq_true rfl)⟩, trivial⟩
theorem kc_358 {fz : Bool} {S : gS} (hS : rl S) : ga (cx0 fz) S 358 .int 12 ∧ True := ⟨⟨Nat.le_of_ble_eq_true rfl, by decide, Nat.lt_of_le_of_lt (Nat.le_of_ble_eq_true rfl) hS.1, hS.2 _ (Nat.le_of_ble_eq_true rfl) (Nat.le_of_ble_eq_true rfl)⟩, trivial⟩
theorem kc_359 {fz : Bool} {S : gS} (hS : rl S) : ga (cx0 fz) S 359 .int 12 ∧ True := ⟨⟨Nat.le_of_ble_eq_true rfl, by decide, Nat.lt_of_le_of_lt (Nat.le_of_ble_eq_true rfl) hS.1, hS.2 _ (Nat.le_of_ble_eq_true rfl) (Nat.le_of_ble_eq_true rfl)⟩, trivial⟩
theorem kc_360 {fz : Bool} {S : gS} (hS : rl S) : ga (cx0 fz) S 360 .int 480 ∧ True := ⟨⟨Nat.le_of_ble_eq_true rfl, by decide, Nat.lt_of_le_of_lt (Nat.le_of_ble_eq_true rfl) hS.1, hS.2 _ (Nat.le_of_ble_eq_true rfl) (Nat.le_of_ble_eq_true rfl)⟩, trivial⟩
theorem kc_361 {fz : Bool} {S : gS} (hS : rl S) : ga (cx0 fz) S 361 .int 480 ∧ True := ⟨⟨Nat.le_of_ble_eq_true rfl, by decide, Nat.lt_of_le_of_lt (Nat.le_of_ble_eq_true rfl) hS.1, hS.2 _ (Nat.le_of_ble_eq_true rfl) (Nat.le_of_ble_eq_true rfl)⟩, trivial⟩
theorem kc_362 {fz : Bool} {S : gS} (hS : rl S) : ga (cx0 fz) S 362 .int 480 ∧ True := ⟨⟨Nat.le_of_ble_eq_true rfl, by decide, Nat.lt_of_le_of_lt (Nat.le_of_ble_eq_true rfl) hS.1, hS.2 _ (Nat.le_of_ble_eq_true rfl) (Nat.le_of_ble_eq_true rfl)⟩, trivial⟩
theorem kc_363 {fz : Bool} {S : gS} (hS : rl S) : ga (cx0 fz) S 363 .int 480 ∧ True := ⟨⟨Nat.le_of_ble_eq_true rfl, by decide, Nat.lt_of_le_of_lt (Nat.le_of_ble_eq_true rfl) hS.1, hS.2 _ (Nat.le_of_ble_eq_true rfl) (Nat.le_of_ble_eq_true rfl)⟩, trivial⟩
theorem kc_364 {fz : Bool} {S : gS} (hS : rl S) : ga (cx0 fz) S 364 .int 480 ∧ True := ⟨⟨Nat.le_of_ble_eq_true rfl, by decide, Nat.lt_of_le_of_lt (Nat.le_of_ble_eq_true rfl) hS.1, hS.2 _ (Nat.le_of_ble_eq_true rfl) (Nat.le_of_ble_eq_true rfl)⟩, trivial⟩
theorem kc_365 {fz : Bool} {S : gS} (hS : rl S) : ga (cx0 fz) S 365 .int 480 ∧ True := ⟨⟨Nat.le_of_ble_eq_true rfl, by decide, Nat.lt_of_le_of_lt (Nat.le_of_ble_eq_true rfl) hS.1, hS.2 _ (Nat.le_of_ble_eq_true rfl) (Nat.le_of_ble_eq_true rfl)⟩, trivial⟩
theorem kc_366 {fz : Bool} {S : gS} (hS : rl S) : ga (cx0 fz) S 366 .int 480 ∧ True := ⟨⟨Nat.le_of_ble_eq_true rfl, by decide, Nat.lt_of_le_of_lt (Nat.le_of_ble_eq_true rfl) hS.1, hS.2 _ (Nat.le_of_ble_eq_true rfl) (Nat.le_of_ble_eq_true rfl)⟩, trivial⟩
theorem kc_367 {fz : Bool} {S : gS} (hS : rl S) : ga (cx0 fz) S 367 .int 480 ∧ True := ⟨⟨Nat.le_of_ble_eq_true rfl, by decide, Nat.lt_of_le_of_lt (Nat.le_of_ble_eq_true rfl) hS.1, hS.2 _ (Nat.le_of_ble_eq_true rfl) (Nat.le_of_ble_eq_true rfl)⟩, trivial⟩
theorem kc_368 {fz : Bool} {S : gS} (hS : rl S) : ga (cx0 fz) S 368 .int 2400 ∧ True := ⟨⟨Nat.le_of_ble_eq_true rfl, by decide, Nat.lt_of_le_of_lt (Nat.le_of_ble_eq_true rfl) hS.1, hS.2 _ (Nat.le_of_ble_eq_true rfl) (Nat.le_of_ble_eq_true rfl)⟩, trivial⟩
theorem kc_369 {fz : Bool} {S : gS} (hS : rl S) : ga (cx0 fz) S 369 .int 2400 ∧ True := ⟨⟨Nat.le_of_ble_eq_true rfl, by decide, Nat.lt_of_le_of_lt (Nat.le_of_ble_eq_true rfl) hS.1, hS.2 _ (Nat.le_of_ble_eq_true rfl) (Nat.le_of_ble_eq_true rfl)⟩, trivial⟩
theorem kc_370 {fz : Bool} {S : gS} (hS : rl S) : ga (cx0 fz) S 370 .long 2400 ∧ True := ⟨⟨Nat.le_of_ble_eq_true rfl, by decide, Nat.lt_of_le_of_lt (Nat.le_of_ble_eq_true rfl) hS.1, hS.2 _ (Nat.le_of_ble_eq_true rfl) (Nat.le_of_ble_eq_true rfl)⟩, trivial⟩
theorem kc_371 {fz : Bool} {S : gS} (hS : rl S) : ga (cx0 fz) S 371 .int 64 ∧ True := ⟨⟨Nat.le_of_ble_eq_true rfl, by decide, Nat.lt_of_le_of_lt (Nat.le_of_ble_eq_true rfl) hS.1, hS.2 _ (Nat.le_of_ble_eq_true rfl) (Nat.le_of_ble_eq_true rfl)⟩, trivial⟩
theorem kc_372 {fz : Bool} {S : gS} (hS : rl S) : ga (cx0 fz) S 372 .boolean 16 ∧ True := ⟨⟨Nat.le_of_ble_eq_true rfl, by decide, Nat.lt_of_le_of_lt (Nat.le_of_ble_eq_true rfl) hS.1, hS.2 _ (Nat.le_of_ble_eq_true rfl) (Nat.le_of_ble_eq_true rfl)⟩, trivial⟩
theorem kc_373 {fz : Bool} {S : gS} (hS : rl S) : ga (cx0 fz) S 373 .int 10 ∧ True := ⟨⟨Nat.le_of_ble_eq_true rfl, by decide, Nat.lt_of_le_of_lt (Nat.le_of_ble_eq_true rfl) hS.1, hS.2 _ (Nat.le_of_ble_eq_true rfl) (Nat.le_of_ble_eq_true rfl)⟩, trivial⟩
theorem kc_374 {fz : Bool} {S : gS} (hS : rl S) : ga (cx0 fz) S 374 .int 10 ∧ True := ⟨⟨Nat.le_of_ble_eq_true rfl, by decide, Nat.lt_of_le_of_lt (Nat.le_of_ble_eq_true rfl) hS.1, hS.2 _ (Nat.le_of_ble_eq_true rfl) (Nat.le_of_ble_eq_true rfl)⟩, trivial⟩
theorem kc_375 {fz : Bool} {S : gS} (hS : rl S) : ga (cx0 fz) S 375 .int 10 ∧ True := ⟨⟨Nat.le_of_ble_eq_true rfl, by decide, Nat.lt_of_le_of_lt (Nat.le_of_ble_eq_true rfl) hS.1, hS.2 _ (Nat.le_of_ble_eq_true rfl) (Nat.le_of_ble_eq_true rfl)⟩, trivial⟩
theorem kc_376 {fz : Bool} {S : gS} (hS : rl S) : ga (cx0 fz) S 376 .long 32 ∧ True := ⟨⟨Nat.le_of_ble_eq_true rfl, by decide, Nat.lt_of_le_of_lt (Nat.le_of_ble_eq_true rfl) hS.1, hS.2 _ (Nat.le_of_ble_eq_true rfl) (Nat.le_of_ble_eq_true rfl)⟩, trivial⟩
theorem kc_377 {fz : Bool} {S : gS} (hS : rl S) : ga (cx0 fz) S 377 .int 32 ∧ True := ⟨⟨Nat.le_of_ble_eq_true rfl, by decide, Nat.lt_of_le_of_lt (Nat.le_of_ble_eq_true rfl) hS.1, hS.2 _ (Nat.le_of_ble_eq_true rfl) (Nat.le_of_ble_eq_true rfl)⟩, trivial⟩
theorem kc_378 {fz : Bool} {S : gS} (hS : rl S) : ga (cx0 fz) S 378 .int 2 ∧ True := ⟨⟨Nat.le_of_ble_eq_true rfl, by decide, Nat.lt_of_le_of_lt (Nat.le_of_ble_eq_true rfl) hS.1, hS.2 _ (Nat.le_of_ble_eq_true rfl) (Nat.le_of_ble_eq_true rfl)⟩, trivial⟩
theorem kc_379 {fz : Bool} {S : gS} (hS : rl S) : ga (cx0 fz) S 379 .int 64 ∧ True := ⟨⟨Nat.le_of_ble_eq_true rfl, by decide, Nat.lt_of_le_of_lt (Nat.le_of_ble_eq_true rfl) hS.1, hS.2 _ (Nat.le_of_ble_eq_true rfl) (Nat.le_of_ble_eq_true rfl)⟩, trivial⟩
theorem kc_380 {fz : Bool} {S : gS} (hS : rl S) : ga (cx0 fz) S 380 .int 128 ∧ True := ⟨⟨Nat.le_of_ble_eq_true rfl, by decide, Nat.lt_of_le_of_lt (Nat.le_of_ble_eq_true rfl) hS.1, hS.2 _ (Nat.le_of_ble_eq_true rfl) (Nat.le_of_ble_eq_true rfl)⟩, trivial⟩
theorem kc_381 {fz : Bool} {S : gS} (hS : rl S) : ga (cx0 fz) S 381 .int 8 ∧ True := ⟨⟨Nat.le_of_ble_eq_true rfl, by decide, Nat.lt_of_le_of_lt (Nat.le_of_ble_eq_true rfl) hS.1, hS.2 _ (Nat.le_of_ble_eq_true rfl) (Nat.le_of_ble_eq_true rfl)⟩, trivial⟩
theorem kc_382 {fz : Bool} {S : gS} (hS : rl S) : ga (cx0 fz) S 382 .int 8 ∧ True := ⟨⟨Nat.le_of_ble_eq_true rfl, by decide, Nat.lt_of_le_of_lt (Nat.le_of_ble_eq_true rfl) hS.1, hS.2 _ (Nat.le_of_ble_eq_true rfl) (Nat.le_of_ble_eq_true rfl)⟩, trivial⟩
theorem kc_383 {fz : Bool} {S : gS} (hS : rl S) : ga (cx0 fz) S 383 .int 8 ∧ True := ⟨⟨Nat.le_of_ble_eq_true rfl, by decide, Nat.lt_of_le_of_lt (Nat.le_of_ble_eq_true rfl) hS.1, hS.2 _ (Nat.le_of_ble_eq_true rfl) (Nat.le_of_ble_eq_true rfl)⟩, trivial⟩
theorem kc_384 {fz : Bool} {S : gS} (hS : rl S) : ga (cx0 fz) S 384 .int 8 ∧ True := ⟨⟨Nat.le_of_ble_eq_true rfl, by decide, Nat.lt_of_le_of_lt (Nat.le_of_ble_eq_true rfl) hS.1, hS.2 _ (Nat.le_of_ble_eq_true rfl) (Nat.le_of_ble_eq_true rfl)⟩, trivial⟩
theorem kc_385 {fz : Bool} {S : gS} (hS : rl S) : ga (cx0 fz) S 385 .boolean 8 ∧ True := ⟨⟨Nat.le_of_ble_eq_true rfl, by decide, Nat.lt_of_le_of_lt (Nat.le_of_ble_eq_true rfl) hS.1, hS.2 _ (Nat.le_of_ble_eq_true rfl) (Nat.le_of_ble_eq_true rfl)⟩, trivial⟩
theorem kc_386 {fz : Bool} {S : gS} (hS : rl S) : ga (cx0 fz) S 386 .int 8 ∧ True := ⟨⟨Nat.le_of_ble_eq_true rfl, by decide, Nat.lt_of_le_of_lt (Nat.le_of_ble_eq_true rfl) hS.1, hS.2 _ (Nat.le_of_ble_eq_true rfl) (Nat.le_of_ble_eq_true rfl)⟩, trivial⟩
theorem kc_387 {fz : Bool} {S : gS} (hS : rl S) : ga (cx0 fz) S 387 .long 128 ∧ True := ⟨⟨Nat.le_of_ble_eq_true rfl, by decide, Nat.lt_of_le_of_lt (Nat.le_of_ble_eq_true rfl) hS.1, hS.2 _ (Nat.le_of_ble_eq_true rfl) (Nat.le_of_ble_eq_true rfl)⟩, trivial⟩
theorem kc_388 {fz : Bool} {S : gS} (hS : rl S) : ga (cx0 fz) S 388 .int 128 ∧ True := ⟨⟨Nat.le_of_ble_eq_true rfl, by decide, Nat.lt_of_le_of_lt (Nat.le_of_ble_eq_true rfl) hS.1, hS.2 _ (Nat.le_of_ble_eq_true rfl) (Nat.le_of_ble_eq_true rfl)⟩, trivial⟩
theorem kc_389 {fz : Bool} {S : gS} (hS : rl S) : ga (cx0 fz) S 389 .long 16 ∧ True := ⟨⟨Nat.le_of_ble_eq_true rfl, by decide, Nat.lt_of_le_of_lt (Nat.le_of_ble_eq_true rfl) hS.1, hS.2 _ (Nat.le_of_ble_eq_true rfl) (Nat.le_of_ble_eq_true rfl)⟩, trivial⟩
theorem kc_390 {fz : Bool} {S : gS} (hS : rl S) : ga (cx0 fz) S 390 .int 16 ∧ True := ⟨⟨Nat.le_of_ble_eq_true rfl, by decide, Nat.lt_of_le_of_lt (Nat.le_of_ble_eq_true rfl) hS.1, hS.2 _ (Nat.le_of_ble_eq_true rfl) (Nat.le_of_ble_eq_true rfl)⟩, trivial⟩
theorem kc_391 {fz : Bool} {S : gS} (hS : rl S) : ga (cx0 fz) S 391 .long 16 ∧ True := ⟨⟨Nat.le_of_ble_eq_true rfl, by decide, Nat.lt_of_le_of_lt (Nat.le_of_ble_eq_true rfl) hS.1, hS.2 _ (Nat.le_of_ble_eq_true rfl) (Nat.le_of_ble_eq_true rfl)⟩, trivial⟩
theorem kc_392 {fz : Bool} {S : gS} (hS : rl S) : ga (cx0 fz) S 392 .long 10 ∧ True := ⟨⟨Nat.le_of_ble_eq_true rfl, by decide, Nat.lt_of_le_of_lt (Nat.le_of_ble_eq_true rfl) hS.1, hS.2 _ (Nat.le_of_ble_eq_true rfl) (Nat.le_of_ble_eq_true rfl)⟩, trivial⟩
theorem kc_393 {fz : Bool} {S : gS} (hS : rl S) : ga (cx0 fz) S 393 .int 400 ∧ True := ⟨⟨Nat.le_of_ble_eq_true rfl, by decide, Nat.lt_of_le_of_lt (Nat.le_of_ble_eq_true rfl) hS.1, hS.2 _ (Nat.le_of_ble_eq_true rfl) (Nat.le_of_ble_eq_true rfl)⟩, trivial⟩
theorem kc_394 {fz : Bool} {S : gS} (hS : rl S) : ga (cx0 fz) S 394 .int 480 ∧ True := ⟨⟨Nat.le_of_ble_eq_true rfl, by decide, Nat.lt_of_le_of_lt (Nat.le_of_ble_eq_true rfl) hS.1, hS.2 _ (Nat.le_of_ble_eq_true rfl) (Nat.le_of_ble_eq_true rfl)⟩, trivial⟩
theorem kc_395 {fz : Bool} {S : gS} (hS : rl S) : ga (cx0 fz) S 395 .long 7680 ∧ True := ⟨⟨Nat.le_of_ble_eq_true rfl, by decide, Nat.lt_of_le_of_lt (Nat.le_of_ble_eq_true rfl) hS.1, hS.2 _ (Nat.le_of_ble_eq_true rfl) (Nat.le_of_ble_eq_true rfl)⟩, trivial⟩
theorem kc_396 {fz : Bool} {S : gS} (hS : rl S) : ga (cx0 fz) S 396 .long 4800 ∧ True := ⟨⟨Nat.le_of_ble_eq_true rfl, by decide, Nat.lt_of_le_of_lt (Nat.le_of_ble_eq_true rfl) hS.1, hS.2 _ (Nat.le_of_ble_eq_true rfl) (Nat.le_of_ble_eq_true rfl)⟩, trivial⟩
theorem kc_397 {fz : Bool} {S : gS} (hS : rl S) : ga (cx0 fz) S 397 .int 480 ∧ True := ⟨⟨Nat.le_of_ble_eq_true rfl, by decide, Nat.lt_of_le_of_lt (Nat.le_of_ble_eq_true rfl) hS.1, hS.2 _ (Nat.le_of_ble_eq_true rfl) (Nat.le_of_ble_eq_true rfl)⟩, trivial⟩
theorem kc_398 {fz : Bool} {S : gS} (hS : rl S) : ga (cx0 fz) S 398 .long 64 ∧ True := ⟨⟨Nat.le_of_ble_eq_true rfl, by decide, Nat.lt_of_le_of_lt (Nat.le_of_ble_eq_true rfl) hS.1, hS.2 _ (Nat.le_of_ble_eq_true rfl) (Nat.le_of_ble_eq_true rfl)⟩, trivial⟩
theorem kc_399 {fz : Bool} {S : gS} (hS : rl S) : ga (cx0 fz) S 399 .long 16 ∧ True := ⟨⟨Nat.le_of_ble_eq_true rfl, by decide, Nat.lt_of_le_of_lt (Nat.le_of_ble_eq_true rfl) hS.1, hS.2 _ (Nat.le_of_ble_eq_true rfl) (Nat.le_of_ble_eq_true rfl)⟩, trivial⟩
theorem kc_400 {fz : Bool} {S : gS} (hS : rl S) : ga (cx0 fz) S 400 .int 300 ∧ True := ⟨⟨Nat.le_of_ble_eq_true rfl, by decide, Nat.lt_of_le_of_lt (Nat.le_of_ble_eq_true rfl) hS.1, hS.2 _ (Nat.le_of_ble_eq_true rfl) (Nat.le_of_ble_eq_true rfl)⟩, trivial⟩
theorem kc_401 {fz : Bool} {S : gS} (hS : rl S) : ga (cx0 fz) S 401 .int 300 ∧ True := ⟨⟨Nat.le_of_ble_eq_true rfl, by decide, Nat.lt_of_le_of_lt (Nat.le_of_ble_eq_true rfl) hS.1, hS.2 _ (Nat.le_of_ble_eq_true rfl) (Nat.le_of_ble_eq_true rfl)⟩, trivial⟩
theorem kc_402 {fz : Bool} {S : gS} (hS : rl S) : ga (cx0 fz) S 402 .int 300 ∧ True := ⟨⟨Nat.le_of_ble_eq_true rfl, by decide, Nat.lt_of_le_of_lt (Nat.le_of_ble_eq_true rfl) hS.1, hS.2 _ (Nat.le_of_ble_eq_true rfl) (Nat.le_of_ble_eq_true rfl)⟩, trivial⟩
theorem kc_403 {fz : Bool} {S : gS} (hS : rl S) : ga (cx0 fz) S 403 .int 300 ∧ True := ⟨⟨Nat.le_of_ble_eq_true rfl, by decide, Nat.lt_of_le_of_lt (Nat.le_of_ble_eq_true rfl) hS.1, hS.2 _ (Nat.le_of_ble_eq_true rfl) (Nat.le_of_ble_eq_true rfl)⟩, trivial⟩
theorem kc_404 {fz : Bool} {S : gS} (hS : rl S) : ga (cx0 fz) S 404 .int 300 ∧ True := ⟨⟨Nat.le_of_ble_eq_true rfl, by decide, Nat.lt_of_le_of_lt (Nat.le_of_ble_eq_true rfl) hS.1, hS.2 _ (Nat.le_of_ble_eq_true rfl) (Nat.le_of_ble_eq_true rfl)⟩, trivial⟩
theorem kc_405 {fz : Bool} {S : gS} (hS : rl S) : ga (cx0 fz) S 405 .long 300 ∧ True := ⟨⟨Nat.le_of_ble_eq_true rfl, by decide, Nat.lt_of_le_of_lt (Nat.le_of_ble_eq_true rfl) hS.1, hS.2 _ (Nat.le_of_ble_eq_true rfl) (Nat.le_of_ble_eq_true rfl)⟩, trivial⟩
theorem kc_23 {fz : Bool} {S : gS} (hS : rl S) : pa fz S 23 .int 800 := ⟨⟨Nat.le_of_ble_eq_true rfl, by decide, Nat.lt_of_le_of_lt (Nat.le_of_ble_eq_true rfl) hS.1, hS.2 _ (Nat.le_of_ble_eq_true rfl) (Nat.le_of_ble_eq_true rfl)⟩, Nat.le_of_ble_eq_true rfl⟩
theorem kc_24 {fz : Bool} {S : gS} (hS : rl S) : pa fz S 24 (.object "MemoryTransactions$Program") 12 := ⟨⟨Nat.le_of_ble_eq_true rfl, by decide, Nat.lt_of_le_of_lt (Nat.le_of_ble_eq_true rfl) hS.1, hS.2 _ (Nat.le_of_ble_eq_true rfl) (Nat.le_of_ble_eq_true rfl)⟩, Nat.le_of_ble_eq_true rfl⟩
theorem kc_171 {fz : Bool} {S : gS} (hS : rl S) : pa fz S 171 .int 801 := ⟨⟨Nat.le_of_ble_eq_true rfl, by decide, Nat.lt_of_le_of_lt (Nat.le_of_ble_eq_true rfl) hS.1, hS.2 _ (Nat.le_of_ble_eq_true rfl) (Nat.le_of_ble_eq_true rfl)⟩, Nat.le_of_ble_eq_true rfl⟩
theorem kc_172 {fz : Bool} {S : gS} (hS : rl S) : pa fz S 172 .int 801 := ⟨⟨Nat.le_of_ble_eq_true rfl, by decide, Nat.lt_of_le_of_lt (Nat.le_of_ble_eq_true rfl) hS.1, hS.2 _ (Nat.le_of_ble_eq_true rfl) (Nat.le_of_ble_eq_true rfl)⟩, Nat.le_of_ble_eq_true rfl⟩
theorem kc_173 {fz : Bool} {S : gS} (hS : rl S) : pa fz S 173 .int 801 := ⟨⟨Nat.le_of_ble_eq_true rfl, by decide, Nat.lt_of_le_of_lt (Nat.le_of_ble_eq_true rfl) hS.1, hS.2 _ (Nat.le_of_ble_eq_true rfl) (Nat.le_of_ble_eq_true rfl)⟩, Nat.le_of_ble_eq_true rfl⟩
theorem kc_188 {fz : Bool} {S : gS} (hS : rl S) : pa fz S 188 .long 16 := ⟨⟨Nat.le_of_ble_eq_true rfl, by decide, Nat.lt_of_le_of_lt (Nat.le_of_ble_eq_true rfl) hS.1, hS.2 _ (Nat.le_of_ble_eq_true rfl) (Nat.le_of_ble_eq_true rfl)⟩, Nat.le_of_ble_eq_true rfl⟩
theorem kc_189 {fz : Bool} {S : gS} (hS : rl S) : pa fz S 189 .int 16 := ⟨⟨Nat.le_of_ble_eq_true rfl, by decide, Nat.lt_of_le_of_lt (Nat.le_of_ble_eq_true rfl) hS.1, hS.2 _ (Nat.le_of_ble_eq_true rfl) (Nat.le_of_ble_eq_true rfl)⟩, Nat.le_of_ble_eq_true rfl⟩
theorem kc_190 {fz : Bool} {S : gS} (hS : rl S) : pa fz S 190 (.object "MemoryTransactions$Program") 32 := ⟨⟨Nat.le_of_ble_eq_true rfl, by decide, Nat.lt_of_le_of_lt (Nat.le_of_ble_eq_true rfl) hS.1, hS.2 _ (Nat.le_of_ble_eq_true rfl) (Nat.le_of_ble_eq_true rfl)⟩, Nat.le_of_ble_eq_true rfl⟩
theorem kc_191 {fz : Bool} {S : gS} (hS : rl S) : pa fz S 191 .int 32 := ⟨⟨Nat.le_of_ble_eq_true rfl, by decide, Nat.lt_of_le_of_lt (Nat.le_of_ble_eq_true rfl) hS.1, hS.2 _ (Nat.le_of_ble_eq_true rfl) (Nat.le_of_ble_eq_true rfl)⟩, Nat.le_of_ble_eq_true rfl⟩
theorem kc_192 {fz : Bool} {S : gS} (hS : rl S) : pa fz S 192 .long 16 := ⟨⟨Nat.le_of_ble_eq_true rfl, by decide, Nat.lt_of_le_of_lt (Nat.le_of_ble_eq_true rfl) hS.1, hS.2 _ (Nat.le_of_ble_eq_true rfl) (Nat.le_of_ble_eq_true rfl)⟩, Nat.le_of_ble_eq_true rfl⟩
theorem kc_194 {fz : Bool} {S : gS} (hS : rl S) : pa fz S 194 .long 60 := ⟨⟨Nat.le_of_ble_eq_true rfl, by decide, Nat.lt_of_le_of_lt (Nat.le_of_ble_eq_true rfl) hS.1, hS.2 _ (Nat.le_of_ble_eq_true rfl) (Nat.le_of_ble_eq_true rfl)⟩, Nat.le_of_ble_eq_true rfl⟩
theorem kc_195 {fz : Bool} {S : gS} (hS : rl S) : pa fz S 195 (.object "MemoryTransactions$Client") 8 := ⟨⟨Nat.le_of_ble_eq_true rfl, by decide, Nat.lt_of_le_of_lt (Nat.le_of_ble_eq_true rfl) hS.1, hS.2 _ (Nat.le_of_ble_eq_true rfl) (Nat.le_of_ble_eq_true rfl)⟩, Nat.le_of_ble_eq_true rfl⟩
theorem kc_325 {fz : Bool} {S : gS} (hS : rl S) : pa fz S 325 .int 300 := ⟨⟨Nat.le_of_ble_eq_true rfl, by decide, Nat.lt_of_le_of_lt (Nat.le_of_ble_eq_true rfl) hS.1, hS.2 _ (Nat.le_of_ble_eq_true rfl) (Nat.le_of_ble_eq_true rfl)⟩, Nat.le_of_ble_eq_true rfl⟩
theorem kc_326 {fz : Bool} {S : gS} (hS : rl S) : pa fz S 326 .int 300 := ⟨⟨Nat.le_of_ble_eq_true rfl, by decide, Nat.lt_of_le_of_lt (Nat.le_of_ble_eq_true rfl) hS.1, hS.2 _ (Nat.le_of_ble_eq_true rfl) (Nat.le_of_ble_eq_true rfl)⟩, Nat.le_of_ble_eq_true rfl⟩
theorem kc_327 {fz : Bool} {S : gS} (hS : rl S) : pa fz S 327 .int 300 := ⟨⟨Nat.le_of_ble_eq_true rfl, by decide, Nat.lt_of_le_of_lt (Nat.le_of_ble_eq_true rfl) hS.1, hS.2 _ (Nat.le_of_ble_eq_true rfl) (Nat.le_of_ble_eq_true rfl)⟩, Nat.le_of_ble_eq_true rfl⟩
theorem kc_328 {fz : Bool} {S : gS} (hS : rl S) : pa fz S 328 .int 300 := ⟨⟨Nat.le_of_ble_eq_true rfl, by decide, Nat.lt_of_le_of_lt (Nat.le_of_ble_eq_true rfl) hS.1, hS.2 _ (Nat.le_of_ble_eq_true rfl) (Nat.le_of_ble_eq_true rfl)⟩, Nat.le_of_ble_eq_true rfl⟩
theorem kc_329 {fz : Bool} {S : gS} (hS : rl S) : pa fz S 329 .int 300 := ⟨⟨Nat.le_of_ble_eq_true rfl, by decide, Nat.lt_of_le_of_lt (Nat.le_of_ble_eq_true rfl) hS.1, hS.2 _ (Nat.le_of_ble_eq_true rfl) (Nat.le_of_ble_eq_true rfl)⟩, Nat.le_of_ble_eq_true rfl⟩
theorem kc_330 {fz : Bool} {S : gS} (hS : rl S) : pa fz S 330 .long 300 := ⟨⟨Nat.le_of_ble_eq_true rfl, by decide, Nat.lt_of_le_of_lt (Nat.le_of_ble_eq_true rfl) hS.1, hS.2 _ (Nat.le_of_ble_eq_true rfl) (Nat.le_of_ble_eq_true rfl)⟩, Nat.le_of_ble_eq_true rfl⟩
theorem kc_333 {fz : Bool} {S : gS} (hS : rl S) : pa fz S 333 .long 16 := ⟨⟨Nat.le_of_ble_eq_true rfl, by decide, Nat.lt_of_le_of_lt (Nat.le_of_ble_eq_true rfl) hS.1, hS.2 _ (Nat.le_of_ble_eq_true rfl) (Nat.le_of_ble_eq_true rfl)⟩, Nat.le_of_ble_eq_true rfl⟩
theorem kc_334 {fz : Bool} {S : gS} (hS : rl S) : pa fz S 334 .int 16 := ⟨⟨Nat.le_of_ble_eq_true rfl, by decide, Nat.lt_of_le_of_lt (Nat.le_of_ble_eq_true rfl) hS.1, hS.2 _ (Nat.le_of_ble_eq_true rfl) (Nat.le_of_ble_eq_true rfl)⟩, Nat.le_of_ble_eq_true rfl⟩
theorem kc_335 {fz : Bool} {S : gS} (hS : rl S) : pa fz S 335 (.object "MemoryTransactions$Program") 32 := ⟨⟨Nat.le_of_ble_eq_true rfl, by decide, Nat.lt_of_le_of_lt (Nat.le_of_ble_eq_true rfl) hS.1, hS.2 _ (Nat.le_of_ble_eq_true rfl) (Nat.le_of_ble_eq_true rfl)⟩, Nat.le_of_ble_eq_true rfl⟩
theorem kc_336 {fz : Bool} {S : gS} (hS : rl S) : pa fz S 336 .int 32 := ⟨⟨Nat.le_of_ble_eq_true rfl, by decide, Nat.lt_of_le_of_lt (Nat.le_of_ble_eq_true rfl) hS.1, hS.2 _ (Nat.le_of_ble_eq_true rfl) (Nat.le_of_ble_eq_true rfl)⟩, Nat.le_of_ble_eq_true rfl⟩
theorem kc_337 {fz : Bool} {S : gS} (hS : rl S) : pa fz S 337 .long 16 := ⟨⟨Nat.le_of_ble_eq_true rfl, by decide, Nat.lt_of_le_of_lt (Nat.le_of_ble_eq_true rfl) hS.1, hS.2 _ (Nat.le_of_ble_eq_true rfl) (Nat.le_of_ble_eq_true rfl)⟩, Nat.le_of_ble_eq_true rfl⟩
theorem kc_339 {fz : Bool} {S : gS} (hS : rl S) : pa fz S 339 .long 60 := ⟨⟨Nat.le_of_ble_eq_true rfl, by decide, Nat.lt_of_le_of_lt (Nat.le_of_ble_eq_true rfl) hS.1, hS.2 _ (Nat.le_of_ble_eq_true rfl) (Nat.le_of_ble_eq_true rfl)⟩, Nat.le_of_ble_eq_true rfl⟩
theorem kc_341 {fz : Bool} {S : gS} (hS : rl S) : pa fz S 341 .int 16 := ⟨⟨Nat.le_of_ble_eq_true rfl, by decide, Nat.lt_of_le_of_lt (Nat.le_of_ble_eq_true rfl) hS.1, hS.2 _ (Nat.le_of_ble_eq_true rfl) (Nat.le_of_ble_eq_true rfl)⟩, Nat.le_of_ble_eq_true rfl⟩
theorem kc_343 {fz : Bool} {S : gS} (hS : rl S) : pa fz S 343 .long 16 := ⟨⟨Nat.le_of_ble_eq_true rfl, by decide, Nat.lt_of_le_of_lt (Nat.le_of_ble_eq_true rfl) hS.1, hS.2 _ (Nat.le_of_ble_eq_true rfl) (Nat.le_of_ble_eq_true rfl)⟩, Nat.le_of_ble_eq_true rfl⟩
theorem kc_344 {fz : Bool} {S : gS} (hS : rl S) : pa fz S 344 .long 10 := ⟨⟨Nat.le_of_ble_eq_true rfl, by decide, Nat.lt_of_le_of_lt (Nat.le_of_ble_eq_true rfl) hS.1, hS.2 _ (Nat.le_of_ble_eq_true rfl) (Nat.le_of_ble_eq_true rfl)⟩, Nat.le_of_ble_eq_true rfl⟩
theorem kc_345 {fz : Bool} {S : gS} (hS : rl S) : pa fz S 345 .int 300 := ⟨⟨Nat.le_of_ble_eq_true rfl, by decide, Nat.lt_of_le_of_lt (Nat.le_of_ble_eq_true rfl) hS.1, hS.2 _ (Nat.le_of_ble_eq_true rfl) (Nat.le_of_ble_eq_true rfl)⟩, Nat.le_of_ble_eq_true rfl⟩
theorem kc_346 {fz : Bool} {S : gS} (hS : rl S) : pa fz S 346 .int 8 := ⟨⟨Nat.le_of_ble_eq_true rfl, by decide, Nat.lt_of_le_of_lt (Nat.le_of_ble_eq_true rfl) hS.1, hS.2 _ (Nat.le_of_ble_eq_true rfl) (Nat.le_of_ble_eq_true rfl)⟩, Nat.le_of_ble_eq_true rfl⟩
theorem kc_347 {fz : Bool} {S : gS} (hS : rl S) : pa fz S 347 .long 128 := ⟨⟨Nat.le_of_ble_eq_true rfl, by decide, Nat.lt_of_le_of_lt (Nat.le_of_ble_eq_true rfl) hS.1, hS.2 _ (Nat.le_of_ble_eq_true rfl) (Nat.le_of_ble_eq_true rfl)⟩, Nat.le_of_ble_eq_true rfl⟩
theorem kc_348 {fz : Bool} {S : gS} (hS : rl S) : pa fz S 348 .long 80 := ⟨⟨Nat.le_of_ble_eq_true rfl, by decide, Nat.lt_of_le_of_lt (Nat.le_of_ble_eq_true rfl) hS.1, hS.2 _ (Nat.le_of_ble_eq_true rfl) (Nat.le_of_ble_eq_true rfl)⟩, Nat.le_of_ble_eq_true rfl⟩
theorem kc_349 {fz : Bool} {S : gS} (hS : rl S) : pa fz S 349 .int 8 := ⟨⟨Nat.le_of_ble_eq_true rfl, by decide, Nat.lt_of_le_of_lt (Nat.le_of_ble_eq_true rfl) hS.1, hS.2 _ (Nat.le_of_ble_eq_true rfl) (Nat.le_of_ble_eq_true rfl)⟩, Nat.le_of_ble_eq_true rfl⟩
theorem kc_350 {fz : Bool} {S : gS} (hS : rl S) : pa fz S 350 .long 16 := ⟨⟨Nat.le_of_ble_eq_true rfl, by decide, Nat.lt_of_le_of_lt (Nat.le_of_ble_eq_true rfl) hS.1, hS.2 _ (Nat.le_of_ble_eq_true rfl) (Nat.le_of_ble_eq_true rfl)⟩, Nat.le_of_ble_eq_true rfl⟩
theorem kc_352 {fz : Bool} {S : gS} (hS : rl S) : pa fz S 352 .long 60 := ⟨⟨Nat.le_of_ble_eq_true rfl, by decide, Nat.lt_of_le_of_lt (Nat.le_of_ble_eq_true rfl) hS.1, hS.2 _ (Nat.le_of_ble_eq_true rfl) (Nat.le_of_ble_eq_true rfl)⟩, Nat.le_of_ble_eq_true rfl⟩
