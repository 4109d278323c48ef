def K2r (fz : Bool) : Option (Option Value × rf_H) := rf_ev (cx0 fz) 3000 (2000, 80000) 127 0 [(0, .ref 353)] [] (rf_nw (K1 fz) (.inl 11) 76)
def K2 (fz : Bool) : rf_H := ((K2r fz).getD (none, hPo)).2
def shK : List rf_S := [.inl 0, .inr (.int, 800), .inr ((.object "MemoryTransactions$Program"), 12), .inl 1, .inr (.int, 40), .inr (.int, 40), .inr (.int, 40), .inr (.int, 40), .inr (.int, 40), .inr (.int, 40), .inr (.int, 40), .inr (.int, 40), .inr (.int, 40), .inr (.int, 160), .inr (.int, 160), .inl 1, .inr (.int, 40), .inr (.int, 40), .inr (.int, 40), .inr (.int, 40), .inr (.int, 40), .inr (.int, 40), .inr (.int, 40), .inr (.int, 40), .inr (.int, 40), .inr (.int, 160), .inr (.int, 160), .inl 1, .inr (.int, 40), .inr (.int, 40), .inr (.int, 40), .inr (.int, 40), .inr (.int, 40), .inr (.int, 40), .inr (.int, 40), .inr (.int, 40), .inr (.int, 40), .inr (.int, 160), .inr (.int, 160), .inl 1, .inr (.int, 40), .inr (.int, 40), .inr (.int, 40), .inr (.int, 40), .inr (.int, 40), .inr (.int, 40), .inr (.int, 40), .inr (.int, 40), .inr (.int, 40), .inr (.int, 160), .inr (.int, 160), .inl 1, .inr (.int, 40), .inr (.int, 40), .inr (.int, 40), .inr (.int, 40), .inr (.int, 40), .inr (.int, 40), .inr (.int, 40), .inr (.int, 40), .inr (.int, 40), .inr (.int, 160), .inr (.int, 160), .inl 1, .inr (.int, 40), .inr (.int, 40), .inr (.int, 40), .inr (.int, 40), .inr (.int, 40), .inr (.int, 40), .inr (.int, 40), .inr (.int, 40), .inr (.int, 40), .inr (.int, 160), .inr (.int, 160), .inl 1, .inr (.int, 40), .inr (.int, 40), .inr (.int, 40), .inr (.int, 40), .inr (.int, 40), .inr (.int, 40), .inr (.int, 40), .inr (.int, 40), .inr (.int, 40), .inr (.int, 160), .inr (.int, 160), .inl 1, .inr (.int, 40), .inr (.int, 40), .inr (.int, 40), .inr (.int, 40), .inr (.int, 40), .inr (.int, 40), .inr (.int, 40), .inr (.int, 40), .inr (.int, 40), .inr (.int, 160), .inr (.int, 160), .inl 1, .inr (.int, 40), .inr (.int, 40), .inr (.int, 40), .inr (.int, 40), .inr (.int, 40), .inr (.int, 40), .inr (.int, 40), .inr (.int, 40), .inr (.int, 40), .inr (.int, 160), .inr (.int, 160), .inl 1, .inr (.int, 40), .inr (.int, 40), .inr (.int, 40), .inr (.int, 40), .inr (.int, 40), .inr (.int, 40), .inr (.int, 40), .inr (.int, 40), .inr (.int, 40), .inr (.int, 160), .inr (.int, 160), .inl 1, .inr (.int, 40), .inr (.int, 40), .inr (.int, 40), .inr (.int, 40), .inr (.int, 40), .inr (.int, 40), .inr (.int, 40), .inr (.int, 40), .inr (.int, 40), .inr (.int, 160), .inr (.int, 160), .inl 1, .inr (.int, 40), .inr (.int, 40), .inr (.int, 40), .inr (.int, 40), .inr (.int, 40), .inr (.int, 40), .inr (.int, 40), .inr (.int, 40), .inr (.int, 40), .inr (.int, 160), .inr (.int, 160), .inl 2, .inl 3, .inr (.int, 801), .inr (.int, 801), .inr (.int, 801), .inr (.int, 0), .inl 1, .inr (.int, 40), .inr (.int, 40), .inr (.int, 40), .inr (.int, 40), .inr (.int, 40), .inr (.int, 40), .inr (.int, 40), .inr (.int, 40), .inr (.int, 40), .inr (.int, 160), .inr (.int, 160), .inl 4, .inr (.long, 16), .inr (.int, 16), .inr ((.object "MemoryTransactions$Program"), 32), .inr (.int, 32), .inr (.long, 16), .inl 5, .inr (.long, 60), .inr ((.object "MemoryTransactions$Client"), 8), .inl 6, .inr (.int, 16), .inr (.int, 16), .inl 7, .inr (.int, 16), .inl 8, .inr (.long, 16), .inr (.long, 10), .inr (.int, 300), .inr (.int, 8), .inr (.long, 128), .inr (.long, 80), .inr (.int, 8), .inr (.long, 16), .inl 5, .inr (.long, 60), .inl 6, .inr (.int, 16), .inr (.int, 16), .inl 7, .inr (.int, 16), .inl 8, .inr (.long, 16), .inr (.long, 10), .inr (.int, 300), .inr (.int, 8), .inr (.long, 128), .inr (.long, 80), .inr (.int, 8), .inr (.long, 16), .inl 5, .inr (.long, 60), .inl 6, .inr (.int, 16), .inr (.int, 16), .inl 7, .inr (.int, 16), .inl 8, .inr (.long, 16), .inr (.long, 10), .inr (.int, 300), .inr (.int, 8), .inr (.long, 128), .inr (.long, 80), .inr (.int, 8), .inr (.long, 16), .inl 5, .inr (.long, 60), .inl 6, .inr (.int, 16), .inr (.int, 16), .inl 7, .inr (.int, 16), .inl 8, .inr (.long, 16), .inr (.long, 10), .inr (.int, 300), .inr (.int, 8), .inr (.long, 128), .inr (.long, 80), .inr (.int, 8), .inr (.long, 16), .inl 5, .inr (.long, 60), .inl 6, .inr (.int, 16), .inr (.int, 16), .inl 7, .inr (.int, 16), .inl 8, .inr (.long, 16), .inr (.long, 10), .inr (.int, 300), .inr (.int, 8), .inr (.long, 128), .inr (.long, 80), .inr (.int, 8), .inr (.long, 16), .inl 5, .inr (.long, 60), .inl 6, .inr (.int, 16), .inr (.int, 16), .inl 7, .inr (.int, 16), .inl 8, .inr (.long, 16), .inr (.long, 10), .inr (.int, 300), .inr (.int, 8), .inr (.long, 128), .inr (.long, 80), .inr (.int, 8), .inr (.long, 16), .inl 5, .inr (.long, 60), .inl 6, .inr (.int, 16), .inr (.int, 16), .inl 7, .inr (.int, 16), .inl 8, .inr (.long, 16), .inr (.long, 10), .inr (.int, 300), .inr (.int, 8), .inr (.long, 128), .inr (.long, 80), .inr (.int, 8), .inr (.long, 16), .inl 5, .inr (.long, 60), .inl 6, .inr (.int, 16), .inr (.int, 16), .inl 7, .inr (.int, 16), .inl 8, .inr (.long, 16), .inr (.long, 10), .inr (.int, 300), .inr (.int, 8), .inr (.long, 128), .inr (.long, 80), .inr (.int, 8), .inr (.long, 16), .inl 5, .inr (.long, 60), .inl 9, .inr (.int, 300), .inr (.int, 300), .inr (.int, 300), .inr (.int, 300), .inr (.int, 300), .inr (.long, 300), .inl 10, .inl 4, .inr (.long, 16), .inr (.int, 16), .inr ((.object "MemoryTransactions$Program"), 32), .inr (.int, 32), .inr (.long, 16), .inl 5, .inr (.long, 60), .inl 7, .inr (.int, 16), .inl 8, .inr (.long, 16), .inr (.long, 10), .inr (.int, 300), .inr (.int, 8), .inr (.long, 128), .inr (.long, 80), .inr (.int, 8), .inr (.long, 16), .inl 5, .inr (.long, 60), .inl 11, .inr (.byte, 800), .inr (.int, 12), .inr (.int, 12), .inr (.int, 12), .inr (.int, 12), .inr (.int, 12), .inr (.int, 480), .inr (.int, 480), .inr (.int, 480), .inr (.int, 480), .inr (.int, 480), .inr (.int, 480), .inr (.int, 480), .inr (.int, 480), .inr (.int, 2400), .inr (.int, 2400), .inr (.long, 2400), .inr (.int, 64), .inr (.boolean, 16), .inr (.int, 10), .inr (.int, 10), .inr (.int, 10), .inr (.long, 32), .inr (.int, 32), .inr (.int, 2), .inr (.int, 64), .inr (.int, 128), .inr (.int, 8), .inr (.int, 8), .inr (.int, 8), .inr (.int, 8), .inr (.boolean, 8), .inr (.int, 8), .inr (.long, 128), .inr (.int, 128), .inr (.long, 16), .inr (.int, 16), .inr (.long, 16), .inr (.long, 10), .inr (.int, 400), .inr (.int, 480), .inr (.long, 7680), .inr (.long, 4800), .inr (.int, 480), .inr (.long, 64), .inr (.long, 16), .inr (.int, 300), .inr (.int, 300), .inr (.int, 300), .inr (.int, 300), .inr (.int, 300), .inr (.long, 300)]
def shD : rf_S := .inl 0
def rfK : List (Nat × Nat × Nat) := [(22, 0, 23), (22, 2, 24), (22, 5, 169), (22, 6, 187), (22, 7, 195), (22, 8, 324), (22, 9, 331), (24, 0, 25), (24, 1, 37), (24, 2, 49), (24, 3, 61), (24, 4, 73), (24, 5, 85), (24, 6, 97), (24, 7, 109), (24, 8, 121), (24, 9, 133), (24, 10, 145), (24, 11, 157), (25, 5, 26), (25, 6, 27), (25, 7, 28), (25, 8, 29), (25, 9, 30), (25, 10, 31), (25, 11, 32), (25, 12, 33), (25, 13, 34), (25, 14, 35), (25, 15, 36), (37, 5, 38), (37, 6, 39), (37, 7, 40), (37, 8, 41), (37, 9, 42), (37, 10, 43), (37, 11, 44), (37, 12, 45), (37, 13, 46), (37, 14, 47), (37, 15, 48), (49, 5, 50), (49, 6, 51), (49, 7, 52), (49, 8, 53), (49, 9, 54), (49, 10, 55), (49, 11, 56), (49, 12, 57), (49, 13, 58), (49, 14, 59), (49, 15, 60), (61, 5, 62), (61, 6, 63), (61, 7, 64), (61, 8, 65), (61, 9, 66), (61, 10, 67), (61, 11, 68), (61, 12, 69), (61, 13, 70), (61, 14, 71), (61, 15, 72), (73, 5, 74), (73, 6, 75), (73, 7, 76), (73, 8, 77), (73, 9, 78), (73, 10, 79), (73, 11, 80), (73, 12, 81), (73, 13, 82), (73, 14, 83), (73, 15, 84), (85, 5, 86), (85, 6, 87), (85, 7, 88), (85, 8, 89), (85, 9, 90), (85, 10, 91), (85, 11, 92), (85, 12, 93), (85, 13, 94), (85, 14, 95), (85, 15, 96), (97, 5, 98), (97, 6, 99), (97, 7, 100), (97, 8, 101), (97, 9, 102), (97, 10, 103), (97, 11, 104), (97, 12, 105), (97, 13, 106), (97, 14, 107), (97, 15, 108), (109, 5, 110), (109, 6, 111), (109, 7, 112), (109, 8, 113), (109, 9, 114), (109, 10, 115), (109, 11, 116), (109, 12, 117), (109, 13, 118), (109, 14, 119), (109, 15, 120), (121, 5, 122), (121, 6, 123), (121, 7, 124), (121, 8, 125), (121, 9, 126), (121, 10, 127), (121, 11, 128), (121, 12, 129), (121, 13, 130), (121, 14, 131), (121, 15, 132), (133, 5, 134), (133, 6, 135), (133, 7, 136), (133, 8, 137), (133, 9, 138), (133, 10, 139), (133, 11, 140), (133, 12, 141), (133, 13, 142), (133, 14, 143), (133, 15, 144), (145, 5, 146), (145, 6, 147), (145, 7, 148), (145, 8, 149), (145, 9, 150), (145, 10, 151), (145, 11, 152), (145, 12, 153), (145, 13, 154), (145, 14, 155), (145, 15, 156), (157, 5, 158), (157, 6, 159), (157, 7, 160), (157, 8, 161), (157, 9, 162), (157, 10, 163), (157, 11, 164), (157, 12, 165), (157, 13, 166), (157, 14, 167), (157, 15, 168), (169, 0, 170), (169, 1, 175), (170, 0, 171), (170, 1, 172), (170, 2, 173), (170, 4, 174), (175, 5, 176), (175, 6, 177), (175, 7, 178), (175, 8, 179), (175, 9, 180), (175, 10, 181), (175, 11, 182), (175, 12, 183), (175, 13, 184), (175, 14, 185), (175, 15, 186), (187, 0, 188), (187, 1, 189), (187, 3, 190), (187, 4, 191), (187, 5, 192), (187, 6, 193), (193, 0, 194), (195, 0, 196), (195, 1, 212), (195, 2, 228), (195, 3, 244), (195, 4, 260), (195, 5, 276), (195, 6, 292), (195, 7, 308), (196, 3, 197), (196, 4, 199), (196, 7, 198), (199, 0, 25), (199, 4, 200), (199, 5, 201), (199, 7, 209), (199, 8, 187), (199, 9, 210), (201, 1, 202), (201, 2, 203), (201, 4, 204), (201, 5, 205), (201, 6, 206), (201, 7, 207), (201, 8, 208), (210, 0, 211), (212, 3, 213), (212, 4, 215), (212, 7, 214), (215, 0, 25), (215, 4, 216), (215, 5, 217), (215, 7, 225), (215, 8, 187), (215, 9, 226), (217, 1, 218), (217, 2, 219), (217, 4, 220), (217, 5, 221), (217, 6, 222), (217, 7, 223), (217, 8, 224), (226, 0, 227), (228, 3, 229), (228, 4, 231), (228, 7, 230), (231, 0, 25), (231, 4, 232), (231, 5, 233), (231, 7, 241), (231, 8, 187), (231, 9, 242), (233, 1, 234), (233, 2, 235), (233, 4, 236), (233, 5, 237), (233, 6, 238), (233, 7, 239), (233, 8, 240), (242, 0, 243), (244, 3, 245), (244, 4, 247), (244, 7, 246), (247, 0, 25), (247, 4, 248), (247, 5, 249), (247, 7, 257), (247, 8, 187), (247, 9, 258), (249, 1, 250), (249, 2, 251), (249, 4, 252), (249, 5, 253), (249, 6, 254), (249, 7, 255), (249, 8, 256), (258, 0, 259), (260, 3, 261), (260, 4, 263), (260, 7, 262), (263, 0, 25), (263, 4, 264), (263, 5, 265), (263, 7, 273), (263, 8, 187), (263, 9, 274), (265, 1, 266), (265, 2, 267), (265, 4, 268), (265, 5, 269), (265, 6, 270), (265, 7, 271), (265, 8, 272), (274, 0, 275), (276, 3, 277), (276, 4, 279), (276, 7, 278), (279, 0, 25), (279, 4, 280), (279, 5, 281), (279, 7, 289), (279, 8, 187), (279, 9, 290), (281, 1, 282), (281, 2, 283), (281, 4, 284), (281, 5, 285), (281, 6, 286), (281, 7, 287), (281, 8, 288), (290, 0, 291), (292, 3, 293), (292, 4, 295), (292, 7, 294), (295, 0, 25), (295, 4, 296), (295, 5, 297), (295, 7, 305), (295, 8, 187), (295, 9, 306), (297, 1, 298), (297, 2, 299), (297, 4, 300), (297, 5, 301), (297, 6, 302), (297, 7, 303), (297, 8, 304), (306, 0, 307), (308, 3, 309), (308, 4, 311), (308, 7, 310), (311, 0, 25), (311, 4, 312), (311, 5, 313), (311, 7, 321), (311, 8, 187), (311, 9, 322), (313, 1, 314), (313, 2, 315), (313, 4, 316), (313, 5, 317), (313, 6, 318), (313, 7, 319), (313, 8, 320), (322, 0, 323), (324, 1, 325), (324, 2, 326), (324, 3, 327), (324, 4, 328), (324, 5, 329), (324, 6, 330), (331, 0, 332), (331, 3, 24), (331, 4, 340), (332, 0, 333), (332, 1, 334), (332, 3, 335), (332, 4, 336), (332, 5, 337), (332, 6, 338), (338, 0, 339), (340, 0, 25), (340, 4, 341), (340, 5, 342), (340, 7, 350), (340, 8, 332), (340, 9, 351), (342, 1, 343), (342, 2, 344), (342, 4, 345), (342, 5, 346), (342, 6, 347), (342, 7, 348), (342, 8, 349), (351, 0, 352), (353, 1, 354), (353, 12, 355), (353, 13, 356), (353, 14, 357), (353, 15, 358), (353, 16, 359), (353, 17, 360), (353, 18, 361), (353, 19, 362), (353, 20, 363), (353, 21, 364), (353, 22, 365), (353, 23, 366), (353, 24, 367), (353, 25, 368), (353, 26, 369), (353, 27, 370), (353, 29, 371), (353, 32, 372), (353, 34, 373), (353, 35, 374), (353, 36, 375), (353, 38, 376), (353, 39, 377), (353, 40, 378), (353, 41, 379), (353, 43, 380), (353, 44, 381), (353, 45, 382), (353, 46, 383), (353, 47, 384), (353, 48, 385), (353, 49, 386), (353, 50, 387), (353, 51, 388), (353, 53, 389), (353, 54, 390), (353, 56, 391), (353, 57, 392), (353, 59, 393), (353, 61, 394), (353, 62, 395), (353, 63, 396), (353, 64, 397), (353, 67, 398), (353, 68, 399), (353, 70, 400), (353, 71, 401), (353, 72, 402), (353, 73, 403), (353, 74, 404), (353, 75, 405)]
def xk_wb (h : rf_H) (a b : Nat) (w : List Nat) : Bool := decide (h.2.1 a = .inl 0) && (decide (h.2.1 b = .inr (.byte, w.length)) && (decide (h.1.2.2 a 0 = some b) && (decide (h.1.1 a 1 = 0) && (List.range w.length).all (fun t => decide (h.1.1 b t = Int32.ofNat (w.getD t 0)) && decide (w.getD t 0 < 128)))))
def xk_wl : List (Nat × Nat × List Nat) := [(2, 3, [105, 102]), (4, 5, [101, 108, 115, 101]), (6, 7, [119, 104, 105, 108, 101]), (8, 9, [114, 101, 116, 114, 121]), (10, 11, [116, 104, 114, 111, 119]), (12, 13, [101, 105, 116, 104, 101, 114]), (14, 15, [111, 114]), (16, 17, [116, 114, 121]), (18, 19, [99, 97, 116, 99, 104]), (20, 21, [97, 108, 119, 97, 121, 115])]
def xk_slot (M : rf_M) (a k : Nat) (f : sxF) : Bool := match f with
  | .inl b => decide (b.1 ≤ (M.1 a k).toInt) && decide ((M.1 a k).toInt ≤ b.2)
  | .inr none => true
  | .inr (some r) => (match M.2.2 a k with
    | none => r.2
    | some b => decide (22 ≤ b) && decide (b < 406) && decide (xk_rg b = r.1))
def xk_arr (M : rf_M) (a len : Nat) (e : sxF) : Bool := match e with
  | .inl b => decide (b.1 ≤ 0) && decide (0 ≤ b.2)
  | .inr none => true
  | .inr (some r) => (List.range len).all (fun k => xk_slot M a k (.inr (some r)))
def xk_cell (M : rf_M) (a : Nat) : Bool := match xk_G[xk_rg a]? with
  | some (.inl (_, fs)) => (List.range fs.length).all (fun k => match fs[k]? with
    | some f => xk_slot M a k f
    | none => true)
  | some (.inr (_, len, e)) => xk_arr M a len e
  | none => true
set_option maxHeartbeats 0 in
theorem K_all (fz : Bool) : ((K1r fz).map (fun q => (q.1, q.2.2.2.1, q.2.2.2.2)) = some (none, 353, (K1 fz).2.2.2) ∧ (K1 fz).2.2.1 = 353) ∧ ((K2r fz).map (fun q => (q.1, q.2.2.2.1, q.2.2.2.2)) = some (none, 406, 49191)) ∧ ((List.range 384).all (fun k => decide ((K2 fz).2.1 (k + 22) = shK.getD k shD)) = true) ∧ (rfK.all (fun q => decide ((K2 fz).1.2.2 q.1 q.2.1 = some q.2.2)) = true) ∧ ((List.range 2).all (fun t => decide ((K2 fz).1.1 22 (2 * t + 1) = 0)) = true) ∧ ((List.range 8).all (fun c => ([0, 1, 2, 5] : List Nat).all (fun k => decide ((K2 fz).1.1 (196 + 16 * c) k = 0)) && ([381, 382, 384, 385] : List Nat).all (fun a => decide ((K2 fz).1.1 a c = 0))) = true) ∧ ((List.range 16).all (fun l => (decide ((K2 fz).1.1 189 l = 0) && decide ((K2 fz).1.1 377 l = 0)) && (decide ((K2 fz).1.2.1 188 l = 0) && decide ((K2 fz).1.2.1 376 l = 0))) = true) ∧ (([(187, 2), (324, 0), (331, 1), (332, 2), (378, 0), (353, 69), (353, 11)] : List (Nat × Nat)).all (fun q => decide ((K2 fz).1.1 q.1 q.2 = 0)) = true) ∧ (xk_wl.all (fun q => xk_wb (K2 fz) q.1 q.2.1 q.2.2) = true) ∧ ((List.range 384).all (fun k => xk_cell (K2 fz).1 (k + 22)) = true) := by cases fz <;> decide +kernel
theorem K1_ok (fz : Bool) : (K1r fz).map (fun q => (q.1, q.2.2.2.1, q.2.2.2.2)) = some (none, 353, (K1 fz).2.2.2) ∧ (K1 fz).2.2.1 = 353 := (K_all fz).1
theorem K2_ok (fz : Bool) : (K2r fz).map (fun q => (q.1, q.2.2.2.1, q.2.2.2.2)) = some (none, 406, 49191) := (K_all fz).2.1
theorem K2_sh (fz : Bool) : (List.range 384).all (fun k => decide ((K2 fz).2.1 (k + 22) = shK.getD k shD)) = true := (K_all fz).2.2.1
theorem K2_rf (fz : Bool) : rfK.all (fun q => decide ((K2 fz).1.2.2 q.1 q.2.1 = some q.2.2)) = true := (K_all fz).2.2.2.1
theorem K2_ib (fz : Bool) : (List.range 2).all (fun t => decide ((K2 fz).1.1 22 (2 * t + 1) = 0)) = true := (K_all fz).2.2.2.2.1
theorem zF1 (fz : Bool) : (List.range 8).all (fun c => ([0, 1, 2, 5] : List Nat).all (fun k => decide ((K2 fz).1.1 (196 + 16 * c) k = 0)) && ([381, 382, 384, 385] : List Nat).all (fun a => decide ((K2 fz).1.1 a c = 0))) = true := (K_all fz).2.2.2.2.2.1
theorem zF2 (fz : Bool) : (List.range 16).all (fun l => (decide ((K2 fz).1.1 189 l = 0) && decide ((K2 fz).1.1 377 l = 0)) && (decide ((K2 fz).1.2.1 188 l = 0) && decide ((K2 fz).1.2.1 376 l = 0))) = true := (K_all fz).2.2.2.2.2.2.1
theorem zF3 (fz : Bool) : ([(187, 2), (324, 0), (331, 1), (332, 2), (378, 0), (353, 69), (353, 11)] : List (Nat × Nat)).all (fun q => decide ((K2 fz).1.1 q.1 q.2 = 0)) = true := (K_all fz).2.2.2.2.2.2.2.1
theorem K2_words (fz : Bool) : xk_wl.all (fun q => xk_wb (K2 fz) q.1 q.2.1 q.2.2) = true := (K_all fz).2.2.2.2.2.2.2.2.1
theorem K2_cells (fz : Bool) : (List.range 384).all (fun k => xk_cell (K2 fz).1 (k + 22)) = true := (K_all fz).2.2.2.2.2.2.2.2.2
theorem K1_eq (fz : Bool) : K1r fz = some (none, K1 fz) := by
  have h := (K1_ok fz).1
  unfold K1
  cases hk : K1r fz with
  | none => rw [hk] at h; cases h
  | some q =>
    rw [hk] at h
    have h2 : q.1 = none := (Prod.mk.inj (Option.some.inj h)).1
    obtain ⟨q1, q2⟩ := q
    dsimp only at h2
    subst h2
    rfl
theorem K2_eq (fz : Bool) : K2r fz = some (none, K2 fz) := by
  have h := K2_ok fz
  unfold K2
  cases hk : K2r fz with
  | none => rw [hk] at h; cases h
  | some q =>
    rw [hk] at h
    have h2 : q.1 = none := (Prod.mk.inj (Option.some.inj h)).1
    obtain ⟨q1, q2⟩ := q
    dsimp only at h2
    subst h2
    rfl
/-- the heap behind the two constructors, with the script in it -/
def HK (fz : Bool) (L : Nat) (xs : Nat → Int32) : rf_H := pt_H xs (.inr (.int, L)) (K2 fz)
theorem pt_new {row : Nat → Int32} {sh : rf_S} {h : rf_H} (hn : 1 < h.2.2.1) (s : rf_S) (N : Nat) : pt_H row sh (rf_nw h s N) = rf_nw (pt_H row sh h) s N := (pt_nw hn s N).symm
theorem pt_n (row : Nat → Int32) (sh : rf_S) (h : rf_H) : (pt_H row sh h).2.2.1 = h.2.2.1 := rfl
set_option maxHeartbeats 4000000 in
/-- the law, from its entry up to its loop -/
theorem law_made (fz : Bool) (L : Nat) (xs : Nat → Int32) {Q : Option Value → rf_H → Prop} (k : gx (cx0 fz) (2048, 84000) 0 16 [(2, .ref 353), (1, .ref 22), (0, .ref 1)] [] (HK fz L xs) Q) : gx (cx0 fz) (2048, 84000) 0 0 [(0, .ref 1)] [] (h00 L xs) Q := by
  have hp0 : hPo.2.1 1 = .inl pt_P := va_up_self (h0S 0) 1 (.inl pt_P)
  have hn0 : 1 < hPo.2.2.1 := show 1 < 22 from Nat.le_of_ble_eq_true rfl
  obtain ⟨p1, n1⟩ := pt_sh hn0 hp0 (.inl 0) 10
  obtain ⟨r1, p2, n2⟩ := pt_ev (row := xs) (sh := .inr (.int, L)) (cx0_no fz) _ _ _ _ _ _ _ none (K1 fz) p1 n1 (K1_eq fz)
  obtain ⟨p3, n3⟩ := pt_sh n2 p2 (.inl 11) 76
  obtain ⟨r2, p4, n4⟩ := pt_ev (row := xs) (sh := .inr (.int, L)) (cx0_no fz) _ _ _ _ _ _ _ none (K2 fz) p3 n3 (K2_eq fz)
  rw [pt_new hn0, hPo_pt] at r1
  rw [pt_new n2] at r2
  refine g4 (n := 3) (st' := [.ref 22]) (h' := rf_nw (h00 L xs) (.inl 0) 10) rfl rfl rfl rfl ?_
  refine g0 rfl rfl rfl ?_
  refine gx_call (j := 1) (as := [.ref 22]) (rest := [.ref 22]) rfl rfl ⟨Nat.le_of_ble_eq_true rfl, Nat.le_of_ble_eq_true rfl, Nat.le_of_ble_eq_true rfl⟩ ?_
  refine gx_room (d := (2000, 80000)) ⟨_, _, _, r1, ?_⟩ (Nat.le_of_ble_eq_true rfl) (Nat.le_of_ble_eq_true rfl)
  have hc : (pt_H xs (.inr (.int, L)) (K1 fz)).2.2.1 = 353 := (pt_n xs (.inr (.int, L)) (K1 fz)).trans (K1_ok fz).2
  generalize pt_H xs (.inr (.int, L)) (K1 fz) = hk1 at hc r2 ⊢
  refine g2 (n := 1) rfl rfl rfl rfl ?_
  refine g4 (n := 3) (st' := [.ref 353]) (h' := rf_nw hk1 (.inl 11) 76) rfl rfl rfl ?_ ?_
  · show some ([Value.ref hk1.2.2.1], rf_nw hk1 (.inl 11) 76) = _
    rw [hc]
  refine g0 rfl rfl rfl ?_
  refine gx_call (j := 127) (as := [.ref 353]) (rest := [.ref 353]) rfl rfl ⟨Nat.le_of_ble_eq_true rfl, Nat.le_of_ble_eq_true rfl, Nat.le_of_ble_eq_true rfl⟩ ?_
  refine gx_room (d := (2000, 80000)) ⟨_, _, _, r2, ?_⟩ (Nat.le_of_ble_eq_true rfl) (Nat.le_of_ble_eq_true rfl)
  refine g2 (n := 1) rfl rfl rfl rfl ?_
  exact k
theorem zk_1 (fz : Bool) : zr_P (K1 fz) := by
  have h1 : (1 : Nat) ∈ zk_Ms := by decide
  have h := K1_eq fz
  unfold K1r at h
  generalize K1 fz = k at h ⊢
  exact zr_ev (zk_cx fz) _ _ _ _ _ _ _ (none, k) h1 zk_0 h
theorem zk_2 (fz : Bool) : zr_P (K2 fz) := by
  have h1 : (127 : Nat) ∈ zk_Ms := by decide
  have h := K2_eq fz
  unfold K2r at h
  have hz := zr_nw (zk_1 fz) (.inl 11) 76
  generalize K2 fz = k at h ⊢
  generalize K1 fz = k1 at h hz
  exact zr_ev (zk_cx fz) _ _ _ _ _ _ _ (none, k) h1 hz h
