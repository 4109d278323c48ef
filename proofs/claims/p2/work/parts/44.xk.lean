def xk_G_0 : List sxR := [.inl (0, [(.inr (some (1, false))), (.inl (0, 800)), (.inr (some (2, false))), (.inl (0, 12)), (.inl ((-1), 800)), (.inr (some (16, false))), (.inr (some (22, false))), (.inr (some (3, false))), (.inr (some (44, false))), (.inr (some (51, false)))]),
  .inr (.int, 800, (.inl (0, 255))),
  .inr ((.object "MemoryTransactions$Program"), 12, (.inr (some (4, false)))),
  .inr ((.object "MemoryTransactions$Client"), 8, (.inr (some (30, false)))),
  .inl (1, [(.inl (0, 40)), (.inl (0, 60)), (.inl (0, 8)), (.inl (0, 160)), (.inl ((-1), 39)), (.inr (some (5, false))), (.inr (some (6, false))), (.inr (some (7, false))), (.inr (some (8, false))), (.inr (some (9, false))), (.inr (some (10, false))), (.inr (some (11, false))), (.inr (some (12, false))), (.inr (some (13, false))), (.inr (some (14, false))), (.inr (some (15, false)))]),
  .inr (.int, 40, (.inl (0, 19))),
  .inr (.int, 40, (.inl (0, 999999999))),
  .inr (.int, 40, (.inl (0, 160))),
  .inr (.int, 40, (.inl ((-1), 39))),
  .inr (.int, 40, (.inl (0, 1))),
  .inr (.int, 40, (.inl (0, 8))),
  .inr (.int, 40, (.inl ((-1), 39))),
  .inr (.int, 40, (.inl ((-1), 39))),
  .inr (.int, 40, (.inl ((-1), 39))),
  .inr (.int, 160, (.inl (0, 125))),
  .inr (.int, 160, (.inl (0, 999999999))),
  .inl (2, [(.inr (some (17, false))), (.inr (some (4, false))), (.inl (0, 800)), (.inl ((-1), 800)), (.inl (0, 1))]),
  .inl (3, [(.inr (some (18, false))), (.inr (some (19, false))), (.inr (some (20, false))), (.inl (0, 800)), (.inr none), (.inl (0, 800)), (.inl (0, 800))]),
  .inr (.int, 801, (.inl (0, 125))),
  .inr (.int, 801, (.inl (0, 800)))]
def xk_G_1 : List sxR := [.inr (.int, 801, (.inl (0, 999999999))),
  .inr (.int, 0, (.inl (0, 0))),
  .inl (4, [(.inr (some (23, false))), (.inr (some (24, false))), (.inl (0, 32)), (.inr (some (25, false))), (.inr (some (26, false))), (.inr (some (27, false))), (.inr (some (28, false))), (.inr none)]),
  .inr (.long, 16, (.inr none)),
  .inr (.int, 16, (.inl ((-2147483648), 2147483647))),
  .inr ((.object "MemoryTransactions$Program"), 32, (.inr (some (4, true)))),
  .inr (.int, 32, (.inl (0, 39))),
  .inr (.long, 16, (.inr none)),
  .inl (5, [(.inr (some (29, false))), (.inl (0, 60))]),
  .inr (.long, 60, (.inr none)),
  .inl (6, [(.inl (0, 3)), (.inl ((-2147483648), 2147483647)), (.inl (0, 1)), (.inr (some (31, false))), (.inr (some (33, false))), (.inl (0, 16)), (.inl ((-2147483648), 2147483647)), (.inr (some (32, false)))]),
  .inr (.int, 16, (.inl (0, 11))),
  .inr (.int, 16, (.inl ((-2147483648), 2147483647))),
  .inl (7, [(.inr (some (4, false))), (.inl (0, 300)), (.inl ((-2147483648), 2147483647)), (.inr none), (.inr (some (34, false))), (.inr (some (36, false))), (.inl ((-1), 39)), (.inr (some (35, false))), (.inr (some (22, false))), (.inr (some (28, false))), (.inr none)]),
  .inr (.int, 16, (.inl ((-2147483648), 2147483647))),
  .inr (.long, 16, (.inr none)),
  .inl (8, [(.inl ((-2147483648), 2147483647)), (.inr (some (37, false))), (.inr (some (38, false))), (.inl (0, 300)), (.inr (some (39, false))), (.inr (some (40, false))), (.inr (some (41, false))), (.inr (some (42, false))), (.inr (some (43, false)))]),
  .inr (.long, 16, (.inr none)),
  .inr (.long, 10, (.inr none)),
  .inr (.int, 300, (.inl (0, 39)))]
def xk_G_2 : List sxR := [.inr (.int, 8, (.inl ((-2147483648), 2147483647))),
  .inr (.long, 128, (.inr none)),
  .inr (.long, 80, (.inr none)),
  .inr (.int, 8, (.inl (0, 300))),
  .inl (9, [(.inl (0, 300)), (.inr (some (45, false))), (.inr (some (46, false))), (.inr (some (47, false))), (.inr (some (48, false))), (.inr (some (49, false))), (.inr (some (50, false)))]),
  .inr (.int, 300, (.inl (0, 2))),
  .inr (.int, 300, (.inl ((-1), 7))),
  .inr (.int, 300, (.inl (0, 15))),
  .inr (.int, 300, (.inl (0, 301))),
  .inr (.int, 300, (.inl ((-2147483648), 2147483647))),
  .inr (.long, 300, (.inr none)),
  .inl (10, [(.inr (some (22, false))), (.inl (0, 300)), (.inl (0, 1)), (.inr (some (2, false))), (.inr (some (33, false)))]),
  .inl (11, [(.inl (0, 0)), (.inr (some (53, false))), (.inl (0, 0)), (.inl (0, 0)), (.inl (0, 0)), (.inl (0, 0)), (.inl (0, 0)), (.inr none), (.inl (0, 0)), (.inl (0, 0)), (.inl ((-1), (-1))), (.inl (0, 0)), (.inr (some (54, false))), (.inr (some (55, false))), (.inr (some (56, false))), (.inr (some (57, false))), (.inr (some (58, false))), (.inr (some (59, false))), (.inr (some (60, false))), (.inr (some (61, false))), (.inr (some (62, false))), (.inr (some (63, false))), (.inr (some (64, false))), (.inr (some (65, false))), (.inr (some (66, false))), (.inr (some (67, false))), (.inr (some (68, false))), (.inr (some (69, false))), (.inl (0, 0)), (.inr (some (70, false))), (.inl (0, 0)), (.inl (0, 0)), (.inr (some (71, false))), (.inl (0, 0)), (.inr (some (72, false))), (.inr (some (73, false))), (.inr (some (74, false))), (.inl (0, 0)), (.inr (some (75, false))), (.inr (some (76, false))), (.inr (some (77, false))), (.inr (some (78, false))), (.inl (0, 0)), (.inr (some (79, false))), (.inr (some (80, false))), (.inr (some (81, false))), (.inr (some (82, false))), (.inr (some (83, false))), (.inr (some (84, false))), (.inr (some (85, false))), (.inr (some (86, false))), (.inr (some (87, false))), (.inl (0, 0)), (.inr (some (88, false))), (.inr (some (89, false))), (.inl (0, 0)), (.inr (some (90, false))), (.inr (some (91, false))), (.inl (0, 0)), (.inr (some (92, false))), (.inl (0, 0)), (.inr (some (93, false))), (.inr (some (94, false))), (.inr (some (95, false))), (.inr (some (96, false))), (.inl (0, 0)), (.inr none), (.inr (some (97, false))), (.inr (some (98, false))), (.inl (0, 0)), (.inr (some (99, false))), (.inr (some (100, false))), (.inr (some (101, false))), (.inr (some (102, false))), (.inr (some (103, false))), (.inr (some (104, false)))]),
  .inr (.byte, 800, (.inl (0, 0))),
  .inr (.int, 12, (.inl (0, 0))),
  .inr (.int, 12, (.inl (0, 0))),
  .inr (.int, 12, (.inl (0, 0))),
  .inr (.int, 12, (.inl (0, 0))),
  .inr (.int, 12, (.inl (0, 0))),
  .inr (.int, 480, (.inl (0, 0)))]
def xk_G_3 : List sxR := [.inr (.int, 480, (.inl (0, 0))),
  .inr (.int, 480, (.inl (0, 0))),
  .inr (.int, 480, (.inl (0, 0))),
  .inr (.int, 480, (.inl (0, 0))),
  .inr (.int, 480, (.inl (0, 0))),
  .inr (.int, 480, (.inl (0, 0))),
  .inr (.int, 480, (.inl (0, 0))),
  .inr (.int, 2400, (.inl (0, 0))),
  .inr (.int, 2400, (.inl (0, 0))),
  .inr (.long, 2400, (.inr none)),
  .inr (.int, 64, (.inl (0, 0))),
  .inr (.boolean, 16, (.inl (0, 0))),
  .inr (.int, 10, (.inl (0, 0))),
  .inr (.int, 10, (.inl (0, 0))),
  .inr (.int, 10, (.inl (0, 0))),
  .inr (.long, 32, (.inr none)),
  .inr (.int, 32, (.inl (0, 0))),
  .inr (.int, 2, (.inl (0, 0))),
  .inr (.int, 64, (.inl (0, 0))),
  .inr (.int, 128, (.inl (0, 0)))]
def xk_G_4 : List sxR := [.inr (.int, 8, (.inl (0, 0))),
  .inr (.int, 8, (.inl (0, 0))),
  .inr (.int, 8, (.inl (0, 0))),
  .inr (.int, 8, (.inl (0, 0))),
  .inr (.boolean, 8, (.inl (0, 0))),
  .inr (.int, 8, (.inl (0, 0))),
  .inr (.long, 128, (.inr none)),
  .inr (.int, 128, (.inl (0, 0))),
  .inr (.long, 16, (.inr none)),
  .inr (.int, 16, (.inl (0, 0))),
  .inr (.long, 16, (.inr none)),
  .inr (.long, 10, (.inr none)),
  .inr (.int, 400, (.inl (0, 0))),
  .inr (.int, 480, (.inl (0, 0))),
  .inr (.long, 7680, (.inr none)),
  .inr (.long, 4800, (.inr none)),
  .inr (.int, 480, (.inl (0, 0))),
  .inr (.long, 64, (.inr none)),
  .inr (.long, 16, (.inr none)),
  .inr (.int, 300, (.inl (0, 0)))]
def xk_G_5 : List sxR := [.inr (.int, 300, (.inl (0, 0))),
  .inr (.int, 300, (.inl (0, 0))),
  .inr (.int, 300, (.inl (0, 0))),
  .inr (.int, 300, (.inl (0, 0))),
  .inr (.long, 300, (.inr none))]
def xk_G : List sxR := xk_G_0 ++ xk_G_1 ++ xk_G_2 ++ xk_G_3 ++ xk_G_4 ++ xk_G_5
/-- method 19 -/
def xk_c_0 : sxC := (19, [(.inr (some (17, false))), (.inr (some (1, false))), (.inl (0, 800))], none, [(17, 4), (17, 5), (17, 6), (17, 7), (18, 0), (19, 0), (20, 0)], 1, 0, 0, 0, [])
/-- method 13 -/
def xk_c_1 : sxC := (13, [(.inr (some (0, false))), (.inl ((-2147483648), 2147483647)), (.inl ((-2147483648), 2147483647)), (.inl ((-2147483648), 2147483647)), (.inl ((-2147483648), 2147483647)), (.inl ((-2147483648), 2147483647))], some (.inl ((-1), 800)), [(0, 2), (1, 0)], 2, 0, 0, 0, [])
/-- method 15 -/
def xk_c_2 : sxC := (15, [(.inr (some (0, false))), (.inl ((-2147483648), 2147483647))], some (.inl ((-1), 800)), [(0, 2)], 1, 0, 0, 0, [])
/-- method 16 -/
def xk_c_3 : sxC := (16, [(.inr (some (0, false)))], some (.inl ((-2), 11)), [(0, 2), (0, 4), (0, 5), (4, 1), (4, 2), (4, 3), (4, 4), (4, 5), (5, 0), (6, 0), (7, 0), (8, 0), (9, 0), (10, 0), (11, 0), (12, 0), (13, 0), (14, 0), (15, 0), (16, 2), (16, 3), (16, 4), (16, 5), (17, 4), (17, 5), (17, 6), (17, 7), (18, 0), (19, 0), (20, 0)], 77, 0, 0, 0, [])
/-- method 56 -/
def xk_c_4 : sxC := (56, [(.inr (some (0, false)))], some (.inl ((-1), 800)), [], 1, 0, 0, 0, [])
/-- method 57 -/
def xk_c_5 : sxC := (57, [(.inr (some (0, false))), (.inl ((-2147483648), 2147483647)), (.inl ((-2147483648), 2147483647))], some (.inl ((-1), 60)), [], 2, 0, 0, 0, [])
/-- method 59 -/
def xk_c_6 : sxC := (59, [(.inr (some (0, false))), (.inl ((-2147483648), 2147483647)), (.inr none)], some (.inl ((-2147483648), 2147483647)), [(22, 8), (23, 0), (24, 0), (27, 0), (28, 2), (29, 0), (44, 1), (45, 0), (46, 0), (47, 0), (48, 0), (49, 0), (50, 0)], 6, 0, 0, 0, [])
/-- method 79 -/
def xk_c_7 : sxC := (79, [(.inr (some (0, false))), (.inl ((-2147483648), 2147483647))], some (.inr none), [], 2, 0, 0, 0, [])
/-- method 80 -/
def xk_c_8 : sxC := (80, [(.inr (some (0, false))), (.inl ((-2147483648), 2147483647))], some (.inl ((-2147483648), 2147483647)), [], 2, 0, 0, 0, [])
/-- method 81 -/
def xk_c_9 : sxC := (81, [(.inr (some (0, false))), (.inl ((-2147483648), 2147483647)), (.inl ((-2147483648), 2147483647))], some (.inl ((-1), 16)), [(30, 1), (30, 6), (31, 0)], 2, 0, 0, 0, [])
/-- method 84 -/
def xk_c_10 : sxC := (84, [(.inr (some (0, false))), (.inl ((-2147483648), 2147483647))], some (.inl ((-1), 6)), [(22, 3), (22, 8), (23, 0), (24, 0), (25, 0), (26, 0), (27, 0), (28, 2), (29, 0), (30, 1), (30, 2), (30, 3), (30, 6), (30, 7), (31, 0), (32, 0), (33, 1), (33, 2), (33, 3), (33, 4), (33, 7), (33, 11), (34, 0), (35, 0), (36, 1), (36, 4), (37, 0), (38, 0), (39, 0), (40, 0), (41, 0), (42, 0), (43, 0), (44, 1), (45, 0), (46, 0), (47, 0), (48, 0), (49, 0), (50, 0)], 8, 0, 0, 0, [])
/-- method 108 -/
def xk_c_11 : sxC := (108, [(.inr (some (0, false))), (.inr none), (.inl ((-2147483648), 2147483647))], some (.inl ((-2147483648), 2147483647)), [(22, 3), (22, 8), (23, 0), (24, 0), (25, 0), (26, 0), (27, 0), (28, 2), (29, 0), (30, 1), (30, 2), (30, 3), (30, 6), (30, 7), (31, 0), (32, 0), (33, 1), (33, 2), (33, 3), (33, 4), (33, 7), (33, 11), (34, 0), (35, 0), (36, 1), (36, 4), (37, 0), (38, 0), (39, 0), (40, 0), (41, 0), (42, 0), (43, 0), (44, 1), (45, 0), (46, 0), (47, 0), (48, 0), (49, 0), (50, 0)], 8, 0, 0, 0, [(22, [some (.inl 0), some (.inl 1), none, some (.inl 2), some (.inr (.inr none)), none, some (.inr (.inl ((-2147483648), 2147483647))), some (.inr (.inl (0, 2147483647)))], .inl 1, .inr (.inl (7, 2147483647)), .inl 0)])
/-- method 109 -/
def xk_c_12 : sxC := (109, [(.inr (some (0, false))), (.inl ((-2147483648), 2147483647)), (.inl ((-2147483648), 2147483647))], some (.inl ((-2147483648), 2147483647)), [], 2, 0, 0, 0, [])
/-- method 111 -/
def xk_c_13 : sxC := (111, [(.inr (some (0, false))), (.inl ((-2147483648), 2147483647)), (.inl ((-2147483648), 2147483647))], some (.inr none), [], 3, 0, 0, 0, [])
/-- method 112 -/
def xk_c_14 : sxC := (112, [(.inr (some (0, false)))], some (.inl (0, 32)), [], 1, 0, 0, 0, [])
/-- method 113 -/
def xk_c_15 : sxC := (113, [(.inr (some (0, false)))], some (.inl (0, 300)), [], 1, 0, 0, 0, [])
/-- method 114 -/
def xk_c_16 : sxC := (114, [(.inr (some (0, false))), (.inl ((-2147483648), 2147483647)), (.inl ((-2147483648), 2147483647))], some (.inl ((-2147483648), 2147483647)), [], 3, 0, 0, 0, [])
/-- method 117 -/
def xk_c_17 : sxC := (117, [(.inr (some (0, false))), (.inl ((-2147483648), 2147483647))], some (.inr none), [], 2, 0, 0, 0, [])
/-- method 118 -/
def xk_c_18 : sxC := (118, [(.inr (some (0, false)))], some (.inl (0, 1)), [(22, 3), (22, 8), (23, 0), (24, 0), (25, 0), (26, 0), (27, 0), (28, 2), (29, 0), (33, 1), (33, 2), (33, 3), (33, 4), (33, 7), (33, 11), (34, 0), (35, 0), (36, 1), (36, 4), (37, 0), (38, 0), (39, 0), (40, 0), (41, 0), (42, 0), (43, 0), (51, 2), (51, 3)], 8, 0, 0, 0, [(8, [some (.inl 0), some (.inr (.inl (0, 300)))], .inl 1, .inr (.inl (1, 300)), .inl 0)])
/-- method 122 -/
def xk_c_19 : sxC := (122, [(.inr (some (0, false)))], some (.inl (0, 300)), [(0, 5), (22, 3), (23, 0), (24, 0), (30, 1), (30, 2), (30, 3), (30, 6), (44, 1), (51, 2), (51, 3)], 4, 0, 0, 0, [(32, [some (.inl 0), some (.inr (.inl (0, 300))), some (.inr (.inl (0, 8)))], .inl 1, .inr (.inl (2, 8)), .inl 0)])
/-- method 14 -/
def xk_c_20 : sxC := (14, [(.inr (some (0, false))), (.inl ((-2147483648), 2147483647))], none, [(0, 2), (1, 0)], 1, 0, 0, 0, [(3, [some (.inl 0), some (.inl 1), some (.inr (.inl ((-2147483648), 24)))], .inl 1, .inr (.inr (2, (-2147483648))), .inl 0)])
/-- method 17 -/
def xk_c_21 : sxC := (17, [(.inr (some (16, false))), (.inr (some (1, false))), (.inl (0, 800)), (.inr (some (4, false)))], some (.inl ((-1), 800)), [(4, 1), (4, 2), (4, 3), (4, 4), (4, 5), (5, 0), (6, 0), (7, 0), (8, 0), (9, 0), (10, 0), (11, 0), (12, 0), (13, 0), (14, 0), (15, 0), (16, 2), (16, 3), (16, 4), (16, 5), (17, 4), (17, 5), (17, 6), (17, 7), (18, 0), (19, 0), (20, 0)], 76, 0, 0, 0, [])
/-- method 61 -/
def xk_c_22 : sxC := (61, [(.inr (some (22, false))), (.inl (0, 15)), (.inr none)], some (.inl (0, 1)), [(22, 8), (27, 0), (28, 2), (29, 0)], 5, 0, 0, 0, [])
/-- method 85 -/
def xk_c_23 : sxC := (85, [(.inr (some (0, false))), (.inl (0, 7))], some (.inl ((-1), 6)), [(22, 3), (22, 8), (23, 0), (24, 0), (25, 0), (26, 0), (27, 0), (28, 2), (29, 0), (30, 1), (30, 2), (30, 3), (30, 6), (30, 7), (31, 0), (32, 0), (33, 1), (33, 2), (33, 3), (33, 4), (33, 7), (33, 11), (34, 0), (35, 0), (36, 1), (36, 4), (37, 0), (38, 0), (39, 0), (40, 0), (41, 0), (42, 0), (43, 0), (44, 1), (45, 0), (46, 0), (47, 0), (48, 0), (49, 0), (50, 0)], 7, 0, 0, 0, [])
/-- method 110 -/
def xk_c_24 : sxC := (110, [(.inr (some (30, false))), (.inl ((-2147483648), 2147483647))], some (.inl ((-2147483648), 2147483647)), [], 1, 0, 0, 0, [])
/-- method 121 -/
def xk_c_25 : sxC := (121, [(.inr (some (22, false))), (.inr (some (22, false)))], some (.inl (0, 1)), [], 1, 0, 0, 0, [(15, [some (.inl 0), some (.inl 1), some (.inr (.inl (0, 16)))], .inl 2, .inr (.inl (2, 16)), .inl 0),
  (62, [some (.inl 0), some (.inl 1), some (.inr (.inl (0, 32)))], .inl 1, .inr (.inl (2, 32)), .inl 0)])
/-- method 123 -/
def xk_c_26 : sxC := (123, [(.inr (some (22, false)))], none, [(22, 3), (23, 0), (24, 0)], 2, 0, 0, 0, [])
/-- method 35 -/
def xk_c_27 : sxC := (35, [(.inr (some (16, false))), (.inl ((-1), 39)), (.inl (0, 1)), (.inl (0, 8))], some (.inl ((-1), 39)), [(4, 1), (4, 2), (4, 3), (4, 4), (5, 0), (6, 0), (7, 0), (8, 0), (9, 0), (10, 0), (11, 0), (12, 0), (13, 0), (14, 0), (15, 0), (16, 3), (16, 4), (16, 5)], 43, 4, 3, 8, [(9, [some (.inl 0), some (.inl 1), some (.inl 2), some (.inl 3), some (.inr (.inl ((-1), 39))), some (.inr (.inl ((-1), 39))), some (.inr (.inl (0, 41))), none], .inl 1, .inr (.inl (6, 41)), .inl 0)])
/-- method 62 -/
def xk_c_28 : sxC := (62, [(.inr (some (22, false)))], some (.inl (0, 1)), [(22, 8), (28, 2), (29, 0)], 4, 0, 0, 0, [(2, [some (.inl 0), some (.inr (.inl (0, 32)))], .inl 1, .inr (.inl (1, 32)), .inl 0)])
/-- method 89 -/
def xk_c_29 : sxC := (89, [(.inr (some (23, false))), (.inr none)], none, [(23, 0)], 1, 0, 0, 0, [(6, [some (.inl 0), some (.inl 1), none, some (.inr (.inl (0, 16))), some (.inr (.inl (16, 16)))], .inl 1, .inr (.inl (3, 16)), .inl 0)])
/-- method 38 -/
def xk_c_30 : sxC := (38, [(.inr (some (16, false))), (.inl ((-1), 39)), (.inl (0, 1)), (.inl (0, 8))], some (.inl ((-1), 39)), [(4, 1), (4, 2), (4, 3), (4, 4), (5, 0), (6, 0), (7, 0), (8, 0), (9, 0), (10, 0), (11, 0), (12, 0), (13, 0), (14, 0), (15, 0), (16, 3), (16, 4), (16, 5)], 42, 4, 3, 8, [])
/-- method 45 -/
def xk_c_31 : sxC := (45, [(.inr (some (16, false))), (.inl (0, 125))], none, [(16, 3), (16, 4)], 2, 0, 0, 0, [])
/-- method 41 -/
def xk_c_32 : sxC := (41, [(.inr (some (4, false))), (.inl (1, 19)), (.inl ((-1), 39)), (.inl (0, 1)), (.inl (0, 8))], some (.inl ((-1), 39)), [(4, 1), (5, 0), (6, 0), (7, 0), (8, 0), (9, 0), (10, 0), (11, 0), (12, 0), (13, 0)], 1, 0, 0, 0, [])
/-- method 78 -/
def xk_c_33 : sxC := (78, [(.inr (some (44, false))), (.inl (0, 2)), (.inl ((-1), 7)), (.inl (0, 15)), (.inl (0, 301)), (.inl ((-2147483648), 2147483647)), (.inr none)], none, [(44, 1), (45, 0), (46, 0), (47, 0), (48, 0), (49, 0), (50, 0)], 2, 0, 0, 0, [])
/-- method 53 -/
def xk_c_34 : sxC := (53, [(.inr (some (16, false))), (.inl (1, 19)), (.inl (0, 39)), (.inl (0, 8))], none, [(4, 1), (4, 2), (4, 3), (4, 4), (5, 0), (6, 0), (7, 0), (8, 0), (9, 0), (10, 0), (11, 0), (12, 0), (13, 0), (14, 0), (15, 0), (16, 3), (16, 4), (16, 5)], 41, 4, 3, 8, [])
/-- method 46 -/
def xk_c_35 : sxC := (46, [(.inr (some (16, false)))], none, [(4, 2), (4, 4), (14, 0), (15, 0), (16, 3), (16, 4)], 39, 0, 0, 0, [])
/-- method 119 -/
def xk_c_36 : sxC := (119, [(.inr (some (51, false))), (.inr (some (44, false))), (.inl (0, 299))], none, [(22, 3), (22, 8), (23, 0), (24, 0), (25, 0), (26, 0), (27, 0), (28, 2), (29, 0), (33, 1), (33, 2), (33, 3), (33, 4), (33, 7), (33, 11), (34, 0), (35, 0), (36, 1), (36, 4), (37, 0), (38, 0), (39, 0), (40, 0), (41, 0), (42, 0), (43, 0), (51, 2), (51, 3)], 7, 0, 0, 0, [(118, [some (.inl 0), some (.inl 1), some (.inl 2), some (.inr (.inl (0, 11))), some (.inr (.inl (0, 4))), some (.inr (.inl (0, 301)))], .inl 1, .inr (.inl (5, 301)), .inl 0)])
/-- method 87 -/
def xk_c_37 : sxC := (87, [(.inr (some (33, false))), (.inr (some (4, false)))], none, [(33, 1), (33, 2), (33, 3), (33, 4), (33, 7), (36, 1), (36, 4), (38, 0)], 3, 0, 0, 0, [])
/-- method 47 -/
def xk_c_38 : sxC := (47, [(.inr (some (16, false))), (.inl (0, 8))], none, [(4, 2), (4, 4), (14, 0), (15, 0), (16, 3), (16, 4)], 6, 4, 1, 8, [])
/-- method 54 -/
def xk_c_39 : sxC := (54, [(.inr (some (16, false))), (.inl (0, 39)), (.inl (0, 1)), (.inl (0, 8))], some (.inl ((-1), 39)), [(4, 1), (4, 2), (4, 3), (4, 4), (5, 0), (6, 0), (7, 0), (8, 0), (9, 0), (10, 0), (11, 0), (12, 0), (13, 0), (14, 0), (15, 0), (16, 3), (16, 4), (16, 5)], 40, 4, 3, 8, [])
/-- method 88 -/
def xk_c_40 : sxC := (88, [(.inr (some (36, false)))], none, [(36, 1), (36, 4), (38, 0)], 2, 0, 0, 0, [])
/-- method 48 -/
def xk_c_41 : sxC := (48, [(.inr (some (16, false))), (.inl (0, 8))], none, [(4, 2), (4, 4), (14, 0), (15, 0), (16, 3), (16, 4)], 5, 4, 1, 8, [(7, [some (.inl 0), some (.inl 1), some (.inr (.inl (0, 60))), none], .inl 1, .inr (.inl (2, 60)), .inl 0)])
/-- method 55 -/
def xk_c_42 : sxC := (55, [(.inr (some (16, false)))], some (.inl (16, 999999999)), [(16, 3), (16, 4)], 2, 0, 0, 0, [])
/-- method 89 -/
def xk_c_43 : sxC := (89, [(.inr (some (38, false))), (.inr none)], none, [(38, 0)], 1, 0, 0, 0, [(6, [some (.inl 0), some (.inl 1), none, some (.inr (.inl (0, 10))), some (.inr (.inl (10, 10)))], .inl 1, .inr (.inl (3, 10)), .inl 0)])
/-- method 49 -/
def xk_c_44 : sxC := (49, [(.inr (some (16, false))), (.inl (0, 8))], none, [(4, 2), (4, 4), (14, 0), (15, 0), (16, 3), (16, 4)], 4, 4, 1, 8, [(7, [some (.inl 0), some (.inl 1), some (.inr (.inl (0, 60))), none], .inl 1, .inr (.inl (2, 60)), .inl 0)])
/-- method 50 -/
def xk_c_45 : sxC := (50, [(.inr (some (16, false))), (.inl (0, 8))], none, [(4, 2), (4, 4), (14, 0), (15, 0), (16, 3), (16, 4)], 3, 4, 1, 8, [])
/-- method 124 -/
def xk_c_46 : sxC := (124, [(.inr (some (24, false))), (.inl (0, 0))], none, [(24, 0)], 1, 0, 0, 0, [(5, [some (.inl 0), some (.inl 1), some (.inr (.inl (0, 16))), some (.inr (.inl (16, 16)))], .inl 1, .inr (.inl (2, 16)), .inl 0)])
/-- method 90 -/
def xk_c_47 : sxC := (90, [(.inr (some (33, false)))], some (.inl (0, 4)), [(28, 2), (29, 0), (33, 2), (33, 3), (33, 4), (33, 7), (33, 11), (34, 0), (35, 0), (36, 1), (36, 4), (37, 0), (38, 0), (39, 0), (40, 0), (41, 0), (42, 0), (43, 0)], 6, 0, 0, 0, [])
/-- method 70 -/
def xk_c_48 : sxC := (70, [(.inr (some (33, false))), (.inl (0, 999999999))], some (.inr none), [], 2, 0, 0, 0, [])
/-- method 65 -/
def xk_c_49 : sxC := (65, [(.inr (some (28, false))), (.inr (some (4, false))), (.inl (0, 160)), (.inr (some (33, false)))], some (.inl (0, 2)), [(28, 2), (29, 0), (33, 3), (33, 11), (34, 0), (35, 0)], 4, 0, 0, 0, [(8, [some (.inl 0), some (.inl 1), some (.inl 2), some (.inl 3), some (.inr (.inl (0, 160))), none, none, none, none, none], .inl 1, .inr (.inl (4, 160)), .inl 0)])
/-- method 96 -/
def xk_c_50 : sxC := (96, [(.inr (some (4, false))), (.inl (0, 39)), (.inl (15, 17))], some (.inl ((-1), 39)), [], 2, 0, 0, 0, [(5, [some (.inl 0), some (.inl 1), some (.inl 2), some (.inr (.inl ((-1), 39))), some (.inr (.inl (0, 9))), none], .inl 1, .inr (.inl (4, 9)), .inl 0)])
/-- method 92 -/
def xk_c_51 : sxC := (92, [(.inr (some (4, false))), (.inl (0, 39)), (.inl ((-1), 39))], some (.inl ((-1), 39)), [], 3, 0, 0, 0, [])
/-- method 93 -/
def xk_c_52 : sxC := (93, [(.inr (some (4, false))), (.inl (0, 39))], some (.inl ((-1), 39)), [], 2, 0, 0, 0, [(4, [some (.inl 0), some (.inl 1), some (.inr (.inl ((-1), 39))), some (.inr (.inl (0, 9)))], .inl 1, .inr (.inl (3, 9)), .inl 0)])
/-- method 71 -/
def xk_c_53 : sxC := (71, [(.inr (some (33, false)))], some (.inl (0, 1)), [], 2, 0, 0, 0, [])
/-- method 75 -/
def xk_c_54 : sxC := (75, [(.inl (4, 125)), (.inr none), (.inr none)], some (.inr none), [], 1, 0, 0, 0, [])
/-- method 67 -/
def xk_c_55 : sxC := (67, [(.inr (some (33, false))), (.inl (0, 999999999))], some (.inl (0, 1)), [(33, 3), (33, 11), (34, 0), (35, 0)], 3, 0, 0, 0, [])
/-- method 72 -/
def xk_c_56 : sxC := (72, [(.inr (some (22, false))), (.inl ((-2147483648), 2147483647)), (.inr (some (34, false)))], some (.inl (0, 1)), [], 1, 0, 0, 0, [(2, [some (.inl 0), some (.inl 1), some (.inl 2), some (.inr (.inl (0, 16)))], .inl 1, .inr (.inl (3, 16)), .inl 0)])
/-- method 125 -/
def xk_c_57 : sxC := (125, [(.inr (some (51, false)))], none, [(22, 3), (23, 0), (24, 0), (51, 2), (51, 3)], 3, 0, 0, 0, [])
/-- method 103 -/
def xk_c_58 : sxC := (103, [(.inr (some (0, false))), (.inl (0, 7))], some (.inl (0, 1)), [], 1, 0, 0, 0, [(16, [some (.inl 0), some (.inl 1), some (.inr (.inl (0, 8)))], .inl 1, .inr (.inl (2, 8)), .inl 0)])
/-- method 86 -/
def xk_c_59 : sxC := (86, [(.inr (some (30, false))), (.inr (some (22, false)))], some (.inl (0, 1)), [], 2, 0, 0, 0, [])
/-- method 104 -/
def xk_c_60 : sxC := (104, [(.inr (some (0, false))), (.inl (0, 7)), (.inl (1, 3))], some (.inl (1, 2)), [(22, 3), (22, 8), (23, 0), (24, 0), (25, 0), (26, 0), (27, 0), (28, 2), (29, 0), (30, 1), (30, 2), (30, 3), (30, 6), (31, 0), (33, 4), (44, 1), (45, 0), (46, 0), (47, 0), (48, 0), (49, 0), (50, 0)], 6, 0, 0, 0, [])
/-- method 72 -/
def xk_c_61 : sxC := (72, [(.inr (some (22, false))), (.inl ((-2147483648), 2147483647)), (.inr (some (32, false)))], some (.inl (0, 1)), [], 1, 0, 0, 0, [(2, [some (.inl 0), some (.inl 1), some (.inl 2), some (.inr (.inl (0, 16)))], .inl 1, .inr (.inl (3, 16)), .inl 0)])
/-- method 105 -/
def xk_c_62 : sxC := (105, [(.inr (some (22, false))), (.inr (some (4, false))), (.inr (some (36, false)))], some (.inl (0, 1)), [(22, 3), (22, 8), (23, 0), (24, 0), (25, 0), (26, 0), (27, 0), (28, 2), (29, 0)], 5, 0, 0, 0, [(17, [some (.inl 0), some (.inl 1), some (.inl 2), some (.inr (.inl (0, 16)))], .inl 4, .inr (.inl (3, 16)), .inl 0),
  (74, [some (.inl 0), some (.inl 1), some (.inl 2), some (.inr (.inl (0, 300)))], .inl 3, .inr (.inl (3, 300)), .inl 0),
  (106, [some (.inl 0), some (.inl 1), some (.inl 2), some (.inr (.inl (0, 16)))], .inl 2, .inr (.inl (3, 16)), .inl 0),
  (139, [some (.inl 0), some (.inl 1), some (.inl 2), some (.inr (.inl (0, 300)))], .inl 1, .inr (.inl (3, 300)), .inl 0)])
/-- method 63 -/
def xk_c_63 : sxC := (63, [(.inr (some (22, false))), (.inr (some (4, true))), (.inl (0, 39))], some (.inl (0, 1)), [(22, 8), (28, 2), (29, 0)], 3, 0, 0, 0, [])
/-- method 65 -/
def xk_c_64 : sxC := (65, [(.inr (some (28, false))), (.inr (some (4, false))), (.inl (0, 160)), (.inr (some (22, false)))], some (.inl (0, 2)), [(22, 8), (28, 2), (29, 0)], 2, 0, 0, 0, [(8, [some (.inl 0), some (.inl 1), some (.inl 2), some (.inl 3), some (.inr (.inl (0, 160))), none, none, none, none, none], .inl 1, .inr (.inl (4, 160)), .inl 0)])
def xk_T : sxT := ([(18, 1), (36, 1), (37, 1), (39, 1), (40, 1), (42, 1), (43, 1), (44, 1), (51, 1), (52, 1), (58, 1), (60, 1), (64, 1), (66, 1), (68, 1), (69, 1), (73, 1), (74, 1), (76, 1), (77, 2), (82, 1), (83, 1), (91, 1), (94, 1), (95, 4), (97, 1), (98, 5), (99, 4), (100, 2), (101, 1), (102, 1), (106, 2), (107, 1), (115, 2), (116, 1), (120, 1), (126, 2)], [xk_c_1, xk_c_2, xk_c_3, xk_c_4, xk_c_5, xk_c_6, xk_c_7, xk_c_8, xk_c_9, xk_c_10, xk_c_11, xk_c_12, xk_c_13, xk_c_14, xk_c_15, xk_c_16, xk_c_17, xk_c_18, xk_c_19, xk_c_20, xk_c_21, xk_c_22, xk_c_23, xk_c_24, xk_c_25, xk_c_26, xk_c_27, xk_c_28, xk_c_29, xk_c_30, xk_c_31, xk_c_32, xk_c_33, xk_c_34, xk_c_35, xk_c_36, xk_c_37, xk_c_38, xk_c_39, xk_c_40, xk_c_41, xk_c_42, xk_c_43, xk_c_44, xk_c_45, xk_c_46, xk_c_47, xk_c_48, xk_c_49, xk_c_50, xk_c_51, xk_c_52, xk_c_53, xk_c_54, xk_c_55, xk_c_56, xk_c_57, xk_c_58, xk_c_59, xk_c_60, xk_c_61, xk_c_62, xk_c_63, xk_c_64], [xk_c_0], 29)
