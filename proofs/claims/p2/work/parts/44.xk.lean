def xk_G_0 : List sxR := [.o 0 [.r 1 false, .i 0 800, .r 2 false, .i 0 12, .i (-1) 800, .r 16 false, .r 22 false, .r 3 false, .r 44 false, .r 51 false],
  .a .int 800 (.i 0 255),
  .a (.object "MemoryTransactions$Program") 12 (.r 4 false),
  .a (.object "MemoryTransactions$Client") 8 (.r 30 false),
  .o 1 [.i 0 40, .i 0 60, .i 0 8, .i 0 160, .i (-1) 39, .r 5 false, .r 6 false, .r 7 false, .r 8 false, .r 9 false, .r 10 false, .r 11 false, .r 12 false, .r 13 false, .r 14 false, .r 15 false],
  .a .int 40 (.i 0 19),
  .a .int 40 (.i 0 999999999),
  .a .int 40 (.i 0 160),
  .a .int 40 (.i (-1) 39),
  .a .int 40 (.i 0 1),
  .a .int 40 (.i 0 8),
  .a .int 40 (.i (-1) 39),
  .a .int 40 (.i (-1) 39),
  .a .int 40 (.i (-1) 39),
  .a .int 160 (.i 0 125),
  .a .int 160 (.i 0 999999999),
  .o 2 [.r 17 false, .r 4 false, .i 0 800, .i (-1) 800, .i 0 1],
  .o 3 [.r 18 false, .r 19 false, .r 20 false, .i 0 800, .l, .i 0 800, .i 0 800],
  .a .int 801 (.i 0 125),
  .a .int 801 (.i 0 800)]
def xk_G_1 : List sxR := [.a .int 801 (.i 0 999999999),
  .a .int 0 (.i 0 0),
  .o 4 [.r 23 false, .r 24 false, .i 0 32, .r 25 false, .r 26 false, .r 27 false, .r 28 false, .l],
  .a .long 16 .l,
  .a .int 16 (.i (-2147483648) 2147483647),
  .a (.object "MemoryTransactions$Program") 32 (.r 4 true),
  .a .int 32 (.i 0 39),
  .a .long 16 .l,
  .o 5 [.r 29 false, .i 0 60],
  .a .long 60 .l,
  .o 6 [.i 0 3, .i (-2147483648) 2147483647, .i 0 1, .r 31 false, .r 33 false, .i 0 16, .i (-2147483648) 2147483647, .r 32 false],
  .a .int 16 (.i 0 11),
  .a .int 16 (.i (-2147483648) 2147483647),
  .o 7 [.r 4 false, .i 0 300, .i (-2147483648) 2147483647, .l, .r 34 false, .r 36 false, .i (-1) 39, .r 35 false, .r 22 false, .r 28 false, .l],
  .a .int 16 (.i (-2147483648) 2147483647),
  .a .long 16 .l,
  .o 8 [.i (-2147483648) 2147483647, .r 37 false, .r 38 false, .i 0 300, .r 39 false, .r 40 false, .r 41 false, .r 42 false, .r 43 false],
  .a .long 16 .l,
  .a .long 10 .l,
  .a .int 300 (.i 0 39)]
def xk_G_2 : List sxR := [.a .int 8 (.i (-2147483648) 2147483647),
  .a .long 128 .l,
  .a .long 80 .l,
  .a .int 8 (.i 0 300),
  .o 9 [.i 0 300, .r 45 false, .r 46 false, .r 47 false, .r 48 false, .r 49 false, .r 50 false],
  .a .int 300 (.i 0 2),
  .a .int 300 (.i (-1) 7),
  .a .int 300 (.i 0 15),
  .a .int 300 (.i 0 301),
  .a .int 300 (.i (-2147483648) 2147483647),
  .a .long 300 .l,
  .o 10 [.r 22 false, .i 0 300, .i 0 1, .r 2 false, .r 33 false],
  .o 11 [.i 0 0, .r 53 false, .i 0 0, .i 0 0, .i 0 0, .i 0 0, .i 0 0, .l, .i 0 0, .i 0 0, .i (-1) (-1), .i 0 0, .r 54 false, .r 55 false, .r 56 false, .r 57 false, .r 58 false, .r 59 false, .r 60 false, .r 61 false, .r 62 false, .r 63 false, .r 64 false, .r 65 false, .r 66 false, .r 67 false, .r 68 false, .r 69 false, .i 0 0, .r 70 false, .i 0 0, .i 0 0, .r 71 false, .i 0 0, .r 72 false, .r 73 false, .r 74 false, .i 0 0, .r 75 false, .r 76 false, .r 77 false, .r 78 false, .i 0 0, .r 79 false, .r 80 false, .r 81 false, .r 82 false, .r 83 false, .r 84 false, .r 85 false, .r 86 false, .r 87 false, .i 0 0, .r 88 false, .r 89 false, .i 0 0, .r 90 false, .r 91 false, .i 0 0, .r 92 false, .i 0 0, .r 93 false, .r 94 false, .r 95 false, .r 96 false, .i 0 0, .l, .r 97 false, .r 98 false, .i 0 0, .r 99 false, .r 100 false, .r 101 false, .r 102 false, .r 103 false, .r 104 false],
  .a .byte 800 (.i 0 0),
  .a .int 12 (.i 0 0),
  .a .int 12 (.i 0 0),
  .a .int 12 (.i 0 0),
  .a .int 12 (.i 0 0),
  .a .int 12 (.i 0 0),
  .a .int 480 (.i 0 0)]
def xk_G_3 : List sxR := [.a .int 480 (.i 0 0),
  .a .int 480 (.i 0 0),
  .a .int 480 (.i 0 0),
  .a .int 480 (.i 0 0),
  .a .int 480 (.i 0 0),
  .a .int 480 (.i 0 0),
  .a .int 480 (.i 0 0),
  .a .int 2400 (.i 0 0),
  .a .int 2400 (.i 0 0),
  .a .long 2400 .l,
  .a .int 64 (.i 0 0),
  .a .boolean 16 (.i 0 0),
  .a .int 10 (.i 0 0),
  .a .int 10 (.i 0 0),
  .a .int 10 (.i 0 0),
  .a .long 32 .l,
  .a .int 32 (.i 0 0),
  .a .int 2 (.i 0 0),
  .a .int 64 (.i 0 0),
  .a .int 128 (.i 0 0)]
def xk_G_4 : List sxR := [.a .int 8 (.i 0 0),
  .a .int 8 (.i 0 0),
  .a .int 8 (.i 0 0),
  .a .int 8 (.i 0 0),
  .a .boolean 8 (.i 0 0),
  .a .int 8 (.i 0 0),
  .a .long 128 .l,
  .a .int 128 (.i 0 0),
  .a .long 16 .l,
  .a .int 16 (.i 0 0),
  .a .long 16 .l,
  .a .long 10 .l,
  .a .int 400 (.i 0 0),
  .a .int 480 (.i 0 0),
  .a .long 7680 .l,
  .a .long 4800 .l,
  .a .int 480 (.i 0 0),
  .a .long 64 .l,
  .a .long 16 .l,
  .a .int 300 (.i 0 0)]
def xk_G_5 : List sxR := [.a .int 300 (.i 0 0),
  .a .int 300 (.i 0 0),
  .a .int 300 (.i 0 0),
  .a .int 300 (.i 0 0),
  .a .long 300 .l]
def xk_G : List sxR := xk_G_0 ++ xk_G_1 ++ xk_G_2 ++ xk_G_3 ++ xk_G_4 ++ xk_G_5
/-- Scanner.scan -/
def xk_c_0 : sxC := ⟨19, [.r 17 false, .r 1 false, .i 0 800], none, [(17, 4), (17, 5), (17, 6), (17, 7), (18, 0), (19, 0), (20, 0)], 1, 0, 0, 0, []⟩
/-- MemoryTransactions.feed -/
def xk_c_1 : sxC := ⟨13, [.r 0 false, .i (-2147483648) 2147483647, .i (-2147483648) 2147483647, .i (-2147483648) 2147483647, .i (-2147483648) 2147483647, .i (-2147483648) 2147483647], some (.i (-1) 800), [(0, 2), (1, 0)], 2, 0, 0, 0, []⟩
/-- MemoryTransactions.end -/
def xk_c_2 : sxC := ⟨15, [.r 0 false, .i (-2147483648) 2147483647], some (.i (-1) 800), [(0, 2)], 1, 0, 0, 0, []⟩
/-- MemoryTransactions.text -/
def xk_c_3 : sxC := ⟨16, [.r 0 false], some (.i (-2) 11), [(0, 2), (0, 4), (0, 5), (4, 1), (4, 2), (4, 3), (4, 4), (4, 5), (5, 0), (6, 0), (7, 0), (8, 0), (9, 0), (10, 0), (11, 0), (12, 0), (13, 0), (14, 0), (15, 0), (16, 2), (16, 3), (16, 4), (16, 5), (17, 4), (17, 5), (17, 6), (17, 7), (18, 0), (19, 0), (20, 0)], 77, 0, 0, 0, []⟩
/-- MemoryTransactions.place -/
def xk_c_4 : sxC := ⟨56, [.r 0 false], some (.i (-1) 800), [], 1, 0, 0, 0, []⟩
/-- MemoryTransactions.told -/
def xk_c_5 : sxC := ⟨57, [.r 0 false, .i (-2147483648) 2147483647, .i (-2147483648) 2147483647], some (.i (-1) 60), [], 2, 0, 0, 0, []⟩
/-- MemoryTransactions.put -/
def xk_c_6 : sxC := ⟨59, [.r 0 false, .i (-2147483648) 2147483647, .l], some (.i (-2147483648) 2147483647), [(22, 8), (23, 0), (24, 0), (27, 0), (28, 2), (29, 0), (44, 1), (45, 0), (46, 0), (47, 0), (48, 0), (49, 0), (50, 0)], 6, 0, 0, 0, []⟩
/-- MemoryTransactions.cell -/
def xk_c_7 : sxC := ⟨79, [.r 0 false, .i (-2147483648) 2147483647], some .l, [], 2, 0, 0, 0, []⟩
/-- MemoryTransactions.version -/
def xk_c_8 : sxC := ⟨80, [.r 0 false, .i (-2147483648) 2147483647], some (.i (-2147483648) 2147483647), [], 2, 0, 0, 0, []⟩
/-- MemoryTransactions.add -/
def xk_c_9 : sxC := ⟨81, [.r 0 false, .i (-2147483648) 2147483647, .i (-2147483648) 2147483647], some (.i (-1) 16), [(30, 1), (30, 6), (31, 0)], 2, 0, 0, 0, []⟩
/-- MemoryTransactions.turn -/
def xk_c_10 : sxC := ⟨84, [.r 0 false, .i (-2147483648) 2147483647], some (.i (-1) 6), [(22, 3), (22, 8), (23, 0), (24, 0), (25, 0), (26, 0), (27, 0), (28, 2), (29, 0), (30, 1), (30, 2), (30, 3), (30, 6), (30, 7), (31, 0), (32, 0), (33, 1), (33, 2), (33, 3), (33, 4), (33, 7), (33, 11), (34, 0), (35, 0), (36, 1), (36, 4), (37, 0), (38, 0), (39, 0), (40, 0), (41, 0), (42, 0), (43, 0), (44, 1), (45, 0), (46, 0), (47, 0), (48, 0), (49, 0), (50, 0)], 8, 0, 0, 0, []⟩
/-- MemoryTransactions.play -/
def xk_c_11 : sxC := ⟨108, [.r 0 false, .l, .i (-2147483648) 2147483647], some (.i (-2147483648) 2147483647), [(22, 3), (22, 8), (23, 0), (24, 0), (25, 0), (26, 0), (27, 0), (28, 2), (29, 0), (30, 1), (30, 2), (30, 3), (30, 6), (30, 7), (31, 0), (32, 0), (33, 1), (33, 2), (33, 3), (33, 4), (33, 7), (33, 11), (34, 0), (35, 0), (36, 1), (36, 4), (37, 0), (38, 0), (39, 0), (40, 0), (41, 0), (42, 0), (43, 0), (44, 1), (45, 0), (46, 0), (47, 0), (48, 0), (49, 0), (50, 0)], 8, 0, 0, 0, [⟨22, [some (.inl 0), some (.inl 1), none, some (.inl 2), some (.inr .l), none, some (.inr (.i (-2147483648) 2147483647)), some (.inr (.i 0 2147483647))], .c 1, .up 7 2147483647, .c 0⟩]⟩
/-- MemoryTransactions.client -/
def xk_c_12 : sxC := ⟨109, [.r 0 false, .i (-2147483648) 2147483647, .i (-2147483648) 2147483647], some (.i (-2147483648) 2147483647), [], 2, 0, 0, 0, []⟩
/-- MemoryTransactions.sees -/
def xk_c_13 : sxC := ⟨111, [.r 0 false, .i (-2147483648) 2147483647, .i (-2147483648) 2147483647], some .l, [], 3, 0, 0, 0, []⟩
/-- MemoryTransactions.rules -/
def xk_c_14 : sxC := ⟨112, [.r 0 false], some (.i 0 32), [], 1, 0, 0, 0, []⟩
/-- MemoryTransactions.rows -/
def xk_c_15 : sxC := ⟨113, [.r 0 false], some (.i 0 300), [], 1, 0, 0, 0, []⟩
/-- MemoryTransactions.row -/
def xk_c_16 : sxC := ⟨114, [.r 0 false, .i (-2147483648) 2147483647, .i (-2147483648) 2147483647], some (.i (-2147483648) 2147483647), [], 3, 0, 0, 0, []⟩
/-- MemoryTransactions.value -/
def xk_c_17 : sxC := ⟨117, [.r 0 false, .i (-2147483648) 2147483647], some .l, [], 2, 0, 0, 0, []⟩
/-- MemoryTransactions.replays -/
def xk_c_18 : sxC := ⟨118, [.r 0 false], some (.i 0 1), [(22, 3), (22, 8), (23, 0), (24, 0), (25, 0), (26, 0), (27, 0), (28, 2), (29, 0), (33, 1), (33, 2), (33, 3), (33, 4), (33, 7), (33, 11), (34, 0), (35, 0), (36, 1), (36, 4), (37, 0), (38, 0), (39, 0), (40, 0), (41, 0), (42, 0), (43, 0), (51, 2), (51, 3)], 8, 0, 0, 0, [⟨8, [some (.inl 0), some (.inr (.i 0 300))], .c 1, .up 1 300, .c 0⟩]⟩
/-- MemoryTransactions.clear -/
def xk_c_19 : sxC := ⟨122, [.r 0 false], some (.i 0 300), [(0, 5), (22, 3), (23, 0), (24, 0), (30, 1), (30, 2), (30, 3), (30, 6), (44, 1), (51, 2), (51, 3)], 4, 0, 0, 0, [⟨32, [some (.inl 0), some (.inr (.i 0 300)), some (.inr (.i 0 8))], .c 1, .up 2 8, .c 0⟩]⟩
/-- MemoryTransactions.feedNumber -/
def xk_c_20 : sxC := ⟨14, [.r 0 false, .i (-2147483648) 2147483647], none, [(0, 2), (1, 0)], 1, 0, 0, 0, [⟨3, [some (.inl 0), some (.inl 1), some (.inr (.i (-2147483648) 24))], .c 1, .dn 2 (-2147483648), .c 0⟩]⟩
/-- Parser.parse -/
def xk_c_21 : sxC := ⟨17, [.r 16 false, .r 1 false, .i 0 800, .r 4 false], some (.i (-1) 800), [(4, 1), (4, 2), (4, 3), (4, 4), (4, 5), (5, 0), (6, 0), (7, 0), (8, 0), (9, 0), (10, 0), (11, 0), (12, 0), (13, 0), (14, 0), (15, 0), (16, 2), (16, 3), (16, 4), (16, 5), (17, 4), (17, 5), (17, 6), (17, 7), (18, 0), (19, 0), (20, 0)], 76, 0, 0, 0, []⟩
/-- Store.allows -/
def xk_c_22 : sxC := ⟨61, [.r 22 false, .i 0 15, .l], some (.i 0 1), [(22, 8), (27, 0), (28, 2), (29, 0)], 5, 0, 0, 0, []⟩
/-- MemoryTransactions.takeTurn -/
def xk_c_23 : sxC := ⟨85, [.r 0 false, .i 0 7], some (.i (-1) 6), [(22, 3), (22, 8), (23, 0), (24, 0), (25, 0), (26, 0), (27, 0), (28, 2), (29, 0), (30, 1), (30, 2), (30, 3), (30, 6), (30, 7), (31, 0), (32, 0), (33, 1), (33, 2), (33, 3), (33, 4), (33, 7), (33, 11), (34, 0), (35, 0), (36, 1), (36, 4), (37, 0), (38, 0), (39, 0), (40, 0), (41, 0), (42, 0), (43, 0), (44, 1), (45, 0), (46, 0), (47, 0), (48, 0), (49, 0), (50, 0)], 7, 0, 0, 0, []⟩
/-- Client.tell -/
def xk_c_24 : sxC := ⟨110, [.r 30 false, .i (-2147483648) 2147483647], some (.i (-2147483648) 2147483647), [], 1, 0, 0, 0, []⟩
/-- Store.isLike -/
def xk_c_25 : sxC := ⟨121, [.r 22 false, .r 22 false], some (.i 0 1), [], 1, 0, 0, 0, [⟨15, [some (.inl 0), some (.inl 1), some (.inr (.i 0 16))], .c 2, .up 2 16, .c 0⟩,
  ⟨62, [some (.inl 0), some (.inl 1), some (.inr (.i 0 32))], .c 1, .up 2 32, .c 0⟩]⟩
/-- Store.reset -/
def xk_c_26 : sxC := ⟨123, [.r 22 false], none, [(22, 3), (23, 0), (24, 0)], 2, 0, 0, 0, []⟩
/-- Parser.statements -/
def xk_c_27 : sxC := ⟨35, [.r 16 false, .i (-1) 39, .i 0 1, .i 0 8], some (.i (-1) 39), [(4, 1), (4, 2), (4, 3), (4, 4), (5, 0), (6, 0), (7, 0), (8, 0), (9, 0), (10, 0), (11, 0), (12, 0), (13, 0), (14, 0), (15, 0), (16, 3), (16, 4), (16, 5)], 43, 4, 3, 8, [⟨9, [some (.inl 0), some (.inl 1), some (.inl 2), some (.inl 3), some (.inr (.i (-1) 39)), some (.inr (.i (-1) 39)), some (.inr (.i 0 41)), none], .c 1, .up 6 41, .c 0⟩]⟩
/-- Store.holdAhead -/
def xk_c_28 : sxC := ⟨62, [.r 22 false], some (.i 0 1), [(22, 8), (28, 2), (29, 0)], 4, 0, 0, 0, [⟨2, [some (.inl 0), some (.inr (.i 0 32))], .c 1, .up 1 32, .c 0⟩]⟩
/-- java/util/Arrays.fill -/
def xk_c_29 : sxC := ⟨89, [.r 23 false, .l], none, [(23, 0)], 1, 0, 0, 0, [⟨6, [some (.inl 0), some (.inl 1), none, some (.inr (.i 0 16)), some (.inr (.i 16 16))], .c 1, .up 3 16, .c 0⟩]⟩
/-- Parser.statement -/
def xk_c_30 : sxC := ⟨38, [.r 16 false, .i (-1) 39, .i 0 1, .i 0 8], some (.i (-1) 39), [(4, 1), (4, 2), (4, 3), (4, 4), (5, 0), (6, 0), (7, 0), (8, 0), (9, 0), (10, 0), (11, 0), (12, 0), (13, 0), (14, 0), (15, 0), (16, 3), (16, 4), (16, 5)], 42, 4, 3, 8, []⟩
/-- Parser.expect -/
def xk_c_31 : sxC := ⟨45, [.r 16 false, .i 0 125], none, [(16, 3), (16, 4)], 2, 0, 0, 0, []⟩
/-- Program.open -/
def xk_c_32 : sxC := ⟨41, [.r 4 false, .i 1 19, .i (-1) 39, .i 0 1, .i 0 8], some (.i (-1) 39), [(4, 1), (5, 0), (6, 0), (7, 0), (8, 0), (9, 0), (10, 0), (11, 0), (12, 0), (13, 0)], 1, 0, 0, 0, []⟩
/-- Journal.note -/
def xk_c_33 : sxC := ⟨78, [.r 44 false, .i 0 2, .i (-1) 7, .i 0 15, .i 0 301, .i (-2147483648) 2147483647, .l], none, [(44, 1), (45, 0), (46, 0), (47, 0), (48, 0), (49, 0), (50, 0)], 2, 0, 0, 0, []⟩
/-- Parser.compound -/
def xk_c_34 : sxC := ⟨53, [.r 16 false, .i 1 19, .i 0 39, .i 0 8], none, [(4, 1), (4, 2), (4, 3), (4, 4), (5, 0), (6, 0), (7, 0), (8, 0), (9, 0), (10, 0), (11, 0), (12, 0), (13, 0), (14, 0), (15, 0), (16, 3), (16, 4), (16, 5)], 41, 4, 3, 8, []⟩
/-- Parser.closedExp -/
def xk_c_35 : sxC := ⟨46, [.r 16 false], none, [(4, 2), (4, 4), (14, 0), (15, 0), (16, 3), (16, 4)], 39, 0, 0, 0, []⟩
/-- Replay.redo -/
def xk_c_36 : sxC := ⟨119, [.r 51 false, .r 44 false, .i 0 299], none, [(22, 3), (22, 8), (23, 0), (24, 0), (25, 0), (26, 0), (27, 0), (28, 2), (29, 0), (33, 1), (33, 2), (33, 3), (33, 4), (33, 7), (33, 11), (34, 0), (35, 0), (36, 1), (36, 4), (37, 0), (38, 0), (39, 0), (40, 0), (41, 0), (42, 0), (43, 0), (51, 2), (51, 3)], 7, 0, 0, 0, [⟨118, [some (.inl 0), some (.inl 1), some (.inl 2), some (.inr (.i 0 11)), some (.inr (.i 0 4)), some (.inr (.i 0 301))], .c 1, .up 5 301, .c 0⟩]⟩
/-- Run.begin -/
def xk_c_37 : sxC := ⟨87, [.r 33 false, .r 4 false], none, [(33, 1), (33, 2), (33, 3), (33, 4), (33, 7), (36, 1), (36, 4), (38, 0)], 3, 0, 0, 0, []⟩
/-- Parser.exp -/
def xk_c_38 : sxC := ⟨47, [.r 16 false, .i 0 8], none, [(4, 2), (4, 4), (14, 0), (15, 0), (16, 3), (16, 4)], 6, 4, 1, 8, []⟩
/-- Parser.body -/
def xk_c_39 : sxC := ⟨54, [.r 16 false, .i 0 39, .i 0 1, .i 0 8], some (.i (-1) 39), [(4, 1), (4, 2), (4, 3), (4, 4), (5, 0), (6, 0), (7, 0), (8, 0), (9, 0), (10, 0), (11, 0), (12, 0), (13, 0), (14, 0), (15, 0), (16, 3), (16, 4), (16, 5)], 40, 4, 3, 8, []⟩
/-- Draft.reset -/
def xk_c_40 : sxC := ⟨88, [.r 36 false], none, [(36, 1), (36, 4), (38, 0)], 2, 0, 0, 0, []⟩
/-- Parser.sum -/
def xk_c_41 : sxC := ⟨48, [.r 16 false, .i 0 8], none, [(4, 2), (4, 4), (14, 0), (15, 0), (16, 3), (16, 4)], 5, 4, 1, 8, [⟨7, [some (.inl 0), some (.inl 1), some (.inr (.i 0 60)), none], .c 1, .up 2 60, .c 0⟩]⟩
/-- Parser.local -/
def xk_c_42 : sxC := ⟨55, [.r 16 false], some (.i 16 999999999), [(16, 3), (16, 4)], 2, 0, 0, 0, []⟩
/-- java/util/Arrays.fill -/
def xk_c_43 : sxC := ⟨89, [.r 38 false, .l], none, [(38, 0)], 1, 0, 0, 0, [⟨6, [some (.inl 0), some (.inl 1), none, some (.inr (.i 0 10)), some (.inr (.i 10 10))], .c 1, .up 3 10, .c 0⟩]⟩
/-- Parser.product -/
def xk_c_44 : sxC := ⟨49, [.r 16 false, .i 0 8], none, [(4, 2), (4, 4), (14, 0), (15, 0), (16, 3), (16, 4)], 4, 4, 1, 8, [⟨7, [some (.inl 0), some (.inl 1), some (.inr (.i 0 60)), none], .c 1, .up 2 60, .c 0⟩]⟩
/-- Parser.unary -/
def xk_c_45 : sxC := ⟨50, [.r 16 false, .i 0 8], none, [(4, 2), (4, 4), (14, 0), (15, 0), (16, 3), (16, 4)], 3, 4, 1, 8, []⟩
/-- java/util/Arrays.fill -/
def xk_c_46 : sxC := ⟨124, [.r 24 false, .i 0 0], none, [(24, 0)], 1, 0, 0, 0, [⟨5, [some (.inl 0), some (.inl 1), some (.inr (.i 0 16)), some (.inr (.i 16 16))], .c 1, .up 2 16, .c 0⟩]⟩
/-- Run.step -/
def xk_c_47 : sxC := ⟨90, [.r 33 false], some (.i 0 4), [(28, 2), (29, 0), (33, 2), (33, 3), (33, 4), (33, 7), (33, 11), (34, 0), (35, 0), (36, 1), (36, 4), (37, 0), (38, 0), (39, 0), (40, 0), (41, 0), (42, 0), (43, 0)], 6, 0, 0, 0, []⟩
/-- Run.shows -/
def xk_c_48 : sxC := ⟨70, [.r 33 false, .i 0 999999999], some .l, [], 2, 0, 0, 0, []⟩
/-- Calculator.work -/
def xk_c_49 : sxC := ⟨65, [.r 28 false, .r 4 false, .i 0 160, .r 33 false], some (.i 0 2), [(28, 2), (29, 0), (33, 3), (33, 11), (34, 0), (35, 0)], 4, 0, 0, 0, [⟨8, [some (.inl 0), some (.inl 1), some (.inl 2), some (.inl 3), some (.inr (.i 0 160)), none, none, none, none, none], .c 1, .up 4 160, .c 0⟩]⟩
/-- Program.around -/
def xk_c_50 : sxC := ⟨96, [.r 4 false, .i 0 39, .i 15 17], some (.i (-1) 39), [], 2, 0, 0, 0, [⟨5, [some (.inl 0), some (.inl 1), some (.inl 2), some (.inr (.i (-1) 39)), some (.inr (.i 0 9)), none], .c 1, .up 4 9, .c 0⟩]⟩
/-- Program.into -/
def xk_c_51 : sxC := ⟨92, [.r 4 false, .i 0 39, .i (-1) 39], some (.i (-1) 39), [], 3, 0, 0, 0, []⟩
/-- Program.behind -/
def xk_c_52 : sxC := ⟨93, [.r 4 false, .i 0 39], some (.i (-1) 39), [], 2, 0, 0, 0, [⟨4, [some (.inl 0), some (.inl 1), some (.inr (.i (-1) 39)), some (.inr (.i 0 9))], .c 1, .up 3 9, .c 0⟩]⟩
/-- Run.isStale -/
def xk_c_53 : sxC := ⟨71, [.r 33 false], some (.i 0 1), [], 2, 0, 0, 0, []⟩
/-- Calculator.join -/
def xk_c_54 : sxC := ⟨75, [.i 4 125, .l, .l], some .l, [], 1, 0, 0, 0, []⟩
/-- Run.find -/
def xk_c_55 : sxC := ⟨67, [.r 33 false, .i 0 999999999], some (.i 0 1), [(33, 3), (33, 11), (34, 0), (35, 0)], 3, 0, 0, 0, []⟩
/-- Store.differs -/
def xk_c_56 : sxC := ⟨72, [.r 22 false, .i (-2147483648) 2147483647, .r 34 false], some (.i 0 1), [], 1, 0, 0, 0, [⟨2, [some (.inl 0), some (.inl 1), some (.inl 2), some (.inr (.i 0 16))], .c 1, .up 3 16, .c 0⟩]⟩
/-- Replay.reset -/
def xk_c_57 : sxC := ⟨125, [.r 51 false], none, [(22, 3), (23, 0), (24, 0), (51, 2), (51, 3)], 3, 0, 0, 0, []⟩
/-- MemoryTransactions.isHeld -/
def xk_c_58 : sxC := ⟨103, [.r 0 false, .i 0 7], some (.i 0 1), [], 1, 0, 0, 0, [⟨16, [some (.inl 0), some (.inl 1), some (.inr (.i 0 8))], .c 1, .up 2 8, .c 0⟩]⟩
/-- Client.isWoken -/
def xk_c_59 : sxC := ⟨86, [.r 30 false, .r 22 false], some (.i 0 1), [], 2, 0, 0, 0, []⟩
/-- MemoryTransactions.closeRun -/
def xk_c_60 : sxC := ⟨104, [.r 0 false, .i 0 7, .i 1 3], some (.i 1 2), [(22, 3), (22, 8), (23, 0), (24, 0), (25, 0), (26, 0), (27, 0), (28, 2), (29, 0), (30, 1), (30, 2), (30, 3), (30, 6), (31, 0), (33, 4), (44, 1), (45, 0), (46, 0), (47, 0), (48, 0), (49, 0), (50, 0)], 6, 0, 0, 0, []⟩
/-- Store.differs -/
def xk_c_61 : sxC := ⟨72, [.r 22 false, .i (-2147483648) 2147483647, .r 32 false], some (.i 0 1), [], 1, 0, 0, 0, [⟨2, [some (.inl 0), some (.inl 1), some (.inl 2), some (.inr (.i 0 16))], .c 1, .up 3 16, .c 0⟩]⟩
/-- Store.takes -/
def xk_c_62 : sxC := ⟨105, [.r 22 false, .r 4 false, .r 36 false], some (.i 0 1), [(22, 3), (22, 8), (23, 0), (24, 0), (25, 0), (26, 0), (27, 0), (28, 2), (29, 0)], 5, 0, 0, 0, [⟨17, [some (.inl 0), some (.inl 1), some (.inl 2), some (.inr (.i 0 16))], .c 4, .up 3 16, .c 0⟩,
  ⟨74, [some (.inl 0), some (.inl 1), some (.inl 2), some (.inr (.i 0 300))], .c 3, .up 3 300, .c 0⟩,
  ⟨106, [some (.inl 0), some (.inl 1), some (.inl 2), some (.inr (.i 0 16))], .c 2, .up 3 16, .c 0⟩,
  ⟨139, [some (.inl 0), some (.inl 1), some (.inl 2), some (.inr (.i 0 300))], .c 1, .up 3 300, .c 0⟩]⟩
/-- Store.holdsAhead -/
def xk_c_63 : sxC := ⟨63, [.r 22 false, .r 4 true, .i 0 39], some (.i 0 1), [(22, 8), (28, 2), (29, 0)], 3, 0, 0, 0, []⟩
/-- Calculator.work -/
def xk_c_64 : sxC := ⟨65, [.r 28 false, .r 4 false, .i 0 160, .r 22 false], some (.i 0 2), [(22, 8), (28, 2), (29, 0)], 2, 0, 0, 0, [⟨8, [some (.inl 0), some (.inl 1), some (.inl 2), some (.inl 3), some (.inr (.i 0 160)), none, none, none, none, none], .c 1, .up 4 160, .c 0⟩]⟩
def xk_T : sxT := ⟨[(18, 1), (36, 1), (37, 1), (39, 1), (40, 1), (42, 1), (43, 1), (44, 1), (51, 1), (52, 1), (58, 1), (60, 1), (64, 1), (66, 1), (68, 1), (69, 1), (73, 1), (74, 1), (76, 1), (77, 2), (82, 1), (83, 1), (91, 1), (94, 1), (95, 4), (97, 1), (98, 5), (99, 4), (100, 2), (101, 1), (102, 1), (106, 2), (107, 1), (115, 2), (116, 1), (120, 1), (126, 2)], [xk_c_1, xk_c_2, xk_c_3, xk_c_4, xk_c_5, xk_c_6, xk_c_7, xk_c_8, xk_c_9, xk_c_10, xk_c_11, xk_c_12, xk_c_13, xk_c_14, xk_c_15, xk_c_16, xk_c_17, xk_c_18, xk_c_19, xk_c_20, xk_c_21, xk_c_22, xk_c_23, xk_c_24, xk_c_25, xk_c_26, xk_c_27, xk_c_28, xk_c_29, xk_c_30, xk_c_31, xk_c_32, xk_c_33, xk_c_34, xk_c_35, xk_c_36, xk_c_37, xk_c_38, xk_c_39, xk_c_40, xk_c_41, xk_c_42, xk_c_43, xk_c_44, xk_c_45, xk_c_46, xk_c_47, xk_c_48, xk_c_49, xk_c_50, xk_c_51, xk_c_52, xk_c_53, xk_c_54, xk_c_55, xk_c_56, xk_c_57, xk_c_58, xk_c_59, xk_c_60, xk_c_61, xk_c_62, xk_c_63, xk_c_64], [xk_c_0], 29⟩
