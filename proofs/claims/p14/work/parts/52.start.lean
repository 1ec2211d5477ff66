def kC0 : List KE := [.inr (10, [.inl (.ref 1), .inl (.ref 3), .inl (.ref 9), .inl (.ref 15), .inl (.ref 22), .inl (.ref 29), .inl (.ref 87), .inl (.ref 88), .inl (.ref 92), .inl (.ref 94), .inl (.ref 96), .inl (.ref 100), .inl (.ref 105), .inl (.int 0)]),
  .inr (8, [.inl (.ref 2), .inl (.int 0), .inl (.int 0), .inl (.int 0), .inl (.int 0), .inl (.int 0), .inl (.int 0), .inl (.long 0), .inl .null, .inl (.int 0), .inl (.int 0)]),
  .inl (2, 940, .inl ([], .inl 0)),
  .inr (4, [.inl (.ref 4), .inl (.ref 5), .inl (.ref 6), .inl (.ref 7), .inl (.ref 8), .inl (.int 0), .inl (.int 0), .inl (.int 0), .inl (.int 0)]),
  .inl (1, 8, .inr (.inl ([], 0))),
  .inl (1, 8, .inr (.inl ([], 0))),
  .inl (0, 8, .inl ([], .inl 0)),
  .inl (0, 8, .inl ([], .inl 0)),
  .inl (0, 8, .inl ([], .inl 0)),
  .inr (4, [.inl (.ref 10), .inl (.ref 11), .inl (.ref 12), .inl (.ref 13), .inl (.ref 14), .inl (.int 0), .inl (.int 0), .inl (.int 0), .inl (.int 0)]),
  .inl (1, 8, .inr (.inl ([], 0))),
  .inl (1, 8, .inr (.inl ([], 0))),
  .inl (0, 8, .inl ([], .inl 0)),
  .inl (0, 8, .inl ([], .inl 0)),
  .inl (0, 8, .inl ([], .inl 0)),
  .inr (7, [.inl (.ref 3), .inl (.ref 16), .inl (.ref 17), .inl (.ref 18), .inl (.ref 19), .inl (.ref 20), .inl (.ref 21), .inl (.int 0), .inl (.int 0), .inl (.int 0)])]
def kC1 : List KE := [.inl (0, 64, .inl ([(63, .inl 0), (62, .inl 0), (61, .inl 0), (60, .inl 0), (59, .inl 0), (58, .inl 0), (57, .inl 0), (56, .inl 0), (55, .inl 0), (54, .inl 0), (53, .inl 0), (52, .inl 0), (51, .inl 0), (50, .inl 0), (49, .inl 0), (48, .inl 0), (47, .inl 0), (46, .inl 0), (45, .inl 0), (44, .inl 0), (43, .inl 0), (42, .inl 0), (41, .inl 0), (40, .inl 0), (39, .inl 0), (38, .inl 0), (37, .inl 0), (36, .inl 0), (35, .inl 0), (34, .inl 0), (33, .inl 0), (32, .inl 0), (31, .inl 0), (30, .inl 0), (29, .inl 0), (28, .inl 0), (27, .inl 0), (26, .inl 0), (25, .inl 0), (24, .inl 0), (23, .inl 0), (22, .inl 0), (21, .inl 0), (20, .inl 0), (19, .inl 0), (18, .inl 0), (17, .inl 0), (16, .inl 0), (15, .inl 0), (14, .inl 0), (13, .inl 0), (12, .inl 0), (11, .inl 0), (10, .inl 0), (9, .inl 0), (8, .inl 0), (7, .inl 0), (6, .inl 0), (5, .inl 0), (4, .inl 0), (3, .inl 0), (2, .inl 0), (1, .inl 0), (0, .inl 0)], .inl 0)),
  .inl (0, 8, .inl ([(7, .inl (-1)), (6, .inl (-1)), (5, .inl (-1)), (4, .inl (-1)), (3, .inl (-1)), (2, .inl (-1)), (1, .inl (-1)), (0, .inl (-1))], .inl 0)),
  .inl (0, 8, .inl ([(7, .inl 0), (6, .inl 0), (5, .inl 0), (4, .inl 0), (3, .inl 0), (2, .inl 0), (1, .inl 0), (0, .inl 0)], .inl 0)),
  .inl (0, 8, .inl ([(7, .inl 0), (6, .inl 0), (5, .inl 0), (4, .inl 0), (3, .inl 0), (2, .inl 0), (1, .inl 0), (0, .inl 0)], .inl 0)),
  .inl (0, 8, .inl ([(7, .inl 0), (6, .inl 0), (5, .inl 0), (4, .inl 0), (3, .inl 0), (2, .inl 0), (1, .inl 0), (0, .inl 0)], .inl 0)),
  .inl (0, 24, .inl ([(23, .inl (-1)), (22, .inl (-1)), (21, .inl (-1)), (20, .inl (-1)), (19, .inl (-1)), (18, .inl (-1)), (17, .inl (-1)), (16, .inl (-1)), (15, .inl (-1)), (14, .inl (-1)), (13, .inl (-1)), (12, .inl (-1)), (11, .inl (-1)), (10, .inl (-1)), (9, .inl (-1)), (8, .inl (-1)), (7, .inl (-1)), (6, .inl (-1)), (5, .inl (-1)), (4, .inl (-1)), (3, .inl (-1)), (2, .inl (-1)), (1, .inl (-1)), (0, .inl (-1))], .inl 0)),
  .inr (7, [.inl (.ref 3), .inl (.ref 23), .inl (.ref 24), .inl (.ref 25), .inl (.ref 26), .inl (.ref 27), .inl (.ref 28), .inl (.int 0), .inl (.int 0), .inl (.int 0)]),
  .inl (0, 64, .inl ([(63, .inl 0), (62, .inl 0), (61, .inl 0), (60, .inl 0), (59, .inl 0), (58, .inl 0), (57, .inl 0), (56, .inl 0), (55, .inl 0), (54, .inl 0), (53, .inl 0), (52, .inl 0), (51, .inl 0), (50, .inl 0), (49, .inl 0), (48, .inl 0), (47, .inl 0), (46, .inl 0), (45, .inl 0), (44, .inl 0), (43, .inl 0), (42, .inl 0), (41, .inl 0), (40, .inl 0), (39, .inl 0), (38, .inl 0), (37, .inl 0), (36, .inl 0), (35, .inl 0), (34, .inl 0), (33, .inl 0), (32, .inl 0), (31, .inl 0), (30, .inl 0), (29, .inl 0), (28, .inl 0), (27, .inl 0), (26, .inl 0), (25, .inl 0), (24, .inl 0), (23, .inl 0), (22, .inl 0), (21, .inl 0), (20, .inl 0), (19, .inl 0), (18, .inl 0), (17, .inl 0), (16, .inl 0), (15, .inl 0), (14, .inl 0), (13, .inl 0), (12, .inl 0), (11, .inl 0), (10, .inl 0), (9, .inl 0), (8, .inl 0), (7, .inl 0), (6, .inl 0), (5, .inl 0), (4, .inl 0), (3, .inl 0), (2, .inl 0), (1, .inl 0), (0, .inl 0)], .inl 0)),
  .inl (0, 8, .inl ([(7, .inl (-1)), (6, .inl (-1)), (5, .inl (-1)), (4, .inl (-1)), (3, .inl (-1)), (2, .inl (-1)), (1, .inl (-1)), (0, .inl (-1))], .inl 0)),
  .inl (0, 8, .inl ([(7, .inl 0), (6, .inl 0), (5, .inl 0), (4, .inl 0), (3, .inl 0), (2, .inl 0), (1, .inl 0), (0, .inl 0)], .inl 0)),
  .inl (0, 8, .inl ([(7, .inl 0), (6, .inl 0), (5, .inl 0), (4, .inl 0), (3, .inl 0), (2, .inl 0), (1, .inl 0), (0, .inl 0)], .inl 0)),
  .inl (0, 8, .inl ([(7, .inl 0), (6, .inl 0), (5, .inl 0), (4, .inl 0), (3, .inl 0), (2, .inl 0), (1, .inl 0), (0, .inl 0)], .inl 0)),
  .inl (0, 24, .inl ([(23, .inl (-1)), (22, .inl (-1)), (21, .inl (-1)), (20, .inl (-1)), (19, .inl (-1)), (18, .inl (-1)), (17, .inl (-1)), (16, .inl (-1)), (15, .inl (-1)), (14, .inl (-1)), (13, .inl (-1)), (12, .inl (-1)), (11, .inl (-1)), (10, .inl (-1)), (9, .inl (-1)), (8, .inl (-1)), (7, .inl (-1)), (6, .inl (-1)), (5, .inl (-1)), (4, .inl (-1)), (3, .inl (-1)), (2, .inl (-1)), (1, .inl (-1)), (0, .inl (-1))], .inl 0)),
  .inr (9, [.inl (.ref 30), .inl (.int 0), .inl (.int 0)]),
  .inl (5, 8, .inr (.inr [(7, some 80), (6, some 73), (5, some 66), (4, some 59), (3, some 52), (2, some 45), (1, some 38), (0, some 31)])),
  .inr (7, [.inl (.ref 3), .inl (.ref 32), .inl (.ref 33), .inl (.ref 34), .inl (.ref 35), .inl (.ref 36), .inl (.ref 37), .inl (.int 0), .inl (.int 0), .inl (.int 0)])]
def kC2 : List KE := [.inl (0, 64, .inl ([(63, .inl 0), (62, .inl 0), (61, .inl 0), (60, .inl 0), (59, .inl 0), (58, .inl 0), (57, .inl 0), (56, .inl 0), (55, .inl 0), (54, .inl 0), (53, .inl 0), (52, .inl 0), (51, .inl 0), (50, .inl 0), (49, .inl 0), (48, .inl 0), (47, .inl 0), (46, .inl 0), (45, .inl 0), (44, .inl 0), (43, .inl 0), (42, .inl 0), (41, .inl 0), (40, .inl 0), (39, .inl 0), (38, .inl 0), (37, .inl 0), (36, .inl 0), (35, .inl 0), (34, .inl 0), (33, .inl 0), (32, .inl 0), (31, .inl 0), (30, .inl 0), (29, .inl 0), (28, .inl 0), (27, .inl 0), (26, .inl 0), (25, .inl 0), (24, .inl 0), (23, .inl 0), (22, .inl 0), (21, .inl 0), (20, .inl 0), (19, .inl 0), (18, .inl 0), (17, .inl 0), (16, .inl 0), (15, .inl 0), (14, .inl 0), (13, .inl 0), (12, .inl 0), (11, .inl 0), (10, .inl 0), (9, .inl 0), (8, .inl 0), (7, .inl 0), (6, .inl 0), (5, .inl 0), (4, .inl 0), (3, .inl 0), (2, .inl 0), (1, .inl 0), (0, .inl 0)], .inl 0)),
  .inl (0, 8, .inl ([(7, .inl (-1)), (6, .inl (-1)), (5, .inl (-1)), (4, .inl (-1)), (3, .inl (-1)), (2, .inl (-1)), (1, .inl (-1)), (0, .inl (-1))], .inl 0)),
  .inl (0, 8, .inl ([(7, .inl 0), (6, .inl 0), (5, .inl 0), (4, .inl 0), (3, .inl 0), (2, .inl 0), (1, .inl 0), (0, .inl 0)], .inl 0)),
  .inl (0, 8, .inl ([(7, .inl 0), (6, .inl 0), (5, .inl 0), (4, .inl 0), (3, .inl 0), (2, .inl 0), (1, .inl 0), (0, .inl 0)], .inl 0)),
  .inl (0, 8, .inl ([(7, .inl 0), (6, .inl 0), (5, .inl 0), (4, .inl 0), (3, .inl 0), (2, .inl 0), (1, .inl 0), (0, .inl 0)], .inl 0)),
  .inl (0, 24, .inl ([(23, .inl (-1)), (22, .inl (-1)), (21, .inl (-1)), (20, .inl (-1)), (19, .inl (-1)), (18, .inl (-1)), (17, .inl (-1)), (16, .inl (-1)), (15, .inl (-1)), (14, .inl (-1)), (13, .inl (-1)), (12, .inl (-1)), (11, .inl (-1)), (10, .inl (-1)), (9, .inl (-1)), (8, .inl (-1)), (7, .inl (-1)), (6, .inl (-1)), (5, .inl (-1)), (4, .inl (-1)), (3, .inl (-1)), (2, .inl (-1)), (1, .inl (-1)), (0, .inl (-1))], .inl 0)),
  .inr (7, [.inl (.ref 3), .inl (.ref 39), .inl (.ref 40), .inl (.ref 41), .inl (.ref 42), .inl (.ref 43), .inl (.ref 44), .inl (.int 0), .inl (.int 0), .inl (.int 0)]),
  .inl (0, 64, .inl ([(63, .inl 0), (62, .inl 0), (61, .inl 0), (60, .inl 0), (59, .inl 0), (58, .inl 0), (57, .inl 0), (56, .inl 0), (55, .inl 0), (54, .inl 0), (53, .inl 0), (52, .inl 0), (51, .inl 0), (50, .inl 0), (49, .inl 0), (48, .inl 0), (47, .inl 0), (46, .inl 0), (45, .inl 0), (44, .inl 0), (43, .inl 0), (42, .inl 0), (41, .inl 0), (40, .inl 0), (39, .inl 0), (38, .inl 0), (37, .inl 0), (36, .inl 0), (35, .inl 0), (34, .inl 0), (33, .inl 0), (32, .inl 0), (31, .inl 0), (30, .inl 0), (29, .inl 0), (28, .inl 0), (27, .inl 0), (26, .inl 0), (25, .inl 0), (24, .inl 0), (23, .inl 0), (22, .inl 0), (21, .inl 0), (20, .inl 0), (19, .inl 0), (18, .inl 0), (17, .inl 0), (16, .inl 0), (15, .inl 0), (14, .inl 0), (13, .inl 0), (12, .inl 0), (11, .inl 0), (10, .inl 0), (9, .inl 0), (8, .inl 0), (7, .inl 0), (6, .inl 0), (5, .inl 0), (4, .inl 0), (3, .inl 0), (2, .inl 0), (1, .inl 0), (0, .inl 0)], .inl 0)),
  .inl (0, 8, .inl ([(7, .inl (-1)), (6, .inl (-1)), (5, .inl (-1)), (4, .inl (-1)), (3, .inl (-1)), (2, .inl (-1)), (1, .inl (-1)), (0, .inl (-1))], .inl 0)),
  .inl (0, 8, .inl ([(7, .inl 0), (6, .inl 0), (5, .inl 0), (4, .inl 0), (3, .inl 0), (2, .inl 0), (1, .inl 0), (0, .inl 0)], .inl 0)),
  .inl (0, 8, .inl ([(7, .inl 0), (6, .inl 0), (5, .inl 0), (4, .inl 0), (3, .inl 0), (2, .inl 0), (1, .inl 0), (0, .inl 0)], .inl 0)),
  .inl (0, 8, .inl ([(7, .inl 0), (6, .inl 0), (5, .inl 0), (4, .inl 0), (3, .inl 0), (2, .inl 0), (1, .inl 0), (0, .inl 0)], .inl 0)),
  .inl (0, 24, .inl ([(23, .inl (-1)), (22, .inl (-1)), (21, .inl (-1)), (20, .inl (-1)), (19, .inl (-1)), (18, .inl (-1)), (17, .inl (-1)), (16, .inl (-1)), (15, .inl (-1)), (14, .inl (-1)), (13, .inl (-1)), (12, .inl (-1)), (11, .inl (-1)), (10, .inl (-1)), (9, .inl (-1)), (8, .inl (-1)), (7, .inl (-1)), (6, .inl (-1)), (5, .inl (-1)), (4, .inl (-1)), (3, .inl (-1)), (2, .inl (-1)), (1, .inl (-1)), (0, .inl (-1))], .inl 0)),
  .inr (7, [.inl (.ref 3), .inl (.ref 46), .inl (.ref 47), .inl (.ref 48), .inl (.ref 49), .inl (.ref 50), .inl (.ref 51), .inl (.int 0), .inl (.int 0), .inl (.int 0)]),
  .inl (0, 64, .inl ([(63, .inl 0), (62, .inl 0), (61, .inl 0), (60, .inl 0), (59, .inl 0), (58, .inl 0), (57, .inl 0), (56, .inl 0), (55, .inl 0), (54, .inl 0), (53, .inl 0), (52, .inl 0), (51, .inl 0), (50, .inl 0), (49, .inl 0), (48, .inl 0), (47, .inl 0), (46, .inl 0), (45, .inl 0), (44, .inl 0), (43, .inl 0), (42, .inl 0), (41, .inl 0), (40, .inl 0), (39, .inl 0), (38, .inl 0), (37, .inl 0), (36, .inl 0), (35, .inl 0), (34, .inl 0), (33, .inl 0), (32, .inl 0), (31, .inl 0), (30, .inl 0), (29, .inl 0), (28, .inl 0), (27, .inl 0), (26, .inl 0), (25, .inl 0), (24, .inl 0), (23, .inl 0), (22, .inl 0), (21, .inl 0), (20, .inl 0), (19, .inl 0), (18, .inl 0), (17, .inl 0), (16, .inl 0), (15, .inl 0), (14, .inl 0), (13, .inl 0), (12, .inl 0), (11, .inl 0), (10, .inl 0), (9, .inl 0), (8, .inl 0), (7, .inl 0), (6, .inl 0), (5, .inl 0), (4, .inl 0), (3, .inl 0), (2, .inl 0), (1, .inl 0), (0, .inl 0)], .inl 0)),
  .inl (0, 8, .inl ([(7, .inl (-1)), (6, .inl (-1)), (5, .inl (-1)), (4, .inl (-1)), (3, .inl (-1)), (2, .inl (-1)), (1, .inl (-1)), (0, .inl (-1))], .inl 0))]
def kC3 : List KE := [.inl (0, 8, .inl ([(7, .inl 0), (6, .inl 0), (5, .inl 0), (4, .inl 0), (3, .inl 0), (2, .inl 0), (1, .inl 0), (0, .inl 0)], .inl 0)),
  .inl (0, 8, .inl ([(7, .inl 0), (6, .inl 0), (5, .inl 0), (4, .inl 0), (3, .inl 0), (2, .inl 0), (1, .inl 0), (0, .inl 0)], .inl 0)),
  .inl (0, 8, .inl ([(7, .inl 0), (6, .inl 0), (5, .inl 0), (4, .inl 0), (3, .inl 0), (2, .inl 0), (1, .inl 0), (0, .inl 0)], .inl 0)),
  .inl (0, 24, .inl ([(23, .inl (-1)), (22, .inl (-1)), (21, .inl (-1)), (20, .inl (-1)), (19, .inl (-1)), (18, .inl (-1)), (17, .inl (-1)), (16, .inl (-1)), (15, .inl (-1)), (14, .inl (-1)), (13, .inl (-1)), (12, .inl (-1)), (11, .inl (-1)), (10, .inl (-1)), (9, .inl (-1)), (8, .inl (-1)), (7, .inl (-1)), (6, .inl (-1)), (5, .inl (-1)), (4, .inl (-1)), (3, .inl (-1)), (2, .inl (-1)), (1, .inl (-1)), (0, .inl (-1))], .inl 0)),
  .inr (7, [.inl (.ref 3), .inl (.ref 53), .inl (.ref 54), .inl (.ref 55), .inl (.ref 56), .inl (.ref 57), .inl (.ref 58), .inl (.int 0), .inl (.int 0), .inl (.int 0)]),
  .inl (0, 64, .inl ([(63, .inl 0), (62, .inl 0), (61, .inl 0), (60, .inl 0), (59, .inl 0), (58, .inl 0), (57, .inl 0), (56, .inl 0), (55, .inl 0), (54, .inl 0), (53, .inl 0), (52, .inl 0), (51, .inl 0), (50, .inl 0), (49, .inl 0), (48, .inl 0), (47, .inl 0), (46, .inl 0), (45, .inl 0), (44, .inl 0), (43, .inl 0), (42, .inl 0), (41, .inl 0), (40, .inl 0), (39, .inl 0), (38, .inl 0), (37, .inl 0), (36, .inl 0), (35, .inl 0), (34, .inl 0), (33, .inl 0), (32, .inl 0), (31, .inl 0), (30, .inl 0), (29, .inl 0), (28, .inl 0), (27, .inl 0), (26, .inl 0), (25, .inl 0), (24, .inl 0), (23, .inl 0), (22, .inl 0), (21, .inl 0), (20, .inl 0), (19, .inl 0), (18, .inl 0), (17, .inl 0), (16, .inl 0), (15, .inl 0), (14, .inl 0), (13, .inl 0), (12, .inl 0), (11, .inl 0), (10, .inl 0), (9, .inl 0), (8, .inl 0), (7, .inl 0), (6, .inl 0), (5, .inl 0), (4, .inl 0), (3, .inl 0), (2, .inl 0), (1, .inl 0), (0, .inl 0)], .inl 0)),
  .inl (0, 8, .inl ([(7, .inl (-1)), (6, .inl (-1)), (5, .inl (-1)), (4, .inl (-1)), (3, .inl (-1)), (2, .inl (-1)), (1, .inl (-1)), (0, .inl (-1))], .inl 0)),
  .inl (0, 8, .inl ([(7, .inl 0), (6, .inl 0), (5, .inl 0), (4, .inl 0), (3, .inl 0), (2, .inl 0), (1, .inl 0), (0, .inl 0)], .inl 0)),
  .inl (0, 8, .inl ([(7, .inl 0), (6, .inl 0), (5, .inl 0), (4, .inl 0), (3, .inl 0), (2, .inl 0), (1, .inl 0), (0, .inl 0)], .inl 0)),
  .inl (0, 8, .inl ([(7, .inl 0), (6, .inl 0), (5, .inl 0), (4, .inl 0), (3, .inl 0), (2, .inl 0), (1, .inl 0), (0, .inl 0)], .inl 0)),
  .inl (0, 24, .inl ([(23, .inl (-1)), (22, .inl (-1)), (21, .inl (-1)), (20, .inl (-1)), (19, .inl (-1)), (18, .inl (-1)), (17, .inl (-1)), (16, .inl (-1)), (15, .inl (-1)), (14, .inl (-1)), (13, .inl (-1)), (12, .inl (-1)), (11, .inl (-1)), (10, .inl (-1)), (9, .inl (-1)), (8, .inl (-1)), (7, .inl (-1)), (6, .inl (-1)), (5, .inl (-1)), (4, .inl (-1)), (3, .inl (-1)), (2, .inl (-1)), (1, .inl (-1)), (0, .inl (-1))], .inl 0)),
  .inr (7, [.inl (.ref 3), .inl (.ref 60), .inl (.ref 61), .inl (.ref 62), .inl (.ref 63), .inl (.ref 64), .inl (.ref 65), .inl (.int 0), .inl (.int 0), .inl (.int 0)]),
  .inl (0, 64, .inl ([(63, .inl 0), (62, .inl 0), (61, .inl 0), (60, .inl 0), (59, .inl 0), (58, .inl 0), (57, .inl 0), (56, .inl 0), (55, .inl 0), (54, .inl 0), (53, .inl 0), (52, .inl 0), (51, .inl 0), (50, .inl 0), (49, .inl 0), (48, .inl 0), (47, .inl 0), (46, .inl 0), (45, .inl 0), (44, .inl 0), (43, .inl 0), (42, .inl 0), (41, .inl 0), (40, .inl 0), (39, .inl 0), (38, .inl 0), (37, .inl 0), (36, .inl 0), (35, .inl 0), (34, .inl 0), (33, .inl 0), (32, .inl 0), (31, .inl 0), (30, .inl 0), (29, .inl 0), (28, .inl 0), (27, .inl 0), (26, .inl 0), (25, .inl 0), (24, .inl 0), (23, .inl 0), (22, .inl 0), (21, .inl 0), (20, .inl 0), (19, .inl 0), (18, .inl 0), (17, .inl 0), (16, .inl 0), (15, .inl 0), (14, .inl 0), (13, .inl 0), (12, .inl 0), (11, .inl 0), (10, .inl 0), (9, .inl 0), (8, .inl 0), (7, .inl 0), (6, .inl 0), (5, .inl 0), (4, .inl 0), (3, .inl 0), (2, .inl 0), (1, .inl 0), (0, .inl 0)], .inl 0)),
  .inl (0, 8, .inl ([(7, .inl (-1)), (6, .inl (-1)), (5, .inl (-1)), (4, .inl (-1)), (3, .inl (-1)), (2, .inl (-1)), (1, .inl (-1)), (0, .inl (-1))], .inl 0)),
  .inl (0, 8, .inl ([(7, .inl 0), (6, .inl 0), (5, .inl 0), (4, .inl 0), (3, .inl 0), (2, .inl 0), (1, .inl 0), (0, .inl 0)], .inl 0)),
  .inl (0, 8, .inl ([(7, .inl 0), (6, .inl 0), (5, .inl 0), (4, .inl 0), (3, .inl 0), (2, .inl 0), (1, .inl 0), (0, .inl 0)], .inl 0))]
def kC4 : List KE := [.inl (0, 8, .inl ([(7, .inl 0), (6, .inl 0), (5, .inl 0), (4, .inl 0), (3, .inl 0), (2, .inl 0), (1, .inl 0), (0, .inl 0)], .inl 0)),
  .inl (0, 24, .inl ([(23, .inl (-1)), (22, .inl (-1)), (21, .inl (-1)), (20, .inl (-1)), (19, .inl (-1)), (18, .inl (-1)), (17, .inl (-1)), (16, .inl (-1)), (15, .inl (-1)), (14, .inl (-1)), (13, .inl (-1)), (12, .inl (-1)), (11, .inl (-1)), (10, .inl (-1)), (9, .inl (-1)), (8, .inl (-1)), (7, .inl (-1)), (6, .inl (-1)), (5, .inl (-1)), (4, .inl (-1)), (3, .inl (-1)), (2, .inl (-1)), (1, .inl (-1)), (0, .inl (-1))], .inl 0)),
  .inr (7, [.inl (.ref 3), .inl (.ref 67), .inl (.ref 68), .inl (.ref 69), .inl (.ref 70), .inl (.ref 71), .inl (.ref 72), .inl (.int 0), .inl (.int 0), .inl (.int 0)]),
  .inl (0, 64, .inl ([(63, .inl 0), (62, .inl 0), (61, .inl 0), (60, .inl 0), (59, .inl 0), (58, .inl 0), (57, .inl 0), (56, .inl 0), (55, .inl 0), (54, .inl 0), (53, .inl 0), (52, .inl 0), (51, .inl 0), (50, .inl 0), (49, .inl 0), (48, .inl 0), (47, .inl 0), (46, .inl 0), (45, .inl 0), (44, .inl 0), (43, .inl 0), (42, .inl 0), (41, .inl 0), (40, .inl 0), (39, .inl 0), (38, .inl 0), (37, .inl 0), (36, .inl 0), (35, .inl 0), (34, .inl 0), (33, .inl 0), (32, .inl 0), (31, .inl 0), (30, .inl 0), (29, .inl 0), (28, .inl 0), (27, .inl 0), (26, .inl 0), (25, .inl 0), (24, .inl 0), (23, .inl 0), (22, .inl 0), (21, .inl 0), (20, .inl 0), (19, .inl 0), (18, .inl 0), (17, .inl 0), (16, .inl 0), (15, .inl 0), (14, .inl 0), (13, .inl 0), (12, .inl 0), (11, .inl 0), (10, .inl 0), (9, .inl 0), (8, .inl 0), (7, .inl 0), (6, .inl 0), (5, .inl 0), (4, .inl 0), (3, .inl 0), (2, .inl 0), (1, .inl 0), (0, .inl 0)], .inl 0)),
  .inl (0, 8, .inl ([(7, .inl (-1)), (6, .inl (-1)), (5, .inl (-1)), (4, .inl (-1)), (3, .inl (-1)), (2, .inl (-1)), (1, .inl (-1)), (0, .inl (-1))], .inl 0)),
  .inl (0, 8, .inl ([(7, .inl 0), (6, .inl 0), (5, .inl 0), (4, .inl 0), (3, .inl 0), (2, .inl 0), (1, .inl 0), (0, .inl 0)], .inl 0)),
  .inl (0, 8, .inl ([(7, .inl 0), (6, .inl 0), (5, .inl 0), (4, .inl 0), (3, .inl 0), (2, .inl 0), (1, .inl 0), (0, .inl 0)], .inl 0)),
  .inl (0, 8, .inl ([(7, .inl 0), (6, .inl 0), (5, .inl 0), (4, .inl 0), (3, .inl 0), (2, .inl 0), (1, .inl 0), (0, .inl 0)], .inl 0)),
  .inl (0, 24, .inl ([(23, .inl (-1)), (22, .inl (-1)), (21, .inl (-1)), (20, .inl (-1)), (19, .inl (-1)), (18, .inl (-1)), (17, .inl (-1)), (16, .inl (-1)), (15, .inl (-1)), (14, .inl (-1)), (13, .inl (-1)), (12, .inl (-1)), (11, .inl (-1)), (10, .inl (-1)), (9, .inl (-1)), (8, .inl (-1)), (7, .inl (-1)), (6, .inl (-1)), (5, .inl (-1)), (4, .inl (-1)), (3, .inl (-1)), (2, .inl (-1)), (1, .inl (-1)), (0, .inl (-1))], .inl 0)),
  .inr (7, [.inl (.ref 3), .inl (.ref 74), .inl (.ref 75), .inl (.ref 76), .inl (.ref 77), .inl (.ref 78), .inl (.ref 79), .inl (.int 0), .inl (.int 0), .inl (.int 0)]),
  .inl (0, 64, .inl ([(63, .inl 0), (62, .inl 0), (61, .inl 0), (60, .inl 0), (59, .inl 0), (58, .inl 0), (57, .inl 0), (56, .inl 0), (55, .inl 0), (54, .inl 0), (53, .inl 0), (52, .inl 0), (51, .inl 0), (50, .inl 0), (49, .inl 0), (48, .inl 0), (47, .inl 0), (46, .inl 0), (45, .inl 0), (44, .inl 0), (43, .inl 0), (42, .inl 0), (41, .inl 0), (40, .inl 0), (39, .inl 0), (38, .inl 0), (37, .inl 0), (36, .inl 0), (35, .inl 0), (34, .inl 0), (33, .inl 0), (32, .inl 0), (31, .inl 0), (30, .inl 0), (29, .inl 0), (28, .inl 0), (27, .inl 0), (26, .inl 0), (25, .inl 0), (24, .inl 0), (23, .inl 0), (22, .inl 0), (21, .inl 0), (20, .inl 0), (19, .inl 0), (18, .inl 0), (17, .inl 0), (16, .inl 0), (15, .inl 0), (14, .inl 0), (13, .inl 0), (12, .inl 0), (11, .inl 0), (10, .inl 0), (9, .inl 0), (8, .inl 0), (7, .inl 0), (6, .inl 0), (5, .inl 0), (4, .inl 0), (3, .inl 0), (2, .inl 0), (1, .inl 0), (0, .inl 0)], .inl 0)),
  .inl (0, 8, .inl ([(7, .inl (-1)), (6, .inl (-1)), (5, .inl (-1)), (4, .inl (-1)), (3, .inl (-1)), (2, .inl (-1)), (1, .inl (-1)), (0, .inl (-1))], .inl 0)),
  .inl (0, 8, .inl ([(7, .inl 0), (6, .inl 0), (5, .inl 0), (4, .inl 0), (3, .inl 0), (2, .inl 0), (1, .inl 0), (0, .inl 0)], .inl 0)),
  .inl (0, 8, .inl ([(7, .inl 0), (6, .inl 0), (5, .inl 0), (4, .inl 0), (3, .inl 0), (2, .inl 0), (1, .inl 0), (0, .inl 0)], .inl 0)),
  .inl (0, 8, .inl ([(7, .inl 0), (6, .inl 0), (5, .inl 0), (4, .inl 0), (3, .inl 0), (2, .inl 0), (1, .inl 0), (0, .inl 0)], .inl 0)),
  .inl (0, 24, .inl ([(23, .inl (-1)), (22, .inl (-1)), (21, .inl (-1)), (20, .inl (-1)), (19, .inl (-1)), (18, .inl (-1)), (17, .inl (-1)), (16, .inl (-1)), (15, .inl (-1)), (14, .inl (-1)), (13, .inl (-1)), (12, .inl (-1)), (11, .inl (-1)), (10, .inl (-1)), (9, .inl (-1)), (8, .inl (-1)), (7, .inl (-1)), (6, .inl (-1)), (5, .inl (-1)), (4, .inl (-1)), (3, .inl (-1)), (2, .inl (-1)), (1, .inl (-1)), (0, .inl (-1))], .inl 0))]
def kC5 : List KE := [.inr (7, [.inl (.ref 3), .inl (.ref 81), .inl (.ref 82), .inl (.ref 83), .inl (.ref 84), .inl (.ref 85), .inl (.ref 86), .inl (.int 0), .inl (.int 0), .inl (.int 0)]),
  .inl (0, 64, .inl ([(63, .inl 0), (62, .inl 0), (61, .inl 0), (60, .inl 0), (59, .inl 0), (58, .inl 0), (57, .inl 0), (56, .inl 0), (55, .inl 0), (54, .inl 0), (53, .inl 0), (52, .inl 0), (51, .inl 0), (50, .inl 0), (49, .inl 0), (48, .inl 0), (47, .inl 0), (46, .inl 0), (45, .inl 0), (44, .inl 0), (43, .inl 0), (42, .inl 0), (41, .inl 0), (40, .inl 0), (39, .inl 0), (38, .inl 0), (37, .inl 0), (36, .inl 0), (35, .inl 0), (34, .inl 0), (33, .inl 0), (32, .inl 0), (31, .inl 0), (30, .inl 0), (29, .inl 0), (28, .inl 0), (27, .inl 0), (26, .inl 0), (25, .inl 0), (24, .inl 0), (23, .inl 0), (22, .inl 0), (21, .inl 0), (20, .inl 0), (19, .inl 0), (18, .inl 0), (17, .inl 0), (16, .inl 0), (15, .inl 0), (14, .inl 0), (13, .inl 0), (12, .inl 0), (11, .inl 0), (10, .inl 0), (9, .inl 0), (8, .inl 0), (7, .inl 0), (6, .inl 0), (5, .inl 0), (4, .inl 0), (3, .inl 0), (2, .inl 0), (1, .inl 0), (0, .inl 0)], .inl 0)),
  .inl (0, 8, .inl ([(7, .inl (-1)), (6, .inl (-1)), (5, .inl (-1)), (4, .inl (-1)), (3, .inl (-1)), (2, .inl (-1)), (1, .inl (-1)), (0, .inl (-1))], .inl 0)),
  .inl (0, 8, .inl ([(7, .inl 0), (6, .inl 0), (5, .inl 0), (4, .inl 0), (3, .inl 0), (2, .inl 0), (1, .inl 0), (0, .inl 0)], .inl 0)),
  .inl (0, 8, .inl ([(7, .inl 0), (6, .inl 0), (5, .inl 0), (4, .inl 0), (3, .inl 0), (2, .inl 0), (1, .inl 0), (0, .inl 0)], .inl 0)),
  .inl (0, 8, .inl ([(7, .inl 0), (6, .inl 0), (5, .inl 0), (4, .inl 0), (3, .inl 0), (2, .inl 0), (1, .inl 0), (0, .inl 0)], .inl 0)),
  .inl (0, 24, .inl ([(23, .inl (-1)), (22, .inl (-1)), (21, .inl (-1)), (20, .inl (-1)), (19, .inl (-1)), (18, .inl (-1)), (17, .inl (-1)), (16, .inl (-1)), (15, .inl (-1)), (14, .inl (-1)), (13, .inl (-1)), (12, .inl (-1)), (11, .inl (-1)), (10, .inl (-1)), (9, .inl (-1)), (8, .inl (-1)), (7, .inl (-1)), (6, .inl (-1)), (5, .inl (-1)), (4, .inl (-1)), (3, .inl (-1)), (2, .inl (-1)), (1, .inl (-1)), (0, .inl (-1))], .inl 0)),
  .inl (6, 2, .inr (.inr [(1, some 129), (0, some 110)])),
  .inr (3, [.inl (.ref 89), .inl (.ref 90), .inl (.ref 91), .inl (.int 0), .inl (.int 0), .inl (.int 0)]),
  .inl (0, 64, .inl ([], .inl 0)),
  .inl (0, 24, .inl ([], .inl 0)),
  .inl (0, 8, .inl ([(7, .inl (-1)), (6, .inl (-1)), (5, .inl (-1)), (4, .inl (-1)), (3, .inl (-1)), (2, .inl (-1)), (1, .inl (-1)), (0, .inl (-1))], .inl 0)),
  .inr (0, [.inl (.ref 93), .inl (.int (-1)), .inl (.int (-1))]),
  .inl (0, 8, .inl ([], .inl 0)),
  .inr (6, [.inl (.ref 95), .inl (.int 0)]),
  .inl (3, 40, .inl ([], .inl 0))]
def kC6 : List KE := [.inr (1, [.inl (.ref 97), .inl (.ref 98), .inl (.ref 99), .inl (.int 0), .inl (.int 0), .inl (.int 0), .inl (.int 0), .inl (.int 0), .inl (.int 0)]),
  .inl (0, 40, .inl ([], .inl 0)),
  .inl (0, 40, .inl ([], .inl 0)),
  .inl (0, 40, .inl ([], .inl 0)),
  .inr (5, [.inl (.ref 101), .inl (.ref 102), .inl (.ref 103), .inl (.ref 104), .inl (.int 0), .inl (.int 0)]),
  .inl (0, 40, .inl ([], .inl 0)),
  .inl (0, 40, .inl ([], .inl 0)),
  .inl (0, 40, .inl ([], .inl 0)),
  .inl (0, 20, .inl ([], .inl 0)),
  .inr (5, [.inl (.ref 106), .inl (.ref 107), .inl (.ref 108), .inl (.ref 109), .inl (.int 0), .inl (.int 0)]),
  .inl (0, 40, .inl ([], .inl 0)),
  .inl (0, 40, .inl ([], .inl 0)),
  .inl (0, 40, .inl ([], .inl 0)),
  .inl (0, 20, .inl ([], .inl 0)),
  .inr (2, [.inl (.ref 111), .inl (.ref 122), .inl (.ref 117), .inl (.int 0)]),
  .inr (4, [.inl (.ref 112), .inl (.ref 113), .inl (.ref 114), .inl (.ref 115), .inl (.ref 116), .inl (.int 0), .inl (.int 0), .inl (.int 0), .inl (.int 0)])]
def kC7 : List KE := [.inl (1, 8, .inr (.inl ([], 0))),
  .inl (1, 8, .inr (.inl ([], 0))),
  .inl (0, 8, .inl ([], .inl 0)),
  .inl (0, 8, .inl ([], .inl 0)),
  .inl (0, 8, .inl ([], .inl 0)),
  .inr (5, [.inl (.ref 118), .inl (.ref 119), .inl (.ref 120), .inl (.ref 121), .inl (.int 0), .inl (.int 0)]),
  .inl (0, 40, .inl ([], .inl 0)),
  .inl (0, 40, .inl ([], .inl 0)),
  .inl (0, 40, .inl ([], .inl 0)),
  .inl (0, 20, .inl ([], .inl 0)),
  .inr (7, [.inl (.ref 3), .inl (.ref 123), .inl (.ref 124), .inl (.ref 125), .inl (.ref 126), .inl (.ref 127), .inl (.ref 128), .inl (.int 0), .inl (.int 0), .inl (.int 0)]),
  .inl (0, 64, .inl ([(63, .inl 0), (62, .inl 0), (61, .inl 0), (60, .inl 0), (59, .inl 0), (58, .inl 0), (57, .inl 0), (56, .inl 0), (55, .inl 0), (54, .inl 0), (53, .inl 0), (52, .inl 0), (51, .inl 0), (50, .inl 0), (49, .inl 0), (48, .inl 0), (47, .inl 0), (46, .inl 0), (45, .inl 0), (44, .inl 0), (43, .inl 0), (42, .inl 0), (41, .inl 0), (40, .inl 0), (39, .inl 0), (38, .inl 0), (37, .inl 0), (36, .inl 0), (35, .inl 0), (34, .inl 0), (33, .inl 0), (32, .inl 0), (31, .inl 0), (30, .inl 0), (29, .inl 0), (28, .inl 0), (27, .inl 0), (26, .inl 0), (25, .inl 0), (24, .inl 0), (23, .inl 0), (22, .inl 0), (21, .inl 0), (20, .inl 0), (19, .inl 0), (18, .inl 0), (17, .inl 0), (16, .inl 0), (15, .inl 0), (14, .inl 0), (13, .inl 0), (12, .inl 0), (11, .inl 0), (10, .inl 0), (9, .inl 0), (8, .inl 0), (7, .inl 0), (6, .inl 0), (5, .inl 0), (4, .inl 0), (3, .inl 0), (2, .inl 0), (1, .inl 0), (0, .inl 0)], .inl 0)),
  .inl (0, 8, .inl ([(7, .inl (-1)), (6, .inl (-1)), (5, .inl (-1)), (4, .inl (-1)), (3, .inl (-1)), (2, .inl (-1)), (1, .inl (-1)), (0, .inl (-1))], .inl 0)),
  .inl (0, 8, .inl ([(7, .inl 0), (6, .inl 0), (5, .inl 0), (4, .inl 0), (3, .inl 0), (2, .inl 0), (1, .inl 0), (0, .inl 0)], .inl 0)),
  .inl (0, 8, .inl ([(7, .inl 0), (6, .inl 0), (5, .inl 0), (4, .inl 0), (3, .inl 0), (2, .inl 0), (1, .inl 0), (0, .inl 0)], .inl 0)),
  .inl (0, 8, .inl ([(7, .inl 0), (6, .inl 0), (5, .inl 0), (4, .inl 0), (3, .inl 0), (2, .inl 0), (1, .inl 0), (0, .inl 0)], .inl 0))]
def kC8 : List KE := [.inl (0, 24, .inl ([(23, .inl (-1)), (22, .inl (-1)), (21, .inl (-1)), (20, .inl (-1)), (19, .inl (-1)), (18, .inl (-1)), (17, .inl (-1)), (16, .inl (-1)), (15, .inl (-1)), (14, .inl (-1)), (13, .inl (-1)), (12, .inl (-1)), (11, .inl (-1)), (10, .inl (-1)), (9, .inl (-1)), (8, .inl (-1)), (7, .inl (-1)), (6, .inl (-1)), (5, .inl (-1)), (4, .inl (-1)), (3, .inl (-1)), (2, .inl (-1)), (1, .inl (-1)), (0, .inl (-1))], .inl 0)),
  .inr (2, [.inl (.ref 130), .inl (.ref 141), .inl (.ref 136), .inl (.int 0)]),
  .inr (4, [.inl (.ref 131), .inl (.ref 132), .inl (.ref 133), .inl (.ref 134), .inl (.ref 135), .inl (.int 0), .inl (.int 0), .inl (.int 0), .inl (.int 0)]),
  .inl (1, 8, .inr (.inl ([], 0))),
  .inl (1, 8, .inr (.inl ([], 0))),
  .inl (0, 8, .inl ([], .inl 0)),
  .inl (0, 8, .inl ([], .inl 0)),
  .inl (0, 8, .inl ([], .inl 0)),
  .inr (5, [.inl (.ref 137), .inl (.ref 138), .inl (.ref 139), .inl (.ref 140), .inl (.int 0), .inl (.int 0)]),
  .inl (0, 40, .inl ([], .inl 0)),
  .inl (0, 40, .inl ([], .inl 0)),
  .inl (0, 40, .inl ([], .inl 0)),
  .inl (0, 20, .inl ([], .inl 0)),
  .inr (7, [.inl (.ref 3), .inl (.ref 142), .inl (.ref 143), .inl (.ref 144), .inl (.ref 145), .inl (.ref 146), .inl (.ref 147), .inl (.int 0), .inl (.int 0), .inl (.int 0)]),
  .inl (0, 64, .inl ([(63, .inl 0), (62, .inl 0), (61, .inl 0), (60, .inl 0), (59, .inl 0), (58, .inl 0), (57, .inl 0), (56, .inl 0), (55, .inl 0), (54, .inl 0), (53, .inl 0), (52, .inl 0), (51, .inl 0), (50, .inl 0), (49, .inl 0), (48, .inl 0), (47, .inl 0), (46, .inl 0), (45, .inl 0), (44, .inl 0), (43, .inl 0), (42, .inl 0), (41, .inl 0), (40, .inl 0), (39, .inl 0), (38, .inl 0), (37, .inl 0), (36, .inl 0), (35, .inl 0), (34, .inl 0), (33, .inl 0), (32, .inl 0), (31, .inl 0), (30, .inl 0), (29, .inl 0), (28, .inl 0), (27, .inl 0), (26, .inl 0), (25, .inl 0), (24, .inl 0), (23, .inl 0), (22, .inl 0), (21, .inl 0), (20, .inl 0), (19, .inl 0), (18, .inl 0), (17, .inl 0), (16, .inl 0), (15, .inl 0), (14, .inl 0), (13, .inl 0), (12, .inl 0), (11, .inl 0), (10, .inl 0), (9, .inl 0), (8, .inl 0), (7, .inl 0), (6, .inl 0), (5, .inl 0), (4, .inl 0), (3, .inl 0), (2, .inl 0), (1, .inl 0), (0, .inl 0)], .inl 0)),
  .inl (0, 8, .inl ([(7, .inl (-1)), (6, .inl (-1)), (5, .inl (-1)), (4, .inl (-1)), (3, .inl (-1)), (2, .inl (-1)), (1, .inl (-1)), (0, .inl (-1))], .inl 0))]
def kC9 : List KE := [.inl (0, 8, .inl ([(7, .inl 0), (6, .inl 0), (5, .inl 0), (4, .inl 0), (3, .inl 0), (2, .inl 0), (1, .inl 0), (0, .inl 0)], .inl 0)),
  .inl (0, 8, .inl ([(7, .inl 0), (6, .inl 0), (5, .inl 0), (4, .inl 0), (3, .inl 0), (2, .inl 0), (1, .inl 0), (0, .inl 0)], .inl 0)),
  .inl (0, 8, .inl ([(7, .inl 0), (6, .inl 0), (5, .inl 0), (4, .inl 0), (3, .inl 0), (2, .inl 0), (1, .inl 0), (0, .inl 0)], .inl 0)),
  .inl (0, 24, .inl ([(23, .inl (-1)), (22, .inl (-1)), (21, .inl (-1)), (20, .inl (-1)), (19, .inl (-1)), (18, .inl (-1)), (17, .inl (-1)), (16, .inl (-1)), (15, .inl (-1)), (14, .inl (-1)), (13, .inl (-1)), (12, .inl (-1)), (11, .inl (-1)), (10, .inl (-1)), (9, .inl (-1)), (8, .inl (-1)), (7, .inl (-1)), (6, .inl (-1)), (5, .inl (-1)), (4, .inl (-1)), (3, .inl (-1)), (2, .inl (-1)), (1, .inl (-1)), (0, .inl (-1))], .inl 0)),
  .inr (11, [.inl (.int 0), .inl (.ref 149), .inl (.int 0), .inl (.int 0), .inl (.int 0), .inl (.int 0), .inl (.int 0), .inl (.int 0), .inl (.int 0), .inl (.int 0), .inl (.int 0), .inl (.int 0), .inl (.long 0), .inl (.int 0), .inl (.ref 150), .inl (.ref 151), .inl (.ref 152), .inl (.ref 153), .inl (.ref 154), .inl (.ref 155), .inl (.ref 156), .inl (.ref 157), .inl (.ref 158), .inl (.int 0), .inl (.int 0), .inl (.ref 159), .inl (.ref 160), .inl (.ref 161), .inl (.ref 162), .inl (.int 0), .inl (.int 0), .inl (.int (-1)), .inl (.int (-1)), .inl (.ref 163), .inl (.int 0), .inl (.int 0), .inl (.ref 164), .inl (.ref 165), .inl (.int 0), .inl (.int 0), .inl (.ref 166), .inl (.int 0), .inl (.int 0), .inl (.int 0), .inl (.int 0)]),
  .inl (0, 940, .inl ([], .inl 0)),
  .inl (0, 456, .inl ([(205, .inl (-1)), (204, .inl (-1)), (203, .inl (-1)), (202, .inl (-1)), (201, .inl (-1)), (200, .inl (-1)), (199, .inl (-1)), (198, .inl (-1)), (197, .inl 0), (189, .inl 0), (181, .inl (-1)), (180, .inl (-1)), (179, .inl (-1)), (196, .inl 0), (188, .inl 0), (178, .inl (-1)), (177, .inl (-1)), (176, .inl (-1)), (195, .inl 0), (187, .inl 0), (175, .inl (-1)), (174, .inl (-1)), (173, .inl (-1)), (194, .inl 0), (186, .inl 0), (172, .inl (-1)), (171, .inl (-1)), (170, .inl (-1)), (193, .inl 0), (185, .inl 0), (169, .inl (-1)), (168, .inl (-1)), (167, .inl (-1)), (192, .inl 0), (184, .inl 0), (166, .inl (-1)), (165, .inl (-1)), (164, .inl (-1)), (191, .inl 0), (183, .inl 0), (163, .inl (-1)), (162, .inl (-1)), (161, .inl (-1)), (190, .inl 0), (182, .inl 0), (160, .inl (-1)), (159, .inl (-1)), (158, .inl (-1)), (157, .inl 0), (156, .inl 0), (155, .inl 0), (154, .inl 0), (153, .inl 0), (152, .inl 0), (151, .inl 0), (150, .inl 0), (149, .inl 0), (148, .inl 0), (147, .inl 0), (146, .inl 0), (145, .inl 0), (144, .inl 0), (143, .inl 0), (142, .inl 0), (141, .inl 0), (140, .inl 0), (139, .inl 0), (138, .inl 0), (137, .inl 0), (136, .inl 0), (135, .inl 0), (134, .inl 0), (133, .inl 0), (132, .inl 0), (131, .inl 0), (130, .inl 0), (129, .inl 0), (128, .inl 0), (127, .inl 0), (126, .inl 0), (125, .inl 0), (124, .inl 0), (123, .inl 0), (122, .inl 0), (121, .inl 0), (120, .inl 0), (119, .inl 0), (118, .inl 0), (117, .inl 0), (116, .inl 0), (115, .inl 0), (114, .inl 0), (113, .inl 0), (112, .inl 0), (111, .inl 0), (110, .inl 0), (109, .inl 0), (108, .inl 0), (107, .inl 0), (106, .inl 0), (105, .inl 0), (104, .inl 0), (103, .inl 0), (102, .inl 0), (101, .inl 0), (100, .inl 0), (99, .inl 0), (98, .inl 0), (97, .inl 0), (96, .inl 0), (95, .inl 0), (94, .inl 0), (93, .inl 0), (455, .inl 0), (454, .inl 0), (453, .inl 0), (452, .inl 0), (451, .inl 0), (450, .inl 0), (449, .inl 0), (448, .inl 0), (447, .inl 0), (446, .inl 0), (445, .inl 0), (444, .inl 0), (443, .inl 0), (442, .inl 0), (441, .inl 0), (440, .inl 0), (439, .inl 0), (438, .inl 0), (437, .inl 0), (436, .inl 0), (435, .inl 0), (434, .inl 0), (433, .inl 0), (432, .inl 0), (431, .inl 0), (430, .inl 0), (429, .inl 0), (428, .inl 0), (427, .inl 0), (426, .inl 0), (425, .inl 0), (424, .inl 0), (423, .inl 0), (422, .inl 0), (421, .inl 0), (420, .inl 0), (419, .inl 0), (418, .inl 0), (417, .inl 0), (416, .inl 0), (415, .inl 0), (414, .inl 0), (413, .inl 0), (412, .inl 0), (411, .inl 0), (410, .inl 0), (409, .inl 0), (408, .inl 0), (407, .inl 0), (406, .inl 0), (405, .inl 0), (404, .inl 0), (403, .inl 0), (402, .inl 0), (401, .inl 0), (400, .inl 0), (399, .inl 0), (398, .inl 0), (397, .inl 0), (396, .inl 0), (395, .inl 0), (394, .inl 0), (393, .inl 0), (392, .inl 0), (391, .inl 0), (390, .inl 0), (389, .inl 0), (388, .inl 0), (387, .inl 0), (386, .inl 0), (385, .inl 0), (384, .inl 0), (383, .inl 0), (382, .inl 0), (381, .inl 0), (380, .inl 0), (379, .inl 0), (378, .inl 0), (377, .inl 0), (376, .inl 0), (375, .inl 0), (374, .inl 0), (373, .inl 0), (372, .inl 0), (371, .inl 0), (370, .inl 0), (369, .inl 0), (368, .inl 0), (367, .inl 0), (366, .inl 0), (365, .inl 0), (364, .inl 0), (363, .inl 0), (362, .inl 0), (361, .inl 0), (360, .inl 0), (359, .inl 0), (358, .inl 0), (357, .inl 0), (356, .inl 0), (355, .inl 0), (354, .inl 0), (353, .inl 0), (352, .inl 0), (351, .inl 0), (350, .inl 0), (349, .inl 0), (348, .inl 0), (347, .inl 0), (346, .inl 0), (345, .inl 0), (344, .inl 0), (343, .inl 0), (342, .inl 0), (341, .inl 0), (340, .inl 0), (339, .inl 0), (338, .inl 0), (337, .inl 0), (336, .inl 0), (335, .inl 0), (334, .inl 0), (333, .inl 0), (332, .inl 0), (331, .inl 0), (330, .inl 0), (329, .inl 0), (328, .inl 0), (327, .inl 0), (326, .inl 0), (325, .inl 0), (324, .inl 0), (323, .inl 0), (322, .inl 0), (321, .inl 0), (320, .inl 0), (319, .inl 0), (318, .inl 0), (317, .inl 0), (316, .inl 0), (315, .inl 0), (314, .inl 0), (313, .inl 0), (312, .inl 0), (311, .inl 0), (310, .inl 0), (309, .inl 0), (308, .inl 0), (307, .inl 0), (306, .inl 0), (305, .inl 0), (304, .inl 0), (303, .inl 0), (302, .inl 0), (301, .inl 0), (300, .inl 0), (299, .inl 0), (298, .inl 0), (297, .inl 0), (296, .inl 0), (295, .inl 0), (294, .inl 0), (293, .inl 0), (292, .inl 0), (291, .inl 0), (290, .inl 0), (289, .inl 0), (288, .inl 0), (287, .inl 0), (286, .inl 0), (285, .inl 0), (284, .inl 0), (283, .inl 0), (282, .inl 0), (281, .inl 0), (280, .inl 0), (279, .inl 0), (278, .inl 0), (277, .inl 0), (276, .inl 0), (275, .inl 0), (274, .inl 0), (273, .inl 0), (272, .inl 0), (271, .inl 0), (270, .inl 0), (269, .inl 0), (268, .inl 0), (267, .inl 0), (266, .inl 0), (265, .inl 0), (264, .inl 0), (263, .inl 0), (262, .inl 0), (261, .inl 0), (260, .inl 0), (259, .inl 0), (258, .inl 0), (257, .inl 0), (256, .inl 0), (255, .inl 0), (254, .inl 0), (253, .inl 0), (252, .inl 0), (251, .inl 0), (250, .inl 0), (249, .inl 0), (248, .inl 0), (247, .inl 0), (246, .inl 0), (245, .inl 0), (244, .inl 0), (243, .inl 0), (242, .inl 0), (241, .inl 0), (240, .inl 0), (239, .inl 0), (238, .inl 0), (237, .inl 0), (236, .inl 0), (235, .inl 0), (234, .inl 0), (233, .inl 0), (232, .inl 0), (231, .inl 0), (230, .inl 0), (229, .inl 0), (228, .inl 0), (227, .inl 0), (226, .inl 0), (225, .inl 0), (224, .inl 0), (223, .inl 0), (222, .inl 0), (221, .inl 0), (220, .inl 0), (219, .inl 0), (218, .inl 0), (217, .inl 0), (216, .inl 0), (215, .inl 0), (214, .inl 0), (213, .inl 0), (212, .inl 0), (211, .inl 0), (210, .inl 0), (209, .inl 0), (208, .inl 0), (207, .inl 0), (206, .inl 0), (92, .inl 0)], .inl 0)),
  .inl (0, 92, .inl ([], .inl 0)),
  .inl (0, 912, .inl ([], .inl 0)),
  .inl (0, 976, .inl ([], .inl 0)),
  .inl (0, 122, .inl ([], .inl 0)),
  .inl (1, 16, .inr (.inl ([], 0))),
  .inl (1, 16, .inr (.inl ([], 0))),
  .inl (1, 32, .inr (.inl ([], 0))),
  .inl (4, 2, .inl ([], .inl 0)),
  .inl (0, 24, .inl ([], .inl 0))]
def kC10 : List KE := [.inl (0, 8, .inl ([], .inl 0)),
  .inl (4, 24, .inl ([], .inl 0)),
  .inl (4, 24, .inl ([], .inl 0)),
  .inl (0, 64, .inl ([], .inl 0)),
  .inl (0, 120, .inl ([], .inl 0)),
  .inl (0, 4, .inl ([], .inl 0)),
  .inl (0, 240, .inl ([], .inl 0)),
  .inl (1, 1, .inr (.inl ([], 0)))]
def kW1 : KW := [kC0, kC1, kC2, kC3, kC4, kC5, kC6, kC7, kC8, kC9, kC10]
/-- the law behind its two constructors, at the head of its loop -/
def kS1 : KF := (23, [(4, .inl (.int 0)), (3, .inl (.ref 167)), (2, .inl (.ref 148)), (1, .inl (.ref 0)), (0, .inl (.ref 1000000))], [], kW1, 168, 7728)
/-! The world behind the constructors is typed, and its told rows hold. -/
def lOKc (n : Nat) (x : Int64) : Bool := match n with
  | 0 => true
  | 1 => !(kLS.elem x)
  | m + 2 => (Nat.ble lBig m && decide (x.toInt < 27 ^ (m - lBig))) || (Nat.blt m lBig && decide (x = Int64.ofNat m))
theorem lOKc_ok : ∀ {n : Nat} {x : Int64}, lOKc n x = true → lOK n x := by
  intro n x h
  match n, h with
  | 0, _ => trivial
  | 1, h =>
    intro hm
    have h : (!(kLS.elem x)) = true := h
    rw [List.elem_eq_true_of_mem hm] at h
    cases h
  | m + 2, h =>
    have h : ((Nat.ble lBig m && decide (x.toInt < 27 ^ (m - lBig))) || (Nat.blt m lBig && decide (x = Int64.ofNat m))) = true := h
    rcases Bool.or_eq_true_iff.mp h with h | h
    · have h := Bool.and_eq_true_iff.mp h
      exact Or.inl ⟨Nat.ble_eq.mp h.1, of_decide_eq_true h.2⟩
    · have h := Bool.and_eq_true_iff.mp h
      exact Or.inr ⟨Nat.ble_eq.mp h.1, of_decide_eq_true h.2⟩
def vOKb (E : TEnv) (t : VT) (v : KV) : Bool := match t.1, v with
  | 0, .inl (.int x) => decide (t.2.1 ≤ x.toInt) && decide (x.toInt ≤ t.2.2)
  | 1, .inl (.long x) => lOKc t.2.1.toNat x
  | 2, .inl (.ref a) => Nat.beq a t.2.1.toNat && kokN E.1 t.2.1.toNat
  | 3, .inl (.ref a) => kokN E.1 a && Nat.beq (E.2.1 a) t.2.1.toNat
  | 4, .inl .null => true
  | 4, .inl (.ref a) => kokN E.1 a && Nat.beq (E.2.1 a) t.2.1.toNat
  | 5, .inl .null => true
  | _, _ => false
theorem vOKb_ok {E : TEnv} {t : VT} {v : KV} (h : vOKb E t v = true) : vOK E t v := by
  obtain ⟨n, a, b⟩ := t
  unfold vOKb at h
  split at h
  · rename_i x hn
    have hn : n = 0 := hn
    subst hn
    have h := Bool.and_eq_true_iff.mp h
    exact ⟨x, rfl, of_decide_eq_true h.1, of_decide_eq_true h.2⟩
  · rename_i x hn
    have hn : n = 1 := hn
    subst hn
    exact ⟨x, rfl, lOKc_ok h⟩
  · rename_i x hn
    have hn : n = 2 := hn
    subst hn
    have h := Bool.and_eq_true_iff.mp h
    exact ⟨by rw [kb_t h.1], h.2⟩
  · rename_i x hn
    have hn : n = 3 := hn
    subst hn
    have h := Bool.and_eq_true_iff.mp h
    exact ⟨x, rfl, h.1, kb_t h.2⟩
  · rename_i hn
    have hn : n = 4 := hn
    subst hn
    exact Or.inl rfl
  · rename_i x hn
    have hn : n = 4 := hn
    subst hn
    have h := Bool.and_eq_true_iff.mp h
    exact Or.inr ⟨x, rfl, h.1, kb_t h.2⟩
  · rename_i hn
    have hn : n = 5 := hn
    subst hn
    exact rfl
  · cases h
def kTW1 (E : TEnv) (w : KW) (a : Nat) : Bool := match kwg w a with
  | some e => decide (khd e = (E.2.2 (E.2.1 a)).1) && (List.range (E.2.2 (E.2.1 a)).1.2.2).all (fun k => match kev e k with
    | some v => vOKb E (ksg (E.2.2 (E.2.1 a)).2 k) v
    | none => false)
  | none => false
theorem kTW1_ok {E : TEnv} {w : KW} {a : Nat} (h : kTW1 E w a = true) : ∃ e, kwg w a = some e ∧ khd e = (E.2.2 (E.2.1 a)).1 ∧ ∀ k, k < (E.2.2 (E.2.1 a)).1.2.2 → ∃ v, kev e k = some v ∧ vOK E (ksg (E.2.2 (E.2.1 a)).2 k) v := by
  unfold kTW1 at h
  split at h
  · rename_i e he
    have h := Bool.and_eq_true_iff.mp h
    refine ⟨e, he, of_decide_eq_true h.1, fun k hk => ?_⟩
    have h := List.all_eq_true.mp h.2 k (List.mem_range.mpr hk)
    split at h
    · rename_i v hv
      exact ⟨v, hv, vOKb_ok h⟩
    · cases h
  · cases h
theorem kTW_of {E : TEnv} {w : KW} (h : kfr 0 w = E.1) (ha : (List.range E.1).all (kTW1 E w) = true) : kTW E w := ⟨h, fun a hl => kTW1_ok (List.all_eq_true.mp ha a (List.mem_range.mpr hl))⟩
def qAltb (w : KW) (a p : Nat) (i : Int) (al : QA) : Bool := al.all (fun z => match wval w a (p + z.1) with
  | some (.inl (.int x)) => decide (0 ≤ z.2.1 + z.2.2.1 * i + z.2.2.2 * x.toInt)
  | _ => false)
theorem qAltb_ok {w : KW} {a p : Nat} {i : Int} {al : QA} (h : qAltb w a p i al = true) : qAlt w a p i al := fun z hz => by
  have h := List.all_eq_true.mp h z hz
  split at h
  · rename_i x hx
    exact ⟨x, hx, of_decide_eq_true h⟩
  · cases h
def qRecb (w : KW) (q : QI) (i : Nat) : Bool := q.2.2.2.2.any (fun al => qAltb w q.1 (q.2.1 + q.2.2.1 * i) i al)
theorem qI_of {ph : PHI} {ρ : Nat → Int} {tc : TC} {w : KW} (h : ph.all (fun p => (List.range p.2.2.2.2.1).all (fun i => qRecb w p.2 i)) = true) : qI ph ρ tc w := fun p hp i hi => by
  have h := List.all_eq_true.mp (List.all_eq_true.mp h p hp) i (List.mem_range.mpr hi)
  obtain ⟨al, h1, h2⟩ := List.any_eq_true.mp h
  exact Or.inr ⟨al, h1, qAltb_ok h2⟩
theorem qTW1 : kTW qEnv kW1 := kTW_of (by decide +kernel) (by decide +kernel)
theorem qI1 {ρ : Nat → Int} {tc : TC} : qI qPh ρ tc kW1 := qI_of (by decide +kernel)
