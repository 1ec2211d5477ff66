set_option maxRecDepth 100000 in
theorem qO60 : kMethX qM60 := ⟨kpchkY_ok (gs := [24, 0, 115, 206, 2, 0, 571, 1, 0, 0, 0, 0, 0, 1, 0]) (ps := [4, 6, 7, 0, 2, 8, 5, 9, 10, 2, 11, 5, 5, 12, 13, 1, 2, 14, 3]) (by decide +kernel) (by decide +kernel) (by rfl) (by decide +kernel), qPN4, by decide⟩
set_option maxRecDepth 100000 in
theorem qO61 : kMethX qM61 := ⟨kpchkY_ok (gs := [349]) (ps := [0, 0]) (by decide +kernel) (by decide +kernel) (by rfl) (by decide +kernel), qPN4, by decide⟩
set_option maxRecDepth 100000 in
theorem qO62 : kMethX qM62 := ⟨kpchkY_ok (gs := []) (ps := []) (by decide +kernel) (by decide +kernel) (by rfl) (by decide +kernel), qPN4, by decide⟩
set_option maxRecDepth 100000 in
theorem qO63 : kMethX qM63 := ⟨kpchkY_ok (gs := [23, 115, 1, 136, 0, 66, 1, 1, 1, 567, 1, 0]) (ps := [6, 5, 3, 1, 4, 7, 8, 9, 10, 0, 2, 11]) (by decide +kernel) (by decide +kernel) (by rfl) (by decide +kernel), qPN4, by decide⟩
set_option maxRecDepth 100000 in
theorem qO64 : kMethX qM64 := ⟨kpchkY_ok (gs := [138, 0, 93, 5, 38, 0, 3, 62, 0, 2, 0, 418, 0, 0, 2, 0, 0, 136, 0]) (ps := [6, 2, 9, 6, 3, 10, 8, 7, 4, 1, 5, 9, 10, 17, 11, 12, 0, 13, 18, 14, 15, 0, 16, 8]) (by decide +kernel) (by decide +kernel) (by rfl) (by decide +kernel), qPN4, by decide⟩
set_option maxRecDepth 100000 in
theorem qO65 : kMethX qM65 := ⟨kpchkY_ok (gs := [347]) (ps := [0]) (by decide +kernel) (by decide +kernel) (by rfl) (by decide +kernel), qPN4, by decide⟩
set_option maxRecDepth 100000 in
theorem qO66 : kMethX qM66 := ⟨kpchkY_ok (gs := [228, 8]) (ps := [1, 0]) (by decide +kernel) (by decide +kernel) (by rfl) (by decide +kernel), qPN5, by decide⟩
set_option maxRecDepth 100000 in
theorem qO67 : kMethX qM67 := ⟨kpchkY_ok (gs := [150, 75, 0, 0, 0, 0, 0, 0, 4, 5, 442, 0, 0]) (ps := [1, 1, 10, 12, 11, 0, 2, 2, 10, 12, 11, 0, 3, 3, 10, 12, 11, 0, 4, 4, 10, 12, 11, 0, 5, 5, 10, 12, 11, 0, 6, 6, 7, 7, 8, 8, 9, 9]) (by decide +kernel) (by decide +kernel) (by rfl) (by decide +kernel), qPN5, by decide⟩
set_option maxRecDepth 100000 in
theorem qO68 : kMethX qM68 := ⟨kpchkY_ok (gs := [230, 0, 0, 4, 5]) (ps := [0, 1, 2, 3, 4]) (by decide +kernel) (by decide +kernel) (by rfl) (by decide +kernel), qPN5, by decide⟩
set_option maxRecDepth 100000 in
theorem qO69 : kMethX qM69 := ⟨kpchkY_ok (gs := [137, 89, 497, 0, 0, 90]) (ps := [5, 2, 3, 0, 4, 1]) (by decide +kernel) (by decide +kernel) (by rfl) (by decide +kernel), qPN5, by decide⟩
set_option maxRecDepth 100000 in
theorem qO70 : kMethX qM70 := ⟨kpchkY_ok (gs := [227, 9]) (ps := [1, 0]) (by decide +kernel) (by decide +kernel) (by rfl) (by decide +kernel), qPN5, by decide⟩
set_option maxRecDepth 100000 in
theorem qO71 : kMethX qM71 := ⟨kpchkY_ok (gs := [8, 127, 0, 51, 412, 0, 0, 0, 5, 0, 0, 0, 4, 1, 0]) (ps := [8, 9, 10, 1, 11, 3, 12, 13, 0, 2, 14, 8, 9, 10, 1, 11, 4, 5, 6, 1, 7]) (by decide +kernel) (by decide +kernel) (by rfl) (by decide +kernel), qPN5, by decide⟩
set_option maxRecDepth 100000 in
theorem qO72 : kMethX qM72 := ⟨kpchkY_ok (gs := [237]) (ps := [0]) (by decide +kernel) (by decide +kernel) (by rfl) (by decide +kernel), qPN5, by decide⟩
set_option maxRecDepth 100000 in
theorem qO73 : kMethX qM73 := ⟨kpchkY_ok (gs := [232]) (ps := [0]) (by decide +kernel) (by decide +kernel) (by rfl) (by decide +kernel), qPN5, by decide⟩
set_option maxRecDepth 100000 in
theorem qO74 : kMethX qM74 := ⟨kpchkY_ok (gs := [7, 0, 127, 0, 51, 412, 0, 0, 0, 5, 0, 0, 0, 0, 1, 0, 0, 1, 0]) (ps := [9, 10, 11, 2, 12, 5, 6, 7, 2, 8, 4, 13, 14, 0, 3, 15, 4, 16, 17, 1, 3, 18, 5, 6, 7, 2, 8]) (by decide +kernel) (by decide +kernel) (by rfl) (by decide +kernel), qPN5, by decide⟩
set_option maxRecDepth 100000 in
theorem qO75 : kMethX qM75 := ⟨kpchkY_ok (gs := [226, 5]) (ps := [1, 0]) (by decide +kernel) (by decide +kernel) (by rfl) (by decide +kernel), qPN5, by decide⟩
set_option maxRecDepth 100000 in
theorem qO76 : kMethX qM76 := ⟨kpchkY_ok (gs := [7, 128, 0, 51, 412, 0, 0, 0, 5, 0, 0, 0, 0, 1, 0]) (ps := [8, 9, 10, 1, 11, 3, 12, 13, 0, 2, 14, 8, 9, 10, 1, 11, 4, 5, 6, 1, 7]) (by decide +kernel) (by decide +kernel) (by rfl) (by decide +kernel), qPN5, by decide⟩
set_option maxRecDepth 100000 in
theorem qO77 : kMethX qM77 := ⟨kpchkY_ok (gs := [6, 129, 0, 51, 37, 0, 0, 7, 326, 0, 0, 35, 0, 0, 0, 0, 0, 1, 0, 14, 0, 0, 0, 11, 0, 0, 0, 4, 0, 0, 0]) (ps := [7, 7, 11, 12, 13, 1, 14, 15, 8, 9, 1, 10, 16, 17, 0, 2, 18, 3, 15, 8, 9, 1, 10, 23, 24, 25, 2, 26, 15, 8, 9, 1, 10, 27, 28, 29, 1, 30, 4, 7, 5, 7, 6, 7, 7, 7, 15, 8, 9, 1, 10, 19, 20, 21, 1, 22]) (by decide +kernel) (by decide +kernel) (by rfl) (by decide +kernel), qPN5, by decide⟩
set_option maxRecDepth 100000 in
theorem qO78 : kMethX qM78 := ⟨kpchkY_ok (gs := [136, 0, 0, 425, 0, 0, 35, 0, 0, 0, 0, 18, 0, 0, 0, 11, 0, 0, 0, 0, 0, 0, 0, 0, 0, 0, 0, 0, 0, 0, 0]) (ps := [10, 3, 4, 0, 5, 15, 16, 17, 1, 18, 10, 3, 4, 0, 5, 15, 16, 17, 1, 18, 19, 20, 21, 2, 22, 6, 7, 8, 0, 9, 10, 3, 4, 0, 5, 23, 24, 25, 0, 26, 27, 28, 29, 2, 30, 10, 3, 4, 0, 5, 11, 12, 13, 0, 14]) (by decide +kernel) (by decide +kernel) (by rfl) (by decide +kernel), qPN5, by decide⟩
set_option maxRecDepth 100000 in
theorem qO79 : kMethX qM79 := ⟨kpchkY_ok (gs := [5, 3, 0, 0, 0, 123, 0, 454, 1, 0, 0, 0, 0, 1, 0, 0, 0, 0, 0, 28, 1, 1, 0, 16, 1, 1, 0, 4, 1, 1, 0, 0, 1, 1, 0]) (ps := [7, 8, 9, 10, 5, 11, 12, 13, 0, 6, 14, 19, 8, 9, 10, 5, 11, 20, 21, 1, 6, 22, 23, 8, 9, 10, 5, 11, 24, 25, 2, 6, 26, 27, 8, 9, 10, 5, 11, 28, 29, 3, 6, 30, 31, 8, 9, 10, 5, 11, 32, 33, 4, 6, 34, 15, 16, 17, 5, 18]) (by decide +kernel) (by decide +kernel) (by rfl) (by decide +kernel), qPN5, by decide⟩
set_option maxRecDepth 100000 in
theorem qO80 : kMethX qM80 := ⟨kpchkY_ok (gs := [6, 129, 0, 51, 36, 5, 60, 270, 0, 0, 27, 0, 0, 0, 4, 0, 0, 0, 0, 0, 1, 0, 12, 1, 0, 0, 0]) (ps := [5, 5, 14, 15, 16, 1, 17, 18, 7, 8, 1, 9, 19, 20, 0, 2, 21, 4, 5, 3, 18, 7, 8, 1, 9, 22, 10, 11, 12, 1, 13, 6, 5, 6, 18, 7, 8, 1, 9, 5, 5, 23, 24, 25, 1, 26]) (by decide +kernel) (by decide +kernel) (by rfl) (by decide +kernel), qPN5, by decide⟩
set_option maxRecDepth 100000 in
theorem qO81 : kMethX qM81 := ⟨kpchkY_ok (gs := [136, 94, 11, 320, 0, 0, 27, 0, 0, 0, 4, 0, 0, 0, 0, 18, 0, 0, 0, 49, 1]) (ps := [1, 10, 11, 12, 0, 13, 14, 3, 4, 0, 5, 19, 6, 7, 8, 0, 9, 20, 6, 7, 8, 0, 9, 10, 11, 12, 0, 13, 1, 20, 6, 7, 8, 0, 9, 2, 14, 3, 4, 0, 5, 15, 16, 17, 0, 18]) (by decide +kernel) (by decide +kernel) (by rfl) (by decide +kernel), qPN5, by decide⟩
set_option maxRecDepth 100000 in
theorem qO82 : kMethX qM82 := ⟨kpchkY_ok (gs := [136, 0, 92, 333, 0, 0, 35, 0, 0, 0, 0, 18, 0, 0, 0, 11, 0, 0, 0, 18, 0, 0, 0]) (ps := [10, 3, 4, 0, 5, 15, 16, 17, 1, 18, 19, 20, 21, 1, 22, 10, 3, 4, 0, 5, 15, 16, 17, 1, 18, 2, 6, 7, 8, 0, 9, 2, 10, 3, 4, 0, 5, 11, 12, 13, 0, 14]) (by decide +kernel) (by decide +kernel) (by rfl) (by decide +kernel), qPN5, by decide⟩
set_option maxRecDepth 100000 in
theorem qO83 : kMethX qM83 := ⟨kpchkY_ok (gs := [1, 2, 131, 0, 0, 45, 366, 1, 0, 0, 0, 0, 0, 0, 0, 0, 0, 25, 1, 0]) (ps := [6, 7, 0, 3, 8, 9, 10, 11, 4, 12, 13, 14, 15, 2, 16, 5, 17, 18, 1, 3, 19]) (by decide +kernel) (by decide +kernel) (by rfl) (by decide +kernel), qPN5, by decide⟩
set_option maxRecDepth 100000 in
theorem qO84 : kMethX qM84 := ⟨kpchkY_ok (gs := [137, 92, 431, 0, 0, 0]) (ps := [2, 3, 4, 0, 5, 1]) (by decide +kernel) (by decide +kernel) (by rfl) (by decide +kernel), qPN5, by decide⟩
set_option maxRecDepth 100000 in
theorem qO85 : kMethX qM85 := ⟨kpchkY_ok (gs := [137, 91, 495, 0, 0, 90]) (ps := [5, 2, 3, 0, 4, 1]) (by decide +kernel) (by decide +kernel) (by rfl) (by decide +kernel), qPN5, by decide⟩
set_option maxRecDepth 100000 in
theorem qO86 : kMethX qM86 := ⟨kpchkY_ok (gs := [145, 1108, 1, 1, 0, 0, 8, 1, 1, 1, 1, 1]) (ps := [1, 2, 3, 4, 0, 5, 6, 7, 8, 9, 10, 11]) (by decide +kernel) (by decide +kernel) (by rfl) (by decide +kernel), qPN6, by decide⟩
set_option maxRecDepth 100000 in
theorem qO87 : kMethX qM87 := ⟨kpchkY_ok (gs := []) (ps := []) (by decide +kernel) (by decide +kernel) (by rfl) (by decide +kernel), qPN6, by decide⟩
set_option maxRecDepth 100000 in
theorem qO88 : kMethX qM88 := ⟨kpchkY_ok (gs := [150, 289, 0, 0, 1, 0, 241, 0, 661]) (ps := [1, 1, 8, 7, 6, 0, 2, 2, 8, 7, 6, 0, 3, 3, 8, 7, 6, 0, 4, 4, 5, 5]) (by decide +kernel) (by decide +kernel) (by rfl) (by decide +kernel), qPN6, by decide⟩
set_option maxRecDepth 100000 in
theorem qO89 : kMethX qM89 := ⟨kpchkY_ok (gs := [444, 0]) (ps := [0, 1]) (by decide +kernel) (by decide +kernel) (by rfl) (by decide +kernel), qPN6, by decide⟩
set_option maxRecDepth 100000 in
theorem qO90 : kMethX qM90 := ⟨kpchkY_ok (gs := [49, 95, 94, 43, 155, 2, 0, 873, 1, 0]) (ps := [3, 2, 6, 4, 4, 4, 5, 5, 5, 5, 5, 5, 4, 4, 5, 5, 5, 5, 5, 7, 8, 0, 1, 9, 5]) (by decide +kernel) (by decide +kernel) (by rfl) (by decide +kernel), qPN6, by decide⟩
set_option maxRecDepth 100000 in
theorem qO91 : kMethX qM91 := ⟨kpchkY_ok (gs := [50, 94, 94, 43, 1037, 1, 0]) (ps := [3, 2, 4, 5, 0, 1, 6]) (by decide +kernel) (by decide +kernel) (by rfl) (by decide +kernel), qPN6, by decide⟩
set_option maxRecDepth 100000 in
theorem qO92 : kMethX qM92 := ⟨kpchkY_ok (gs := [1261, 1, 1, 1]) (ps := [0, 1, 2, 3]) (by decide +kernel) (by decide +kernel) (by rfl) (by decide +kernel), qPN6, by decide⟩
set_option maxRecDepth 100000 in
theorem qO93 : kMethX qM93 := ⟨kpchkY_ok (gs := [445]) (ps := [0]) (by decide +kernel) (by decide +kernel) (by rfl) (by decide +kernel), qPN6, by decide⟩
set_option maxRecDepth 100000 in
theorem qO94 : kMethX qM94 := ⟨kpchkY_ok (gs := [137, 0, 6, 138, 155, 0, 0, 278, 0, 0, 9, 0, 0, 12, 0, 0, 28, 0, 0, 29, 0, 0, 85, 0, 0, 424, 0, 0, 0, 0, 0, 0, 0, 0]) (ps := [4, 4, 25, 7, 8, 1, 9, 5, 26, 10, 11, 1, 12, 3, 27, 13, 14, 0, 15, 5, 26, 10, 11, 1, 12, 5, 5, 28, 16, 17, 1, 18, 29, 19, 20, 1, 21, 5, 6, 30, 31, 2, 32, 33, 22, 23, 1, 24, 5, 6, 30, 31, 2, 32, 5, 6, 30, 31, 2, 32]) (by decide +kernel) (by decide +kernel) (by rfl) (by decide +kernel), qPN6, by decide⟩
set_option maxRecDepth 100000 in
theorem qO95 : kMethX qM95 := ⟨kpchkY_ok (gs := [44, 1, 89, 8, 418, 0, 0, 28, 0, 0, 648, 1, 0, 32, 4, 0, 1, 0, 10, 1]) (ps := [10, 11, 0, 3, 12, 18, 13, 7, 8, 2, 9, 19, 13, 7, 8, 2, 9, 18, 13, 7, 8, 2, 9, 15, 16, 1, 3, 17, 14, 4, 5, 2, 6, 10, 11, 0, 3, 12, 15, 16, 1, 3, 17, 15, 16, 1, 3, 17]) (by decide +kernel) (by decide +kernel) (by rfl) (by decide +kernel), qPN6, by decide⟩
set_option maxRecDepth 100000 in
theorem qO96 : kMethX qM96 := ⟨kpchkY_ok (gs := [46, 89, 8, 41, 376, 0, 0, 36, 0, 0, 24, 0, 0, 16, 0, 0, 598, 24, 1, 3, 5, 0, 1, 0, 9]) (ps := [16, 10, 11, 1, 12, 16, 10, 11, 1, 12, 16, 10, 11, 1, 12, 19, 7, 8, 1, 9, 3, 20, 4, 5, 1, 6, 24, 13, 14, 1, 15, 20, 4, 5, 1, 6, 17, 21, 22, 0, 2, 23, 18, 21, 22, 0, 2, 23, 21, 22, 0, 2, 23]) (by decide +kernel) (by decide +kernel) (by rfl) (by decide +kernel), qPN6, by decide⟩
set_option maxRecDepth 100000 in
theorem qO97 : kMethX qM97 := ⟨kpchkY_ok (gs := [45, 0, 0, 0, 87, 8, 37, 7, 253, 118, 0, 0, 28, 0, 0, 5, 0, 0, 24, 0, 0, 617, 0, 0, 0, 0, 1, 1, 0, 0, 8, 1, 1, 1, 1, 1, 1, 0, 0, 1, 0, 0, 0, 1, 0, 0, 1, 0, 1, 1, 0]) (ps := [21, 18, 19, 4, 20, 6, 7, 22, 23, 5, 24, 36, 15, 16, 4, 17, 8, 36, 15, 16, 4, 17, 8, 8, 21, 18, 19, 4, 20, 25, 37, 12, 13, 4, 14, 38, 39, 0, 5, 40, 7, 41, 9, 10, 4, 11, 30, 31, 32, 45, 46, 2, 5, 47, 33, 34, 35, 48, 49, 3, 5, 50, 26, 42, 43, 1, 5, 44, 27, 28, 5, 29, 42, 43, 1, 5, 44]) (by decide +kernel) (by decide +kernel) (by rfl) (by decide +kernel), qPN6, by decide⟩
set_option maxRecDepth 100000 in
theorem qO98 : kMethX qM98 := ⟨kpchkY_ok (gs := [43, 0, 1, 89, 8, 418, 0, 0, 28, 0, 0, 5, 0, 0, 24, 0, 0, 609, 1, 0, 0, 1, 0, 0, 3, 26, 0, 4, 0, 1, 0]) (ps := [24, 26, 8, 9, 3, 10, 27, 5, 6, 3, 7, 20, 21, 1, 4, 22, 28, 29, 2, 4, 30, 17, 18, 0, 4, 19, 23, 14, 15, 3, 16, 25, 11, 12, 3, 13, 27, 5, 6, 3, 7]) (by decide +kernel) (by decide +kernel) (by rfl) (by decide +kernel), qPN6, by decide⟩
set_option maxRecDepth 100000 in
theorem qO99 : kMethX qM99 := ⟨kpchkY_ok (gs := [46, 89, 0, 7, 418, 0, 0, 74, 0, 0, 625, 1, 15, 0, 1, 0, 4]) (ps := [16, 7, 8, 2, 9, 12, 4, 5, 1, 6, 10, 13, 14, 0, 3, 15, 11, 13, 14, 0, 3, 15, 13, 14, 0, 3, 15]) (by decide +kernel) (by decide +kernel) (by rfl) (by decide +kernel), qPN6, by decide⟩
set_option maxRecDepth 100000 in
theorem qO100 : kMethX qM100 := ⟨kpchkY_ok (gs := [43, 92, 8, 37, 376, 0, 0, 40, 0, 0, 89, 0, 0, 542, 0, 0, 1, 0, 35]) (ps := [13, 10, 11, 2, 12, 14, 4, 5, 1, 6, 15, 16, 0, 2, 17, 3, 18, 7, 8, 1, 9]) (by decide +kernel) (by decide +kernel) (by rfl) (by decide +kernel), qPN6, by decide⟩
set_option maxRecDepth 100000 in
theorem qO101 : kMethX qM101 := ⟨kpchkY_ok (gs := [440, 0, 0, 1]) (ps := [3, 3, 0, 0, 3, 1, 3, 2, 3, 3, 3]) (by decide +kernel) (by decide +kernel) (by rfl) (by decide +kernel), qPN6, by decide⟩
set_option maxRecDepth 100000 in
theorem qO102 : kMethX qM102 := ⟨kpchkY_ok (gs := [29, 113, 898, 1, 0]) (ps := [2, 3, 0, 1, 4]) (by decide +kernel) (by decide +kernel) (by rfl) (by decide +kernel), qPN7, by decide⟩
set_option maxRecDepth 100000 in
theorem qO103 : kMethX qM103 := ⟨kpchkY_ok (gs := [390, 0]) (ps := [1, 1, 0, 0, 1, 1, 1]) (by decide +kernel) (by decide +kernel) (by rfl) (by decide +kernel), qPN7, by decide⟩
set_option maxRecDepth 100000 in
theorem qO104 : kMethX qM104 := ⟨kpchkY_ok (gs := [29, 113, 898, 1, 0, 6, 0, 0, 7, 0, 0]) (ps := [5, 6, 7, 8, 9, 10, 2, 3, 0, 1, 4]) (by decide +kernel) (by decide +kernel) (by rfl) (by decide +kernel), qPN7, by decide⟩
set_option maxRecDepth 100000 in
theorem qO105 : kMethX qM105 := ⟨kpchkY_ok (gs := [30, 107, 4, 589, 0, 0, 1, 0, 0, 308, 1, 0, 54, 2]) (ps := [12, 3, 4, 1, 5, 9, 10, 0, 2, 11, 9, 10, 0, 2, 11, 13, 6, 7, 1, 8, 9, 10, 0, 2, 11, 13, 6, 7, 1, 8, 9, 10, 0, 2, 11, 13, 6, 7, 1, 8, 9, 10, 0, 2, 11]) (by decide +kernel) (by decide +kernel) (by rfl) (by decide +kernel), qPN7, by decide⟩
set_option maxRecDepth 100000 in
theorem qO106 : kMethX qM106 := ⟨kpchkY_ok (gs := [390, 0]) (ps := [1, 0, 0]) (by decide +kernel) (by decide +kernel) (by rfl) (by decide +kernel), qPN7, by decide⟩
set_option maxRecDepth 100000 in
theorem qO107 : kMethX qM107 := ⟨kpchkY_ok (gs := [28, 1, 0, 105, 0, 4, 138, 108, 329, 0, 0, 310, 0, 0, 0, 0, 1, 0, 4, 1, 1, 0, 50, 1, 0]) (ps := [7, 6, 11, 12, 13, 3, 14, 15, 16, 0, 5, 17, 18, 8, 9, 4, 10, 19, 20, 1, 5, 21, 19, 20, 1, 5, 21, 19, 20, 1, 5, 21, 22, 23, 2, 5, 24]) (by decide +kernel) (by decide +kernel) (by rfl) (by decide +kernel), qPN7, by decide⟩
set_option maxRecDepth 100000 in
theorem qO108 : kMethX qM108 := ⟨kpchkY_ok (gs := [285]) (ps := [0]) (by decide +kernel) (by decide +kernel) (by rfl) (by decide +kernel), qPN8, by decide⟩
set_option maxRecDepth 100000 in
theorem qO109 : kMethX qM109 := ⟨kpchkY_ok (gs := [285]) (ps := [0, 0]) (by decide +kernel) (by decide +kernel) (by rfl) (by decide +kernel), qPN8, by decide⟩
set_option maxRecDepth 100000 in
theorem qO110 : kMethX qM110 := ⟨kpchkY_ok (gs := [137, 0, 96, 44, 364, 0, 0, 99, 0, 0, 0, 0]) (ps := [3, 7, 8, 9, 0, 10, 3, 2, 11, 4, 5, 1, 6]) (by decide +kernel) (by decide +kernel) (by rfl) (by decide +kernel), qPN8, by decide⟩
set_option maxRecDepth 100000 in
theorem qO111 : kMethX qM111 := ⟨kpchkY_ok (gs := [0, 137, 134, 1, 0]) (ps := [2, 3, 0, 1, 4]) (by decide +kernel) (by decide +kernel) (by rfl) (by decide +kernel), qPN8, by decide⟩
set_option maxRecDepth 100000 in
theorem qO112 : kMethX qM112 := ⟨kpchkY_ok (gs := [138, 102, 38, 451, 0, 0, 0]) (ps := [2, 1, 3, 4, 5, 0, 6]) (by decide +kernel) (by decide +kernel) (by rfl) (by decide +kernel), qPN8, by decide⟩
set_option maxRecDepth 100000 in
theorem qO113 : kMethX qM113 := ⟨kpchkY_ok (gs := [150, 134, 0, 0, 0, 0, 0, 0, 2, 392, 0, 4]) (ps := [1, 1, 11, 10, 9, 0, 2, 2, 11, 10, 9, 0, 3, 3, 11, 10, 9, 0, 4, 4, 11, 10, 9, 0, 5, 5, 11, 10, 9, 0, 6, 6, 11, 10, 9, 0, 7, 7, 8, 8]) (by decide +kernel) (by decide +kernel) (by rfl) (by decide +kernel), qPN8, by decide⟩
set_option maxRecDepth 100000 in
theorem qO114 : kMethX qM114 := ⟨kpchkY_ok (gs := [137, 0, 141, 8, 430, 0, 0, 0, 90, 0, 0, 0]) (ps := [4, 5, 6, 1, 7, 3, 2, 8, 9, 10, 0, 11]) (by decide +kernel) (by decide +kernel) (by rfl) (by decide +kernel), qPN8, by decide⟩
set_option maxRecDepth 100000 in
theorem qO115 : kMethX qM115 := ⟨kpchkY_ok (gs := [138, 96, 44, 455, 0, 0, 0, 29, 0, 0, 0, 1, 0, 0, 0]) (ps := [2, 1, 11, 12, 13, 0, 14, 7, 8, 9, 0, 10, 3, 4, 5, 0, 6]) (by decide +kernel) (by decide +kernel) (by rfl) (by decide +kernel), qPN8, by decide⟩
set_option maxRecDepth 100000 in
theorem qO116 : kMethX qM116 := ⟨kpchkY_ok (gs := [297, 836]) (ps := [0, 1, 0, 0]) (by decide +kernel) (by decide +kernel) (by rfl) (by decide +kernel), qPN8, by decide⟩
set_option maxRecDepth 100000 in
theorem qO117 : kMethX qM117 := ⟨kpchkY_ok (gs := [137, 0, 16, 79, 44, 364, 0, 0, 99, 0, 0, 0, 0, 257, 0, 0]) (ps := [4, 8, 9, 10, 0, 11, 12, 5, 6, 1, 7, 4, 3, 12, 5, 6, 1, 7, 13, 14, 2, 15]) (by decide +kernel) (by decide +kernel) (by rfl) (by decide +kernel), qPN8, by decide⟩
set_option maxRecDepth 100000 in
theorem qO118 : kMethX qM118 := ⟨kpchkY_ok (gs := [20, 117, 155, 425, 0, 0, 0, 170, 1, 0, 0, 0, 0, 0]) (ps := [3, 4, 5, 1, 6, 7, 8, 0, 1, 9, 2, 10, 11, 12, 1, 13]) (by decide +kernel) (by decide +kernel) (by rfl) (by decide +kernel), qPN8, by decide⟩
set_option maxRecDepth 100000 in
theorem qO119 : kMethX qM119 := ⟨kpchkY_ok (gs := [138, 102, 38, 439, 0, 0, 0]) (ps := [2, 1, 3, 4, 5, 0, 6]) (by decide +kernel) (by decide +kernel) (by rfl) (by decide +kernel), qPN8, by decide⟩
