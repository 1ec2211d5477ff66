set_option maxRecDepth 100000 in
theorem qO120 : kMethX qM120 := ⟨kpchkY_ok (gs := [138, 102, 38, 451, 0, 0, 0]) (ps := [2, 1, 3, 4, 5, 0, 6]) (by decide +kernel) (by decide +kernel) (by rfl) (by decide +kernel), qPN8, by decide⟩
set_option maxRecDepth 100000 in
theorem qO121 : kMethX qM121 := ⟨kpchkY_ok (gs := [18, 13, 0, 104, 96, 5, 38, 13, 2, 530, 1, 0, 298, 1, 0, 1, 1, 0]) (ps := [8, 7, 6, 4, 6, 5, 6, 5, 12, 13, 1, 3, 14, 15, 16, 2, 3, 17, 12, 13, 1, 3, 14, 6, 4, 12, 13, 1, 3, 14, 15, 16, 2, 3, 17, 9, 10, 0, 3, 11]) (by decide +kernel) (by decide +kernel) (by rfl) (by decide +kernel), qPN8, by decide⟩
set_option maxRecDepth 100000 in
theorem qO122 : kMethX qM122 := ⟨kpchkY_ok (gs := [19, 118, 0, 101, 35, 0, 0, 0, 5, 1, 0, 4, 537, 1, 0]) (ps := [7, 3, 9, 10, 10, 12, 13, 0, 1, 14, 8, 4, 5, 2, 6, 11, 11]) (by decide +kernel) (by decide +kernel) (by rfl) (by decide +kernel), qPN8, by decide⟩
set_option maxRecDepth 100000 in
theorem qO123 : kMethX qM123 := ⟨kpchkY_ok (gs := [16, 120, 0, 141, 364, 0, 0, 5, 0, 0, 80, 0, 0, 0, 7, 0, 0, 0, 0, 67, 0, 1, 0]) (ps := [20, 21, 0, 2, 22, 10, 11, 12, 2, 13, 3, 14, 15, 16, 1, 17, 18, 4, 5, 2, 6, 19, 7, 8, 2, 9]) (by decide +kernel) (by decide +kernel) (by rfl) (by decide +kernel), qPN8, by decide⟩
set_option maxRecDepth 100000 in
theorem qO124 : kMethX qM124 := ⟨kpchkY_ok (gs := [285]) (ps := [0]) (by decide +kernel) (by decide +kernel) (by rfl) (by decide +kernel), qPN8, by decide⟩
set_option maxRecDepth 100000 in
theorem qO125 : kMethX qM125 := ⟨kpchkY_ok (gs := [138, 506, 0, 0, 103]) (ps := [4, 1, 2, 0, 3]) (by decide +kernel) (by decide +kernel) (by rfl) (by decide +kernel), qPN8, by decide⟩
set_option maxRecDepth 100000 in
theorem qO126 : kMethX qM126 := ⟨kpchkY_ok (gs := [138, 597, 0, 0, 0]) (ps := [1, 2, 3, 0, 4, 1, 2, 3, 0, 4, 1, 2, 3, 0, 4]) (by decide +kernel) (by decide +kernel) (by rfl) (by decide +kernel), qPN8, by decide⟩
set_option maxRecDepth 100000 in
theorem qO127 : kMethX qM127 := ⟨kpchkY_ok (gs := [137, 142, 7, 435, 0, 0, 0]) (ps := [1, 3, 4, 5, 0, 6, 2]) (by decide +kernel) (by decide +kernel) (by rfl) (by decide +kernel), qPN8, by decide⟩
set_option maxRecDepth 100000 in
theorem qO128 : kMethX qM128 := ⟨kpchkY_ok (gs := [138, 597, 0, 0, 0, 3, 0, 0, 0]) (ps := [1, 2, 3, 0, 4, 5, 6, 7, 0, 8]) (by decide +kernel) (by decide +kernel) (by rfl) (by decide +kernel), qPN8, by decide⟩
set_option maxRecDepth 100000 in
theorem qO129 : kMethX qM129 := ⟨kpchkY_ok (gs := [137, 142, 10, 371, 0, 0, 107]) (ps := [1, 6, 3, 4, 0, 5, 2]) (by decide +kernel) (by decide +kernel) (by rfl) (by decide +kernel), qPN8, by decide⟩
set_option maxRecDepth 100000 in
theorem qO130 : kMethX qM130 := ⟨kpchkY_ok (gs := [16, 121, 151, 449, 0, 0, 77, 1, 0]) (ps := [6, 7, 0, 1, 8, 3, 4, 1, 5, 2]) (by decide +kernel) (by decide +kernel) (by rfl) (by decide +kernel), qPN8, by decide⟩
set_option maxRecDepth 100000 in
theorem qO131 : kMethX qM131 := ⟨kpchkY_ok (gs := [14, 123, 604, 0, 0, 0, 35, 1, 0]) (ps := [2, 3, 4, 1, 5, 6, 7, 0, 1, 8]) (by decide +kernel) (by decide +kernel) (by rfl) (by decide +kernel), qPN8, by decide⟩
set_option maxRecDepth 100000 in
theorem qO132 : kMethX qM132 := ⟨kpchkY_ok (gs := [14, 123, 581, 0, 0, 0, 8, 0, 0, 0, 0, 0, 0, 0, 38, 0, 0, 0, 0, 1, 0]) (ps := [2, 3, 4, 1, 5, 14, 15, 16, 1, 17, 6, 7, 8, 1, 9, 18, 19, 0, 1, 20, 10, 11, 12, 1, 13]) (by decide +kernel) (by decide +kernel) (by rfl) (by decide +kernel), qPN8, by decide⟩
set_option maxRecDepth 100000 in
theorem qO133 : kMethX qM133 := ⟨kpchkY_ok (gs := [137, 0, 105, 35, 382, 0, 0, 81, 0, 0, 0, 22, 12, 0, 0, 0, 0, 0, 0, 0]) (ps := [3, 7, 8, 9, 0, 10, 3, 11, 4, 5, 0, 6, 3, 12, 13, 14, 0, 15, 3, 2, 16, 17, 18, 1, 19]) (by decide +kernel) (by decide +kernel) (by rfl) (by decide +kernel), qPN8, by decide⟩
set_option maxRecDepth 100000 in
theorem qO134 : kMethX qM134 := ⟨kpchkY_ok (gs := [138, 597, 0, 0, 0]) (ps := [1, 2, 3, 0, 4]) (by decide +kernel) (by decide +kernel) (by rfl) (by decide +kernel), qPN8, by decide⟩
set_option maxRecDepth 100000 in
theorem qO135 : kMethX qM135 := ⟨kpchkY_ok (gs := [15, 0, 0, 0, 119, 152, 361, 0, 0, 118, 0, 0, 0, 28, 1, 0, 9, 0, 1, 0, 0, 1, 0, 0, 1, 0]) (ps := [9, 10, 11, 4, 12, 13, 14, 0, 4, 15, 16, 6, 7, 4, 8, 16, 6, 7, 4, 8, 5, 5, 5, 5, 17, 18, 1, 4, 19, 20, 21, 2, 4, 22, 23, 24, 3, 4, 25]) (by decide +kernel) (by decide +kernel) (by rfl) (by decide +kernel), qPN8, by decide⟩
set_option maxRecDepth 100000 in
theorem qO136 : kMethX qM136 := ⟨kpchkY_ok (gs := [138, 627, 0, 0, 34, 0, 0, 333, 0]) (ps := [7, 1, 2, 0, 3, 8, 4, 5, 0, 6]) (by decide +kernel) (by decide +kernel) (by rfl) (by decide +kernel), qPN8, by decide⟩
set_option maxRecDepth 100000 in
theorem qO137 : kMethX qM137 := ⟨kpchkY_ok (gs := []) (ps := []) (by decide +kernel) (by decide +kernel) (by rfl) (by decide +kernel), qPN8, by decide⟩
set_option maxRecDepth 100000 in
theorem qO138 : kMethX qM138 := ⟨kpchkY_ok (gs := [137, 0, 141, 5, 0, 0, 0, 0, 372, 0, 0, 58, 0, 0, 0, 12, 0, 0, 30, 36, 0, 0, 0, 0, 0, 0, 0]) (ps := [15, 16, 1, 17, 2, 18, 8, 9, 0, 10, 2, 11, 12, 13, 0, 14, 7, 3, 4, 19, 20, 21, 1, 22, 5, 6, 2, 23, 24, 25, 0, 26]) (by decide +kernel) (by decide +kernel) (by rfl) (by decide +kernel), qPN8, by decide⟩
set_option maxRecDepth 100000 in
theorem qO139 : kMethX qM139 := ⟨kpchkY_ok (gs := [137, 142, 7, 435, 0, 0, 0]) (ps := [1, 3, 4, 5, 0, 6, 2]) (by decide +kernel) (by decide +kernel) (by rfl) (by decide +kernel), qPN8, by decide⟩
set_option maxRecDepth 100000 in
theorem qO140 : kMethX qM140 := ⟨kpchkY_ok (gs := [139, 137, 0, 0, 5, 0, 0, 0, 0, 0, 0, 2]) (ps := [4, 1, 2, 0, 3, 5, 1, 2, 0, 3, 6, 1, 2, 0, 3, 7, 1, 2, 0, 3, 8, 1, 2, 0, 3, 9, 1, 2, 0, 3, 10, 11]) (by decide +kernel) (by decide +kernel) (by rfl) (by decide +kernel), qPN8, by decide⟩
set_option maxRecDepth 100000 in
theorem qO141 : kMethX qM141 := ⟨kpchkY_ok (gs := [137, 142, 5, 376, 0, 0, 107]) (ps := [1, 6, 3, 4, 0, 5, 2]) (by decide +kernel) (by decide +kernel) (by rfl) (by decide +kernel), qPN8, by decide⟩
set_option maxRecDepth 100000 in
theorem qO142 : kMethX qM142 := ⟨kpchkY_ok (gs := [138, 151, 449, 0, 0]) (ps := [2, 3, 0, 4, 1]) (by decide +kernel) (by decide +kernel) (by rfl) (by decide +kernel), qPN8, by decide⟩
set_option maxRecDepth 100000 in
theorem qO143 : kMethX qM143 := ⟨kpchkY_ok (gs := [138, 96, 44, 493, 0, 0, 0]) (ps := [2, 1, 3, 4, 5, 0, 6]) (by decide +kernel) (by decide +kernel) (by rfl) (by decide +kernel), qPN8, by decide⟩
set_option maxRecDepth 100000 in
theorem qO144 : kMethX qM144 := ⟨kpchkY_ok (gs := [137, 0, 96, 44, 451, 0, 0, 0, 11, 0, 0, 0, 35, 0, 0, 0]) (ps := [3, 8, 9, 10, 0, 11, 4, 5, 6, 1, 7, 3, 2, 3, 12, 13, 14, 0, 15]) (by decide +kernel) (by decide +kernel) (by rfl) (by decide +kernel), qPN8, by decide⟩
set_option maxRecDepth 100000 in
theorem qO145 : kMethX qM145 := ⟨kpchkY_ok (gs := [137, 142, 6, 375, 0, 0, 107]) (ps := [1, 6, 3, 4, 0, 5, 2]) (by decide +kernel) (by decide +kernel) (by rfl) (by decide +kernel), qPN8, by decide⟩
set_option maxRecDepth 100000 in
theorem qO146 : kMethX qM146 := ⟨kpchkY_ok (gs := [138, 155, 350, 0, 0, 72, 0, 0, 0, 27, 17, 0, 0, 0, 1, 0, 0, 0, 12, 0, 0, 0]) (ps := [5, 6, 7, 0, 8, 10, 11, 12, 0, 13, 14, 15, 16, 0, 17, 9, 2, 3, 0, 4, 9, 2, 3, 0, 4, 18, 19, 20, 0, 21, 18, 19, 20, 0, 21, 5, 6, 7, 0, 8, 5, 6, 7, 0, 8, 5, 6, 7, 0, 8, 1]) (by decide +kernel) (by decide +kernel) (by rfl) (by decide +kernel), qPN8, by decide⟩
set_option maxRecDepth 100000 in
theorem qO147 : kMethX qM147 := ⟨kpchkY_ok (gs := [175, 0]) (ps := [1, 1, 0, 0, 1, 1, 1]) (by decide +kernel) (by decide +kernel) (by rfl) (by decide +kernel), qPN9, by decide⟩
set_option maxRecDepth 100000 in
theorem qO148 : kMethX qM148 := ⟨kpchkY_ok (gs := [2, 133, 39, 2, 0, 0, 3, 0, 3, 376, 0, 0, 0, 0, 0, 0, 0, 0, 0, 0, 1, 0]) (ps := [4, 9, 10, 11, 1, 12, 4, 2, 4, 4, 4, 9, 10, 11, 1, 12, 4, 6, 8, 2, 3, 4, 3, 5, 3, 6, 4, 2, 5, 13, 14, 1, 15, 16, 17, 1, 18, 19, 20, 0, 1, 21, 5, 7, 4, 4]) (by decide +kernel) (by decide +kernel) (by rfl) (by decide +kernel), qPN9, by decide⟩
set_option maxRecDepth 100000 in
theorem qO149 : kMethX qM149 := ⟨kpchkY_ok (gs := [136, 42, 0, 11, 1, 368, 0, 0, 0]) (ps := [1, 2, 3, 4, 5, 6, 7, 0, 8]) (by decide +kernel) (by decide +kernel) (by rfl) (by decide +kernel), qPN9, by decide⟩
set_option maxRecDepth 100000 in
theorem qO150 : kMethX qM150 := ⟨kpchkY_ok (gs := [188, 1, 1945]) (ps := [2, 0, 1]) (by decide +kernel) (by decide +kernel) (by rfl) (by decide +kernel), qPN9, by decide⟩
set_option maxRecDepth 100000 in
theorem qO151 : kMethX qM151 := ⟨kpchkY_ok (gs := []) (ps := []) (by decide +kernel) (by decide +kernel) (by rfl) (by decide +kernel), qPN9, by decide⟩
set_option maxRecDepth 100000 in
theorem qO152 : kMethX qM152 := ⟨kpchkY_ok (gs := [181, 4]) (ps := [0, 1]) (by decide +kernel) (by decide +kernel) (by rfl) (by decide +kernel), qPN9, by decide⟩
set_option maxRecDepth 100000 in
theorem qO153 : kMethX qM153 := ⟨kpchkY_ok (gs := [181, 8]) (ps := [0, 1]) (by decide +kernel) (by decide +kernel) (by rfl) (by decide +kernel), qPN9, by decide⟩
set_option maxRecDepth 100000 in
theorem qO154 : kMethX qM154 := ⟨kpchkY_ok (gs := []) (ps := []) (by decide +kernel) (by decide +kernel) (by rfl) (by decide +kernel), qPN9, by decide⟩
set_option maxRecDepth 100000 in
theorem qO155 : kMethX qM155 := ⟨kpchkY_ok (gs := [181, 8]) (ps := [0, 1]) (by decide +kernel) (by decide +kernel) (by rfl) (by decide +kernel), qPN9, by decide⟩
set_option maxRecDepth 100000 in
theorem qO156 : kMethX qM156 := ⟨kpchkY_ok (gs := [136, 44, 4, 416, 0, 0, 27]) (ps := [1, 6, 3, 4, 0, 5, 2, 2, 6, 3, 4, 0, 5, 2]) (by decide +kernel) (by decide +kernel) (by rfl) (by decide +kernel), qPN9, by decide⟩
set_option maxRecDepth 100000 in
theorem qO157 : kMethX qM157 := ⟨kpchkY_ok (gs := [3, 132, 39, 3, 0, 4, 1, 378, 0, 0, 0, 0, 0, 0, 0, 0, 0, 4, 0, 1, 0]) (ps := [6, 5, 3, 7, 8, 9, 1, 10, 3, 2, 11, 12, 1, 13, 14, 15, 1, 16, 14, 15, 1, 16, 5, 5, 6, 17, 6, 3, 3, 3, 7, 8, 9, 1, 10, 4, 18, 19, 0, 1, 20, 4]) (by decide +kernel) (by decide +kernel) (by rfl) (by decide +kernel), qPN9, by decide⟩
set_option maxRecDepth 100000 in
theorem qO158 : kMethX qM158 := ⟨kpchkY_ok (gs := [185, 6, 1]) (ps := [1, 0, 2]) (by decide +kernel) (by decide +kernel) (by rfl) (by decide +kernel), qPN9, by decide⟩
set_option maxRecDepth 100000 in
theorem qO159 : kMethX qM159 := ⟨kpchkY_ok (gs := [175, 0]) (ps := [1, 0, 0]) (by decide +kernel) (by decide +kernel) (by rfl) (by decide +kernel), qPN9, by decide⟩
set_option maxRecDepth 100000 in
theorem qO160 : kMethX qM160 := ⟨kpchkY_ok (gs := [136, 426, 0, 0, 0, 36, 0, 0, 23, 0, 0, 0, 0]) (ps := [8, 9, 10, 0, 11, 12, 5, 6, 0, 7, 1, 2, 3, 0, 4]) (by decide +kernel) (by decide +kernel) (by rfl) (by decide +kernel), qPN9, by decide⟩
set_option maxRecDepth 100000 in
theorem qO161 : kMethX qM161 := ⟨kpchkY_ok (gs := [330]) (ps := [0]) (by decide +kernel) (by decide +kernel) (by rfl) (by decide +kernel), qPN10, by decide⟩
set_option maxRecDepth 100000 in
theorem qO162 : kMethX qM162 := ⟨kpchkY_ok (gs := [138, 16, 172, 0, 0, 359, 0, 0, 105, 0, 0, 0]) (ps := [3, 3, 2, 2, 3, 8, 5, 6, 0, 7, 3, 2, 3, 3, 4, 2, 9, 10, 1, 11, 4]) (by decide +kernel) (by decide +kernel) (by rfl) (by decide +kernel), qPN10, by decide⟩
set_option maxRecDepth 100000 in
theorem qO163 : kMethX qM163 := ⟨kpchkY_ok (gs := [138, 189, 0, 0, 359, 0, 0, 105]) (ps := [2, 2, 1, 3, 1, 1, 7, 4, 5, 0, 6, 2, 3, 3, 3]) (by decide +kernel) (by decide +kernel) (by rfl) (by decide +kernel), qPN10, by decide⟩
set_option maxRecDepth 100000 in
theorem qO164 : kMethX qM164 := ⟨kpchkY_ok (gs := [88, 3, 0, 53, 1653, 1, 0, 12, 1, 0, 0, 1, 0]) (ps := [4, 5, 0, 3, 6, 7, 8, 1, 3, 9, 10, 11, 2, 3, 12]) (by decide +kernel) (by decide +kernel) (by rfl) (by decide +kernel), qPN11, by decide⟩
set_option maxRecDepth 100000 in
theorem qO165 : kMethX qM165 := ⟨kpchkY_ok (gs := [79, 9, 57, 1347, 253, 1, 0, 52, 1, 0]) (ps := [4, 5, 0, 2, 6, 3, 7, 8, 1, 2, 9, 3]) (by decide +kernel) (by decide +kernel) (by rfl) (by decide +kernel), qPN11, by decide⟩
set_option maxRecDepth 100000 in
theorem qO166 : kMethX qM166 := ⟨kpchkY_ok (gs := [1481, 30]) (ps := [0, 1]) (by decide +kernel) (by decide +kernel) (by rfl) (by decide +kernel), qPN11, by decide⟩
set_option maxRecDepth 100000 in
theorem qO167 : kMethX qM167 := ⟨kpchkY_ok (gs := [82, 4, 59, 1333, 283, 1, 0, 28, 1, 0]) (ps := [3, 4, 5, 0, 2, 6, 7, 8, 1, 2, 9]) (by decide +kernel) (by decide +kernel) (by rfl) (by decide +kernel), qPN11, by decide⟩
set_option maxRecDepth 100000 in
theorem qO168 : kMethX qM168 := ⟨kpchkY_ok (gs := [1487, 0, 2, 0]) (ps := [1, 2, 0, 3]) (by decide +kernel) (by decide +kernel) (by rfl) (by decide +kernel), qPN11, by decide⟩
set_option maxRecDepth 100000 in
theorem qO169 : kMethX qM169 := ⟨kpchkY_ok (gs := [56, 0, 89, 1333, 2, 0, 0, 4, 134, 1, 0, 0, 1, 0]) (ps := [3, 8, 9, 0, 2, 10, 4, 5, 7, 6, 11, 12, 1, 2, 13]) (by decide +kernel) (by decide +kernel) (by rfl) (by decide +kernel), qPN11, by decide⟩
set_option maxRecDepth 100000 in
theorem qO170 : kMethX qM170 := ⟨kpchkY_ok (gs := []) (ps := []) (by decide +kernel) (by decide +kernel) (by rfl) (by decide +kernel), qPN11, by decide⟩
set_option maxRecDepth 100000 in
theorem qO171 : kMethX qM171 := ⟨kpchkY_ok (gs := [55, 29, 27, 1, 5, 0, 24, 1333, 6, 3, 2, 22, 0, 0, 101, 1, 0, 73, 0, 0, 83, 1, 0, 218, 1, 0, 8, 1, 0, 20, 1, 0, 0, 1, 0]) (ps := [7, 17, 18, 6, 19, 14, 15, 0, 6, 16, 12, 8, 26, 27, 3, 6, 28, 9, 12, 12, 23, 24, 2, 6, 25, 12, 29, 30, 4, 6, 31, 11, 11, 11, 10, 11, 20, 21, 1, 6, 22, 13, 32, 33, 5, 6, 34]) (by decide +kernel) (by decide +kernel) (by rfl) (by decide +kernel), qPN11, by decide⟩
set_option maxRecDepth 100000 in
theorem qO172 : kMethX qM172 := ⟨kpchkY_ok (gs := [147, 1333, 32, 0, 183, 0, 0]) (ps := [1, 3, 4, 5, 0, 6, 2]) (by decide +kernel) (by decide +kernel) (by rfl) (by decide +kernel), qPN11, by decide⟩
set_option maxRecDepth 100000 in
theorem qO173 : kMethX qM173 := ⟨kpchkY_ok (gs := [76, 20, 49, 1333, 255, 1, 0, 139, 1, 0]) (ps := [3, 4, 5, 0, 2, 6, 7, 8, 1, 2, 9]) (by decide +kernel) (by decide +kernel) (by rfl) (by decide +kernel), qPN11, by decide⟩
set_option maxRecDepth 100000 in
theorem qO174 : kMethX qM174 := ⟨kpchkY_ok (gs := [89, 57, 1347, 309, 1, 0]) (ps := [2, 3, 4, 0, 1, 5]) (by decide +kernel) (by decide +kernel) (by rfl) (by decide +kernel), qPN11, by decide⟩
set_option maxRecDepth 100000 in
theorem qO175 : kMethX qM175 := ⟨kpchkY_ok (gs := [76, 10, 59, 1333, 255, 1, 0, 56, 1, 0]) (ps := [3, 4, 5, 0, 2, 6, 7, 8, 1, 2, 9]) (by decide +kernel) (by decide +kernel) (by rfl) (by decide +kernel), qPN11, by decide⟩
set_option maxRecDepth 100000 in
theorem qO176 : kMethX qM176 := ⟨kpchkY_ok (gs := [1482, 0]) (ps := [0, 1, 1, 1]) (by decide +kernel) (by decide +kernel) (by rfl) (by decide +kernel), qPN11, by decide⟩
set_option maxRecDepth 100000 in
theorem qO177 : kMethX qM177 := ⟨kpchkY_ok (gs := [1481, 1, 11]) (ps := [0, 2, 2, 2, 1]) (by decide +kernel) (by decide +kernel) (by rfl) (by decide +kernel), qPN11, by decide⟩
set_option maxRecDepth 100000 in
theorem qO178 : kMethX qM178 := ⟨kpchkY_ok (gs := [86, 17, 42, 1333, 13, 17, 275, 1, 0, 131, 0, 0, 11, 1, 0]) (ps := [3, 4, 6, 7, 0, 2, 8, 4, 9, 10, 2, 11, 9, 10, 2, 11, 12, 13, 1, 2, 14, 5, 9, 10, 2, 11]) (by decide +kernel) (by decide +kernel) (by rfl) (by decide +kernel), qPN11, by decide⟩
set_option maxRecDepth 100000 in
theorem qO179 : kMethX qM179 := ⟨kpchkY_ok (gs := [1481, 31]) (ps := [0, 1]) (by decide +kernel) (by decide +kernel) (by rfl) (by decide +kernel), qPN11, by decide⟩
