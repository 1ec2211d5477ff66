set_option maxRecDepth 100000 in
theorem qO240 : kMethX qM240 := ⟨kpchkY_ok (gs := [57, 2, 64, 2, 18, 1377, 104, 1, 0, 16, 1, 0, 413, 1, 0, 8, 1, 0]) (ps := [12, 13, 2, 4, 14, 5, 9, 10, 1, 4, 11, 6, 7, 0, 4, 8, 12, 13, 2, 4, 14, 5, 15, 16, 3, 4, 17, 5]) (by decide +kernel) (by decide +kernel) (by rfl) (by decide +kernel), qPN11, by decide⟩
set_option maxRecDepth 100000 in
theorem qO241 : kMethX qM241 := ⟨kpchkY_ok (gs := [57, 2, 2, 1, 3, 4, 41, 0, 1, 27, 1345, 1, 4, 16, 1, 110, 1, 0, 16, 1, 0, 14, 1, 0, 4, 1, 0, 0, 0, 0, 12, 1, 0, 22, 1, 0, 298, 1, 0, 0, 1, 0, 4, 1, 0]) (ps := [18, 19, 1, 9, 20, 18, 19, 1, 9, 20, 18, 19, 1, 9, 20, 24, 25, 3, 9, 26, 21, 22, 2, 9, 23, 12, 11, 10, 27, 28, 9, 29, 21, 22, 2, 9, 23, 14, 21, 22, 2, 9, 23, 14, 13, 13, 12, 11, 10, 27, 28, 9, 29, 13, 15, 16, 0, 9, 17, 36, 37, 6, 9, 38, 33, 34, 5, 9, 35, 30, 31, 4, 9, 32, 39, 40, 7, 9, 41, 42, 43, 8, 9, 44, 33, 34, 5, 9, 35]) (by decide +kernel) (by decide +kernel) (by rfl) (by decide +kernel), qPN11, by decide⟩
set_option maxRecDepth 100000 in
theorem qO242 : kMethX qM242 := ⟨kpchkY_ok (gs := [57, 5, 11, 47, 23, 1482, 1, 0, 34, 1, 0, 53, 1, 0, 330, 1, 0]) (ps := [14, 15, 3, 4, 16, 11, 12, 2, 4, 13, 8, 9, 1, 4, 10, 5, 6, 0, 4, 7]) (by decide +kernel) (by decide +kernel) (by rfl) (by decide +kernel), qPN11, by decide⟩
set_option maxRecDepth 100000 in
theorem qO243 : kMethX qM243 := ⟨kpchkY_ok (gs := [57, 5, 5, 5, 52, 18, 1342, 3, 30, 104, 1, 0, 34, 1, 0, 23, 1, 0, 26, 1, 0, 350, 1, 0]) (ps := [18, 19, 3, 5, 20, 18, 19, 3, 5, 20, 18, 19, 3, 5, 20, 12, 13, 1, 5, 14, 6, 9, 10, 0, 5, 11, 15, 16, 2, 5, 17, 7, 21, 22, 4, 5, 23, 8]) (by decide +kernel) (by decide +kernel) (by rfl) (by decide +kernel), qPN11, by decide⟩
set_option maxRecDepth 100000 in
theorem qO244 : kMethX qM244 := ⟨kpchkY_ok (gs := [57, 2, 2, 53, 1, 0, 26, 1369, 112, 1, 0, 16, 1, 0, 14, 1, 0, 355, 1, 0, 4, 1, 0, 0, 1, 0]) (ps := [11, 12, 1, 6, 13, 14, 15, 2, 6, 16, 7, 8, 9, 0, 6, 10, 17, 18, 3, 6, 19, 20, 21, 4, 6, 22, 23, 24, 5, 6, 25, 20, 21, 4, 6, 22]) (by decide +kernel) (by decide +kernel) (by rfl) (by decide +kernel), qPN11, by decide⟩
set_option maxRecDepth 100000 in
theorem qO245 : kMethX qM245 := ⟨kpchkY_ok (gs := [57, 5, 11, 71, 1482, 1, 0, 34, 1, 0, 53, 1, 0]) (ps := [10, 11, 2, 3, 12, 7, 8, 1, 3, 9, 4, 5, 0, 3, 6]) (by decide +kernel) (by decide +kernel) (by rfl) (by decide +kernel), qPN11, by decide⟩
set_option maxRecDepth 100000 in
theorem qO246 : kMethX qM246 := ⟨kpchkY_ok (gs := [57, 5, 83, 1348, 133, 1, 0, 34, 1, 0]) (ps := [3, 7, 8, 1, 2, 9, 4, 5, 0, 2, 6]) (by decide +kernel) (by decide +kernel) (by rfl) (by decide +kernel), qPN11, by decide⟩
set_option maxRecDepth 100000 in
theorem qO247 : kMethX qM247 := ⟨kpchkY_ok (gs := [57, 4, 1, 3, 0, 0, 76, 1348, 133, 1, 0, 30, 1, 0, 4, 1, 0, 15, 1, 0, 0, 1, 0, 3, 1, 0]) (ps := [11, 12, 1, 6, 13, 7, 14, 15, 2, 6, 16, 17, 18, 3, 6, 19, 23, 24, 5, 6, 25, 8, 9, 0, 6, 10, 20, 21, 4, 6, 22, 23, 24, 5, 6, 25, 7]) (by decide +kernel) (by decide +kernel) (by rfl) (by decide +kernel), qPN11, by decide⟩
set_option maxRecDepth 100000 in
theorem qO248 : kMethX qM248 := ⟨kpchkY_ok (gs := [118, 28, 1347, 535, 1, 0]) (ps := [2, 3, 4, 0, 1, 5]) (by decide +kernel) (by decide +kernel) (by rfl) (by decide +kernel), qPN11, by decide⟩
set_option maxRecDepth 100000 in
theorem qO249 : kMethX qM249 := ⟨kpchkY_ok (gs := [57, 5, 3, 1, 0, 76, 1346, 1, 133, 1, 0, 34, 1, 0, 15, 1, 0, 4, 1, 0, 3, 1, 0]) (ps := [14, 15, 2, 5, 16, 6, 7, 11, 12, 1, 5, 13, 8, 9, 0, 5, 10, 17, 18, 3, 5, 19, 20, 21, 4, 5, 22]) (by decide +kernel) (by decide +kernel) (by rfl) (by decide +kernel), qPN11, by decide⟩
set_option maxRecDepth 100000 in
theorem qO250 : kMethX qM250 := ⟨kpchkY_ok (gs := [60, 0, 1, 2, 4, 0, 0, 73, 1502, 1, 0, 6, 1, 0, 4, 1, 0, 11, 1, 0, 19, 1, 0, 3, 1, 0, 0, 1, 0]) (ps := [8, 9, 0, 7, 10, 11, 12, 1, 7, 13, 8, 9, 0, 7, 10, 17, 18, 3, 7, 19, 8, 9, 0, 7, 10, 20, 21, 4, 7, 22, 8, 9, 0, 7, 10, 23, 24, 5, 7, 25, 8, 9, 0, 7, 10, 26, 27, 6, 7, 28, 14, 15, 2, 7, 16]) (by decide +kernel) (by decide +kernel) (by rfl) (by decide +kernel), qPN11, by decide⟩
set_option maxRecDepth 100000 in
theorem qO251 : kMethX qM251 := ⟨kpchkY_ok (gs := [57, 5, 1, 81, 1345, 0, 5, 129, 1, 0, 34, 1, 0, 4, 1, 0, 0, 0, 0]) (ps := [13, 14, 2, 3, 15, 10, 11, 1, 3, 12, 6, 4, 16, 17, 3, 18, 5, 5, 10, 11, 1, 3, 12, 7, 8, 0, 3, 9]) (by decide +kernel) (by decide +kernel) (by rfl) (by decide +kernel), qPN11, by decide⟩
set_option maxRecDepth 100000 in
theorem qO252 : kMethX qM252 := ⟨kpchkY_ok (gs := [57, 5, 1, 81, 1345, 2, 4, 128, 1, 0, 34, 1, 0, 4, 1, 0, 0, 0, 0]) (ps := [13, 14, 2, 3, 15, 10, 11, 1, 3, 12, 6, 5, 4, 16, 17, 3, 18, 6, 5, 4, 16, 17, 3, 18, 10, 11, 1, 3, 12, 6, 4, 7, 8, 0, 3, 9]) (by decide +kernel) (by decide +kernel) (by rfl) (by decide +kernel), qPN11, by decide⟩
set_option maxRecDepth 100000 in
theorem qO253 : kMethX qM253 := ⟨kpchkY_ok (gs := [125, 2, 18, 1377, 541, 1, 0, 8, 1, 0]) (ps := [4, 5, 0, 2, 6, 3, 7, 8, 1, 2, 9, 3]) (by decide +kernel) (by decide +kernel) (by rfl) (by decide +kernel), qPN11, by decide⟩
set_option maxRecDepth 100000 in
theorem qO254 : kMethX qM254 := ⟨kpchkY_ok (gs := [57, 5, 83, 1340, 0, 4, 135, 1, 0, 34, 1, 0, 27, 0, 0]) (ps := [3, 9, 10, 1, 2, 11, 4, 12, 13, 2, 14, 9, 10, 1, 2, 11, 4, 5, 6, 7, 0, 2, 8]) (by decide +kernel) (by decide +kernel) (by rfl) (by decide +kernel), qPN11, by decide⟩
set_option maxRecDepth 100000 in
theorem qO255 : kMethX qM255 := ⟨kpchkY_ok (gs := [120, 7, 18, 1346, 30, 513, 1, 0, 36, 1, 0]) (ps := [5, 6, 0, 2, 7, 3, 8, 9, 1, 2, 10, 4]) (by decide +kernel) (by decide +kernel) (by rfl) (by decide +kernel), qPN11, by decide⟩
set_option maxRecDepth 100000 in
theorem qO256 : kMethX qM256 := ⟨kpchkY_ok (gs := [57, 2, 63, 3, 18, 1377, 104, 1, 0, 16, 1, 0, 409, 1, 0, 12, 1, 0]) (ps := [12, 13, 2, 4, 14, 5, 9, 10, 1, 4, 11, 6, 7, 0, 4, 8, 12, 13, 2, 4, 14, 5, 15, 16, 3, 4, 17, 5]) (by decide +kernel) (by decide +kernel) (by rfl) (by decide +kernel), qPN11, by decide⟩
set_option maxRecDepth 100000 in
theorem qO257 : kMethX qM257 := ⟨kpchkY_ok (gs := [57, 5, 4, 78, 1346, 135, 1, 0, 34, 1, 0, 19, 1, 0]) (ps := [5, 6, 0, 3, 7, 11, 12, 2, 3, 13, 4, 5, 6, 0, 3, 7, 11, 12, 2, 3, 13, 4, 8, 9, 1, 3, 10]) (by decide +kernel) (by decide +kernel) (by rfl) (by decide +kernel), qPN11, by decide⟩
set_option maxRecDepth 100000 in
theorem qO258 : kMethX qM258 := ⟨kpchkY_ok (gs := [57, 2, 1, 1, 82, 1348, 133, 1, 0, 16, 1, 0, 10, 1, 0, 4, 1, 0]) (ps := [12, 13, 2, 4, 14, 5, 15, 16, 3, 4, 17, 9, 10, 1, 4, 11, 5, 5, 6, 7, 0, 4, 8, 5]) (by decide +kernel) (by decide +kernel) (by rfl) (by decide +kernel), qPN11, by decide⟩
set_option maxRecDepth 100000 in
theorem qO259 : kMethX qM259 := ⟨kpchkY_ok (gs := [118, 28, 1347, 535, 1, 0]) (ps := [2, 3, 4, 0, 1, 5]) (by decide +kernel) (by decide +kernel) (by rfl) (by decide +kernel), qPN11, by decide⟩
set_option maxRecDepth 100000 in
theorem qO260 : kMethX qM260 := ⟨kpchkY_ok (gs := [57, 2, 2, 83, 1348, 8, 124, 1, 0, 16, 1, 0, 14, 1, 0]) (ps := [5, 12, 13, 2, 3, 14, 5, 6, 7, 0, 3, 8, 9, 10, 1, 3, 11, 9, 10, 1, 3, 11, 12, 13, 2, 3, 14, 4, 9, 10, 1, 3, 11, 6, 7, 0, 3, 8]) (by decide +kernel) (by decide +kernel) (by rfl) (by decide +kernel), qPN11, by decide⟩
set_option maxRecDepth 100000 in
theorem qO261 : kMethX qM261 := ⟨kpchkY_ok (gs := [57, 2, 2, 11, 50, 0, 0, 0, 0, 16, 1375, 0, 0, 104, 1, 0, 16, 1, 0, 14, 1, 0, 53, 1, 0, 342, 1, 0, 0, 1, 0, 0, 1, 0, 0, 1, 0, 0, 1, 0]) (ps := [22, 23, 3, 9, 24, 16, 17, 1, 9, 18, 19, 20, 2, 9, 21, 10, 11, 19, 20, 2, 9, 21, 10, 10, 11, 11, 13, 14, 0, 9, 15, 25, 26, 4, 9, 27, 28, 29, 5, 9, 30, 31, 32, 6, 9, 33, 12, 34, 35, 7, 9, 36, 37, 38, 8, 9, 39, 11, 11]) (by decide +kernel) (by decide +kernel) (by rfl) (by decide +kernel), qPN11, by decide⟩
set_option maxRecDepth 100000 in
theorem qO262 : kMethX qM262 := ⟨kpchkY_ok (gs := [57, 5, 3, 79, 1346, 1, 133, 1, 0, 34, 1, 0, 15, 1, 0, 19, 0, 0]) (ps := [12, 13, 2, 3, 14, 5, 4, 15, 16, 3, 17, 9, 10, 1, 3, 11, 5, 4, 6, 7, 0, 3, 8]) (by decide +kernel) (by decide +kernel) (by rfl) (by decide +kernel), qPN11, by decide⟩
set_option maxRecDepth 100000 in
theorem qO263 : kMethX qM263 := ⟨kpchkY_ok (gs := [1481]) (ps := [0]) (by decide +kernel) (by decide +kernel) (by rfl) (by decide +kernel), qPN11, by decide⟩
set_option maxRecDepth 100000 in
theorem qO264 : kMethX qM264 := ⟨kpchkY_ok (gs := [82, 4, 59, 1333, 283, 1, 0, 28, 1, 0]) (ps := [3, 4, 5, 0, 2, 6, 4, 5, 0, 2, 6, 7, 8, 1, 2, 9]) (by decide +kernel) (by decide +kernel) (by rfl) (by decide +kernel), qPN11, by decide⟩
set_option maxRecDepth 100000 in
theorem qO265 : kMethX qM265 := ⟨kpchkY_ok (gs := [147, 1333, 13, 1, 2, 1, 0, 0, 194, 0, 0]) (ps := [1, 8, 9, 0, 10, 6, 2, 3, 4, 5, 7]) (by decide +kernel) (by decide +kernel) (by rfl) (by decide +kernel), qPN11, by decide⟩
set_option maxRecDepth 100000 in
theorem qO266 : kMethX qM266 := ⟨kpchkY_ok (gs := [82, 4, 59, 1333, 283, 1, 0, 28, 1, 0]) (ps := [3, 4, 5, 0, 2, 6, 7, 8, 1, 2, 9]) (by decide +kernel) (by decide +kernel) (by rfl) (by decide +kernel), qPN11, by decide⟩
set_option maxRecDepth 100000 in
theorem qO267 : kMethX qM267 := ⟨kpchkY_ok (gs := [131, 15, 1333, 13, 599, 1, 0]) (ps := [2, 3, 3, 3, 4, 5, 0, 1, 6]) (by decide +kernel) (by decide +kernel) (by rfl) (by decide +kernel), qPN11, by decide⟩
set_option maxRecDepth 100000 in
theorem qO268 : kMethX qM268 := ⟨kpchkY_ok (gs := [1521, 0]) (ps := [1, 0, 0, 0, 0, 1, 1, 1]) (by decide +kernel) (by decide +kernel) (by rfl) (by decide +kernel), qPN11, by decide⟩
set_option maxRecDepth 100000 in
theorem qO269 : kMethX qM269 := ⟨kpchkY_ok (gs := [55, 7, 59, 23, 1340, 3, 2, 25, 0, 0, 0, 0, 96, 1, 0, 42, 1, 0, 387, 1, 0]) (ps := [12, 13, 0, 3, 14, 8, 9, 10, 18, 19, 2, 3, 20, 5, 4, 15, 16, 1, 3, 17, 5, 6, 6, 11, 6, 7, 9]) (by decide +kernel) (by decide +kernel) (by rfl) (by decide +kernel), qPN11, by decide⟩
set_option maxRecDepth 100000 in
theorem qO270 : kMethX qM270 := ⟨kpchkY_ok (gs := [104, 42, 1333, 13, 442, 1, 0]) (ps := [2, 3, 4, 5, 0, 1, 6, 3, 4, 5, 0, 1, 6]) (by decide +kernel) (by decide +kernel) (by rfl) (by decide +kernel), qPN11, by decide⟩
set_option maxRecDepth 100000 in
theorem qO271 : kMethX qM271 := ⟨kpchkY_ok (gs := [86, 18, 41, 1347, 293, 1, 0, 149, 1, 0]) (ps := [3, 4, 5, 0, 2, 6, 7, 8, 1, 2, 9]) (by decide +kernel) (by decide +kernel) (by rfl) (by decide +kernel), qPN11, by decide⟩
set_option maxRecDepth 100000 in
theorem qO272 : kMethX qM272 := ⟨kpchkY_ok (gs := [76, 5, 4, 59, 1333, 255, 1, 0, 24, 1, 0, 28, 1, 0]) (ps := [4, 8, 9, 1, 3, 10, 5, 6, 0, 3, 7, 11, 12, 2, 3, 13]) (by decide +kernel) (by decide +kernel) (by rfl) (by decide +kernel), qPN11, by decide⟩
set_option maxRecDepth 100000 in
theorem qO273 : kMethX qM273 := ⟨kpchkY_ok (gs := [1495]) (ps := [0]) (by decide +kernel) (by decide +kernel) (by rfl) (by decide +kernel), qPN11, by decide⟩
set_option maxRecDepth 100000 in
theorem qO274 : kMethX qM274 := ⟨kpchkY_ok (gs := []) (ps := []) (by decide +kernel) (by decide +kernel) (by rfl) (by decide +kernel), qPN11, by decide⟩
set_option maxRecDepth 100000 in
theorem qO275 : kMethX qM275 := ⟨kpchkY_ok (gs := [89, 57, 1657, 1, 0]) (ps := [2, 3, 0, 1, 4]) (by decide +kernel) (by decide +kernel) (by rfl) (by decide +kernel), qPN11, by decide⟩
set_option maxRecDepth 100000 in
theorem qO276 : kMethX qM276 := ⟨kpchkY_ok (gs := [1495, 2, 5]) (ps := [2, 1, 1, 2, 2, 1, 2, 0, 2, 2]) (by decide +kernel) (by decide +kernel) (by rfl) (by decide +kernel), qPN11, by decide⟩
set_option maxRecDepth 100000 in
theorem qO277 : kMethX qM277 := ⟨kpchkY_ok (gs := [82, 4, 59, 1333, 283, 1, 0, 28, 1, 0]) (ps := [3, 4, 5, 0, 2, 6, 4, 5, 0, 2, 6, 7, 8, 1, 2, 9]) (by decide +kernel) (by decide +kernel) (by rfl) (by decide +kernel), qPN11, by decide⟩
set_option maxRecDepth 100000 in
theorem qO278 : kMethX qM278 := ⟨kpchkY_ok (gs := [1644, 0]) (ps := [0, 1, 1, 0, 1, 0, 1, 0, 1, 0, 1, 0, 1]) (by decide +kernel) (by decide +kernel) (by rfl) (by decide +kernel), qPN11, by decide⟩
set_option maxRecDepth 100000 in
theorem qO279 : kMethX qM279 := ⟨kpchkY_ok (gs := [76, 2, 6, 19, 1, 0, 37, 1333, 13, 4, 14, 138, 0, 0, 0, 0, 0, 77, 1, 0, 8, 1, 0, 36, 1, 0, 173, 1, 0, 4, 1, 0, 0, 1, 0]) (ps := [7, 17, 18, 0, 6, 19, 10, 9, 26, 27, 3, 6, 28, 8, 23, 24, 2, 6, 25, 29, 30, 4, 6, 31, 10, 14, 15, 6, 16, 32, 33, 5, 6, 34, 20, 21, 1, 6, 22, 11, 12, 6, 13, 32, 33, 5, 6, 34, 20, 21, 1, 6, 22, 14, 15, 6, 16, 32, 33, 5, 6, 34, 20, 21, 1, 6, 22, 14, 15, 6, 16, 32, 33, 5, 6, 34, 10]) (by decide +kernel) (by decide +kernel) (by rfl) (by decide +kernel), qPN11, by decide⟩
set_option maxRecDepth 100000 in
theorem qO280 : kMethX qM280 := ⟨kpchkY_ok (gs := [54, 92, 1329, 1, 0, 14]) (ps := [5, 5, 5, 5, 5, 2, 3, 0, 1, 4, 5]) (by decide +kernel) (by decide +kernel) (by rfl) (by decide +kernel), qPN11, by decide⟩
set_option maxRecDepth 100000 in
theorem qO281 : kMethX qM281 := ⟨kpchkY_ok (gs := [92, 21, 32, 1347, 3, 317, 1, 0, 190, 1, 0]) (ps := [3, 3, 4, 4, 5, 6, 0, 2, 7, 8, 9, 1, 2, 10]) (by decide +kernel) (by decide +kernel) (by rfl) (by decide +kernel), qPN11, by decide⟩
set_option maxRecDepth 100000 in
theorem qO282 : kMethX qM282 := ⟨kpchkY_ok (gs := [1495]) (ps := [0]) (by decide +kernel) (by decide +kernel) (by rfl) (by decide +kernel), qPN11, by decide⟩
set_option maxRecDepth 100000 in
theorem qO283 : kMethX qM283 := ⟨kpchkY_ok (gs := [1483]) (ps := [0, 0]) (by decide +kernel) (by decide +kernel) (by rfl) (by decide +kernel), qPN11, by decide⟩
set_option maxRecDepth 100000 in
theorem qO284 : kMethX qM284 := ⟨kpchkY_ok (gs := [1495, 3]) (ps := [0, 1]) (by decide +kernel) (by decide +kernel) (by rfl) (by decide +kernel), qPN11, by decide⟩
set_option maxRecDepth 100000 in
theorem qO285 : kMethX qM285 := ⟨kpchkY_ok (gs := [1482, 1]) (ps := [1, 0]) (by decide +kernel) (by decide +kernel) (by rfl) (by decide +kernel), qPN11, by decide⟩
set_option maxRecDepth 100000 in
theorem qO286 : kMethX qM286 := ⟨kpchkY_ok (gs := [1495]) (ps := [0, 0]) (by decide +kernel) (by decide +kernel) (by rfl) (by decide +kernel), qPN11, by decide⟩
set_option maxRecDepth 100000 in
theorem qO287 : kMethX qM287 := ⟨kpchkY_ok (gs := [147, 1333, 36, 1, 178, 0, 0]) (ps := [1, 3, 4, 5, 0, 6, 2]) (by decide +kernel) (by decide +kernel) (by rfl) (by decide +kernel), qPN11, by decide⟩
set_option maxRecDepth 100000 in
theorem qO288 : kMethX qM288 := ⟨kpchkY_ok (gs := [1481, 13, 2, 5]) (ps := [0, 3, 3, 3, 1, 2, 3, 3]) (by decide +kernel) (by decide +kernel) (by rfl) (by decide +kernel), qPN11, by decide⟩
set_option maxRecDepth 100000 in
theorem qO289 : kMethX qM289 := ⟨kpchkY_ok (gs := [76, 21, 48, 1333, 13, 241, 1, 0, 147, 1, 0]) (ps := [3, 5, 6, 0, 2, 7, 4, 4, 4, 4, 8, 9, 1, 2, 10, 8, 9, 1, 2, 10]) (by decide +kernel) (by decide +kernel) (by rfl) (by decide +kernel), qPN11, by decide⟩
set_option maxRecDepth 100000 in
theorem qO290 : kMethX qM290 := ⟨kpchkY_ok (gs := [81, 1, 5, 57, 1347, 261, 1, 0, 8, 1, 0, 32, 1, 0]) (ps := [4, 4, 11, 12, 2, 3, 13, 5, 6, 0, 3, 7, 5, 6, 0, 3, 7, 8, 9, 1, 3, 10, 8, 9, 1, 3, 10, 4, 4]) (by decide +kernel) (by decide +kernel) (by rfl) (by decide +kernel), qPN11, by decide⟩
set_option maxRecDepth 100000 in
theorem qO291 : kMethX qM291 := ⟨kpchkY_ok (gs := [147, 1509, 0, 0]) (ps := [1, 2, 0, 3, 1, 2, 0, 3, 1, 2, 0, 3, 1, 2, 0, 3, 1, 2, 0, 3, 1, 2, 0, 3, 1, 2, 0, 3, 1, 2, 0, 3, 1, 2, 0, 3, 1, 2, 0, 3, 1, 2, 0, 3, 1, 2, 0, 3, 1, 2, 0, 3, 1, 2, 0, 3, 1, 2, 0, 3, 1, 2, 0, 3, 1, 2, 0, 3, 1, 2, 0, 3, 1, 2, 0, 3, 1, 2, 0, 3, 1, 2, 0, 3, 1, 2, 0, 3, 1, 2, 0, 3, 1, 2, 0, 3, 1, 2, 0, 3, 1, 2, 0, 3, 1, 2, 0, 3, 1, 2, 0, 3, 1, 2, 0, 3, 1, 2, 0, 3]) (by decide +kernel) (by decide +kernel) (by rfl) (by decide +kernel), qPN11, by decide⟩
set_option maxRecDepth 100000 in
theorem qO292 : kMethX qM292 := ⟨kpchkY_ok (gs := [1514, 0]) (ps := [0, 1, 1, 1]) (by decide +kernel) (by decide +kernel) (by rfl) (by decide +kernel), qPN11, by decide⟩
set_option maxRecDepth 100000 in
theorem qO293 : kMethX qM293 := ⟨kpchkY_ok (gs := [106, 0, 39, 1818, 1, 0, 0, 1, 0]) (ps := [6, 7, 1, 2, 8, 3, 4, 0, 2, 5]) (by decide +kernel) (by decide +kernel) (by rfl) (by decide +kernel), qPN11, by decide⟩
set_option maxRecDepth 100000 in
theorem qO294 : kMethX qM294 := ⟨kpchkY_ok (gs := [109, 37, 1347, 158, 0, 0, 0, 0, 0, 318, 1, 0]) (ps := [6, 7, 1, 8, 9, 10, 0, 1, 11, 2, 3, 4, 1, 5, 2, 3, 4, 1, 5, 2, 3, 4, 1, 5, 9, 10, 0, 1, 11]) (by decide +kernel) (by decide +kernel) (by rfl) (by decide +kernel), qPN11, by decide⟩
set_option maxRecDepth 100000 in
theorem qO295 : kMethX qM295 := ⟨kpchkY_ok (gs := [106, 0, 39, 1496, 321, 1, 0, 0, 1, 0]) (ps := [3, 3, 4, 5, 0, 2, 6, 3, 7, 8, 1, 2, 9]) (by decide +kernel) (by decide +kernel) (by rfl) (by decide +kernel), qPN11, by decide⟩
set_option maxRecDepth 100000 in
theorem qO296 : kMethX qM296 := ⟨kpchkY_ok (gs := [990, 0, 0]) (ps := [0, 1, 1, 2]) (by decide +kernel) (by decide +kernel) (by rfl) (by decide +kernel), qPN12, by decide⟩
set_option maxRecDepth 100000 in
theorem qO297 : kMethX qM297 := ⟨kpchkY_ok (gs := []) (ps := []) (by decide +kernel) (by decide +kernel) (by rfl) (by decide +kernel), qPN13, by decide⟩
