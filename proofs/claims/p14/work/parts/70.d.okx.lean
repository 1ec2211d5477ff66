set_option maxRecDepth 100000 in
theorem qO180 : kMethX qM180 := ⟨kpchkY_ok (gs := [92, 2, 51, 1333, 13, 203, 0, 0, 115, 1, 0, 40, 1, 0]) (ps := [3, 5, 6, 2, 7, 4, 8, 9, 0, 2, 10, 11, 12, 1, 2, 13]) (by decide +kernel) (by decide +kernel) (by rfl) (by decide +kernel), qPN11, by decide⟩
set_option maxRecDepth 100000 in
theorem qO181 : kMethX qM181 := ⟨kpchkY_ok (gs := [79, 9, 57, 1347, 253, 1, 0, 52, 1, 0]) (ps := [3, 7, 8, 1, 2, 9, 3, 3, 4, 5, 0, 2, 6, 3]) (by decide +kernel) (by decide +kernel) (by rfl) (by decide +kernel), qPN11, by decide⟩
set_option maxRecDepth 100000 in
theorem qO182 : kMethX qM182 := ⟨kpchkY_ok (gs := [1516, 485]) (ps := [0, 1, 0, 0]) (by decide +kernel) (by decide +kernel) (by rfl) (by decide +kernel), qPN11, by decide⟩
set_option maxRecDepth 100000 in
theorem qO183 : kMethX qM183 := ⟨kpchkY_ok (gs := [96, 14, 35, 1347, 20, 348, 0, 0, 0, 1, 0, 122, 1, 0]) (ps := [4, 3, 5, 6, 2, 7, 3, 11, 12, 1, 2, 13, 8, 9, 0, 2, 10]) (by decide +kernel) (by decide +kernel) (by rfl) (by decide +kernel), qPN11, by decide⟩
set_option maxRecDepth 100000 in
theorem qO184 : kMethX qM184 := ⟨kpchkY_ok (gs := [92, 17, 36, 1333, 13, 203, 0, 0, 115, 1, 0, 169, 1, 0]) (ps := [3, 5, 6, 2, 7, 4, 4, 8, 9, 0, 2, 10, 11, 12, 1, 2, 13]) (by decide +kernel) (by decide +kernel) (by rfl) (by decide +kernel), qPN11, by decide⟩
set_option maxRecDepth 100000 in
theorem qO185 : kMethX qM185 := ⟨kpchkY_ok (gs := [88, 4, 18, 34, 1347, 305, 1, 0, 16, 1, 0, 173, 1, 0]) (ps := [4, 4, 11, 12, 2, 3, 13, 5, 6, 0, 3, 7, 8, 9, 1, 3, 10, 11, 12, 2, 3, 13, 4, 11, 12, 2, 3, 13, 5, 6, 0, 3, 7, 8, 9, 1, 3, 10]) (by decide +kernel) (by decide +kernel) (by rfl) (by decide +kernel), qPN11, by decide⟩
set_option maxRecDepth 100000 in
theorem qO186 : kMethX qM186 := ⟨kpchkY_ok (gs := [76, 4, 0, 64, 1333, 13, 241, 1, 0, 16, 1, 0, 4, 1, 0]) (ps := [4, 6, 7, 0, 3, 8, 12, 13, 2, 3, 14, 5, 9, 10, 1, 3, 11, 5, 5, 9, 10, 1, 3, 11, 5, 9, 10, 1, 3, 11]) (by decide +kernel) (by decide +kernel) (by rfl) (by decide +kernel), qPN11, by decide⟩
set_option maxRecDepth 100000 in
theorem qO187 : kMethX qM187 := ⟨kpchkY_ok (gs := [1481, 1]) (ps := [0, 1, 1]) (by decide +kernel) (by decide +kernel) (by rfl) (by decide +kernel), qPN11, by decide⟩
set_option maxRecDepth 100000 in
theorem qO188 : kMethX qM188 := ⟨kpchkY_ok (gs := [1481, 9]) (ps := [0, 1]) (by decide +kernel) (by decide +kernel) (by rfl) (by decide +kernel), qPN11, by decide⟩
set_option maxRecDepth 100000 in
theorem qO189 : kMethX qM189 := ⟨kpchkY_ok (gs := [52, 94, 1311, 1, 1, 17, 1]) (ps := [5, 6, 2, 3, 0, 1, 4, 2, 3, 0, 1, 4, 2, 3, 0, 1, 4, 2, 3, 0, 1, 4, 2, 3, 0, 1, 4, 6]) (by decide +kernel) (by decide +kernel) (by rfl) (by decide +kernel), qPN11, by decide⟩
set_option maxRecDepth 100000 in
theorem qO190 : kMethX qM190 := ⟨kpchkY_ok (gs := []) (ps := []) (by decide +kernel) (by decide +kernel) (by rfl) (by decide +kernel), qPN11, by decide⟩
set_option maxRecDepth 100000 in
theorem qO191 : kMethX qM191 := ⟨kpchkY_ok (gs := [100, 0, 45, 1347, 10, 1, 0, 390, 1, 0, 0, 1, 0]) (ps := [3, 10, 11, 1, 2, 12, 5, 6, 5, 4, 4, 7, 8, 0, 2, 9, 4]) (by decide +kernel) (by decide +kernel) (by rfl) (by decide +kernel), qPN11, by decide⟩
set_option maxRecDepth 100000 in
theorem qO192 : kMethX qM192 := ⟨kpchkY_ok (gs := [56, 23, 1, 7, 12, 43, 1333, 0, 12, 16, 113, 1, 0, 69, 0, 0, 8, 0, 0, 40, 1, 0, 8, 1, 0, 40, 1, 0, 107, 1, 0, 0, 0, 0, 0, 0, 0]) (ps := [6, 10, 11, 0, 5, 12, 13, 14, 5, 15, 7, 22, 23, 2, 5, 24, 7, 7, 8, 28, 29, 4, 5, 30, 8, 16, 17, 5, 18, 19, 20, 1, 5, 21, 25, 26, 3, 5, 27, 31, 32, 5, 33, 34, 35, 5, 36, 9]) (by decide +kernel) (by decide +kernel) (by rfl) (by decide +kernel), qPN11, by decide⟩
set_option maxRecDepth 100000 in
theorem qO193 : kMethX qM193 := ⟨kpchkY_ok (gs := [80, 9, 56, 1334, 227, 0, 0, 40, 1, 0, 52, 1, 0]) (ps := [3, 7, 8, 0, 2, 9, 10, 11, 1, 2, 12, 4, 5, 2, 6]) (by decide +kernel) (by decide +kernel) (by rfl) (by decide +kernel), qPN11, by decide⟩
set_option maxRecDepth 100000 in
theorem qO194 : kMethX qM194 := ⟨kpchkY_ok (gs := [76, 0, 0, 0, 67, 1333, 13, 241, 1, 0, 0, 1, 0, 0, 1, 0, 0, 1, 0]) (ps := [5, 7, 8, 0, 4, 9, 10, 11, 1, 4, 12, 6, 13, 14, 2, 4, 15, 16, 17, 3, 4, 18, 6, 6, 10, 11, 1, 4, 12]) (by decide +kernel) (by decide +kernel) (by rfl) (by decide +kernel), qPN11, by decide⟩
set_option maxRecDepth 100000 in
theorem qO195 : kMethX qM195 := ⟨kpchkY_ok (gs := [58, 88, 1334, 1, 0, 0, 0, 0, 0, 0, 2, 140, 0, 0, 0, 0, 0, 0, 1, 0, 0, 0]) (ps := [5, 3, 2, 5, 2, 5, 5, 5, 5, 6, 3, 4, 6, 4, 4, 6, 7, 5, 3, 7, 2, 5, 11, 12, 1, 13, 14, 15, 1, 16, 7, 9, 5, 5, 11, 12, 1, 13, 10, 8, 5, 17, 18, 0, 1, 19, 11, 12, 1, 13, 5, 17, 18, 0, 1, 19, 14, 15, 1, 16, 2, 5, 11, 12, 1, 13, 5, 6, 20, 10, 21, 10, 5, 6, 8, 8, 5, 5, 5, 6, 7]) (by decide +kernel) (by decide +kernel) (by rfl) (by decide +kernel), qPN11, by decide⟩
set_option maxRecDepth 100000 in
theorem qO196 : kMethX qM196 := ⟨kpchkY_ok (gs := [88, 4, 1, 51, 1347, 21, 283, 1, 0, 16, 1, 0, 36, 1, 0]) (ps := [5, 5, 4, 12, 13, 2, 3, 14, 5, 5, 6, 7, 0, 3, 8, 5, 5, 5, 9, 10, 1, 3, 11]) (by decide +kernel) (by decide +kernel) (by rfl) (by decide +kernel), qPN11, by decide⟩
set_option maxRecDepth 100000 in
theorem qO197 : kMethX qM197 := ⟨kpchkY_ok (gs := [81, 0, 64, 1333, 275, 1, 0, 4, 1, 0]) (ps := [3, 7, 8, 1, 2, 9, 7, 8, 1, 2, 9, 4, 5, 0, 2, 6]) (by decide +kernel) (by decide +kernel) (by rfl) (by decide +kernel), qPN11, by decide⟩
set_option maxRecDepth 100000 in
theorem qO198 : kMethX qM198 := ⟨kpchkY_ok (gs := [1495]) (ps := [0]) (by decide +kernel) (by decide +kernel) (by rfl) (by decide +kernel), qPN11, by decide⟩
set_option maxRecDepth 100000 in
theorem qO199 : kMethX qM199 := ⟨kpchkY_ok (gs := []) (ps := []) (by decide +kernel) (by decide +kernel) (by rfl) (by decide +kernel), qPN11, by decide⟩
set_option maxRecDepth 100000 in
theorem qO200 : kMethX qM200 := ⟨kpchkY_ok (gs := [79, 67, 1601, 1, 0]) (ps := [2, 3, 0, 1, 4, 2, 3, 0, 1, 4, 2, 3, 0, 1, 4]) (by decide +kernel) (by decide +kernel) (by rfl) (by decide +kernel), qPN11, by decide⟩
set_option maxRecDepth 100000 in
theorem qO201 : kMethX qM201 := ⟨kpchkY_ok (gs := [78, 12, 55, 1347, 214, 0, 0, 32, 1, 0, 64, 1, 0]) (ps := [3, 4, 5, 2, 6, 7, 8, 0, 2, 9, 10, 11, 1, 2, 12]) (by decide +kernel) (by decide +kernel) (by rfl) (by decide +kernel), qPN11, by decide⟩
set_option maxRecDepth 100000 in
theorem qO202 : kMethX qM202 := ⟨kpchkY_ok (gs := [78, 7, 44, 0, 0, 13, 1347, 249, 1, 0, 40, 1, 0, 302, 1, 0, 0, 1, 0, 0, 1, 0]) (ps := [6, 6, 6, 13, 14, 2, 5, 15, 13, 14, 2, 5, 15, 13, 14, 2, 5, 15, 13, 14, 2, 5, 15, 13, 14, 2, 5, 15, 6, 6, 10, 11, 1, 5, 12, 6, 7, 8, 0, 5, 9, 16, 17, 3, 5, 18, 6, 19, 20, 4, 5, 21, 6, 6, 6]) (by decide +kernel) (by decide +kernel) (by rfl) (by decide +kernel), qPN11, by decide⟩
set_option maxRecDepth 100000 in
theorem qO203 : kMethX qM203 := ⟨kpchkY_ok (gs := [81, 65, 1347, 261, 1, 0]) (ps := [2, 2, 3, 4, 0, 1, 5, 2, 3, 4, 0, 1, 5]) (by decide +kernel) (by decide +kernel) (by rfl) (by decide +kernel), qPN11, by decide⟩
set_option maxRecDepth 100000 in
theorem qO204 : kMethX qM204 := ⟨kpchkY_ok (gs := [79, 0, 66, 1601, 1, 0, 0, 1, 0]) (ps := [3, 4, 0, 2, 5, 6, 7, 1, 2, 8, 3, 4, 0, 2, 5]) (by decide +kernel) (by decide +kernel) (by rfl) (by decide +kernel), qPN11, by decide⟩
set_option maxRecDepth 100000 in
theorem qO205 : kMethX qM205 := ⟨kpchkY_ok (gs := [147, 1333, 13, 1, 2, 1, 0, 195, 0, 0]) (ps := [1, 7, 8, 0, 9, 3, 2, 5, 4, 6]) (by decide +kernel) (by decide +kernel) (by rfl) (by decide +kernel), qPN11, by decide⟩
set_option maxRecDepth 100000 in
theorem qO206 : kMethX qM206 := ⟨kpchkY_ok (gs := [78, 68, 1597, 1, 0]) (ps := [2, 3, 0, 1, 4]) (by decide +kernel) (by decide +kernel) (by rfl) (by decide +kernel), qPN11, by decide⟩
set_option maxRecDepth 100000 in
theorem qO207 : kMethX qM207 := ⟨kpchkY_ok (gs := []) (ps := []) (by decide +kernel) (by decide +kernel) (by rfl) (by decide +kernel), qPN11, by decide⟩
set_option maxRecDepth 100000 in
theorem qO208 : kMethX qM208 := ⟨kpchkY_ok (gs := [147, 1347, 203, 0, 0]) (ps := [1, 2, 3, 0, 4]) (by decide +kernel) (by decide +kernel) (by rfl) (by decide +kernel), qPN11, by decide⟩
set_option maxRecDepth 100000 in
theorem qO209 : kMethX qM209 := ⟨kpchkY_ok (gs := []) (ps := []) (by decide +kernel) (by decide +kernel) (by rfl) (by decide +kernel), qPN11, by decide⟩
set_option maxRecDepth 100000 in
theorem qO210 : kMethX qM210 := ⟨kpchkY_ok (gs := []) (ps := []) (by decide +kernel) (by decide +kernel) (by rfl) (by decide +kernel), qPN11, by decide⟩
set_option maxRecDepth 100000 in
theorem qO211 : kMethX qM211 := ⟨kpchkY_ok (gs := [147, 1340, 4, 160, 0, 0]) (ps := [1, 2, 3, 4, 0, 5]) (by decide +kernel) (by decide +kernel) (by rfl) (by decide +kernel), qPN11, by decide⟩
set_option maxRecDepth 100000 in
theorem qO212 : kMethX qM212 := ⟨kpchkY_ok (gs := [63, 1, 81, 1345, 0, 1, 4, 166, 1, 0, 4, 1, 0, 0, 0, 0]) (ps := [10, 11, 1, 2, 12, 7, 8, 0, 2, 9, 6, 5, 3, 13, 14, 2, 15, 4, 4, 7, 8, 0, 2, 9]) (by decide +kernel) (by decide +kernel) (by rfl) (by decide +kernel), qPN11, by decide⟩
set_option maxRecDepth 100000 in
theorem qO213 : kMethX qM213 := ⟨kpchkY_ok (gs := [147, 1347, 203, 0, 0]) (ps := [1, 2, 3, 0, 4]) (by decide +kernel) (by decide +kernel) (by rfl) (by decide +kernel), qPN11, by decide⟩
set_option maxRecDepth 100000 in
theorem qO214 : kMethX qM214 := ⟨kpchkY_ok (gs := [147, 1347, 214, 0, 0]) (ps := [1, 2, 3, 0, 4]) (by decide +kernel) (by decide +kernel) (by rfl) (by decide +kernel), qPN11, by decide⟩
set_option maxRecDepth 100000 in
theorem qO215 : kMethX qM215 := ⟨kpchkY_ok (gs := [1488, 1]) (ps := [0, 1]) (by decide +kernel) (by decide +kernel) (by rfl) (by decide +kernel), qPN11, by decide⟩
set_option maxRecDepth 100000 in
theorem qO216 : kMethX qM216 := ⟨kpchkY_ok (gs := [147, 1347, 214, 0, 0]) (ps := [1, 1, 1, 2, 3, 0, 4]) (by decide +kernel) (by decide +kernel) (by rfl) (by decide +kernel), qPN11, by decide⟩
set_option maxRecDepth 100000 in
theorem qO217 : kMethX qM217 := ⟨kpchkY_ok (gs := [147, 1340, 4, 160, 0, 0]) (ps := [1, 2, 3, 4, 0, 5]) (by decide +kernel) (by decide +kernel) (by rfl) (by decide +kernel), qPN11, by decide⟩
set_option maxRecDepth 100000 in
theorem qO218 : kMethX qM218 := ⟨kpchkY_ok (gs := [1494, 22]) (ps := [1, 0]) (by decide +kernel) (by decide +kernel) (by rfl) (by decide +kernel), qPN11, by decide⟩
set_option maxRecDepth 100000 in
theorem qO219 : kMethX qM219 := ⟨kpchkY_ok (gs := [1495, 3]) (ps := [1, 0]) (by decide +kernel) (by decide +kernel) (by rfl) (by decide +kernel), qPN11, by decide⟩
set_option maxRecDepth 100000 in
theorem qO220 : kMethX qM220 := ⟨kpchkY_ok (gs := []) (ps := []) (by decide +kernel) (by decide +kernel) (by rfl) (by decide +kernel), qPN11, by decide⟩
set_option maxRecDepth 100000 in
theorem qO221 : kMethX qM221 := ⟨kpchkY_ok (gs := [99, 1, 45, 1347, 13, 386, 1, 0, 4, 1, 0]) (ps := [3, 3, 8, 9, 1, 2, 10, 4, 4, 5, 6, 0, 2, 7, 4]) (by decide +kernel) (by decide +kernel) (by rfl) (by decide +kernel), qPN11, by decide⟩
set_option maxRecDepth 100000 in
theorem qO222 : kMethX qM222 := ⟨kpchkY_ok (gs := [54, 39, 52, 1329, 1, 0, 14, 329, 1, 0]) (ps := [7, 8, 1, 2, 9, 6, 6, 6, 6, 6, 3, 4, 0, 2, 5]) (by decide +kernel) (by decide +kernel) (by rfl) (by decide +kernel), qPN11, by decide⟩
set_option maxRecDepth 100000 in
theorem qO223 : kMethX qM223 := ⟨kpchkY_ok (gs := [76, 10, 59, 1333, 255, 1, 0, 56, 1, 0]) (ps := [3, 4, 5, 0, 2, 6, 7, 8, 1, 2, 9]) (by decide +kernel) (by decide +kernel) (by rfl) (by decide +kernel), qPN11, by decide⟩
set_option maxRecDepth 100000 in
theorem qO224 : kMethX qM224 := ⟨kpchkY_ok (gs := [78, 68, 1333, 13, 249, 1, 0]) (ps := [2, 3, 3, 4, 5, 0, 1, 6]) (by decide +kernel) (by decide +kernel) (by rfl) (by decide +kernel), qPN11, by decide⟩
set_option maxRecDepth 100000 in
theorem qO225 : kMethX qM225 := ⟨kpchkY_ok (gs := [99, 2, 44, 1333, 13, 11, 1, 0, 0, 384, 1, 0, 8, 1, 0]) (ps := [3, 6, 9, 10, 0, 2, 11, 4, 5, 12, 13, 1, 2, 14, 5, 4, 7, 8]) (by decide +kernel) (by decide +kernel) (by rfl) (by decide +kernel), qPN11, by decide⟩
set_option maxRecDepth 100000 in
theorem qO226 : kMethX qM226 := ⟨kpchkY_ok (gs := [147, 1333, 25, 2, 0, 187, 0, 0]) (ps := [1, 4, 3, 5, 6, 0, 7, 2]) (by decide +kernel) (by decide +kernel) (by rfl) (by decide +kernel), qPN11, by decide⟩
set_option maxRecDepth 100000 in
theorem qO227 : kMethX qM227 := ⟨kpchkY_ok (gs := [100, 46, 1347, 10, 1, 391, 1, 0]) (ps := [3, 2, 2, 4, 5, 6, 0, 1, 7]) (by decide +kernel) (by decide +kernel) (by rfl) (by decide +kernel), qPN11, by decide⟩
set_option maxRecDepth 100000 in
theorem qO228 : kMethX qM228 := ⟨kpchkY_ok (gs := [84, 0, 0, 60, 1333, 13, 277, 1, 0, 8, 1, 0, 0, 1, 0]) (ps := [4, 5, 9, 10, 1, 3, 11, 5, 12, 13, 2, 3, 14, 5, 6, 7, 0, 3, 8]) (by decide +kernel) (by decide +kernel) (by rfl) (by decide +kernel), qPN11, by decide⟩
set_option maxRecDepth 100000 in
theorem qO229 : kMethX qM229 := ⟨kpchkY_ok (gs := [76, 33, 2, 0, 32, 1333, 13, 203, 0, 0, 35, 1, 0, 249, 1, 0, 13, 1, 0, 0, 1, 0]) (ps := [5, 10, 11, 0, 4, 12, 7, 8, 4, 9, 16, 17, 2, 4, 18, 13, 14, 1, 4, 15, 6, 19, 20, 3, 4, 21]) (by decide +kernel) (by decide +kernel) (by rfl) (by decide +kernel), qPN11, by decide⟩
set_option maxRecDepth 100000 in
theorem qO230 : kMethX qM230 := ⟨kpchkY_ok (gs := [53, 1, 3, 14, 72, 1325, 1, 0, 11, 3, 2, 0, 3, 0, 2, 0, 116, 1, 0, 20, 1, 0, 71, 1, 0]) (ps := [16, 17, 1, 4, 18, 11, 15, 8, 19, 20, 2, 4, 21, 22, 23, 3, 4, 24, 9, 10, 11, 12, 13, 5, 6, 0, 4, 7, 14]) (by decide +kernel) (by decide +kernel) (by rfl) (by decide +kernel), qPN11, by decide⟩
set_option maxRecDepth 100000 in
theorem qO231 : kMethX qM231 := ⟨kpchkY_ok (gs := [79, 67, 1347, 253, 1, 0, 112, 0, 0]) (ps := [2, 2, 2, 2, 2, 3, 4, 0, 1, 5, 2, 2, 2, 6, 7, 1, 8, 2, 2]) (by decide +kernel) (by decide +kernel) (by rfl) (by decide +kernel), qPN11, by decide⟩
set_option maxRecDepth 100000 in
theorem qO232 : kMethX qM232 := ⟨kpchkY_ok (gs := [1495]) (ps := [0, 0, 0, 0]) (by decide +kernel) (by decide +kernel) (by rfl) (by decide +kernel), qPN11, by decide⟩
set_option maxRecDepth 100000 in
theorem qO233 : kMethX qM233 := ⟨kpchkY_ok (gs := [76, 5, 6, 57, 1333, 255, 1, 0, 24, 1, 0, 36, 1, 0]) (ps := [4, 8, 9, 1, 3, 10, 5, 6, 0, 3, 7, 11, 12, 2, 3, 13]) (by decide +kernel) (by decide +kernel) (by rfl) (by decide +kernel), qPN11, by decide⟩
set_option maxRecDepth 100000 in
theorem qO234 : kMethX qM234 := ⟨kpchkY_ok (gs := [83, 7, 55, 1347, 273, 1, 0, 40, 1, 0]) (ps := [3, 7, 8, 1, 2, 9, 3, 4, 5, 0, 2, 6]) (by decide +kernel) (by decide +kernel) (by rfl) (by decide +kernel), qPN11, by decide⟩
set_option maxRecDepth 100000 in
theorem qO235 : kMethX qM235 := ⟨kpchkY_ok (gs := [78, 0, 10, 56, 1347, 249, 1, 0, 0, 1, 0, 56, 1, 0]) (ps := [4, 8, 9, 1, 3, 10, 5, 6, 0, 3, 7, 11, 12, 2, 3, 13, 8, 9, 1, 3, 10]) (by decide +kernel) (by decide +kernel) (by rfl) (by decide +kernel), qPN11, by decide⟩
set_option maxRecDepth 100000 in
theorem qO236 : kMethX qM236 := ⟨kpchkY_ok (gs := [79, 67, 1601, 1, 0]) (ps := [2, 3, 0, 1, 4]) (by decide +kernel) (by decide +kernel) (by rfl) (by decide +kernel), qPN11, by decide⟩
set_option maxRecDepth 100000 in
theorem qO237 : kMethX qM237 := ⟨kpchkY_ok (gs := [96, 50, 1347, 369, 0, 0, 0, 1, 0]) (ps := [2, 3, 4, 1, 5, 6, 7, 0, 1, 8]) (by decide +kernel) (by decide +kernel) (by rfl) (by decide +kernel), qPN11, by decide⟩
set_option maxRecDepth 100000 in
theorem qO238 : kMethX qM238 := ⟨kpchkY_ok (gs := [77, 4, 0, 0, 62, 1333, 13, 245, 1, 0, 20, 1, 0, 0, 1, 0, 0, 1, 0]) (ps := [5, 10, 11, 1, 4, 12, 7, 8, 0, 4, 9, 13, 14, 2, 4, 15, 6, 6, 16, 17, 3, 4, 18, 6, 7, 8, 0, 4, 9]) (by decide +kernel) (by decide +kernel) (by rfl) (by decide +kernel), qPN11, by decide⟩
set_option maxRecDepth 100000 in
theorem qO239 : kMethX qM239 := ⟨kpchkY_ok (gs := [1494, 1]) (ps := [1, 0]) (by decide +kernel) (by decide +kernel) (by rfl) (by decide +kernel), qPN11, by decide⟩
