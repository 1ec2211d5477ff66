set_option maxRecDepth 100000 in
theorem kO85 : kMethOK kM85 := ⟨kchk_ok (gs := [139, 137, 0, 0, 5, 0, 0, 0, 0, 0, 0, 2]) (ps := [4, 1, 2, 0, 3, 5, 1, 2, 0, 3, 6, 1, 2, 0, 3, 7, 1, 2, 0, 3, 8, 1, 2, 0, 3, 9, 1, 2, 0, 3, 10, 11]) (by decide +kernel), by decide +kernel⟩
set_option maxRecDepth 100000 in
theorem kO86 : kMethOK kM86 := ⟨kchk_ok (gs := [294]) (ps := [0]) (by decide +kernel), by decide +kernel⟩
set_option maxRecDepth 100000 in
theorem kO87 : kMethOK kM87 := ⟨kchk_ok (gs := [167, 0, 5, 0, 0, 2, 0, 0, 3, 0, 1, 1, 1, 1, 24]) (ps := [2, 0, 1, 14, 3, 4, 5, 6, 7, 8, 9, 10, 11, 12, 13]) (by decide +kernel), by decide +kernel⟩
set_option maxRecDepth 100000 in
theorem kO88 : kMethOK kM88 := ⟨kchk_ok (gs := [175, 0]) (ps := [1, 1, 0, 0, 1, 1, 1]) (by decide +kernel), by decide +kernel⟩
set_option maxRecDepth 100000 in
theorem kO89 : kMethOK kM89 := ⟨kchk_ok (gs := [136, 39, 2, 0, 0, 3, 4, 376, 0, 0, 0]) (ps := [3, 7, 8, 9, 0, 10, 3, 1, 3, 5, 6, 1, 2, 3, 1, 4]) (by decide +kernel), by decide +kernel⟩
set_option maxRecDepth 100000 in
theorem kO90 : kMethOK kM90 := ⟨kchk_ok (gs := [136, 42, 0, 11, 1, 368, 0, 0, 0]) (ps := [1, 2, 3, 4, 5, 6, 7, 0, 8]) (by decide +kernel), by decide +kernel⟩
set_option maxRecDepth 100000 in
theorem kO91 : kMethOK kM91 := ⟨kchk_ok (gs := [181]) (ps := [0]) (by decide +kernel), by decide +kernel⟩
set_option maxRecDepth 100000 in
theorem kO92 : kMethOK kM92 := ⟨kchk_ok (gs := [185, 6, 1]) (ps := [1, 0, 2]) (by decide +kernel), by decide +kernel⟩
set_option maxRecDepth 100000 in
theorem kO93 : kMethOK kM93 := ⟨kchk_ok (gs := [176]) (ps := [0]) (by decide +kernel), by decide +kernel⟩
set_option maxRecDepth 100000 in
theorem kO94 : kMethOK kM94 := ⟨kchk_ok (gs := [138, 28, 0, 99, 1, 0, 52, 0, 1, 0, 0, 0]) (ps := [6, 1, 2, 7, 9, 10, 11, 9, 9, 7, 3, 0, 8, 4, 0, 5]) (by decide +kernel), by decide +kernel⟩
set_option maxRecDepth 100000 in
theorem kO95 : kMethOK kM95 := ⟨kchk_ok (gs := [330]) (ps := [0]) (by decide +kernel), by decide +kernel⟩
set_option maxRecDepth 100000 in
theorem kO96 : kMethOK kM96 := ⟨kchk_ok (gs := [138, 16, 172, 0, 0, 359, 0, 0, 105, 0, 0, 0]) (ps := [3, 3, 2, 2, 3, 8, 5, 6, 0, 7, 3, 2, 3, 3, 4, 2, 9, 10, 1, 11, 4]) (by decide +kernel), by decide +kernel⟩
set_option maxRecDepth 100000 in
theorem kO97 : kMethOK kM97 := ⟨kchk_ok (gs := [328, 0, 0]) (ps := [1, 0, 2]) (by decide +kernel), by decide +kernel⟩
set_option maxRecDepth 100000 in
theorem kO98 : kMethOK kM98 := ⟨kchk_ok (gs := [53, 93, 19, 0, 96, 0, 1209, 0, 1, 0, 5, 12, 0, 0, 0, 0, 0, 0, 0, 0, 2, 0, 0, 0, 2, 0, 0, 2, 0, 2, 95]) (ps := [6, 2, 3, 5, 10, 5, 11, 5, 12, 5, 13, 5, 14, 5, 15, 4, 16, 4, 17, 4, 18, 30, 19, 5, 20, 5, 21, 30, 22, 30, 23, 24, 25, 5, 26, 5, 27, 5, 28, 5, 29, 7, 8, 0, 1, 9]) (by decide +kernel), by decide +kernel⟩
set_option maxRecDepth 100000 in
theorem kO99 : kMethOK kM99 := ⟨kchk_ok (gs := []) (ps := []) (by decide +kernel), by decide +kernel⟩
set_option maxRecDepth 100000 in
theorem kO100 : kMethOK kM100 := ⟨kchk_ok (gs := [1485, 30]) (ps := [0, 1]) (by decide +kernel), by decide +kernel⟩
set_option maxRecDepth 100000 in
theorem kO101 : kMethOK kM101 := ⟨kchk_ok (gs := [82, 4, 59, 1337, 283, 1, 0, 28, 1, 0]) (ps := [3, 4, 5, 0, 2, 6, 7, 8, 1, 2, 9]) (by decide +kernel), by decide +kernel⟩
set_option maxRecDepth 100000 in
theorem kO102 : kMethOK kM102 := ⟨kchk_ok (gs := [1491, 0, 2, 0]) (ps := [1, 2, 0, 3]) (by decide +kernel), by decide +kernel⟩
set_option maxRecDepth 100000 in
theorem kO103 : kMethOK kM103 := ⟨kchk_ok (gs := [56, 0, 89, 1337, 2, 0, 0, 4, 134, 1, 0, 0, 1, 0]) (ps := [3, 8, 9, 0, 2, 10, 4, 5, 7, 6, 11, 12, 1, 2, 13]) (by decide +kernel), by decide +kernel⟩
set_option maxRecDepth 100000 in
theorem kO104 : kMethOK kM104 := ⟨kchk_ok (gs := []) (ps := []) (by decide +kernel), by decide +kernel⟩
set_option maxRecDepth 100000 in
theorem kO105 : kMethOK kM105 := ⟨kchk_ok (gs := [55, 29, 27, 8, 24, 1337, 6, 6, 22, 0, 0, 101, 1, 0, 73, 0, 0, 83, 1, 0, 218, 1, 0, 36, 1, 0]) (ps := [5, 14, 15, 4, 16, 11, 12, 0, 4, 13, 9, 6, 20, 21, 2, 4, 22, 9, 8, 8, 8, 7, 8, 17, 18, 1, 4, 19, 10, 23, 24, 3, 4, 25]) (by decide +kernel), by decide +kernel⟩
set_option maxRecDepth 100000 in
theorem kO106 : kMethOK kM106 := ⟨kchk_ok (gs := [147, 1337, 33, 183, 0, 0]) (ps := [1, 2, 3, 4, 0, 5]) (by decide +kernel), by decide +kernel⟩
set_option maxRecDepth 100000 in
theorem kO107 : kMethOK kM107 := ⟨kchk_ok (gs := [76, 70, 1337, 255, 1, 0]) (ps := [2, 3, 4, 0, 1, 5]) (by decide +kernel), by decide +kernel⟩
set_option maxRecDepth 100000 in
theorem kO108 : kMethOK kM108 := ⟨kchk_ok (gs := [76, 10, 59, 1337, 255, 1, 0, 56, 1, 0]) (ps := [3, 4, 5, 0, 2, 6, 7, 8, 1, 2, 9]) (by decide +kernel), by decide +kernel⟩
set_option maxRecDepth 100000 in
theorem kO109 : kMethOK kM109 := ⟨kchk_ok (gs := [1486, 0]) (ps := [0, 1, 1, 1]) (by decide +kernel), by decide +kernel⟩
set_option maxRecDepth 100000 in
theorem kO110 : kMethOK kM110 := ⟨kchk_ok (gs := [1485, 1, 11]) (ps := [0, 2, 2, 2, 1]) (by decide +kernel), by decide +kernel⟩
set_option maxRecDepth 100000 in
theorem kO111 : kMethOK kM111 := ⟨kchk_ok (gs := [104, 42, 1337, 13, 17, 410, 0, 0, 11, 1, 0]) (ps := [2, 3, 3, 8, 9, 0, 1, 10, 4, 5, 6, 1, 7]) (by decide +kernel), by decide +kernel⟩
set_option maxRecDepth 100000 in
theorem kO112 : kMethOK kM112 := ⟨kchk_ok (gs := [1485, 31]) (ps := [0, 1]) (by decide +kernel), by decide +kernel⟩
set_option maxRecDepth 100000 in
theorem kO113 : kMethOK kM113 := ⟨kchk_ok (gs := [92, 2, 51, 1337, 13, 203, 0, 0, 115, 1, 0, 40, 1, 0]) (ps := [3, 5, 6, 2, 7, 4, 8, 9, 0, 2, 10, 11, 12, 1, 2, 13]) (by decide +kernel), by decide +kernel⟩
set_option maxRecDepth 100000 in
theorem kO114 : kMethOK kM114 := ⟨kchk_ok (gs := [147, 1337, 13, 203, 0, 0]) (ps := [1, 3, 4, 0, 5, 2]) (by decide +kernel), by decide +kernel⟩
set_option maxRecDepth 100000 in
theorem kO115 : kMethOK kM115 := ⟨kchk_ok (gs := [76, 70, 1337, 255, 1, 0]) (ps := [2, 3, 4, 0, 1, 5]) (by decide +kernel), by decide +kernel⟩
set_option maxRecDepth 100000 in
theorem kO116 : kMethOK kM116 := ⟨kchk_ok (gs := [1485, 1]) (ps := [0, 1, 1]) (by decide +kernel), by decide +kernel⟩
set_option maxRecDepth 100000 in
theorem kO117 : kMethOK kM117 := ⟨kchk_ok (gs := [1485, 9]) (ps := [0, 1]) (by decide +kernel), by decide +kernel⟩
set_option maxRecDepth 100000 in
theorem kO118 : kMethOK kM118 := ⟨kchk_ok (gs := [52, 94, 1315, 1, 1, 17, 1]) (ps := [5, 6, 2, 3, 0, 1, 4, 2, 3, 0, 1, 4, 2, 3, 0, 1, 4, 2, 3, 0, 1, 4, 2, 3, 0, 1, 4, 6]) (by decide +kernel), by decide +kernel⟩
set_option maxRecDepth 100000 in
theorem kO119 : kMethOK kM119 := ⟨kchk_ok (gs := [56, 90, 1337, 144, 1, 0, 69, 0, 0]) (ps := [2, 3, 4, 0, 1, 5, 6, 7, 1, 8]) (by decide +kernel), by decide +kernel⟩
set_option maxRecDepth 100000 in
theorem kO120 : kMethOK kM120 := ⟨kchk_ok (gs := [76, 0, 69, 1337, 255, 1, 0, 0, 1, 0]) (ps := [3, 4, 5, 0, 2, 6, 7, 8, 1, 2, 9]) (by decide +kernel), by decide +kernel⟩
set_option maxRecDepth 100000 in
theorem kO121 : kMethOK kM121 := ⟨kchk_ok (gs := [1488, 0, 0, 0, 0]) (ps := [2, 0, 2, 3, 0, 1, 2, 0, 4]) (by decide +kernel), by decide +kernel⟩
set_option maxRecDepth 100000 in
theorem kO122 : kMethOK kM122 := ⟨kchk_ok (gs := [82, 64, 1337, 283, 1, 0]) (ps := [2, 3, 4, 0, 1, 5]) (by decide +kernel), by decide +kernel⟩
set_option maxRecDepth 100000 in
theorem kO123 : kMethOK kM123 := ⟨kchk_ok (gs := [147, 1337, 13, 1, 2, 1, 0, 195, 0, 0]) (ps := [1, 7, 8, 0, 9, 3, 2, 5, 4, 6]) (by decide +kernel), by decide +kernel⟩
set_option maxRecDepth 100000 in
theorem kO124 : kMethOK kM124 := ⟨kchk_ok (gs := [147, 1351, 203, 0, 0]) (ps := [1, 2, 3, 0, 4]) (by decide +kernel), by decide +kernel⟩
set_option maxRecDepth 100000 in
theorem kO125 : kMethOK kM125 := ⟨kchk_ok (gs := []) (ps := []) (by decide +kernel), by decide +kernel⟩
set_option maxRecDepth 100000 in
theorem kO126 : kMethOK kM126 := ⟨kchk_ok (gs := [147, 1351, 203, 0, 0]) (ps := [1, 2, 3, 0, 4]) (by decide +kernel), by decide +kernel⟩
set_option maxRecDepth 100000 in
theorem kO127 : kMethOK kM127 := ⟨kchk_ok (gs := [1492]) (ps := [0]) (by decide +kernel), by decide +kernel⟩
set_option maxRecDepth 100000 in
theorem kO128 : kMethOK kM128 := ⟨kchk_ok (gs := [1492]) (ps := [0]) (by decide +kernel), by decide +kernel⟩
set_option maxRecDepth 100000 in
theorem kO129 : kMethOK kM129 := ⟨kchk_ok (gs := [1499, 3]) (ps := [1, 0]) (by decide +kernel), by decide +kernel⟩
set_option maxRecDepth 100000 in
theorem kO130 : kMethOK kM130 := ⟨kchk_ok (gs := []) (ps := []) (by decide +kernel), by decide +kernel⟩
set_option maxRecDepth 100000 in
theorem kO131 : kMethOK kM131 := ⟨kchk_ok (gs := [76, 10, 59, 1337, 255, 1, 0, 56, 1, 0]) (ps := [3, 4, 5, 0, 2, 6, 7, 8, 1, 2, 9]) (by decide +kernel), by decide +kernel⟩
set_option maxRecDepth 100000 in
theorem kO132 : kMethOK kM132 := ⟨kchk_ok (gs := [1485, 13]) (ps := [0, 1]) (by decide +kernel), by decide +kernel⟩
set_option maxRecDepth 100000 in
theorem kO133 : kMethOK kM133 := ⟨kchk_ok (gs := [99, 47, 1337, 13, 13, 0, 0, 384, 1, 0]) (ps := [2, 4, 7, 8, 0, 1, 9, 3, 3, 5, 6]) (by decide +kernel), by decide +kernel⟩
set_option maxRecDepth 100000 in
theorem kO134 : kMethOK kM134 := ⟨kchk_ok (gs := [1485, 29]) (ps := [0, 1]) (by decide +kernel), by decide +kernel⟩
set_option maxRecDepth 100000 in
theorem kO135 : kMethOK kM135 := ⟨kchk_ok (gs := [1499, 10]) (ps := [1, 0]) (by decide +kernel), by decide +kernel⟩
set_option maxRecDepth 100000 in
theorem kO136 : kMethOK kM136 := ⟨kchk_ok (gs := [84, 0, 61, 1337, 13, 277, 1, 0, 8, 1, 0]) (ps := [3, 4, 8, 9, 1, 2, 10, 4, 4, 5, 6, 0, 2, 7]) (by decide +kernel), by decide +kernel⟩
set_option maxRecDepth 100000 in
theorem kO137 : kMethOK kM137 := ⟨kchk_ok (gs := [76, 70, 1337, 255, 1, 0]) (ps := [2, 3, 4, 0, 1, 5]) (by decide +kernel), by decide +kernel⟩
set_option maxRecDepth 100000 in
theorem kO138 : kMethOK kM138 := ⟨kchk_ok (gs := [53, 1, 91, 1329, 1, 0, 11, 6, 0, 3, 0, 2, 0, 116, 1, 0]) (ps := [13, 14, 1, 2, 15, 8, 12, 6, 7, 8, 9, 10, 3, 4, 0, 2, 5, 11]) (by decide +kernel), by decide +kernel⟩
set_option maxRecDepth 100000 in
theorem kO139 : kMethOK kM139 := ⟨kchk_ok (gs := [1499]) (ps := [0, 0, 0]) (by decide +kernel), by decide +kernel⟩
set_option maxRecDepth 100000 in
theorem kO140 : kMethOK kM140 := ⟨kchk_ok (gs := [1499]) (ps := [0, 0, 0, 0]) (by decide +kernel), by decide +kernel⟩
set_option maxRecDepth 100000 in
theorem kO141 : kMethOK kM141 := ⟨kchk_ok (gs := [82, 64, 1337, 283, 1, 0]) (ps := [2, 3, 4, 0, 1, 5]) (by decide +kernel), by decide +kernel⟩
set_option maxRecDepth 100000 in
theorem kO142 : kMethOK kM142 := ⟨kchk_ok (gs := [96, 50, 1351, 369, 0, 0, 0, 1, 0]) (ps := [2, 3, 4, 1, 5, 6, 7, 0, 1, 8]) (by decide +kernel), by decide +kernel⟩
set_option maxRecDepth 100000 in
theorem kO143 : kMethOK kM143 := ⟨kchk_ok (gs := [77, 4, 64, 1337, 259, 1, 0, 20, 1, 0]) (ps := [3, 7, 8, 1, 2, 9, 4, 5, 0, 2, 6]) (by decide +kernel), by decide +kernel⟩
set_option maxRecDepth 100000 in
theorem kO144 : kMethOK kM144 := ⟨kchk_ok (gs := [125, 21, 1923, 1, 0]) (ps := [2, 3, 0, 1, 4]) (by decide +kernel), by decide +kernel⟩
set_option maxRecDepth 100000 in
theorem kO145 : kMethOK kM145 := ⟨kchk_ok (gs := [124, 22, 1919, 1, 0]) (ps := [2, 3, 0, 1, 4]) (by decide +kernel), by decide +kernel⟩
set_option maxRecDepth 100000 in
theorem kO146 : kMethOK kM146 := ⟨kchk_ok (gs := [60, 2, 11, 71, 1506, 1, 0, 14, 1, 0, 53, 1, 0]) (ps := [10, 11, 2, 3, 12, 4, 5, 0, 3, 6, 7, 8, 1, 3, 9]) (by decide +kernel), by decide +kernel⟩
set_option maxRecDepth 100000 in
theorem kO147 : kMethOK kM147 := ⟨kchk_ok (gs := [1485]) (ps := [0]) (by decide +kernel), by decide +kernel⟩
set_option maxRecDepth 100000 in
theorem kO148 : kMethOK kM148 := ⟨kchk_ok (gs := [82, 4, 59, 1337, 283, 1, 0, 28, 1, 0]) (ps := [3, 4, 5, 0, 2, 6, 7, 8, 1, 2, 9]) (by decide +kernel), by decide +kernel⟩
set_option maxRecDepth 100000 in
theorem kO149 : kMethOK kM149 := ⟨kchk_ok (gs := [147, 1337, 21, 195, 0, 0]) (ps := [1, 3, 4, 0, 5, 2]) (by decide +kernel), by decide +kernel⟩
set_option maxRecDepth 100000 in
theorem kO150 : kMethOK kM150 := ⟨kchk_ok (gs := [82, 4, 59, 1337, 283, 1, 0, 28, 1, 0]) (ps := [3, 4, 5, 0, 2, 6, 7, 8, 1, 2, 9]) (by decide +kernel), by decide +kernel⟩
set_option maxRecDepth 100000 in
theorem kO151 : kMethOK kM151 := ⟨kchk_ok (gs := [1485, 13]) (ps := [0, 1]) (by decide +kernel), by decide +kernel⟩
set_option maxRecDepth 100000 in
theorem kO152 : kMethOK kM152 := ⟨kchk_ok (gs := [55, 67, 23, 1348, 29, 0, 0, 97, 1, 0, 433, 1, 0]) (ps := [7, 8, 0, 2, 9, 4, 5, 6, 10, 11, 1, 2, 12, 3]) (by decide +kernel), by decide +kernel⟩
set_option maxRecDepth 100000 in
theorem kO153 : kMethOK kM153 := ⟨kchk_ok (gs := [104, 42, 1337, 13, 442, 1, 0]) (ps := [2, 3, 4, 5, 0, 1, 6, 3, 4, 5, 0, 1, 6]) (by decide +kernel), by decide +kernel⟩
set_option maxRecDepth 100000 in
theorem kO154 : kMethOK kM154 := ⟨kchk_ok (gs := [1499]) (ps := [0]) (by decide +kernel), by decide +kernel⟩
set_option maxRecDepth 100000 in
theorem kO155 : kMethOK kM155 := ⟨kchk_ok (gs := [82, 4, 59, 1337, 283, 1, 0, 28, 1, 0]) (ps := [3, 4, 5, 0, 2, 6, 7, 8, 1, 2, 9]) (by decide +kernel), by decide +kernel⟩
set_option maxRecDepth 100000 in
theorem kO156 : kMethOK kM156 := ⟨kchk_ok (gs := [1499, 2, 5]) (ps := [2, 1, 2, 0, 2, 2]) (by decide +kernel), by decide +kernel⟩
set_option maxRecDepth 100000 in
theorem kO157 : kMethOK kM157 := ⟨kchk_ok (gs := [82, 4, 59, 1337, 283, 1, 0, 28, 1, 0]) (ps := [3, 4, 5, 0, 2, 6, 7, 8, 1, 2, 9]) (by decide +kernel), by decide +kernel⟩
set_option maxRecDepth 100000 in
theorem kO158 : kMethOK kM158 := ⟨kchk_ok (gs := [76, 70, 1337, 255, 1, 0]) (ps := [2, 3, 4, 0, 1, 5]) (by decide +kernel), by decide +kernel⟩
set_option maxRecDepth 100000 in
theorem kO159 : kMethOK kM159 := ⟨kchk_ok (gs := [54, 92, 1333, 1, 0, 14]) (ps := [5, 5, 5, 5, 5, 2, 3, 0, 1, 4, 5]) (by decide +kernel), by decide +kernel⟩
set_option maxRecDepth 100000 in
theorem kO160 : kMethOK kM160 := ⟨kchk_ok (gs := [1499, 3]) (ps := [0, 0, 1, 1]) (by decide +kernel), by decide +kernel⟩
set_option maxRecDepth 100000 in
theorem kO161 : kMethOK kM161 := ⟨kchk_ok (gs := [1499]) (ps := [0]) (by decide +kernel), by decide +kernel⟩
set_option maxRecDepth 100000 in
theorem kO162 : kMethOK kM162 := ⟨kchk_ok (gs := [1487]) (ps := [0, 0]) (by decide +kernel), by decide +kernel⟩
set_option maxRecDepth 100000 in
theorem kO163 : kMethOK kM163 := ⟨kchk_ok (gs := [1499]) (ps := [0]) (by decide +kernel), by decide +kernel⟩
set_option maxRecDepth 100000 in
theorem kO164 : kMethOK kM164 := ⟨kchk_ok (gs := [1485]) (ps := [0]) (by decide +kernel), by decide +kernel⟩
set_option maxRecDepth 100000 in
theorem kO165 : kMethOK kM165 := ⟨kchk_ok (gs := [1485, 38]) (ps := [0, 1]) (by decide +kernel), by decide +kernel⟩
set_option maxRecDepth 100000 in
theorem kO166 : kMethOK kM166 := ⟨kchk_ok (gs := [1485, 22]) (ps := [0, 1]) (by decide +kernel), by decide +kernel⟩
set_option maxRecDepth 100000 in
theorem kO167 : kMethOK kM167 := ⟨kchk_ok (gs := [76, 70, 1337, 255, 1, 0]) (ps := [2, 3, 4, 0, 1, 5]) (by decide +kernel), by decide +kernel⟩
set_option maxRecDepth 100000 in
theorem kO168 : kMethOK kM168 := ⟨kchk_ok (gs := [990, 0, 0]) (ps := [0, 1, 1, 2]) (by decide +kernel), by decide +kernel⟩
set_option maxRecDepth 100000 in
theorem kO169 : kMethOK kM169 := ⟨kchk_ok (gs := []) (ps := []) (by decide +kernel), by decide +kernel⟩
theorem kOc0 : ∀ r ∈ ([kM0, kM1, kM2, kM3, kM4, kM5, kM6, kM7, kM8, kM9, kM10, kM11, kM12, kM13, kM14, kM15, kM16, kM17, kM18, kM19, kM20, kM21, kM22, kM23] : List KMeth), kMethOK r := List.forall_mem_cons.mpr ⟨kO0, List.forall_mem_cons.mpr ⟨kO1, List.forall_mem_cons.mpr ⟨kO2, List.forall_mem_cons.mpr ⟨kO3, List.forall_mem_cons.mpr ⟨kO4, List.forall_mem_cons.mpr ⟨kO5, List.forall_mem_cons.mpr ⟨kO6, List.forall_mem_cons.mpr ⟨kO7, List.forall_mem_cons.mpr ⟨kO8, List.forall_mem_cons.mpr ⟨kO9, List.forall_mem_cons.mpr ⟨kO10, List.forall_mem_cons.mpr ⟨kO11, List.forall_mem_cons.mpr ⟨kO12, List.forall_mem_cons.mpr ⟨kO13, List.forall_mem_cons.mpr ⟨kO14, List.forall_mem_cons.mpr ⟨kO15, List.forall_mem_cons.mpr ⟨kO16, List.forall_mem_cons.mpr ⟨kO17, List.forall_mem_cons.mpr ⟨kO18, List.forall_mem_cons.mpr ⟨kO19, List.forall_mem_cons.mpr ⟨kO20, List.forall_mem_cons.mpr ⟨kO21, List.forall_mem_cons.mpr ⟨kO22, List.forall_mem_cons.mpr ⟨kO23, fun _ h => absurd h List.not_mem_nil⟩⟩⟩⟩⟩⟩⟩⟩⟩⟩⟩⟩⟩⟩⟩⟩⟩⟩⟩⟩⟩⟩⟩⟩
theorem kOc1 : ∀ r ∈ ([kM24, kM25, kM26, kM27, kM28, kM29, kM30, kM31, kM32, kM33, kM34, kM35, kM36, kM37, kM38, kM39, kM40, kM41, kM42, kM43, kM44, kM45, kM46, kM47] : List KMeth), kMethOK r := List.forall_mem_cons.mpr ⟨kO24, List.forall_mem_cons.mpr ⟨kO25, List.forall_mem_cons.mpr ⟨kO26, List.forall_mem_cons.mpr ⟨kO27, List.forall_mem_cons.mpr ⟨kO28, List.forall_mem_cons.mpr ⟨kO29, List.forall_mem_cons.mpr ⟨kO30, List.forall_mem_cons.mpr ⟨kO31, List.forall_mem_cons.mpr ⟨kO32, List.forall_mem_cons.mpr ⟨kO33, List.forall_mem_cons.mpr ⟨kO34, List.forall_mem_cons.mpr ⟨kO35, List.forall_mem_cons.mpr ⟨kO36, List.forall_mem_cons.mpr ⟨kO37, List.forall_mem_cons.mpr ⟨kO38, List.forall_mem_cons.mpr ⟨kO39, List.forall_mem_cons.mpr ⟨kO40, List.forall_mem_cons.mpr ⟨kO41, List.forall_mem_cons.mpr ⟨kO42, List.forall_mem_cons.mpr ⟨kO43, List.forall_mem_cons.mpr ⟨kO44, List.forall_mem_cons.mpr ⟨kO45, List.forall_mem_cons.mpr ⟨kO46, List.forall_mem_cons.mpr ⟨kO47, fun _ h => absurd h List.not_mem_nil⟩⟩⟩⟩⟩⟩⟩⟩⟩⟩⟩⟩⟩⟩⟩⟩⟩⟩⟩⟩⟩⟩⟩⟩
theorem kOc2 : ∀ r ∈ ([kM48, kM49, kM50, kM51, kM52, kM53, kM54, kM55, kM56, kM57, kM58, kM59, kM60, kM61, kM62, kM63, kM64, kM65, kM66, kM67, kM68, kM69, kM70, kM71] : List KMeth), kMethOK r := List.forall_mem_cons.mpr ⟨kO48, List.forall_mem_cons.mpr ⟨kO49, List.forall_mem_cons.mpr ⟨kO50, List.forall_mem_cons.mpr ⟨kO51, List.forall_mem_cons.mpr ⟨kO52, List.forall_mem_cons.mpr ⟨kO53, List.forall_mem_cons.mpr ⟨kO54, List.forall_mem_cons.mpr ⟨kO55, List.forall_mem_cons.mpr ⟨kO56, List.forall_mem_cons.mpr ⟨kO57, List.forall_mem_cons.mpr ⟨kO58, List.forall_mem_cons.mpr ⟨kO59, List.forall_mem_cons.mpr ⟨kO60, List.forall_mem_cons.mpr ⟨kO61, List.forall_mem_cons.mpr ⟨kO62, List.forall_mem_cons.mpr ⟨kO63, List.forall_mem_cons.mpr ⟨kO64, List.forall_mem_cons.mpr ⟨kO65, List.forall_mem_cons.mpr ⟨kO66, List.forall_mem_cons.mpr ⟨kO67, List.forall_mem_cons.mpr ⟨kO68, List.forall_mem_cons.mpr ⟨kO69, List.forall_mem_cons.mpr ⟨kO70, List.forall_mem_cons.mpr ⟨kO71, fun _ h => absurd h List.not_mem_nil⟩⟩⟩⟩⟩⟩⟩⟩⟩⟩⟩⟩⟩⟩⟩⟩⟩⟩⟩⟩⟩⟩⟩⟩
theorem kOc3 : ∀ r ∈ ([kM72, kM73, kM74, kM75, kM76, kM77, kM78, kM79, kM80, kM81, kM82, kM83, kM84, kM85, kM86, kM87, kM88, kM89, kM90, kM91, kM92, kM93, kM94, kM95] : List KMeth), kMethOK r := List.forall_mem_cons.mpr ⟨kO72, List.forall_mem_cons.mpr ⟨kO73, List.forall_mem_cons.mpr ⟨kO74, List.forall_mem_cons.mpr ⟨kO75, List.forall_mem_cons.mpr ⟨kO76, List.forall_mem_cons.mpr ⟨kO77, List.forall_mem_cons.mpr ⟨kO78, List.forall_mem_cons.mpr ⟨kO79, List.forall_mem_cons.mpr ⟨kO80, List.forall_mem_cons.mpr ⟨kO81, List.forall_mem_cons.mpr ⟨kO82, List.forall_mem_cons.mpr ⟨kO83, List.forall_mem_cons.mpr ⟨kO84, List.forall_mem_cons.mpr ⟨kO85, List.forall_mem_cons.mpr ⟨kO86, List.forall_mem_cons.mpr ⟨kO87, List.forall_mem_cons.mpr ⟨kO88, List.forall_mem_cons.mpr ⟨kO89, List.forall_mem_cons.mpr ⟨kO90, List.forall_mem_cons.mpr ⟨kO91, List.forall_mem_cons.mpr ⟨kO92, List.forall_mem_cons.mpr ⟨kO93, List.forall_mem_cons.mpr ⟨kO94, List.forall_mem_cons.mpr ⟨kO95, fun _ h => absurd h List.not_mem_nil⟩⟩⟩⟩⟩⟩⟩⟩⟩⟩⟩⟩⟩⟩⟩⟩⟩⟩⟩⟩⟩⟩⟩⟩
theorem kOc4 : ∀ r ∈ ([kM96, kM97, kM98, kM99, kM100, kM101, kM102, kM103, kM104, kM105, kM106, kM107, kM108, kM109, kM110, kM111, kM112, kM113, kM114, kM115, kM116, kM117, kM118, kM119] : List KMeth), kMethOK r := List.forall_mem_cons.mpr ⟨kO96, List.forall_mem_cons.mpr ⟨kO97, List.forall_mem_cons.mpr ⟨kO98, List.forall_mem_cons.mpr ⟨kO99, List.forall_mem_cons.mpr ⟨kO100, List.forall_mem_cons.mpr ⟨kO101, List.forall_mem_cons.mpr ⟨kO102, List.forall_mem_cons.mpr ⟨kO103, List.forall_mem_cons.mpr ⟨kO104, List.forall_mem_cons.mpr ⟨kO105, List.forall_mem_cons.mpr ⟨kO106, List.forall_mem_cons.mpr ⟨kO107, List.forall_mem_cons.mpr ⟨kO108, List.forall_mem_cons.mpr ⟨kO109, List.forall_mem_cons.mpr ⟨kO110, List.forall_mem_cons.mpr ⟨kO111, List.forall_mem_cons.mpr ⟨kO112, List.forall_mem_cons.mpr ⟨kO113, List.forall_mem_cons.mpr ⟨kO114, List.forall_mem_cons.mpr ⟨kO115, List.forall_mem_cons.mpr ⟨kO116, List.forall_mem_cons.mpr ⟨kO117, List.forall_mem_cons.mpr ⟨kO118, List.forall_mem_cons.mpr ⟨kO119, fun _ h => absurd h List.not_mem_nil⟩⟩⟩⟩⟩⟩⟩⟩⟩⟩⟩⟩⟩⟩⟩⟩⟩⟩⟩⟩⟩⟩⟩⟩
theorem kOc5 : ∀ r ∈ ([kM120, kM121, kM122, kM123, kM124, kM125, kM126, kM127, kM128, kM129, kM130, kM131, kM132, kM133, kM134, kM135, kM136, kM137, kM138, kM139, kM140, kM141, kM142, kM143] : List KMeth), kMethOK r := List.forall_mem_cons.mpr ⟨kO120, List.forall_mem_cons.mpr ⟨kO121, List.forall_mem_cons.mpr ⟨kO122, List.forall_mem_cons.mpr ⟨kO123, List.forall_mem_cons.mpr ⟨kO124, List.forall_mem_cons.mpr ⟨kO125, List.forall_mem_cons.mpr ⟨kO126, List.forall_mem_cons.mpr ⟨kO127, List.forall_mem_cons.mpr ⟨kO128, List.forall_mem_cons.mpr ⟨kO129, List.forall_mem_cons.mpr ⟨kO130, List.forall_mem_cons.mpr ⟨kO131, List.forall_mem_cons.mpr ⟨kO132, List.forall_mem_cons.mpr ⟨kO133, List.forall_mem_cons.mpr ⟨kO134, List.forall_mem_cons.mpr ⟨kO135, List.forall_mem_cons.mpr ⟨kO136, List.forall_mem_cons.mpr ⟨kO137, List.forall_mem_cons.mpr ⟨kO138, List.forall_mem_cons.mpr ⟨kO139, List.forall_mem_cons.mpr ⟨kO140, List.forall_mem_cons.mpr ⟨kO141, List.forall_mem_cons.mpr ⟨kO142, List.forall_mem_cons.mpr ⟨kO143, fun _ h => absurd h List.not_mem_nil⟩⟩⟩⟩⟩⟩⟩⟩⟩⟩⟩⟩⟩⟩⟩⟩⟩⟩⟩⟩⟩⟩⟩⟩
theorem kOc6 : ∀ r ∈ ([kM144, kM145, kM146, kM147, kM148, kM149, kM150, kM151, kM152, kM153, kM154, kM155, kM156, kM157, kM158, kM159, kM160, kM161, kM162, kM163, kM164, kM165, kM166, kM167] : List KMeth), kMethOK r := List.forall_mem_cons.mpr ⟨kO144, List.forall_mem_cons.mpr ⟨kO145, List.forall_mem_cons.mpr ⟨kO146, List.forall_mem_cons.mpr ⟨kO147, List.forall_mem_cons.mpr ⟨kO148, List.forall_mem_cons.mpr ⟨kO149, List.forall_mem_cons.mpr ⟨kO150, List.forall_mem_cons.mpr ⟨kO151, List.forall_mem_cons.mpr ⟨kO152, List.forall_mem_cons.mpr ⟨kO153, List.forall_mem_cons.mpr ⟨kO154, List.forall_mem_cons.mpr ⟨kO155, List.forall_mem_cons.mpr ⟨kO156, List.forall_mem_cons.mpr ⟨kO157, List.forall_mem_cons.mpr ⟨kO158, List.forall_mem_cons.mpr ⟨kO159, List.forall_mem_cons.mpr ⟨kO160, List.forall_mem_cons.mpr ⟨kO161, List.forall_mem_cons.mpr ⟨kO162, List.forall_mem_cons.mpr ⟨kO163, List.forall_mem_cons.mpr ⟨kO164, List.forall_mem_cons.mpr ⟨kO165, List.forall_mem_cons.mpr ⟨kO166, List.forall_mem_cons.mpr ⟨kO167, fun _ h => absurd h List.not_mem_nil⟩⟩⟩⟩⟩⟩⟩⟩⟩⟩⟩⟩⟩⟩⟩⟩⟩⟩⟩⟩⟩⟩⟩⟩
theorem kOc7 : ∀ r ∈ ([kM168, kM169] : List KMeth), kMethOK r := List.forall_mem_cons.mpr ⟨kO168, List.forall_mem_cons.mpr ⟨kO169, fun _ h => absurd h List.not_mem_nil⟩⟩
set_option maxRecDepth 100000 in
theorem kOall : kOK kmeths kStats := by
  intro mid r h
  have hm : r ∈ ([kM0, kM1, kM2, kM3, kM4, kM5, kM6, kM7, kM8, kM9, kM10, kM11, kM12, kM13, kM14, kM15, kM16, kM17, kM18, kM19, kM20, kM21, kM22, kM23] : List KMeth) ++ (([kM24, kM25, kM26, kM27, kM28, kM29, kM30, kM31, kM32, kM33, kM34, kM35, kM36, kM37, kM38, kM39, kM40, kM41, kM42, kM43, kM44, kM45, kM46, kM47] : List KMeth) ++ (([kM48, kM49, kM50, kM51, kM52, kM53, kM54, kM55, kM56, kM57, kM58, kM59, kM60, kM61, kM62, kM63, kM64, kM65, kM66, kM67, kM68, kM69, kM70, kM71] : List KMeth) ++ (([kM72, kM73, kM74, kM75, kM76, kM77, kM78, kM79, kM80, kM81, kM82, kM83, kM84, kM85, kM86, kM87, kM88, kM89, kM90, kM91, kM92, kM93, kM94, kM95] : List KMeth) ++ (([kM96, kM97, kM98, kM99, kM100, kM101, kM102, kM103, kM104, kM105, kM106, kM107, kM108, kM109, kM110, kM111, kM112, kM113, kM114, kM115, kM116, kM117, kM118, kM119] : List KMeth) ++ (([kM120, kM121, kM122, kM123, kM124, kM125, kM126, kM127, kM128, kM129, kM130, kM131, kM132, kM133, kM134, kM135, kM136, kM137, kM138, kM139, kM140, kM141, kM142, kM143] : List KMeth) ++ (([kM144, kM145, kM146, kM147, kM148, kM149, kM150, kM151, kM152, kM153, kM154, kM155, kM156, kM157, kM158, kM159, kM160, kM161, kM162, kM163, kM164, kM165, kM166, kM167] : List KMeth) ++ (([kM168, kM169] : List KMeth)))))))) := List.mem_of_getElem? h
  have key := List.forall_mem_append.mpr ⟨kOc0, List.forall_mem_append.mpr ⟨kOc1, List.forall_mem_append.mpr ⟨kOc2, List.forall_mem_append.mpr ⟨kOc3, List.forall_mem_append.mpr ⟨kOc4, List.forall_mem_append.mpr ⟨kOc5, List.forall_mem_append.mpr ⟨kOc6, kOc7⟩⟩⟩⟩⟩⟩⟩
  exact key r hm
