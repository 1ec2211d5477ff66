set_option maxRecDepth 100000 in
theorem kO0 : kMethOK kM0 := ⟨kchk_ok (gs := [136, 0, 0, 1, 0, 0, 0, 0, 0, 0, 19, 0, 0, 0, 0, 1, 0, 46, 0, 1, 0, 42, 0, 0, 0, 0, 47, 0, 0, 0, 0, 14, 1, 0, 0, 0, 0, 21, 0, 1, 0, 13, 0, 1, 0, 10, 0, 1, 0, 30, 0, 1, 0, 21, 0, 0, 0, 24, 0, 0, 0, 0, 0, 0, 0, 0, 0, 0, 0, 0, 0]) (ps := [10, 11, 12, 13, 14, 0, 15, 0, 16, 57, 17, 18, 1, 19, 1, 20, 58, 17, 18, 1, 19, 1, 20, 59, 21, 22, 2, 58, 23, 24, 2, 25, 60, 21, 22, 2, 58, 23, 24, 2, 25, 61, 26, 27, 3, 58, 28, 29, 3, 30, 62, 31, 63, 32, 33, 4, 34, 35, 4, 36, 64, 37, 38, 5, 39, 5, 40, 65, 41, 42, 6, 43, 6, 44, 66, 45, 46, 7, 47, 7, 48, 67, 49, 50, 8, 51, 8, 52, 68, 49, 50, 8, 51, 8, 52, 69, 70, 63, 63, 31, 53, 9, 58, 54, 55, 9, 56]) (by decide +kernel), by decide +kernel⟩
set_option maxRecDepth 100000 in
theorem kO1 : kMethOK kM1 := ⟨kchk_ok (gs := [374, 121]) (ps := [1, 0]) (by decide +kernel), by decide +kernel⟩
set_option maxRecDepth 100000 in
theorem kO2 : kMethOK kM2 := ⟨kchk_ok (gs := [138, 1, 350, 1, 271, 0, 0, 0, 25, 0, 0, 0, 4, 0, 0, 0]) (ps := [2, 4, 5, 6, 0, 7, 3, 2, 8, 9, 10, 1, 11, 2, 12, 13, 14, 0, 15]) (by decide +kernel), by decide +kernel⟩
set_option maxRecDepth 100000 in
theorem kO3 : kMethOK kM3 := ⟨kchk_ok (gs := [137, 351, 173, 0, 0, 44]) (ps := [1, 5, 2, 3, 0, 4]) (by decide +kernel), by decide +kernel⟩
set_option maxRecDepth 100000 in
theorem kO4 : kMethOK kM4 := ⟨kchk_ok (gs := [138, 5, 33, 14, 218, 75, 0, 1, 0, 5, 2, 187, 0, 0, 0, 457, 0, 0, 0, 63, 0, 0, 0]) (ps := [9, 5, 6, 15, 16, 17, 1, 18, 5, 3, 10, 5, 2, 10, 8, 7, 11, 12, 13, 0, 14, 9, 8, 19, 20, 21, 1, 22, 9, 7, 19, 20, 21, 1, 22, 9, 4]) (by decide +kernel), by decide +kernel⟩
set_option maxRecDepth 100000 in
theorem kO5 : kMethOK kM5 := ⟨kchk_ok (gs := [143, 353, 620, 0, 0, 0]) (ps := [1, 2, 3, 4, 0, 5]) (by decide +kernel), by decide +kernel⟩
set_option maxRecDepth 100000 in
theorem kO6 : kMethOK kM6 := ⟨kchk_ok (gs := [137, 351, 235, 0, 0, 32]) (ps := [1, 5, 2, 3, 0, 4]) (by decide +kernel), by decide +kernel⟩
set_option maxRecDepth 100000 in
theorem kO7 : kMethOK kM7 := ⟨kchk_ok (gs := [137, 351, 235, 0, 0, 32]) (ps := [1, 5, 2, 3, 0, 4]) (by decide +kernel), by decide +kernel⟩
set_option maxRecDepth 100000 in
theorem kO8 : kMethOK kM8 := ⟨kchk_ok (gs := [178, 57, 5, 2, 242, 0]) (ps := [5, 1, 5, 2, 5, 3, 4, 0]) (by decide +kernel), by decide +kernel⟩
set_option maxRecDepth 100000 in
theorem kO9 : kMethOK kM9 := ⟨kchk_ok (gs := [142, 348, 4, 477, 0, 0, 0]) (ps := [2, 1, 3, 4, 5, 0, 6]) (by decide +kernel), by decide +kernel⟩
set_option maxRecDepth 100000 in
theorem kO10 : kMethOK kM10 := ⟨kchk_ok (gs := [376, 119]) (ps := [1, 0]) (by decide +kernel), by decide +kernel⟩
set_option maxRecDepth 100000 in
theorem kO11 : kMethOK kM11 := ⟨kchk_ok (gs := [13, 121, 19, 140, 194, 269, 1, 0, 35, 0, 62]) (ps := [4, 3, 10, 8, 2, 9, 5, 6, 0, 1, 7]) (by decide +kernel), by decide +kernel⟩
set_option maxRecDepth 100000 in
theorem kO12 : kMethOK kM12 := ⟨kchk_ok (gs := [236, 252]) (ps := [1, 0]) (by decide +kernel), by decide +kernel⟩
set_option maxRecDepth 100000 in
theorem kO13 : kMethOK kM13 := ⟨kchk_ok (gs := [137, 351, 235, 0, 0, 32]) (ps := [1, 5, 2, 3, 0, 4]) (by decide +kernel), by decide +kernel⟩
set_option maxRecDepth 100000 in
theorem kO14 : kMethOK kM14 := ⟨kchk_ok (gs := [178, 309]) (ps := [1, 0, 1, 0]) (by decide +kernel), by decide +kernel⟩
set_option maxRecDepth 100000 in
theorem kO15 : kMethOK kM15 := ⟨kchk_ok (gs := [501]) (ps := [0]) (by decide +kernel), by decide +kernel⟩
set_option maxRecDepth 100000 in
theorem kO16 : kMethOK kM16 := ⟨kchk_ok (gs := [136, 41, 309, 46, 0, 0, 0]) (ps := [2, 1, 2, 3, 4, 5, 0, 6, 2, 3, 4, 5, 0, 6, 2, 3, 4, 5, 0, 6, 2, 3, 4, 5, 0, 6, 2, 3, 4, 5, 0, 6, 2, 1]) (by decide +kernel), by decide +kernel⟩
set_option maxRecDepth 100000 in
theorem kO17 : kMethOK kM17 := ⟨kchk_ok (gs := [142, 35, 309, 2, 4, 450, 0, 0, 0]) (ps := [4, 2, 3, 5, 6, 7, 0, 8, 2, 1]) (by decide +kernel), by decide +kernel⟩
set_option maxRecDepth 100000 in
theorem kO18 : kMethOK kM18 := ⟨kchk_ok (gs := [137, 351, 235, 0, 0, 32]) (ps := [1, 5, 2, 3, 0, 4]) (by decide +kernel), by decide +kernel⟩
set_option maxRecDepth 100000 in
theorem kO19 : kMethOK kM19 := ⟨kchk_ok (gs := [137, 351, 173, 0, 0, 44]) (ps := [1, 5, 2, 3, 0, 4]) (by decide +kernel), by decide +kernel⟩
set_option maxRecDepth 100000 in
theorem kO20 : kMethOK kM20 := ⟨kchk_ok (gs := [146, 342, 1, 2, 4, 840, 0, 0, 0]) (ps := [3, 3, 1, 2, 4, 5, 6, 7, 0, 8]) (by decide +kernel), by decide +kernel⟩
set_option maxRecDepth 100000 in
theorem kO21 : kMethOK kM21 := ⟨kchk_ok (gs := [137, 351, 235, 0, 0, 32]) (ps := [1, 5, 2, 3, 0, 4]) (by decide +kernel), by decide +kernel⟩
set_option maxRecDepth 100000 in
theorem kO22 : kMethOK kM22 := ⟨kchk_ok (gs := [236, 252]) (ps := [1, 0]) (by decide +kernel), by decide +kernel⟩
set_option maxRecDepth 100000 in
theorem kO23 : kMethOK kM23 := ⟨kchk_ok (gs := [141, 349, 3, 410, 0, 0, 0]) (ps := [2, 1, 3, 4, 5, 0, 6]) (by decide +kernel), by decide +kernel⟩
set_option maxRecDepth 100000 in
theorem kO24 : kMethOK kM24 := ⟨kchk_ok (gs := [141, 353, 443, 0, 0, 0]) (ps := [1, 2, 3, 4, 0, 5]) (by decide +kernel), by decide +kernel⟩
set_option maxRecDepth 100000 in
theorem kO25 : kMethOK kM25 := ⟨kchk_ok (gs := [138, 153, 3, 194, 224, 0, 0, 0, 8, 0, 0, 0, 20, 0, 0, 0]) (ps := [3, 2, 3, 4, 5, 6, 0, 7, 3, 4, 5, 6, 0, 7, 3, 4, 5, 6, 0, 7, 3, 4, 5, 6, 0, 7, 3, 8, 9, 10, 0, 11, 3, 1, 3, 12, 13, 14, 0, 15]) (by decide +kernel), by decide +kernel⟩
set_option maxRecDepth 100000 in
theorem kO26 : kMethOK kM26 := ⟨kchk_ok (gs := [137, 351, 235, 0, 0, 32]) (ps := [1, 5, 2, 3, 0, 4]) (by decide +kernel), by decide +kernel⟩
set_option maxRecDepth 100000 in
theorem kO27 : kMethOK kM27 := ⟨kchk_ok (gs := [137, 0, 1, 4, 32, 14, 294, 0, 0, 0, 0, 0, 5, 1, 45, 0, 0, 0, 131, 0, 0, 0, 3, 0, 0, 0, 1, 0, 0, 0, 0, 0, 0, 0]) (ps := [8, 6, 10, 14, 15, 16, 0, 17, 6, 5, 13, 6, 4, 13, 7, 8, 18, 19, 20, 0, 21, 9, 10, 22, 23, 24, 1, 25, 12, 26, 27, 28, 3, 29, 11, 30, 31, 32, 2, 33]) (by decide +kernel), by decide +kernel⟩
set_option maxRecDepth 100000 in
theorem kO28 : kMethOK kM28 := ⟨kchk_ok (gs := [138, 352, 283, 0, 0, 99]) (ps := [1, 5, 2, 3, 0, 4]) (by decide +kernel), by decide +kernel⟩
set_option maxRecDepth 100000 in
theorem kO29 : kMethOK kM29 := ⟨kchk_ok (gs := [137, 351, 173, 0, 0, 44]) (ps := [1, 5, 2, 3, 0, 4]) (by decide +kernel), by decide +kernel⟩
set_option maxRecDepth 100000 in
theorem kO30 : kMethOK kM30 := ⟨kchk_ok (gs := [137, 351, 173, 0, 0, 44]) (ps := [1, 5, 2, 3, 0, 4]) (by decide +kernel), by decide +kernel⟩
set_option maxRecDepth 100000 in
theorem kO31 : kMethOK kM31 := ⟨kchk_ok (gs := [478, 15]) (ps := [1, 1, 0]) (by decide +kernel), by decide +kernel⟩
set_option maxRecDepth 100000 in
theorem kO32 : kMethOK kM32 := ⟨kchk_ok (gs := [137, 351, 173, 0, 0, 44]) (ps := [1, 5, 2, 3, 0, 4]) (by decide +kernel), by decide +kernel⟩
set_option maxRecDepth 100000 in
theorem kO33 : kMethOK kM33 := ⟨kchk_ok (gs := [145, 353, 810, 0, 0, 0]) (ps := [1, 2, 3, 4, 0, 5]) (by decide +kernel), by decide +kernel⟩
set_option maxRecDepth 100000 in
theorem kO34 : kMethOK kM34 := ⟨kchk_ok (gs := [145, 32, 14, 1, 292, 0, 10, 0, 734, 0, 0, 0]) (ps := [6, 4, 5, 8, 9, 10, 0, 11, 4, 2, 7, 4, 1, 7, 4, 3]) (by decide +kernel), by decide +kernel⟩
set_option maxRecDepth 100000 in
theorem kO35 : kMethOK kM35 := ⟨kchk_ok (gs := [242, 246]) (ps := [1, 0]) (by decide +kernel), by decide +kernel⟩
set_option maxRecDepth 100000 in
theorem kO36 : kMethOK kM36 := ⟨kchk_ok (gs := [137, 351, 173, 0, 0, 44]) (ps := [1, 5, 2, 3, 0, 4]) (by decide +kernel), by decide +kernel⟩
set_option maxRecDepth 100000 in
theorem kO37 : kMethOK kM37 := ⟨kchk_ok (gs := [137, 351, 173, 0, 0, 44]) (ps := [1, 5, 2, 3, 0, 4]) (by decide +kernel), by decide +kernel⟩
set_option maxRecDepth 100000 in
theorem kO38 : kMethOK kM38 := ⟨kchk_ok (gs := [137, 351, 235, 0, 0, 32]) (ps := [1, 5, 2, 3, 0, 4]) (by decide +kernel), by decide +kernel⟩
set_option maxRecDepth 100000 in
theorem kO39 : kMethOK kM39 := ⟨kchk_ok (gs := [144, 353, 729, 0, 0, 0]) (ps := [1, 2, 3, 4, 0, 5]) (by decide +kernel), by decide +kernel⟩
set_option maxRecDepth 100000 in
theorem kO40 : kMethOK kM40 := ⟨kchk_ok (gs := [140, 350, 1, 375, 0, 0, 0]) (ps := [2, 1, 3, 4, 5, 0, 6]) (by decide +kernel), by decide +kernel⟩
set_option maxRecDepth 100000 in
theorem kO41 : kMethOK kM41 := ⟨kchk_ok (gs := [137, 351, 235, 0, 0, 32]) (ps := [1, 5, 2, 3, 0, 4]) (by decide +kernel), by decide +kernel⟩
set_option maxRecDepth 100000 in
theorem kO42 : kMethOK kM42 := ⟨kchk_ok (gs := [167, 0, 97, 104, 0, 0, 1]) (ps := [3, 0, 1, 2, 4, 5, 6]) (by decide +kernel), by decide +kernel⟩
set_option maxRecDepth 100000 in
theorem kO43 : kMethOK kM43 := ⟨kchk_ok (gs := []) (ps := []) (by decide +kernel), by decide +kernel⟩
set_option maxRecDepth 100000 in
theorem kO44 : kMethOK kM44 := ⟨kchk_ok (gs := [26, 0, 114, 13, 77, 46, 93, 602, 1, 0, 5, 0, 0, 3, 1, 0]) (ps := [7, 8, 0, 2, 9, 5, 4, 10, 11, 3, 12, 13, 14, 1, 2, 15, 6]) (by decide +kernel), by decide +kernel⟩
set_option maxRecDepth 100000 in
theorem kO45 : kMethOK kM45 := ⟨kchk_ok (gs := [177]) (ps := [0]) (by decide +kernel), by decide +kernel⟩
set_option maxRecDepth 100000 in
theorem kO46 : kMethOK kM46 := ⟨kchk_ok (gs := [238, 42]) (ps := [1, 0]) (by decide +kernel), by decide +kernel⟩
set_option maxRecDepth 100000 in
theorem kO47 : kMethOK kM47 := ⟨kchk_ok (gs := [167, 0, 97, 137, 0, 0, 0, 0, 0, 0, 0, 1, 0]) (ps := [3, 0, 1, 2, 4, 2, 5, 2, 6, 7, 8, 9, 10, 11, 12]) (by decide +kernel), by decide +kernel⟩
set_option maxRecDepth 100000 in
theorem kO48 : kMethOK kM48 := ⟨kchk_ok (gs := [138, 156, 112, 0, 0, 0, 1, 0, 302, 0, 0, 503]) (ps := [3, 4, 5, 2, 1, 6, 11, 8, 9, 0, 10, 7]) (by decide +kernel), by decide +kernel⟩
set_option maxRecDepth 100000 in
theorem kO49 : kMethOK kM49 := ⟨kchk_ok (gs := [409]) (ps := [0]) (by decide +kernel), by decide +kernel⟩
set_option maxRecDepth 100000 in
theorem kO50 : kMethOK kM50 := ⟨kchk_ok (gs := [136, 45, 225, 151, 0, 0, 591]) (ps := [2, 6, 3, 4, 0, 5, 1]) (by decide +kernel), by decide +kernel⟩
set_option maxRecDepth 100000 in
theorem kO51 : kMethOK kM51 := ⟨kchk_ok (gs := [137, 0, 6, 21, 0, 52, 1, 0, 43, 1, 0, 163, 1, 0, 25, 0, 1, 1, 0, 0, 1, 1, 1]) (ps := [14, 3, 4, 15, 5, 0, 6, 0, 7, 19, 16, 11, 2, 12, 2, 13, 21, 22, 17, 8, 1, 18, 9, 1, 10, 20]) (by decide +kernel), by decide +kernel⟩
set_option maxRecDepth 100000 in
theorem kO52 : kMethOK kM52 := ⟨kchk_ok (gs := [137, 0, 6, 325, 1, 1, 1, 205, 0, 0, 4, 0, 0, 651, 0, 0, 0, 0, 0]) (ps := [3, 13, 7, 8, 0, 9, 4, 14, 10, 11, 1, 12, 5, 15, 16, 17, 2, 18, 6]) (by decide +kernel), by decide +kernel⟩
set_option maxRecDepth 100000 in
theorem kO53 : kMethOK kM53 := ⟨kchk_ok (gs := [139, 27, 0, 97, 11, 0, 65, 0, 0, 0, 0, 0, 0, 0]) (ps := [6, 1, 2, 3, 8, 3, 9, 3, 10, 11, 12, 13, 10, 7, 4, 0, 5]) (by decide +kernel), by decide +kernel⟩
set_option maxRecDepth 100000 in
theorem kO54 : kMethOK kM54 := ⟨kchk_ok (gs := [21, 0, 116, 1, 136, 0, 66, 2, 0, 559, 1, 0, 2, 1, 0]) (ps := [9, 10, 0, 3, 11, 7, 6, 4, 2, 5, 12, 13, 1, 3, 14, 8]) (by decide +kernel), by decide +kernel⟩
set_option maxRecDepth 100000 in
theorem kO55 : kMethOK kM55 := ⟨kchk_ok (gs := [349]) (ps := [0, 0]) (by decide +kernel), by decide +kernel⟩
set_option maxRecDepth 100000 in
theorem kO56 : kMethOK kM56 := ⟨kchk_ok (gs := [139, 138, 0, 66, 1, 1]) (ps := [4, 3, 1, 0, 2, 5]) (by decide +kernel), by decide +kernel⟩
set_option maxRecDepth 100000 in
theorem kO57 : kMethOK kM57 := ⟨kchk_ok (gs := [139, 93, 5, 38, 0, 3, 62, 0, 2, 0]) (ps := [5, 1, 8, 5, 2, 9, 7, 6, 3, 0, 4, 8]) (by decide +kernel), by decide +kernel⟩
set_option maxRecDepth 100000 in
theorem kO58 : kMethOK kM58 := ⟨kchk_ok (gs := [167, 0, 56, 0, 0, 0, 0, 0, 0, 0, 4, 5, 21, 0]) (ps := [2, 0, 1, 12, 3, 12, 4, 13, 5, 13, 6, 13, 7, 8, 9, 10, 11]) (by decide +kernel), by decide +kernel⟩
set_option maxRecDepth 100000 in
theorem kO59 : kMethOK kM59 := ⟨kchk_ok (gs := [150, 75, 0, 0, 0, 0, 0, 0, 4, 5, 442, 0, 0]) (ps := [1, 1, 10, 12, 11, 0, 2, 2, 10, 12, 11, 0, 3, 3, 10, 12, 11, 0, 4, 4, 10, 12, 11, 0, 5, 5, 10, 12, 11, 0, 6, 6, 7, 7, 8, 8, 9, 9]) (by decide +kernel), by decide +kernel⟩
set_option maxRecDepth 100000 in
theorem kO60 : kMethOK kM60 := ⟨kchk_ok (gs := [230, 0, 0, 4, 5]) (ps := [0, 1, 2, 3, 4]) (by decide +kernel), by decide +kernel⟩
set_option maxRecDepth 100000 in
theorem kO61 : kMethOK kM61 := ⟨kchk_ok (gs := [237]) (ps := [0]) (by decide +kernel), by decide +kernel⟩
set_option maxRecDepth 100000 in
theorem kO62 : kMethOK kM62 := ⟨kchk_ok (gs := [232]) (ps := [0]) (by decide +kernel), by decide +kernel⟩
set_option maxRecDepth 100000 in
theorem kO63 : kMethOK kM63 := ⟨kchk_ok (gs := [1, 134, 0, 0, 45, 366, 1, 0, 0, 0, 0, 0, 0, 0, 0, 0]) (ps := [5, 6, 0, 2, 7, 8, 9, 10, 3, 11, 12, 13, 14, 1, 15, 4]) (by decide +kernel), by decide +kernel⟩
set_option maxRecDepth 100000 in
theorem kO64 : kMethOK kM64 := ⟨kchk_ok (gs := [167, 0, 97, 172, 0, 0, 0, 0, 0, 0]) (ps := [3, 0, 1, 2, 4, 2, 5, 2, 6, 2, 7, 8, 9]) (by decide +kernel), by decide +kernel⟩
set_option maxRecDepth 100000 in
theorem kO65 : kMethOK kM65 := ⟨kchk_ok (gs := [145, 1108, 1, 1, 0, 0, 8, 1, 1, 1, 1, 1]) (ps := [1, 2, 3, 4, 0, 5, 6, 7, 8, 9, 10, 11]) (by decide +kernel), by decide +kernel⟩
set_option maxRecDepth 100000 in
theorem kO66 : kMethOK kM66 := ⟨kchk_ok (gs := [150, 289, 0, 0, 1, 0, 241, 0, 661]) (ps := [1, 1, 8, 7, 6, 0, 2, 2, 8, 7, 6, 0, 3, 3, 8, 7, 6, 0, 4, 4, 5, 5]) (by decide +kernel), by decide +kernel⟩
set_option maxRecDepth 100000 in
theorem kO67 : kMethOK kM67 := ⟨kchk_ok (gs := [444, 0]) (ps := [0, 1]) (by decide +kernel), by decide +kernel⟩
set_option maxRecDepth 100000 in
theorem kO68 : kMethOK kM68 := ⟨kchk_ok (gs := [1261, 1, 1, 1]) (ps := [0, 1, 2, 3]) (by decide +kernel), by decide +kernel⟩
set_option maxRecDepth 100000 in
theorem kO69 : kMethOK kM69 := ⟨kchk_ok (gs := [445]) (ps := [0]) (by decide +kernel), by decide +kernel⟩
set_option maxRecDepth 100000 in
theorem kO70 : kMethOK kM70 := ⟨kchk_ok (gs := [44, 100, 1100, 1, 0]) (ps := [2, 3, 0, 1, 4]) (by decide +kernel), by decide +kernel⟩
set_option maxRecDepth 100000 in
theorem kO71 : kMethOK kM71 := ⟨kchk_ok (gs := [136, 8, 37, 419, 0, 0, 24, 0, 0, 617, 0, 0, 0, 27]) (ps := [9, 6, 7, 0, 8, 2, 10, 11, 1, 12, 13, 3, 4, 0, 5]) (by decide +kernel), by decide +kernel⟩
set_option maxRecDepth 100000 in
theorem kO72 : kMethOK kM72 := ⟨kchk_ok (gs := [43, 92, 8, 414, 0, 0, 132, 0, 0, 542, 0, 0, 1, 0]) (ps := [9, 6, 7, 2, 8, 10, 3, 4, 1, 5, 11, 12, 0, 2, 13]) (by decide +kernel), by decide +kernel⟩
set_option maxRecDepth 100000 in
theorem kO73 : kMethOK kM73 := ⟨kchk_ok (gs := [167, 0, 220, 0, 0, 6]) (ps := [2, 0, 1, 5, 3, 4]) (by decide +kernel), by decide +kernel⟩
set_option maxRecDepth 100000 in
theorem kO74 : kMethOK kM74 := ⟨kchk_ok (gs := [391]) (ps := [0]) (by decide +kernel), by decide +kernel⟩
set_option maxRecDepth 100000 in
theorem kO75 : kMethOK kM75 := ⟨kchk_ok (gs := [0, 137, 28, 0, 97, 5, 0, 1, 0, 3, 4, 0, 0, 0, 0, 0, 0, 2, 2]) (ps := [5, 2, 3, 4, 10, 4, 11, 4, 12, 4, 13, 4, 14, 4, 15, 16, 17, 18, 9, 6, 7, 0, 1, 8]) (by decide +kernel), by decide +kernel⟩
set_option maxRecDepth 100000 in
theorem kO76 : kMethOK kM76 := ⟨kchk_ok (gs := [285]) (ps := [0, 0]) (by decide +kernel), by decide +kernel⟩
set_option maxRecDepth 100000 in
theorem kO77 : kMethOK kM77 := ⟨kchk_ok (gs := [0, 137, 134, 1, 0]) (ps := [2, 3, 0, 1, 4]) (by decide +kernel), by decide +kernel⟩
set_option maxRecDepth 100000 in
theorem kO78 : kMethOK kM78 := ⟨kchk_ok (gs := [241, 38]) (ps := [1, 0]) (by decide +kernel), by decide +kernel⟩
set_option maxRecDepth 100000 in
theorem kO79 : kMethOK kM79 := ⟨kchk_ok (gs := [150, 134, 0, 0, 0, 0, 0, 0, 2, 392, 0, 4]) (ps := [1, 1, 11, 10, 9, 0, 2, 2, 11, 10, 9, 0, 3, 3, 11, 10, 9, 0, 4, 4, 11, 10, 9, 0, 5, 5, 11, 10, 9, 0, 6, 6, 11, 10, 9, 0, 7, 7, 8, 8]) (by decide +kernel), by decide +kernel⟩
set_option maxRecDepth 100000 in
theorem kO80 : kMethOK kM80 := ⟨kchk_ok (gs := [241, 38]) (ps := [1, 0]) (by decide +kernel), by decide +kernel⟩
set_option maxRecDepth 100000 in
theorem kO81 : kMethOK kM81 := ⟨kchk_ok (gs := [139, 101, 35, 0, 0, 0, 5, 7]) (ps := [5, 1, 6, 2, 3, 0, 4, 7, 7]) (by decide +kernel), by decide +kernel⟩
set_option maxRecDepth 100000 in
theorem kO82 : kMethOK kM82 := ⟨kchk_ok (gs := [137, 142, 443, 0, 0, 0]) (ps := [1, 2, 3, 4, 0, 5]) (by decide +kernel), by decide +kernel⟩
set_option maxRecDepth 100000 in
theorem kO83 : kMethOK kM83 := ⟨kchk_ok (gs := [138, 581, 0, 0, 0]) (ps := [1, 2, 3, 0, 4]) (by decide +kernel), by decide +kernel⟩
set_option maxRecDepth 100000 in
theorem kO84 : kMethOK kM84 := ⟨kchk_ok (gs := [18, 119, 689, 1, 0]) (ps := [2, 3, 0, 1, 4]) (by decide +kernel), by decide +kernel⟩
