set_option maxRecDepth 100000 in
theorem kO0 : kMethOK kM0 := ⟨kpchk_ok (gs := [136, 0, 0, 1, 0, 0, 0, 0, 0, 0, 19, 0, 0, 0, 0, 1, 0, 46, 0, 1, 0, 42, 0, 0, 0, 0, 47, 0, 0, 0, 0, 14, 1, 0, 0, 0, 0, 21, 0, 1, 0, 13, 0, 1, 0, 10, 0, 1, 0, 30, 0, 1, 0, 21, 0, 0, 0, 24, 0, 0, 0, 0, 0, 0, 0, 0, 0, 0, 0, 0, 0]) (ps := [10, 11, 12, 13, 14, 0, 15, 0, 16, 57, 17, 18, 1, 19, 1, 20, 58, 17, 18, 1, 19, 1, 20, 59, 21, 22, 2, 58, 23, 24, 2, 25, 60, 21, 22, 2, 58, 23, 24, 2, 25, 61, 26, 27, 3, 58, 28, 29, 3, 30, 62, 31, 63, 32, 33, 4, 34, 35, 4, 36, 64, 37, 38, 5, 39, 5, 40, 65, 41, 42, 6, 43, 6, 44, 66, 45, 46, 7, 47, 7, 48, 67, 49, 50, 8, 51, 8, 52, 68, 49, 50, 8, 51, 8, 52, 69, 70, 63, 63, 31, 53, 9, 58, 54, 55, 9, 56]) (by decide +kernel), by decide +kernel⟩
set_option maxRecDepth 100000 in
theorem kO1 : kMethOK kM1 := ⟨kpchk_ok (gs := [167, 0, 97, 104, 0, 0, 1]) (ps := [3, 0, 1, 2, 4, 5, 6]) (by decide +kernel), by decide +kernel⟩
set_option maxRecDepth 100000 in
theorem kO2 : kMethOK kM2 := ⟨kpchk_ok (gs := [167, 0, 97, 137, 0, 0, 0, 0, 0, 0, 0, 1, 0]) (ps := [3, 0, 1, 2, 4, 2, 5, 2, 6, 7, 8, 9, 10, 11, 12]) (by decide +kernel), by decide +kernel⟩
set_option maxRecDepth 100000 in
theorem kO3 : kMethOK kM3 := ⟨kpchk_ok (gs := [137, 0, 6, 21, 0, 52, 1, 0, 43, 1, 0, 163, 1, 0, 25, 0, 1, 1, 0, 0, 1, 1, 1]) (ps := [14, 3, 4, 15, 5, 0, 6, 0, 7, 19, 16, 11, 2, 12, 2, 13, 21, 22, 17, 8, 1, 18, 9, 1, 10, 20]) (by decide +kernel), by decide +kernel⟩
set_option maxRecDepth 100000 in
theorem kO4 : kMethOK kM4 := ⟨kpchk_ok (gs := [139, 27, 0, 97, 11, 0, 65, 0, 0, 0, 0, 0, 0, 0]) (ps := [6, 1, 2, 3, 8, 3, 9, 3, 10, 11, 12, 13, 10, 7, 4, 0, 5]) (by decide +kernel), by decide +kernel⟩
set_option maxRecDepth 100000 in
theorem kO5 : kMethOK kM5 := ⟨kpchk_ok (gs := [167, 0, 56, 0, 0, 0, 0, 0, 0, 0, 4, 5, 21, 0]) (ps := [2, 0, 1, 12, 3, 12, 4, 13, 5, 13, 6, 13, 7, 8, 9, 10, 11]) (by decide +kernel), by decide +kernel⟩
set_option maxRecDepth 100000 in
theorem kO6 : kMethOK kM6 := ⟨kpchk_ok (gs := [167, 0, 97, 172, 0, 0, 0, 0, 0, 0]) (ps := [3, 0, 1, 2, 4, 2, 5, 2, 6, 2, 7, 8, 9]) (by decide +kernel), by decide +kernel⟩
set_option maxRecDepth 100000 in
theorem kO7 : kMethOK kM7 := ⟨kpchk_ok (gs := [167, 0, 220, 0, 0, 6]) (ps := [2, 0, 1, 5, 3, 4]) (by decide +kernel), by decide +kernel⟩
set_option maxRecDepth 100000 in
theorem kO8 : kMethOK kM8 := ⟨kpchk_ok (gs := [0, 137, 28, 0, 97, 5, 0, 1, 0, 3, 4, 0, 0, 0, 0, 0, 0, 2, 2]) (ps := [5, 2, 3, 4, 10, 4, 11, 4, 12, 4, 13, 4, 14, 4, 15, 16, 17, 18, 9, 6, 7, 0, 1, 8]) (by decide +kernel), by decide +kernel⟩
set_option maxRecDepth 100000 in
theorem kO9 : kMethOK kM9 := ⟨kpchk_ok (gs := [139, 137, 0, 0, 5, 0, 0, 0, 0, 0, 0, 2]) (ps := [4, 1, 2, 0, 3, 5, 1, 2, 0, 3, 6, 1, 2, 0, 3, 7, 1, 2, 0, 3, 8, 1, 2, 0, 3, 9, 1, 2, 0, 3, 10, 11]) (by decide +kernel), by decide +kernel⟩
set_option maxRecDepth 100000 in
theorem kO10 : kMethOK kM10 := ⟨kpchk_ok (gs := [167, 0, 5, 0, 0, 2, 0, 0, 3, 0, 1, 1, 1, 1, 24]) (ps := [2, 0, 1, 14, 3, 4, 5, 6, 7, 8, 9, 10, 11, 12, 13]) (by decide +kernel), by decide +kernel⟩
set_option maxRecDepth 100000 in
theorem kO11 : kMethOK kM11 := ⟨kpchk_ok (gs := [138, 28, 0, 99, 1, 0, 52, 0, 1, 0, 0, 0]) (ps := [6, 1, 2, 7, 9, 10, 11, 9, 9, 7, 3, 0, 8, 4, 0, 5]) (by decide +kernel), by decide +kernel⟩
set_option maxRecDepth 100000 in
theorem kO12 : kMethOK kM12 := ⟨kpchk_ok (gs := [53, 93, 19, 0, 96, 0, 1205, 0, 1, 0, 5, 12, 0, 0, 0, 0, 0, 0, 0, 0, 2, 0, 0, 0, 2, 0, 0, 2, 0, 2, 95]) (ps := [6, 2, 3, 5, 10, 5, 11, 5, 12, 5, 13, 5, 14, 5, 15, 4, 16, 4, 17, 4, 18, 30, 19, 5, 20, 5, 21, 30, 22, 30, 23, 24, 25, 5, 26, 5, 27, 5, 28, 5, 29, 7, 8, 0, 1, 9]) (by decide +kernel), by decide +kernel⟩
set_option maxRecDepth 100000 in
theorem kO13 : kMethOK kM13 := ⟨kpchk_ok (gs := [1495]) (ps := [0, 0, 0, 0]) (by decide +kernel), by decide +kernel⟩
set_option maxRecDepth 100000 in
theorem kO14 : kMethOK kM14 := ⟨kpchk_ok (gs := [54, 92, 1329, 1, 0, 14]) (ps := [5, 5, 5, 5, 5, 2, 3, 0, 1, 4, 5]) (by decide +kernel), by decide +kernel⟩
set_option maxRecDepth 100000 in
theorem kO15 : kMethOK kM15 := ⟨kpchk_ok (gs := []) (ps := []) (by decide +kernel), by decide +kernel⟩
theorem kOc0 : ∀ r ∈ ([kM0, kM1, kM2, kM3, kM4, kM5, kM6, kM7, kM8, kM9, kM10, kM11, kM12, kM13, kM14, kM15] : List KMeth), kMethOK r := List.forall_mem_cons.mpr ⟨kO0, List.forall_mem_cons.mpr ⟨kO1, List.forall_mem_cons.mpr ⟨kO2, List.forall_mem_cons.mpr ⟨kO3, List.forall_mem_cons.mpr ⟨kO4, List.forall_mem_cons.mpr ⟨kO5, List.forall_mem_cons.mpr ⟨kO6, List.forall_mem_cons.mpr ⟨kO7, List.forall_mem_cons.mpr ⟨kO8, List.forall_mem_cons.mpr ⟨kO9, List.forall_mem_cons.mpr ⟨kO10, List.forall_mem_cons.mpr ⟨kO11, List.forall_mem_cons.mpr ⟨kO12, List.forall_mem_cons.mpr ⟨kO13, List.forall_mem_cons.mpr ⟨kO14, List.forall_mem_cons.mpr ⟨kO15, fun _ h => absurd h List.not_mem_nil⟩⟩⟩⟩⟩⟩⟩⟩⟩⟩⟩⟩⟩⟩⟩⟩
set_option maxRecDepth 100000 in
theorem kOall : kOK kmeths kStats := by
  intro mid r h
  have hm : r ∈ ([kM0, kM1, kM2, kM3, kM4, kM5, kM6, kM7, kM8, kM9, kM10, kM11, kM12, kM13, kM14, kM15] : List KMeth) := List.mem_of_getElem? h
  have key := kOc0
  exact key r hm
