/-! What lies outside, at the law's entry. -/
theorem LT_hts {args : Array Value} {s : State} (h : ∀ w ∈ lw_tbl, w.before args s = true) : ∀ w ∈ LT, w.before args s = true := fun w hw => h w (LT_tbl hw)
theorem kPrim {args : Array Value} {s : State} {ty : FieldType} (h : (Cond.arrayClass ty).before args s = true) (hp : ∀ C, ty ≠ .object C) : ∃ cA : ClassId, ArrOfT s cA ty ∧ va_RA s cA ty := by
  obtain ⟨c, k, comp, h1, h2, h3⟩ := Cond.arrayClass_spec h
  refine ⟨c, fun n z => ⟨fun k h => (by cases h), k, h2, comp, h3⟩, ?_⟩
  cases ty with
  | object C => exact absurd rfl (hp C)
  | _ => exact h1
theorem kRefs {args : Array Value} {s : State} {C : String} (h : (Cond.arrayOver (.object C)).before args s = true) : ∃ cA : ClassId, ArrOfT s cA (.object C) ∧ va_RA s cA (.object C) := by
  obtain ⟨comp, c, k, h1, -, h3, h4, h5⟩ := Cond.arrayOver_spec h
  exact ⟨c, fun n z => ⟨fun k h => (by cases h), k, h3, comp, h4⟩, k, comp, h3, h4, h1, h5⟩
set_option maxRecDepth 100000 in
theorem kInst : ∀ (ci : Nat) (q : vw_C), kCl[ci]? = some q → Cond.instantiable q.1 q.2.2 ∈ lw_tbl := by
  intro ci q h
  match ci, h with
  | 0, h => cases h; exact List.mem_of_getElem? (i := 367) (by decide +kernel)
  | 1, h => cases h; exact List.mem_of_getElem? (i := 400) (by decide +kernel)
  | 2, h => cases h; exact List.mem_of_getElem? (i := 460) (by decide +kernel)
  | 3, h => cases h; exact List.mem_of_getElem? (i := 341) (by decide +kernel)
  | 4, h => cases h; exact List.mem_of_getElem? (i := 221) (by decide +kernel)
  | 5, h => cases h; exact List.mem_of_getElem? (i := 435) (by decide +kernel)
  | 6, h => cases h; exact List.mem_of_getElem? (i := 385) (by decide +kernel)
  | 7, h => cases h; exact List.mem_of_getElem? (i := 268) (by decide +kernel)
  | 8, h => cases h; exact List.mem_of_getElem? (i := 170) (by decide +kernel)
  | 9, h => cases h; exact List.mem_of_getElem? (i := 320) (by decide +kernel)
  | 10, h => cases h; exact List.mem_of_getElem? (i := 162) (by decide +kernel)
  | 11, h => cases h; exact List.mem_of_getElem? (i := 1462) (by decide +kernel)
  | n + 12, h => simp [kCl] at h
set_option maxRecDepth 100000 in
theorem kWordsL : ∀ w ∈ ([.arrayClass .int, .arrayClass .long, .arrayClass .byte, .arrayClass .char, .arrayClass .boolean, .arrayOver (.object "TriplicateForms$Standing"), .arrayOver (.object "TriplicateForms$Image"), .initialized "TriplicateForms$Word"] : List Cond), w ∈ lw_tbl := by
  have h : ([.arrayClass .int, .arrayClass .long, .arrayClass .byte, .arrayClass .char, .arrayClass .boolean, .arrayOver (.object "TriplicateForms$Standing"), .arrayOver (.object "TriplicateForms$Image"), .initialized "TriplicateForms$Word"] : List Cond).map some = ([266, 265, 219, 398, 1617, 326, 339, 149] : List Nat).map (fun i => lw_tbl[i]?) := by decide +kernel
  intro w hw
  have h1 : some w ∈ ([266, 265, 219, 398, 1617, 326, 339, 149] : List Nat).map (fun i => lw_tbl[i]?) := by rw [← h]; exact List.mem_map.mpr ⟨w, hw, rfl⟩
  obtain ⟨i, -, hi⟩ := List.mem_map.mp h1
  exact List.mem_of_getElem? hi
def kWn : List String := ["PERSON", "RETIRED", "GRUDGE", "SHY", "FORM", "RULE", "DRAWER", "ANY", "SIGNS", "SOFTENS", "RESENTS", "RETIRES", "RETURNS", "VOID", "LODGE", "DAY", "OR", "AND", "NOT", "OPEN", "FILED", "GRANTED", "VOIDED", "CLEAR", "ABOUT", "HURTS", "SIGNED", "PARTS", "DAYS", "NUMBER"]
def kWl : List Int64 := [542723566, 19516410020, 254447845, 19737, 212557, 611717, 153148594, 1497, 20225491, 20911363539, 19515226771, 19516410035, 19516803539, 736548, 13078757, 4153, 498, 1476, 14836, 508078, 6598820, 8121700516, 754225316, 3544114, 1130164, 9095827, 647215268, 16829075, 132915, 492210354]
def kWTm : Term := .static "TriplicateForms" "WORDS" "[LTriplicateForms$Word;"
def kWt (j : Nat) : Term := .static "TriplicateForms$Word" (kWn.getD j "") "LTriplicateForms$Word;"
def kStr (q : String × Nat × String × Nat) : Term := .string q.1 q.2.1
def kStv (q : String × Nat × String × Nat) : Term := .field (kStr q) "java/lang/String" "value" "[B"
def kZcls (z : String × String × String) : String := bif decide (z.1 = "TriplicateForms") then "[LTriplicateForms$Word;" else "TriplicateForms$Word"
def kN0 : List Cond := [.arrayOf kWTm (.object "TriplicateForms$Word"), .eq (.length kWTm) (.int 30), .eq (.static "java/lang/String" "COMPACT_STRINGS" "Z") (.int 1), .isRef (.static "jdk/internal/util/Preconditions" "SIOOBE_FORMATTER" "Ljava/util/function/BiFunction;")]
def kN1 : List Cond := kStatX.map (fun z => .exactly (.static z.1 z.2.1 z.2.2) (kZcls z))
def kN2 : List Cond := (List.range 30).flatMap (fun j => [.eq (.elem kWTm (.int (Int32.ofNat j))) (kWt j), .exactly (kWt j) "TriplicateForms$Word", .eq (.field (kWt j) "TriplicateForms$Word" "letters" "J") (.long (kWl.getD j 0))])
def kN3c (q : String × Nat × String × Nat) (l : List Int32) : List Cond := [.exactly (kStr q) "java/lang/String", .eq (.field (kStr q) "java/lang/String" "coder" "B") (.int 0), .arrayOf (kStv q) .byte, .eq (.length (kStv q)) (.int (Int32.ofNat l.length))] ++ (List.range l.length).map (fun j => .eq (.elem (kStv q) (.int (Int32.ofNat j))) (.int (l.getD j 0)))
def kN3 : List Cond := kLd.flatMap (fun q => kN3c q (kTxt.getD q.2.2.2 []))
def kNc : List Cond := kN0 ++ (kN1 ++ (kN2 ++ kN3))
set_option maxRecDepth 100000 in
theorem kNc_in : ∀ c ∈ kNc, c ∈ flatC (Cond.and given_1 narrow_1) := by
  have h : kNc.map some = ([1, 2, 49, 50, 57, 59, 61, 63, 65, 51, 53, 55, 33, 37, 39, 41, 43, 35, 45, 47, 67, 69, 79, 81, 83, 85, 87, 89, 71, 73, 75, 77, 91, 93, 57, 57, 57, 57, 57, 57, 57, 57, 57, 57, 57, 57, 57, 57, 57, 57, 57, 57, 57, 0, 3, 33, 34, 4, 35, 36, 5, 37, 38, 6, 39, 40, 7, 41, 42, 8, 43, 44, 9, 45, 46, 10, 47, 48, 11, 57, 58, 12, 59, 60, 13, 61, 62, 14, 63, 64, 15, 65, 66, 16, 51, 52, 17, 53, 54, 18, 55, 56, 19, 93, 94, 20, 91, 92, 21, 67, 68, 22, 71, 72, 23, 73, 74, 24, 75, 76, 25, 77, 78, 26, 69, 70, 27, 79, 80, 28, 81, 82, 29, 83, 84, 30, 85, 86, 31, 87, 88, 32, 89, 90, 168, 169, 170, 171, 158, 159, 160, 161, 162, 163, 164, 165, 166, 167, 172, 173, 174, 175, 176, 177, 178, 179, 180, 135, 136, 137, 138, 139, 140, 141, 142, 143, 144, 145, 146, 147, 95, 96, 97, 98, 99, 100, 101, 102, 103, 104, 105, 106, 107, 108, 109, 110, 111, 112, 113, 114, 115, 116, 117, 118, 119, 120, 121, 122, 123, 124, 125, 126, 127, 128, 129, 130, 131, 132, 133, 134, 181, 182, 183, 184, 185, 186, 187, 188, 189, 190, 148, 149, 150, 151, 152, 153, 154, 155, 156, 157] : List Nat).map (fun i => (kpick (flatC (Cond.and given_1 narrow_1)) [5, 0, 0, 1, 0, 0, 0, 0, 0, 0, 0, 0, 0, 0, 0, 0, 0, 0, 0, 0, 0, 0, 0, 0, 0, 0, 0, 0, 0, 0, 0, 0, 0, 0, 1, 0, 1, 0, 1, 0, 1, 0, 1, 0, 1, 0, 1, 0, 1, 0, 0, 3, 1, 0, 1, 0, 1, 0, 1, 0, 1, 0, 1, 0, 1, 0, 1, 0, 1, 0, 1, 0, 1, 0, 1, 0, 1, 0, 1, 0, 1, 0, 1, 0, 1, 0, 1, 0, 1, 0, 1, 0, 1, 0, 1, 45, 0, 0, 0, 0, 0, 0, 0, 0, 0, 0, 0, 0, 0, 0, 0, 0, 0, 0, 0, 0, 0, 0, 0, 0, 0, 0, 0, 0, 0, 0, 0, 0, 0, 0, 0, 0, 0, 0, 0, 0, 0, 0, 0, 0, 0, 0, 0, 0, 0, 0, 0, 0, 0, 0, 0, 0, 0, 0, 0, 0, 0, 0, 0, 0, 0, 0, 0, 0, 0, 0, 0, 0, 0, 0, 0, 0, 0, 0, 0, 0, 0, 0, 0, 0, 0, 0, 0, 0, 0, 0, 0, 0, 0, 0, 0])[i]?) := by decide +kernel
  intro c hc
  have h3 : some c ∈ ([1, 2, 49, 50, 57, 59, 61, 63, 65, 51, 53, 55, 33, 37, 39, 41, 43, 35, 45, 47, 67, 69, 79, 81, 83, 85, 87, 89, 71, 73, 75, 77, 91, 93, 57, 57, 57, 57, 57, 57, 57, 57, 57, 57, 57, 57, 57, 57, 57, 57, 57, 57, 57, 0, 3, 33, 34, 4, 35, 36, 5, 37, 38, 6, 39, 40, 7, 41, 42, 8, 43, 44, 9, 45, 46, 10, 47, 48, 11, 57, 58, 12, 59, 60, 13, 61, 62, 14, 63, 64, 15, 65, 66, 16, 51, 52, 17, 53, 54, 18, 55, 56, 19, 93, 94, 20, 91, 92, 21, 67, 68, 22, 71, 72, 23, 73, 74, 24, 75, 76, 25, 77, 78, 26, 69, 70, 27, 79, 80, 28, 81, 82, 29, 83, 84, 30, 85, 86, 31, 87, 88, 32, 89, 90, 168, 169, 170, 171, 158, 159, 160, 161, 162, 163, 164, 165, 166, 167, 172, 173, 174, 175, 176, 177, 178, 179, 180, 135, 136, 137, 138, 139, 140, 141, 142, 143, 144, 145, 146, 147, 95, 96, 97, 98, 99, 100, 101, 102, 103, 104, 105, 106, 107, 108, 109, 110, 111, 112, 113, 114, 115, 116, 117, 118, 119, 120, 121, 122, 123, 124, 125, 126, 127, 128, 129, 130, 131, 132, 133, 134, 181, 182, 183, 184, 185, 186, 187, 188, 189, 190, 148, 149, 150, 151, 152, 153, 154, 155, 156, 157] : List Nat).map (fun i => (kpick (flatC (Cond.and given_1 narrow_1)) [5, 0, 0, 1, 0, 0, 0, 0, 0, 0, 0, 0, 0, 0, 0, 0, 0, 0, 0, 0, 0, 0, 0, 0, 0, 0, 0, 0, 0, 0, 0, 0, 0, 0, 1, 0, 1, 0, 1, 0, 1, 0, 1, 0, 1, 0, 1, 0, 1, 0, 0, 3, 1, 0, 1, 0, 1, 0, 1, 0, 1, 0, 1, 0, 1, 0, 1, 0, 1, 0, 1, 0, 1, 0, 1, 0, 1, 0, 1, 0, 1, 0, 1, 0, 1, 0, 1, 0, 1, 0, 1, 0, 1, 0, 1, 45, 0, 0, 0, 0, 0, 0, 0, 0, 0, 0, 0, 0, 0, 0, 0, 0, 0, 0, 0, 0, 0, 0, 0, 0, 0, 0, 0, 0, 0, 0, 0, 0, 0, 0, 0, 0, 0, 0, 0, 0, 0, 0, 0, 0, 0, 0, 0, 0, 0, 0, 0, 0, 0, 0, 0, 0, 0, 0, 0, 0, 0, 0, 0, 0, 0, 0, 0, 0, 0, 0, 0, 0, 0, 0, 0, 0, 0, 0, 0, 0, 0, 0, 0, 0, 0, 0, 0, 0, 0, 0, 0, 0, 0, 0, 0])[i]?) := by rw [← h]; exact List.mem_map.mpr ⟨c, hc, rfl⟩
  obtain ⟨i, -, hi⟩ := List.mem_map.mp h3
  exact kpick_sub _ _ _ (List.mem_of_getElem? hi)
set_option maxRecDepth 100000 in
theorem kStatX_w : ∀ z ∈ kStatX, Cond.laysStatic z.1 z.2.1 z.2.2 ∈ lw_tbl ∧ Cond.initialized z.1 ∈ lw_tbl := by
  have h : kStatX.map (fun z => some (Cond.laysStatic z.1 z.2.1 z.2.2)) = ([1200, 1206, 1212, 1214, 1216, 1160, 1186, 1188, 593, 635, 657, 667, 673, 624, 679, 681, 1255, 1257, 1270, 1272, 1274, 1276, 1278, 1280, 1262, 1264, 1266, 1268, 1303, 1305, 1200, 1200, 1200, 1200, 1200, 1200, 1200, 1200, 1200, 1200, 1200, 1200, 1200, 1200, 1200, 1200, 1200, 1200, 1200, 587] : List Nat).map (fun i => lw_tbl[i]?) := by decide +kernel
  have h2 : kStatX.map (fun z => some (Cond.initialized z.1)) = ([149, 149, 149, 149, 149, 149, 149, 149, 149, 149, 149, 149, 149, 149, 149, 149, 149, 149, 149, 149, 149, 149, 149, 149, 149, 149, 149, 149, 149, 149, 149, 149, 149, 149, 149, 149, 149, 149, 149, 149, 149, 149, 149, 149, 149, 149, 149, 149, 149, 135] : List Nat).map (fun i => lw_tbl[i]?) := by decide +kernel
  intro q hq
  have h1 : some (Cond.laysStatic q.1 q.2.1 q.2.2) ∈ ([1200, 1206, 1212, 1214, 1216, 1160, 1186, 1188, 593, 635, 657, 667, 673, 624, 679, 681, 1255, 1257, 1270, 1272, 1274, 1276, 1278, 1280, 1262, 1264, 1266, 1268, 1303, 1305, 1200, 1200, 1200, 1200, 1200, 1200, 1200, 1200, 1200, 1200, 1200, 1200, 1200, 1200, 1200, 1200, 1200, 1200, 1200, 587] : List Nat).map (fun i => lw_tbl[i]?) := by rw [← h]; exact List.mem_map.mpr ⟨q, hq, rfl⟩
  have h3 : some (Cond.initialized q.1) ∈ ([149, 149, 149, 149, 149, 149, 149, 149, 149, 149, 149, 149, 149, 149, 149, 149, 149, 149, 149, 149, 149, 149, 149, 149, 149, 149, 149, 149, 149, 149, 149, 149, 149, 149, 149, 149, 149, 149, 149, 149, 149, 149, 149, 149, 149, 149, 149, 149, 149, 135] : List Nat).map (fun i => lw_tbl[i]?) := by rw [← h2]; exact List.mem_map.mpr ⟨q, hq, rfl⟩
  obtain ⟨i, -, hi⟩ := List.mem_map.mp h1
  obtain ⟨j, -, hj⟩ := List.mem_map.mp h3
  exact ⟨List.mem_of_getElem? hi, List.mem_of_getElem? hj⟩
set_option maxRecDepth 100000 in
theorem kLd_w : ∀ q ∈ kLd, Cond.stringRef q.1 q.2.1 q.2.2.1 ∈ lw_tbl := by
  have h : kLd.map (fun q => some (Cond.stringRef q.1 q.2.1 q.2.2.1)) = ([1111, 1110, 1112, 1107, 1047, 1100, 1101, 1113, 1108] : List Nat).map (fun i => lw_tbl[i]?) := by decide +kernel
  intro q hq
  have h1 : some (Cond.stringRef q.1 q.2.1 q.2.2.1) ∈ ([1111, 1110, 1112, 1107, 1047, 1100, 1101, 1113, 1108] : List Nat).map (fun i => lw_tbl[i]?) := by rw [← h]; exact List.mem_map.mpr ⟨q, hq, rfl⟩
  obtain ⟨i, -, hi⟩ := List.mem_map.mp h1
  exact List.mem_of_getElem? hi
theorem kOw : (Cond.laysStatic "java/lang/String" "COMPACT_STRINGS" "Z" ∈ lw_tbl ∧ Cond.initialized "java/lang/String" ∈ lw_tbl) ∧ (Cond.laysStatic "jdk/internal/util/Preconditions" "SIOOBE_FORMATTER" "Ljava/util/function/BiFunction;" ∈ lw_tbl ∧ Cond.initialized "jdk/internal/util/Preconditions" ∈ lw_tbl) ∧ Cond.fieldLinkNest "TriplicateForms$Tape" 70 "TriplicateForms" "WORDS" "[LTriplicateForms$Word;" "TriplicateForms" ∈ lw_tbl := ⟨⟨List.mem_of_getElem? (i := 1061) (by decide +kernel), List.mem_of_getElem? (i := 157) (by decide +kernel)⟩, ⟨List.mem_of_getElem? (i := 1077) (by decide +kernel), List.mem_of_getElem? (i := 159) (by decide +kernel)⟩, List.mem_of_getElem? (i := 586) (by decide +kernel)⟩
def kWg (b a : Nat) : Int64 := kWl.getD (a - b) 0
theorem kWg_at (b i : Nat) : kWg b (b + i) = kWl.getD i 0 := by
  unfold kWg
  rw [Nat.add_sub_cancel_left]
theorem kX_ex (ad : Nat → Nat) (b : Nat) : ∃ X : KO, (∀ i j, X.1 i j = true ↔ ad i = ad j) ∧ ∀ i, X.2 (b + i) = kWl.getD i 0 := ⟨(fun i j => decide (ad i = ad j), kWg b), fun i j => decide_eq_true_iff, kWg_at b⟩
def kAd (b : Nat) (tt wd tx : Nat → Nat) (j : Nat) : Nat := if j = 1000000 then b else if j < 1000051 then tt (j - 1000001) else if j < 1000130 then wd (j - 1000100) else tx (j - 1000200)
theorem kAd_t {b : Nat} {tt wd tx : Nat → Nat} {i : Nat} (hi : i < 50) : kAd b tt wd tx (1000001 + i) = tt i := by
  unfold kAd
  rw [if_neg (by omega), if_pos (by omega), Nat.add_sub_cancel_left]
theorem kAd_w {b : Nat} {tt wd tx : Nat → Nat} {i : Nat} (hi : i < 30) : kAd b tt wd tx (1000100 + i) = wd i := by
  unfold kAd
  rw [if_neg (by omega), if_neg (by omega), if_pos (by omega), Nat.add_sub_cancel_left]
theorem kAd_x {b : Nat} {tt wd tx : Nat → Nat} {i : Nat} : kAd b tt wd tx (1000200 + i) = tx i := by
  unfold kAd
  rw [if_neg (by omega), if_neg (by omega), if_neg (by omega), Nat.add_sub_cancel_left]
theorem kTx_of {args : Array Value} {s : State} {A : Nat → Prop} {q : String × Nat × String × Nat} {l : List Int32} (hl : l.length < 2 ^ 31) (h : ∀ c ∈ kN3c q l, c.before args s = true) (hA : ∀ a : Nat, a < s.heap.size → ¬ A a) : ∃ a : Nat, (kStr q).eval args s none [] s = some (.ref a) ∧ kTx l a A s s.heap := by
  obtain ⟨a, c, cA, kA, q1, q2, q3, q4, q5, q6, -⟩ := Cond.exactly_spec (args := args) (first := s) (o := none) (s := s) (idx := []) (h _ (List.mem_append_left _ List.mem_cons_self))
  obtain ⟨t, ht, hT⟩ := va_Tof (ty := .byte) (f := fun j => .int (l.getD j 0)) (A := A) hl (h _ (List.mem_append_left _ (by simp))) (va_eqt (h _ (List.mem_append_left _ (by simp)))) (fun j hj => va_eqt (h _ (List.mem_append_right _ (List.mem_map.mpr ⟨j, List.mem_range.mpr hj, rfl⟩)))) hA
  exact ⟨a, q1, t, ⟨cA, q3, q5, by rw [q6]; exact q2, hA a (Array.getElem?_eq_some_iff.mp q3).1⟩, vk_OFof q1 (va_eqt (h _ (List.mem_append_left _ (by simp)))) hA, vk_OFof q1 ht hA, hT⟩
set_option maxRecDepth 100000 in
theorem kStatX_t : ∀ s : Nat, s < 30 → ∃ z, kStatX[s]? = some z ∧ Term.static z.1 z.2.1 z.2.2 = kWt (swl.getD s 0) := by
  have h : (kStatX.take 30).map (fun z => Term.static z.1 z.2.1 z.2.2) = swl.map kWt := rfl
  intro s hs
  have e := congrArg (fun l => l[s]?) h
  have e : ((kStatX.take 30).map (fun z => Term.static z.1 z.2.1 z.2.2))[s]? = (swl.map kWt)[s]? := e
  rw [List.getElem?_map, List.getElem?_map, List.getElem?_take, if_pos hs] at e
  have hl : s < swl.length := hs
  rw [List.getElem?_eq_getElem hl] at e
  cases hz : kStatX[s]? with
  | none => rw [hz] at e; cases e
  | some z =>
    rw [hz] at e
    refine ⟨z, rfl, ?_⟩
    have e : some (Term.static z.1 z.2.1 z.2.2) = some (kWt swl[s]) := e
    rw [List.getD_eq_getElem?_getD, List.getElem?_eq_getElem hl]
    exact Option.some.inj e
theorem kWl_w : ∀ i : Nat, i < 30 → (kWl.getD i 0).toInt = p32 (wl i) := by
  have h : (List.range 30).all (fun i => decide ((kWl.getD i 0).toInt = p32 (wl i))) = true := by decide +kernel
  intro i hi
  exact of_decide_eq_true (List.all_eq_true.mp h i (List.mem_range.mpr hi))
theorem kWl_inj : ∀ i j : Nat, i < 30 → j < 30 → kWl.getD i 0 = kWl.getD j 0 → i = j := by
  have h : (List.range 30).all (fun i => (List.range 30).all (fun j => !(decide (kWl.getD i 0 = kWl.getD j 0)) || Nat.beq i j)) = true := by decide +kernel
  intro i j hi hj e
  have := List.all_eq_true.mp (List.all_eq_true.mp h i (List.mem_range.mpr hi)) j (List.mem_range.mpr hj)
  rw [decide_eq_true e] at this
  exact kb_t this
theorem swl_lt : ∀ s : Nat, s < 30 → swl.getD s 0 < 30 := by decide
/-- the law's frame, as the small machine wants it -/
theorem law_fixX {p : Program} {s : State} {m : MethodId} {meth : Method} {c : Code} {b L : Nat} {xs : Nat → Int32} (C0 : lw_At p s m meth c b L xs) : ∃ (D : va_G) (dA : Nat → ClassId) (ad0 : Nat → Nat) (X : KO), ad0 1000000 = b ∧ kFix p s m #[Value.ref b] meth c code 7 "TriplicateFormsLaw" "law" D dA (fun q => s.heap.size ≤ q) (kStatX, some X) ad0 ∧ XW X ∧ XS X := by
  obtain ⟨hx, hb, hr, hml, hown, hts, hX, hbl, hlocks, hgv⟩ := C0
  have hwl := fun w hw => hts w (kWordsL w hw)
  have hall : ∀ k : Nat, ∃ (cC : ClassId) (iS : Nat → Nat), ∀ q : vw_C, kCl[k]? = some q → u_Kn s q.1 q.2.1 q.2.2 cC iS := by
    intro k
    cases hk : kCl[k]? with
    | none => exact ⟨0, fun _ => 0, fun q h => by cases h⟩
    | some q =>
      obtain ⟨cC, iS, h⟩ := u_known (C := q.1) (T := q.2.1) (N := q.2.2) (n := q.2.2) hts (fun w hw => LT_tbl ((kCl_ok k q hk).1 w hw)) (hts _ (kInst k q hk))
      exact ⟨cC, iS, fun q' h' => by cases h'; exact h⟩
  obtain ⟨dC, hC⟩ := Classical.axiomOfChoice hall
  obtain ⟨dI, hI⟩ := Classical.axiomOfChoice hC
  obtain ⟨a0, q0⟩ := kPrim (ty := .int) (hwl (.arrayClass .int) (by simp)) (fun C h => by cases h)
  obtain ⟨a1, q1⟩ := kPrim (ty := .long) (hwl (.arrayClass .long) (by simp)) (fun C h => by cases h)
  obtain ⟨a2, q2⟩ := kPrim (ty := .byte) (hwl (.arrayClass .byte) (by simp)) (fun C h => by cases h)
  obtain ⟨a3, q3⟩ := kPrim (ty := .char) (hwl (.arrayClass .char) (by simp)) (fun C h => by cases h)
  obtain ⟨a4, q4⟩ := kPrim (ty := .boolean) (hwl (.arrayClass .boolean) (by simp)) (fun C h => by cases h)
  obtain ⟨a5, q5⟩ := kRefs (C := "TriplicateForms$Standing") (hwl (.arrayOver (.object "TriplicateForms$Standing")) (by simp))
  obtain ⟨a6, q6⟩ := kRefs (C := "TriplicateForms$Image") (hwl (.arrayOver (.object "TriplicateForms$Image")) (by simp))
  have hflat := flat_of_before _ hgv
  have hn : ∀ c ∈ kNc, c.before #[Value.ref b] s = true := fun c hc => hflat c (kNc_in c hc)
  have hn0 : ∀ c ∈ kN0, c.before #[Value.ref b] s = true := fun c hc => hn c (List.mem_append_left _ hc)
  have hn1 : ∀ c ∈ kN1, c.before #[Value.ref b] s = true := fun c hc => hn c (List.mem_append_right _ (List.mem_append_left _ hc))
  have hn2 : ∀ c ∈ kN2, c.before #[Value.ref b] s = true := fun c hc => hn c (List.mem_append_right _ (List.mem_append_right _ (List.mem_append_left _ hc)))
  have hn3 : ∀ c ∈ kN3, c.before #[Value.ref b] s = true := fun c hc => hn c (List.mem_append_right _ (List.mem_append_right _ (List.mem_append_right _ hc)))
  have hA : ∀ a : Nat, a < s.heap.size → ¬ (s.heap.size ≤ a) := fun a ha => Nat.not_le.mpr ha
  have hst : ∀ i : Nat, ∃ t : Nat, ∀ z, kStatX[i]? = some z → (Term.static z.1 z.2.1 z.2.2).eval #[Value.ref b] s none [] s = some (.ref t) := by
    intro i
    cases hi : kStatX[i]? with
    | none => exact ⟨0, fun z h => by cases h⟩
    | some z =>
      obtain ⟨a, c2, cell, k, r1, -⟩ := Cond.exactly_spec (hn1 _ (List.mem_map.mpr ⟨z, List.mem_of_getElem? hi, rfl⟩))
      exact ⟨a, fun z' h' => by cases h'; exact r1⟩
  obtain ⟨tt, htt⟩ := Classical.axiomOfChoice hst
  have hw : ∀ j : Nat, ∃ t : Nat, j < 30 → (kWt j).eval #[Value.ref b] s none [] s = some (.ref t) := by
    intro j
    by_cases hj : j < 30
    · obtain ⟨a, c2, cell, k, r1, -⟩ := Cond.exactly_spec (hn2 (.exactly (kWt j) "TriplicateForms$Word") (List.mem_flatMap.mpr ⟨j, List.mem_range.mpr hj, by simp⟩))
      exact ⟨a, fun _ => r1⟩
    · exact ⟨0, fun h => absurd h hj⟩
  obtain ⟨wd, hwd⟩ := Classical.axiomOfChoice hw
  have hlen : ∀ l ∈ kTxt, l.length < 2 ^ 31 := fun l hl => Nat.lt_trans (kTxt_len l hl) (by decide)
  have hkl : ∀ (i : Nat) (q : String × Nat × String × Nat), kLd[i]? = some q → q.2.2.2 = i := by
    have h : (List.range 9).all (fun i => match kLd[i]? with
      | some q => Nat.beq q.2.2.2 i
      | none => true) = true := by decide
    have hl9 : kLd.length = 9 := rfl
    intro i q hq
    have hi : i < 9 := by rw [← hl9]; exact (List.getElem?_eq_some_iff.mp hq).1
    have := List.all_eq_true.mp h i (List.mem_range.mpr hi)
    rw [hq] at this
    exact kb_t this
  have hx2 : ∀ i : Nat, ∃ t : Nat, ∀ q l, kLd[i]? = some q → kTxt[i]? = some l → (kStr q).eval #[Value.ref b] s none [] s = some (.ref t) ∧ kTx l t (fun q => s.heap.size ≤ q) s s.heap := by
    intro i
    cases hq : kLd[i]? with
    | none => exact ⟨0, fun q l h => by cases h⟩
    | some q =>
      cases hl : kTxt[i]? with
      | none => exact ⟨0, fun q l _ h => by cases h⟩
      | some l =>
        have e1 : kTxt.getD q.2.2.2 [] = l := by rw [hkl i q hq, List.getD_eq_getElem?_getD, hl]; rfl
        obtain ⟨a, r1, r2⟩ := kTx_of (args := #[Value.ref b]) (q := q) (l := l) (hlen l (List.mem_of_getElem? hl)) (fun c hc => hn3 c (List.mem_flatMap.mpr ⟨q, List.mem_of_getElem? hq, by rw [e1]; exact hc⟩)) hA
        exact ⟨a, fun q' l' h1 h2 => by cases h1; cases h2; exact ⟨r1, r2⟩⟩
  obtain ⟨tx, htx⟩ := Classical.axiomOfChoice hx2
  have hWe : kWTm.eval #[Value.ref b] s none [] s = some (.ref (tt 49)) := htt 49 _ rfl
  have hTw : va_T (.object "TriplicateForms$Word") (tt 49) 30 (fun j => .ref (kAd b tt wd tx (1000100 + j))) (fun q => s.heap.size ≤ q) s s.heap := by
    obtain ⟨t, r1, r2⟩ := va_Tof (args := #[Value.ref b]) (s := s) (tm := kWTm) (ty := .object "TriplicateForms$Word") (N := 30) (f := fun j => .ref (kAd b tt wd tx (1000100 + j))) (A := fun q => s.heap.size ≤ q) (by decide) (hn0 _ (by simp [kN0])) (va_eqt (hn0 _ (by simp [kN0]))) (fun j hj => by
      rw [kAd_w hj]
      exact va_eqv (hn2 (.eq (.elem kWTm (.int (Int32.ofNat j))) (kWt j)) (List.mem_flatMap.mpr ⟨j, List.mem_range.mpr hj, by simp⟩)) (hwd j hj)) hA
    have : t = tt 49 := by
      have h := r1.symm.trans hWe
      cases h; rfl
    rw [← this]
    exact r2
  obtain ⟨X, hX1, hX2⟩ := kX_ex (kAd b tt wd tx) 1000100
  have hXW : XW X := fun i hi => by
    rw [hX2 i]
    exact kWl_w i hi
  have hLt : ∀ i, i < 30 → (Term.field (kWt i) "TriplicateForms$Word" "letters" "J").eval #[Value.ref b] s none [] s = some (.long (kWl.getD i 0)) := fun i hi => va_eqtl (hn2 (.eq (.field (kWt i) "TriplicateForms$Word" "letters" "J") (.long (kWl.getD i 0))) (List.mem_flatMap.mpr ⟨i, List.mem_range.mpr hi, by simp⟩))
  have hInj : ∀ i j, i < 30 → j < 30 → wd i = wd j → i = j := fun i j hi hj e => by
    have h1 := hLt i hi
    have h2 := hLt j hj
    simp only [Term.eval] at h1 h2
    rw [hwd i hi] at h1
    rw [hwd j hj, ← e] at h2
    have h3 := h1.symm.trans h2
    injection h3 with h3
    injection h3 with h3
    exact kWl_inj i j hi hj h3
  have hTt : ∀ s', s' < 30 → tt s' = wd (swl.getD s' 0) := fun s' hs' => by
    obtain ⟨z, z1, z2⟩ := kStatX_t s' hs'
    have h1 := htt s' z z1
    rw [z2, hwd _ (swl_lt s' hs')] at h1
    injection h1 with h1
    injection h1 with h1
    exact h1.symm
  have hXS : XS X := fun s' i hs' hi => by
    rw [hX1, kAd_w hi, kAd_t (Nat.lt_of_lt_of_le hs' (by decide)), hTt s' hs']
    exact ⟨fun e => hInj _ _ hi (swl_lt s' hs') e, fun e => by rw [e]⟩
  refine ⟨(dC, dI), fun t => [a0, a1, a2, a3, a4, a5, a6].getD t 0, kAd b tt wd tx, X, if_pos rfl, ⟨hx, hb, hml, hown, LT_hts hts, ⟨fun k q hq => hI k q hq, ?_⟩, fun q h => h, fun h => absurd h (by decide), ⟨fun i z hz => ?_, fun X' hX' => ?_⟩, fun q hq => va_Nw.of rfl (hts _ (kNW_ok q hq)), va_AO.of (hwl (.arrayOver (.object "TriplicateForms$Standing")) (by simp)), va_AO.of (hwl (.arrayOver (.object "TriplicateForms$Image")) (by simp))⟩, hXW, hXS⟩
  · intro k q hk
    match k, hk with
    | 0, hk => cases hk; exact q0
    | 1, hk => cases hk; exact q1
    | 2, hk => cases hk; exact q2
    | 3, hk => cases hk; exact q3
    | 4, hk => cases hk; exact q4
    | 5, hk => cases hk; exact q5
    | 6, hk => cases hk; exact q6
    | n + 7, hk => simp [kTyL] at hk
  · have hi : i < 50 := (List.getElem?_eq_some_iff.mp hz).1
    rw [kAd_t hi]
    have hm := kStatX_w z (List.mem_of_getElem? hz)
    exact va_Zref (hts _ hm.1) (hts _ hm.2) (htt i z hz) hA
  · cases hX'
    refine ⟨fun i j _ _ => hX1 i j, ?_, fun i hi => ?_, fun i l hl => ?_, va_Zof (hts _ kOw.1.1) (hts _ kOw.1.2) (va_eqt (hn0 _ (by simp [kN0]))) hA, va_Zqof (hts _ kOw.2.1.1) (hts _ kOw.2.1.2) (hn0 _ (by simp [kN0])) hA, fun q hq => ?_, va_Nw.of rfl (hts _ kOw.2.2)⟩
    · have e : kAd b tt wd tx 1000050 = tt 49 := kAd_t (i := 49) (by decide)
      rw [e]
      exact hTw
    · rw [kAd_w hi, hX2]
      exact vk_OFof (hwd i hi) (va_eqtl (hn2 (.eq (.field (kWt i) "TriplicateForms$Word" "letters" "J") (.long (kWl.getD i 0))) (List.mem_flatMap.mpr ⟨i, List.mem_range.mpr hi, by simp⟩))) hA
    · rw [kAd_x]
      have hi : i < 9 := (List.getElem?_eq_some_iff.mp hl).1
      exact (htx i _ l (List.getElem?_eq_getElem (show i < kLd.length from hi)) hl).2
    · rw [kAd_x]
      obtain ⟨i, hi⟩ := List.getElem?_of_mem hq
      have h9 : i < 9 := (List.getElem?_eq_some_iff.mp hi).1
      rw [hkl i q hi]
      exact vk_R.of (A := #[Value.ref b]) (hts _ (kLd_w q hq)) (htx i q _ hi (List.getElem?_eq_getElem (show i < kTxt.length from h9))).1
