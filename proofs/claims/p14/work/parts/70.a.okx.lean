/-! The programs' rows are as they should be: they decode, and their words are the tables' (written by a program). -/
def kpk (sel : List Cond) : List Nat → List (Option Cond)
  | [] => []
  | i :: r => sel[i]? :: kpk sel r
theorem kpk_eq (sel : List Cond) (ps : List Nat) : kpk sel ps = ps.map (fun i => sel[i]?) := by
  induction ps with
  | nil => rfl
  | cons i r ih => exact congrArg (fun z => sel[i]? :: z) ih
theorem kpchkX_ok {ms : List KMeth} {zs : KY} {own mname : String} {cc : ByteArray} {prog : List KEnt} {gs ps : List Nat} (h : prog.all (fun x => kdec cc x && ksideX ms zs own mname x) = true) (hr : kpk (kpick lw_tbl gs) ps = (prog.flatMap (fun x => kwordsX ms zs own x)).map some) (hg : (prog.flatMap (fun x => kwordsX ms zs own x)).all goodWord = true) : ∀ x ∈ prog, kEntX ms zs own mname cc x := by
  intro x hx
  have h2 := Bool.and_eq_true_iff.mp (List.all_eq_true.mp h x hx)
  have h1 : kin2 (prog.flatMap (fun x => kwordsX ms zs own x)) (kpick lw_tbl gs) ps = true := Bool.and_eq_true_iff.mpr ⟨decide_eq_true (hr.symm.trans (kpk_eq _ _)), hg⟩
  exact ⟨h2.1, fun w hw => kin2_ok h1 w (List.mem_flatMap.mpr ⟨x, hx, hw⟩), h2.2⟩
theorem kpchkY_ok {ms : List KMeth} {zs : KY} {own mname : String} {cc : ByteArray} {prog : List KEnt} {gs ps : List Nat} (h0 : xn_w cc prog 0 cc.data.toList = true) (h1 : prog.all (fun x => ksideX ms zs own mname x) = true) (hr : kpk (kpick lw_tbl gs) ps = (prog.flatMap (fun x => kwordsX ms zs own x)).map some) (hg : (prog.flatMap (fun x => kwordsX ms zs own x)).all goodWord = true) : ∀ x ∈ prog, kEntX ms zs own mname cc x := by
  intro x hx
  have hI : kin2 (prog.flatMap (fun x => kwordsX ms zs own x)) (kpick lw_tbl gs) ps = true := Bool.and_eq_true_iff.mpr ⟨decide_eq_true (hr.symm.trans (kpk_eq _ _)), hg⟩
  exact ⟨xn_w_ok prog 0 h0 x hx, fun w hw => kin2_ok hI w (List.mem_flatMap.mpr ⟨x, hx, hw⟩), List.all_eq_true.mp h1 x hx⟩
def kMethX (r : KMeth) : Prop := (∀ x ∈ r.2.2.2.2.2.2, kEntX qmeths kStatX r.1.cls r.1.name r.2.1 x) ∧ plainName r.1.cls = true ∧ r.2.2.2.1 ≠ some .byte
def kisNew : Instr → Bool
  | .new _ => true
  | _ => false
def kisStat : Instr → Bool
  | .invokestatic _ => true
  | _ => false
theorem qPN0 : plainName "TriplicateForms" = true := by decide +kernel
theorem qPN1 : plainName "TriplicateForms$Adviser" = true := by decide +kernel
theorem qPN2 : plainName "TriplicateForms$Book" = true := by decide +kernel
theorem qPN3 : plainName "TriplicateForms$Image" = true := by decide +kernel
theorem qPN4 : plainName "TriplicateForms$Matcher" = true := by decide +kernel
theorem qPN5 : plainName "TriplicateForms$Roster" = true := by decide +kernel
theorem qPN6 : plainName "TriplicateForms$Sentence" = true := by decide +kernel
theorem qPN7 : plainName "TriplicateForms$Stamp" = true := by decide +kernel
theorem qPN8 : plainName "TriplicateForms$Standing" = true := by decide +kernel
theorem qPN9 : plainName "TriplicateForms$Tape" = true := by decide +kernel
theorem qPN10 : plainName "TriplicateForms$Undos" = true := by decide +kernel
theorem qPN11 : plainName "TriplicateFormsModel" = true := by decide +kernel
theorem qPN12 : plainName "java/lang/Integer" = true := by decide +kernel
theorem qPN13 : plainName "java/util/Arrays" = true := by decide +kernel
set_option maxRecDepth 100000 in
theorem qO0 : kMethX qM0 := ⟨kpchkY_ok (gs := [374, 121]) (ps := [1, 0]) (by decide +kernel) (by decide +kernel) (by rfl) (by decide +kernel), qPN0, by decide⟩
set_option maxRecDepth 100000 in
theorem qO1 : kMethX qM1 := ⟨kpchkY_ok (gs := [138, 1, 350, 1, 271, 0, 0, 0, 25, 0, 0, 0, 4, 0, 0, 0]) (ps := [2, 4, 5, 6, 0, 7, 3, 2, 8, 9, 10, 1, 11, 2, 12, 13, 14, 0, 15]) (by decide +kernel) (by decide +kernel) (by rfl) (by decide +kernel), qPN0, by decide⟩
set_option maxRecDepth 100000 in
theorem qO2 : kMethX qM2 := ⟨kpchkY_ok (gs := [13, 121, 1, 351, 173, 0, 0, 44, 50, 1, 0]) (ps := [3, 7, 4, 5, 2, 6, 8, 9, 0, 1, 10]) (by decide +kernel) (by decide +kernel) (by rfl) (by decide +kernel), qPN0, by decide⟩
set_option maxRecDepth 100000 in
theorem qO3 : kMethX qM3 := ⟨kpchkY_ok (gs := [138, 1, 3, 33, 14, 1, 216, 75, 0, 1, 0, 0, 4, 2, 187, 0, 0, 0, 101, 0, 0, 0, 352, 0, 0, 0, 63, 0, 0, 0]) (ps := [12, 7, 8, 22, 23, 24, 2, 25, 7, 4, 13, 7, 3, 13, 7, 5, 10, 9, 14, 15, 16, 0, 17, 12, 10, 26, 27, 28, 2, 29, 12, 9, 26, 27, 28, 2, 29, 12, 6, 11, 10, 18, 19, 20, 1, 21]) (by decide +kernel) (by decide +kernel) (by rfl) (by decide +kernel), qPN0, by decide⟩
set_option maxRecDepth 100000 in
theorem qO4 : kMethX qM4 := ⟨kpchkY_ok (gs := [143, 353, 620, 0, 0, 0]) (ps := [1, 2, 3, 4, 0, 5]) (by decide +kernel) (by decide +kernel) (by rfl) (by decide +kernel), qPN0, by decide⟩
set_option maxRecDepth 100000 in
theorem qO5 : kMethX qM5 := ⟨kpchkY_ok (gs := [137, 0, 350, 1, 233, 0, 0, 32, 121, 0, 0, 0]) (ps := [2, 7, 4, 5, 0, 6, 3, 8, 9, 10, 1, 11]) (by decide +kernel) (by decide +kernel) (by rfl) (by decide +kernel), qPN0, by decide⟩
set_option maxRecDepth 100000 in
theorem qO6 : kMethX qM6 := ⟨kpchkY_ok (gs := [13, 121, 1, 351, 235, 0, 0, 32, 0, 1, 0]) (ps := [3, 7, 4, 5, 2, 6, 8, 9, 0, 1, 10]) (by decide +kernel) (by decide +kernel) (by rfl) (by decide +kernel), qPN0, by decide⟩
set_option maxRecDepth 100000 in
theorem qO7 : kMethX qM7 := ⟨kpchkY_ok (gs := [178, 57, 5, 2, 242, 0]) (ps := [5, 1, 5, 2, 5, 3, 4, 0]) (by decide +kernel) (by decide +kernel) (by rfl) (by decide +kernel), qPN0, by decide⟩
set_option maxRecDepth 100000 in
theorem qO8 : kMethX qM8 := ⟨kpchkY_ok (gs := [142, 348, 4, 477, 0, 0, 0]) (ps := [2, 1, 3, 4, 5, 0, 6]) (by decide +kernel) (by decide +kernel) (by rfl) (by decide +kernel), qPN0, by decide⟩
set_option maxRecDepth 100000 in
theorem qO9 : kMethX qM9 := ⟨kpchkY_ok (gs := [376, 119]) (ps := [1, 0]) (by decide +kernel) (by decide +kernel) (by rfl) (by decide +kernel), qPN0, by decide⟩
set_option maxRecDepth 100000 in
theorem qO10 : kMethX qM10 := ⟨kpchkY_ok (gs := [13, 121, 19, 140, 194, 269, 1, 0, 35, 0, 62]) (ps := [4, 3, 10, 8, 2, 9, 5, 6, 0, 1, 7]) (by decide +kernel) (by decide +kernel) (by rfl) (by decide +kernel), qPN0, by decide⟩
set_option maxRecDepth 100000 in
theorem qO11 : kMethX qM11 := ⟨kpchkY_ok (gs := [138, 1, 95, 59, 192, 1, 1, 300, 0, 0, 0, 328, 0, 0, 0]) (ps := [4, 2, 5, 3, 6, 5, 7, 8, 9, 1, 10, 5, 11, 12, 13, 0, 14]) (by decide +kernel) (by decide +kernel) (by rfl) (by decide +kernel), qPN0, by decide⟩
set_option maxRecDepth 100000 in
theorem qO12 : kMethX qM12 := ⟨kpchkY_ok (gs := [137, 0, 350, 1, 171, 0, 0, 44, 14, 0, 0, 32, 244, 0, 0, 0]) (ps := [2, 11, 8, 9, 0, 10, 2, 7, 4, 5, 0, 6, 3, 12, 13, 14, 1, 15]) (by decide +kernel) (by decide +kernel) (by rfl) (by decide +kernel), qPN0, by decide⟩
set_option maxRecDepth 100000 in
theorem qO13 : kMethX qM13 := ⟨kpchkY_ok (gs := [178, 309]) (ps := [1, 0, 1, 0]) (by decide +kernel) (by decide +kernel) (by rfl) (by decide +kernel), qPN0, by decide⟩
set_option maxRecDepth 100000 in
theorem qO14 : kMethX qM14 := ⟨kpchkY_ok (gs := [501]) (ps := [0]) (by decide +kernel) (by decide +kernel) (by rfl) (by decide +kernel), qPN0, by decide⟩
set_option maxRecDepth 100000 in
theorem qO15 : kMethX qM15 := ⟨kpchkY_ok (gs := [136, 41, 309, 46, 0, 0, 0]) (ps := [2, 1, 2, 3, 4, 5, 0, 6, 2, 3, 4, 5, 0, 6, 2, 3, 4, 5, 0, 6, 2, 3, 4, 5, 0, 6, 2, 3, 4, 5, 0, 6, 2, 1]) (by decide +kernel) (by decide +kernel) (by rfl) (by decide +kernel), qPN0, by decide⟩
set_option maxRecDepth 100000 in
theorem qO16 : kMethX qM16 := ⟨kpchkY_ok (gs := [142, 35, 309, 2, 4, 450, 0, 0, 0]) (ps := [4, 2, 3, 5, 6, 7, 0, 8, 2, 1]) (by decide +kernel) (by decide +kernel) (by rfl) (by decide +kernel), qPN0, by decide⟩
set_option maxRecDepth 100000 in
theorem qO17 : kMethX qM17 := ⟨kpchkY_ok (gs := [137, 0, 350, 1, 153, 0, 0, 15, 0, 0, 44, 0]) (ps := [2, 10, 7, 8, 0, 9, 2, 10, 7, 8, 0, 9, 3, 11, 4, 5, 1, 6]) (by decide +kernel) (by decide +kernel) (by rfl) (by decide +kernel), qPN0, by decide⟩
set_option maxRecDepth 100000 in
theorem qO18 : kMethX qM18 := ⟨kpchkY_ok (gs := [146, 342, 1, 2, 4, 840, 0, 0, 0]) (ps := [3, 3, 1, 2, 4, 5, 6, 7, 0, 8]) (by decide +kernel) (by decide +kernel) (by rfl) (by decide +kernel), qPN0, by decide⟩
set_option maxRecDepth 100000 in
theorem qO19 : kMethX qM19 := ⟨kpchkY_ok (gs := [13, 121, 1, 351, 235, 0, 0, 32, 0, 1, 0]) (ps := [3, 7, 4, 5, 2, 6, 8, 9, 0, 1, 10]) (by decide +kernel) (by decide +kernel) (by rfl) (by decide +kernel), qPN0, by decide⟩
set_option maxRecDepth 100000 in
theorem qO20 : kMethX qM20 := ⟨kpchkY_ok (gs := [138, 97, 252, 1, 530, 0, 0, 0]) (ps := [2, 1, 3, 4, 5, 6, 0, 7]) (by decide +kernel) (by decide +kernel) (by rfl) (by decide +kernel), qPN0, by decide⟩
set_option maxRecDepth 100000 in
theorem qO21 : kMethX qM21 := ⟨kpchkY_ok (gs := [141, 349, 3, 410, 0, 0, 0]) (ps := [2, 1, 3, 4, 5, 0, 6]) (by decide +kernel) (by decide +kernel) (by rfl) (by decide +kernel), qPN0, by decide⟩
set_option maxRecDepth 100000 in
theorem qO22 : kMethX qM22 := ⟨kpchkY_ok (gs := [141, 353, 443, 0, 0, 0]) (ps := [1, 2, 3, 4, 0, 5]) (by decide +kernel) (by decide +kernel) (by rfl) (by decide +kernel), qPN0, by decide⟩
set_option maxRecDepth 100000 in
theorem qO23 : kMethX qM23 := ⟨kpchkY_ok (gs := [138, 153, 3, 194, 224, 0, 0, 0, 8, 0, 0, 0, 20, 0, 0, 0]) (ps := [3, 2, 3, 4, 5, 6, 0, 7, 3, 4, 5, 6, 0, 7, 3, 4, 5, 6, 0, 7, 3, 4, 5, 6, 0, 7, 3, 8, 9, 10, 0, 11, 3, 1, 3, 12, 13, 14, 0, 15]) (by decide +kernel) (by decide +kernel) (by rfl) (by decide +kernel), qPN0, by decide⟩
set_option maxRecDepth 100000 in
theorem qO24 : kMethX qM24 := ⟨kpchkY_ok (gs := [137, 0, 350, 1, 0, 196, 0, 0, 0, 28, 0, 0, 1, 0, 0, 32, 365, 0, 0, 0, 15]) (ps := [2, 15, 12, 13, 0, 14, 4, 3, 5, 6, 7, 1, 8, 4, 16, 17, 18, 1, 19, 4, 20, 9, 10, 1, 11]) (by decide +kernel) (by decide +kernel) (by rfl) (by decide +kernel), qPN0, by decide⟩
set_option maxRecDepth 100000 in
theorem qO25 : kMethX qM25 := ⟨kpchkY_ok (gs := [137, 0, 1, 4, 32, 14, 1, 292, 0, 0, 0, 0, 0, 5, 1, 45, 0, 0, 0, 131, 0, 0, 0, 3, 0, 0, 0, 1, 0, 0, 0, 0, 0, 0, 0]) (ps := [9, 7, 11, 15, 16, 17, 0, 18, 7, 5, 14, 7, 4, 14, 7, 6, 8, 9, 19, 20, 21, 0, 22, 10, 11, 23, 24, 25, 1, 26, 13, 27, 28, 29, 3, 30, 12, 31, 32, 33, 2, 34]) (by decide +kernel) (by decide +kernel) (by rfl) (by decide +kernel), qPN0, by decide⟩
set_option maxRecDepth 100000 in
theorem qO26 : kMethX qM26 := ⟨kpchkY_ok (gs := [138, 352, 283, 0, 0, 99]) (ps := [1, 5, 2, 3, 0, 4]) (by decide +kernel) (by decide +kernel) (by rfl) (by decide +kernel), qPN0, by decide⟩
set_option maxRecDepth 100000 in
theorem qO27 : kMethX qM27 := ⟨kpchkY_ok (gs := [13, 121, 1, 351, 173, 0, 0, 44, 50, 1, 0]) (ps := [3, 7, 4, 5, 2, 6, 3, 7, 4, 5, 2, 6, 8, 9, 0, 1, 10]) (by decide +kernel) (by decide +kernel) (by rfl) (by decide +kernel), qPN0, by decide⟩
set_option maxRecDepth 100000 in
theorem qO28 : kMethX qM28 := ⟨kpchkY_ok (gs := [137, 0, 1, 4, 326, 1, 1, 1, 10, 1, 1, 0, 4, 182, 0, 0, 0, 3, 0, 0, 0, 5, 0, 0, 0, 645, 0, 0, 5]) (ps := [11, 11, 7, 8, 11, 4, 13, 14, 15, 0, 16, 9, 11, 5, 17, 18, 19, 1, 20, 12, 11, 6, 28, 25, 26, 3, 27, 10, 21, 22, 23, 2, 24]) (by decide +kernel) (by decide +kernel) (by rfl) (by decide +kernel), qPN0, by decide⟩
set_option maxRecDepth 100000 in
theorem qO29 : kMethX qM29 := ⟨kpchkY_ok (gs := [13, 121, 1, 351, 173, 0, 0, 44, 50, 1, 0]) (ps := [3, 7, 4, 5, 2, 6, 8, 9, 0, 1, 10]) (by decide +kernel) (by decide +kernel) (by rfl) (by decide +kernel), qPN0, by decide⟩
set_option maxRecDepth 100000 in
theorem qO30 : kMethX qM30 := ⟨kpchkY_ok (gs := [145, 10, 85, 246, 1, 7, 488, 0, 320, 0, 0, 0, 0, 0, 0, 0, 17]) (ps := [5, 8, 9, 10, 0, 11, 5, 4, 12, 13, 14, 0, 15, 16, 6, 1, 7, 3, 2]) (by decide +kernel) (by decide +kernel) (by rfl) (by decide +kernel), qPN0, by decide⟩
set_option maxRecDepth 100000 in
theorem qO31 : kMethX qM31 := ⟨kpchkY_ok (gs := [145, 32, 14, 1, 250, 41, 0, 9, 0, 0, 734, 0, 0, 0]) (ps := [8, 5, 6, 10, 11, 12, 0, 13, 5, 2, 9, 5, 1, 9, 5, 3, 7, 8, 7, 8, 7, 4]) (by decide +kernel) (by decide +kernel) (by rfl) (by decide +kernel), qPN0, by decide⟩
set_option maxRecDepth 100000 in
theorem qO32 : kMethX qM32 := ⟨kpchkY_ok (gs := [138, 103, 49, 196, 1, 241, 0, 0, 247, 0, 0, 30, 0]) (ps := [3, 1, 4, 11, 8, 9, 0, 10, 4, 2, 4, 12, 5, 6, 0, 7]) (by decide +kernel) (by decide +kernel) (by rfl) (by decide +kernel), qPN0, by decide⟩
set_option maxRecDepth 100000 in
theorem qO33 : kMethX qM33 := ⟨kpchkY_ok (gs := [13, 121, 1, 351, 173, 0, 0, 44, 14, 0, 0, 32, 0, 1, 0]) (ps := [3, 7, 4, 5, 2, 6, 3, 11, 8, 9, 2, 10, 12, 13, 0, 1, 14]) (by decide +kernel) (by decide +kernel) (by rfl) (by decide +kernel), qPN0, by decide⟩
set_option maxRecDepth 100000 in
theorem qO34 : kMethX qM34 := ⟨kpchkY_ok (gs := [13, 121, 1, 351, 173, 0, 0, 44, 50, 1, 0]) (ps := [3, 7, 4, 5, 2, 6, 3, 7, 4, 5, 2, 6, 8, 9, 0, 1, 10]) (by decide +kernel) (by decide +kernel) (by rfl) (by decide +kernel), qPN0, by decide⟩
set_option maxRecDepth 100000 in
theorem qO35 : kMethX qM35 := ⟨kpchkY_ok (gs := [137, 5, 248, 96, 1, 5, 227, 0, 0, 32, 269, 0, 0, 0]) (ps := [3, 9, 6, 7, 0, 8, 5, 4, 10, 11, 12, 1, 13, 5, 2]) (by decide +kernel) (by decide +kernel) (by rfl) (by decide +kernel), qPN0, by decide⟩
set_option maxRecDepth 100000 in
theorem qO36 : kMethX qM36 := ⟨kpchkY_ok (gs := [144, 353, 729, 0, 0, 0]) (ps := [1, 2, 3, 4, 0, 5]) (by decide +kernel) (by decide +kernel) (by rfl) (by decide +kernel), qPN0, by decide⟩
set_option maxRecDepth 100000 in
theorem qO37 : kMethX qM37 := ⟨kpchkY_ok (gs := [140, 350, 1, 375, 0, 0, 0]) (ps := [2, 1, 3, 4, 5, 0, 6]) (by decide +kernel) (by decide +kernel) (by rfl) (by decide +kernel), qPN0, by decide⟩
set_option maxRecDepth 100000 in
theorem qO38 : kMethX qM38 := ⟨kpchkY_ok (gs := [137, 0, 350, 1, 233, 0, 0, 32, 129, 0, 0, 0]) (ps := [2, 7, 4, 5, 0, 6, 3, 8, 9, 10, 1, 11]) (by decide +kernel) (by decide +kernel) (by rfl) (by decide +kernel), qPN0, by decide⟩
set_option maxRecDepth 100000 in
theorem qO39 : kMethX qM39 := ⟨kpchkY_ok (gs := [138, 817, 0, 0, 0]) (ps := [1, 2, 3, 0, 4]) (by decide +kernel) (by decide +kernel) (by rfl) (by decide +kernel), qPN1, by decide⟩
set_option maxRecDepth 100000 in
theorem qO40 : kMethX qM40 := ⟨kpchkY_ok (gs := [372]) (ps := [0]) (by decide +kernel) (by decide +kernel) (by rfl) (by decide +kernel), qPN1, by decide⟩
set_option maxRecDepth 100000 in
theorem qO41 : kMethX qM41 := ⟨kpchkY_ok (gs := [26, 0, 114, 13, 77, 46, 93, 602, 1, 0, 5, 0, 0, 3, 1, 0]) (ps := [7, 8, 0, 2, 9, 5, 4, 10, 11, 3, 12, 13, 14, 1, 2, 15, 6]) (by decide +kernel) (by decide +kernel) (by rfl) (by decide +kernel), qPN1, by decide⟩
set_option maxRecDepth 100000 in
theorem qO42 : kMethX qM42 := ⟨kpchkY_ok (gs := [136, 0, 4, 34, 60, 42, 91, 194, 0, 0, 92, 0, 0, 285, 0, 0, 0, 0, 4, 0, 0]) (ps := [3, 3, 3, 13, 7, 8, 0, 9, 5, 14, 10, 11, 1, 12, 5, 4, 15, 16, 2, 17, 18, 19, 2, 20, 6]) (by decide +kernel) (by decide +kernel) (by rfl) (by decide +kernel), qPN1, by decide⟩
set_option maxRecDepth 100000 in
theorem qO43 : kMethX qM43 := ⟨kpchkY_ok (gs := [138, 99, 42, 90, 360, 0, 0, 246, 0, 0, 0, 0]) (ps := [2, 1, 3, 7, 8, 9, 0, 10, 11, 4, 5, 0, 6]) (by decide +kernel) (by decide +kernel) (by rfl) (by decide +kernel), qPN1, by decide⟩
set_option maxRecDepth 100000 in
theorem qO44 : kMethX qM44 := ⟨kpchkY_ok (gs := [138, 16, 78, 3, 42, 674, 0, 0, 0, 3, 0, 0]) (ps := [4, 2, 4, 3, 5, 6, 7, 0, 8, 9, 10, 1, 11, 9, 10, 1, 11]) (by decide +kernel) (by decide +kernel) (by rfl) (by decide +kernel), qPN1, by decide⟩
set_option maxRecDepth 100000 in
theorem qO45 : kMethX qM45 := ⟨kpchkY_ok (gs := [136, 268, 1, 0, 155, 0, 0, 36, 0, 0, 560, 0]) (ps := [3, 3, 10, 7, 8, 0, 9, 1, 3, 2, 3, 11, 4, 5, 0, 6]) (by decide +kernel) (by decide +kernel) (by rfl) (by decide +kernel), qPN2, by decide⟩
set_option maxRecDepth 100000 in
theorem qO46 : kMethX qM46 := ⟨kpchkY_ok (gs := [136, 271, 217, 0, 0, 555]) (ps := [1, 1, 5, 2, 3, 0, 4]) (by decide +kernel) (by decide +kernel) (by rfl) (by decide +kernel), qPN2, by decide⟩
set_option maxRecDepth 100000 in
theorem qO47 : kMethX qM47 := ⟨kpchkY_ok (gs := [138, 156, 109, 0, 0, 0, 0, 0, 0, 1, 0, 302, 0, 0, 46, 0, 0, 34, 0, 0, 415, 0, 0]) (ps := [6, 7, 8, 5, 2, 3, 4, 20, 14, 15, 0, 16, 2, 7, 2, 3, 4, 21, 17, 18, 0, 19, 8, 8, 1, 9, 22, 11, 12, 0, 13, 10]) (by decide +kernel) (by decide +kernel) (by rfl) (by decide +kernel), qPN2, by decide⟩
set_option maxRecDepth 100000 in
theorem qO48 : kMethX qM48 := ⟨kpchkY_ok (gs := [408]) (ps := [0, 0, 0]) (by decide +kernel) (by decide +kernel) (by rfl) (by decide +kernel), qPN2, by decide⟩
set_option maxRecDepth 100000 in
theorem qO49 : kMethX qM49 := ⟨kpchkY_ok (gs := [409, 0, 0, 1, 0]) (ps := [0, 1, 2, 3, 4]) (by decide +kernel) (by decide +kernel) (by rfl) (by decide +kernel), qPN2, by decide⟩
set_option maxRecDepth 100000 in
theorem qO50 : kMethX qM50 := ⟨kpchkY_ok (gs := [37, 98, 7, 261, 157, 0, 0, 82, 0, 0, 515, 8, 1, 0, 13]) (ps := [14, 7, 8, 1, 9, 3, 11, 12, 0, 2, 13, 10, 4, 5, 1, 6]) (by decide +kernel) (by decide +kernel) (by rfl) (by decide +kernel), qPN2, by decide⟩
set_option maxRecDepth 100000 in
theorem qO51 : kMethX qM51 := ⟨kpchkY_ok (gs := [36, 4, 0, 93, 7, 262, 187, 0, 0, 5, 0, 0, 555, 4, 1, 1, 0, 27, 1, 1, 0, 0, 1, 1, 0, 0, 1, 1]) (ps := [17, 12, 6, 7, 3, 8, 18, 19, 1, 4, 20, 5, 14, 15, 0, 4, 16, 21, 12, 6, 7, 3, 8, 18, 19, 1, 4, 20, 5, 22, 23, 2, 4, 24, 25, 12, 6, 7, 3, 8, 18, 19, 1, 4, 20, 5, 22, 23, 2, 4, 24, 26, 12, 6, 7, 3, 8, 18, 19, 1, 4, 20, 27, 12, 6, 7, 3, 8, 18, 19, 1, 4, 20, 13, 9, 10, 3, 11]) (by decide +kernel) (by decide +kernel) (by rfl) (by decide +kernel), qPN2, by decide⟩
set_option maxRecDepth 100000 in
theorem qO52 : kMethX qM52 := ⟨kpchkY_ok (gs := [37, 98, 0, 6, 419, 0, 0, 600, 4, 0, 0, 0, 0, 1, 0]) (ps := [8, 9, 10, 2, 11, 12, 13, 0, 3, 14, 7, 4, 5, 1, 6]) (by decide +kernel) (by decide +kernel) (by rfl) (by decide +kernel), qPN2, by decide⟩
set_option maxRecDepth 100000 in
theorem qO53 : kMethX qM53 := ⟨kpchkY_ok (gs := [35, 0, 0, 0, 0, 0, 95, 0, 6, 261, 188, 0, 0, 43, 0, 0, 515, 1, 0, 1, 0, 2, 1, 0, 4, 1, 0, 0, 1, 0, 1, 1, 1, 1, 0, 1, 0, 1, 0]) (ps := [16, 17, 10, 11, 6, 12, 18, 19, 0, 8, 20, 9, 21, 22, 1, 8, 23, 27, 28, 3, 8, 29, 30, 17, 10, 11, 6, 12, 18, 19, 0, 8, 20, 9, 21, 22, 1, 8, 23, 27, 28, 3, 8, 29, 31, 17, 10, 11, 6, 12, 18, 19, 0, 8, 20, 32, 33, 4, 8, 34, 27, 28, 3, 8, 29, 35, 13, 14, 7, 15, 18, 19, 0, 8, 20, 9, 24, 25, 2, 8, 26, 36, 37, 5, 8, 38, 27, 28, 3, 8, 29]) (by decide +kernel) (by decide +kernel) (by rfl) (by decide +kernel), qPN2, by decide⟩
set_option maxRecDepth 100000 in
theorem qO54 : kMethX qM54 := ⟨kpchkY_ok (gs := [37, 98, 0, 6, 419, 0, 0, 74, 0, 0, 523, 8, 1, 0, 14]) (ps := [14, 7, 8, 2, 9, 11, 12, 0, 3, 13, 10, 4, 5, 1, 6]) (by decide +kernel) (by decide +kernel) (by rfl) (by decide +kernel), qPN2, by decide⟩
set_option maxRecDepth 100000 in
theorem qO55 : kMethX qM55 := ⟨kpchkY_ok (gs := [34, 101, 7, 37, 225, 151, 0, 0, 591, 0, 1, 0]) (ps := [4, 8, 5, 6, 1, 7, 3, 9, 10, 0, 2, 11]) (by decide +kernel) (by decide +kernel) (by rfl) (by decide +kernel), qPN2, by decide⟩
set_option maxRecDepth 100000 in
theorem qO56 : kMethX qM56 := ⟨kpchkY_ok (gs := [37, 98, 7, 260, 158, 0, 0, 600, 8, 1, 0]) (ps := [3, 8, 9, 0, 2, 10, 7, 4, 5, 1, 6]) (by decide +kernel) (by decide +kernel) (by rfl) (by decide +kernel), qPN2, by decide⟩
set_option maxRecDepth 100000 in
theorem qO57 : kMethX qM57 := ⟨kpchkY_ok (gs := [137, 0, 6, 325, 1, 1, 1, 205, 0, 0, 4, 0, 0, 651, 0, 0, 0, 0, 0]) (ps := [3, 13, 7, 8, 0, 9, 4, 14, 10, 11, 1, 12, 5, 15, 16, 17, 2, 18, 6]) (by decide +kernel) (by decide +kernel) (by rfl) (by decide +kernel), qPN3, by decide⟩
set_option maxRecDepth 100000 in
theorem qO58 : kMethX qM58 := ⟨kpchkY_ok (gs := [21, 0, 1, 114, 1, 136, 0, 66, 2, 0, 0, 558, 1, 0, 2, 1, 0, 4, 1, 0, 0, 0, 0]) (ps := [11, 12, 0, 4, 13, 8, 7, 5, 3, 6, 14, 15, 1, 4, 16, 9, 10, 8, 17, 18, 2, 4, 19, 20, 21, 4, 22, 14, 15, 1, 4, 16, 8]) (by decide +kernel) (by decide +kernel) (by rfl) (by decide +kernel), qPN4, by decide⟩
set_option maxRecDepth 100000 in
theorem qO59 : kMethX qM59 := ⟨kpchkY_ok (gs := [23, 117, 206, 571, 1, 0]) (ps := [2, 2, 2, 3, 4, 0, 1, 5]) (by decide +kernel) (by decide +kernel) (by rfl) (by decide +kernel), qPN4, by decide⟩
