/-! the tables are as they should be: each method's rows decode, and their words are the tables' (written by a program) -/
def kchk (ms : List KMeth) (zs : KZ) (own mname : String) (cc : ByteArray) (prog : List KEnt) (ps : List Nat) : Bool := prog.all (fun x => kdec cc x && kside ms zs own mname x) && kin (prog.flatMap (fun x => kwords ms zs own x)) ps
theorem kchk_ok {ms : List KMeth} {zs : KZ} {own mname : String} {cc : ByteArray} {prog : List KEnt} {ps : List Nat} (h : kchk ms zs own mname cc prog ps = true) : ∀ x ∈ prog, kEntOK ms zs own mname cc x := by
  intro x hx
  have h1 := Bool.and_eq_true_iff.mp h
  have h2 := Bool.and_eq_true_iff.mp (List.all_eq_true.mp h1.1 x hx)
  exact ⟨h2.1, fun w hw => kin_ok h1.2 w (List.mem_flatMap.mpr ⟨x, hx, hw⟩), h2.2⟩
def kMethOK (r : KMeth) : Prop := (∀ x ∈ r.2.2.2.2.2.2, kEntOK kmeths kStats r.1.cls r.1.name r.2.1 x) ∧ plainName r.1.cls = true
set_option maxRecDepth 100000 in
theorem kO0 : kMethOK kM0 := ⟨kchk_ok (ps := [166, 167, 168, 169, 170, 136, 171, 172, 136, 173, 488, 220, 221, 137, 222, 223, 137, 224, 489, 220, 221, 137, 222, 223, 137, 224, 490, 267, 268, 138, 489, 269, 270, 138, 271, 491, 267, 268, 138, 489, 269, 270, 138, 271, 492, 319, 320, 140, 489, 321, 322, 140, 323, 493, 338, 339, 494, 340, 341, 141, 342, 343, 141, 344, 495, 366, 367, 142, 368, 369, 142, 370, 496, 384, 385, 143, 386, 387, 143, 388, 497, 399, 400, 144, 401, 402, 144, 403, 498, 434, 435, 145, 436, 437, 145, 438, 499, 434, 435, 145, 436, 437, 145, 438, 500, 501, 494, 494, 338, 460, 146, 489, 461, 462, 146, 463]) (by decide +kernel), by decide +kernel⟩
set_option maxRecDepth 100000 in
theorem kO1 : kMethOK kM1 := ⟨kchk_ok (ps := [496, 374]) (by decide +kernel), by decide +kernel⟩
set_option maxRecDepth 100000 in
theorem kO2 : kMethOK kM2 := ⟨kchk_ok (ps := [491, 765, 766, 767, 138, 768, 493, 491, 794, 795, 796, 140, 797, 491, 802, 803, 804, 138, 805]) (by decide +kernel), by decide +kernel⟩
set_option maxRecDepth 100000 in
theorem kO3 : kMethOK kM3 := ⟨kchk_ok (ps := [489, 710, 663, 664, 137, 665]) (by decide +kernel), by decide +kernel⟩
set_option maxRecDepth 100000 in
theorem kO4 : kMethOK kM4 := ⟨kchk_ok (ps := [498, 488, 489, 1150, 1151, 1152, 144, 1153, 488, 193, 501, 488, 178, 501, 492, 491, 689, 690, 691, 138, 692, 498, 492, 1217, 1218, 1219, 144, 1220, 498, 491, 1217, 1218, 1219, 144, 1220, 498, 412]) (by decide +kernel), by decide +kernel⟩
set_option maxRecDepth 100000 in
theorem kO5 : kMethOK kM5 := ⟨kchk_ok (ps := [497, 1118, 1119, 1120, 143, 1121]) (by decide +kernel), by decide +kernel⟩
set_option maxRecDepth 100000 in
theorem kO6 : kMethOK kM6 := ⟨kchk_ok (ps := [489, 760, 725, 726, 137, 727]) (by decide +kernel), by decide +kernel⟩
set_option maxRecDepth 100000 in
theorem kO7 : kMethOK kM7 := ⟨kchk_ok (ps := [489, 760, 725, 726, 137, 727]) (by decide +kernel), by decide +kernel⟩
set_option maxRecDepth 100000 in
theorem kO8 : kMethOK kM8 := ⟨kchk_ok (ps := [489, 236, 489, 242, 489, 245, 488, 178]) (by decide +kernel), by decide +kernel⟩
set_option maxRecDepth 100000 in
theorem kO9 : kMethOK kM9 := ⟨kchk_ok (ps := [496, 491, 974, 975, 976, 142, 977]) (by decide +kernel), by decide +kernel⟩
set_option maxRecDepth 100000 in
theorem kO10 : kMethOK kM10 := ⟨kchk_ok (ps := [496, 376]) (by decide +kernel), by decide +kernel⟩
set_option maxRecDepth 100000 in
theorem kO11 : kMethOK kM11 := ⟨kchk_ok (ps := [491, 296, 864, 800, 155, 801, 761, 763, 13, 135, 764]) (by decide +kernel), by decide +kernel⟩
set_option maxRecDepth 100000 in
theorem kO12 : kMethOK kM12 := ⟨kchk_ok (ps := [489, 236]) (by decide +kernel), by decide +kernel⟩
set_option maxRecDepth 100000 in
theorem kO13 : kMethOK kM13 := ⟨kchk_ok (ps := [489, 760, 725, 726, 137, 727]) (by decide +kernel), by decide +kernel⟩
set_option maxRecDepth 100000 in
theorem kO14 : kMethOK kM14 := ⟨kchk_ok (ps := [488, 178, 488, 178]) (by decide +kernel), by decide +kernel⟩
set_option maxRecDepth 100000 in
theorem kO15 : kMethOK kM15 := ⟨kchk_ok (ps := [501]) (by decide +kernel), by decide +kernel⟩
set_option maxRecDepth 100000 in
theorem kO16 : kMethOK kM16 := ⟨kchk_ok (ps := [488, 178, 488, 535, 536, 537, 136, 538, 488, 535, 536, 537, 136, 538, 488, 535, 536, 537, 136, 538, 488, 535, 536, 537, 136, 538, 488, 535, 536, 537, 136, 538, 488, 178]) (by decide +kernel), by decide +kernel⟩
set_option maxRecDepth 100000 in
theorem kO17 : kMethOK kM17 := ⟨kchk_ok (ps := [496, 488, 491, 947, 948, 949, 142, 950, 488, 178]) (by decide +kernel), by decide +kernel⟩
set_option maxRecDepth 100000 in
theorem kO18 : kMethOK kM18 := ⟨kchk_ok (ps := [489, 760, 725, 726, 137, 727]) (by decide +kernel), by decide +kernel⟩
set_option maxRecDepth 100000 in
theorem kO19 : kMethOK kM19 := ⟨kchk_ok (ps := [489, 710, 663, 664, 137, 665]) (by decide +kernel), by decide +kernel⟩
set_option maxRecDepth 100000 in
theorem kO20 : kMethOK kM20 := ⟨kchk_ok (ps := [494, 494, 489, 491, 499, 1340, 1341, 1342, 146, 1343]) (by decide +kernel), by decide +kernel⟩
set_option maxRecDepth 100000 in
theorem kO21 : kMethOK kM21 := ⟨kchk_ok (ps := [489, 760, 725, 726, 137, 727]) (by decide +kernel), by decide +kernel⟩
set_option maxRecDepth 100000 in
theorem kO22 : kMethOK kM22 := ⟨kchk_ok (ps := [489, 236]) (by decide +kernel), by decide +kernel⟩
set_option maxRecDepth 100000 in
theorem kO23 : kMethOK kM23 := ⟨kchk_ok (ps := [495, 491, 906, 907, 908, 141, 909]) (by decide +kernel), by decide +kernel⟩
set_option maxRecDepth 100000 in
theorem kO24 : kMethOK kM24 := ⟨kchk_ok (ps := [495, 939, 940, 941, 141, 942]) (by decide +kernel), by decide +kernel⟩
set_option maxRecDepth 100000 in
theorem kO25 : kMethOK kM25 := ⟨kchk_ok (ps := [491, 296, 491, 716, 717, 718, 138, 719, 491, 716, 717, 718, 138, 719, 491, 716, 717, 718, 138, 719, 491, 716, 717, 718, 138, 719, 491, 728, 729, 730, 138, 731, 491, 292, 491, 752, 753, 754, 138, 755]) (by decide +kernel), by decide +kernel⟩
set_option maxRecDepth 100000 in
theorem kO26 : kMethOK kM26 := ⟨kchk_ok (ps := [489, 760, 725, 726, 137, 727]) (by decide +kernel), by decide +kernel⟩
set_option maxRecDepth 100000 in
theorem kO27 : kMethOK kM27 := ⟨kchk_ok (ps := [490, 488, 492, 547, 548, 549, 137, 550, 488, 193, 501, 488, 178, 501, 489, 490, 682, 683, 684, 137, 685, 491, 492, 689, 690, 691, 138, 692, 499, 694, 695, 696, 145, 697, 493, 698, 699, 700, 140, 701]) (by decide +kernel), by decide +kernel⟩
set_option maxRecDepth 100000 in
theorem kO28 : kMethOK kM28 := ⟨kchk_ok (ps := [491, 877, 775, 776, 138, 777]) (by decide +kernel), by decide +kernel⟩
set_option maxRecDepth 100000 in
theorem kO29 : kMethOK kM29 := ⟨kchk_ok (ps := [489, 710, 663, 664, 137, 665]) (by decide +kernel), by decide +kernel⟩
set_option maxRecDepth 100000 in
theorem kO30 : kMethOK kM30 := ⟨kchk_ok (ps := [489, 710, 663, 664, 137, 665]) (by decide +kernel), by decide +kernel⟩
set_option maxRecDepth 100000 in
theorem kO31 : kMethOK kM31 := ⟨kchk_ok (ps := [494, 494, 478]) (by decide +kernel), by decide +kernel⟩
set_option maxRecDepth 100000 in
theorem kO32 : kMethOK kM32 := ⟨kchk_ok (ps := [489, 710, 663, 664, 137, 665]) (by decide +kernel), by decide +kernel⟩
set_option maxRecDepth 100000 in
theorem kO33 : kMethOK kM33 := ⟨kchk_ok (ps := [499, 1310, 1311, 1312, 145, 1313]) (by decide +kernel), by decide +kernel⟩
set_option maxRecDepth 100000 in
theorem kO34 : kMethOK kM34 := ⟨kchk_ok (ps := [500, 488, 489, 1236, 1237, 1238, 145, 1239, 488, 193, 501, 488, 178, 501, 488, 195]) (by decide +kernel), by decide +kernel⟩
set_option maxRecDepth 100000 in
theorem kO35 : kMethOK kM35 := ⟨kchk_ok (ps := [489, 242]) (by decide +kernel), by decide +kernel⟩
set_option maxRecDepth 100000 in
theorem kO36 : kMethOK kM36 := ⟨kchk_ok (ps := [489, 710, 663, 664, 137, 665]) (by decide +kernel), by decide +kernel⟩
set_option maxRecDepth 100000 in
theorem kO37 : kMethOK kM37 := ⟨kchk_ok (ps := [489, 710, 663, 664, 137, 665]) (by decide +kernel), by decide +kernel⟩
set_option maxRecDepth 100000 in
theorem kO38 : kMethOK kM38 := ⟨kchk_ok (ps := [489, 760, 725, 726, 137, 727]) (by decide +kernel), by decide +kernel⟩
set_option maxRecDepth 100000 in
theorem kO39 : kMethOK kM39 := ⟨kchk_ok (ps := [498, 1228, 1229, 1230, 144, 1231]) (by decide +kernel), by decide +kernel⟩
set_option maxRecDepth 100000 in
theorem kO40 : kMethOK kM40 := ⟨kchk_ok (ps := [493, 491, 869, 870, 871, 140, 872]) (by decide +kernel), by decide +kernel⟩
set_option maxRecDepth 100000 in
theorem kO41 : kMethOK kM41 := ⟨kchk_ok (ps := [489, 760, 725, 726, 137, 727]) (by decide +kernel), by decide +kernel⟩
set_option maxRecDepth 100000 in
theorem kO42 : kMethOK kM42 := ⟨kchk_ok (ps := [371, 167, 168, 266, 372, 373, 375]) (by decide +kernel), by decide +kernel⟩
set_option maxRecDepth 100000 in
theorem kO43 : kMethOK kM43 := ⟨kchk_ok (ps := []) (by decide +kernel), by decide +kernel⟩
set_option maxRecDepth 100000 in
theorem kO44 : kMethOK kM44 := ⟨kchk_ok (ps := [978, 980, 26, 142, 981, 281, 234, 987, 988, 156, 989, 993, 995, 27, 142, 996, 375]) (by decide +kernel), by decide +kernel⟩
set_option maxRecDepth 100000 in
theorem kO45 : kMethOK kM45 := ⟨kchk_ok (ps := [177]) (by decide +kernel), by decide +kernel⟩
set_option maxRecDepth 100000 in
theorem kO46 : kMethOK kM46 := ⟨kchk_ok (ps := [281, 238]) (by decide +kernel), by decide +kernel⟩
set_option maxRecDepth 100000 in
theorem kO47 : kMethOK kM47 := ⟨kchk_ok (ps := [404, 167, 168, 266, 405, 266, 406, 266, 407, 408, 409, 410, 411, 413, 414]) (by decide +kernel), by decide +kernel⟩
set_option maxRecDepth 100000 in
theorem kO48 : kMethOK kM48 := ⟨kchk_ok (ps := [409, 410, 411, 408, 295, 413, 1223, 717, 718, 138, 719, 414]) (by decide +kernel), by decide +kernel⟩
set_option maxRecDepth 100000 in
theorem kO49 : kMethOK kM49 := ⟨kchk_ok (ps := [409]) (by decide +kernel), by decide +kernel⟩
set_option maxRecDepth 100000 in
theorem kO50 : kMethOK kM50 := ⟨kchk_ok (ps := [408, 1154, 560, 561, 136, 562, 182]) (by decide +kernel), by decide +kernel⟩
set_option maxRecDepth 100000 in
theorem kO51 : kMethOK kM51 := ⟨kchk_ok (ps := [464, 167, 168, 465, 221, 137, 466, 223, 137, 224, 471, 467, 435, 145, 468, 437, 145, 438, 475, 477, 469, 268, 138, 470, 270, 138, 271, 473]) (by decide +kernel), by decide +kernel⟩
set_option maxRecDepth 100000 in
theorem kO52 : kMethOK kM52 := ⟨kchk_ok (ps := [471, 1344, 683, 684, 137, 685, 473, 1345, 690, 691, 138, 692, 475, 1346, 1347, 1348, 145, 1349, 477]) (by decide +kernel), by decide +kernel⟩
set_option maxRecDepth 100000 in
theorem kO53 : kMethOK kM53 := ⟨kchk_ok (ps := [345, 167, 168, 266, 347, 266, 348, 266, 349, 350, 351, 352, 349, 346, 278, 139, 279]) (by decide +kernel), by decide +kernel⟩
set_option maxRecDepth 100000 in
theorem kO54 : kMethOK kM54 := ⟨kchk_ok (ps := [910, 912, 21, 141, 913, 349, 346, 278, 139, 279, 916, 918, 22, 141, 919, 350]) (by decide +kernel), by decide +kernel⟩
set_option maxRecDepth 100000 in
theorem kO55 : kMethOK kM55 := ⟨kchk_ok (ps := [349, 349]) (by decide +kernel), by decide +kernel⟩
set_option maxRecDepth 100000 in
theorem kO56 : kMethOK kM56 := ⟨kchk_ok (ps := [348, 346, 278, 139, 279, 350]) (by decide +kernel), by decide +kernel⟩
set_option maxRecDepth 100000 in
theorem kO57 : kMethOK kM57 := ⟨kchk_ok (ps := [283, 233, 350, 283, 239, 351, 347, 346, 278, 139, 279, 350]) (by decide +kernel), by decide +kernel⟩
set_option maxRecDepth 100000 in
theorem kO58 : kMethOK kM58 := ⟨kchk_ok (ps := [225, 167, 168, 265, 226, 265, 227, 266, 228, 266, 229, 266, 230, 231, 232, 237, 243]) (by decide +kernel), by decide +kernel⟩
set_option maxRecDepth 100000 in
theorem kO59 : kMethOK kM59 := ⟨kchk_ok (ps := [226, 226, 686, 688, 687, 150, 227, 227, 686, 688, 687, 150, 228, 228, 686, 688, 687, 150, 229, 229, 686, 688, 687, 150, 230, 230, 686, 688, 687, 150, 231, 231, 232, 232, 237, 237, 243, 243]) (by decide +kernel), by decide +kernel⟩
set_option maxRecDepth 100000 in
theorem kO60 : kMethOK kM60 := ⟨kchk_ok (ps := [230, 231, 232, 237, 243]) (by decide +kernel), by decide +kernel⟩
set_option maxRecDepth 100000 in
theorem kO61 : kMethOK kM61 := ⟨kchk_ok (ps := [237]) (by decide +kernel), by decide +kernel⟩
set_option maxRecDepth 100000 in
theorem kO62 : kMethOK kM62 := ⟨kchk_ok (ps := [232]) (by decide +kernel), by decide +kernel⟩
set_option maxRecDepth 100000 in
theorem kO63 : kMethOK kM63 := ⟨kchk_ok (ps := [551, 553, 1, 137, 554, 555, 556, 557, 138, 558, 559, 560, 561, 136, 562, 184]) (by decide +kernel), by decide +kernel⟩
set_option maxRecDepth 100000 in
theorem kO64 : kMethOK kM64 := ⟨kchk_ok (ps := [439, 167, 168, 266, 440, 266, 441, 266, 442, 266, 443, 444, 445]) (by decide +kernel), by decide +kernel⟩
set_option maxRecDepth 100000 in
theorem kO65 : kMethOK kM65 := ⟨kchk_ok (ps := [1254, 1256, 1258, 1259, 145, 1260, 1269, 1271, 1273, 1275, 1277, 1279]) (by decide +kernel), by decide +kernel⟩
set_option maxRecDepth 100000 in
theorem kO66 : kMethOK kM66 := ⟨kchk_ok (ps := [440, 440, 1350, 688, 687, 150, 441, 441, 1350, 688, 687, 150, 442, 442, 1350, 688, 687, 150, 444, 444, 445, 445]) (by decide +kernel), by decide +kernel⟩
set_option maxRecDepth 100000 in
theorem kO67 : kMethOK kM67 := ⟨kchk_ok (ps := [444, 445]) (by decide +kernel), by decide +kernel⟩
set_option maxRecDepth 100000 in
theorem kO68 : kMethOK kM68 := ⟨kchk_ok (ps := [1261, 1263, 1265, 1267]) (by decide +kernel), by decide +kernel⟩
set_option maxRecDepth 100000 in
theorem kO69 : kMethOK kM69 := ⟨kchk_ok (ps := [445]) (by decide +kernel), by decide +kernel⟩
set_option maxRecDepth 100000 in
theorem kO70 : kMethOK kM70 := ⟨kchk_ok (ps := [1246, 1248, 44, 145, 1249]) (by decide +kernel), by decide +kernel⟩
set_option maxRecDepth 100000 in
theorem kO71 : kMethOK kM71 := ⟨kchk_ok (ps := [1250, 630, 631, 136, 632, 183, 1251, 1252, 145, 1253, 1281, 603, 604, 136, 605]) (by decide +kernel), by decide +kernel⟩
set_option maxRecDepth 100000 in
theorem kO72 : kMethOK kM72 := ⟨kchk_ok (ps := [1240, 695, 696, 145, 697, 1241, 560, 561, 136, 562, 1242, 1244, 43, 145, 1245]) (by decide +kernel), by decide +kernel⟩
set_option maxRecDepth 100000 in
theorem kO73 : kMethOK kM73 := ⟨kchk_ok (ps := [389, 167, 168, 398, 390, 391]) (by decide +kernel), by decide +kernel⟩
set_option maxRecDepth 100000 in
theorem kO74 : kMethOK kM74 := ⟨kchk_ok (ps := [391]) (by decide +kernel), by decide +kernel⟩
set_option maxRecDepth 100000 in
theorem kO75 : kMethOK kM75 := ⟨kchk_ok (ps := [272, 167, 168, 266, 285, 266, 286, 266, 287, 266, 288, 266, 289, 266, 290, 291, 294, 297, 280, 273, 275, 0, 138, 276]) (by decide +kernel), by decide +kernel⟩
set_option maxRecDepth 100000 in
theorem kO76 : kMethOK kM76 := ⟨kchk_ok (ps := [285, 285]) (by decide +kernel), by decide +kernel⟩
set_option maxRecDepth 100000 in
theorem kO77 : kMethOK kM77 := ⟨kchk_ok (ps := [273, 275, 0, 138, 276]) (by decide +kernel), by decide +kernel⟩
set_option maxRecDepth 100000 in
theorem kO78 : kMethOK kM78 := ⟨kchk_ok (ps := [280, 241]) (by decide +kernel), by decide +kernel⟩
set_option maxRecDepth 100000 in
theorem kO79 : kMethOK kM79 := ⟨kchk_ok (ps := [285, 285, 693, 688, 687, 150, 286, 286, 693, 688, 687, 150, 287, 287, 693, 688, 687, 150, 288, 288, 693, 688, 687, 150, 289, 289, 693, 688, 687, 150, 290, 290, 693, 688, 687, 150, 291, 291, 294, 294]) (by decide +kernel), by decide +kernel⟩
set_option maxRecDepth 100000 in
theorem kO80 : kMethOK kM80 := ⟨kchk_ok (ps := [280, 241]) (by decide +kernel), by decide +kernel⟩
set_option maxRecDepth 100000 in
theorem kO81 : kMethOK kM81 := ⟨kchk_ok (ps := [280, 241, 286, 277, 278, 139, 279, 294, 294]) (by decide +kernel), by decide +kernel⟩
set_option maxRecDepth 100000 in
theorem kO82 : kMethOK kM82 := ⟨kchk_ok (ps := [280, 724, 725, 726, 137, 727]) (by decide +kernel), by decide +kernel⟩
set_option maxRecDepth 100000 in
theorem kO83 : kMethOK kM83 := ⟨kchk_ok (ps := [720, 721, 722, 138, 723]) (by decide +kernel), by decide +kernel⟩
set_option maxRecDepth 100000 in
theorem kO84 : kMethOK kM84 := ⟨kchk_ok (ps := [828, 830, 18, 138, 831]) (by decide +kernel), by decide +kernel⟩
set_option maxRecDepth 100000 in
theorem kO85 : kMethOK kM85 := ⟨kchk_ok (ps := [285, 277, 278, 139, 279, 286, 277, 278, 139, 279, 287, 277, 278, 139, 279, 288, 277, 278, 139, 279, 289, 277, 278, 139, 279, 290, 277, 278, 139, 279, 291, 294]) (by decide +kernel), by decide +kernel⟩
set_option maxRecDepth 100000 in
theorem kO86 : kMethOK kM86 := ⟨kchk_ok (ps := [294]) (by decide +kernel), by decide +kernel⟩
set_option maxRecDepth 100000 in
theorem kO87 : kMethOK kM87 := ⟨kchk_ok (ps := [174, 167, 168, 219, 175, 176, 179, 180, 181, 185, 186, 188, 190, 192, 194]) (by decide +kernel), by decide +kernel⟩
set_option maxRecDepth 100000 in
theorem kO88 : kMethOK kM88 := ⟨kchk_ok (ps := [176, 176, 175, 175, 176, 176, 176]) (by decide +kernel), by decide +kernel⟩
set_option maxRecDepth 100000 in
theorem kO89 : kMethOK kM89 := ⟨kchk_ok (ps := [180, 567, 568, 569, 136, 570, 180, 176, 180, 185, 190, 176, 179, 180, 176, 181]) (by decide +kernel), by decide +kernel⟩
set_option maxRecDepth 100000 in
theorem kO90 : kMethOK kM90 := ⟨kchk_ok (ps := [179, 180, 192, 194, 563, 564, 565, 136, 566]) (by decide +kernel), by decide +kernel⟩
set_option maxRecDepth 100000 in
theorem kO91 : kMethOK kM91 := ⟨kchk_ok (ps := [181]) (by decide +kernel), by decide +kernel⟩
set_option maxRecDepth 100000 in
theorem kO92 : kMethOK kM92 := ⟨kchk_ok (ps := [192, 185, 194]) (by decide +kernel), by decide +kernel⟩
set_option maxRecDepth 100000 in
theorem kO93 : kMethOK kM93 := ⟨kchk_ok (ps := [176]) (by decide +kernel), by decide +kernel⟩
set_option maxRecDepth 100000 in
theorem kO94 : kMethOK kM94 := ⟨kchk_ok (ps := [324, 167, 168, 325, 326, 328, 329, 330, 328, 328, 325, 268, 138, 327, 270, 138, 271]) (by decide +kernel), by decide +kernel⟩
set_option maxRecDepth 100000 in
theorem kO95 : kMethOK kM95 := ⟨kchk_ok (ps := [330]) (by decide +kernel), by decide +kernel⟩
set_option maxRecDepth 100000 in
theorem kO96 : kMethOK kM96 := ⟨kchk_ok (ps := [329, 329, 328, 328, 329, 798, 690, 691, 138, 692, 329, 328, 329, 329, 330, 328, 799, 800, 155, 801, 330]) (by decide +kernel), by decide +kernel⟩
set_option maxRecDepth 100000 in
theorem kO97 : kMethOK kM97 := ⟨kchk_ok (ps := [329, 328, 330]) (by decide +kernel), by decide +kernel⟩
set_option maxRecDepth 100000 in
theorem kO98 : kMethOK kM98 := ⟨kchk_ok (ps := [1476, 167, 168, 266, 1486, 266, 1499, 266, 1500, 266, 1501, 266, 1502, 266, 1503, 265, 1504, 265, 1505, 265, 1506, 1621, 1507, 266, 1510, 266, 1511, 1621, 1512, 1621, 1513, 1516, 1517, 266, 1518, 266, 1521, 266, 1522, 266, 1525, 1477, 1479, 53, 147, 1480]) (by decide +kernel), by decide +kernel⟩
set_option maxRecDepth 100000 in
theorem kO99 : kMethOK kM99 := ⟨kchk_ok (ps := []) (by decide +kernel), by decide +kernel⟩
set_option maxRecDepth 100000 in
theorem kO100 : kMethOK kM100 := ⟨kchk_ok (ps := [1485, 1516]) (by decide +kernel), by decide +kernel⟩
set_option maxRecDepth 100000 in
theorem kO101 : kMethOK kM101 := ⟨kchk_ok (ps := [1485, 1769, 1771, 82, 147, 1772, 1801, 1803, 87, 147, 1804]) (by decide +kernel), by decide +kernel⟩
set_option maxRecDepth 100000 in
theorem kO102 : kMethOK kM102 := ⟨kchk_ok (ps := [1492, 1495, 1491, 1496]) (by decide +kernel), by decide +kernel⟩
set_option maxRecDepth 100000 in
theorem kO103 : kMethOK kM103 := ⟨kchk_ok (ps := [1485, 1630, 1632, 56, 147, 1633, 1488, 1489, 1495, 1490, 1634, 1636, 57, 147, 1637]) (by decide +kernel), by decide +kernel⟩
set_option maxRecDepth 100000 in
theorem kO104 : kMethOK kM104 := ⟨kchk_ok (ps := []) (by decide +kernel), by decide +kernel⟩
set_option maxRecDepth 100000 in
theorem kO105 : kMethOK kM105 := ⟨kchk_ok (ps := [1485, 1703, 1704, 147, 1705, 1626, 1628, 55, 147, 1629, 1523, 1492, 2011, 2013, 113, 147, 2014, 1523, 1522, 1522, 1522, 1499, 1522, 1789, 1791, 85, 147, 1792, 1524, 2051, 2053, 122, 147, 2054]) (by decide +kernel), by decide +kernel⟩
set_option maxRecDepth 100000 in
theorem kO106 : kMethOK kM106 := ⟨kchk_ok (ps := [1485, 1519, 1703, 1704, 147, 1705]) (by decide +kernel), by decide +kernel⟩
set_option maxRecDepth 100000 in
theorem kO107 : kMethOK kM107 := ⟨kchk_ok (ps := [1485, 1741, 1743, 76, 147, 1744]) (by decide +kernel), by decide +kernel⟩
set_option maxRecDepth 100000 in
theorem kO108 : kMethOK kM108 := ⟨kchk_ok (ps := [1485, 1741, 1743, 76, 147, 1744, 1801, 1803, 87, 147, 1804]) (by decide +kernel), by decide +kernel⟩
set_option maxRecDepth 100000 in
theorem kO109 : kMethOK kM109 := ⟨kchk_ok (ps := [1486, 1487, 1487, 1487]) (by decide +kernel), by decide +kernel⟩
set_option maxRecDepth 100000 in
theorem kO110 : kMethOK kM110 := ⟨kchk_ok (ps := [1485, 1499, 1499, 1499, 1487]) (by decide +kernel), by decide +kernel⟩
set_option maxRecDepth 100000 in
theorem kO111 : kMethOK kM111 := ⟨kchk_ok (ps := [1485, 1499, 1499, 1942, 1944, 104, 147, 1945, 1517, 1928, 1929, 147, 1930]) (by decide +kernel), by decide +kernel⟩
set_option maxRecDepth 100000 in
theorem kO112 : kMethOK kM112 := ⟨kchk_ok (ps := [1485, 1517]) (by decide +kernel), by decide +kernel⟩
set_option maxRecDepth 100000 in
theorem kO113 : kMethOK kM113 := ⟨kchk_ok (ps := [1485, 1703, 1704, 147, 1705, 1499, 1821, 1823, 92, 147, 1824, 1865, 1867, 95, 147, 1868]) (by decide +kernel), by decide +kernel⟩
set_option maxRecDepth 100000 in
theorem kO114 : kMethOK kM114 := ⟨kchk_ok (ps := [1485, 1703, 1704, 147, 1705, 1499]) (by decide +kernel), by decide +kernel⟩
set_option maxRecDepth 100000 in
theorem kO115 : kMethOK kM115 := ⟨kchk_ok (ps := [1485, 1741, 1743, 76, 147, 1744]) (by decide +kernel), by decide +kernel⟩
set_option maxRecDepth 100000 in
theorem kO116 : kMethOK kM116 := ⟨kchk_ok (ps := [1485, 1487, 1487]) (by decide +kernel), by decide +kernel⟩
set_option maxRecDepth 100000 in
theorem kO117 : kMethOK kM117 := ⟨kchk_ok (ps := [1485, 1495]) (by decide +kernel), by decide +kernel⟩
set_option maxRecDepth 100000 in
theorem kO118 : kMethOK kM118 := ⟨kchk_ok (ps := [1485, 1487, 1463, 1465, 52, 147, 1467, 1463, 1465, 52, 147, 1467, 1463, 1465, 52, 147, 1467, 1463, 1465, 52, 147, 1467, 1463, 1465, 52, 147, 1467, 1487]) (by decide +kernel), by decide +kernel⟩
set_option maxRecDepth 100000 in
theorem kO119 : kMethOK kM119 := ⟨kchk_ok (ps := [1485, 1630, 1632, 56, 147, 1633, 1703, 1704, 147, 1705]) (by decide +kernel), by decide +kernel⟩
set_option maxRecDepth 100000 in
theorem kO120 : kMethOK kM120 := ⟨kchk_ok (ps := [1485, 1741, 1743, 76, 147, 1744, 1745, 1747, 77, 147, 1748]) (by decide +kernel), by decide +kernel⟩
set_option maxRecDepth 100000 in
theorem kO121 : kMethOK kM121 := ⟨kchk_ok (ps := [1490, 1488, 1490, 1491, 1488, 1489, 1490, 1488, 1492]) (by decide +kernel), by decide +kernel⟩
set_option maxRecDepth 100000 in
theorem kO122 : kMethOK kM122 := ⟨kchk_ok (ps := [1485, 1769, 1771, 82, 147, 1772]) (by decide +kernel), by decide +kernel⟩
set_option maxRecDepth 100000 in
theorem kO123 : kMethOK kM123 := ⟨kchk_ok (ps := [1485, 1703, 1704, 147, 1705, 1501, 1499, 1506, 1504, 1507]) (by decide +kernel), by decide +kernel⟩
set_option maxRecDepth 100000 in
theorem kO124 : kMethOK kM124 := ⟨kchk_ok (ps := [1499, 1703, 1704, 147, 1705]) (by decide +kernel), by decide +kernel⟩
set_option maxRecDepth 100000 in
theorem kO125 : kMethOK kM125 := ⟨kchk_ok (ps := []) (by decide +kernel), by decide +kernel⟩
set_option maxRecDepth 100000 in
theorem kO126 : kMethOK kM126 := ⟨kchk_ok (ps := [1499, 1703, 1704, 147, 1705]) (by decide +kernel), by decide +kernel⟩
set_option maxRecDepth 100000 in
theorem kO127 : kMethOK kM127 := ⟨kchk_ok (ps := [1492]) (by decide +kernel), by decide +kernel⟩
set_option maxRecDepth 100000 in
theorem kO128 : kMethOK kM128 := ⟨kchk_ok (ps := [1492]) (by decide +kernel), by decide +kernel⟩
set_option maxRecDepth 100000 in
theorem kO129 : kMethOK kM129 := ⟨kchk_ok (ps := [1503, 1499]) (by decide +kernel), by decide +kernel⟩
set_option maxRecDepth 100000 in
theorem kO130 : kMethOK kM130 := ⟨kchk_ok (ps := []) (by decide +kernel), by decide +kernel⟩
set_option maxRecDepth 100000 in
theorem kO131 : kMethOK kM131 := ⟨kchk_ok (ps := [1485, 1741, 1743, 76, 147, 1744, 1801, 1803, 87, 147, 1804]) (by decide +kernel), by decide +kernel⟩
set_option maxRecDepth 100000 in
theorem kO132 : kMethOK kM132 := ⟨kchk_ok (ps := [1485, 1499]) (by decide +kernel), by decide +kernel⟩
set_option maxRecDepth 100000 in
theorem kO133 : kMethOK kM133 := ⟨kchk_ok (ps := [1485, 1513, 1900, 1902, 99, 147, 1903, 1499, 1499, 1514, 1515]) (by decide +kernel), by decide +kernel⟩
set_option maxRecDepth 100000 in
theorem kO134 : kMethOK kM134 := ⟨kchk_ok (ps := [1485, 1515]) (by decide +kernel), by decide +kernel⟩
set_option maxRecDepth 100000 in
theorem kO135 : kMethOK kM135 := ⟨kchk_ok (ps := [1510, 1499]) (by decide +kernel), by decide +kernel⟩
set_option maxRecDepth 100000 in
theorem kO136 : kMethOK kM136 := ⟨kchk_ok (ps := [1485, 1499, 1789, 1791, 85, 147, 1792, 1499, 1499, 1777, 1779, 84, 147, 1780]) (by decide +kernel), by decide +kernel⟩
set_option maxRecDepth 100000 in
theorem kO137 : kMethOK kM137 := ⟨kchk_ok (ps := [1485, 1741, 1743, 76, 147, 1744]) (by decide +kernel), by decide +kernel⟩
set_option maxRecDepth 100000 in
theorem kO138 : kMethOK kM138 := ⟨kchk_ok (ps := [1626, 1628, 55, 147, 1629, 1500, 1509, 1492, 1499, 1500, 1504, 1505, 1477, 1479, 53, 147, 1480, 1508]) (by decide +kernel), by decide +kernel⟩
set_option maxRecDepth 100000 in
theorem kO139 : kMethOK kM139 := ⟨kchk_ok (ps := [1499, 1499, 1499]) (by decide +kernel), by decide +kernel⟩
set_option maxRecDepth 100000 in
theorem kO140 : kMethOK kM140 := ⟨kchk_ok (ps := [1499, 1499, 1499, 1499]) (by decide +kernel), by decide +kernel⟩
set_option maxRecDepth 100000 in
theorem kO141 : kMethOK kM141 := ⟨kchk_ok (ps := [1485, 1769, 1771, 82, 147, 1772]) (by decide +kernel), by decide +kernel⟩
set_option maxRecDepth 100000 in
theorem kO142 : kMethOK kM142 := ⟨kchk_ok (ps := [1499, 1869, 1870, 147, 1871, 1872, 1874, 96, 147, 1875]) (by decide +kernel), by decide +kernel⟩
set_option maxRecDepth 100000 in
theorem kO143 : kMethOK kM143 := ⟨kchk_ok (ps := [1485, 1769, 1771, 82, 147, 1772, 1745, 1747, 77, 147, 1748]) (by decide +kernel), by decide +kernel⟩
set_option maxRecDepth 100000 in
theorem kO144 : kMethOK kM144 := ⟨kchk_ok (ps := [2071, 2073, 125, 147, 2074]) (by decide +kernel), by decide +kernel⟩
set_option maxRecDepth 100000 in
theorem kO145 : kMethOK kM145 := ⟨kchk_ok (ps := [2067, 2069, 124, 147, 2070]) (by decide +kernel), by decide +kernel⟩
set_option maxRecDepth 100000 in
theorem kO146 : kMethOK kM146 := ⟨kchk_ok (ps := [1729, 1731, 75, 147, 1732, 1654, 1656, 60, 147, 1657, 1672, 1674, 63, 147, 1675]) (by decide +kernel), by decide +kernel⟩
set_option maxRecDepth 100000 in
theorem kO147 : kMethOK kM147 := ⟨kchk_ok (ps := [1485]) (by decide +kernel), by decide +kernel⟩
set_option maxRecDepth 100000 in
theorem kO148 : kMethOK kM148 := ⟨kchk_ok (ps := [1485, 1769, 1771, 82, 147, 1772, 1801, 1803, 87, 147, 1804]) (by decide +kernel), by decide +kernel⟩
set_option maxRecDepth 100000 in
theorem kO149 : kMethOK kM149 := ⟨kchk_ok (ps := [1485, 1703, 1704, 147, 1705, 1507]) (by decide +kernel), by decide +kernel⟩
set_option maxRecDepth 100000 in
theorem kO150 : kMethOK kM150 := ⟨kchk_ok (ps := [1485, 1769, 1771, 82, 147, 1772, 1801, 1803, 87, 147, 1804]) (by decide +kernel), by decide +kernel⟩
set_option maxRecDepth 100000 in
theorem kO151 : kMethOK kM151 := ⟨kchk_ok (ps := [1485, 1499]) (by decide +kernel), by decide +kernel⟩
set_option maxRecDepth 100000 in
theorem kO152 : kMethOK kM152 := ⟨kchk_ok (ps := [1626, 1628, 55, 147, 1629, 1526, 1527, 1528, 2063, 2065, 123, 147, 2066, 1496]) (by decide +kernel), by decide +kernel⟩
set_option maxRecDepth 100000 in
theorem kO153 : kMethOK kM153 := ⟨kchk_ok (ps := [1485, 1499, 1942, 1944, 104, 147, 1945, 1499, 1942, 1944, 104, 147, 1945]) (by decide +kernel), by decide +kernel⟩
set_option maxRecDepth 100000 in
theorem kO154 : kMethOK kM154 := ⟨kchk_ok (ps := [1499]) (by decide +kernel), by decide +kernel⟩
set_option maxRecDepth 100000 in
theorem kO155 : kMethOK kM155 := ⟨kchk_ok (ps := [1485, 1769, 1771, 82, 147, 1772, 1801, 1803, 87, 147, 1804]) (by decide +kernel), by decide +kernel⟩
set_option maxRecDepth 100000 in
theorem kO156 : kMethOK kM156 := ⟨kchk_ok (ps := [1508, 1502, 1508, 1499, 1508, 1508]) (by decide +kernel), by decide +kernel⟩
set_option maxRecDepth 100000 in
theorem kO157 : kMethOK kM157 := ⟨kchk_ok (ps := [1485, 1769, 1771, 82, 147, 1772, 1801, 1803, 87, 147, 1804]) (by decide +kernel), by decide +kernel⟩
set_option maxRecDepth 100000 in
theorem kO158 : kMethOK kM158 := ⟨kchk_ok (ps := [1485, 1741, 1743, 76, 147, 1744]) (by decide +kernel), by decide +kernel⟩
set_option maxRecDepth 100000 in
theorem kO159 : kMethOK kM159 := ⟨kchk_ok (ps := [1499, 1499, 1499, 1499, 1499, 1481, 1483, 54, 147, 1484, 1499]) (by decide +kernel), by decide +kernel⟩
set_option maxRecDepth 100000 in
theorem kO160 : kMethOK kM160 := ⟨kchk_ok (ps := [1499, 1499, 1503, 1503]) (by decide +kernel), by decide +kernel⟩
set_option maxRecDepth 100000 in
theorem kO161 : kMethOK kM161 := ⟨kchk_ok (ps := [1499]) (by decide +kernel), by decide +kernel⟩
set_option maxRecDepth 100000 in
theorem kO162 : kMethOK kM162 := ⟨kchk_ok (ps := [1487, 1487]) (by decide +kernel), by decide +kernel⟩
set_option maxRecDepth 100000 in
theorem kO163 : kMethOK kM163 := ⟨kchk_ok (ps := [1499]) (by decide +kernel), by decide +kernel⟩
set_option maxRecDepth 100000 in
theorem kO164 : kMethOK kM164 := ⟨kchk_ok (ps := [1485]) (by decide +kernel), by decide +kernel⟩
set_option maxRecDepth 100000 in
theorem kO165 : kMethOK kM165 := ⟨kchk_ok (ps := [1485, 1524]) (by decide +kernel), by decide +kernel⟩
set_option maxRecDepth 100000 in
theorem kO166 : kMethOK kM166 := ⟨kchk_ok (ps := [1485, 1508]) (by decide +kernel), by decide +kernel⟩
set_option maxRecDepth 100000 in
theorem kO167 : kMethOK kM167 := ⟨kchk_ok (ps := [1485, 1741, 1743, 76, 147, 1744]) (by decide +kernel), by decide +kernel⟩
set_option maxRecDepth 100000 in
theorem kO168 : kMethOK kM168 := ⟨kchk_ok (ps := [990, 991, 991, 992]) (by decide +kernel), by decide +kernel⟩
set_option maxRecDepth 100000 in
theorem kO169 : kMethOK kM169 := ⟨kchk_ok (ps := []) (by decide +kernel), by decide +kernel⟩
theorem kOc0 : ∀ r ∈ ([kM0, kM1, kM2, kM3, kM4, kM5, kM6, kM7, kM8, kM9, kM10, kM11, kM12, kM13, kM14, kM15, kM16, kM17, kM18, kM19, kM20, kM21, kM22, kM23] : List KMeth), kMethOK r := List.forall_mem_cons.mpr ⟨kO0, List.forall_mem_cons.mpr ⟨kO1, List.forall_mem_cons.mpr ⟨kO2, List.forall_mem_cons.mpr ⟨kO3, List.forall_mem_cons.mpr ⟨kO4, List.forall_mem_cons.mpr ⟨kO5, List.forall_mem_cons.mpr ⟨kO6, List.forall_mem_cons.mpr ⟨kO7, List.forall_mem_cons.mpr ⟨kO8, List.forall_mem_cons.mpr ⟨kO9, List.forall_mem_cons.mpr ⟨kO10, List.forall_mem_cons.mpr ⟨kO11, List.forall_mem_cons.mpr ⟨kO12, List.forall_mem_cons.mpr ⟨kO13, List.forall_mem_cons.mpr ⟨kO14, List.forall_mem_cons.mpr ⟨kO15, List.forall_mem_cons.mpr ⟨kO16, List.forall_mem_cons.mpr ⟨kO17, List.forall_mem_cons.mpr ⟨kO18, List.forall_mem_cons.mpr ⟨kO19, List.forall_mem_cons.mpr ⟨kO20, List.forall_mem_cons.mpr ⟨kO21, List.forall_mem_cons.mpr ⟨kO22, List.forall_mem_cons.mpr ⟨kO23, fun _ h => absurd h List.not_mem_nil⟩⟩⟩⟩⟩⟩⟩⟩⟩⟩⟩⟩⟩⟩⟩⟩⟩⟩⟩⟩⟩⟩⟩⟩
theorem kOc1 : ∀ r ∈ ([kM24, kM25, kM26, kM27, kM28, kM29, kM30, kM31, kM32, kM33, kM34, kM35, kM36, kM37, kM38, kM39, kM40, kM41, kM42, kM43, kM44, kM45, kM46, kM47] : List KMeth), kMethOK r := List.forall_mem_cons.mpr ⟨kO24, List.forall_mem_cons.mpr ⟨kO25, List.forall_mem_cons.mpr ⟨kO26, List.forall_mem_cons.mpr ⟨kO27, List.forall_mem_cons.mpr ⟨kO28, List.forall_mem_cons.mpr ⟨kO29, List.forall_mem_cons.mpr ⟨kO30, List.forall_mem_cons.mpr ⟨kO31, List.forall_mem_cons.mpr ⟨kO32, List.forall_mem_cons.mpr ⟨kO33, List.forall_mem_cons.mpr ⟨kO34, List.forall_mem_cons.mpr ⟨kO35, List.forall_mem_cons.mpr ⟨kO36, List.forall_mem_cons.mpr ⟨kO37, List.forall_mem_cons.mpr ⟨kO38, List.forall_mem_cons.mpr ⟨kO39, List.forall_mem_cons.mpr ⟨kO40, List.forall_mem_cons.mpr ⟨kO41, List.forall_mem_cons.mpr ⟨kO42, List.forall_mem_cons.mpr ⟨kO43, List.forall_mem_cons.mpr ⟨kO44, List.forall_mem_cons.mpr ⟨kO45, List.forall_mem_cons.mpr ⟨kO46, List.forall_mem_cons.mpr ⟨kO47, fun _ h => absurd h List.not_mem_nil⟩⟩⟩⟩⟩⟩⟩⟩⟩⟩⟩⟩⟩⟩⟩⟩⟩⟩⟩⟩⟩⟩⟩⟩
theorem kOc2 : ∀ r ∈ ([kM48, kM49, kM50, kM51, kM52, kM53, kM54, kM55, kM56, kM57, kM58, kM59, kM60, kM61, kM62, kM63, kM64, kM65, kM66, kM67, kM68, kM69, kM70, kM71] : List KMeth), kMethOK r := List.forall_mem_cons.mpr ⟨kO48, List.forall_mem_cons.mpr ⟨kO49, List.forall_mem_cons.mpr ⟨kO50, List.forall_mem_cons.mpr ⟨kO51, List.forall_mem_cons.mpr ⟨kO52, List.forall_mem_cons.mpr ⟨kO53, List.forall_mem_cons.mpr ⟨kO54, List.forall_mem_cons.mpr ⟨kO55, List.forall_mem_cons.mpr ⟨kO56, List.forall_mem_cons.mpr ⟨kO57, List.forall_mem_cons.mpr ⟨kO58, List.forall_mem_cons.mpr ⟨kO59, List.forall_mem_cons.mpr ⟨kO60, List.forall_mem_cons.mpr ⟨kO61, List.forall_mem_cons.mpr ⟨kO62, List.forall_mem_cons.mpr ⟨kO63, List.forall_mem_cons.mpr ⟨kO64, List.forall_mem_cons.mpr ⟨kO65, List.forall_mem_cons.mpr ⟨kO66, List.forall_mem_cons.mpr ⟨kO67, List.forall_mem_cons.mpr ⟨kO68, List.forall_mem_cons.mpr ⟨kO69, List.forall_mem_cons.mpr ⟨kO70, List.forall_mem_cons.mpr ⟨kO71, fun _ h => absurd h List.not_mem_nil⟩⟩⟩⟩⟩⟩⟩⟩⟩⟩⟩⟩⟩⟩⟩⟩⟩⟩⟩⟩⟩⟩⟩⟩
theorem kOc3 : ∀ r ∈ ([kM72, kM73, kM74, kM75, kM76, kM77, kM78, kM79, kM80, kM81, kM82, kM83, kM84, kM85, kM86, kM87, kM88, kM89, kM90, kM91, kM92, kM93, kM94, kM95] : List KMeth), kMethOK r := List.forall_mem_cons.mpr ⟨kO72, List.forall_mem_cons.mpr ⟨kO73, List.forall_mem_cons.mpr ⟨kO74, List.forall_mem_cons.mpr ⟨kO75, List.forall_mem_cons.mpr ⟨kO76, List.forall_mem_cons.mpr ⟨kO77, List.forall_mem_cons.mpr ⟨kO78, List.forall_mem_cons.mpr ⟨kO79, List.forall_mem_cons.mpr ⟨kO80, List.forall_mem_cons.mpr ⟨kO81, List.forall_mem_cons.mpr ⟨kO82, List.forall_mem_cons.mpr ⟨kO83, List.forall_mem_cons.mpr ⟨kO84, List.forall_mem_cons.mpr ⟨kO85, List.forall_mem_cons.mpr ⟨kO86, List.forall_mem_cons.mpr ⟨kO87, List.forall_mem_cons.mpr ⟨kO88, List.forall_mem_cons.mpr ⟨kO89, List.forall_mem_cons.mpr ⟨kO90, List.forall_mem_cons.mpr ⟨kO91, List.forall_mem_cons.mpr ⟨kO92, List.forall_mem_cons.mpr ⟨kO93, List.forall_mem_cons.mpr ⟨kO94, List.forall_mem_cons.mpr ⟨kO95, fun _ h => absurd h List.not_mem_nil⟩⟩⟩⟩⟩⟩⟩⟩⟩⟩⟩⟩⟩⟩⟩⟩⟩⟩⟩⟩⟩⟩⟩⟩
theorem kOc4 : ∀ r ∈ ([kM96, kM97, kM98, kM99, kM100, kM101, kM102, kM103, kM104, kM105, kM106, kM107, kM108, kM109, kM110, kM111, kM112, kM113, kM114, kM115, kM116, kM117, kM118, kM119] : List KMeth), kMethOK r := List.forall_mem_cons.mpr ⟨kO96, List.forall_mem_cons.mpr ⟨kO97, List.forall_mem_cons.mpr ⟨kO98, List.forall_mem_cons.mpr ⟨kO99, List.forall_mem_cons.mpr ⟨kO100, List.forall_mem_cons.mpr ⟨kO101, List.forall_mem_cons.mpr ⟨kO102, List.forall_mem_cons.mpr ⟨kO103, List.forall_mem_cons.mpr ⟨kO104, List.forall_mem_cons.mpr ⟨kO105, List.forall_mem_cons.mpr ⟨kO106, List.forall_mem_cons.mpr ⟨kO107, List.forall_mem_cons.mpr ⟨kO108, List.forall_mem_cons.mpr ⟨kO109, List.forall_mem_cons.mpr ⟨kO110, List.forall_mem_cons.mpr ⟨kO111, List.forall_mem_cons.mpr ⟨kO112, List.forall_mem_cons.mpr ⟨kO113, List.forall_mem_cons.mpr ⟨kO114, List.forall_mem_cons.mpr ⟨kO115, List.forall_mem_cons.mpr ⟨kO116, List.forall_mem_cons.mpr ⟨kO117, List.forall_mem_cons.mpr ⟨kO118, List.forall_mem_cons.mpr ⟨kO119, fun _ h => absurd h List.not_mem_nil⟩⟩⟩⟩⟩⟩⟩⟩⟩⟩⟩⟩⟩⟩⟩⟩⟩⟩⟩⟩⟩⟩⟩⟩
theorem kOc5 : ∀ r ∈ ([kM120, kM121, kM122, kM123, kM124, kM125, kM126, kM127, kM128, kM129, kM130, kM131, kM132, kM133, kM134, kM135, kM136, kM137, kM138, kM139, kM140, kM141, kM142, kM143] : List KMeth), kMethOK r := List.forall_mem_cons.mpr ⟨kO120, List.forall_mem_cons.mpr ⟨kO121, List.forall_mem_cons.mpr ⟨kO122, List.forall_mem_cons.mpr ⟨kO123, List.forall_mem_cons.mpr ⟨kO124, List.forall_mem_cons.mpr ⟨kO125, List.forall_mem_cons.mpr ⟨kO126, List.forall_mem_cons.mpr ⟨kO127, List.forall_mem_cons.mpr ⟨kO128, List.forall_mem_cons.mpr ⟨kO129, List.forall_mem_cons.mpr ⟨kO130, List.forall_mem_cons.mpr ⟨kO131, List.forall_mem_cons.mpr ⟨kO132, List.forall_mem_cons.mpr ⟨kO133, List.forall_mem_cons.mpr ⟨kO134, List.forall_mem_cons.mpr ⟨kO135, List.forall_mem_cons.mpr ⟨kO136, List.forall_mem_cons.mpr ⟨kO137, List.forall_mem_cons.mpr ⟨kO138, List.forall_mem_cons.mpr ⟨kO139, List.forall_mem_cons.mpr ⟨kO140, List.forall_mem_cons.mpr ⟨kO141, List.forall_mem_cons.mpr ⟨kO142, List.forall_mem_cons.mpr ⟨kO143, fun _ h => absurd h List.not_mem_nil⟩⟩⟩⟩⟩⟩⟩⟩⟩⟩⟩⟩⟩⟩⟩⟩⟩⟩⟩⟩⟩⟩⟩⟩
theorem kOc6 : ∀ r ∈ ([kM144, kM145, kM146, kM147, kM148, kM149, kM150, kM151, kM152, kM153, kM154, kM155, kM156, kM157, kM158, kM159, kM160, kM161, kM162, kM163, kM164, kM165, kM166, kM167] : List KMeth), kMethOK r := List.forall_mem_cons.mpr ⟨kO144, List.forall_mem_cons.mpr ⟨kO145, List.forall_mem_cons.mpr ⟨kO146, List.forall_mem_cons.mpr ⟨kO147, List.forall_mem_cons.mpr ⟨kO148, List.forall_mem_cons.mpr ⟨kO149, List.forall_mem_cons.mpr ⟨kO150, List.forall_mem_cons.mpr ⟨kO151, List.forall_mem_cons.mpr ⟨kO152, List.forall_mem_cons.mpr ⟨kO153, List.forall_mem_cons.mpr ⟨kO154, List.forall_mem_cons.mpr ⟨kO155, List.forall_mem_cons.mpr ⟨kO156, List.forall_mem_cons.mpr ⟨kO157, List.forall_mem_cons.mpr ⟨kO158, List.forall_mem_cons.mpr ⟨kO159, List.forall_mem_cons.mpr ⟨kO160, List.forall_mem_cons.mpr ⟨kO161, List.forall_mem_cons.mpr ⟨kO162, List.forall_mem_cons.mpr ⟨kO163, List.forall_mem_cons.mpr ⟨kO164, List.forall_mem_cons.mpr ⟨kO165, List.forall_mem_cons.mpr ⟨kO166, List.forall_mem_cons.mpr ⟨kO167, fun _ h => absurd h List.not_mem_nil⟩⟩⟩⟩⟩⟩⟩⟩⟩⟩⟩⟩⟩⟩⟩⟩⟩⟩⟩⟩⟩⟩⟩⟩
theorem kOc7 : ∀ r ∈ ([kM168, kM169] : List KMeth), kMethOK r := List.forall_mem_cons.mpr ⟨kO168, List.forall_mem_cons.mpr ⟨kO169, fun _ h => absurd h List.not_mem_nil⟩⟩
set_option maxRecDepth 100000 in
theorem kOall : kOK kmeths kStats := by
  intro mid r h
  have hm : r ∈ ([kM0, kM1, kM2, kM3, kM4, kM5, kM6, kM7, kM8, kM9, kM10, kM11, kM12, kM13, kM14, kM15, kM16, kM17, kM18, kM19, kM20, kM21, kM22, kM23] : List KMeth) ++ (([kM24, kM25, kM26, kM27, kM28, kM29, kM30, kM31, kM32, kM33, kM34, kM35, kM36, kM37, kM38, kM39, kM40, kM41, kM42, kM43, kM44, kM45, kM46, kM47] : List KMeth) ++ (([kM48, kM49, kM50, kM51, kM52, kM53, kM54, kM55, kM56, kM57, kM58, kM59, kM60, kM61, kM62, kM63, kM64, kM65, kM66, kM67, kM68, kM69, kM70, kM71] : List KMeth) ++ (([kM72, kM73, kM74, kM75, kM76, kM77, kM78, kM79, kM80, kM81, kM82, kM83, kM84, kM85, kM86, kM87, kM88, kM89, kM90, kM91, kM92, kM93, kM94, kM95] : List KMeth) ++ (([kM96, kM97, kM98, kM99, kM100, kM101, kM102, kM103, kM104, kM105, kM106, kM107, kM108, kM109, kM110, kM111, kM112, kM113, kM114, kM115, kM116, kM117, kM118, kM119] : List KMeth) ++ (([kM120, kM121, kM122, kM123, kM124, kM125, kM126, kM127, kM128, kM129, kM130, kM131, kM132, kM133, kM134, kM135, kM136, kM137, kM138, kM139, kM140, kM141, kM142, kM143] : List KMeth) ++ (([kM144, kM145, kM146, kM147, kM148, kM149, kM150, kM151, kM152, kM153, kM154, kM155, kM156, kM157, kM158, kM159, kM160, kM161, kM162, kM163, kM164, kM165, kM166, kM167] : List KMeth) ++ (([kM168, kM169] : List KMeth)))))))) := List.mem_of_getElem? h
  revert hm
  revert r
  intro r _ hm
  exact (List.forall_mem_append.mpr ⟨kOc0, List.forall_mem_append.mpr ⟨kOc1, List.forall_mem_append.mpr ⟨kOc2, List.forall_mem_append.mpr ⟨kOc3, List.forall_mem_append.mpr ⟨kOc4, List.forall_mem_append.mpr ⟨kOc5, List.forall_mem_append.mpr ⟨kOc6, List.forall_mem_append.mpr ⟨kOc7⟩⟩⟩⟩⟩⟩⟩) r hm
set_option maxRecDepth 100000 in
theorem kPL_ok : ∀ x ∈ kPL, kEntOK kmeths kStats "TriplicateFormsLaw" "law" code x := kchk_ok (ps := [161, 162, 135, 163, 164, 135, 165, 1472, 1466, 147, 1473, 1474, 147, 1475, 265, 531, 532, 533, 135, 534, 1459, 1460, 1461, 147, 1462, 539, 540, 541, 135, 542, 1468, 1469, 1470, 147, 1471, 543, 544, 545, 135, 546, 1622, 1623, 1624, 147, 1625, 702, 703, 704, 135, 705, 1733, 1734, 1735, 147, 1736, 1737, 1738, 1739, 147, 1740, 1455, 1456, 1457, 147, 1458, 1765, 1766, 1767, 147, 1768, 1455, 1456, 1457, 147, 1458, 706, 707, 708, 135, 709, 1781, 1782, 1783, 147, 1784, 712, 713, 714, 135, 715, 1785, 1786, 1787, 147, 1788, 756, 757, 758, 135, 759, 1797, 1798, 1799, 147, 1800, 836, 837, 838, 135, 839, 1833, 1834, 1835, 147, 1836, 840, 841, 842, 135, 843, 1837, 1838, 1839, 147, 1840, 844, 845, 846, 135, 847, 1841, 1842, 1843, 147, 1844, 848, 849, 850, 135, 851, 1845, 1846, 1847, 147, 1848, 852, 853, 854, 135, 855, 1849, 1850, 1851, 147, 1852, 856, 857, 858, 135, 859, 1853, 1854, 1855, 147, 1856, 860, 861, 862, 135, 863, 1861, 1862, 1863, 147, 1864, 865, 866, 867, 135, 868, 1857, 1858, 1859, 147, 1860, 873, 874, 875, 135, 876, 1876, 1877, 1878, 147, 1879, 878, 879, 880, 135, 881, 1880, 1881, 1882, 147, 1883, 886, 887, 888, 135, 889, 1888, 1889, 1890, 147, 1891, 902, 903, 904, 135, 905, 1896, 1897, 1898, 147, 1899, 935, 936, 937, 135, 938, 1916, 1917, 1918, 147, 1919, 943, 944, 945, 135, 946, 1920, 1921, 1922, 147, 1923, 966, 967, 968, 135, 969, 1934, 1935, 1936, 147, 1937, 970, 971, 972, 135, 973, 1938, 1939, 1940, 147, 1941, 997, 998, 999, 135, 1000, 1950, 1951, 1952, 147, 1953, 1001, 1002, 1003, 135, 1004, 1954, 1955, 1956, 147, 1957, 1012, 1013, 1014, 135, 1015, 1958, 1959, 1960, 147, 1961, 1018, 1019, 1020, 135, 1021, 1962, 1963, 1964, 147, 1965, 1026, 1027, 1028, 135, 1029, 1966, 1967, 1968, 147, 1969, 1114, 1115, 1116, 135, 1117, 1986, 1987, 1988, 147, 1989, 1122, 1123, 1124, 135, 1125, 1990, 1991, 1992, 147, 1993, 1141, 1142, 1143, 135, 1144, 2007, 2008, 2009, 147, 2010, 1146, 1147, 1148, 135, 1149, 2019, 2020, 2021, 147, 2022, 1224, 1225, 1226, 135, 1227, 2055, 2056, 2057, 147, 2058, 1232, 1233, 1234, 135, 1235, 2059, 2060, 2061, 147, 2062, 1306, 1307, 1308, 135, 1309, 2095, 2096, 2097, 147, 2098, 1336, 1337, 1338, 135, 1339, 2111, 2112, 2113, 147, 2114, 1351, 1352, 1353, 135, 1354, 2115, 2116, 2117, 147, 2118, 1356, 1357, 1358, 135, 1359, 2119, 2120, 2121, 147, 2122]) (by decide +kernel)
