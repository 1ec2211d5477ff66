/-! the classes: their fields in the order of the slots, and their types (written by a program) -/
def kT (l : List (String × String × String × Bool)) : u_T := fun k => l.getD k ("", "", "", false)
def kF0 : List (String × String × String × Bool) := [("TriplicateForms$Adviser", "thirds", "[I", true), ("TriplicateForms$Adviser", "toAsk", "I", false), ("TriplicateForms$Adviser", "covering", "I", false)]
def kY0 : List FieldType := [.array .int, .int, .int]
def kF1 : List (String × String × String × Bool) := [("TriplicateForms$Book", "acts", "[I", true), ("TriplicateForms$Book", "firsts", "[I", true), ("TriplicateForms$Book", "seconds", "[I", true), ("TriplicateForms$Book", "lines", "I", false), ("TriplicateForms$Book", "gone", "Z", false), ("TriplicateForms$Book", "why", "I", false), ("TriplicateForms$Book", "ahead", "I", false), ("TriplicateForms$Book", "dayThen", "I", false), ("TriplicateForms$Book", "grantedThen", "I", false)]
def kY1 : List FieldType := [.array .int, .array .int, .array .int, .int, .boolean, .int, .int, .int, .int]
def kF2 : List (String × String × String × Bool) := [("TriplicateForms$Image", "rosterThen", "LTriplicateForms$Roster;", true), ("TriplicateForms$Image", "standingThen", "LTriplicateForms$Standing;", true), ("TriplicateForms$Image", "sentenceThen", "LTriplicateForms$Sentence;", true), ("TriplicateForms$Image", "kept", "Z", false)]
def kY2 : List FieldType := [.object "TriplicateForms$Roster", .object "TriplicateForms$Standing", .object "TriplicateForms$Sentence", .boolean]
def kF3 : List (String × String × String × Bool) := [("TriplicateForms$Matcher", "slots", "[I", true), ("TriplicateForms$Matcher", "holders", "[I", true), ("TriplicateForms$Matcher", "chosen", "[I", true), ("TriplicateForms$Matcher", "persons", "I", false), ("TriplicateForms$Matcher", "forms", "I", false), ("TriplicateForms$Matcher", "tried", "I", false)]
def kY3 : List FieldType := [.array .int, .array .int, .array .int, .int, .int, .int]
def kF4 : List (String × String × String × Bool) := [("TriplicateForms$Roster", "personNames", "[J", true), ("TriplicateForms$Roster", "formNames", "[J", true), ("TriplicateForms$Roster", "about", "[I", true), ("TriplicateForms$Roster", "span", "[I", true), ("TriplicateForms$Roster", "shy", "[I", true), ("TriplicateForms$Roster", "ruleTold", "Z", false), ("TriplicateForms$Roster", "persons", "I", false), ("TriplicateForms$Roster", "forms", "I", false), ("TriplicateForms$Roster", "anyThird", "Z", false)]
def kY4 : List FieldType := [.array .long, .array .long, .array .int, .array .int, .array .int, .boolean, .int, .int, .boolean]
def kF5 : List (String × String × String × Bool) := [("TriplicateForms$Sentence", "kinds", "[I", true), ("TriplicateForms$Sentence", "whats", "[I", true), ("TriplicateForms$Sentence", "numbers", "[I", true), ("TriplicateForms$Sentence", "answers", "[I", true), ("TriplicateForms$Sentence", "length", "I", false), ("TriplicateForms$Sentence", "ones", "I", false)]
def kY5 : List FieldType := [.array .int, .array .int, .array .int, .array .int, .int, .int]
def kF6 : List (String × String × String × Bool) := [("TriplicateForms$Stamp", "signs", "[C", true), ("TriplicateForms$Stamp", "length", "I", false)]
def kY6 : List FieldType := [.array .char, .int]
def kF7 : List (String × String × String × Bool) := [("TriplicateForms$Standing", "roster", "LTriplicateForms$Roster;", true), ("TriplicateForms$Standing", "grudges", "[I", true), ("TriplicateForms$Standing", "signedToday", "[I", true), ("TriplicateForms$Standing", "timesSigned", "[I", true), ("TriplicateForms$Standing", "how", "[I", true), ("TriplicateForms$Standing", "daysToGo", "[I", true), ("TriplicateForms$Standing", "signers", "[I", true), ("TriplicateForms$Standing", "retired", "I", false), ("TriplicateForms$Standing", "day", "I", false), ("TriplicateForms$Standing", "drawState", "I", false)]
def kY7 : List FieldType := [.object "TriplicateForms$Roster", .array .int, .array .int, .array .int, .array .int, .array .int, .array .int, .int, .int, .int]
def kF8 : List (String × String × String × Bool) := [("TriplicateForms$Tape", "bytes", "[B", true), ("TriplicateForms$Tape", "length", "I", false), ("TriplicateForms$Tape", "most", "I", false), ("TriplicateForms$Tape", "at", "I", false), ("TriplicateForms$Tape", "kind", "I", false), ("TriplicateForms$Tape", "place", "I", false), ("TriplicateForms$Tape", "value", "I", false), ("TriplicateForms$Tape", "letters", "J", false), ("TriplicateForms$Tape", "meaning", "LTriplicateForms$Word;", false), ("TriplicateForms$Tape", "faultKind", "I", false), ("TriplicateForms$Tape", "faultPlace", "I", false)]
def kY8 : List FieldType := [.array .byte, .int, .int, .int, .int, .int, .int, .long, .object "TriplicateForms$Word", .int, .int]
def kF9 : List (String × String × String × Bool) := [("TriplicateForms$Undos", "kept", "[LTriplicateForms$Standing;", true), ("TriplicateForms$Undos", "next", "I", false), ("TriplicateForms$Undos", "count", "I", false)]
def kY9 : List FieldType := [.array (.object "TriplicateForms$Standing"), .int, .int]
def kF10 : List (String × String × String × Bool) := [("TriplicateForms", "tape", "LTriplicateForms$Tape;", true), ("TriplicateForms", "roster", "LTriplicateForms$Roster;", true), ("TriplicateForms", "nextRoster", "LTriplicateForms$Roster;", true), ("TriplicateForms", "standing", "LTriplicateForms$Standing;", true), ("TriplicateForms", "trial", "LTriplicateForms$Standing;", true), ("TriplicateForms", "undos", "LTriplicateForms$Undos;", true), ("TriplicateForms", "images", "[LTriplicateForms$Image;", true), ("TriplicateForms", "matcher", "LTriplicateForms$Matcher;", true), ("TriplicateForms", "adviser", "LTriplicateForms$Adviser;", true), ("TriplicateForms", "stamp", "LTriplicateForms$Stamp;", true), ("TriplicateForms", "book", "LTriplicateForms$Book;", true), ("TriplicateForms", "sentence", "LTriplicateForms$Sentence;", false), ("TriplicateForms", "nextSentence", "LTriplicateForms$Sentence;", false), ("TriplicateForms", "latestFault", "I", false)]
def kY10 : List FieldType := [.object "TriplicateForms$Tape", .object "TriplicateForms$Roster", .object "TriplicateForms$Roster", .object "TriplicateForms$Standing", .object "TriplicateForms$Standing", .object "TriplicateForms$Undos", .array (.object "TriplicateForms$Image"), .object "TriplicateForms$Matcher", .object "TriplicateForms$Adviser", .object "TriplicateForms$Stamp", .object "TriplicateForms$Book", .object "TriplicateForms$Sentence", .object "TriplicateForms$Sentence", .int]
def kF11 : List (String × String × String × Bool) := [("TriplicateFormsModel", "thrown", "I", false), ("TriplicateFormsModel", "tape", "[I", true), ("TriplicateFormsModel", "taped", "I", false), ("TriplicateFormsModel", "size", "I", false), ("TriplicateFormsModel", "limit", "I", false), ("TriplicateFormsModel", "to", "I", false), ("TriplicateFormsModel", "from", "I", false), ("TriplicateFormsModel", "kind", "I", false), ("TriplicateFormsModel", "number", "I", false), ("TriplicateFormsModel", "sign", "I", false), ("TriplicateFormsModel", "fault", "I", false), ("TriplicateFormsModel", "place", "I", false), ("TriplicateFormsModel", "word", "J", false), ("TriplicateFormsModel", "told", "I", false), ("TriplicateFormsModel", "now", "[I", true), ("TriplicateFormsModel", "read", "[I", true), ("TriplicateFormsModel", "kept", "[I", true), ("TriplicateFormsModel", "snaps", "[I", true), ("TriplicateFormsModel", "aside", "[I", true), ("TriplicateFormsModel", "name", "[J", true), ("TriplicateFormsModel", "readName", "[J", true), ("TriplicateFormsModel", "keptName", "[J", true), ("TriplicateFormsModel", "isKept", "[Z", true), ("TriplicateFormsModel", "snapMany", "I", false), ("TriplicateFormsModel", "hasRule", "Z", false), ("TriplicateFormsModel", "slot", "[I", true), ("TriplicateFormsModel", "matched", "[I", true), ("TriplicateFormsModel", "seen", "[Z", true), ("TriplicateFormsModel", "closed", "[Z", true), ("TriplicateFormsModel", "matchedMany", "I", false), ("TriplicateFormsModel", "hasMatched", "Z", false), ("TriplicateFormsModel", "asking", "I", false), ("TriplicateFormsModel", "covering", "I", false), ("TriplicateFormsModel", "text", "[I", true), ("TriplicateFormsModel", "texts", "I", false), ("TriplicateFormsModel", "seed", "I", false), ("TriplicateFormsModel", "line", "[I", true), ("TriplicateFormsModel", "written", "[I", true), ("TriplicateFormsModel", "lineMany", "I", false), ("TriplicateFormsModel", "hasWritten", "Z", false), ("TriplicateFormsModel", "node", "[I", true), ("TriplicateFormsModel", "nodes", "I", false), ("TriplicateFormsModel", "onesMany", "I", false), ("TriplicateFormsModel", "within", "I", false), ("TriplicateFormsModel", "top", "I", false)]
def kY11 : List FieldType := [.int, .array .int, .int, .int, .int, .int, .int, .int, .int, .int, .int, .int, .long, .int, .array .int, .array .int, .array .int, .array .int, .array .int, .array .long, .array .long, .array .long, .array .boolean, .int, .boolean, .array .int, .array .int, .array .boolean, .array .boolean, .int, .boolean, .int, .int, .array .int, .int, .int, .array .int, .array .int, .int, .boolean, .array .int, .int, .int, .int, .int]
def kCl : List vw_C := [("TriplicateForms$Adviser", kT kF0, 3), ("TriplicateForms$Book", kT kF1, 9), ("TriplicateForms$Image", kT kF2, 4), ("TriplicateForms$Matcher", kT kF3, 6), ("TriplicateForms$Roster", kT kF4, 9), ("TriplicateForms$Sentence", kT kF5, 6), ("TriplicateForms$Stamp", kT kF6, 2), ("TriplicateForms$Standing", kT kF7, 10), ("TriplicateForms$Tape", kT kF8, 11), ("TriplicateForms$Undos", kT kF9, 3), ("TriplicateForms", kT kF10, 14), ("TriplicateFormsModel", kT kF11, 45)]
def kTys : List (List FieldType) := [kY0, kY1, kY2, kY3, kY4, kY5, kY6, kY7, kY8, kY9, kY10, kY11]
def kTy (ci : Nat) (k : Nat) : FieldType := (kTys.getD ci []).getD k .int
def LT : List Cond := lw_tbl.filter goodWord
/-- words among the tables', by their places -/
def kin (ws : List Cond) (ps : List Nat) : Bool := decide (ws.map some = ps.map (fun i => lw_tbl[i]?)) && ws.all goodWord
theorem kin_ok {ws : List Cond} {ps : List Nat} (h : kin ws ps = true) : ∀ w ∈ ws, w ∈ LT := by
  intro w hw
  have h1 := Bool.and_eq_true_iff.mp h
  have h2 := of_decide_eq_true h1.1
  have h3 : some w ∈ ps.map (fun i => lw_tbl[i]?) := by rw [← h2]; exact List.mem_map.mpr ⟨w, hw, rfl⟩
  obtain ⟨i, -, hi⟩ := List.mem_map.mp h3
  exact List.mem_filter.mpr ⟨List.mem_of_getElem? hi, List.all_eq_true.mp h1.2 w hw⟩
theorem LT_good {w : Cond} (h : w ∈ LT) : (w.onTables && w.keeps) = true ∨ ∃ ty, w = .arrayClass ty := good_of_word (List.mem_filter.mp h).2
theorem LT_tbl {w : Cond} (h : w ∈ LT) : w ∈ lw_tbl := (List.mem_filter.mp h).1
def kClGood (ci : Nat) (q : vw_C) : Prop := (∀ w ∈ u_ws q.1 q.2.1 q.2.2, w ∈ LT) ∧ (∀ k, k < q.2.2 → parseFieldDescriptor (q.2.1 k).2.2.1 = some (kTy ci k)) ∧ (∀ a, a < q.2.2 → ∀ b, b < q.2.2 → a ≠ b → (q.2.1 a).2.1 ≠ (q.2.1 b).2.1)
set_option maxRecDepth 100000 in
theorem kClGood0 : kClGood 0 ("TriplicateForms$Adviser", kT kF0, 3) := ⟨kin_ok (ps := [377, 379, 381]) (by decide +kernel), by decide +kernel, by decide +kernel⟩
set_option maxRecDepth 100000 in
theorem kClGood1 : kClGood 1 ("TriplicateForms$Book", kT kF1, 9) := ⟨kin_ok (ps := [415, 417, 419, 421, 423, 425, 427, 429, 431]) (by decide +kernel), by decide +kernel, by decide +kernel⟩
set_option maxRecDepth 100000 in
theorem kClGood2 : kClGood 2 ("TriplicateForms$Image", kT kF2, 4) := ⟨kin_ok (ps := [479, 481, 483, 485]) (by decide +kernel), by decide +kernel, by decide +kernel⟩
set_option maxRecDepth 100000 in
theorem kClGood3 : kClGood 3 ("TriplicateForms$Matcher", kT kF3, 6) := ⟨kin_ok (ps := [353, 355, 357, 359, 361, 363]) (by decide +kernel), by decide +kernel, by decide +kernel⟩
set_option maxRecDepth 100000 in
theorem kClGood4 : kClGood 4 ("TriplicateForms$Roster", kT kF4, 9) := ⟨kin_ok (ps := [246, 248, 250, 252, 254, 256, 258, 260, 262]) (by decide +kernel), by decide +kernel, by decide +kernel⟩
set_option maxRecDepth 100000 in
theorem kClGood5 : kClGood 5 ("TriplicateForms$Sentence", kT kF5, 6) := ⟨kin_ok (ps := [447, 449, 451, 453, 455, 457]) (by decide +kernel), by decide +kernel, by decide +kernel⟩
set_option maxRecDepth 100000 in
theorem kClGood6 : kClGood 6 ("TriplicateForms$Stamp", kT kF6, 2) := ⟨kin_ok (ps := [393, 395]) (by decide +kernel), by decide +kernel, by decide +kernel⟩
set_option maxRecDepth 100000 in
theorem kClGood7 : kClGood 7 ("TriplicateForms$Standing", kT kF7, 10) := ⟨kin_ok (ps := [298, 300, 302, 304, 306, 308, 310, 312, 314, 316]) (by decide +kernel), by decide +kernel, by decide +kernel⟩
set_option maxRecDepth 100000 in
theorem kClGood8 : kClGood 8 ("TriplicateForms$Tape", kT kF8, 11) := ⟨kin_ok (ps := [196, 198, 200, 202, 204, 206, 208, 210, 212, 214, 216]) (by decide +kernel), by decide +kernel, by decide +kernel⟩
set_option maxRecDepth 100000 in
theorem kClGood9 : kClGood 9 ("TriplicateForms$Undos", kT kF9, 3) := ⟨kin_ok (ps := [331, 333, 335]) (by decide +kernel), by decide +kernel, by decide +kernel⟩
set_option maxRecDepth 100000 in
theorem kClGood10 : kClGood 10 ("TriplicateForms", kT kF10, 14) := ⟨kin_ok (ps := [502, 504, 506, 508, 510, 512, 514, 516, 518, 520, 522, 524, 526, 528]) (by decide +kernel), by decide +kernel, by decide +kernel⟩
set_option maxRecDepth 100000 in
theorem kClGood11 : kClGood 11 ("TriplicateFormsModel", kT kF11, 45) := ⟨kin_ok (ps := [1526, 1528, 1530, 1532, 1534, 1536, 1538, 1540, 1542, 1544, 1546, 1548, 1550, 1552, 1554, 1556, 1558, 1560, 1562, 1564, 1566, 1568, 1570, 1572, 1574, 1576, 1578, 1580, 1582, 1584, 1586, 1588, 1590, 1592, 1594, 1596, 1598, 1600, 1602, 1604, 1606, 1608, 1610, 1612, 1614]) (by decide +kernel), by decide +kernel, by decide +kernel⟩
theorem kCl_ok : ∀ (ci : Nat) (q : vw_C), kCl[ci]? = some q → kClGood ci q := by
  intro ci q h
  match ci, h with
  | 0, h => cases h; exact kClGood0
  | 1, h => cases h; exact kClGood1
  | 2, h => cases h; exact kClGood2
  | 3, h => cases h; exact kClGood3
  | 4, h => cases h; exact kClGood4
  | 5, h => cases h; exact kClGood5
  | 6, h => cases h; exact kClGood6
  | 7, h => cases h; exact kClGood7
  | 8, h => cases h; exact kClGood8
  | 9, h => cases h; exact kClGood9
  | 10, h => cases h; exact kClGood10
  | 11, h => cases h; exact kClGood11
  | n + 12, h => simp [kCl] at h
/-- constructors that nest mates call -/
def kNW : List (String × Nat × MethodName) := [("TriplicateForms", 9, ⟨"TriplicateForms$Tape", "<init>", "()V"⟩), ("TriplicateForms", 18, ⟨"TriplicateForms$Roster", "<init>", "()V"⟩), ("TriplicateForms", 60, ⟨"TriplicateForms$Adviser", "<init>", "()V"⟩), ("TriplicateForms", 67, ⟨"TriplicateForms$Stamp", "<init>", "()V"⟩), ("TriplicateForms", 74, ⟨"TriplicateForms$Book", "<init>", "()V"⟩), ("TriplicateForms", 81, ⟨"TriplicateForms$Sentence", "<init>", "()V"⟩), ("TriplicateForms$Image", 9, ⟨"TriplicateForms$Roster", "<init>", "()V"⟩), ("TriplicateForms$Image", 18, ⟨"TriplicateForms$Sentence", "<init>", "()V"⟩)]
theorem kNW_ok : ∀ q ∈ kNW, Cond.methodLinkNest q.1 q.2.1 q.2.2 "TriplicateForms" ∈ lw_tbl := by
  have h : kNW.map (fun q => some (Cond.methodLinkNest q.1 q.2.1 q.2.2 "TriplicateForms")) = ([171, 222, 368, 386, 401, 436, 466, 468] : List Nat).map (fun i => lw_tbl[i]?) := by decide +kernel
  intro q hq
  have h1 : some (Cond.methodLinkNest q.1 q.2.1 q.2.2 "TriplicateForms") ∈ ([171, 222, 368, 386, 401, 436, 466, 468] : List Nat).map (fun i => lw_tbl[i]?) := by rw [← h]; exact List.mem_map.mpr ⟨q, hq, rfl⟩
  obtain ⟨i, -, hi⟩ := List.mem_map.mp h1
  exact List.mem_of_getElem? hi
