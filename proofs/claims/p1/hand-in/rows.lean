section
-- ===== PART A: goes FIRST, ahead of the names: the tables' words, and 'selects' of the private methods out of them =====
/-- a private method of a class that the tables say can be made, by its rows of tables_1 -/
def lw_okq (q : MethodName × Nat) : Prop := (q.1.cls ≠ "java/lang/invoke/MethodHandle" ∧ q.1.cls ≠ "java/lang/invoke/VarHandle") ∧ Cond.instantiable q.1.cls q.2 ∈ tables_1 ∧ Cond.privateMethod q.1 ∈ tables_1 ∧ Cond.instanceMethod q.1 ∈ tables_1
theorem lw_p0 : lw_okq (⟨"TriplicateForms$Standing", "setToStart", "()V"⟩, 10) := ⟨⟨by decide +kernel, by decide +kernel⟩, List.mem_of_getElem? (i := 134) (by decide +kernel), List.mem_of_getElem? (i := 140) (by decide +kernel), List.mem_of_getElem? (i := 141) (by decide +kernel)⟩
theorem lw_p1 : lw_okq (⟨"TriplicateForms$Roster", "forget", "()V"⟩, 9) := ⟨⟨by decide +kernel, by decide +kernel⟩, List.mem_of_getElem? (i := 87) (by decide +kernel), List.mem_of_getElem? (i := 418) (by decide +kernel), List.mem_of_getElem? (i := 419) (by decide +kernel)⟩
theorem lw_p2 : lw_okq (⟨"TriplicateForms$Tape", "readRun", "()V"⟩, 11) := ⟨⟨by decide +kernel, by decide +kernel⟩, List.mem_of_getElem? (i := 36) (by decide +kernel), List.mem_of_getElem? (i := 444) (by decide +kernel), List.mem_of_getElem? (i := 445) (by decide +kernel)⟩
theorem lw_p3 : lw_okq (⟨"TriplicateForms$Tape", "findMeaning", "()V"⟩, 11) := ⟨⟨by decide +kernel, by decide +kernel⟩, List.mem_of_getElem? (i := 36) (by decide +kernel), List.mem_of_getElem? (i := 449) (by decide +kernel), List.mem_of_getElem? (i := 450) (by decide +kernel)⟩
theorem lw_p4 : lw_okq (⟨"TriplicateForms$Roster", "readLine", "(LTriplicateForms$Tape;LTriplicateForms$Standing;)Z"⟩, 9) := ⟨⟨by decide +kernel, by decide +kernel⟩, List.mem_of_getElem? (i := 87) (by decide +kernel), List.mem_of_getElem? (i := 455) (by decide +kernel), List.mem_of_getElem? (i := 456) (by decide +kernel)⟩
theorem lw_p5 : lw_okq (⟨"TriplicateForms$Roster", "readPersonLine", "(LTriplicateForms$Tape;LTriplicateForms$Standing;)Z"⟩, 9) := ⟨⟨by decide +kernel, by decide +kernel⟩, List.mem_of_getElem? (i := 87) (by decide +kernel), List.mem_of_getElem? (i := 465) (by decide +kernel), List.mem_of_getElem? (i := 466) (by decide +kernel)⟩
theorem lw_p6 : lw_okq (⟨"TriplicateForms$Roster", "newNameRead", "(LTriplicateForms$Tape;)Z"⟩, 9) := ⟨⟨by decide +kernel, by decide +kernel⟩, List.mem_of_getElem? (i := 87) (by decide +kernel), List.mem_of_getElem? (i := 474) (by decide +kernel), List.mem_of_getElem? (i := 475) (by decide +kernel)⟩
theorem lw_p7 : lw_okq (⟨"TriplicateForms$Roster", "personNamed", "(J)I"⟩, 9) := ⟨⟨by decide +kernel, by decide +kernel⟩, List.mem_of_getElem? (i := 87) (by decide +kernel), List.mem_of_getElem? (i := 482) (by decide +kernel), List.mem_of_getElem? (i := 483) (by decide +kernel)⟩
theorem lw_p8 : lw_okq (⟨"TriplicateForms$Roster", "formNamed", "(J)I"⟩, 9) := ⟨⟨by decide +kernel, by decide +kernel⟩, List.mem_of_getElem? (i := 87) (by decide +kernel), List.mem_of_getElem? (i := 486) (by decide +kernel), List.mem_of_getElem? (i := 487) (by decide +kernel)⟩
theorem lw_p9 : lw_okq (⟨"TriplicateForms$Roster", "readGrudgeLine", "(LTriplicateForms$Tape;LTriplicateForms$Standing;)Z"⟩, 9) := ⟨⟨by decide +kernel, by decide +kernel⟩, List.mem_of_getElem? (i := 87) (by decide +kernel), List.mem_of_getElem? (i := 503) (by decide +kernel), List.mem_of_getElem? (i := 504) (by decide +kernel)⟩
theorem lw_p10 : lw_okq (⟨"TriplicateForms$Roster", "readShyLine", "(LTriplicateForms$Tape;)Z"⟩, 9) := ⟨⟨by decide +kernel, by decide +kernel⟩, List.mem_of_getElem? (i := 87) (by decide +kernel), List.mem_of_getElem? (i := 525) (by decide +kernel), List.mem_of_getElem? (i := 526) (by decide +kernel)⟩
theorem lw_p11 : lw_okq (⟨"TriplicateForms$Roster", "readFormLine", "(LTriplicateForms$Tape;)Z"⟩, 9) := ⟨⟨by decide +kernel, by decide +kernel⟩, List.mem_of_getElem? (i := 87) (by decide +kernel), List.mem_of_getElem? (i := 535) (by decide +kernel), List.mem_of_getElem? (i := 536) (by decide +kernel)⟩
theorem lw_p12 : lw_okq (⟨"TriplicateForms$Roster", "readRuleLine", "(LTriplicateForms$Tape;)Z"⟩, 9) := ⟨⟨by decide +kernel, by decide +kernel⟩, List.mem_of_getElem? (i := 87) (by decide +kernel), List.mem_of_getElem? (i := 541) (by decide +kernel), List.mem_of_getElem? (i := 542) (by decide +kernel)⟩
theorem lw_p13 : lw_okq (⟨"TriplicateForms", "attempt", "(III)I"⟩, 14) := ⟨⟨by decide +kernel, by decide +kernel⟩, List.mem_of_getElem? (i := 28) (by decide +kernel), List.mem_of_getElem? (i := 628) (by decide +kernel), List.mem_of_getElem? (i := 629) (by decide +kernel)⟩
theorem lw_p14 : lw_okq (⟨"TriplicateForms$Standing", "partWith", "(III)I"⟩, 10) := ⟨⟨by decide +kernel, by decide +kernel⟩, List.mem_of_getElem? (i := 134) (by decide +kernel), List.mem_of_getElem? (i := 649) (by decide +kernel), List.mem_of_getElem? (i := 650) (by decide +kernel)⟩
theorem lw_p15 : lw_okq (⟨"TriplicateForms$Standing", "putSignature", "(III)V"⟩, 10) := ⟨⟨by decide +kernel, by decide +kernel⟩, List.mem_of_getElem? (i := 134) (by decide +kernel), List.mem_of_getElem? (i := 673) (by decide +kernel), List.mem_of_getElem? (i := 674) (by decide +kernel)⟩
def lw_privs_1 : List (MethodName × Nat) := [(⟨"TriplicateForms$Standing", "setToStart", "()V"⟩, 10), (⟨"TriplicateForms$Roster", "forget", "()V"⟩, 9), (⟨"TriplicateForms$Tape", "readRun", "()V"⟩, 11), (⟨"TriplicateForms$Tape", "findMeaning", "()V"⟩, 11), (⟨"TriplicateForms$Roster", "readLine", "(LTriplicateForms$Tape;LTriplicateForms$Standing;)Z"⟩, 9), (⟨"TriplicateForms$Roster", "readPersonLine", "(LTriplicateForms$Tape;LTriplicateForms$Standing;)Z"⟩, 9), (⟨"TriplicateForms$Roster", "newNameRead", "(LTriplicateForms$Tape;)Z"⟩, 9), (⟨"TriplicateForms$Roster", "personNamed", "(J)I"⟩, 9), (⟨"TriplicateForms$Roster", "formNamed", "(J)I"⟩, 9), (⟨"TriplicateForms$Roster", "readGrudgeLine", "(LTriplicateForms$Tape;LTriplicateForms$Standing;)Z"⟩, 9), (⟨"TriplicateForms$Roster", "readShyLine", "(LTriplicateForms$Tape;)Z"⟩, 9), (⟨"TriplicateForms$Roster", "readFormLine", "(LTriplicateForms$Tape;)Z"⟩, 9), (⟨"TriplicateForms$Roster", "readRuleLine", "(LTriplicateForms$Tape;)Z"⟩, 9), (⟨"TriplicateForms", "attempt", "(III)I"⟩, 14), (⟨"TriplicateForms$Standing", "partWith", "(III)I"⟩, 10), (⟨"TriplicateForms$Standing", "putSignature", "(III)V"⟩, 10)]
theorem lw_r1 : ∀ q ∈ lw_privs_1, lw_okq q := List.forall_mem_cons.mpr ⟨lw_p0, List.forall_mem_cons.mpr ⟨lw_p1, List.forall_mem_cons.mpr ⟨lw_p2, List.forall_mem_cons.mpr ⟨lw_p3, List.forall_mem_cons.mpr ⟨lw_p4, List.forall_mem_cons.mpr ⟨lw_p5, List.forall_mem_cons.mpr ⟨lw_p6, List.forall_mem_cons.mpr ⟨lw_p7, List.forall_mem_cons.mpr ⟨lw_p8, List.forall_mem_cons.mpr ⟨lw_p9, List.forall_mem_cons.mpr ⟨lw_p10, List.forall_mem_cons.mpr ⟨lw_p11, List.forall_mem_cons.mpr ⟨lw_p12, List.forall_mem_cons.mpr ⟨lw_p13, List.forall_mem_cons.mpr ⟨lw_p14, List.forall_mem_cons.mpr ⟨lw_p15, fun _ h => absurd h List.not_mem_nil⟩⟩⟩⟩⟩⟩⟩⟩⟩⟩⟩⟩⟩⟩⟩⟩
theorem lw_p16 : lw_okq (⟨"TriplicateForms$Standing", "setHow", "(II)V"⟩, 10) := ⟨⟨by decide +kernel, by decide +kernel⟩, List.mem_of_getElem? (i := 134) (by decide +kernel), List.mem_of_getElem? (i := 687) (by decide +kernel), List.mem_of_getElem? (i := 688) (by decide +kernel)⟩
theorem lw_p17 : lw_okq (⟨"TriplicateForms$Standing", "openAnew", "(I)V"⟩, 10) := ⟨⟨by decide +kernel, by decide +kernel⟩, List.mem_of_getElem? (i := 134) (by decide +kernel), List.mem_of_getElem? (i := 691) (by decide +kernel), List.mem_of_getElem? (i := 692) (by decide +kernel)⟩
theorem lw_p18 : lw_okq (⟨"TriplicateForms$Standing", "goOneDay", "()V"⟩, 10) := ⟨⟨by decide +kernel, by decide +kernel⟩, List.mem_of_getElem? (i := 134) (by decide +kernel), List.mem_of_getElem? (i := 695) (by decide +kernel), List.mem_of_getElem? (i := 696) (by decide +kernel)⟩
theorem lw_p19 : lw_okq (⟨"TriplicateForms$Standing", "grant", "(I)V"⟩, 10) := ⟨⟨by decide +kernel, by decide +kernel⟩, List.mem_of_getElem? (i := 134) (by decide +kernel), List.mem_of_getElem? (i := 699) (by decide +kernel), List.mem_of_getElem? (i := 700) (by decide +kernel)⟩
theorem lw_p20 : lw_okq (⟨"TriplicateForms$Standing", "daysToSign", "(I)I"⟩, 10) := ⟨⟨by decide +kernel, by decide +kernel⟩, List.mem_of_getElem? (i := 134) (by decide +kernel), List.mem_of_getElem? (i := 761) (by decide +kernel), List.mem_of_getElem? (i := 762) (by decide +kernel)⟩
theorem lw_p21 : lw_okq (⟨"TriplicateForms$Matcher", "readSlots", "(LTriplicateForms$Standing;)V"⟩, 6) := ⟨⟨by decide +kernel, by decide +kernel⟩, List.mem_of_getElem? (i := 207) (by decide +kernel), List.mem_of_getElem? (i := 777) (by decide +kernel), List.mem_of_getElem? (i := 778) (by decide +kernel)⟩
theorem lw_p22 : lw_okq (⟨"TriplicateForms$Matcher", "mostFrom", "(II)I"⟩, 6) := ⟨⟨by decide +kernel, by decide +kernel⟩, List.mem_of_getElem? (i := 207) (by decide +kernel), List.mem_of_getElem? (i := 783) (by decide +kernel), List.mem_of_getElem? (i := 784) (by decide +kernel)⟩
theorem lw_p23 : lw_okq (⟨"TriplicateForms$Matcher", "findSlot", "(II)Z"⟩, 6) := ⟨⟨by decide +kernel, by decide +kernel⟩, List.mem_of_getElem? (i := 207) (by decide +kernel), List.mem_of_getElem? (i := 787) (by decide +kernel), List.mem_of_getElem? (i := 788) (by decide +kernel)⟩
theorem lw_p24 : lw_okq (⟨"TriplicateForms$Matcher", "slotOf", "(II)I"⟩, 6) := ⟨⟨by decide +kernel, by decide +kernel⟩, List.mem_of_getElem? (i := 207) (by decide +kernel), List.mem_of_getElem? (i := 791) (by decide +kernel), List.mem_of_getElem? (i := 792) (by decide +kernel)⟩
theorem lw_p25 : lw_okq (⟨"TriplicateForms$Matcher", "canBeLeft", "(II)Z"⟩, 6) := ⟨⟨by decide +kernel, by decide +kernel⟩, List.mem_of_getElem? (i := 207) (by decide +kernel), List.mem_of_getElem? (i := 798) (by decide +kernel), List.mem_of_getElem? (i := 799) (by decide +kernel)⟩
theorem lw_p26 : lw_okq (⟨"TriplicateForms$Adviser", "readThirds", "(LTriplicateForms$Standing;)I"⟩, 3) := ⟨⟨by decide +kernel, by decide +kernel⟩, List.mem_of_getElem? (i := 233) (by decide +kernel), List.mem_of_getElem? (i := 845) (by decide +kernel), List.mem_of_getElem? (i := 846) (by decide +kernel)⟩
theorem lw_p27 : lw_okq (⟨"TriplicateForms$Adviser", "coversAll", "(II)Z"⟩, 3) := ⟨⟨by decide +kernel, by decide +kernel⟩, List.mem_of_getElem? (i := 233) (by decide +kernel), List.mem_of_getElem? (i := 860) (by decide +kernel), List.mem_of_getElem? (i := 861) (by decide +kernel)⟩
theorem lw_p28 : lw_okq (⟨"TriplicateForms$Stamp", "putName", "(J)V"⟩, 2) := ⟨⟨by decide +kernel, by decide +kernel⟩, List.mem_of_getElem? (i := 251) (by decide +kernel), List.mem_of_getElem? (i := 905) (by decide +kernel), List.mem_of_getElem? (i := 906) (by decide +kernel)⟩
theorem lw_p29 : lw_okq (⟨"TriplicateForms$Stamp", "putSign", "(C)V"⟩, 2) := ⟨⟨by decide +kernel, by decide +kernel⟩, List.mem_of_getElem? (i := 251) (by decide +kernel), List.mem_of_getElem? (i := 909) (by decide +kernel), List.mem_of_getElem? (i := 910) (by decide +kernel)⟩
theorem lw_p30 : lw_okq (⟨"TriplicateForms$Stamp", "putText", "(Ljava/lang/String;)V"⟩, 2) := ⟨⟨by decide +kernel, by decide +kernel⟩, List.mem_of_getElem? (i := 251) (by decide +kernel), List.mem_of_getElem? (i := 915) (by decide +kernel), List.mem_of_getElem? (i := 916) (by decide +kernel)⟩
theorem lw_p31 : lw_okq (⟨"TriplicateForms$Stamp", "putWants", "(LTriplicateForms$Standing;I)V"⟩, 2) := ⟨⟨by decide +kernel, by decide +kernel⟩, List.mem_of_getElem? (i := 251) (by decide +kernel), List.mem_of_getElem? (i := 969) (by decide +kernel), List.mem_of_getElem? (i := 970) (by decide +kernel)⟩
def lw_privs_2 : List (MethodName × Nat) := [(⟨"TriplicateForms$Standing", "setHow", "(II)V"⟩, 10), (⟨"TriplicateForms$Standing", "openAnew", "(I)V"⟩, 10), (⟨"TriplicateForms$Standing", "goOneDay", "()V"⟩, 10), (⟨"TriplicateForms$Standing", "grant", "(I)V"⟩, 10), (⟨"TriplicateForms$Standing", "daysToSign", "(I)I"⟩, 10), (⟨"TriplicateForms$Matcher", "readSlots", "(LTriplicateForms$Standing;)V"⟩, 6), (⟨"TriplicateForms$Matcher", "mostFrom", "(II)I"⟩, 6), (⟨"TriplicateForms$Matcher", "findSlot", "(II)Z"⟩, 6), (⟨"TriplicateForms$Matcher", "slotOf", "(II)I"⟩, 6), (⟨"TriplicateForms$Matcher", "canBeLeft", "(II)Z"⟩, 6), (⟨"TriplicateForms$Adviser", "readThirds", "(LTriplicateForms$Standing;)I"⟩, 3), (⟨"TriplicateForms$Adviser", "coversAll", "(II)Z"⟩, 3), (⟨"TriplicateForms$Stamp", "putName", "(J)V"⟩, 2), (⟨"TriplicateForms$Stamp", "putSign", "(C)V"⟩, 2), (⟨"TriplicateForms$Stamp", "putText", "(Ljava/lang/String;)V"⟩, 2), (⟨"TriplicateForms$Stamp", "putWants", "(LTriplicateForms$Standing;I)V"⟩, 2)]
theorem lw_r2 : ∀ q ∈ lw_privs_2, lw_okq q := List.forall_mem_cons.mpr ⟨lw_p16, List.forall_mem_cons.mpr ⟨lw_p17, List.forall_mem_cons.mpr ⟨lw_p18, List.forall_mem_cons.mpr ⟨lw_p19, List.forall_mem_cons.mpr ⟨lw_p20, List.forall_mem_cons.mpr ⟨lw_p21, List.forall_mem_cons.mpr ⟨lw_p22, List.forall_mem_cons.mpr ⟨lw_p23, List.forall_mem_cons.mpr ⟨lw_p24, List.forall_mem_cons.mpr ⟨lw_p25, List.forall_mem_cons.mpr ⟨lw_p26, List.forall_mem_cons.mpr ⟨lw_p27, List.forall_mem_cons.mpr ⟨lw_p28, List.forall_mem_cons.mpr ⟨lw_p29, List.forall_mem_cons.mpr ⟨lw_p30, List.forall_mem_cons.mpr ⟨lw_p31, fun _ h => absurd h List.not_mem_nil⟩⟩⟩⟩⟩⟩⟩⟩⟩⟩⟩⟩⟩⟩⟩⟩
theorem lw_p32 : lw_okq (⟨"TriplicateForms$Standing", "draw", "(I)I"⟩, 10) := ⟨⟨by decide +kernel, by decide +kernel⟩, List.mem_of_getElem? (i := 134) (by decide +kernel), List.mem_of_getElem? (i := 997) (by decide +kernel), List.mem_of_getElem? (i := 998) (by decide +kernel)⟩
theorem lw_p33 : lw_okq (⟨"TriplicateForms$Standing", "performIfPossible", "(III)V"⟩, 10) := ⟨⟨by decide +kernel, by decide +kernel⟩, List.mem_of_getElem? (i := 134) (by decide +kernel), List.mem_of_getElem? (i := 1002) (by decide +kernel), List.mem_of_getElem? (i := 1003) (by decide +kernel)⟩
theorem lw_p34 : lw_okq (⟨"TriplicateForms$Book", "readLine", "(LTriplicateForms$Tape;LTriplicateForms$Roster;)Z"⟩, 9) := ⟨⟨by decide +kernel, by decide +kernel⟩, List.mem_of_getElem? (i := 266) (by decide +kernel), List.mem_of_getElem? (i := 1022) (by decide +kernel), List.mem_of_getElem? (i := 1023) (by decide +kernel)⟩
theorem lw_p35 : lw_okq (⟨"TriplicateForms$Book", "begin", "(LTriplicateForms$Tape;I)Z"⟩, 9) := ⟨⟨by decide +kernel, by decide +kernel⟩, List.mem_of_getElem? (i := 266) (by decide +kernel), List.mem_of_getElem? (i := 1029) (by decide +kernel), List.mem_of_getElem? (i := 1030) (by decide +kernel)⟩
theorem lw_p36 : lw_okq (⟨"TriplicateForms$Book", "readForm", "(LTriplicateForms$Tape;LTriplicateForms$Roster;[I)Z"⟩, 9) := ⟨⟨by decide +kernel, by decide +kernel⟩, List.mem_of_getElem? (i := 266) (by decide +kernel), List.mem_of_getElem? (i := 1035) (by decide +kernel), List.mem_of_getElem? (i := 1036) (by decide +kernel)⟩
theorem lw_p37 : lw_okq (⟨"TriplicateForms$Book", "keep", "([II)V"⟩, 9) := ⟨⟨by decide +kernel, by decide +kernel⟩, List.mem_of_getElem? (i := 266) (by decide +kernel), List.mem_of_getElem? (i := 1043) (by decide +kernel), List.mem_of_getElem? (i := 1044) (by decide +kernel)⟩
theorem lw_p38 : lw_okq (⟨"TriplicateForms$Book", "endLine", "(LTriplicateForms$Tape;)Z"⟩, 9) := ⟨⟨by decide +kernel, by decide +kernel⟩, List.mem_of_getElem? (i := 266) (by decide +kernel), List.mem_of_getElem? (i := 1047) (by decide +kernel), List.mem_of_getElem? (i := 1048) (by decide +kernel)⟩
theorem lw_p39 : lw_okq (⟨"TriplicateForms$Book", "readDays", "(LTriplicateForms$Tape;)Z"⟩, 9) := ⟨⟨by decide +kernel, by decide +kernel⟩, List.mem_of_getElem? (i := 266) (by decide +kernel), List.mem_of_getElem? (i := 1056) (by decide +kernel), List.mem_of_getElem? (i := 1057) (by decide +kernel)⟩
theorem lw_p40 : lw_okq (⟨"TriplicateForms$Book", "readDeed", "(LTriplicateForms$Tape;LTriplicateForms$Roster;)Z"⟩, 9) := ⟨⟨by decide +kernel, by decide +kernel⟩, List.mem_of_getElem? (i := 266) (by decide +kernel), List.mem_of_getElem? (i := 1062) (by decide +kernel), List.mem_of_getElem? (i := 1063) (by decide +kernel)⟩
theorem lw_p41 : lw_okq (⟨"TriplicateForms$Book", "setAct", "(LTriplicateForms$Tape;I)Z"⟩, 9) := ⟨⟨by decide +kernel, by decide +kernel⟩, List.mem_of_getElem? (i := 266) (by decide +kernel), List.mem_of_getElem? (i := 1068) (by decide +kernel), List.mem_of_getElem? (i := 1069) (by decide +kernel)⟩
theorem lw_p42 : lw_okq (⟨"TriplicateForms$Book", "readPerson", "(LTriplicateForms$Tape;LTriplicateForms$Roster;[I)Z"⟩, 9) := ⟨⟨by decide +kernel, by decide +kernel⟩, List.mem_of_getElem? (i := 266) (by decide +kernel), List.mem_of_getElem? (i := 1074) (by decide +kernel), List.mem_of_getElem? (i := 1075) (by decide +kernel)⟩
theorem lw_p43 : lw_okq (⟨"TriplicateForms$Sentence", "readCond", "(LTriplicateForms$Tape;LTriplicateForms$Roster;I)Z"⟩, 6) := ⟨⟨by decide +kernel, by decide +kernel⟩, List.mem_of_getElem? (i := 301) (by decide +kernel), List.mem_of_getElem? (i := 1109) (by decide +kernel), List.mem_of_getElem? (i := 1110) (by decide +kernel)⟩
theorem lw_p44 : lw_okq (⟨"TriplicateForms$Sentence", "readOne", "(LTriplicateForms$Tape;LTriplicateForms$Roster;I)Z"⟩, 6) := ⟨⟨by decide +kernel, by decide +kernel⟩, List.mem_of_getElem? (i := 301) (by decide +kernel), List.mem_of_getElem? (i := 1113) (by decide +kernel), List.mem_of_getElem? (i := 1114) (by decide +kernel)⟩
theorem lw_p45 : lw_okq (⟨"TriplicateForms$Sentence", "readOuterOne", "(LTriplicateForms$Tape;LTriplicateForms$Roster;I)Z"⟩, 6) := ⟨⟨by decide +kernel, by decide +kernel⟩, List.mem_of_getElem? (i := 301) (by decide +kernel), List.mem_of_getElem? (i := 1150) (by decide +kernel), List.mem_of_getElem? (i := 1151) (by decide +kernel)⟩
theorem lw_p46 : lw_okq (⟨"TriplicateForms$Sentence", "write", "(III)Z"⟩, 6) := ⟨⟨by decide +kernel, by decide +kernel⟩, List.mem_of_getElem? (i := 301) (by decide +kernel), List.mem_of_getElem? (i := 1155) (by decide +kernel), List.mem_of_getElem? (i := 1156) (by decide +kernel)⟩
theorem lw_p47 : lw_okq (⟨"TriplicateForms$Sentence", "readPersonsOne", "(LTriplicateForms$Tape;LTriplicateForms$Roster;LTriplicateForms$Word;)Z"⟩, 6) := ⟨⟨by decide +kernel, by decide +kernel⟩, List.mem_of_getElem? (i := 301) (by decide +kernel), List.mem_of_getElem? (i := 1159) (by decide +kernel), List.mem_of_getElem? (i := 1160) (by decide +kernel)⟩
def lw_privs_3 : List (MethodName × Nat) := [(⟨"TriplicateForms$Standing", "draw", "(I)I"⟩, 10), (⟨"TriplicateForms$Standing", "performIfPossible", "(III)V"⟩, 10), (⟨"TriplicateForms$Book", "readLine", "(LTriplicateForms$Tape;LTriplicateForms$Roster;)Z"⟩, 9), (⟨"TriplicateForms$Book", "begin", "(LTriplicateForms$Tape;I)Z"⟩, 9), (⟨"TriplicateForms$Book", "readForm", "(LTriplicateForms$Tape;LTriplicateForms$Roster;[I)Z"⟩, 9), (⟨"TriplicateForms$Book", "keep", "([II)V"⟩, 9), (⟨"TriplicateForms$Book", "endLine", "(LTriplicateForms$Tape;)Z"⟩, 9), (⟨"TriplicateForms$Book", "readDays", "(LTriplicateForms$Tape;)Z"⟩, 9), (⟨"TriplicateForms$Book", "readDeed", "(LTriplicateForms$Tape;LTriplicateForms$Roster;)Z"⟩, 9), (⟨"TriplicateForms$Book", "setAct", "(LTriplicateForms$Tape;I)Z"⟩, 9), (⟨"TriplicateForms$Book", "readPerson", "(LTriplicateForms$Tape;LTriplicateForms$Roster;[I)Z"⟩, 9), (⟨"TriplicateForms$Sentence", "readCond", "(LTriplicateForms$Tape;LTriplicateForms$Roster;I)Z"⟩, 6), (⟨"TriplicateForms$Sentence", "readOne", "(LTriplicateForms$Tape;LTriplicateForms$Roster;I)Z"⟩, 6), (⟨"TriplicateForms$Sentence", "readOuterOne", "(LTriplicateForms$Tape;LTriplicateForms$Roster;I)Z"⟩, 6), (⟨"TriplicateForms$Sentence", "write", "(III)Z"⟩, 6), (⟨"TriplicateForms$Sentence", "readPersonsOne", "(LTriplicateForms$Tape;LTriplicateForms$Roster;LTriplicateForms$Word;)Z"⟩, 6)]
theorem lw_r3 : ∀ q ∈ lw_privs_3, lw_okq q := List.forall_mem_cons.mpr ⟨lw_p32, List.forall_mem_cons.mpr ⟨lw_p33, List.forall_mem_cons.mpr ⟨lw_p34, List.forall_mem_cons.mpr ⟨lw_p35, List.forall_mem_cons.mpr ⟨lw_p36, List.forall_mem_cons.mpr ⟨lw_p37, List.forall_mem_cons.mpr ⟨lw_p38, List.forall_mem_cons.mpr ⟨lw_p39, List.forall_mem_cons.mpr ⟨lw_p40, List.forall_mem_cons.mpr ⟨lw_p41, List.forall_mem_cons.mpr ⟨lw_p42, List.forall_mem_cons.mpr ⟨lw_p43, List.forall_mem_cons.mpr ⟨lw_p44, List.forall_mem_cons.mpr ⟨lw_p45, List.forall_mem_cons.mpr ⟨lw_p46, List.forall_mem_cons.mpr ⟨lw_p47, fun _ h => absurd h List.not_mem_nil⟩⟩⟩⟩⟩⟩⟩⟩⟩⟩⟩⟩⟩⟩⟩⟩
theorem lw_p48 : lw_okq (⟨"TriplicateForms$Sentence", "readNumbersOne", "(LTriplicateForms$Tape;LTriplicateForms$Word;)Z"⟩, 6) := ⟨⟨by decide +kernel, by decide +kernel⟩, List.mem_of_getElem? (i := 301) (by decide +kernel), List.mem_of_getElem? (i := 1164) (by decide +kernel), List.mem_of_getElem? (i := 1165) (by decide +kernel)⟩
theorem lw_p49 : lw_okq (⟨"TriplicateForms$Sentence", "formsWith", "(LTriplicateForms$Standing;I)I"⟩, 6) := ⟨⟨by decide +kernel, by decide +kernel⟩, List.mem_of_getElem? (i := 301) (by decide +kernel), List.mem_of_getElem? (i := 1185) (by decide +kernel), List.mem_of_getElem? (i := 1186) (by decide +kernel)⟩
theorem lw_p50 : lw_okq (⟨"TriplicateForms$Sentence", "isSo", "(LTriplicateForms$Standing;II)Z"⟩, 6) := ⟨⟨by decide +kernel, by decide +kernel⟩, List.mem_of_getElem? (i := 301) (by decide +kernel), List.mem_of_getElem? (i := 1189) (by decide +kernel), List.mem_of_getElem? (i := 1190) (by decide +kernel)⟩
theorem lw_p51 : lw_okq (⟨"java/lang/Throwable", "fillInStackTrace", "(I)Ljava/lang/Throwable;"⟩, 6) := ⟨⟨by decide +kernel, by decide +kernel⟩, List.mem_of_getElem? (i := 1271) (by decide +kernel), List.mem_of_getElem? (i := 1269) (by decide +kernel), List.mem_of_getElem? (i := 1270) (by decide +kernel)⟩
theorem lw_p52 : lw_okq (⟨"TriplicateFormsModel", "come", "(I)V"⟩, 45) := ⟨⟨by decide +kernel, by decide +kernel⟩, List.mem_of_getElem? (i := 1332) (by decide +kernel), List.mem_of_getElem? (i := 1330) (by decide +kernel), List.mem_of_getElem? (i := 1331) (by decide +kernel)⟩
theorem lw_p53 : lw_okq (⟨"TriplicateFormsModel", "startSo", "()V"⟩, 45) := ⟨⟨by decide +kernel, by decide +kernel⟩, List.mem_of_getElem? (i := 1332) (by decide +kernel), List.mem_of_getElem? (i := 1344) (by decide +kernel), List.mem_of_getElem? (i := 1345) (by decide +kernel)⟩
theorem lw_p54 : lw_okq (⟨"TriplicateFormsModel", "openForm", "(I)V"⟩, 45) := ⟨⟨by decide +kernel, by decide +kernel⟩, List.mem_of_getElem? (i := 1332) (by decide +kernel), List.mem_of_getElem? (i := 1348) (by decide +kernel), List.mem_of_getElem? (i := 1349) (by decide +kernel)⟩
theorem lw_p55 : lw_okq (⟨"TriplicateFormsModel", "begin", "(I)V"⟩, 45) := ⟨⟨by decide +kernel, by decide +kernel⟩, List.mem_of_getElem? (i := 1332) (by decide +kernel), List.mem_of_getElem? (i := 1493) (by decide +kernel), List.mem_of_getElem? (i := 1494) (by decide +kernel)⟩
theorem lw_p56 : lw_okq (⟨"TriplicateFormsModel", "take", "()I"⟩, 45) := ⟨⟨by decide +kernel, by decide +kernel⟩, List.mem_of_getElem? (i := 1332) (by decide +kernel), List.mem_of_getElem? (i := 1497) (by decide +kernel), List.mem_of_getElem? (i := 1498) (by decide +kernel)⟩
theorem lw_p57 : lw_okq (⟨"TriplicateFormsModel", "go", "()V"⟩, 45) := ⟨⟨by decide +kernel, by decide +kernel⟩, List.mem_of_getElem? (i := 1332) (by decide +kernel), List.mem_of_getElem? (i := 1501) (by decide +kernel), List.mem_of_getElem? (i := 1502) (by decide +kernel)⟩
theorem lw_p58 : lw_okq (⟨"TriplicateFormsModel", "tapeAt", "(I)I"⟩, 45) := ⟨⟨by decide +kernel, by decide +kernel⟩, List.mem_of_getElem? (i := 1332) (by decide +kernel), List.mem_of_getElem? (i := 1511) (by decide +kernel), List.mem_of_getElem? (i := 1512) (by decide +kernel)⟩
theorem lw_p59 : lw_okq (⟨"TriplicateFormsModel", "readLine", "()Z"⟩, 45) := ⟨⟨by decide +kernel, by decide +kernel⟩, List.mem_of_getElem? (i := 1332) (by decide +kernel), List.mem_of_getElem? (i := 1517) (by decide +kernel), List.mem_of_getElem? (i := 1518) (by decide +kernel)⟩
theorem lw_p60 : lw_okq (⟨"TriplicateFormsModel", "isWord", "(I)Z"⟩, 45) := ⟨⟨by decide +kernel, by decide +kernel⟩, List.mem_of_getElem? (i := 1332) (by decide +kernel), List.mem_of_getElem? (i := 1521) (by decide +kernel), List.mem_of_getElem? (i := 1522) (by decide +kernel)⟩
theorem lw_p61 : lw_okq (⟨"TriplicateFormsModel", "readPerson", "()Z"⟩, 45) := ⟨⟨by decide +kernel, by decide +kernel⟩, List.mem_of_getElem? (i := 1332) (by decide +kernel), List.mem_of_getElem? (i := 1531) (by decide +kernel), List.mem_of_getElem? (i := 1532) (by decide +kernel)⟩
theorem lw_p62 : lw_okq (⟨"TriplicateFormsModel", "readFirst", "(II)Z"⟩, 45) := ⟨⟨by decide +kernel, by decide +kernel⟩, List.mem_of_getElem? (i := 1332) (by decide +kernel), List.mem_of_getElem? (i := 1535) (by decide +kernel), List.mem_of_getElem? (i := 1536) (by decide +kernel)⟩
theorem lw_p63 : lw_okq (⟨"TriplicateFormsModel", "bad", "(I)Z"⟩, 45) := ⟨⟨by decide +kernel, by decide +kernel⟩, List.mem_of_getElem? (i := 1332) (by decide +kernel), List.mem_of_getElem? (i := 1539) (by decide +kernel), List.mem_of_getElem? (i := 1540) (by decide +kernel)⟩
def lw_privs_4 : List (MethodName × Nat) := [(⟨"TriplicateForms$Sentence", "readNumbersOne", "(LTriplicateForms$Tape;LTriplicateForms$Word;)Z"⟩, 6), (⟨"TriplicateForms$Sentence", "formsWith", "(LTriplicateForms$Standing;I)I"⟩, 6), (⟨"TriplicateForms$Sentence", "isSo", "(LTriplicateForms$Standing;II)Z"⟩, 6), (⟨"java/lang/Throwable", "fillInStackTrace", "(I)Ljava/lang/Throwable;"⟩, 6), (⟨"TriplicateFormsModel", "come", "(I)V"⟩, 45), (⟨"TriplicateFormsModel", "startSo", "()V"⟩, 45), (⟨"TriplicateFormsModel", "openForm", "(I)V"⟩, 45), (⟨"TriplicateFormsModel", "begin", "(I)V"⟩, 45), (⟨"TriplicateFormsModel", "take", "()I"⟩, 45), (⟨"TriplicateFormsModel", "go", "()V"⟩, 45), (⟨"TriplicateFormsModel", "tapeAt", "(I)I"⟩, 45), (⟨"TriplicateFormsModel", "readLine", "()Z"⟩, 45), (⟨"TriplicateFormsModel", "isWord", "(I)Z"⟩, 45), (⟨"TriplicateFormsModel", "readPerson", "()Z"⟩, 45), (⟨"TriplicateFormsModel", "readFirst", "(II)Z"⟩, 45), (⟨"TriplicateFormsModel", "bad", "(I)Z"⟩, 45)]
theorem lw_r4 : ∀ q ∈ lw_privs_4, lw_okq q := List.forall_mem_cons.mpr ⟨lw_p48, List.forall_mem_cons.mpr ⟨lw_p49, List.forall_mem_cons.mpr ⟨lw_p50, List.forall_mem_cons.mpr ⟨lw_p51, List.forall_mem_cons.mpr ⟨lw_p52, List.forall_mem_cons.mpr ⟨lw_p53, List.forall_mem_cons.mpr ⟨lw_p54, List.forall_mem_cons.mpr ⟨lw_p55, List.forall_mem_cons.mpr ⟨lw_p56, List.forall_mem_cons.mpr ⟨lw_p57, List.forall_mem_cons.mpr ⟨lw_p58, List.forall_mem_cons.mpr ⟨lw_p59, List.forall_mem_cons.mpr ⟨lw_p60, List.forall_mem_cons.mpr ⟨lw_p61, List.forall_mem_cons.mpr ⟨lw_p62, List.forall_mem_cons.mpr ⟨lw_p63, fun _ h => absurd h List.not_mem_nil⟩⟩⟩⟩⟩⟩⟩⟩⟩⟩⟩⟩⟩⟩⟩⟩
theorem lw_p64 : lw_okq (⟨"TriplicateFormsModel", "readNew", "(I)Z"⟩, 45) := ⟨⟨by decide +kernel, by decide +kernel⟩, List.mem_of_getElem? (i := 1332) (by decide +kernel), List.mem_of_getElem? (i := 1543) (by decide +kernel), List.mem_of_getElem? (i := 1544) (by decide +kernel)⟩
theorem lw_p65 : lw_okq (⟨"TriplicateFormsModel", "isName", "()Z"⟩, 45) := ⟨⟨by decide +kernel, by decide +kernel⟩, List.mem_of_getElem? (i := 1332) (by decide +kernel), List.mem_of_getElem? (i := 1547) (by decide +kernel), List.mem_of_getElem? (i := 1548) (by decide +kernel)⟩
theorem lw_p66 : lw_okq (⟨"TriplicateFormsModel", "readGrudge", "()Z"⟩, 45) := ⟨⟨by decide +kernel, by decide +kernel⟩, List.mem_of_getElem? (i := 1332) (by decide +kernel), List.mem_of_getElem? (i := 1554) (by decide +kernel), List.mem_of_getElem? (i := 1555) (by decide +kernel)⟩
theorem lw_p67 : lw_okq (⟨"TriplicateFormsModel", "readPair", "()I"⟩, 45) := ⟨⟨by decide +kernel, by decide +kernel⟩, List.mem_of_getElem? (i := 1332) (by decide +kernel), List.mem_of_getElem? (i := 1558) (by decide +kernel), List.mem_of_getElem? (i := 1559) (by decide +kernel)⟩
theorem lw_p68 : lw_okq (⟨"TriplicateFormsModel", "isOne", "()Z"⟩, 45) := ⟨⟨by decide +kernel, by decide +kernel⟩, List.mem_of_getElem? (i := 1332) (by decide +kernel), List.mem_of_getElem? (i := 1562) (by decide +kernel), List.mem_of_getElem? (i := 1563) (by decide +kernel)⟩
theorem lw_p69 : lw_okq (⟨"TriplicateFormsModel", "readNumber", "(II)Z"⟩, 45) := ⟨⟨by decide +kernel, by decide +kernel⟩, List.mem_of_getElem? (i := 1332) (by decide +kernel), List.mem_of_getElem? (i := 1566) (by decide +kernel), List.mem_of_getElem? (i := 1567) (by decide +kernel)⟩
theorem lw_p70 : lw_okq (⟨"TriplicateFormsModel", "put", "(IZ)Z"⟩, 45) := ⟨⟨by decide +kernel, by decide +kernel⟩, List.mem_of_getElem? (i := 1332) (by decide +kernel), List.mem_of_getElem? (i := 1573) (by decide +kernel), List.mem_of_getElem? (i := 1574) (by decide +kernel)⟩
theorem lw_p71 : lw_okq (⟨"TriplicateFormsModel", "readShy", "()Z"⟩, 45) := ⟨⟨by decide +kernel, by decide +kernel⟩, List.mem_of_getElem? (i := 1332) (by decide +kernel), List.mem_of_getElem? (i := 1577) (by decide +kernel), List.mem_of_getElem? (i := 1578) (by decide +kernel)⟩
theorem lw_p72 : lw_okq (⟨"TriplicateFormsModel", "readForm", "()Z"⟩, 45) := ⟨⟨by decide +kernel, by decide +kernel⟩, List.mem_of_getElem? (i := 1332) (by decide +kernel), List.mem_of_getElem? (i := 1584) (by decide +kernel), List.mem_of_getElem? (i := 1585) (by decide +kernel)⟩
theorem lw_p73 : lw_okq (⟨"TriplicateFormsModel", "readRule", "()Z"⟩, 45) := ⟨⟨by decide +kernel, by decide +kernel⟩, List.mem_of_getElem? (i := 1332) (by decide +kernel), List.mem_of_getElem? (i := 1588) (by decide +kernel), List.mem_of_getElem? (i := 1589) (by decide +kernel)⟩
theorem lw_p74 : lw_okq (⟨"TriplicateFormsModel", "readEnd", "()Z"⟩, 45) := ⟨⟨by decide +kernel, by decide +kernel⟩, List.mem_of_getElem? (i := 1332) (by decide +kernel), List.mem_of_getElem? (i := 1592) (by decide +kernel), List.mem_of_getElem? (i := 1593) (by decide +kernel)⟩
theorem lw_p75 : lw_okq (⟨"TriplicateFormsModel", "isSign", "(I)Z"⟩, 45) := ⟨⟨by decide +kernel, by decide +kernel⟩, List.mem_of_getElem? (i := 1332) (by decide +kernel), List.mem_of_getElem? (i := 1596) (by decide +kernel), List.mem_of_getElem? (i := 1597) (by decide +kernel)⟩
theorem lw_p76 : lw_okq (⟨"TriplicateFormsModel", "isForm", "(I)Z"⟩, 45) := ⟨⟨by decide +kernel, by decide +kernel⟩, List.mem_of_getElem? (i := 1332) (by decide +kernel), List.mem_of_getElem? (i := 1608) (by decide +kernel), List.mem_of_getElem? (i := 1609) (by decide +kernel)⟩
theorem lw_p77 : lw_okq (⟨"TriplicateFormsModel", "refuse", "()I"⟩, 45) := ⟨⟨by decide +kernel, by decide +kernel⟩, List.mem_of_getElem? (i := 1332) (by decide +kernel), List.mem_of_getElem? (i := 1612) (by decide +kernel), List.mem_of_getElem? (i := 1613) (by decide +kernel)⟩
theorem lw_p78 : lw_okq (⟨"TriplicateFormsModel", "hurtOf", "(I)I"⟩, 45) := ⟨⟨by decide +kernel, by decide +kernel⟩, List.mem_of_getElem? (i := 1332) (by decide +kernel), List.mem_of_getElem? (i := 1616) (by decide +kernel), List.mem_of_getElem? (i := 1617) (by decide +kernel)⟩
theorem lw_p79 : lw_okq (⟨"TriplicateFormsModel", "signedOf", "(II)I"⟩, 45) := ⟨⟨by decide +kernel, by decide +kernel⟩, List.mem_of_getElem? (i := 1332) (by decide +kernel), List.mem_of_getElem? (i := 1620) (by decide +kernel), List.mem_of_getElem? (i := 1621) (by decide +kernel)⟩
def lw_privs_5 : List (MethodName × Nat) := [(⟨"TriplicateFormsModel", "readNew", "(I)Z"⟩, 45), (⟨"TriplicateFormsModel", "isName", "()Z"⟩, 45), (⟨"TriplicateFormsModel", "readGrudge", "()Z"⟩, 45), (⟨"TriplicateFormsModel", "readPair", "()I"⟩, 45), (⟨"TriplicateFormsModel", "isOne", "()Z"⟩, 45), (⟨"TriplicateFormsModel", "readNumber", "(II)Z"⟩, 45), (⟨"TriplicateFormsModel", "put", "(IZ)Z"⟩, 45), (⟨"TriplicateFormsModel", "readShy", "()Z"⟩, 45), (⟨"TriplicateFormsModel", "readForm", "()Z"⟩, 45), (⟨"TriplicateFormsModel", "readRule", "()Z"⟩, 45), (⟨"TriplicateFormsModel", "readEnd", "()Z"⟩, 45), (⟨"TriplicateFormsModel", "isSign", "(I)Z"⟩, 45), (⟨"TriplicateFormsModel", "isForm", "(I)Z"⟩, 45), (⟨"TriplicateFormsModel", "refuse", "()I"⟩, 45), (⟨"TriplicateFormsModel", "hurtOf", "(I)I"⟩, 45), (⟨"TriplicateFormsModel", "signedOf", "(II)I"⟩, 45)]
theorem lw_r5 : ∀ q ∈ lw_privs_5, lw_okq q := List.forall_mem_cons.mpr ⟨lw_p64, List.forall_mem_cons.mpr ⟨lw_p65, List.forall_mem_cons.mpr ⟨lw_p66, List.forall_mem_cons.mpr ⟨lw_p67, List.forall_mem_cons.mpr ⟨lw_p68, List.forall_mem_cons.mpr ⟨lw_p69, List.forall_mem_cons.mpr ⟨lw_p70, List.forall_mem_cons.mpr ⟨lw_p71, List.forall_mem_cons.mpr ⟨lw_p72, List.forall_mem_cons.mpr ⟨lw_p73, List.forall_mem_cons.mpr ⟨lw_p74, List.forall_mem_cons.mpr ⟨lw_p75, List.forall_mem_cons.mpr ⟨lw_p76, List.forall_mem_cons.mpr ⟨lw_p77, List.forall_mem_cons.mpr ⟨lw_p78, List.forall_mem_cons.mpr ⟨lw_p79, fun _ h => absurd h List.not_mem_nil⟩⟩⟩⟩⟩⟩⟩⟩⟩⟩⟩⟩⟩⟩⟩⟩
theorem lw_p80 : lw_okq (⟨"TriplicateFormsModel", "hurtFree", "(I)I"⟩, 45) := ⟨⟨by decide +kernel, by decide +kernel⟩, List.mem_of_getElem? (i := 1332) (by decide +kernel), List.mem_of_getElem? (i := 1624) (by decide +kernel), List.mem_of_getElem? (i := 1625) (by decide +kernel)⟩
theorem lw_p81 : lw_okq (⟨"TriplicateFormsModel", "grudgeOf", "(II)I"⟩, 45) := ⟨⟨by decide +kernel, by decide +kernel⟩, List.mem_of_getElem? (i := 1332) (by decide +kernel), List.mem_of_getElem? (i := 1628) (by decide +kernel), List.mem_of_getElem? (i := 1629) (by decide +kernel)⟩
theorem lw_p82 : lw_okq (⟨"TriplicateFormsModel", "isPerson", "(I)Z"⟩, 45) := ⟨⟨by decide +kernel, by decide +kernel⟩, List.mem_of_getElem? (i := 1332) (by decide +kernel), List.mem_of_getElem? (i := 1636) (by decide +kernel), List.mem_of_getElem? (i := 1637) (by decide +kernel)⟩
theorem lw_p83 : lw_okq (⟨"TriplicateFormsModel", "isRetired", "(I)Z"⟩, 45) := ⟨⟨by decide +kernel, by decide +kernel⟩, List.mem_of_getElem? (i := 1332) (by decide +kernel), List.mem_of_getElem? (i := 1640) (by decide +kernel), List.mem_of_getElem? (i := 1641) (by decide +kernel)⟩
theorem lw_p84 : lw_okq (⟨"TriplicateFormsModel", "sum", "(II)I"⟩, 45) := ⟨⟨by decide +kernel, by decide +kernel⟩, List.mem_of_getElem? (i := 1332) (by decide +kernel), List.mem_of_getElem? (i := 1644) (by decide +kernel), List.mem_of_getElem? (i := 1645) (by decide +kernel)⟩
theorem lw_p85 : lw_okq (⟨"TriplicateFormsModel", "those", "(I)I"⟩, 45) := ⟨⟨by decide +kernel, by decide +kernel⟩, List.mem_of_getElem? (i := 1332) (by decide +kernel), List.mem_of_getElem? (i := 1656) (by decide +kernel), List.mem_of_getElem? (i := 1657) (by decide +kernel)⟩
theorem lw_p86 : lw_okq (⟨"TriplicateFormsModel", "isClear", "(I)Z"⟩, 45) := ⟨⟨by decide +kernel, by decide +kernel⟩, List.mem_of_getElem? (i := 1332) (by decide +kernel), List.mem_of_getElem? (i := 1660) (by decide +kernel), List.mem_of_getElem? (i := 1661) (by decide +kernel)⟩
theorem lw_p87 : lw_okq (⟨"TriplicateFormsModel", "act", "(IIIZ)I"⟩, 45) := ⟨⟨by decide +kernel, by decide +kernel⟩, List.mem_of_getElem? (i := 1332) (by decide +kernel), List.mem_of_getElem? (i := 1668) (by decide +kernel), List.mem_of_getElem? (i := 1669) (by decide +kernel)⟩
theorem lw_p88 : lw_okq (⟨"TriplicateFormsModel", "why", "(III)I"⟩, 45) := ⟨⟨by decide +kernel, by decide +kernel⟩, List.mem_of_getElem? (i := 1332) (by decide +kernel), List.mem_of_getElem? (i := 1672) (by decide +kernel), List.mem_of_getElem? (i := 1673) (by decide +kernel)⟩
theorem lw_p89 : lw_okq (⟨"TriplicateFormsModel", "partOf", "(II)I"⟩, 45) := ⟨⟨by decide +kernel, by decide +kernel⟩, List.mem_of_getElem? (i := 1332) (by decide +kernel), List.mem_of_getElem? (i := 1676) (by decide +kernel), List.mem_of_getElem? (i := 1677) (by decide +kernel)⟩
theorem lw_p90 : lw_okq (⟨"TriplicateFormsModel", "partFree", "(III)I"⟩, 45) := ⟨⟨by decide +kernel, by decide +kernel⟩, List.mem_of_getElem? (i := 1332) (by decide +kernel), List.mem_of_getElem? (i := 1680) (by decide +kernel), List.mem_of_getElem? (i := 1681) (by decide +kernel)⟩
theorem lw_p91 : lw_okq (⟨"TriplicateFormsModel", "isThird", "(III)Z"⟩, 45) := ⟨⟨by decide +kernel, by decide +kernel⟩, List.mem_of_getElem? (i := 1332) (by decide +kernel), List.mem_of_getElem? (i := 1684) (by decide +kernel), List.mem_of_getElem? (i := 1685) (by decide +kernel)⟩
theorem lw_p92 : lw_okq (⟨"TriplicateFormsModel", "snap", "()V"⟩, 45) := ⟨⟨by decide +kernel, by decide +kernel⟩, List.mem_of_getElem? (i := 1332) (by decide +kernel), List.mem_of_getElem? (i := 1688) (by decide +kernel), List.mem_of_getElem? (i := 1689) (by decide +kernel)⟩
theorem lw_p93 : lw_okq (⟨"TriplicateFormsModel", "live", "(III)V"⟩, 45) := ⟨⟨by decide +kernel, by decide +kernel⟩, List.mem_of_getElem? (i := 1332) (by decide +kernel), List.mem_of_getElem? (i := 1692) (by decide +kernel), List.mem_of_getElem? (i := 1693) (by decide +kernel)⟩
theorem lw_p94 : lw_okq (⟨"TriplicateFormsModel", "doSign", "(II)V"⟩, 45) := ⟨⟨by decide +kernel, by decide +kernel⟩, List.mem_of_getElem? (i := 1332) (by decide +kernel), List.mem_of_getElem? (i := 1696) (by decide +kernel), List.mem_of_getElem? (i := 1697) (by decide +kernel)⟩
theorem lw_p95 : lw_okq (⟨"TriplicateFormsModel", "passDays", "(I)I"⟩, 45) := ⟨⟨by decide +kernel, by decide +kernel⟩, List.mem_of_getElem? (i := 1332) (by decide +kernel), List.mem_of_getElem? (i := 1732) (by decide +kernel), List.mem_of_getElem? (i := 1733) (by decide +kernel)⟩
def lw_privs_6 : List (MethodName × Nat) := [(⟨"TriplicateFormsModel", "hurtFree", "(I)I"⟩, 45), (⟨"TriplicateFormsModel", "grudgeOf", "(II)I"⟩, 45), (⟨"TriplicateFormsModel", "isPerson", "(I)Z"⟩, 45), (⟨"TriplicateFormsModel", "isRetired", "(I)Z"⟩, 45), (⟨"TriplicateFormsModel", "sum", "(II)I"⟩, 45), (⟨"TriplicateFormsModel", "those", "(I)I"⟩, 45), (⟨"TriplicateFormsModel", "isClear", "(I)Z"⟩, 45), (⟨"TriplicateFormsModel", "act", "(IIIZ)I"⟩, 45), (⟨"TriplicateFormsModel", "why", "(III)I"⟩, 45), (⟨"TriplicateFormsModel", "partOf", "(II)I"⟩, 45), (⟨"TriplicateFormsModel", "partFree", "(III)I"⟩, 45), (⟨"TriplicateFormsModel", "isThird", "(III)Z"⟩, 45), (⟨"TriplicateFormsModel", "snap", "()V"⟩, 45), (⟨"TriplicateFormsModel", "live", "(III)V"⟩, 45), (⟨"TriplicateFormsModel", "doSign", "(II)V"⟩, 45), (⟨"TriplicateFormsModel", "passDays", "(I)I"⟩, 45)]
theorem lw_r6 : ∀ q ∈ lw_privs_6, lw_okq q := List.forall_mem_cons.mpr ⟨lw_p80, List.forall_mem_cons.mpr ⟨lw_p81, List.forall_mem_cons.mpr ⟨lw_p82, List.forall_mem_cons.mpr ⟨lw_p83, List.forall_mem_cons.mpr ⟨lw_p84, List.forall_mem_cons.mpr ⟨lw_p85, List.forall_mem_cons.mpr ⟨lw_p86, List.forall_mem_cons.mpr ⟨lw_p87, List.forall_mem_cons.mpr ⟨lw_p88, List.forall_mem_cons.mpr ⟨lw_p89, List.forall_mem_cons.mpr ⟨lw_p90, List.forall_mem_cons.mpr ⟨lw_p91, List.forall_mem_cons.mpr ⟨lw_p92, List.forall_mem_cons.mpr ⟨lw_p93, List.forall_mem_cons.mpr ⟨lw_p94, List.forall_mem_cons.mpr ⟨lw_p95, fun _ h => absurd h List.not_mem_nil⟩⟩⟩⟩⟩⟩⟩⟩⟩⟩⟩⟩⟩⟩⟩⟩
theorem lw_p96 : lw_okq (⟨"TriplicateFormsModel", "oneDay", "()V"⟩, 45) := ⟨⟨by decide +kernel, by decide +kernel⟩, List.mem_of_getElem? (i := 1332) (by decide +kernel), List.mem_of_getElem? (i := 1739) (by decide +kernel), List.mem_of_getElem? (i := 1740) (by decide +kernel)⟩
theorem lw_p97 : lw_okq (⟨"TriplicateFormsModel", "canOf", "(I)I"⟩, 45) := ⟨⟨by decide +kernel, by decide +kernel⟩, List.mem_of_getElem? (i := 1332) (by decide +kernel), List.mem_of_getElem? (i := 1751) (by decide +kernel), List.mem_of_getElem? (i := 1752) (by decide +kernel)⟩
theorem lw_p98 : lw_okq (⟨"TriplicateFormsModel", "allCan", "(IZ)Z"⟩, 45) := ⟨⟨by decide +kernel, by decide +kernel⟩, List.mem_of_getElem? (i := 1332) (by decide +kernel), List.mem_of_getElem? (i := 1759) (by decide +kernel), List.mem_of_getElem? (i := 1760) (by decide +kernel)⟩
theorem lw_p99 : lw_okq (⟨"TriplicateFormsModel", "mostFrom", "(I)I"⟩, 45) := ⟨⟨by decide +kernel, by decide +kernel⟩, List.mem_of_getElem? (i := 1332) (by decide +kernel), List.mem_of_getElem? (i := 1767) (by decide +kernel), List.mem_of_getElem? (i := 1768) (by decide +kernel)⟩
theorem lw_p100 : lw_okq (⟨"TriplicateFormsModel", "findsSlot", "(I)Z"⟩, 45) := ⟨⟨by decide +kernel, by decide +kernel⟩, List.mem_of_getElem? (i := 1332) (by decide +kernel), List.mem_of_getElem? (i := 1771) (by decide +kernel), List.mem_of_getElem? (i := 1772) (by decide +kernel)⟩
theorem lw_p101 : lw_okq (⟨"TriplicateFormsModel", "slotOf", "(II)I"⟩, 45) := ⟨⟨by decide +kernel, by decide +kernel⟩, List.mem_of_getElem? (i := 1332) (by decide +kernel), List.mem_of_getElem? (i := 1775) (by decide +kernel), List.mem_of_getElem? (i := 1776) (by decide +kernel)⟩
theorem lw_p102 : lw_okq (⟨"TriplicateFormsModel", "leastForm", "(II)I"⟩, 45) := ⟨⟨by decide +kernel, by decide +kernel⟩, List.mem_of_getElem? (i := 1332) (by decide +kernel), List.mem_of_getElem? (i := 1779) (by decide +kernel), List.mem_of_getElem? (i := 1780) (by decide +kernel)⟩
theorem lw_p103 : lw_okq (⟨"TriplicateFormsModel", "fitsForm", "(II)Z"⟩, 45) := ⟨⟨by decide +kernel, by decide +kernel⟩, List.mem_of_getElem? (i := 1332) (by decide +kernel), List.mem_of_getElem? (i := 1791) (by decide +kernel), List.mem_of_getElem? (i := 1792) (by decide +kernel)⟩
theorem lw_p104 : lw_okq (⟨"TriplicateFormsModel", "servedBy", "(I)I"⟩, 45) := ⟨⟨by decide +kernel, by decide +kernel⟩, List.mem_of_getElem? (i := 1332) (by decide +kernel), List.mem_of_getElem? (i := 1809) (by decide +kernel), List.mem_of_getElem? (i := 1810) (by decide +kernel)⟩
theorem lw_p105 : lw_okq (⟨"TriplicateFormsModel", "hasThird", "(II)Z"⟩, 45) := ⟨⟨by decide +kernel, by decide +kernel⟩, List.mem_of_getElem? (i := 1332) (by decide +kernel), List.mem_of_getElem? (i := 1813) (by decide +kernel), List.mem_of_getElem? (i := 1814) (by decide +kernel)⟩
theorem lw_p106 : lw_okq (⟨"TriplicateFormsModel", "writeWord", "(J)V"⟩, 45) := ⟨⟨by decide +kernel, by decide +kernel⟩, List.mem_of_getElem? (i := 1332) (by decide +kernel), List.mem_of_getElem? (i := 1837) (by decide +kernel), List.mem_of_getElem? (i := 1838) (by decide +kernel)⟩
theorem lw_p107 : lw_okq (⟨"TriplicateFormsModel", "write", "(I)V"⟩, 45) := ⟨⟨by decide +kernel, by decide +kernel⟩, List.mem_of_getElem? (i := 1332) (by decide +kernel), List.mem_of_getElem? (i := 1841) (by decide +kernel), List.mem_of_getElem? (i := 1842) (by decide +kernel)⟩
theorem lw_p108 : lw_okq (⟨"TriplicateFormsModel", "writeState", "(I)V"⟩, 45) := ⟨⟨by decide +kernel, by decide +kernel⟩, List.mem_of_getElem? (i := 1332) (by decide +kernel), List.mem_of_getElem? (i := 1845) (by decide +kernel), List.mem_of_getElem? (i := 1846) (by decide +kernel)⟩
theorem lw_p109 : lw_okq (⟨"TriplicateFormsModel", "writeNext", "(J)V"⟩, 45) := ⟨⟨by decide +kernel, by decide +kernel⟩, List.mem_of_getElem? (i := 1332) (by decide +kernel), List.mem_of_getElem? (i := 1849) (by decide +kernel), List.mem_of_getElem? (i := 1850) (by decide +kernel)⟩
theorem lw_p110 : lw_okq (⟨"TriplicateFormsModel", "drawDays", "(II)I"⟩, 45) := ⟨⟨by decide +kernel, by decide +kernel⟩, List.mem_of_getElem? (i := 1332) (by decide +kernel), List.mem_of_getElem? (i := 1861) (by decide +kernel), List.mem_of_getElem? (i := 1862) (by decide +kernel)⟩
theorem lw_p111 : lw_okq (⟨"TriplicateFormsModel", "drawsFor", "(I)V"⟩, 45) := ⟨⟨by decide +kernel, by decide +kernel⟩, List.mem_of_getElem? (i := 1332) (by decide +kernel), List.mem_of_getElem? (i := 1865) (by decide +kernel), List.mem_of_getElem? (i := 1866) (by decide +kernel)⟩
def lw_privs_7 : List (MethodName × Nat) := [(⟨"TriplicateFormsModel", "oneDay", "()V"⟩, 45), (⟨"TriplicateFormsModel", "canOf", "(I)I"⟩, 45), (⟨"TriplicateFormsModel", "allCan", "(IZ)Z"⟩, 45), (⟨"TriplicateFormsModel", "mostFrom", "(I)I"⟩, 45), (⟨"TriplicateFormsModel", "findsSlot", "(I)Z"⟩, 45), (⟨"TriplicateFormsModel", "slotOf", "(II)I"⟩, 45), (⟨"TriplicateFormsModel", "leastForm", "(II)I"⟩, 45), (⟨"TriplicateFormsModel", "fitsForm", "(II)Z"⟩, 45), (⟨"TriplicateFormsModel", "servedBy", "(I)I"⟩, 45), (⟨"TriplicateFormsModel", "hasThird", "(II)Z"⟩, 45), (⟨"TriplicateFormsModel", "writeWord", "(J)V"⟩, 45), (⟨"TriplicateFormsModel", "write", "(I)V"⟩, 45), (⟨"TriplicateFormsModel", "writeState", "(I)V"⟩, 45), (⟨"TriplicateFormsModel", "writeNext", "(J)V"⟩, 45), (⟨"TriplicateFormsModel", "drawDays", "(II)I"⟩, 45), (⟨"TriplicateFormsModel", "drawsFor", "(I)V"⟩, 45)]
theorem lw_r7 : ∀ q ∈ lw_privs_7, lw_okq q := List.forall_mem_cons.mpr ⟨lw_p96, List.forall_mem_cons.mpr ⟨lw_p97, List.forall_mem_cons.mpr ⟨lw_p98, List.forall_mem_cons.mpr ⟨lw_p99, List.forall_mem_cons.mpr ⟨lw_p100, List.forall_mem_cons.mpr ⟨lw_p101, List.forall_mem_cons.mpr ⟨lw_p102, List.forall_mem_cons.mpr ⟨lw_p103, List.forall_mem_cons.mpr ⟨lw_p104, List.forall_mem_cons.mpr ⟨lw_p105, List.forall_mem_cons.mpr ⟨lw_p106, List.forall_mem_cons.mpr ⟨lw_p107, List.forall_mem_cons.mpr ⟨lw_p108, List.forall_mem_cons.mpr ⟨lw_p109, List.forall_mem_cons.mpr ⟨lw_p110, List.forall_mem_cons.mpr ⟨lw_p111, fun _ h => absurd h List.not_mem_nil⟩⟩⟩⟩⟩⟩⟩⟩⟩⟩⟩⟩⟩⟩⟩⟩
theorem lw_p112 : lw_okq (⟨"TriplicateFormsModel", "draw", "(I)I"⟩, 45) := ⟨⟨by decide +kernel, by decide +kernel⟩, List.mem_of_getElem? (i := 1332) (by decide +kernel), List.mem_of_getElem? (i := 1869) (by decide +kernel), List.mem_of_getElem? (i := 1870) (by decide +kernel)⟩
theorem lw_p113 : lw_okq (⟨"TriplicateFormsModel", "layAside", "()V"⟩, 45) := ⟨⟨by decide +kernel, by decide +kernel⟩, List.mem_of_getElem? (i := 1332) (by decide +kernel), List.mem_of_getElem? (i := 1878) (by decide +kernel), List.mem_of_getElem? (i := 1879) (by decide +kernel)⟩
theorem lw_p114 : lw_okq (⟨"TriplicateFormsModel", "takeBack", "()V"⟩, 45) := ⟨⟨by decide +kernel, by decide +kernel⟩, List.mem_of_getElem? (i := 1332) (by decide +kernel), List.mem_of_getElem? (i := 1882) (by decide +kernel), List.mem_of_getElem? (i := 1883) (by decide +kernel)⟩
theorem lw_p115 : lw_okq (⟨"TriplicateFormsModel", "readBookLine", "()Z"⟩, 45) := ⟨⟨by decide +kernel, by decide +kernel⟩, List.mem_of_getElem? (i := 1332) (by decide +kernel), List.mem_of_getElem? (i := 1890) (by decide +kernel), List.mem_of_getElem? (i := 1891) (by decide +kernel)⟩
theorem lw_p116 : lw_okq (⟨"TriplicateFormsModel", "readDoes", "(I)Z"⟩, 45) := ⟨⟨by decide +kernel, by decide +kernel⟩, List.mem_of_getElem? (i := 1332) (by decide +kernel), List.mem_of_getElem? (i := 1894) (by decide +kernel), List.mem_of_getElem? (i := 1895) (by decide +kernel)⟩
theorem lw_p117 : lw_okq (⟨"TriplicateFormsModel", "readFormName", "()Z"⟩, 45) := ⟨⟨by decide +kernel, by decide +kernel⟩, List.mem_of_getElem? (i := 1332) (by decide +kernel), List.mem_of_getElem? (i := 1898) (by decide +kernel), List.mem_of_getElem? (i := 1899) (by decide +kernel)⟩
theorem lw_p118 : lw_okq (⟨"TriplicateFormsModel", "readNamed", "(II)Z"⟩, 45) := ⟨⟨by decide +kernel, by decide +kernel⟩, List.mem_of_getElem? (i := 1332) (by decide +kernel), List.mem_of_getElem? (i := 1902) (by decide +kernel), List.mem_of_getElem? (i := 1903) (by decide +kernel)⟩
theorem lw_p119 : lw_okq (⟨"TriplicateFormsModel", "keep", "(IZ)Z"⟩, 45) := ⟨⟨by decide +kernel, by decide +kernel⟩, List.mem_of_getElem? (i := 1332) (by decide +kernel), List.mem_of_getElem? (i := 1906) (by decide +kernel), List.mem_of_getElem? (i := 1907) (by decide +kernel)⟩
theorem lw_p120 : lw_okq (⟨"TriplicateFormsModel", "readPersonName", "()Z"⟩, 45) := ⟨⟨by decide +kernel, by decide +kernel⟩, List.mem_of_getElem? (i := 1332) (by decide +kernel), List.mem_of_getElem? (i := 1910) (by decide +kernel), List.mem_of_getElem? (i := 1911) (by decide +kernel)⟩
theorem lw_p121 : lw_okq (⟨"TriplicateFormsModel", "goBy", "(I)I"⟩, 45) := ⟨⟨by decide +kernel, by decide +kernel⟩, List.mem_of_getElem? (i := 1332) (by decide +kernel), List.mem_of_getElem? (i := 1914) (by decide +kernel), List.mem_of_getElem? (i := 1915) (by decide +kernel)⟩
theorem lw_p122 : lw_okq (⟨"TriplicateFormsModel", "stay", "(Z)V"⟩, 45) := ⟨⟨by decide +kernel, by decide +kernel⟩, List.mem_of_getElem? (i := 1332) (by decide +kernel), List.mem_of_getElem? (i := 1918) (by decide +kernel), List.mem_of_getElem? (i := 1919) (by decide +kernel)⟩
theorem lw_p123 : lw_okq (⟨"TriplicateFormsModel", "readOr", "()Z"⟩, 45) := ⟨⟨by decide +kernel, by decide +kernel⟩, List.mem_of_getElem? (i := 1332) (by decide +kernel), List.mem_of_getElem? (i := 1930) (by decide +kernel), List.mem_of_getElem? (i := 1931) (by decide +kernel)⟩
theorem lw_p124 : lw_okq (⟨"TriplicateFormsModel", "readAnd", "()Z"⟩, 45) := ⟨⟨by decide +kernel, by decide +kernel⟩, List.mem_of_getElem? (i := 1332) (by decide +kernel), List.mem_of_getElem? (i := 1934) (by decide +kernel), List.mem_of_getElem? (i := 1935) (by decide +kernel)⟩
theorem lw_p125 : lw_okq (⟨"TriplicateFormsModel", "readSaid", "()Z"⟩, 45) := ⟨⟨by decide +kernel, by decide +kernel⟩, List.mem_of_getElem? (i := 1332) (by decide +kernel), List.mem_of_getElem? (i := 1938) (by decide +kernel), List.mem_of_getElem? (i := 1939) (by decide +kernel)⟩
theorem lw_p126 : lw_okq (⟨"TriplicateFormsModel", "readBracket", "()Z"⟩, 45) := ⟨⟨by decide +kernel, by decide +kernel⟩, List.mem_of_getElem? (i := 1332) (by decide +kernel), List.mem_of_getElem? (i := 1942) (by decide +kernel), List.mem_of_getElem? (i := 1943) (by decide +kernel)⟩
theorem lw_p127 : lw_okq (⟨"TriplicateFormsModel", "readNot", "()Z"⟩, 45) := ⟨⟨by decide +kernel, by decide +kernel⟩, List.mem_of_getElem? (i := 1332) (by decide +kernel), List.mem_of_getElem? (i := 1946) (by decide +kernel), List.mem_of_getElem? (i := 1947) (by decide +kernel)⟩
def lw_privs_8 : List (MethodName × Nat) := [(⟨"TriplicateFormsModel", "draw", "(I)I"⟩, 45), (⟨"TriplicateFormsModel", "layAside", "()V"⟩, 45), (⟨"TriplicateFormsModel", "takeBack", "()V"⟩, 45), (⟨"TriplicateFormsModel", "readBookLine", "()Z"⟩, 45), (⟨"TriplicateFormsModel", "readDoes", "(I)Z"⟩, 45), (⟨"TriplicateFormsModel", "readFormName", "()Z"⟩, 45), (⟨"TriplicateFormsModel", "readNamed", "(II)Z"⟩, 45), (⟨"TriplicateFormsModel", "keep", "(IZ)Z"⟩, 45), (⟨"TriplicateFormsModel", "readPersonName", "()Z"⟩, 45), (⟨"TriplicateFormsModel", "goBy", "(I)I"⟩, 45), (⟨"TriplicateFormsModel", "stay", "(Z)V"⟩, 45), (⟨"TriplicateFormsModel", "readOr", "()Z"⟩, 45), (⟨"TriplicateFormsModel", "readAnd", "()Z"⟩, 45), (⟨"TriplicateFormsModel", "readSaid", "()Z"⟩, 45), (⟨"TriplicateFormsModel", "readBracket", "()Z"⟩, 45), (⟨"TriplicateFormsModel", "readNot", "()Z"⟩, 45)]
theorem lw_r8 : ∀ q ∈ lw_privs_8, lw_okq q := List.forall_mem_cons.mpr ⟨lw_p112, List.forall_mem_cons.mpr ⟨lw_p113, List.forall_mem_cons.mpr ⟨lw_p114, List.forall_mem_cons.mpr ⟨lw_p115, List.forall_mem_cons.mpr ⟨lw_p116, List.forall_mem_cons.mpr ⟨lw_p117, List.forall_mem_cons.mpr ⟨lw_p118, List.forall_mem_cons.mpr ⟨lw_p119, List.forall_mem_cons.mpr ⟨lw_p120, List.forall_mem_cons.mpr ⟨lw_p121, List.forall_mem_cons.mpr ⟨lw_p122, List.forall_mem_cons.mpr ⟨lw_p123, List.forall_mem_cons.mpr ⟨lw_p124, List.forall_mem_cons.mpr ⟨lw_p125, List.forall_mem_cons.mpr ⟨lw_p126, List.forall_mem_cons.mpr ⟨lw_p127, fun _ h => absurd h List.not_mem_nil⟩⟩⟩⟩⟩⟩⟩⟩⟩⟩⟩⟩⟩⟩⟩⟩
theorem lw_p128 : lw_okq (⟨"TriplicateFormsModel", "saysOne", "(IIII)I"⟩, 45) := ⟨⟨by decide +kernel, by decide +kernel⟩, List.mem_of_getElem? (i := 1332) (by decide +kernel), List.mem_of_getElem? (i := 1950) (by decide +kernel), List.mem_of_getElem? (i := 1951) (by decide +kernel)⟩
theorem lw_p129 : lw_okq (⟨"TriplicateFormsModel", "readOf", "(I)Z"⟩, 45) := ⟨⟨by decide +kernel, by decide +kernel⟩, List.mem_of_getElem? (i := 1332) (by decide +kernel), List.mem_of_getElem? (i := 1954) (by decide +kernel), List.mem_of_getElem? (i := 1955) (by decide +kernel)⟩
theorem lw_p130 : lw_okq (⟨"TriplicateFormsModel", "readCompare", "(I)Z"⟩, 45) := ⟨⟨by decide +kernel, by decide +kernel⟩, List.mem_of_getElem? (i := 1332) (by decide +kernel), List.mem_of_getElem? (i := 1958) (by decide +kernel), List.mem_of_getElem? (i := 1959) (by decide +kernel)⟩
theorem lw_p131 : lw_okq (⟨"TriplicateFormsModel", "holds", "(II)Z"⟩, 45) := ⟨⟨by decide +kernel, by decide +kernel⟩, List.mem_of_getElem? (i := 1332) (by decide +kernel), List.mem_of_getElem? (i := 1966) (by decide +kernel), List.mem_of_getElem? (i := 1967) (by decide +kernel)⟩
theorem lw_p132 : lw_okq (⟨"TriplicateFormsModel", "hasSigned", "(II)Z"⟩, 45) := ⟨⟨by decide +kernel, by decide +kernel⟩, List.mem_of_getElem? (i := 1332) (by decide +kernel), List.mem_of_getElem? (i := 1970) (by decide +kernel), List.mem_of_getElem? (i := 1971) (by decide +kernel)⟩
theorem lw_p133 : lw_okq (⟨"TriplicateFormsModel", "partsOf", "(I)I"⟩, 45) := ⟨⟨by decide +kernel, by decide +kernel⟩, List.mem_of_getElem? (i := 1332) (by decide +kernel), List.mem_of_getElem? (i := 1974) (by decide +kernel), List.mem_of_getElem? (i := 1975) (by decide +kernel)⟩
def lw_privs_9 : List (MethodName × Nat) := [(⟨"TriplicateFormsModel", "saysOne", "(IIII)I"⟩, 45), (⟨"TriplicateFormsModel", "readOf", "(I)Z"⟩, 45), (⟨"TriplicateFormsModel", "readCompare", "(I)Z"⟩, 45), (⟨"TriplicateFormsModel", "holds", "(II)Z"⟩, 45), (⟨"TriplicateFormsModel", "hasSigned", "(II)Z"⟩, 45), (⟨"TriplicateFormsModel", "partsOf", "(I)I"⟩, 45)]
theorem lw_r9 : ∀ q ∈ lw_privs_9, lw_okq q := List.forall_mem_cons.mpr ⟨lw_p128, List.forall_mem_cons.mpr ⟨lw_p129, List.forall_mem_cons.mpr ⟨lw_p130, List.forall_mem_cons.mpr ⟨lw_p131, List.forall_mem_cons.mpr ⟨lw_p132, List.forall_mem_cons.mpr ⟨lw_p133, fun _ h => absurd h List.not_mem_nil⟩⟩⟩⟩⟩⟩
def lw_privs : List (MethodName × Nat) := lw_privs_1 ++ (lw_privs_2 ++ (lw_privs_3 ++ (lw_privs_4 ++ (lw_privs_5 ++ (lw_privs_6 ++ (lw_privs_7 ++ (lw_privs_8 ++ (lw_privs_9))))))))
def lw_tbl : List Cond := k2_sels lw_privs ++ tables_1
theorem lw_privs_ok : ∀ q ∈ lw_privs, lw_okq q := by
  show ∀ q ∈ lw_privs_1 ++ (lw_privs_2 ++ (lw_privs_3 ++ (lw_privs_4 ++ (lw_privs_5 ++ (lw_privs_6 ++ (lw_privs_7 ++ (lw_privs_8 ++ (lw_privs_9)))))))), lw_okq q
  exact List.forall_mem_append.mpr ⟨lw_r1, List.forall_mem_append.mpr ⟨lw_r2, List.forall_mem_append.mpr ⟨lw_r3, List.forall_mem_append.mpr ⟨lw_r4, List.forall_mem_append.mpr ⟨lw_r5, List.forall_mem_append.mpr ⟨lw_r6, List.forall_mem_append.mpr ⟨lw_r7, List.forall_mem_append.mpr ⟨lw_r8, lw_r9⟩⟩⟩⟩⟩⟩⟩⟩
-- ===== end of PART A; then your names; then what follows =====
end
section
/-! the classes: their fields in the order of the slots, and their types (written by a program) -/
def kT (l : List (String × String × String × Bool)) : u_T := fun k => l.getD k ("", "", "", false)
def kF0 : List (String × String × String × Bool) := [("TriplicateForms$Adviser", "thirds", "[I", true), ("TriplicateForms$Adviser", "toAsk", "I", false), ("TriplicateForms$Adviser", "covering", "I", false)]
def kY0 : List FieldType := [.array .int, .int, .int]
def kF1 : List (String × String × String × Bool) := [("TriplicateForms$Book", "acts", "[I", true), ("TriplicateForms$Book", "firsts", "[I", true), ("TriplicateForms$Book", "seconds", "[I", true), ("TriplicateForms$Book", "lines", "I", false), ("TriplicateForms$Book", "gone", "Z", false), ("TriplicateForms$Book", "why", "I", false), ("TriplicateForms$Book", "ahead", "I", false), ("TriplicateForms$Book", "dayThen", "I", false), ("TriplicateForms$Book", "grantedThen", "I", false)]
def kY1 : List FieldType := [.array .int, .array .int, .array .int, .int, .boolean, .int, .int, .int, .int]
def kF2 : List (String × String × String × Bool) := [("TriplicateForms$Image", "rosterThen", "LTriplicateForms$Roster;", true), ("TriplicateForms$Image", "standingThen", "LTriplicateForms$Standing;", true), ("TriplicateForms$Image", "sentenceThen", "LTriplicateForms$Sentence;", true), ("TriplicateForms$Image", "kept", "Z", false)]
def kY2 : List FieldType := [.object "TriplicateForms$Roster", .object "TriplicateForms$Standing", .object "TriplicateForms$Sentence", .boolean]
def kF3 : List (String × String × String × Bool) := [("TriplicateForms$Matcher", "slots", "[I", true), ("TriplicateForms$Matcher", "holders", "[I", true), ("TriplicateForms$Matcher", "chosen", "[I", true), ("TriplicateForms$Matcher", "persons", "I", false), ("TriplicateForms$Matcher", "forms", "I", false), ("TriplicateForms$Matcher", "tried", "I", false)]
def kY3 : List FieldType := [.array .int, .array .int, .array .int, .int, .int, .int]
def kF4 : List (String × String × String × Bool) := [("TriplicateForms$Roster", "personNames", "[J", true), ("TriplicateForms$Roster", "formNames", "[J", true), ("TriplicateForms$Roster", "about", "[I", true), ("TriplicateForms$Roster", "span", "[I", true), ("TriplicateForms$Roster", "shy", "[I", true), ("TriplicateForms$Roster", "ruleTold", "Z", false), ("TriplicateForms$Roster", "persons", "I", false), ("TriplicateForms$Roster", "forms", "I", false), ("TriplicateForms$Roster", "anyThird", "Z", false)]
def kY4 : List FieldType := [.array .long, .array .long, .array .int, .array .int, .array .int, .boolean, .int, .int, .boolean]
def kF5 : List (String × String × String × Bool) := [("TriplicateForms$Sentence", "kinds", "[I", true), ("TriplicateForms$Sentence", "whats", "[I", true), ("TriplicateForms$Sentence", "numbers", "[I", true), ("TriplicateForms$Sentence", "answers", "[I", true), ("TriplicateForms$Sentence", "length", "I", false), ("TriplicateForms$Sentence", "ones", "I", false)]
def kY5 : List FieldType := [.array .int, .array .int, .array .int, .array .int, .int, .int]
def kF6 : List (String × String × String × Bool) := [("TriplicateForms$Stamp", "signs", "[C", true), ("TriplicateForms$Stamp", "length", "I", false)]
def kY6 : List FieldType := [.array .char, .int]
def kF7 : List (String × String × String × Bool) := [("TriplicateForms$Standing", "roster", "LTriplicateForms$Roster;", true), ("TriplicateForms$Standing", "grudges", "[I", true), ("TriplicateForms$Standing", "signedToday", "[I", true), ("TriplicateForms$Standing", "timesSigned", "[I", true), ("TriplicateForms$Standing", "how", "[I", true), ("TriplicateForms$Standing", "daysToGo", "[I", true), ("TriplicateForms$Standing", "signers", "[I", true), ("TriplicateForms$Standing", "retired", "I", false), ("TriplicateForms$Standing", "day", "I", false), ("TriplicateForms$Standing", "drawState", "I", false)]
def kY7 : List FieldType := [.object "TriplicateForms$Roster", .array .int, .array .int, .array .int, .array .int, .array .int, .array .int, .int, .int, .int]
def kF8 : List (String × String × String × Bool) := [("TriplicateForms$Tape", "bytes", "[B", true), ("TriplicateForms$Tape", "length", "I", false), ("TriplicateForms$Tape", "most", "I", false), ("TriplicateForms$Tape", "at", "I", false), ("TriplicateForms$Tape", "kind", "I", false), ("TriplicateForms$Tape", "place", "I", false), ("TriplicateForms$Tape", "value", "I", false), ("TriplicateForms$Tape", "letters", "J", false), ("TriplicateForms$Tape", "meaning", "LTriplicateForms$Word;", false), ("TriplicateForms$Tape", "faultKind", "I", false), ("TriplicateForms$Tape", "faultPlace", "I", false)]
def kY8 : List FieldType := [.array .byte, .int, .int, .int, .int, .int, .int, .long, .object "TriplicateForms$Word", .int, .int]
def kF9 : List (String × String × String × Bool) := [("TriplicateForms$Undos", "kept", "[LTriplicateForms$Standing;", true), ("TriplicateForms$Undos", "next", "I", false), ("TriplicateForms$Undos", "count", "I", false)]
def kY9 : List FieldType := [.array (.object "TriplicateForms$Standing"), .int, .int]
def kF10 : List (String × String × String × Bool) := [("TriplicateForms", "tape", "LTriplicateForms$Tape;", true), ("TriplicateForms", "roster", "LTriplicateForms$Roster;", true), ("TriplicateForms", "nextRoster", "LTriplicateForms$Roster;", true), ("TriplicateForms", "standing", "LTriplicateForms$Standing;", true), ("TriplicateForms", "trial", "LTriplicateForms$Standing;", true), ("TriplicateForms", "undos", "LTriplicateForms$Undos;", true), ("TriplicateForms", "images", "[LTriplicateForms$Image;", true), ("TriplicateForms", "matcher", "LTriplicateForms$Matcher;", true), ("TriplicateForms", "adviser", "LTriplicateForms$Adviser;", true), ("TriplicateForms", "stamp", "LTriplicateForms$Stamp;", true), ("TriplicateForms", "book", "LTriplicateForms$Book;", true), ("TriplicateForms", "sentence", "LTriplicateForms$Sentence;", false), ("TriplicateForms", "nextSentence", "LTriplicateForms$Sentence;", false), ("TriplicateForms", "latestFault", "I", false)]
def kY10 : List FieldType := [.object "TriplicateForms$Tape", .object "TriplicateForms$Roster", .object "TriplicateForms$Roster", .object "TriplicateForms$Standing", .object "TriplicateForms$Standing", .object "TriplicateForms$Undos", .array (.object "TriplicateForms$Image"), .object "TriplicateForms$Matcher", .object "TriplicateForms$Adviser", .object "TriplicateForms$Stamp", .object "TriplicateForms$Book", .object "TriplicateForms$Sentence", .object "TriplicateForms$Sentence", .int]
def kF11 : List (String × String × String × Bool) := [("TriplicateFormsModel", "thrown", "I", false), ("TriplicateFormsModel", "tape", "[I", true), ("TriplicateFormsModel", "taped", "I", false), ("TriplicateFormsModel", "size", "I", false), ("TriplicateFormsModel", "limit", "I", false), ("TriplicateFormsModel", "to", "I", false), ("TriplicateFormsModel", "from", "I", false), ("TriplicateFormsModel", "kind", "I", false), ("TriplicateFormsModel", "number", "I", false), ("TriplicateFormsModel", "sign", "I", false), ("TriplicateFormsModel", "fault", "I", false), ("TriplicateFormsModel", "place", "I", false), ("TriplicateFormsModel", "word", "J", false), ("TriplicateFormsModel", "told", "I", false), ("TriplicateFormsModel", "now", "[I", true), ("TriplicateFormsModel", "read", "[I", true), ("TriplicateFormsModel", "kept", "[I", true), ("TriplicateFormsModel", "snaps", "[I", true), ("TriplicateFormsModel", "aside", "[I", true), ("TriplicateFormsModel", "name", "[J", true), ("TriplicateFormsModel", "readName", "[J", true), ("TriplicateFormsModel", "keptName", "[J", true), ("TriplicateFormsModel", "isKept", "[Z", true), ("TriplicateFormsModel", "snapMany", "I", false), ("TriplicateFormsModel", "hasRule", "Z", false), ("TriplicateFormsModel", "slot", "[I", true), ("TriplicateFormsModel", "matched", "[I", true), ("TriplicateFormsModel", "seen", "[Z", true), ("TriplicateFormsModel", "closed", "[Z", true), ("TriplicateFormsModel", "matchedMany", "I", false), ("TriplicateFormsModel", "hasMatched", "Z", false), ("TriplicateFormsModel", "asking", "I", false), ("TriplicateFormsModel", "covering", "I", false), ("TriplicateFormsModel", "text", "[I", true), ("TriplicateFormsModel", "texts", "I", false), ("TriplicateFormsModel", "seed", "I", false), ("TriplicateFormsModel", "line", "[I", true), ("TriplicateFormsModel", "written", "[I", true), ("TriplicateFormsModel", "lineMany", "I", false), ("TriplicateFormsModel", "hasWritten", "Z", false), ("TriplicateFormsModel", "node", "[I", true), ("TriplicateFormsModel", "nodes", "I", false), ("TriplicateFormsModel", "onesMany", "I", false), ("TriplicateFormsModel", "within", "I", false), ("TriplicateFormsModel", "top", "I", false)]
def kY11 : List FieldType := [.int, .array .int, .int, .int, .int, .int, .int, .int, .int, .int, .int, .int, .long, .int, .array .int, .array .int, .array .int, .array .int, .array .int, .array .long, .array .long, .array .long, .array .boolean, .int, .boolean, .array .int, .array .int, .array .boolean, .array .boolean, .int, .boolean, .int, .int, .array .int, .int, .int, .array .int, .array .int, .int, .boolean, .array .int, .int, .int, .int, .int]
def kCl : List vw_C := [("TriplicateForms$Adviser", kT kF0, 3), ("TriplicateForms$Book", kT kF1, 9), ("TriplicateForms$Image", kT kF2, 4), ("TriplicateForms$Matcher", kT kF3, 6), ("TriplicateForms$Roster", kT kF4, 9), ("TriplicateForms$Sentence", kT kF5, 6), ("TriplicateForms$Stamp", kT kF6, 2), ("TriplicateForms$Standing", kT kF7, 10), ("TriplicateForms$Tape", kT kF8, 11), ("TriplicateForms$Undos", kT kF9, 3), ("TriplicateForms", kT kF10, 14), ("TriplicateFormsModel", kT kF11, 45)]
def kTys : List (List FieldType) := [kY0, kY1, kY2, kY3, kY4, kY5, kY6, kY7, kY8, kY9, kY10, kY11]
def kTy (ci : Nat) (k : Nat) : FieldType := (kTys.getD ci []).getD k .int
def LT : List Cond := lw_tbl.filter goodWord
/-- words among the tables', by their places -/
def kin (ws : List Cond) (ps : List Nat) : Bool := decide (ws.map some = ps.map (fun i => lw_tbl[i]?)) && ws.all goodWord
theorem kin_ok {ws : List Cond} {ps : List Nat} (h : kin ws ps = true) : ∀ w ∈ ws, w ∈ LT := by
  intro w hw
  have h1 := Bool.and_eq_true_iff.mp h
  have h2 := of_decide_eq_true h1.1
  have h3 : some w ∈ ps.map (fun i => lw_tbl[i]?) := by rw [← h2]; exact List.mem_map.mpr ⟨w, hw, rfl⟩
  obtain ⟨i, -, hi⟩ := List.mem_map.mp h3
  exact List.mem_filter.mpr ⟨List.mem_of_getElem? hi, List.all_eq_true.mp h1.2 w hw⟩
theorem LT_good {w : Cond} (h : w ∈ LT) : (w.onTables && w.keeps) = true ∨ ∃ ty, w = .arrayClass ty := good_of_word (List.mem_filter.mp h).2
theorem LT_tbl {w : Cond} (h : w ∈ LT) : w ∈ lw_tbl := (List.mem_filter.mp h).1
def kClGood (ci : Nat) (q : vw_C) : Prop := (∀ w ∈ u_ws q.1 q.2.1 q.2.2, w ∈ LT) ∧ (∀ k, k < q.2.2 → parseFieldDescriptor (q.2.1 k).2.2.1 = some (kTy ci k)) ∧ (∀ a, a < q.2.2 → ∀ b, b < q.2.2 → a ≠ b → (q.2.1 a).2.1 ≠ (q.2.1 b).2.1)
set_option maxRecDepth 100000 in
theorem kClGood0 : kClGood 0 ("TriplicateForms$Adviser", kT kF0, 3) := ⟨kin_ok (ps := [377, 379, 381]) (by decide +kernel), by decide +kernel, by decide +kernel⟩
set_option maxRecDepth 100000 in
theorem kClGood1 : kClGood 1 ("TriplicateForms$Book", kT kF1, 9) := ⟨kin_ok (ps := [415, 417, 419, 421, 423, 425, 427, 429, 431]) (by decide +kernel), by decide +kernel, by decide +kernel⟩
set_option maxRecDepth 100000 in
theorem kClGood2 : kClGood 2 ("TriplicateForms$Image", kT kF2, 4) := ⟨kin_ok (ps := [479, 481, 483, 485]) (by decide +kernel), by decide +kernel, by decide +kernel⟩
set_option maxRecDepth 100000 in
theorem kClGood3 : kClGood 3 ("TriplicateForms$Matcher", kT kF3, 6) := ⟨kin_ok (ps := [353, 355, 357, 359, 361, 363]) (by decide +kernel), by decide +kernel, by decide +kernel⟩
set_option maxRecDepth 100000 in
theorem kClGood4 : kClGood 4 ("TriplicateForms$Roster", kT kF4, 9) := ⟨kin_ok (ps := [246, 248, 250, 252, 254, 256, 258, 260, 262]) (by decide +kernel), by decide +kernel, by decide +kernel⟩
set_option maxRecDepth 100000 in
theorem kClGood5 : kClGood 5 ("TriplicateForms$Sentence", kT kF5, 6) := ⟨kin_ok (ps := [447, 449, 451, 453, 455, 457]) (by decide +kernel), by decide +kernel, by decide +kernel⟩
set_option maxRecDepth 100000 in
theorem kClGood6 : kClGood 6 ("TriplicateForms$Stamp", kT kF6, 2) := ⟨kin_ok (ps := [393, 395]) (by decide +kernel), by decide +kernel, by decide +kernel⟩
set_option maxRecDepth 100000 in
theorem kClGood7 : kClGood 7 ("TriplicateForms$Standing", kT kF7, 10) := ⟨kin_ok (ps := [298, 300, 302, 304, 306, 308, 310, 312, 314, 316]) (by decide +kernel), by decide +kernel, by decide +kernel⟩
set_option maxRecDepth 100000 in
theorem kClGood8 : kClGood 8 ("TriplicateForms$Tape", kT kF8, 11) := ⟨kin_ok (ps := [196, 198, 200, 202, 204, 206, 208, 210, 212, 214, 216]) (by decide +kernel), by decide +kernel, by decide +kernel⟩
set_option maxRecDepth 100000 in
theorem kClGood9 : kClGood 9 ("TriplicateForms$Undos", kT kF9, 3) := ⟨kin_ok (ps := [331, 333, 335]) (by decide +kernel), by decide +kernel, by decide +kernel⟩
set_option maxRecDepth 100000 in
theorem kClGood10 : kClGood 10 ("TriplicateForms", kT kF10, 14) := ⟨kin_ok (ps := [502, 504, 506, 508, 510, 512, 514, 516, 518, 520, 522, 524, 526, 528]) (by decide +kernel), by decide +kernel, by decide +kernel⟩
set_option maxRecDepth 100000 in
theorem kClGood11 : kClGood 11 ("TriplicateFormsModel", kT kF11, 45) := ⟨kin_ok (ps := [1530, 1532, 1534, 1536, 1538, 1540, 1542, 1544, 1546, 1548, 1550, 1552, 1554, 1556, 1558, 1560, 1562, 1564, 1566, 1568, 1570, 1572, 1574, 1576, 1578, 1580, 1582, 1584, 1586, 1588, 1590, 1592, 1594, 1596, 1598, 1600, 1602, 1604, 1606, 1608, 1610, 1612, 1614, 1616, 1618]) (by decide +kernel), by decide +kernel, by decide +kernel⟩
theorem kCl_ok : ∀ (ci : Nat) (q : vw_C), kCl[ci]? = some q → kClGood ci q := by
  intro ci q h
  match ci, h with
  | 0, h => cases h; exact kClGood0
  | 1, h => cases h; exact kClGood1
  | 2, h => cases h; exact kClGood2
  | 3, h => cases h; exact kClGood3
  | 4, h => cases h; exact kClGood4
  | 5, h => cases h; exact kClGood5
  | 6, h => cases h; exact kClGood6
  | 7, h => cases h; exact kClGood7
  | 8, h => cases h; exact kClGood8
  | 9, h => cases h; exact kClGood9
  | 10, h => cases h; exact kClGood10
  | 11, h => cases h; exact kClGood11
  | n + 12, h => simp [kCl] at h
/-- constructors that nest mates call -/
def kNW : List (String × Nat × MethodName) := [("TriplicateForms", 9, ⟨"TriplicateForms$Tape", "<init>", "()V"⟩), ("TriplicateForms", 18, ⟨"TriplicateForms$Roster", "<init>", "()V"⟩), ("TriplicateForms", 60, ⟨"TriplicateForms$Adviser", "<init>", "()V"⟩), ("TriplicateForms", 67, ⟨"TriplicateForms$Stamp", "<init>", "()V"⟩), ("TriplicateForms", 74, ⟨"TriplicateForms$Book", "<init>", "()V"⟩), ("TriplicateForms", 81, ⟨"TriplicateForms$Sentence", "<init>", "()V"⟩), ("TriplicateForms$Image", 9, ⟨"TriplicateForms$Roster", "<init>", "()V"⟩), ("TriplicateForms$Image", 18, ⟨"TriplicateForms$Sentence", "<init>", "()V"⟩)]
theorem kNW_ok : ∀ q ∈ kNW, Cond.methodLinkNest q.1 q.2.1 q.2.2 "TriplicateForms" ∈ lw_tbl := by
  have h : kNW.map (fun q => some (Cond.methodLinkNest q.1 q.2.1 q.2.2 "TriplicateForms")) = ([171, 222, 368, 386, 401, 436, 466, 468] : List Nat).map (fun i => lw_tbl[i]?) := by decide +kernel
  intro q hq
  have h1 : some (Cond.methodLinkNest q.1 q.2.1 q.2.2 "TriplicateForms") ∈ ([171, 222, 368, 386, 401, 436, 466, 468] : List Nat).map (fun i => lw_tbl[i]?) := by rw [← h]; exact List.mem_map.mpr ⟨q, hq, rfl⟩
  obtain ⟨i, -, hi⟩ := List.mem_map.mp h1
  exact List.mem_of_getElem? hi
end
section
/-! A small machine of the writer's own: values whose references are labels, cells as lists, ints that are known or an input with a range. -/
abbrev KS : Type := Nat ⊕ ((Nat → Int32) → Int32)
abbrev KI : Type := Int32 ⊕ KS
abbrev KV : Type := Value ⊕ KS
/-- an array: the kind of its elements, its length, what it holds -/
abbrev KA : Type := Nat × Nat × ((List (Nat × KI) × KI) ⊕ (List (Nat × Int64) × Int64) ⊕ List (Nat × Option Nat))
abbrev KE : Type := KA ⊕ (Nat × List KV)
/-- the cells, sixteen to a row; a cell's label is its place -/
abbrev KW : Type := List (List KE)
/-- place, locals, stack, cells, how many cells and slots were made -/
abbrev KF : Type := Nat × List (Nat × KV) × List KV × KW × Nat × Nat
/-- an instruction's resolved operands -/
abbrev KX : Type := Nat × Nat × Nat × Nat × Nat
abbrev KEnt : Type := Nat × Instr × KX
/-- a method: name, code, locals, answer's type, the cells and slots that it may make, its instructions -/
abbrev KMeth : Type := MethodName × ByteArray × Nat × Option FieldType × Nat × Nat × List KEnt
def kS (ρ : Nat → Int32) : KS → Int32
  | .inl i => ρ i
  | .inr f => f ρ
def kI (ρ : Nat → Int32) : KI → Int32
  | .inl x => x
  | .inr z => kS ρ z
def kV (ad : Nat → Nat) (ρ : Nat → Int32) : KV → Value
  | .inl v => match v with
    | .ref i => .ref (ad i)
    | w => w
  | .inr z => .int (kS ρ z)
def kcat : KV → Nat
  | .inl v => v.category
  | .inr _ => 1
theorem kV_cat (ad : Nat → Nat) (ρ : Nat → Int32) (v : KV) : (kV ad ρ v).category = kcat v := by
  rcases v with v | z
  · cases v <;> rfl
  · rfl
def kisI : KV → Bool
  | .inl v => match v with
    | .int _ => true
    | _ => false
  | .inr _ => true
def kiv (ρ : Nat → Int32) : KV → Int32
  | .inl v => match v with
    | .int x => x
    | _ => 0
  | .inr z => kS ρ z
theorem kisI_eq {ad : Nat → Nat} {ρ : Nat → Int32} {v : KV} (h : kisI v = true) : kV ad ρ v = .int (kiv ρ v) := by
  rcases v with v | z
  · cases v <;> first | rfl | cases h
  · rfl
/-- lists by key -/
def kget {α : Type} : List (Nat × α) → α → Nat → α
  | [], d, _ => d
  | q :: l, d, j => bif Nat.beq q.1 j then q.2 else kget l d j
def kdel {α : Type} : List (Nat × α) → Nat → List (Nat × α)
  | [], _ => []
  | q :: l, j => bif Nat.beq q.1 j then l else q :: kdel l j
def kset {α : Type} (l : List (Nat × α)) (j : Nat) (v : α) : List (Nat × α) := (j, v) :: kdel l j
theorem kb_t {i j : Nat} (h : Nat.beq i j = true) : i = j := Nat.eq_of_beq_eq_true h
theorem kb_f {i j : Nat} (h : Nat.beq i j = false) : ¬ i = j := Nat.ne_of_beq_eq_false h
theorem kb_r {i j : Nat} (h : i = j) : Nat.beq i j = true := by subst h; exact Nat.beq_refl i
theorem kb_n {i j : Nat} (h : ¬ i = j) : Nat.beq i j = false := by
  cases q : Nat.beq i j with
  | false => rfl
  | true => exact absurd (kb_t q) h
theorem kget_del {α : Type} (l : List (Nat × α)) (d : α) {j k : Nat} (h : ¬ k = j) : kget (kdel l j) d k = kget l d k := by
  induction l with
  | nil => rfl
  | cons q l ih =>
    unfold kdel
    cases e : Nat.beq q.1 j with
    | true =>
      have e1 := kb_t e
      show kget l d k = (bif Nat.beq q.1 k then q.2 else kget l d k)
      rw [kb_n (i := q.1) (j := k) (by omega)]
      rfl
    | false =>
      show (bif Nat.beq q.1 k then q.2 else kget (kdel l j) d k) = (bif Nat.beq q.1 k then q.2 else kget l d k)
      rw [ih]
theorem kget_set {α : Type} (l : List (Nat × α)) (d : α) (j k : Nat) (v : α) : kget (kset l j v) d k = if k = j then v else kget l d k := by
  show (bif Nat.beq j k then v else kget (kdel l j) d k) = _
  by_cases h : k = j
  · rw [if_pos h, kb_r h.symm]
    rfl
  · rw [if_neg h, kb_n (fun q => h q.symm), ← kget_del l d h]
    rfl
def klook : List (Nat × KV) → Nat → Option KV
  | [], _ => none
  | q :: l, j => bif Nat.beq q.1 j then some q.2 else klook l j
theorem klook_mem {l : List (Nat × KV)} {j : Nat} {v : KV} (h : klook l j = some v) : (j, v) ∈ l := by
  induction l with
  | nil => cases h
  | cons q l ih =>
    unfold klook at h
    cases e : Nat.beq q.1 j with
    | true =>
      rw [e] at h
      have e1 := kb_t e
      cases h
      rw [← e1]
      exact List.mem_cons_self
    | false =>
      rw [e] at h
      exact List.mem_cons_of_mem _ (ih h)
/-- what the lists stand for -/
def kL (ad : Nat → Nat) (ρ : Nat → Int32) (lo : List (Nat × KV)) : List (Nat × Value) := lo.map (fun q => (q.1, kV ad ρ q.2))
def kflt : List (Nat × KV) → Nat → List (Nat × KV)
  | [], _ => []
  | q :: l, i => bif Nat.beq q.1 i then kflt l i else bif Nat.beq (q.1 + 1) i && Nat.beq (kcat q.2) 2 then kflt l i else q :: kflt l i
theorem kb_b (i j : Nat) : (i == j) = Nat.beq i j := by
  by_cases h : i = j
  · rw [kb_r h]
    exact beq_iff_eq.mpr h
  · rw [kb_n h]
    exact beq_eq_false_iff_ne.mpr h
theorem kflt_eq (lo : List (Nat × KV)) (i : Nat) : kflt lo i = lo.filter (fun q => !(q.1 == i) && !(q.1 + 1 == i && kcat q.2 == 2)) := by
  induction lo with
  | nil => rfl
  | cons q l ih =>
    rw [List.filter_cons, ← ih]
    show (bif Nat.beq q.1 i then kflt l i else bif Nat.beq (q.1 + 1) i && Nat.beq (kcat q.2) 2 then kflt l i else q :: kflt l i) = _
    rw [kb_b, kb_b, kb_b]
    cases Nat.beq q.1 i <;> cases Nat.beq (q.1 + 1) i <;> cases Nat.beq (kcat q.2) 2 <;> rfl
def klo (lo : List (Nat × KV)) (i : Nat) (v : KV) : List (Nat × KV) := (i, v) :: kflt lo i
def klo2 (lo : List (Nat × KV)) (i : Nat) (v : KV) : List (Nat × KV) := (i, v) :: lo.filter (fun q => !(q.1 == i) && (!(q.1 == i + 1) && !(q.1 + 1 == i && kcat q.2 == 2)))
theorem klo_c (ad : Nat → Nat) (ρ : Nat → Int32) (lo : List (Nat × KV)) (i : Nat) (v : KV) : (i, kV ad ρ v) :: (kL ad ρ lo).filter (fun q => !(q.1 == i) && !(q.1 + 1 == i && q.2.category == 2)) = kL ad ρ (klo lo i v) := by
  unfold kL klo
  rw [kflt_eq, List.map_cons, List.filter_map]
  congr 2
  apply List.filter_congr
  intro q _
  simp only [Function.comp_apply, kV_cat]
theorem klo2_c (ad : Nat → Nat) (ρ : Nat → Int32) (lo : List (Nat × KV)) (i : Nat) (v : KV) : (i, kV ad ρ v) :: (kL ad ρ lo).filter (fun q => !(q.1 == i) && (!(q.1 == i + 1) && !(q.1 + 1 == i && q.2.category == 2))) = kL ad ρ (klo2 lo i v) := by
  unfold kL klo2
  rw [List.map_cons, List.filter_map]
  congr 2
  apply List.filter_congr
  intro q _
  simp only [Function.comp_apply, kV_cat]
theorem kL_get {ad : Nat → Nat} {ρ : Nat → Int32} {lo : List (Nat × KV)} {nL j : Nat} {ls : Array Slot} {v : KV} (h : lv_has ls nL (kL ad ρ lo)) (hk : klook lo j = some v) : ls[j]? = some (.val (kV ad ρ v)) :=
  h.2.2 (j, kV ad ρ v) (List.mem_map.mpr ⟨(j, v), klook_mem hk, rfl⟩)
def kE (dA : Nat → ClassId) (ad : Nat → Nat) (ρ : Nat → Int32) : KE → va_E
  | .inl (t, n, .inl (l, d)) => .inl (dA t, n, .inl (fun j => kI ρ (kget l d j)))
  | .inl (t, n, .inr (.inl (l, d))) => .inl (dA t, n, .inr (.inl (fun j => kget l d j)))
  | .inl (t, n, .inr (.inr l)) => .inl (dA t, n, .inr (.inr (.inr (.inr (fun j => (kget l none j).map ad)))))
  | .inr (ci, fs) => .inr (ci, fs.map (kV ad ρ))
def kWc (dA : Nat → ClassId) (ad : Nat → Nat) (ρ : Nat → Int32) : Nat → List KE → va_W
  | _, [] => []
  | b, e :: t => (ad b, kE dA ad ρ e) :: kWc dA ad ρ (b + 1) t
def kWf (dA : Nat → ClassId) (ad : Nat → Nat) (ρ : Nat → Int32) : Nat → KW → va_W
  | _, [] => []
  | i, ch :: t => kWc dA ad ρ (16 * i) ch ++ kWf dA ad ρ (i + 1) t
def kW (dA : Nat → ClassId) (ad : Nat → Nat) (ρ : Nat → Int32) (w : KW) : va_W := kWf dA ad ρ 0 w
def kwg (w : KW) (n : Nat) : Option KE := match w[n / 16]? with
  | some ch => ch[n % 16]?
  | none => none
def kws (w : KW) (n : Nat) (e : KE) : KW := match w[n / 16]? with
  | some ch => w.set (n / 16) (ch.set (n % 16) e)
  | none => w
/-- the next label -/
def kfr : Nat → KW → Nat
  | i, [] => 16 * i
  | i, ch :: t => match t with
    | [] => bif Nat.blt ch.length 16 then 16 * i + ch.length else 16 * (i + 1)
    | _ => kfr (i + 1) t
def kwp (e : KE) : KW → KW
  | [] => [[e]]
  | ch :: t => match t with
    | [] => bif Nat.blt ch.length 16 then [ch ++ [e]] else [ch, [e]]
    | _ => ch :: kwp e t
theorem kWc_get {dA : Nat → ClassId} {ad : Nat → Nat} {ρ : Nat → Int32} : ∀ (ch : List KE) (b j : Nat) {e : KE}, ch[j]? = some e → (kWc dA ad ρ b ch)[j]? = some (ad (b + j), kE dA ad ρ e) ∧ ∀ e' : KE, (kWc dA ad ρ b ch).set j (ad (b + j), kE dA ad ρ e') = kWc dA ad ρ b (ch.set j e') := by
  intro ch
  induction ch with
  | nil => intro b j e h; simp at h
  | cons x t ih =>
    intro b j e h
    cases j with
    | zero =>
      cases h
      exact ⟨rfl, fun _ => rfl⟩
    | succ j =>
      obtain ⟨h1, h2⟩ := ih (b + 1) j (e := e) h
      have ea : b + 1 + j = b + (j + 1) := by omega
      rw [ea] at h1 h2
      exact ⟨h1, fun e' => by
        show (ad b, kE dA ad ρ x) :: (kWc dA ad ρ (b + 1) t).set j _ = (ad b, kE dA ad ρ x) :: kWc dA ad ρ (b + 1) (t.set j e')
        rw [h2]⟩
theorem kWf_get {dA : Nat → ClassId} {ad : Nat → Nat} {ρ : Nat → Int32} : ∀ (w : KW) (i k j : Nat) {ch : List KE} {e : KE}, w[k]? = some ch → ch[j]? = some e → ∃ q : Nat, (kWf dA ad ρ i w)[q]? = some (ad (16 * (i + k) + j), kE dA ad ρ e) ∧ ∀ e' : KE, (kWf dA ad ρ i w).set q (ad (16 * (i + k) + j), kE dA ad ρ e') = kWf dA ad ρ i (w.set k (ch.set j e')) := by
  intro w
  induction w with
  | nil => intro i k j ch e h; simp at h
  | cons x t ih =>
    intro i k j ch e h he
    cases k with
    | zero =>
      cases h
      obtain ⟨h1, h2⟩ := kWc_get (dA := dA) (ad := ad) (ρ := ρ) x (16 * i) j he
      have hl := (List.getElem?_eq_some_iff.mp h1).1
      refine ⟨j, ?_, fun e' => ?_⟩
      · show (kWc dA ad ρ (16 * i) x ++ kWf dA ad ρ (i + 1) t)[j]? = _
        rw [List.getElem?_append_left hl]
        exact h1
      · show (kWc dA ad ρ (16 * i) x ++ kWf dA ad ρ (i + 1) t).set j _ = kWc dA ad ρ (16 * i) (x.set j e') ++ kWf dA ad ρ (i + 1) t
        rw [List.set_append, if_pos hl, ← h2]
        rfl
    | succ k =>
      obtain ⟨q, h1, h2⟩ := ih (i + 1) k j (ch := ch) (e := e) h he
      have ea : i + 1 + k = i + (k + 1) := by omega
      rw [ea] at h1 h2
      refine ⟨(kWc dA ad ρ (16 * i) x).length + q, ?_, fun e' => ?_⟩
      · show (kWc dA ad ρ (16 * i) x ++ kWf dA ad ρ (i + 1) t)[_]? = _
        rw [List.getElem?_append_right (Nat.le_add_right _ _), Nat.add_sub_cancel_left]
        exact h1
      · show (kWc dA ad ρ (16 * i) x ++ kWf dA ad ρ (i + 1) t).set _ _ = kWc dA ad ρ (16 * i) x ++ kWf dA ad ρ (i + 1) (t.set k (ch.set j e'))
        rw [List.set_append, if_neg (by omega), Nat.add_sub_cancel_left, h2]
theorem kW_get {dA : Nat → ClassId} {ad : Nat → Nat} {ρ : Nat → Int32} {w : KW} {n : Nat} {e : KE} (h : kwg w n = some e) : ∃ q : Nat, (kW dA ad ρ w)[q]? = some (ad n, kE dA ad ρ e) ∧ ∀ e' : KE, (kW dA ad ρ w).set q (ad n, kE dA ad ρ e') = kW dA ad ρ (kws w n e') := by
  unfold kwg at h
  cases hc : w[n / 16]? with
  | none => rw [hc] at h; cases h
  | some ch =>
    rw [hc] at h
    obtain ⟨q, h1, h2⟩ := kWf_get (dA := dA) (ad := ad) (ρ := ρ) w 0 (n / 16) (n % 16) hc h
    have ea : 16 * (0 + n / 16) + n % 16 = n := by omega
    rw [ea] at h1 h2
    refine ⟨q, h1, fun e' => ?_⟩
    unfold kws
    rw [hc]
    exact h2 e'
def kup (ad : Nat → Nat) (n q : Nat) : Nat → Nat := fun j => if j = n then q else ad j
/-- labels that are in use: below n, or those of things outside -/
def kokN (n i : Nat) : Bool := Nat.blt i n || Nat.ble 1000000 i
def kokV (n : Nat) : KV → Bool
  | .inl v => match v with
    | .ref i => kokN n i
    | _ => true
  | .inr _ => true
def kokE (n : Nat) : KE → Bool
  | .inl (_, _, .inl _) => true
  | .inl (_, _, .inr (.inl _)) => true
  | .inl (_, _, .inr (.inr l)) => l.all (fun q => match q.2 with
    | some i => kokN n i
    | none => true)
  | .inr (_, fs) => fs.all (kokV n)
def kokS (n : Nat) (st : List KV) : Bool := st.all (kokV n)
def kokL (n : Nat) (lo : List (Nat × KV)) : Bool := lo.all (fun q => kokV n q.2)
def kokW (n : Nat) (w : KW) : Bool := w.all (fun ch => Nat.ble ch.length 16 && ch.all (kokE n))
/-- two ways to read labels that agree on those in use -/
def kExt (n : Nat) (ad ad' : Nat → Nat) : Prop := ∀ i, i < n ∨ 1000000 ≤ i → ad' i = ad i
theorem kExt.rf (n : Nat) (ad : Nat → Nat) : kExt n ad ad := fun _ _ => rfl
theorem kExt.tr {n m : Nat} {a b c : Nat → Nat} (h : kExt n a b) (h2 : kExt m b c) (hm : n ≤ m) : kExt n a c := fun i hi => (h2 i (hi.imp (fun q => Nat.lt_of_lt_of_le q hm) id)).trans (h i hi)
theorem kExt.up {n : Nat} {ad : Nat → Nat} (q : Nat) (hn : n < 1000000) : kExt n ad (kup ad n q) := fun i hi => by
  unfold kup
  rw [if_neg (by omega)]
theorem kokN_p {n i : Nat} (h : kokN n i = true) : i < n ∨ 1000000 ≤ i := by
  unfold kokN at h
  rcases Bool.or_eq_true_iff.mp h with h | h
  · exact Or.inl (Nat.ble_eq.mp h)
  · exact Or.inr (Nat.ble_eq.mp h)
theorem kV_ext {n : Nat} {ad ad' : Nat → Nat} {ρ : Nat → Int32} {v : KV} (h : kExt n ad ad') (hv : kokV n v = true) : kV ad' ρ v = kV ad ρ v := by
  rcases v with v | z
  · cases v <;> first | rfl | skip
    rename_i i
    show Value.ref (ad' i) = Value.ref (ad i)
    rw [h i (kokN_p hv)]
  · rfl
theorem kS_ext {n : Nat} {ad ad' : Nat → Nat} {ρ : Nat → Int32} {st : List KV} (h : kExt n ad ad') (hv : kokS n st = true) : st.map (kV ad' ρ) = st.map (kV ad ρ) :=
  List.map_congr_left fun v hm => kV_ext h (List.all_eq_true.mp hv v hm)
theorem kL_ext {n : Nat} {ad ad' : Nat → Nat} {ρ : Nat → Int32} {lo : List (Nat × KV)} (h : kExt n ad ad') (hv : kokL n lo = true) : kL ad' ρ lo = kL ad ρ lo :=
  List.map_congr_left fun q hm => by rw [kV_ext h (List.all_eq_true.mp hv q hm)]
theorem kget_ext {n : Nat} {ad ad' : Nat → Nat} (h : kExt n ad ad') (l : List (Nat × Option Nat)) (hl : l.all (fun q => match q.2 with
    | some i => kokN n i
    | none => true) = true) (j : Nat) : (kget l none j).map ad' = (kget l none j).map ad := by
  induction l with
  | nil => rfl
  | cons q l ih =>
    rw [List.all_cons, Bool.and_eq_true] at hl
    show (bif Nat.beq q.1 j then q.2 else kget l none j).map ad' = (bif Nat.beq q.1 j then q.2 else kget l none j).map ad
    cases Nat.beq q.1 j with
    | false => exact ih hl.2
    | true =>
      obtain ⟨k, o⟩ := q
      cases o with
      | none => rfl
      | some i =>
        show some (ad' i) = some (ad i)
        rw [h i (kokN_p hl.1)]
theorem kE_ext {dA : Nat → ClassId} {n : Nat} {ad ad' : Nat → Nat} {ρ : Nat → Int32} {e : KE} (h : kExt n ad ad') (hv : kokE n e = true) : kE dA ad' ρ e = kE dA ad ρ e := by
  rcases e with ⟨t, k, (⟨l, d⟩ | ⟨l, d⟩ | l)⟩ | ⟨ci, fs⟩
  · rfl
  · rfl
  · show (Sum.inl (dA t, k, .inr (.inr (.inr (.inr (fun j => (kget l none j).map ad'))))) : va_E) = .inl (dA t, k, .inr (.inr (.inr (.inr (fun j => (kget l none j).map ad)))))
    rw [show (fun j => (kget l none j).map ad') = (fun j => (kget l none j).map ad) from funext fun j => kget_ext h l hv j]
  · show (Sum.inr (ci, fs.map (kV ad' ρ)) : va_E) = .inr (ci, fs.map (kV ad ρ))
    rw [kS_ext h hv]
theorem kfr_ge : ∀ (w : KW) (i : Nat), 16 * i ≤ kfr i w := by
  intro w
  induction w with
  | nil => intro i; exact Nat.le_refl _
  | cons ch t ih =>
    intro i
    cases t with
    | nil =>
      show 16 * i ≤ (bif Nat.blt ch.length 16 then 16 * i + ch.length else 16 * (i + 1))
      cases Nat.blt ch.length 16
      · show 16 * i ≤ 16 * (i + 1)
        omega
      · show 16 * i ≤ 16 * i + ch.length
        omega
    | cons c2 t =>
      have := ih (i + 1)
      show 16 * i ≤ kfr (i + 1) (c2 :: t)
      omega
theorem kWc_ext {dA : Nat → ClassId} {n : Nat} {ad ad' : Nat → Nat} {ρ : Nat → Int32} (h : kExt n ad ad') : ∀ (ch : List KE) (b : Nat), b + ch.length ≤ n → ch.all (kokE n) = true → kWc dA ad' ρ b ch = kWc dA ad ρ b ch := by
  intro ch
  induction ch with
  | nil => intro b _ _; rfl
  | cons e t ih =>
    intro b hb hk
    rw [List.all_cons, Bool.and_eq_true] at hk
    rw [List.length_cons] at hb
    show (ad' b, kE dA ad' ρ e) :: kWc dA ad' ρ (b + 1) t = (ad b, kE dA ad ρ e) :: kWc dA ad ρ (b + 1) t
    rw [ih (b + 1) (by omega) hk.2, h b (Or.inl (by omega)), kE_ext h hk.1]
theorem kWf_ext {dA : Nat → ClassId} {n : Nat} {ad ad' : Nat → Nat} {ρ : Nat → Int32} (h : kExt n ad ad') : ∀ (w : KW) (i : Nat), kfr i w ≤ n → kokW n w = true → kWf dA ad' ρ i w = kWf dA ad ρ i w := by
  intro w
  induction w with
  | nil => intro i _ _; rfl
  | cons ch t ih =>
    intro i hn hk
    unfold kokW at hk
    rw [List.all_cons, Bool.and_eq_true, Bool.and_eq_true] at hk
    obtain ⟨⟨k1, k2⟩, k3⟩ := hk
    have k1 := Nat.ble_eq.mp k1
    show kWc dA ad' ρ (16 * i) ch ++ kWf dA ad' ρ (i + 1) t = kWc dA ad ρ (16 * i) ch ++ kWf dA ad ρ (i + 1) t
    cases t with
    | nil =>
      rw [kWc_ext h ch (16 * i) ?_ k2]
      · rfl
      · revert hn
        show (bif Nat.blt ch.length 16 then 16 * i + ch.length else 16 * (i + 1)) ≤ n → _
        cases Nat.blt ch.length 16
        · show 16 * (i + 1) ≤ n → _
          omega
        · show 16 * i + ch.length ≤ n → _
          omega
    | cons c2 t =>
      have hn2 : kfr (i + 1) (c2 :: t) ≤ n := hn
      have hg := kfr_ge (c2 :: t) (i + 1)
      rw [kWc_ext h ch (16 * i) (by omega) k2, ih (i + 1) hn2 k3]
theorem kW_ext {dA : Nat → ClassId} {n : Nat} {ad ad' : Nat → Nat} {ρ : Nat → Int32} {w : KW} (h : kExt n ad ad') (hn : kfr 0 w ≤ n) (hv : kokW n w = true) : kW dA ad' ρ w = kW dA ad ρ w := kWf_ext h w 0 hn hv
theorem kWc_push (dA : Nat → ClassId) (ad : Nat → Nat) (ρ : Nat → Int32) (e : KE) : ∀ (ch : List KE) (b : Nat), kWc dA ad ρ b (ch ++ [e]) = kWc dA ad ρ b ch ++ [(ad (b + ch.length), kE dA ad ρ e)] := by
  intro ch
  induction ch with
  | nil => intro b; rfl
  | cons x t ih =>
    intro b
    show (ad b, kE dA ad ρ x) :: kWc dA ad ρ (b + 1) (t ++ [e]) = (ad b, kE dA ad ρ x) :: (kWc dA ad ρ (b + 1) t ++ [(ad (b + (x :: t).length), kE dA ad ρ e)])
    rw [ih, List.length_cons]
    rw [show b + 1 + t.length = b + (t.length + 1) by omega]
theorem kWf_push (dA : Nat → ClassId) (ad : Nat → Nat) (ρ : Nat → Int32) (e : KE) : ∀ (w : KW) (i : Nat), kWf dA ad ρ i (kwp e w) = kWf dA ad ρ i w ++ [(ad (kfr i w), kE dA ad ρ e)] := by
  intro w
  induction w with
  | nil => intro i; rfl
  | cons ch t ih =>
    intro i
    cases t with
    | nil =>
      show kWf dA ad ρ i (bif Nat.blt ch.length 16 then [ch ++ [e]] else [ch, [e]]) = kWc dA ad ρ (16 * i) ch ++ [] ++ [(ad (bif Nat.blt ch.length 16 then 16 * i + ch.length else 16 * (i + 1)), kE dA ad ρ e)]
      cases Nat.blt ch.length 16
      · show kWc dA ad ρ (16 * i) ch ++ ((ad (16 * (i + 1)), kE dA ad ρ e) :: []) = _
        rw [List.append_nil]
        rfl
      · show kWc dA ad ρ (16 * i) (ch ++ [e]) ++ [] = _
        rw [kWc_push, List.append_nil, List.append_nil]
        rfl
    | cons c2 t =>
      show kWc dA ad ρ (16 * i) ch ++ kWf dA ad ρ (i + 1) (kwp e (c2 :: t)) = kWc dA ad ρ (16 * i) ch ++ kWf dA ad ρ (i + 1) (c2 :: t) ++ [(ad (kfr (i + 1) (c2 :: t)), kE dA ad ρ e)]
      rw [ih, List.append_assoc]
theorem kfr_push (e : KE) : ∀ (w : KW) (i : Nat), kfr i (kwp e w) = kfr i w + 1 := by
  intro w
  induction w with
  | nil => intro i; rfl
  | cons ch t ih =>
    intro i
    cases t with
    | nil =>
      cases q : Nat.blt ch.length 16 with
      | false =>
        have e1 : kwp e [ch] = [ch, [e]] := by show (bif Nat.blt ch.length 16 then [ch ++ [e]] else [ch, [e]]) = _; rw [q]; rfl
        have e2 : kfr i [ch] = 16 * (i + 1) := by show (bif Nat.blt ch.length 16 then 16 * i + ch.length else 16 * (i + 1)) = _; rw [q]; rfl
        rw [e1, e2]
        rfl
      | true =>
        have hl : ch.length + 1 ≤ 16 := Nat.ble_eq.mp q
        have e1 : kwp e [ch] = [ch ++ [e]] := by show (bif Nat.blt ch.length 16 then [ch ++ [e]] else [ch, [e]]) = _; rw [q]; rfl
        have e2 : kfr i [ch] = 16 * i + ch.length := by show (bif Nat.blt ch.length 16 then 16 * i + ch.length else 16 * (i + 1)) = _; rw [q]; rfl
        rw [e1, e2]
        show (bif Nat.blt (ch ++ [e]).length 16 then 16 * i + (ch ++ [e]).length else 16 * (i + 1)) = _
        rw [List.length_append, List.length_singleton]
        cases q2 : Nat.blt (ch.length + 1) 16 with
        | true => show 16 * i + (ch.length + 1) = _; omega
        | false =>
          have : ¬ (ch.length + 1 + 1 ≤ 16) := fun h => by
            have := Nat.ble_eq.mpr h
            exact absurd (this.symm.trans q2) (by decide)
          show 16 * (i + 1) = _
          omega
    | cons c2 t =>
      have h := ih (i + 1)
      have e0 : ∃ a b, kwp e (c2 :: t) = a :: b := by
        cases t with
        | nil =>
          show ∃ a b, (bif Nat.blt c2.length 16 then [c2 ++ [e]] else [c2, [e]]) = a :: b
          cases Nat.blt c2.length 16
          · exact ⟨_, _, rfl⟩
          · exact ⟨_, _, rfl⟩
        | cons c3 t => exact ⟨_, _, rfl⟩
      obtain ⟨a, b, e0⟩ := e0
      show kfr i (ch :: kwp e (c2 :: t)) = kfr (i + 1) (c2 :: t) + 1
      rw [← h, e0]
      rfl
theorem kW_push {dA : Nat → ClassId} {ad : Nat → Nat} {ρ : Nat → Int32} {w : KW} (q : Nat) (e : KE) (hn : kfr 0 w < 1000000) (hw : kokW (kfr 0 w) w = true) (he : kE dA (kup ad (kfr 0 w) q) ρ e = kE dA ad ρ e) : kW dA ad ρ w ++ [(q, kE dA ad ρ e)] = kW dA (kup ad (kfr 0 w) q) ρ (kwp e w) := by
  have h1 := kW_ext (dA := dA) (ρ := ρ) (kExt.up (ad := ad) q hn) (Nat.le_refl _) hw
  show _ = kWf dA (kup ad (kfr 0 w) q) ρ 0 (kwp e w)
  rw [kWf_push, he]
  have h2 : kWf dA (kup ad (kfr 0 w) q) ρ 0 w = kW dA ad ρ w := h1
  rw [h2]
  congr 2
  unfold kup
  rw [if_pos rfl]
/-- ranges of the inputs, and what compares within them -/
def krg (rg : List (Int × Int)) : KV → Option (Int × Int)
  | .inl v => match v with
    | .int x => some (x.toInt, x.toInt)
    | _ => none
  | .inr z => match z with
    | .inl i => rg[i]?
    | .inr _ => none
def kRg (rg : List (Int × Int)) (ρ : Nat → Int32) : Prop := ∀ i lo hi, rg[i]? = some (lo, hi) → lo ≤ (ρ i).toInt ∧ (ρ i).toInt ≤ hi
theorem krg_ok {rg : List (Int × Int)} {ρ : Nat → Int32} (hr : kRg rg ρ) {v : KV} {lo hi : Int} (h : krg rg v = some (lo, hi)) : lo ≤ (kiv ρ v).toInt ∧ (kiv ρ v).toInt ≤ hi := by
  rcases v with v | (i | f)
  · cases v <;> first | cases h | skip
    exact ⟨Int.le_refl _, Int.le_refl _⟩
  · exact hr i lo hi h
  · cases h
def klt (rg : List (Int × Int)) (a b : KV) : Option Bool := match krg rg a, krg rg b with
  | some (al, ah), some (bl, bh) => bif decide (ah < bl) then some true else bif decide (bh ≤ al) then some false else none
  | _, _ => none
def keq (rg : List (Int × Int)) (a b : KV) : Option Bool := match krg rg a, krg rg b with
  | some (al, ah), some (bl, bh) => bif decide (ah < bl) || decide (bh < al) then some false else bif decide (al = ah) && (decide (bl = bh) && decide (al = bl)) then some true else none
  | _, _ => none
theorem klt_ok {rg : List (Int × Int)} {ρ : Nat → Int32} (hr : kRg rg ρ) {a b : KV} {r : Bool} (h : klt rg a b = some r) : (r = true ↔ kiv ρ a < kiv ρ b) := by
  unfold klt at h
  cases ha : krg rg a with
  | none => rw [ha] at h; cases h
  | some x =>
    cases hb : krg rg b with
    | none => rw [ha, hb] at h; cases h
    | some y =>
      obtain ⟨al, ah⟩ := x
      obtain ⟨bl, bh⟩ := y
      rw [ha, hb] at h
      dsimp only at h
      have h1 := krg_ok hr ha
      have h2 := krg_ok hr hb
      rw [Int32.lt_iff_toInt_lt]
      by_cases c1 : ah < bl
      · rw [decide_eq_true c1] at h
        cases h
        exact ⟨fun _ => by omega, fun _ => rfl⟩
      · rw [decide_eq_false c1] at h
        by_cases c2 : bh ≤ al
        · rw [decide_eq_true c2] at h
          cases h
          exact ⟨fun q => absurd q Bool.false_ne_true, fun _ => by omega⟩
        · rw [decide_eq_false c2] at h
          cases h
theorem keq_ok {rg : List (Int × Int)} {ρ : Nat → Int32} (hr : kRg rg ρ) {a b : KV} {r : Bool} (h : keq rg a b = some r) : (r = true ↔ kiv ρ a = kiv ρ b) := by
  unfold keq at h
  cases ha : krg rg a with
  | none => rw [ha] at h; cases h
  | some x =>
    cases hb : krg rg b with
    | none => rw [ha, hb] at h; cases h
    | some y =>
      obtain ⟨al, ah⟩ := x
      obtain ⟨bl, bh⟩ := y
      rw [ha, hb] at h
      dsimp only at h
      have h1 := krg_ok hr ha
      have h2 := krg_ok hr hb
      rw [← Int32.toInt_inj]
      by_cases c1 : ah < bl ∨ bh < al
      · have e : (decide (ah < bl) || decide (bh < al)) = true := by
          rcases c1 with c | c
          · rw [decide_eq_true c]; rfl
          · rw [decide_eq_true c, Bool.or_true]
        rw [e] at h
        cases h
        exact ⟨fun q => absurd q Bool.false_ne_true, fun _ => by omega⟩
      · have e : (decide (ah < bl) || decide (bh < al)) = false := by
          rw [decide_eq_false (fun q => c1 (Or.inl q)), decide_eq_false (fun q => c1 (Or.inr q))]; rfl
        rw [e] at h
        by_cases c2 : al = ah ∧ bl = bh ∧ al = bl
        · have e2 : (decide (al = ah) && (decide (bl = bh) && decide (al = bl))) = true := by
            rw [decide_eq_true c2.1, decide_eq_true c2.2.1, decide_eq_true c2.2.2]; rfl
          rw [e2] at h
          cases h
          exact ⟨fun _ => by omega, fun _ => rfl⟩
        · have e2 : (decide (al = ah) && (decide (bl = bh) && decide (al = bl))) = false := by
            cases q1 : decide (al = ah) <;> cases q2 : decide (bl = bh) <;> cases q3 : decide (al = bl) <;> first | rfl | exact absurd ⟨of_decide_eq_true q1, of_decide_eq_true q2, of_decide_eq_true q3⟩ c2
          rw [e2] at h
          cases h
theorem kfr_lens : ∀ (w w' : KW) (i : Nat), w.map List.length = w'.map List.length → kfr i w = kfr i w' := by
  intro w
  induction w with
  | nil =>
    intro w' i h
    cases w' with
    | nil => rfl
    | cons a t => cases h
  | cons ch t ih =>
    intro w' i h
    cases w' with
    | nil => cases h
    | cons ch' t' =>
      rw [List.map_cons, List.map_cons] at h
      have h1 := (List.cons.inj h).1
      have h2 := (List.cons.inj h).2
      cases t with
      | nil =>
        cases t' with
        | nil =>
          show (bif Nat.blt ch.length 16 then 16 * i + ch.length else 16 * (i + 1)) = (bif Nat.blt ch'.length 16 then 16 * i + ch'.length else 16 * (i + 1))
          rw [h1]
        | cons a b => cases h2
      | cons c2 t =>
        cases t' with
        | nil => cases h2
        | cons c2' t' => exact ih (c2' :: t') (i + 1) h2
theorem kfr_set (w : KW) (n : Nat) (e : KE) (i : Nat) : kfr i (kws w n e) = kfr i w := by
  unfold kws
  split
  · rename_i ch hc
    apply kfr_lens
    apply List.ext_getElem?
    intro j
    rw [List.getElem?_map, List.getElem?_map, List.getElem?_set]
    by_cases h : n / 16 = j
    · subst h
      have hl := (List.getElem?_eq_some_iff.mp hc).1
      simp only [if_true, hl, hc, Option.map_some, List.length_set]
    · rw [if_neg h]
  · rfl
end
section
/-! One step of the small machine. -/
/-- an instruction's length; 0: any -/
def klen : Instr → Nat
  | .bipush _ => 2 | .sipush _ => 3 | .iload _ => 2 | .aload _ => 2 | .istore _ => 2 | .astore _ => 2 | .lload _ => 2 | .lstore _ => 2
  | .iinc _ _ => 3 | .goto _ => 3 | .ifCond _ _ => 3 | .if_icmp _ _ => 3 | .if_acmp _ _ => 3 | .getfield _ => 3 | .putfield _ => 3 | .getstatic _ => 3
  | .new _ => 3 | .anewarray _ => 3 | .newarray _ => 2 | .invokevirtual _ => 3 | .invokespecial _ => 3 | .invokestatic _ => 3 | .ldc _ => 2 | .ldc2_w _ => 3 | .ldc_w _ => 3
  | .tableswitch _ _ _ _ => 0 | .lookupswitch _ _ => 0 | .ifnull _ => 3 | .ifnonnull _ => 3
  | _ => 1
def kdec (cc : ByteArray) (e : KEnt) : Bool := match decode cc e.1 with
  | .ok r => decide (r.1 = e.2.1) && (Nat.beq (klen e.2.1) 0 || Nat.beq r.2 (klen e.2.1))
  | _ => false
theorem kdec_ok {cc : ByteArray} {e : KEnt} (h : kdec cc e = true) : ∃ len, decode cc e.1 = .ok (e.2.1, len) ∧ (klen e.2.1 = 0 ∨ len = klen e.2.1) := by
  unfold kdec at h
  split at h
  · rename_i r hr
    have h1 := Bool.and_eq_true_iff.mp h
    have h2 := of_decide_eq_true h1.1
    refine ⟨r.2, by rw [hr, ← h2], ?_⟩
    rcases Bool.or_eq_true_iff.mp h1.2 with q | q
    · exact Or.inl (kb_t q)
    · exact Or.inr (kb_t q)
  · cases h
/-- a jump's target -/
def ktg (pc : Nat) (off : Int) : Option Nat := match (pc : Int) + off with
  | .ofNat t => some t
  | .negSucc _ => none
theorem ktg_ok {pc t : Nat} {off : Int} (h : ktg pc off = some t) : (pc : Int) + off = (t : Int) := by
  unfold ktg at h
  split at h
  · rename_i t' ht
    cases h
    exact ht
  · cases h
def kisR : KV → Bool
  | .inl v => match v with
    | .ref _ => true
    | _ => false
  | .inr _ => false
theorem kisR_eq {v : KV} (h : kisR v = true) : ∃ a, v = .inl (.ref a) := by
  rcases v with v | z
  · cases v <;> first | exact ⟨_, rfl⟩ | cases h
  · cases h
def kisQ : KV → Bool
  | .inl v => match v with
    | .ref _ => true
    | .null => true
    | _ => false
  | .inr _ => false
theorem kisQ_eq {v : KV} (h : kisQ v = true) : (∃ a, v = .inl (.ref a)) ∨ v = .inl .null := by
  rcases v with v | z
  · cases v <;> first | exact Or.inl ⟨_, rfl⟩ | exact Or.inr rfl | cases h
  · cases h
def kld (ok : KV → Bool) (i len : Nat) (pc : Nat) (lo : List (Nat × KV)) (st : List KV) (w : KW) (c s : Nat) : Option KF := match klook lo i with
  | some v => bif ok v then some (pc + len, lo, v :: st, w, c, s) else none
  | none => none
def kst (ok : KV → Bool) (i len nL : Nat) (pc : Nat) (lo : List (Nat × KV)) (st : List KV) (w : KW) (c s : Nat) : Option KF := match st with
  | v :: rest => bif ok v && Nat.blt i nL then some (pc + len, klo lo i v, rest, w, c, s) else none
  | [] => none
def kinc (i : Nat) (n : Int) (nL : Nat) (pc : Nat) (lo : List (Nat × KV)) (st : List KV) (w : KW) (c s : Nat) : Option KF := match klook lo i with
  | some (.inl (.int x)) => bif Nat.blt i nL then some (pc + 3, klo lo i (.inl (.int (x + Int32.ofInt n))), st, w, c, s) else none
  | _ => none
def kop2 (f : Int32 → Int32 → Int32) (a b : KV) : KV := match a with
  | .inl va => match va with
    | .int x => match b with
      | .inl vb => match vb with
        | .int y => .inl (.int (f x y))
        | _ => .inr (.inr (fun ρ => f (kiv ρ a) (kiv ρ b)))
      | .inr _ => .inr (.inr (fun ρ => f (kiv ρ a) (kiv ρ b)))
    | _ => .inr (.inr (fun ρ => f (kiv ρ a) (kiv ρ b)))
  | .inr _ => .inr (.inr (fun ρ => f (kiv ρ a) (kiv ρ b)))
theorem kop2_ok (f : Int32 → Int32 → Int32) (a b : KV) (ad : Nat → Nat) (ρ : Nat → Int32) : kV ad ρ (kop2 f a b) = .int (f (kiv ρ a) (kiv ρ b)) := by
  rcases a with va | za
  · cases va <;> first | rfl | skip
    rcases b with vb | zb
    · cases vb <;> rfl
    · rfl
  · rfl
def kop1 (f : Int32 → Int32) (a : KV) : KV := match a with
  | .inl va => match va with
    | .int x => .inl (.int (f x))
    | _ => .inr (.inr (fun ρ => f (kiv ρ a)))
  | .inr _ => .inr (.inr (fun ρ => f (kiv ρ a)))
theorem kop1_ok (f : Int32 → Int32) (a : KV) (ad : Nat → Nat) (ρ : Nat → Int32) : kV ad ρ (kop1 f a) = .int (f (kiv ρ a)) := by
  rcases a with va | za
  · cases va <;> rfl
  · rfl
def kbin (f : Int32 → Int32 → Int32) (pc : Nat) (lo : List (Nat × KV)) (st : List KV) (w : KW) (c s : Nat) : Option KF := match st with
  | y :: x :: rest => bif kisI x && kisI y then some (pc + 1, lo, kop2 f x y :: rest, w, c, s) else none
  | _ => none
def kun (f : Int32 → Int32) (pc : Nat) (lo : List (Nat × KV)) (st : List KV) (w : KW) (c s : Nat) : Option KF := match st with
  | x :: rest => bif kisI x then some (pc + 1, lo, kop1 f x :: rest, w, c, s) else none
  | _ => none
/-- iand: the first input and 63 is known -/
def kisO : KV → Bool
  | .inr (.inl i) => Nat.beq i 0
  | _ => false
def kis63 : KV → Bool
  | .inl (.int y) => decide (y = 63)
  | _ => false
def kand (ks : Option Int32) (pc : Nat) (lo : List (Nat × KV)) (st : List KV) (w : KW) (c s : Nat) : Option KF := match st with
  | y :: x :: rest => bif kisO x && kis63 y then (match ks with
    | some v => some (pc + 1, lo, .inl (.int v) :: rest, w, c, s)
    | none => none) else kbin (fun a b => a &&& b) pc lo st w c s
  | _ => none
def kbr (o : Option Nat) (r : Option Bool) (pc : Nat) (lo : List (Nat × KV)) (st : List KV) (w : KW) (c s : Nat) : Option KF := match o with
  | some t => match r with
    | some b => match b with
      | true => some (t, lo, st, w, c, s)
      | false => some (pc + 3, lo, st, w, c, s)
    | none => none
  | none => none
def kcond (rg : List (Int × Int)) (cnd : Jvm.ClassFile.Cond) (a b : KV) : Option Bool := match cnd with
  | .eq => keq rg a b
  | .ne => (keq rg a b).map not
  | .lt => klt rg a b
  | .ge => (klt rg a b).map not
  | .gt => klt rg b a
  | .le => (klt rg b a).map not
def kif (rg : List (Int × Int)) (cnd : Jvm.ClassFile.Cond) (off : Int) (pc : Nat) (lo : List (Nat × KV)) (st : List KV) (w : KW) (c s : Nat) : Option KF := match st with
  | x :: rest => bif kisI x then kbr (ktg pc off) (kcond rg cnd x (.inl (.int 0))) pc lo rest w c s else none
  | _ => none
def kicmp (rg : List (Int × Int)) (cnd : Jvm.ClassFile.Cond) (off : Int) (pc : Nat) (lo : List (Nat × KV)) (st : List KV) (w : KW) (c s : Nat) : Option KF := match st with
  | y :: x :: rest => bif kisI x && kisI y then kbr (ktg pc off) (kcond rg cnd x y) pc lo rest w c s else none
  | _ => none
def krf : KV → Option (Option Nat)
  | .inl v => match v with
    | .null => some none
    | .ref i => some (some i)
    | _ => none
  | .inr _ => none
def kreq (a b : KV) : Option Bool := match krf a, krf b with
  | some none, some none => some true
  | some none, some (some _) => some false
  | some (some _), some none => some false
  | some (some i), some (some j) => bif Nat.beq i j then some true else none
  | _, _ => none
def kacmp (cnd : Jvm.ClassFile.ACond) (off : Int) (pc : Nat) (lo : List (Nat × KV)) (st : List KV) (w : KW) (c s : Nat) : Option KF := match st with
  | y :: x :: rest => kbr (ktg pc off) (match cnd with
    | .eq => kreq x y
    | .ne => (kreq x y).map not) pc lo rest w c s
  | _ => none
def ksw (rg : List (Int × Int)) (dflt lw hg : Int) (offs : Array Int) (pc : Nat) (lo : List (Nat × KV)) (st : List KV) (w : KW) (c s : Nat) : Option KF := match st with
  | v :: rest => match krg rg v with
    | some (a, b) => bif decide (b < lw) || decide (hg < a) then (match ktg pc dflt with
        | some t => some (t, lo, rest, w, c, s)
        | none => none)
      else bif decide (a = b) then (match offs.toList[(a - lw).toNat]? with
        | some off => match ktg pc off with
          | some t => some (t, lo, rest, w, c, s)
          | none => none
        | none => none) else none
    | none => none
  | _ => none
def kgetf (ci k : Nat) (pc : Nat) (lo : List (Nat × KV)) (st : List KV) (w : KW) (c s : Nat) : Option KF := match st with
  | .inl (.ref a) :: rest => match kwg w a with
    | some (.inr (cj, fs)) => bif Nat.beq cj ci then (match fs[k]? with
      | some v => some (pc + 3, lo, v :: rest, w, c, s)
      | none => none) else none
    | _ => none
  | _ => none
def kfit (ty : FieldType) (v : KV) : Bool := match ty with
  | .int => kisI v
  | .boolean => match v with
    | .inl (.int x) => decide (x = 0) || decide (x = 1)
    | _ => false
  | .long => match v with
    | .inl (.long _) => true
    | _ => false
  | .object _ => match v with
    | .inl (.ref _) => true
    | .inl .null => true
    | _ => false
  | .array _ => match v with
    | .inl (.ref _) => true
    | .inl .null => true
    | _ => false
  | _ => false
def kputf (ci k : Nat) (pc : Nat) (lo : List (Nat × KV)) (st : List KV) (w : KW) (c s : Nat) : Option KF := match st with
  | v :: .inl (.ref a) :: rest => match kwg w a with
    | some (.inr (cj, fs)) => bif Nat.beq cj ci && (Nat.blt k fs.length && kfit (kTy ci k) v) then some (pc + 3, lo, rest, kws w a (.inr (cj, fs.set k v)), c, s) else none
    | _ => none
  | _ => none
def kfresh (c s n Rc Rs : Nat) (lo : List (Nat × KV)) (st : List KV) (w : KW) : Bool := Nat.ble (c + 1) Rc && (Nat.ble (s + n) Rs && (Nat.blt (kfr 0 w) 1000000 && (kokW (kfr 0 w) w && (kokS (kfr 0 w) st && kokL (kfr 0 w) lo))))
def knew (ci Rc Rs : Nat) (pc : Nat) (lo : List (Nat × KV)) (st : List KV) (w : KW) (c s : Nat) : Option KF := match kTys[ci]? with
  | some tys => bif kfresh c s tys.length Rc Rs lo st w then some (pc + 3, lo, .inl (.ref (kfr 0 w)) :: st, kwp (.inr (ci, tys.map (fun t => (.inl (defaultValue t) : KV)))) w, c + 1, s + tys.length) else none
  | none => none
/-- the kinds of arrays -/
def kEl : List FieldType := [.int, .long, .byte, .char, .boolean, .object "TriplicateForms$Standing", .object "TriplicateForms$Image"]
def kElc : List Nat := [99, 99, 99, 99, 99, 7, 2]
def karr0 (t n : Nat) : KA := (t, n, match t with
  | 1 => .inr (.inl ([], 0))
  | 5 => .inr (.inr [])
  | 6 => .inr (.inr [])
  | _ => .inl ([], .inl 0))
def knewa (ref : Bool) (t len Rc Rs : Nat) (pc : Nat) (lo : List (Nat × KV)) (st : List KV) (w : KW) (c s : Nat) : Option KF := match st with
  | .inl (.int n) :: rest => bif !decide (n < 0) && (Nat.blt n.toNatClampNeg 100000 && (kfresh c s n.toNatClampNeg Rc Rs lo rest w && (Nat.blt t 7 && (Nat.ble 5 t == ref)))) then some (pc + len, lo, .inl (.ref (kfr 0 w)) :: rest, kwp (.inl (karr0 t n.toNatClampNeg)) w, c + 1, s + n.toNatClampNeg) else none
  | _ => none
/-- the script (L: its length and one more; 0 where there is none) -/
def kscr : KV → Bool
  | .inl (.ref a) => Nat.beq a 1000000
  | _ => false
def kalen (L : Nat) (pc : Nat) (lo : List (Nat × KV)) (st : List KV) (w : KW) (c s : Nat) : Option KF := match st with
  | v :: rest => bif kscr v && Nat.blt 0 L then some (pc + 1, lo, .inl (.int (Int32.ofNat (L - 1))) :: rest, w, c, s) else (match v with
    | .inl (.ref a) => match kwg w a with
      | some (.inl (t, n, _)) => bif Nat.blt t 7 then some (pc + 1, lo, .inl (.int (Int32.ofNat n)) :: rest, w, c, s) else none
      | _ => none
    | _ => none)
  | _ => none
def kinB (i : Int32) (n : Nat) : Bool := !decide (i < 0) && Nat.blt i.toNatClampNeg n
def kofI : KI → KV
  | .inl x => .inl (.int x)
  | .inr z => .inr z
def ktoI : KV → KI
  | .inl v => match v with
    | .int x => .inl x
    | _ => .inl 0
  | .inr z => .inr z
theorem kofI_ok (ad : Nat → Nat) (ρ : Nat → Int32) (x : KI) : kV ad ρ (kofI x) = .int (kI ρ x) := by
  cases x <;> rfl
theorem ktoI_ok (ρ : Nat → Int32) (v : KV) : kI ρ (ktoI v) = kiv ρ v := by
  rcases v with v | z
  · cases v <;> rfl
  · rfl
def kscl (rg : List (Int × Int)) (j : Nat) : Option KV := match rg[j]? with
  | some (a, b) => bif decide (a = b) then some (.inl (.int (Int32.ofInt a))) else some (.inr (.inl j))
  | none => none
def kald (rg : List (Int × Int)) (L : Nat) (ok : Nat → Bool) (pc : Nat) (lo : List (Nat × KV)) (st : List KV) (w : KW) (c s : Nat) : Option KF := match st with
  | .inl (.int i) :: v :: rest => bif kscr v && kinB i (L - 1) then (match kscl rg i.toNatClampNeg with
      | some x => some (pc + 1, lo, x :: rest, w, c, s)
      | none => none) else (match v with
    | .inl (.ref a) => match kwg w a with
      | some (.inl (t, n, .inl (l, d))) => bif ok t && kinB i n then some (pc + 1, lo, kofI (kget l d i.toNatClampNeg) :: rest, w, c, s) else none
      | _ => none
    | _ => none)
  | _ => none
def klald (pc : Nat) (lo : List (Nat × KV)) (st : List KV) (w : KW) (c s : Nat) : Option KF := match st with
  | .inl (.int i) :: .inl (.ref a) :: rest => match kwg w a with
    | some (.inl (t, n, .inr (.inl (l, d)))) => bif Nat.beq t 1 && kinB i n then some (pc + 1, lo, .inl (.long (kget l d i.toNatClampNeg)) :: rest, w, c, s) else none
    | _ => none
  | _ => none
def kofR : Option Nat → KV
  | none => .inl .null
  | some a => .inl (.ref a)
theorem kofR_ok (ad : Nat → Nat) (ρ : Nat → Int32) (o : Option Nat) : kV ad ρ (kofR o) = va_rf (o.map ad) := by
  cases o <;> rfl
def kaald (pc : Nat) (lo : List (Nat × KV)) (st : List KV) (w : KW) (c s : Nat) : Option KF := match st with
  | .inl (.int i) :: .inl (.ref a) :: rest => match kwg w a with
    | some (.inl (t, n, .inr (.inr l))) => bif (Nat.beq t 5 || Nat.beq t 6) && kinB i n then some (pc + 1, lo, kofR (kget l none i.toNatClampNeg) :: rest, w, c, s) else none
    | _ => none
  | _ => none
def kop1I (f : Int32 → Int32) : KI → KI
  | .inl x => .inl (f x)
  | .inr z => .inr (.inr (fun ρ => f (kS ρ z)))
theorem kop1I_ok (f : Int32 → Int32) (ρ : Nat → Int32) (x : KI) : kI ρ (kop1I f x) = f (kI ρ x) := by
  cases x <;> rfl
def kast (ok : Nat → Bool) (f : Nat → Int32 → Int32) (pc : Nat) (lo : List (Nat × KV)) (st : List KV) (w : KW) (c s : Nat) : Option KF := match st with
  | x :: .inl (.int i) :: .inl (.ref a) :: rest => match kwg w a with
    | some (.inl (t, n, .inl (l, d))) => bif ok t && (kinB i n && kisI x) then some (pc + 1, lo, rest, kws w a (.inl (t, n, .inl (kset l i.toNatClampNeg (kop1I (f t) (ktoI x)), d))), c, s) else none
    | _ => none
  | _ => none
def klast (pc : Nat) (lo : List (Nat × KV)) (st : List KV) (w : KW) (c s : Nat) : Option KF := match st with
  | .inl (.long x) :: .inl (.int i) :: .inl (.ref a) :: rest => match kwg w a with
    | some (.inl (t, n, .inr (.inl (l, d)))) => bif Nat.beq t 1 && kinB i n then some (pc + 1, lo, rest, kws w a (.inl (t, n, .inr (.inl (kset l i.toNatClampNeg x, d)))), c, s) else none
    | _ => none
  | _ => none
def kaast (pc : Nat) (lo : List (Nat × KV)) (st : List KV) (w : KW) (c s : Nat) : Option KF := match st with
  | .inl (.ref r) :: .inl (.int i) :: .inl (.ref a) :: rest => match kwg w a, kwg w r with
    | some (.inl (t, n, .inr (.inr l))), some (.inr (cj, _)) => bif (Nat.beq t 5 && Nat.beq cj 7 || Nat.beq t 6 && Nat.beq cj 2) && kinB i n then some (pc + 1, lo, rest, kws w a (.inl (t, n, .inr (.inr (kset l i.toNatClampNeg (some r))))), c, s) else none
    | _, _ => none
  | _ => none
def kdup (pc : Nat) (lo : List (Nat × KV)) (st : List KV) (w : KW) (c s : Nat) : Option KF := match st with
  | v :: rest => bif Nat.beq (kcat v) 1 then some (pc + 1, lo, v :: v :: rest, w, c, s) else none
  | _ => none
def kdup2 (pc : Nat) (lo : List (Nat × KV)) (st : List KV) (w : KW) (c s : Nat) : Option KF := match st with
  | a :: b :: rest => bif Nat.beq (kcat a) 1 && Nat.beq (kcat b) 1 then some (pc + 1, lo, a :: b :: a :: b :: rest, w, c, s) else none
  | _ => none
def kpop (pc : Nat) (lo : List (Nat × KV)) (st : List KV) (w : KW) (c s : Nat) : Option KF := match st with
  | v :: rest => bif Nat.beq (kcat v) 1 then some (pc + 1, lo, rest, w, c, s) else none
  | _ => none
def kcats (st : List KV) : Nat := (st.map kcat).sum
/-- calls: the method's number, how many arguments, the cells and slots that it may make, the receiver's class -/
def kcallV (call : Nat → List KV → KW → Option (Option KV × KW)) (Rc Rs : Nat) (x : KX) (pc : Nat) (lo : List (Nat × KV)) (st : List KV) (w : KW) (c s : Nat) : Option KF := match st.drop x.2.1 with
  | .inl (.ref b) :: rest => match kwg w b with
    | some (.inr (cj, _)) => bif Nat.beq cj x.2.2.2.2 && (kokL (kfr 0 w) lo && (kokS (kfr 0 w) rest && (Nat.ble (c + x.2.2.1) Rc && (Nat.ble (s + x.2.2.2.1) Rs && Nat.ble (kcats rest) 8)))) then
        (match call x.1 (.inl (.ref b) :: (st.take x.2.1).reverse) w with
        | some (r, w') => some (pc + 3, lo, r.toList ++ rest, w', c + x.2.2.1, s + x.2.2.2.1)
        | none => none) else none
    | _ => none
  | _ => none
def kcallS (call : Nat → List KV → KW → Option (Option KV × KW)) (Rc Rs : Nat) (x : KX) (pc : Nat) (lo : List (Nat × KV)) (st : List KV) (w : KW) (c s : Nat) : Option KF :=
  bif Nat.ble x.2.1 st.length && (kokL (kfr 0 w) lo && (kokS (kfr 0 w) (st.drop x.2.1) && (Nat.ble (c + x.2.2.1) Rc && (Nat.ble (s + x.2.2.2.1) Rs && Nat.ble (kcats (st.drop x.2.1)) 8)))) then
        (match call x.1 (st.take x.2.1).reverse w with
        | some (r, w') => some (pc + 3, lo, r.toList ++ st.drop x.2.1, w', c + x.2.2.1, s + x.2.2.2.1)
        | none => none) else none
def kobj (pc : Nat) (lo : List (Nat × KV)) (st : List KV) (w : KW) (c s : Nat) : Option KF := match st with
  | .inl (.ref _) :: rest => bif Nat.ble (kcats rest) 8 then some (pc + 3, lo, rest, w, c, s) else none
  | _ => none
def kmin (rg : List (Int × Int)) (Rc Rs : Nat) (pc : Nat) (lo : List (Nat × KV)) (st : List KV) (w : KW) (c s : Nat) : Option KF := match st with
  | y :: x :: rest => bif kisI x && (kisI y && (Nat.ble c Rc && (Nat.ble s Rs && Nat.ble (kcats rest) 8))) then (match klt rg y x with
      | some b => some (pc + 3, lo, (bif b then y else x) :: rest, w, c, s)
      | none => none) else none
  | _ => none
def kcopy (pc : Nat) (lo : List (Nat × KV)) (st : List KV) (w : KW) (c s : Nat) : Option KF := match st with
  | .inl (.int n) :: .inl (.int dp) :: .inl (.ref a1) :: .inl (.int sp) :: .inl (.ref a0) :: rest => match kwg w a0, kwg w a1 with
    | some (.inl (t0, n0, e0)), some (.inl (t1, n1, e1)) => bif decide (sp = 0) && (decide (dp = 0) && (!decide (n < 0) && (Nat.beq n.toNatClampNeg n0 && (Nat.beq n0 n1 && (Nat.beq t0 t1 && Nat.ble (kcats rest) 8))))) then
        (match e0, e1 with
        | .inl _, .inl _ => bif Nat.beq t0 0 then some (pc + 3, lo, rest, kws w a1 (.inl (t1, n1, e0)), c, s) else none
        | .inr (.inl _), .inr (.inl _) => bif Nat.beq t0 1 then some (pc + 3, lo, rest, kws w a1 (.inl (t1, n1, e0)), c, s) else none
        | _, _ => none) else none
    | _, _ => none
  | _ => none
def kdo (ig : Instr) : (Nat → List KV → KW → Option (Option KV × KW)) → List (Int × Int) → Option Int32 → Nat → Nat → Nat → Nat → KX → Nat → List (Nat × KV) → List KV → KW → Nat → Nat → Option KF := match ig with
  | .iconst n => fun call rg ks L nL Rc Rs x pc lo st w c s => some (pc + 1, lo, .inl (.int (Int32.ofInt n)) :: st, w, c, s)
  | .bipush n => fun call rg ks L nL Rc Rs x pc lo st w c s => some (pc + 2, lo, .inl (.int (Int8.ofInt n).toInt32) :: st, w, c, s)
  | .sipush n => fun call rg ks L nL Rc Rs x pc lo st w c s => some (pc + 3, lo, .inl (.int (Int16.ofInt n).toInt32) :: st, w, c, s)
  | .lconst n => fun call rg ks L nL Rc Rs x pc lo st w c s => some (pc + 1, lo, .inl (.long (Int64.ofNat n.val)) :: st, w, c, s)
  | .aconst_null => fun call rg ks L nL Rc Rs x pc lo st w c s => some (pc + 1, lo, .inl .null :: st, w, c, s)
  | .iload_n n => fun call rg ks L nL Rc Rs x pc lo st w c s => kld kisI n.val 1 pc lo st w c s
  | .iload n => fun call rg ks L nL Rc Rs x pc lo st w c s => kld kisI n 2 pc lo st w c s
  | .aload_n n => fun call rg ks L nL Rc Rs x pc lo st w c s => kld kisQ n.val 1 pc lo st w c s
  | .aload n => fun call rg ks L nL Rc Rs x pc lo st w c s => kld kisQ n 2 pc lo st w c s
  | .istore_n n => fun call rg ks L nL Rc Rs x pc lo st w c s => kst kisI n.val 1 nL pc lo st w c s
  | .istore n => fun call rg ks L nL Rc Rs x pc lo st w c s => kst kisI n 2 nL pc lo st w c s
  | .astore_n n => fun call rg ks L nL Rc Rs x pc lo st w c s => kst kisQ n.val 1 nL pc lo st w c s
  | .astore n => fun call rg ks L nL Rc Rs x pc lo st w c s => kst kisQ n 2 nL pc lo st w c s
  | .iinc i n => fun call rg ks L nL Rc Rs x pc lo st w c s => kinc i n nL pc lo st w c s
  | .iadd => fun call rg ks L nL Rc Rs x pc lo st w c s => kbin (fun a b => a + b) pc lo st w c s
  | .isub => fun call rg ks L nL Rc Rs x pc lo st w c s => kbin (fun a b => a - b) pc lo st w c s
  | .imul => fun call rg ks L nL Rc Rs x pc lo st w c s => kbin (fun a b => a * b) pc lo st w c s
  | .ishl => fun call rg ks L nL Rc Rs x pc lo st w c s => kbin (fun a b => a <<< (b &&& 31)) pc lo st w c s
  | .iushr => fun call rg ks L nL Rc Rs x pc lo st w c s => kbin (fun a b => (a.toUInt32 >>> (b.toUInt32 &&& Int32.toUInt32 31)).toInt32) pc lo st w c s
  | .iand => fun call rg ks L nL Rc Rs x pc lo st w c s => kand ks pc lo st w c s
  | .i2b => fun call rg ks L nL Rc Rs x pc lo st w c s => kun (fun a => a.toInt8.toInt32) pc lo st w c s
  | .dup => fun call rg ks L nL Rc Rs x pc lo st w c s => kdup pc lo st w c s
  | .dup2 => fun call rg ks L nL Rc Rs x pc lo st w c s => kdup2 pc lo st w c s
  | .pop => fun call rg ks L nL Rc Rs x pc lo st w c s => kpop pc lo st w c s
  | .goto off => fun call rg ks L nL Rc Rs x pc lo st w c s => (match ktg pc off with
    | some t => some (t, lo, st, w, c, s)
    | none => none)
  | .ifCond cnd off => fun call rg ks L nL Rc Rs x pc lo st w c s => kif rg cnd off pc lo st w c s
  | .if_icmp cnd off => fun call rg ks L nL Rc Rs x pc lo st w c s => kicmp rg cnd off pc lo st w c s
  | .if_acmp cnd off => fun call rg ks L nL Rc Rs x pc lo st w c s => kacmp cnd off pc lo st w c s
  | .tableswitch dflt lw hg offs => fun call rg ks L nL Rc Rs x pc lo st w c s => ksw rg dflt lw hg offs pc lo st w c s
  | .getfield _ => fun call rg ks L nL Rc Rs x pc lo st w c s => kgetf x.1 x.2.1 pc lo st w c s
  | .putfield _ => fun call rg ks L nL Rc Rs x pc lo st w c s => kputf x.1 x.2.1 pc lo st w c s
  | .getstatic _ => fun call rg ks L nL Rc Rs x pc lo st w c s => some (pc + 3, lo, .inl (.ref (1000001 + x.1)) :: st, w, c, s)
  | .new _ => fun call rg ks L nL Rc Rs x pc lo st w c s => knew x.1 Rc Rs pc lo st w c s
  | .newarray _ => fun call rg ks L nL Rc Rs x pc lo st w c s => knewa false x.1 2 Rc Rs pc lo st w c s
  | .anewarray _ => fun call rg ks L nL Rc Rs x pc lo st w c s => knewa true x.1 3 Rc Rs pc lo st w c s
  | .arraylength => fun call rg ks L nL Rc Rs x pc lo st w c s => kalen L pc lo st w c s
  | .iaload => fun call rg ks L nL Rc Rs x pc lo st w c s => kald rg L (fun t => Nat.beq t 0) pc lo st w c s
  | .baload => fun call rg ks L nL Rc Rs x pc lo st w c s => kald rg 0 (fun t => Nat.beq t 2 || Nat.beq t 4) pc lo st w c s
  | .laload => fun call rg ks L nL Rc Rs x pc lo st w c s => klald pc lo st w c s
  | .aaload => fun call rg ks L nL Rc Rs x pc lo st w c s => kaald pc lo st w c s
  | .iastore => fun call rg ks L nL Rc Rs x pc lo st w c s => kast (fun t => Nat.beq t 0) (fun _ a => a) pc lo st w c s
  | .bastore => fun call rg ks L nL Rc Rs x pc lo st w c s => kast (fun t => Nat.beq t 2 || Nat.beq t 4) (fun t a => bif Nat.beq t 2 then vp_nar .byte a else vp_nar .boolean a) pc lo st w c s
  | .lastore => fun call rg ks L nL Rc Rs x pc lo st w c s => klast pc lo st w c s
  | .aastore => fun call rg ks L nL Rc Rs x pc lo st w c s => kaast pc lo st w c s
  | .invokevirtual _ => fun call rg ks L nL Rc Rs x pc lo st w c s => kcallV call Rc Rs x pc lo st w c s
  | .invokespecial _ => fun call rg ks L nL Rc Rs x pc lo st w c s => bif Nat.beq x.1 999999 then kobj pc lo st w c s else kcallV call Rc Rs (x.1, x.2.1, x.2.2.1, x.2.2.2.1, x.2.2.2.2 % 100) pc lo st w c s
  | .ldc _ => fun call rg ks L nL Rc Rs x pc lo st w c s => some (pc + 2, lo, .inl (.int (Int32.ofNat x.1)) :: st, w, c, s)
  | .ldc_w _ => fun call rg ks L nL Rc Rs x pc lo st w c s => some (pc + 3, lo, .inl (.int (Int32.ofNat x.1)) :: st, w, c, s)
  | .invokestatic _ => fun call rg ks L nL Rc Rs x pc lo st w c s => bif Nat.beq x.1 999998 then kmin rg Rc Rs pc lo st w c s else bif Nat.beq x.1 999997 then kcopy pc lo st w c s else kcallS call Rc Rs x pc lo st w c s
  | _ => fun _ _ _ _ _ _ _ _ _ _ _ _ _ _ => none
def kend : Instr → Bool
  | .ireturn => true
  | .return_ => true
  | .lreturn => true
  | .areturn => true
  | _ => false
/-- what stands from a place on -/
def kfrom : List KEnt → Nat → List KEnt
  | [], _ => []
  | e :: l, pc => bif Nat.beq e.1 pc then e :: l else kfrom l pc
theorem kfrom_sub {l : List KEnt} {pc : Nat} : ∀ e ∈ kfrom l pc, e ∈ l := by
  induction l with
  | nil => intro e h; cases h
  | cons q l ih =>
    intro e h
    unfold kfrom at h
    cases q1 : Nat.beq q.1 pc with
    | true => rw [q1] at h; exact h
    | false => rw [q1] at h; exact List.mem_cons_of_mem _ (ih e h)
def krun (call : Nat → List KV → KW → Option (Option KV × KW)) (rg : List (Int × Int)) (ks : Option Int32) (L nL Rc Rs : Nat) (prog : List KEnt) : Nat → List KEnt → KF → Option (Instr × KF)
  | 0, _, _ => none
  | n + 1, cur, (pc, lo, st, w, c, s) => match cur with
    | [] => (match kfrom prog pc with
      | [] => none
      | e :: l => krun call rg ks L nL Rc Rs prog n (e :: l) (pc, lo, st, w, c, s))
    | e :: l => bif Nat.beq e.1 pc then
        (bif kend e.2.1 then some (e.2.1, pc, lo, st, w, c, s) else match kdo e.2.1 call rg ks L nL Rc Rs e.2.2 pc lo st w c s with
        | none => none
        | some k => krun call rg ks L nL Rc Rs prog n l k)
      else krun call rg ks L nL Rc Rs prog n [] (pc, lo, st, w, c, s)
def kargs : Nat → List KV → List (Nat × KV)
  | _, [] => []
  | i, v :: vs => (i, v) :: kargs (if kcat v = 2 then i + 2 else i + 1) vs
/-- an answer: none for void -/
def kret (ret : Option FieldType) (ig : Instr) (st : List KV) : Option (Option KV) := match ig with
  | .return_ => match ret, st with
    | none, [] => some none
    | _, _ => none
  | .ireturn => match ret, st with
    | some .int, [v] => bif kisI v then some (some v) else none
    | some .boolean, [.inl (.int x)] => bif decide (x = 0) || decide (x = 1) then some (some (.inl (.int x))) else none
    | _, _ => none
  | _ => none
def kfuel : Nat := 1000000
def kcall (ms : List KMeth) (rg : List (Int × Int)) (ks : Option Int32) : Nat → Nat → List KV → KW → Option (Option KV × KW)
  | 0, _, _, _ => none
  | d + 1, mid, args, w => match ms[mid]? with
    | none => none
    | some (_, _, maxL, ret, mc, mslots, prog) => bif Nat.ble (kcats args) maxL && Nat.blt (kfr 0 w) 1000000 then
        (match krun (kcall ms rg ks d) rg ks 0 maxL mc mslots prog kfuel prog (0, kargs 0 args, [], w, 0, 0) with
        | some (ig, _, _, st, w', c, s) => bif Nat.ble c mc && Nat.ble s mslots then (match kret ret ig st with
          | some r => some (r, w')
          | none => none) else none
        | none => none) else none
end
section
/-! What a step of the small machine says of the machine: from the judgement behind it to the judgement ahead of it. -/
def kTyL (dA : Nat → ClassId) : List (ClassId × FieldType) := [(dA 0, .int), (dA 1, .long), (dA 2, .byte), (dA 3, .char), (dA 4, .boolean), (dA 5, .object "TriplicateForms$Standing"), (dA 6, .object "TriplicateForms$Image")]
abbrev KZ : Type := List (String × String × String)
/-- the words that an instruction needs -/
def kwords (ms : List KMeth) (zs : KZ) (own : String) (e : KEnt) : List Cond := match e.2.1 with
  | .getfield i => (match kCl[e.2.2.1]? with
    | some q => [.fieldLink own i (q.2.1 e.2.2.2.1).1 (q.2.1 e.2.2.2.1).2.1 (q.2.1 e.2.2.2.1).2.2.1]
    | none => [])
  | .putfield i => (match kCl[e.2.2.1]? with
    | some q => [.fieldLink own i (q.2.1 e.2.2.2.1).1 (q.2.1 e.2.2.2.1).2.1 (q.2.1 e.2.2.2.1).2.2.1]
    | none => [])
  | .getstatic i => (match zs[e.2.2.1]? with
    | some z => [.fieldLink own i z.1 z.2.1 z.2.2]
    | none => [])
  | .new i => (match kCl[e.2.2.1]? with
    | some q => [.classLink own i q.1, .instantiable q.1 q.2.2, .initialized q.1]
    | none => [])
  | .newarray t => [.arrayClass (newarray.typeOf t)]
  | .anewarray i => (match kEl[e.2.2.1]? with
    | some (.object C) => [.classLink own i C]
    | _ => [])
  | .ldc i => [.constant own i (Int32.ofNat e.2.2.1)]
  | .ldc_w i => [.constant own i (Int32.ofNat e.2.2.1)]
  | .invokevirtual i => (match ms[e.2.2.1]? with
    | some r => [.methodLink own i r.1, .instanceMethod r.1, .selects r.1.cls r.1 r.1, .initialized r.1.cls, .code r.1 r.2.1 r.2.2.1 r.2.2.2.1]
    | none => [])
  | .invokespecial i => bif Nat.beq e.2.2.1 999999 then [.methodLink own i objectInit, .instanceMethod objectInit, .code objectInit ⟨#[0xb1]⟩ 1 none] else (match ms[e.2.2.1]? with
    | some r => (bif Nat.ble 100 e.2.2.2.2.2.2 then [] else [.methodLink own i r.1]) ++ [.instanceMethod r.1, .initialized r.1.cls, .code r.1 r.2.1 r.2.2.1 r.2.2.2.1]
    | none => [])
  | .invokestatic i => bif Nat.beq e.2.2.1 999998 then [.methodLink own i Lib.Math.min.name, .static Lib.Math.min.name, .initialized "java/lang/Math", .code Lib.Math.min.name Lib.Math.min.code 2 (some .int)]
    else bif Nat.beq e.2.2.1 999997 then [.methodLink own i arraycopyName, .native arraycopyName, .static arraycopyName, .initialized "java/lang/System"] else (match ms[e.2.2.1]? with
    | some r => [.methodLink own i r.1, .static r.1, .initialized r.1.cls, .code r.1 r.2.1 r.2.2.1 r.2.2.2.1]
    | none => [])
  | _ => []
def ksideM (ms : List KMeth) (x : KX) (f : KMeth → Bool) : Bool := match ms[x.1]? with
  | some r => decide ((parseMethodDescriptor r.1.desc).map (fun d => d.parameters.length) = some x.2.1) && (Nat.beq r.2.2.2.2.1 x.2.2.1 && (Nat.beq r.2.2.2.2.2.1 x.2.2.2.1 && (decide (r.1.cls ≠ "java/lang/invoke/MethodHandle") && (decide (r.1.cls ≠ "java/lang/invoke/VarHandle") && (Nat.ble r.2.2.1 21 && f r)))))
  | none => false
/-- what else must be so of an instruction -/
def kside (ms : List KMeth) (zs : KZ) (own mname : String) (e : KEnt) : Bool := match e.2.1 with
  | .getfield _ => (match kCl[e.2.2.1]? with
    | some q => Nat.blt e.2.2.2.1 q.2.2
    | none => false)
  | .putfield _ => (match kCl[e.2.2.1]? with
    | some q => Nat.blt e.2.2.2.1 q.2.2 && (bif (q.2.1 e.2.2.2.1).2.2.2 then decide (mname = "<init>") && decide ((q.2.1 e.2.2.2.1).1 = own) else true)
    | none => false)
  | .getstatic _ => Nat.blt e.2.2.1 zs.length
  | .new _ => (match kCl[e.2.2.1]?, kTys[e.2.2.1]? with
    | some q, some t => Nat.beq q.2.2 t.length
    | _, _ => false)
  | .newarray t => decide (kEl[e.2.2.1]? = some (newarray.typeOf t))
  | .anewarray _ => Nat.beq e.2.2.1 5 || Nat.beq e.2.2.1 6
  | .invokevirtual _ => ksideM ms e.2.2 (fun r => (match kCl[e.2.2.2.2.2.2]? with
    | some q => decide (q.1 = r.1.cls)
    | none => false))
  | .invokespecial i => Nat.beq e.2.2.1 999999 || ksideM ms e.2.2 (fun r => decide (r.1.name = "<init>") && (decide (r.2.2.2.1 = none) && (!Nat.ble 100 e.2.2.2.2.2.2 || decide ((own, i, r.1) ∈ kNW))))
  | .invokestatic _ => Nat.beq e.2.2.1 999998 || (Nat.beq e.2.2.1 999997 || ksideM ms e.2.2 (fun _ => true))
  | _ => true
/-- what the tables say that is not told by a method's words -/
def kSt (U : State) : Prop := (∀ q ∈ kNW, va_Nw (.methodLinkNest q.1 q.2.1 q.2.2 "TriplicateForms") U) ∧ va_AO "TriplicateForms$Standing" U ∧ va_AO "TriplicateForms$Image" U
theorem kSt.warm {s U : State} (hW : s.WarmedH U.vm) (h : kSt s) : kSt U := ⟨fun q hq => (h.1 q hq).warmM hW, h.2.1.moved hW.alike, h.2.2.moved hW.alike⟩
theorem kSt.same {u U : State} (hvm : u.vm = U.vm) (h : kSt u) : kSt U := ⟨fun q hq => va_Nw.same rfl hvm (h.1 q hq), h.2.1.moved (by rw [hvm]; exact Vm.Alike.refl _), h.2.2.moved (by rw [hvm]; exact Vm.Alike.refl _)⟩
def kFix (p : Program) (s : State) (m : MethodId) (args : Array Value) (meth : Method) (cd : Code) (cc : ByteArray) (nL : Nat) (own mname : String) (D : va_G) (dA : Nat → ClassId) (A : Nat → Prop) (zs : KZ) (ad0 : Nat → Nat) : Prop :=
  p.tables.exec = Jvm.exec ∧ cd.code = cc ∧ cd.maxLocals = nL ∧ s.vm.findClass own = some m.cls ∧ (∀ w ∈ LT, w.before args s = true) ∧ va_K D kCl (kTyL dA) s ∧ (∀ q, s.heap.size ≤ q → A q) ∧ (mname = "<init>" → meth.name = "<init>") ∧
  (∀ (i : Nat) (z : String × String × String), zs[i]? = some z → va_Z z.1 z.2.1 z.2.2 (.ref (ad0 (1000001 + i))) A s s.heap) ∧
  kSt s
def kAt (s : State) (D : va_G) (dA : Nat → ClassId) (ρ : Nat → Int32) (A : Nat → Prop) (nL : Nat) (ad0 : Nat → Nat) (n0 : Nat) (ad : Nat → Nat) (ls : Array Slot) (lo : List (Nat × KV)) (w : KW) (H : Heap) (locs : List Loc) : Prop :=
  lv_has ls nL (kL ad ρ lo) ∧ va_P D kCl (kW dA ad ρ w) H ∧ va_D A (kW dA ad ρ w) ∧ va_S A s.heap H locs ∧ n0 ≤ kfr 0 w ∧ kExt n0 ad0 ad
def kGo (p : Program) (l : Launch) (e : Env) (R : Room) (s : State) (m : MethodId) (args : Array Value) (below : List Frame) (meth : Method) (cd : Code) (Q : State → Prop) (D : va_G) (dA : Nat → ClassId) (ρ : Nat → Int32) (A : Nat → Prop) (nL : Nat) (ad0 : Nat → Nat) (n0 : Nat) (k : KF) : Prop :=
  ∀ (ad : Nat → Nat) (H : Heap) (locs : List Loc) (ls : Array Slot), kAt s D dA ρ A nL ad0 n0 ad ls k.2.1 k.2.2.2.1 H locs → W p l e R s m args below meth cd H locs k.2.2.2.2.1 k.2.2.2.2.2 Q (F0 m k.1 ls (k.2.2.1.map (kV ad ρ)))
section KROWS
variable {p : Program} {l : Launch} {e : Env} {R : Room} {s : State} {m : MethodId} {args : Array Value} {below : List Frame} {meth : Method} {cd : Code} {Q : State → Prop} {D : va_G} {dA : Nat → ClassId} {ρ : Nat → Int32} {A : Nat → Prop} {nL : Nat} {ad0 : Nat → Nat} {n0 : Nat} {cc : ByteArray} {own mname : String} {zs : KZ} {rg : List (Int × Int)}
variable {pc : Nat} {lo : List (Nat × KV)} {st : List KV} {w : KW} {c sl : Nat} {k : KF}
theorem k_ild {i len : Nat} (hrow : ∀ (ad : Nat → Nat) (H : Heap) (locs : List Loc) (ls : Array Slot) (x : Int32), ls[i]? = some (.val (.int x)) → W p l e R s m args below meth cd H locs c sl Q (F0 m (pc + len) ls (.int x :: st.map (kV ad ρ))) → W p l e R s m args below meth cd H locs c sl Q (F0 m pc ls (st.map (kV ad ρ)))) (h : kld kisI i len pc lo st w c sl = some k) (g : kGo p l e R s m args below meth cd Q D dA ρ A nL ad0 n0 (k)) : kGo p l e R s m args below meth cd Q D dA ρ A nL ad0 n0 ((pc, lo, st, w, c, sl)) := by
  unfold kld at h
  split at h
  · rename_i v hk
    cases hv : kisI v with
    | false => rw [hv] at h; cases h
    | true =>
      rw [hv] at h; cases h
      intro ad H locs ls hat
      have g1 := g ad H locs ls hat
      simp only [List.map_cons] at g1
      rw [kisI_eq hv] at g1
      exact hrow ad H locs ls _ (by rw [kL_get hat.1 hk, kisI_eq hv]) g1
  · cases h
theorem k_ald {i len : Nat} (hrow : ∀ (ad : Nat → Nat) (H : Heap) (locs : List Loc) (ls : Array Slot) (x : Nat), ls[i]? = some (.val (.ref x)) → W p l e R s m args below meth cd H locs c sl Q (F0 m (pc + len) ls (.ref x :: st.map (kV ad ρ))) → W p l e R s m args below meth cd H locs c sl Q (F0 m pc ls (st.map (kV ad ρ))))
    (hrowN : ∀ (ad : Nat → Nat) (H : Heap) (locs : List Loc) (ls : Array Slot), ls[i]? = some (.val .null) → W p l e R s m args below meth cd H locs c sl Q (F0 m (pc + len) ls (.null :: st.map (kV ad ρ))) → W p l e R s m args below meth cd H locs c sl Q (F0 m pc ls (st.map (kV ad ρ)))) (h : kld kisQ i len pc lo st w c sl = some k) (g : kGo p l e R s m args below meth cd Q D dA ρ A nL ad0 n0 (k)) : kGo p l e R s m args below meth cd Q D dA ρ A nL ad0 n0 ((pc, lo, st, w, c, sl)) := by
  unfold kld at h
  split at h
  · rename_i v hk
    cases hv : kisQ v with
    | false => rw [hv] at h; cases h
    | true =>
      rw [hv] at h; cases h
      rcases kisQ_eq hv with ⟨a, rfl⟩ | rfl
      · intro ad H locs ls hat
        exact hrow ad H locs ls _ (kL_get hat.1 hk) (g ad H locs ls hat)
      · intro ad H locs ls hat
        exact hrowN ad H locs ls (kL_get hat.1 hk) (g ad H locs ls hat)
  · cases h
theorem k_ist {i len : Nat} (hrow : ∀ (ad : Nat → Nat) (H : Heap) (locs : List Loc) (ls : Array Slot) (x : Int32) (rest : List Value) (lv lv' : List (Nat × Value)), lv_has ls nL lv → i < nL → (i, Value.int x) :: lv.filter (fun q => !(q.1 == i) && !(q.1 + 1 == i && q.2.category == 2)) = lv' → (∀ ls' : Array Slot, lv_has ls' nL lv' → W p l e R s m args below meth cd H locs c sl Q (F0 m (pc + len) ls' rest)) → W p l e R s m args below meth cd H locs c sl Q (F0 m pc ls (.int x :: rest))) (h : kst kisI i len nL pc lo st w c sl = some k) (g : kGo p l e R s m args below meth cd Q D dA ρ A nL ad0 n0 (k)) : kGo p l e R s m args below meth cd Q D dA ρ A nL ad0 n0 ((pc, lo, st, w, c, sl)) := by
  unfold kst at h
  split at h
  · rename_i v rest
    cases hv : kisI v with
    | false => rw [hv] at h; cases h
    | true =>
      cases hi : Nat.blt i nL with
      | false => rw [hv, hi] at h; cases h
      | true =>
        rw [hv, hi] at h; cases h
        intro ad H locs ls hat
        have e1 := klo_c ad ρ lo i v
        rw [kisI_eq hv] at e1
        simp only [List.map_cons]
        rw [kisI_eq hv]
        exact hrow ad H locs ls _ _ _ _ hat.1 (Nat.ble_eq.mp hi) e1 (fun ls' hl' => g ad H locs ls' ⟨hl', hat.2⟩)
  · cases h
theorem k_ast {i len : Nat} (hrow : ∀ (ad : Nat → Nat) (H : Heap) (locs : List Loc) (ls : Array Slot) (x : Nat) (rest : List Value) (lv lv' : List (Nat × Value)), lv_has ls nL lv → i < nL → (i, Value.ref x) :: lv.filter (fun q => !(q.1 == i) && !(q.1 + 1 == i && q.2.category == 2)) = lv' → (∀ ls' : Array Slot, lv_has ls' nL lv' → W p l e R s m args below meth cd H locs c sl Q (F0 m (pc + len) ls' rest)) → W p l e R s m args below meth cd H locs c sl Q (F0 m pc ls (.ref x :: rest)))
    (hrowN : ∀ (ad : Nat → Nat) (H : Heap) (locs : List Loc) (ls : Array Slot) (rest : List Value) (lv lv' : List (Nat × Value)), lv_has ls nL lv → i < nL → (i, Value.null) :: lv.filter (fun q => !(q.1 == i) && !(q.1 + 1 == i && q.2.category == 2)) = lv' → (∀ ls' : Array Slot, lv_has ls' nL lv' → W p l e R s m args below meth cd H locs c sl Q (F0 m (pc + len) ls' rest)) → W p l e R s m args below meth cd H locs c sl Q (F0 m pc ls (.null :: rest))) (h : kst kisQ i len nL pc lo st w c sl = some k) (g : kGo p l e R s m args below meth cd Q D dA ρ A nL ad0 n0 (k)) : kGo p l e R s m args below meth cd Q D dA ρ A nL ad0 n0 ((pc, lo, st, w, c, sl)) := by
  unfold kst at h
  split at h
  · rename_i v rest
    cases hv : kisQ v with
    | false => rw [hv] at h; cases h
    | true =>
      cases hi : Nat.blt i nL with
      | false => rw [hv, hi] at h; cases h
      | true =>
        rw [hv, hi] at h; cases h
        rcases kisQ_eq hv with ⟨a, rfl⟩ | rfl
        · intro ad H locs ls hat
          exact hrow ad H locs ls _ _ _ _ hat.1 (Nat.ble_eq.mp hi) (klo_c ad ρ lo i (.inl (.ref a))) (fun ls' hl' => g ad H locs ls' ⟨hl', hat.2⟩)
        · intro ad H locs ls hat
          exact hrowN ad H locs ls _ _ _ hat.1 (Nat.ble_eq.mp hi) (klo_c ad ρ lo i (.inl .null)) (fun ls' hl' => g ad H locs ls' ⟨hl', hat.2⟩)
  · cases h
theorem kL_at {ad : Nat → Nat} {lo : List (Nat × KV)} {i : Nat} {v : KV} (hk : klook lo i = some v) : ∃ q : Nat, (kL ad ρ lo)[q]? = some (i, kV ad ρ v) := List.getElem?_of_mem (List.mem_map.mpr ⟨(i, v), klook_mem hk, rfl⟩)
theorem k_inc (F : kFix p s m args meth cd cc nL own mname D dA A zs ad0) {i : Nat} {n : Int} (hd : decode cc pc = .ok (.iinc i n, 3)) (h : kinc i n nL pc lo st w c sl = some k) (g : kGo p l e R s m args below meth cd Q D dA ρ A nL ad0 n0 (k)) : kGo p l e R s m args below meth cd Q D dA ρ A nL ad0 n0 ((pc, lo, st, w, c, sl)) := by
  unfold kinc at h
  split at h
  · rename_i x hk
    cases hi : Nat.blt i nL with
    | false => rw [hi] at h; cases h
    | true =>
      rw [hi] at h; cases h
      intro ad H locs ls hat
      obtain ⟨q, hq⟩ := kL_at (ad := ad) (ρ := ρ) hk
      exact lv_iinc F.1 F.2.1 hd hat.1 hq rfl (Nat.ble_eq.mp hi) (klo_c ad ρ lo i (.inl (.int (x + Int32.ofInt n)))) (fun ls' hl' => g ad H locs ls' ⟨hl', hat.2⟩)
  · cases h
theorem k_bin {f : Int32 → Int32 → Int32} (hrow : ∀ (H : Heap) (locs : List Loc) (ls : Array Slot) (x y : Int32) (rest : List Value), W p l e R s m args below meth cd H locs c sl Q (F0 m (pc + 1) ls (.int (f x y) :: rest)) → W p l e R s m args below meth cd H locs c sl Q (F0 m pc ls (.int y :: .int x :: rest))) (h : kbin f pc lo st w c sl = some k) (g : kGo p l e R s m args below meth cd Q D dA ρ A nL ad0 n0 (k)) : kGo p l e R s m args below meth cd Q D dA ρ A nL ad0 n0 ((pc, lo, st, w, c, sl)) := by
  unfold kbin at h
  split at h
  · rename_i y x rest
    cases hx : kisI x with
    | false => rw [hx] at h; cases h
    | true =>
      cases hy : kisI y with
      | false => rw [hx, hy] at h; cases h
      | true =>
        rw [hx, hy] at h; cases h
        intro ad H locs ls hat
        have g1 := g ad H locs ls hat
        simp only [List.map_cons] at g1 ⊢
        rw [kop2_ok] at g1
        rw [kisI_eq hx, kisI_eq hy]
        exact hrow H locs ls _ _ _ g1
  · cases h
theorem k_un {f : Int32 → Int32} (hrow : ∀ (H : Heap) (locs : List Loc) (ls : Array Slot) (x : Int32) (rest : List Value), W p l e R s m args below meth cd H locs c sl Q (F0 m (pc + 1) ls (.int (f x) :: rest)) → W p l e R s m args below meth cd H locs c sl Q (F0 m pc ls (.int x :: rest))) (h : kun f pc lo st w c sl = some k) (g : kGo p l e R s m args below meth cd Q D dA ρ A nL ad0 n0 (k)) : kGo p l e R s m args below meth cd Q D dA ρ A nL ad0 n0 ((pc, lo, st, w, c, sl)) := by
  unfold kun at h
  split at h
  · rename_i x rest
    cases hx : kisI x with
    | false => rw [hx] at h; cases h
    | true =>
      rw [hx] at h; cases h
      intro ad H locs ls hat
      have g1 := g ad H locs ls hat
      simp only [List.map_cons] at g1 ⊢
      rw [kop1_ok] at g1
      rw [kisI_eq hx]
      exact hrow H locs ls _ _ g1
  · cases h
theorem kisO_eq {v : KV} (h : kisO v = true) : v = .inr (.inl 0) := by
  rcases v with v | (i | f)
  · cases h
  · rw [kb_t (i := i) (j := 0) h]
  · cases h
theorem kis63_eq {v : KV} (h : kis63 v = true) : v = .inl (.int 63) := by
  unfold kis63 at h
  split at h
  · rw [of_decide_eq_true h]
  · cases h
theorem k_and (F : kFix p s m args meth cd cc nL own mname D dA A zs ad0) {ks : Option Int32} (hks : ∀ v, ks = some v → ρ 0 &&& 63 = v) (hd : decode cc pc = .ok (.iand, 1)) (h : kand ks pc lo st w c sl = some k) (g : kGo p l e R s m args below meth cd Q D dA ρ A nL ad0 n0 (k)) : kGo p l e R s m args below meth cd Q D dA ρ A nL ad0 n0 ((pc, lo, st, w, c, sl)) := by
  unfold kand at h
  split at h
  · rename_i y x rest
    cases hb : kisO x && kis63 y with
    | false =>
      rw [hb] at h
      exact k_bin (fun H locs ls x y rest q => lv_iand F.1 F.2.1 hd q) h g
    | true =>
      rw [hb] at h
      simp only [cond_true] at h
      split at h
      · rename_i v
        cases h
        have hb := Bool.and_eq_true_iff.mp hb
        rw [kisO_eq hb.1, kis63_eq hb.2]
        intro ad H locs ls hat
        have g1 := g ad H locs ls hat
        simp only [List.map_cons] at g1 ⊢
        refine lv_iand F.1 F.2.1 hd ?_
        rw [show kV ad ρ (.inl (.int v)) = .int (ρ 0 &&& 63) from by rw [hks v rfl]; rfl] at g1
        exact g1
      · cases h
  · cases h
theorem k_br {r : Option Bool} {P : Prop} {off : Int} {st0 : List KV} (hP : ∀ b, r = some b → (b = true ↔ P)) (hrow : ∀ (ad : Nat → Nat) (H : Heap) (locs : List Loc) (ls : Array Slot) (tgt : Nat), (pc : Int) + off = (tgt : Int) → (P → W p l e R s m args below meth cd H locs c sl Q (F0 m tgt ls (st.map (kV ad ρ)))) → (¬ P → W p l e R s m args below meth cd H locs c sl Q (F0 m (pc + 3) ls (st.map (kV ad ρ)))) → W p l e R s m args below meth cd H locs c sl Q (F0 m pc ls (st0.map (kV ad ρ))))
    (h : kbr (ktg pc off) r pc lo st w c sl = some k) (g : kGo p l e R s m args below meth cd Q D dA ρ A nL ad0 n0 (k)) : kGo p l e R s m args below meth cd Q D dA ρ A nL ad0 n0 ((pc, lo, st0, w, c, sl)) := by
  unfold kbr at h
  split at h
  · rename_i t ht
    split at h
    · rename_i b
      have hp := hP b rfl
      cases b with
      | true =>
        cases h
        intro ad H locs ls hat
        exact hrow ad H locs ls t (ktg_ok ht) (fun _ => g ad H locs ls hat) (fun q => absurd (hp.mp rfl) q)
      | false =>
        cases h
        intro ad H locs ls hat
        exact hrow ad H locs ls t (ktg_ok ht) (fun q => absurd (hp.mpr q) Bool.false_ne_true) (fun _ => g ad H locs ls hat)
    · cases h
  · cases h
end KROWS
end
section
section KROWS2
variable {p : Program} {l : Launch} {e : Env} {R : Room} {s : State} {m : MethodId} {args : Array Value} {below : List Frame} {meth : Method} {cd : Code} {Q : State → Prop} {D : va_G} {dA : Nat → ClassId} {ρ : Nat → Int32} {A : Nat → Prop} {nL : Nat} {ad0 : Nat → Nat} {n0 : Nat} {cc : ByteArray} {own mname : String} {zs : KZ} {rg : List (Int × Int)}
variable {pc : Nat} {lo : List (Nat × KV)} {st : List KV} {w : KW} {c sl : Nat} {k : KF}
theorem kmap_not {o : Option Bool} {b : Bool} (h : o.map not = some b) : ∃ b', o = some b' ∧ b = !b' := by
  cases o with
  | none => cases h
  | some b' => cases h; exact ⟨b', rfl, rfl⟩
theorem kneg {b' b : Bool} {P P' : Prop} (h : b = !b') (h1 : b' = true ↔ P) (hn : P' ↔ ¬ P) : b = true ↔ P' := by
  subst h
  rw [hn, ← h1]
  cases b' <;> simp
def kholds (cnd : Jvm.ClassFile.Cond) (x y : Int32) : Prop := match cnd with
  | .eq => x = y
  | .ne => ¬ x = y
  | .lt => x < y
  | .ge => y ≤ x
  | .gt => y < x
  | .le => x ≤ y
theorem kcond_ok (hr : kRg rg ρ) {cnd : Jvm.ClassFile.Cond} {a b : KV} {r : Bool} (h : kcond rg cnd a b = some r) : r = true ↔ kholds cnd (kiv ρ a) (kiv ρ b) := by
  cases cnd with
  | eq => exact keq_ok hr h
  | ne =>
    obtain ⟨b', h1, h2⟩ := kmap_not h
    exact kneg h2 (keq_ok hr h1) Iff.rfl
  | lt => exact klt_ok hr h
  | ge =>
    obtain ⟨b', h1, h2⟩ := kmap_not h
    exact kneg h2 (klt_ok hr h1) Int32.not_lt.symm
  | gt => exact klt_ok hr h
  | le =>
    obtain ⟨b', h1, h2⟩ := kmap_not h
    exact kneg h2 (klt_ok hr h1) Int32.not_lt.symm
theorem k_icmp (F : kFix p s m args meth cd cc nL own mname D dA A zs ad0) (hr : kRg rg ρ) {cnd : Jvm.ClassFile.Cond} {off : Int} (hd : decode cc pc = .ok (.if_icmp cnd off, 3)) (h : kicmp rg cnd off pc lo st w c sl = some k) (g : kGo p l e R s m args below meth cd Q D dA ρ A nL ad0 n0 (k)) : kGo p l e R s m args below meth cd Q D dA ρ A nL ad0 n0 ((pc, lo, st, w, c, sl)) := by
  unfold kicmp at h
  split at h
  · rename_i y x rest
    cases hx : kisI x with
    | false => rw [hx] at h; cases h
    | true =>
      cases hy : kisI y with
      | false => rw [hx, hy] at h; cases h
      | true =>
        rw [hx, hy] at h
        refine k_br (P := kholds cnd (kiv ρ x) (kiv ρ y)) (fun b hb => kcond_ok hr hb) (fun ad H locs ls tgt ht k1 k2 => ?_) h g
        simp only [List.map_cons]
        rw [kisI_eq hx, kisI_eq hy]
        cases cnd with
        | eq => exact lv_icmp_eq F.1 F.2.1 hd ht k1 k2
        | ne => exact lv_icmp_ne F.1 F.2.1 hd ht k1 (fun q => k2 (fun q2 => q2 q))
        | lt => exact lv_icmp_lt F.1 F.2.1 hd ht k1 k2
        | ge => exact lv_icmp_ge F.1 F.2.1 hd ht k1 k2
        | gt => exact lv_icmp_gt F.1 F.2.1 hd ht k1 k2
        | le => exact lv_icmp_le F.1 F.2.1 hd ht k1 k2
  · cases h
theorem k_if (F : kFix p s m args meth cd cc nL own mname D dA A zs ad0) (hr : kRg rg ρ) {cnd : Jvm.ClassFile.Cond} {off : Int} (hd : decode cc pc = .ok (.ifCond cnd off, 3)) (h : kif rg cnd off pc lo st w c sl = some k) (g : kGo p l e R s m args below meth cd Q D dA ρ A nL ad0 n0 (k)) : kGo p l e R s m args below meth cd Q D dA ρ A nL ad0 n0 ((pc, lo, st, w, c, sl)) := by
  unfold kif at h
  split at h
  · rename_i x rest
    cases hx : kisI x with
    | false => rw [hx] at h; cases h
    | true =>
      rw [hx] at h
      refine k_br (P := kholds cnd (kiv ρ x) 0) (fun b hb => kcond_ok hr hb) (fun ad H locs ls tgt ht k1 k2 => ?_) h g
      simp only [List.map_cons]
      rw [kisI_eq hx]
      cases cnd with
      | eq => exact lv_if_eq F.1 F.2.1 hd ht k1 k2
      | ne => exact lv_if_ne F.1 F.2.1 hd ht k1 (fun q => k2 (fun q2 => q2 q))
      | lt => exact lv_if_lt F.1 F.2.1 hd ht k1 k2
      | ge => exact lv_if_ge F.1 F.2.1 hd ht k1 k2
      | gt => exact lv_if_gt F.1 F.2.1 hd ht k1 k2
      | le => exact lv_if_le F.1 F.2.1 hd ht k1 k2
  · cases h
theorem krf_eq {v : KV} {o : Option Nat} (h : krf v = some o) (ad : Nat → Nat) : kV ad ρ v = va_rf (o.map ad) := by
  rcases v with v | z
  · cases v <;> first | (cases h; rfl) | cases h
  · cases h
theorem kreq_ok {a b : KV} {r : Bool} (h : kreq a b = some r) : ∃ oa ob, krf a = some oa ∧ krf b = some ob ∧ ∀ ad : Nat → Nat, r = true ↔ oa.map ad = ob.map ad := by
  unfold kreq at h
  split at h
  · rename_i h1 h2
    cases h
    exact ⟨_, _, h1, h2, fun ad => ⟨fun _ => rfl, fun _ => rfl⟩⟩
  · rename_i j h1 h2
    cases h
    exact ⟨_, _, h1, h2, fun ad => ⟨fun q => absurd q Bool.false_ne_true, fun q => by cases q⟩⟩
  · rename_i j h1 h2
    cases h
    exact ⟨_, _, h1, h2, fun ad => ⟨fun q => absurd q Bool.false_ne_true, fun q => by cases q⟩⟩
  · rename_i i j h1 h2
    cases q : Nat.beq i j with
    | false => rw [q] at h; cases h
    | true =>
      rw [q] at h; cases h
      have e := kb_t q
      subst e
      exact ⟨_, _, h1, h2, fun ad => ⟨fun _ => rfl, fun _ => rfl⟩⟩
  · cases h
theorem k_acmp (F : kFix p s m args meth cd cc nL own mname D dA A zs ad0) {cnd : Jvm.ClassFile.ACond} {off : Int} (hd : decode cc pc = .ok (.if_acmp cnd off, 3)) (h : kacmp cnd off pc lo st w c sl = some k) (g : kGo p l e R s m args below meth cd Q D dA ρ A nL ad0 n0 (k)) : kGo p l e R s m args below meth cd Q D dA ρ A nL ad0 n0 ((pc, lo, st, w, c, sl)) := by
  unfold kacmp at h
  split at h
  · rename_i y x rest
    cases cnd with
    | eq =>
      dsimp only at h
      cases hq : kreq x y with
      | none =>
        rw [hq] at h
        unfold kbr at h
        split at h <;> cases h
      | some b0 =>
        obtain ⟨ox, oy, h1, h2, h3⟩ := kreq_ok hq
        rw [hq] at h
        refine k_br (P := b0 = true) (fun b hb => by cases hb; exact Iff.rfl) (fun ad H locs ls tgt ht k1 k2 => ?_) h g
        simp only [List.map_cons]
        rw [krf_eq h1 ad, krf_eq h2 ad]
        exact lv_acmp_eq F.1 F.2.1 hd ht (fun q => k1 ((h3 ad).mpr q)) (fun q => k2 (fun b => q ((h3 ad).mp b)))
    | ne =>
      dsimp only at h
      cases hq : kreq x y with
      | none =>
        rw [hq] at h
        unfold kbr at h
        split at h <;> cases h
      | some b0 =>
        obtain ⟨ox, oy, h1, h2, h3⟩ := kreq_ok hq
        rw [hq] at h
        refine k_br (P := ¬ b0 = true) (fun b hb => by cases hb; cases b0 <;> simp) (fun ad H locs ls tgt ht k1 k2 => ?_) h g
        simp only [List.map_cons]
        rw [krf_eq h1 ad, krf_eq h2 ad]
        exact lv_acmp_ne F.1 F.2.1 hd ht (fun q => k1 (fun b => q ((h3 ad).mp b))) (fun q => k2 (fun b => b ((h3 ad).mpr q)))
  · cases h
theorem krg_isI {v : KV} {r : Int × Int} (h : krg rg v = some r) : kisI v = true := by
  rcases v with v | z
  · cases v <;> first | rfl | cases h
  · rfl
theorem k_sw (F : kFix p s m args meth cd cc nL own mname D dA A zs ad0) (hr : kRg rg ρ) {dflt lw hg : Int} {offs : Array Int} {len : Nat} (hd : decode cc pc = .ok (.tableswitch dflt lw hg offs, len)) (h : ksw rg dflt lw hg offs pc lo st w c sl = some k) (g : kGo p l e R s m args below meth cd Q D dA ρ A nL ad0 n0 (k)) : kGo p l e R s m args below meth cd Q D dA ρ A nL ad0 n0 ((pc, lo, st, w, c, sl)) := by
  unfold ksw at h
  split at h
  · rename_i v rest
    split at h
    · rename_i a b hv
      have hI := krg_isI hv
      have hb := krg_ok hr hv
      cases c1 : (decide (b < lw) || decide (hg < a)) with
      | true =>
        rw [c1] at h
        simp only [cond_true] at h
        split at h
        · rename_i t ht
          cases h
          intro ad H locs ls hat
          have g1 := g ad H locs ls hat
          simp only [List.map_cons]
          rw [kisI_eq hI]
          refine lv_tableOut F.1 F.2.1 hd ?_ (ktg_ok ht) g1
          rcases Bool.or_eq_true_iff.mp c1 with q | q
          · have := of_decide_eq_true q; omega
          · have := of_decide_eq_true q; omega
        · cases h
      | false =>
        rw [c1] at h
        simp only [cond_false] at h
        cases c2 : decide (a = b) with
        | false => rw [c2] at h; cases h
        | true =>
          rw [c2] at h
          simp only [cond_true] at h
          have e1 := of_decide_eq_true c2
          split at h
          · rename_i off ho
            split at h
            · rename_i t ht
              cases h
              have c1 := Bool.or_eq_false_iff.mp c1
              have q1 := of_decide_eq_false c1.1
              have q2 := of_decide_eq_false c1.2
              have e2 : (kiv ρ v).toInt = a := by omega
              intro ad H locs ls hat
              have g1 := g ad H locs ls hat
              simp only [List.map_cons]
              rw [kisI_eq hI]
              exact lv_tableIn F.1 F.2.1 hd (by omega) (by omega) (by rw [e2, ← Array.getElem?_toList]; exact ho) (ktg_ok ht) g1
            · cases h
          · cases h
    · cases h
  · cases h
theorem k_getf (F : kFix p s m args meth cd cc nL own mname D dA A zs ad0) {ci k0 i : Nat} {q : vw_C} (hq : kCl[ci]? = some q) (hk : k0 < q.2.2) (hlink : (Cond.fieldLink own i (q.2.1 k0).1 (q.2.1 k0).2.1 (q.2.1 k0).2.2.1) ∈ LT) (hd : decode cc pc = .ok (.getfield i, 3)) (h : kgetf ci k0 pc lo st w c sl = some k) (g : kGo p l e R s m args below meth cd Q D dA ρ A nL ad0 n0 (k)) : kGo p l e R s m args below meth cd Q D dA ρ A nL ad0 n0 ((pc, lo, st, w, c, sl)) := by
  unfold kgetf at h
  split at h
  · rename_i a rest
    split at h
    · rename_i cj fs hw
      cases hc : Nat.beq cj ci with
      | false => rw [hc] at h; cases h
      | true =>
        rw [hc] at h
        simp only [cond_true] at h
        have e := kb_t hc
        subst e
        split at h
        · rename_i v hv
          cases h
          intro ad H locs ls hat
          obtain ⟨q0, h1, -⟩ := kW_get (dA := dA) (ad := ad) (ρ := ρ) hw
          obtain ⟨C, T, N⟩ := q
          exact va_get (ws := kW dA ad ρ w) F.1 F.2.1 F.2.2.2.2.1 (kCl_ok cj _ hq).1 F.2.2.2.1 F.2.2.2.2.2.1 hat.2.1 q0 h1 hq k0 hk (F.2.2.2.2.1 _ hlink) (fun _ h9 => h9) (v := kV ad ρ v) (by rw [List.getElem?_map, hv]; rfl) hd (g ad H locs ls hat)
        · cases h
    · cases h
  · cases h
theorem kfit_ok {ty : FieldType} {v : KV} {ad : Nat → Nat} (h : kfit ty v = true) : narrow ty (kV ad ρ v) = kV ad ρ v ∧ fits ty (kV ad ρ v) = true := by
  unfold kfit at h
  split at h
  · rw [kisI_eq h]
    exact ⟨rfl, rfl⟩
  · split at h
    · rename_i x
      rcases Bool.or_eq_true_iff.mp h with q | q
      · have e := of_decide_eq_true q
        subst e
        exact ⟨rfl, rfl⟩
      · have e := of_decide_eq_true q
        subst e
        exact ⟨rfl, rfl⟩
    · cases h
  · split at h
    · exact ⟨rfl, rfl⟩
    · cases h
  · split at h
    · exact ⟨rfl, rfl⟩
    · exact ⟨rfl, rfl⟩
    · cases h
  · split at h
    · exact ⟨rfl, rfl⟩
    · exact ⟨rfl, rfl⟩
    · cases h
  · cases h
theorem k_putf (F : kFix p s m args meth cd cc nL own mname D dA A zs ad0) {ci k0 i : Nat} {q : vw_C} (hq : kCl[ci]? = some q) (hk : k0 < q.2.2) (hfin : (q.2.1 k0).2.2.2 = false ∨ ((q.2.1 k0).2.2.2 = true ∧ mname = "<init>" ∧ (q.2.1 k0).1 = own)) (hlink : (Cond.fieldLink own i (q.2.1 k0).1 (q.2.1 k0).2.1 (q.2.1 k0).2.2.1) ∈ LT) (hd : decode cc pc = .ok (.putfield i, 3)) (h : kputf ci k0 pc lo st w c sl = some k) (g : kGo p l e R s m args below meth cd Q D dA ρ A nL ad0 n0 (k)) : kGo p l e R s m args below meth cd Q D dA ρ A nL ad0 n0 ((pc, lo, st, w, c, sl)) := by
  unfold kputf at h
  split at h
  · rename_i v a rest
    split at h
    · rename_i cj fs hw
      cases hc : (Nat.beq cj ci && (Nat.blt k0 fs.length && kfit (kTy ci k0) v)) with
      | false => rw [hc] at h; cases h
      | true =>
        rw [hc] at h; cases h
        have hc := Bool.and_eq_true_iff.mp hc
        have hc2 := Bool.and_eq_true_iff.mp hc.2
        have e := kb_t hc.1
        subst e
        intro ad H locs ls hat
        obtain ⟨hl, hP, hD, hS, hn, hE⟩ := hat
        obtain ⟨q0, h1, h2⟩ := kW_get (dA := dA) (ad := ad) (ρ := ρ) hw
        obtain ⟨C, T, N⟩ := q
        obtain ⟨G1, G2, G3⟩ := kCl_ok cj _ hq
        have hf := kfit_ok (ρ := ρ) (ad := ad) hc2.2
        have hlt : k0 < (fs.map (kV ad ρ)).length := by rw [List.length_map]; exact Nat.ble_eq.mp hc2.1
        have e3 : (ad a, (.inr (cj, (fs.map (kV ad ρ)).set k0 (kV ad ρ v)) : va_E)) = (ad a, kE dA ad ρ (.inr (cj, fs.set k0 v))) := by
          show _ = (ad a, (Sum.inr (cj, (fs.set k0 v).map (kV ad ρ)) : va_E))
          rw [List.map_set]
        have kk : ∀ (H1 : Heap) (locs1 : List Loc), va_P D kCl ((kW dA ad ρ w).set q0 (ad a, .inr (cj, (fs.map (kV ad ρ)).set k0 (kV ad ρ v)))) H1 → va_D A ((kW dA ad ρ w).set q0 (ad a, .inr (cj, (fs.map (kV ad ρ)).set k0 (kV ad ρ v)))) → va_S A s.heap H1 locs1 → W p l e R s m args below meth cd H1 locs1 c sl Q (F0 m (pc + 3) ls (rest.map (kV ad ρ))) := by
          intro H1 locs1 p1 p2 p3
          rw [e3, h2] at p1 p2
          exact g ad H1 locs1 ls ⟨hl, p1, p2, p3, by rw [kfr_set]; exact hn, hE⟩
        rcases hfin with hf1 | ⟨hf1, hf2, hf3⟩
        · exact va_put (ws := kW dA ad ρ w) F.1 F.2.1 F.2.2.2.2.1 G1 (kTy cj) G2 G3 F.2.2.2.1 F.2.2.2.2.2.1 hP hD hS q0 h1 hq k0 hk (F.2.2.2.2.1 _ hlink) (fun _ h9 => h9) hf1 (G2 k0 hk) hf.1 hf.2 hlt hd kk
        · exact va_putF (ws := kW dA ad ρ w) F.1 F.2.1 F.2.2.2.2.1 G1 (kTy cj) G2 G3 F.2.2.2.1 F.2.2.2.2.2.1 hP hD hS q0 h1 hq k0 hk (F.2.2.2.2.1 _ hlink) (fun _ h9 => h9) hf1 (F.2.2.2.2.2.2.2.1 hf2) hf3 (G2 k0 hk) hf.1 hf.2 hlt hd kk
    · cases h
  · cases h
end KROWS2
end
section
section KROWS3
variable {p : Program} {l : Launch} {e : Env} {R : Room} {s : State} {m : MethodId} {args : Array Value} {below : List Frame} {meth : Method} {cd : Code} {Q : State → Prop} {D : va_G} {dA : Nat → ClassId} {ρ : Nat → Int32} {A : Nat → Prop} {nL : Nat} {ad0 : Nat → Nat} {n0 : Nat} {cc : ByteArray} {own mname : String} {zs : KZ} {rg : List (Int × Int)}
variable {pc : Nat} {lo : List (Nat × KV)} {st : List KV} {w : KW} {c sl : Nat} {k : KF} {Rc Rs : Nat}
/-- the script, as the law's frame sees it -/
def kSc (s : State) (A : Nat → Prop) (ad0 : Nat → Nat) (ρ : Nat → Int32) (L : Nat) : Prop := 0 < L → ∃ (b : Nat) (xs : Nat → Int32), va_X b (L - 1) xs s s.heap ∧ b < s.heap.size ∧ ¬ A b ∧ ad0 1000000 = b ∧ ∀ j, j < L - 1 → ρ j = xs j
theorem kfresh_ok {n : Nat} (h : kfresh c sl n Rc Rs lo st w = true) : c + 1 ≤ Rc ∧ sl + n ≤ Rs ∧ kfr 0 w < 1000000 ∧ kokW (kfr 0 w) w = true ∧ kokS (kfr 0 w) st = true ∧ kokL (kfr 0 w) lo = true := by
  unfold kfresh at h
  simp only [Bool.and_eq_true] at h
  obtain ⟨h1, h2, h3, h4, h5, h6⟩ := h
  exact ⟨Nat.ble_eq.mp h1, Nat.ble_eq.mp h2, Nat.ble_eq.mp h3, h4, h5, h6⟩
theorem k_born {n : Nat} {x : KE} {pc2 c2 s2 : Nat} {ad : Nat → Nat} {H : Heap} {locs : List Loc} {ls : Array Slot} (hf : kfresh c sl n Rc Rs lo st w = true) (hat : kAt s D dA ρ A nL ad0 n0 ad ls lo w H locs) (hx : ∀ q, kE dA (kup ad (kfr 0 w) q) ρ x = kE dA ad ρ x) (g : kGo p l e R s m args below meth cd Q D dA ρ A nL ad0 n0 ((pc2, lo, .inl (.ref (kfr 0 w)) :: st, kwp x w, c2, s2))) :
    ∀ (q : Nat) (H1 : Heap), va_P D kCl (kW dA ad ρ w ++ [(q, kE dA ad ρ x)]) H1 → va_D A (kW dA ad ρ w ++ [(q, kE dA ad ρ x)]) → va_S A s.heap H1 locs → W p l e R s m args below meth cd H1 locs c2 s2 Q (F0 m pc2 ls (.ref q :: st.map (kV ad ρ))) := by
  intro q H1 p1 p2 p3
  obtain ⟨-, -, h3, h4, h5, h6⟩ := kfresh_ok hf
  obtain ⟨hl, hP, hD, hS, hn, hE⟩ := hat
  rw [kW_push q x h3 h4 (hx q)] at p1 p2
  have hup : kExt (kfr 0 w) ad (kup ad (kfr 0 w) q) := kExt.up q h3
  have g1 := g (kup ad (kfr 0 w) q) H1 locs ls ⟨by rw [kL_ext hup h6]; exact hl, p1, p2, p3, by rw [kfr_push]; exact Nat.le_succ_of_le hn, hE.tr hup hn⟩
  simp only [List.map_cons] at g1
  rw [kS_ext hup h5] at g1
  have e1 : kV (kup ad (kfr 0 w) q) ρ (.inl (.ref (kfr 0 w))) = .ref q := by
    show Value.ref (kup ad (kfr 0 w) q (kfr 0 w)) = _
    unfold kup
    rw [if_pos rfl]
  rw [e1] at g1
  exact g1
theorem kdef_ok (ad : Nat → Nat) (t : FieldType) : kV ad ρ (.inl (defaultValue t)) = defaultValue t := by
  cases t <;> rfl
theorem k_new (F : kFix p s m args meth cd cc nL own mname D dA A zs ad0) (hRc : Rc ≤ R.cells) (hRs : Rs ≤ R.slots) {ci i : Nat} {q : vw_C} {tys : List FieldType} (hq : kCl[ci]? = some q) (ht : kTys[ci]? = some tys) (hN : q.2.2 = tys.length) (h1 : Cond.classLink own i q.1 ∈ LT) (h2 : Cond.instantiable q.1 q.2.2 ∈ LT) (h3 : Cond.initialized q.1 ∈ LT) (hd : decode cc pc = .ok (.new i, 3)) (h : knew ci Rc Rs pc lo st w c sl = some k) (g : kGo p l e R s m args below meth cd Q D dA ρ A nL ad0 n0 (k)) : kGo p l e R s m args below meth cd Q D dA ρ A nL ad0 n0 ((pc, lo, st, w, c, sl)) := by
  unfold knew at h
  rw [ht] at h
  dsimp only at h
  cases hf : kfresh c sl tys.length Rc Rs lo st w with
  | false => rw [hf] at h; cases h
  | true =>
    rw [hf] at h; cases h
    obtain ⟨f1, f2, -⟩ := kfresh_ok hf
    intro ad H locs ls hat
    obtain ⟨C, T, N⟩ := q
    have hN : N = tys.length := hN
    subst hN
    obtain ⟨G1, G2, G3⟩ := kCl_ok ci _ hq
    have hts := F.2.2.2.2.1
    refine va_new (ws := kW dA ad ρ w) (fs := (tys.map (fun t => (.inl (defaultValue t) : KV))).map (kV ad ρ)) F.1 F.2.1 hts G1 (kTy ci) G2 F.2.2.2.1 (hts _ h1) (hts _ h2) (hts _ h3) F.2.2.2.2.2.1 hat.2.1 hat.2.2.1 hat.2.2.2.1 F.2.2.2.2.2.2.1 hq ?_ (Nat.le_trans f1 hRc) (Nat.le_trans f2 hRs) hd (k_born hf hat ?_ g)
    · intro j hj
      have hj : j < tys.length := hj
      unfold vp_V kTy
      simp only [List.getD_eq_getElem?_getD, List.getElem?_map, ht, Option.getD_some, List.getElem?_eq_getElem hj, Option.map_some, kdef_ok]
    · intro q
      show (Sum.inr (ci, (tys.map (fun t => (.inl (defaultValue t) : KV))).map (kV (kup ad (kfr 0 w) q) ρ)) : va_E) = .inr (ci, (tys.map (fun t => (.inl (defaultValue t) : KV))).map (kV ad ρ))
      simp only [List.map_map]
      congr 3
      funext t
      simp only [Function.comp_apply, kdef_ok]
theorem kbl {n : Nat} (h : n < 100000) (b : Nat) (hb : b ≤ 8) : n * b ≤ 536870912 := Nat.le_trans (Nat.mul_le_mul (Nat.le_of_lt h) hb) (by decide)
theorem kra_eq {U : State} {a b : ClassId} {ty : FieldType} (h1 : va_RA U a ty) (h2 : va_RA U b ty) : a = b := by
  cases ty with
  | object C =>
    obtain ⟨_, _, _, _, _, q1⟩ := h1
    obtain ⟨_, _, _, _, _, q2⟩ := h2
    exact Option.some.inj (q1.symm.trans q2)
  | _ => exact Option.some.inj (h1.symm.trans h2)
theorem k_cA {U : State} {t : Nat} {cA : ClassId} {ty : FieldType} (ht : (kTyL dA)[t]? = some (dA t, ty)) (hK : va_K D kCl (kTyL dA) U) (hK2 : va_K D kCl (kTyL dA ++ [(cA, ty)]) U) : cA = dA t :=
  kra_eq (hK2.2 (kTyL dA).length (cA, ty) (by rw [List.getElem?_append_right (Nat.le_refl _), Nat.sub_self]; rfl)).2 (hK.2 t _ ht).2
theorem kEl_ty {t : Nat} {ty : FieldType} (h : kEl[t]? = some ty) : (kTyL dA)[t]? = some (dA t, ty) := by
  match t, h with
  | 0, h => cases h; rfl
  | 1, h => cases h; rfl
  | 2, h => cases h; rfl
  | 3, h => cases h; rfl
  | 4, h => cases h; rfl
  | 5, h => cases h; rfl
  | 6, h => cases h; rfl
  | n + 7, h => simp [kEl] at h
theorem k_newa (F : kFix p s m args meth cd cc nL own mname D dA A zs ad0) (hRc : Rc ≤ R.cells) (hRs : Rs ≤ R.slots) {t : Nat} {at0 : ArrayType} (ht : kEl[t]? = some (newarray.typeOf at0)) (h1 : Cond.arrayClass (newarray.typeOf at0) ∈ LT) (hd : decode cc pc = .ok (.newarray at0, 2)) (h : knewa false t 2 Rc Rs pc lo st w c sl = some k) (g : kGo p l e R s m args below meth cd Q D dA ρ A nL ad0 n0 (k)) : kGo p l e R s m args below meth cd Q D dA ρ A nL ad0 n0 ((pc, lo, st, w, c, sl)) := by
  unfold knewa at h
  split at h
  · rename_i n rest
    cases hb : (!decide (n < 0) && (Nat.blt n.toNatClampNeg 100000 && (kfresh c sl n.toNatClampNeg Rc Rs lo rest w && (Nat.blt t 7 && (Nat.ble 5 t == false))))) with
    | false => rw [hb] at h; cases h
    | true =>
      rw [hb] at h; cases h
      simp only [Bool.and_eq_true, Bool.not_eq_true', decide_eq_false_iff_not] at hb
      obtain ⟨b1, b2, hf, b3, b4⟩ := hb
      have b2 : n.toNatClampNeg < 100000 := Nat.ble_eq.mp b2
      obtain ⟨f1, f2, -⟩ := kfresh_ok hf
      have hts := F.2.2.2.2.1
      intro ad H locs ls hat
      have key : ∀ (a0 : vp_A), (∀ cA : ClassId, vp_cell cA a0 = arrV cA n.toNatClampNeg (fun _ => defaultValue (newarray.typeOf at0))) → kE dA ad ρ (.inl (karr0 t n.toNatClampNeg)) = .inl (dA t, a0) → (∀ q, kE dA (kup ad (kfr 0 w) q) ρ (.inl (karr0 t n.toNatClampNeg)) = kE dA ad ρ (.inl (karr0 t n.toNatClampNeg))) → W p l e R s m args below meth cd H locs c sl Q (F0 m pc ls (((.inl (.int n) :: rest : List KV)).map (kV ad ρ))) := by
        intro a0 ha he hq
        refine va_newa (ws := kW dA ad ρ w) (a0 := a0) F.1 F.2.1 (hts _ h1) rfl F.2.2.2.2.2.1 hat.2.1 hat.2.2.1 hat.2.2.2.1 F.2.2.2.2.2.2.1 ha b1 rfl (kbl b2 _ (by cases at0 <;> decide)) (Nat.le_trans f1 hRc) (Nat.le_trans f2 hRs) hd ?_
        intro q cA H1 hK2 p1 p2 p3
        have ec := k_cA (kEl_ty ht) F.2.2.2.2.2.1 hK2
        subst ec
        rw [← he] at p1 p2
        exact k_born hf hat hq g q H1 p1 p2 p3
      match t, ht with
      | 0, ht => exact key (_, .inl (fun _ => 0)) (fun cA => by rw [← Option.some.inj ht]; rfl) rfl (fun _ => rfl)
      | 1, ht => exact key (_, .inr (.inl (fun _ => 0))) (fun cA => by rw [← Option.some.inj ht]; rfl) rfl (fun _ => rfl)
      | 2, ht => exact key (_, .inl (fun _ => 0)) (fun cA => by rw [← Option.some.inj ht]; rfl) rfl (fun _ => rfl)
      | 3, ht => exact key (_, .inl (fun _ => 0)) (fun cA => by rw [← Option.some.inj ht]; rfl) rfl (fun _ => rfl)
      | 4, ht => exact key (_, .inl (fun _ => 0)) (fun cA => by rw [← Option.some.inj ht]; rfl) rfl (fun _ => rfl)
      | 5, ht => exact absurd b4 (by decide)
      | 6, ht => exact absurd b4 (by decide)
      | n + 7, ht => simp [kEl] at ht
  · cases h
theorem k_newq (F : kFix p s m args meth cd cc nL own mname D dA A zs ad0) (hRc : Rc ≤ R.cells) (hRs : Rs ≤ R.slots) {t i : Nat} {C : String} (ht : kEl[t]? = some (.object C)) (h56 : t = 5 ∨ t = 6) (h1 : Cond.classLink own i C ∈ LT) (h2 : va_AO C s) (hd : decode cc pc = .ok (.anewarray i, 3)) (h : knewa true t 3 Rc Rs pc lo st w c sl = some k) (g : kGo p l e R s m args below meth cd Q D dA ρ A nL ad0 n0 (k)) : kGo p l e R s m args below meth cd Q D dA ρ A nL ad0 n0 ((pc, lo, st, w, c, sl)) := by
  unfold knewa at h
  split at h
  · rename_i n rest
    cases hb : (!decide (n < 0) && (Nat.blt n.toNatClampNeg 100000 && (kfresh c sl n.toNatClampNeg Rc Rs lo rest w && (Nat.blt t 7 && (Nat.ble 5 t == true))))) with
    | false => rw [hb] at h; cases h
    | true =>
      rw [hb] at h; cases h
      simp only [Bool.and_eq_true, Bool.not_eq_true', decide_eq_false_iff_not] at hb
      obtain ⟨b1, b2, hf, b3, b4⟩ := hb
      have b2 : n.toNatClampNeg < 100000 := Nat.ble_eq.mp b2
      obtain ⟨f1, f2, -⟩ := kfresh_ok hf
      have hts := F.2.2.2.2.1
      intro ad H locs ls hat
      have he : ∀ ad : Nat → Nat, kE dA ad ρ (.inl (karr0 t n.toNatClampNeg)) = .inl (dA t, n.toNatClampNeg, .inr (.inr (.inr (.inr (fun _ => none))))) := by
        intro ad
        rcases h56 with rfl | rfl <;> rfl
      refine va_newq (ws := kW dA ad ρ w) F.1 F.2.1 F.2.2.2.1 (hts _ h1) h2 F.2.2.2.2.2.1 hat.2.1 hat.2.2.1 hat.2.2.2.1 F.2.2.2.2.2.2.1 b1 rfl (kbl b2 _ (by decide)) (Nat.le_trans f1 hRc) (Nat.le_trans f2 hRs) hd ?_
      intro q cA H1 hK2 p1 p2 p3
      have ec := k_cA (kEl_ty ht) F.2.2.2.2.2.1 hK2
      subst ec
      rw [← he ad] at p1 p2
      exact k_born hf hat (fun q => by rw [he, he]) g q H1 p1 p2 p3
  · cases h
theorem kscr_eq {v : KV} (h : kscr v = true) : v = .inl (.ref 1000000) := by
  unfold kscr at h
  split at h
  · rw [kb_t h]
  · cases h
theorem k_alen (F : kFix p s m args meth cd cc nL own mname D dA A zs ad0) {L : Nat} (hX : kSc s A ad0 ρ L) (hd : decode cc pc = .ok (.arraylength, 1)) (h : kalen L pc lo st w c sl = some k) (g : kGo p l e R s m args below meth cd Q D dA ρ A nL ad0 n0 (k)) : kGo p l e R s m args below meth cd Q D dA ρ A nL ad0 n0 ((pc, lo, st, w, c, sl)) := by
  unfold kalen at h
  split at h
  · rename_i v rest
    cases hb : kscr v && Nat.blt 0 L with
    | true =>
      rw [hb] at h; cases h
      have hb := Bool.and_eq_true_iff.mp hb
      obtain ⟨b, xs, x1, x2, x3, x4, x5⟩ := hX (Nat.ble_eq.mp hb.2)
      rw [kscr_eq hb.1]
      intro ad H locs ls hat
      have g1 := g ad H locs ls hat
      simp only [List.map_cons] at g1 ⊢
      have e1 : kV ad ρ (.inl (.ref 1000000)) = .ref b := by
        show Value.ref (ad 1000000) = _
        rw [hat.2.2.2.2.2 1000000 (Or.inr (Nat.le_refl _)), x4]
      rw [e1]
      exact va_slen F.1 F.2.1 x1 x2 x3 hat.2.2.2.1 hd g1
    | false =>
      rw [hb] at h
      simp only [cond_false] at h
      split at h
      · rename_i a
        split at h
        · rename_i t n x hw
          cases ht : Nat.blt t 7 with
          | false => rw [ht] at h; cases h
          | true =>
            rw [ht] at h; cases h
            have ht : t < 7 := Nat.ble_eq.mp ht
            intro ad H locs ls hat
            obtain ⟨q0, h1, -⟩ := kW_get (dA := dA) (ad := ad) (ρ := ρ) hw
            have g1 := g ad H locs ls hat
            obtain ⟨ty, hty⟩ : ∃ ty, kEl[t]? = some ty := ⟨kEl[t]'(by show t < 7; exact ht), List.getElem?_eq_getElem _⟩
            rcases x with ⟨l1, d1⟩ | ⟨l1, d1⟩ | l1
            · exact va_alen (ws := kW dA ad ρ w) F.1 F.2.1 F.2.2.2.2.2.1 hat.2.1 q0 t h1 (kEl_ty hty) rfl hd g1
            · exact va_alen (ws := kW dA ad ρ w) F.1 F.2.1 F.2.2.2.2.2.1 hat.2.1 q0 t h1 (kEl_ty hty) rfl hd g1
            · exact va_alen (ws := kW dA ad ρ w) F.1 F.2.1 F.2.2.2.2.2.1 hat.2.1 q0 t h1 (kEl_ty hty) rfl hd g1
        · cases h
      · cases h
  · cases h
theorem kinB_ok {i : Int32} {n : Nat} (h : kinB i n = true) : vp_in i n := by
  unfold kinB at h
  simp only [Bool.and_eq_true, Bool.not_eq_true', decide_eq_false_iff_not] at h
  have h2 : i.toNatClampNeg < n := Nat.ble_eq.mp h.2
  intro q
  rcases q with q | q
  · exact h.1 q
  · omega
theorem kscl_ok (hr : kRg rg ρ) {j : Nat} {x : KV} (h : kscl rg j = some x) (ad : Nat → Nat) : kV ad ρ x = .int (ρ j) := by
  unfold kscl at h
  split at h
  · rename_i a b hab
    have h1 := hr j a b hab
    cases hc : decide (a = b) with
    | true =>
      rw [hc] at h; cases h
      have e := of_decide_eq_true hc
      have e2 : (ρ j).toInt = a := by omega
      show Value.int (Int32.ofInt a) = _
      rw [← e2, Int32.ofInt_toInt]
    | false =>
      rw [hc] at h; cases h
      rfl
  · cases h
theorem k_iald (F : kFix p s m args meth cd cc nL own mname D dA A zs ad0) (hr : kRg rg ρ) {L : Nat} (hX : kSc s A ad0 ρ L) (hd : decode cc pc = .ok (.iaload, 1)) (h : kald rg L (fun t => Nat.beq t 0) pc lo st w c sl = some k) (g : kGo p l e R s m args below meth cd Q D dA ρ A nL ad0 n0 (k)) : kGo p l e R s m args below meth cd Q D dA ρ A nL ad0 n0 ((pc, lo, st, w, c, sl)) := by
  unfold kald at h
  split at h
  · rename_i i v rest
    cases hb : kscr v && kinB i (L - 1) with
    | true =>
      rw [hb] at h
      simp only [cond_true] at h
      split at h
      · rename_i x hx
        cases h
        have hb := Bool.and_eq_true_iff.mp hb
        have hin := kinB_ok hb.2
        have hlt : i.toNatClampNeg < L - 1 := Nat.not_le.mp fun q => hin (Or.inr q)
        obtain ⟨b, xs, x1, x2, x3, x4, x5⟩ := hX (by omega)
        rw [kscr_eq hb.1]
        intro ad H locs ls hat
        have g1 := g ad H locs ls hat
        simp only [List.map_cons] at g1 ⊢
        have e1 : kV ad ρ (.inl (.ref 1000000)) = .ref b := by
          show Value.ref (ad 1000000) = _
          rw [hat.2.2.2.2.2 1000000 (Or.inr (Nat.le_refl _)), x4]
        rw [e1]
        rw [kscl_ok hr hx, x5 _ hlt] at g1
        exact va_sld F.1 F.2.1 x1 x2 x3 hat.2.2.2.1 hin hd g1
      · cases h
    | false =>
      rw [hb] at h
      simp only [cond_false] at h
      split at h
      · rename_i a
        split at h
        · rename_i t n l1 d1 hw
          cases ht : Nat.beq t 0 && kinB i n with
          | false => rw [ht] at h; cases h
          | true =>
            rw [ht] at h; cases h
            have ht := Bool.and_eq_true_iff.mp ht
            have e := kb_t ht.1
            subst e
            intro ad H locs ls hat
            obtain ⟨q0, h1, -⟩ := kW_get (dA := dA) (ad := ad) (ρ := ρ) hw
            have g1 := g ad H locs ls hat
            simp only [List.map_cons] at g1
            rw [kofI_ok] at g1
            exact va_iald (ws := kW dA ad ρ w) F.1 F.2.1 F.2.2.2.2.2.1 hat.2.1 q0 0 h1 rfl (kinB_ok ht.2) hd g1
        · cases h
      · cases h
  · cases h
theorem k_bald (F : kFix p s m args meth cd cc nL own mname D dA A zs ad0) (hd : decode cc pc = .ok (.baload, 1)) (h : kald rg 0 (fun t => Nat.beq t 2 || Nat.beq t 4) pc lo st w c sl = some k) (g : kGo p l e R s m args below meth cd Q D dA ρ A nL ad0 n0 (k)) : kGo p l e R s m args below meth cd Q D dA ρ A nL ad0 n0 ((pc, lo, st, w, c, sl)) := by
  unfold kald at h
  split at h
  · rename_i i v rest
    cases hb : kscr v && kinB i 0 with
    | true =>
      have hb := Bool.and_eq_true_iff.mp hb
      exact absurd (Nat.not_le.mp fun q => kinB_ok hb.2 (Or.inr q)) (Nat.not_lt_zero i.toNatClampNeg)
    | false =>
      rw [hb] at h
      simp only [cond_false] at h
      split at h
      · rename_i a
        split at h
        · rename_i t n l1 d1 hw
          cases ht : (Nat.beq t 2 || Nat.beq t 4) && kinB i n with
          | false => rw [ht] at h; cases h
          | true =>
            rw [ht] at h; cases h
            have ht := Bool.and_eq_true_iff.mp ht
            intro ad H locs ls hat
            obtain ⟨q0, h1, -⟩ := kW_get (dA := dA) (ad := ad) (ρ := ρ) hw
            have g1 := g ad H locs ls hat
            simp only [List.map_cons] at g1
            rw [kofI_ok] at g1
            rcases Bool.or_eq_true_iff.mp ht.1 with q | q
            · have e := kb_t q
              subst e
              exact va_bald (ws := kW dA ad ρ w) F.1 F.2.1 F.2.2.2.2.2.1 hat.2.1 q0 2 h1 rfl (kinB_ok ht.2) hd g1
            · have e := kb_t q
              subst e
              exact va_zald (ws := kW dA ad ρ w) F.1 F.2.1 F.2.2.2.2.2.1 hat.2.1 q0 4 h1 rfl (kinB_ok ht.2) hd g1
        · cases h
      · cases h
  · cases h
theorem k_lald (F : kFix p s m args meth cd cc nL own mname D dA A zs ad0) (hd : decode cc pc = .ok (.laload, 1)) (h : klald pc lo st w c sl = some k) (g : kGo p l e R s m args below meth cd Q D dA ρ A nL ad0 n0 (k)) : kGo p l e R s m args below meth cd Q D dA ρ A nL ad0 n0 ((pc, lo, st, w, c, sl)) := by
  unfold klald at h
  split at h
  · rename_i i a rest
    split at h
    · rename_i t n l1 d1 hw
      cases ht : Nat.beq t 1 && kinB i n with
      | false => rw [ht] at h; cases h
      | true =>
        rw [ht] at h; cases h
        have ht := Bool.and_eq_true_iff.mp ht
        have e := kb_t ht.1
        subst e
        intro ad H locs ls hat
        obtain ⟨q0, h1, -⟩ := kW_get (dA := dA) (ad := ad) (ρ := ρ) hw
        exact va_lald (ws := kW dA ad ρ w) F.1 F.2.1 F.2.2.2.2.2.1 hat.2.1 q0 1 h1 rfl (kinB_ok ht.2) hd (g ad H locs ls hat)
    · cases h
  · cases h
theorem k_aald (F : kFix p s m args meth cd cc nL own mname D dA A zs ad0) (hd : decode cc pc = .ok (.aaload, 1)) (h : kaald pc lo st w c sl = some k) (g : kGo p l e R s m args below meth cd Q D dA ρ A nL ad0 n0 (k)) : kGo p l e R s m args below meth cd Q D dA ρ A nL ad0 n0 ((pc, lo, st, w, c, sl)) := by
  unfold kaald at h
  split at h
  · rename_i i a rest
    split at h
    · rename_i t n l1 hw
      cases ht : (Nat.beq t 5 || Nat.beq t 6) && kinB i n with
      | false => rw [ht] at h; cases h
      | true =>
        rw [ht] at h; cases h
        have ht := Bool.and_eq_true_iff.mp ht
        intro ad H locs ls hat
        obtain ⟨q0, h1, -⟩ := kW_get (dA := dA) (ad := ad) (ρ := ρ) hw
        have g1 := g ad H locs ls hat
        simp only [List.map_cons] at g1
        rw [kofR_ok] at g1
        rcases Bool.or_eq_true_iff.mp ht.1 with q | q
        · have e := kb_t q
          subst e
          exact va_aldq (ws := kW dA ad ρ w) F.1 F.2.1 F.2.2.2.2.2.1 hat.2.1 q0 5 h1 rfl (kinB_ok ht.2) hd g1
        · have e := kb_t q
          subst e
          exact va_aldq (ws := kW dA ad ρ w) F.1 F.2.1 F.2.2.2.2.2.1 hat.2.1 q0 6 h1 rfl (kinB_ok ht.2) hd g1
    · cases h
  · cases h
end KROWS3
end
section
section KROWS4
variable {p : Program} {l : Launch} {e : Env} {R : Room} {s : State} {m : MethodId} {args : Array Value} {below : List Frame} {meth : Method} {cd : Code} {Q : State → Prop} {D : va_G} {dA : Nat → ClassId} {ρ : Nat → Int32} {A : Nat → Prop} {nL : Nat} {ad0 : Nat → Nat} {n0 : Nat} {cc : ByteArray} {own mname : String} {zs : KZ} {rg : List (Int × Int)}
variable {pc : Nat} {lo : List (Nat × KV)} {st : List KV} {w : KW} {c sl : Nat} {k : KF} {Rc Rs : Nat}
/-- a cell was written: what stands behind it -/
theorem k_put {a : Nat} {x' : KE} {pc2 : Nat} {st2 : List KV} {ad : Nat → Nat} {H : Heap} {locs : List Loc} {ls : Array Slot} {q0 : Nat} {v : va_E} (hw2 : ∀ e' : KE, (kW dA ad ρ w).set q0 (ad a, kE dA ad ρ e') = kW dA ad ρ (kws w a e')) (hv : v = kE dA ad ρ x') (hat : kAt s D dA ρ A nL ad0 n0 ad ls lo w H locs) (g : kGo p l e R s m args below meth cd Q D dA ρ A nL ad0 n0 ((pc2, lo, st2, kws w a x', c, sl))) :
    ∀ (H1 : Heap) (locs1 : List Loc), va_P D kCl ((kW dA ad ρ w).set q0 (ad a, v)) H1 → va_D A ((kW dA ad ρ w).set q0 (ad a, v)) → va_S A s.heap H1 locs1 → W p l e R s m args below meth cd H1 locs1 c sl Q (F0 m pc2 ls (st2.map (kV ad ρ))) := by
  intro H1 locs1 p1 p2 p3
  obtain ⟨hl, hP, hD, hS, hn, hE⟩ := hat
  rw [hv, hw2] at p1 p2
  exact g ad H1 locs1 ls ⟨hl, p1, p2, p3, by rw [kfr_set]; exact hn, hE⟩
theorem kset_f (l1 : List (Nat × KI)) (d1 : KI) (j : Nat) (x : KI) (y : Int32) (hy : kI ρ x = y) : upd (fun j => kI ρ (kget l1 d1 j)) j y = fun i => kI ρ (kget (kset l1 j x) d1 i) := by
  funext i
  rw [kget_set]
  show (if i = j then y else kI ρ (kget l1 d1 i)) = _
  by_cases h : i = j
  · rw [if_pos h, if_pos h, hy]
  · rw [if_neg h, if_neg h]
theorem k_iast (F : kFix p s m args meth cd cc nL own mname D dA A zs ad0) (hd : decode cc pc = .ok (.iastore, 1)) (h : kast (fun t => Nat.beq t 0) (fun _ a => a) pc lo st w c sl = some k) (g : kGo p l e R s m args below meth cd Q D dA ρ A nL ad0 n0 (k)) : kGo p l e R s m args below meth cd Q D dA ρ A nL ad0 n0 ((pc, lo, st, w, c, sl)) := by
  unfold kast at h
  split at h
  · rename_i x i a rest
    split at h
    · rename_i t n l1 d1 hw
      cases ht : Nat.beq t 0 && (kinB i n && kisI x) with
      | false => rw [ht] at h; cases h
      | true =>
        rw [ht] at h; cases h
        simp only [Bool.and_eq_true] at ht
        obtain ⟨t1, t2, t3⟩ := ht
        have e := kb_t t1
        subst e
        intro ad H locs ls hat
        obtain ⟨q0, h1, h2⟩ := kW_get (dA := dA) (ad := ad) (ρ := ρ) hw
        simp only [List.map_cons]
        rw [kisI_eq t3]
        refine va_iast (ws := kW dA ad ρ w) F.1 F.2.1 F.2.2.2.2.2.1 hat.2.1 hat.2.2.1 hat.2.2.2.1 q0 0 h1 rfl (kinB_ok t2) hd (k_put h2 ?_ hat g)
        rw [kset_f l1 d1 i.toNatClampNeg (kop1I (fun a => a) (ktoI x)) (kiv ρ x) (by rw [kop1I_ok, ktoI_ok])]
        rfl
    · cases h
  · cases h
theorem k_bast (F : kFix p s m args meth cd cc nL own mname D dA A zs ad0) (hd : decode cc pc = .ok (.bastore, 1)) (h : kast (fun t => Nat.beq t 2 || Nat.beq t 4) (fun t a => bif Nat.beq t 2 then vp_nar .byte a else vp_nar .boolean a) pc lo st w c sl = some k) (g : kGo p l e R s m args below meth cd Q D dA ρ A nL ad0 n0 (k)) : kGo p l e R s m args below meth cd Q D dA ρ A nL ad0 n0 ((pc, lo, st, w, c, sl)) := by
  unfold kast at h
  split at h
  · rename_i x i a rest
    split at h
    · rename_i t n l1 d1 hw
      cases ht : (Nat.beq t 2 || Nat.beq t 4) && (kinB i n && kisI x) with
      | false => rw [ht] at h; cases h
      | true =>
        rw [ht] at h; cases h
        simp only [Bool.and_eq_true] at ht
        obtain ⟨t1, t2, t3⟩ := ht
        intro ad H locs ls hat
        obtain ⟨q0, h1, h2⟩ := kW_get (dA := dA) (ad := ad) (ρ := ρ) hw
        simp only [List.map_cons]
        rw [kisI_eq t3]
        rcases Bool.or_eq_true_iff.mp t1 with q | q
        · have e := kb_t q
          subst e
          refine va_bast (ws := kW dA ad ρ w) F.1 F.2.1 F.2.2.2.2.2.1 hat.2.1 hat.2.2.1 hat.2.2.2.1 q0 2 h1 rfl (kinB_ok t2) hd (k_put h2 ?_ hat g)
          rw [kset_f l1 d1 i.toNatClampNeg (kop1I (fun a => vp_nar .byte a) (ktoI x)) (vp_nar .byte (kiv ρ x)) (by rw [kop1I_ok, ktoI_ok])]
          rfl
        · have e := kb_t q
          subst e
          refine va_zast (ws := kW dA ad ρ w) F.1 F.2.1 F.2.2.2.2.2.1 hat.2.1 hat.2.2.1 hat.2.2.2.1 q0 4 h1 rfl (kinB_ok t2) hd (k_put h2 ?_ hat g)
          rw [kset_f l1 d1 i.toNatClampNeg (kop1I (fun a => vp_nar .boolean a) (ktoI x)) (vp_nar .boolean (kiv ρ x)) (by rw [kop1I_ok, ktoI_ok])]
          rfl
    · cases h
  · cases h
theorem k_last (F : kFix p s m args meth cd cc nL own mname D dA A zs ad0) (hd : decode cc pc = .ok (.lastore, 1)) (h : klast pc lo st w c sl = some k) (g : kGo p l e R s m args below meth cd Q D dA ρ A nL ad0 n0 (k)) : kGo p l e R s m args below meth cd Q D dA ρ A nL ad0 n0 ((pc, lo, st, w, c, sl)) := by
  unfold klast at h
  split at h
  · rename_i x i a rest
    split at h
    · rename_i t n l1 d1 hw
      cases ht : Nat.beq t 1 && kinB i n with
      | false => rw [ht] at h; cases h
      | true =>
        rw [ht] at h; cases h
        have ht := Bool.and_eq_true_iff.mp ht
        have e := kb_t ht.1
        subst e
        intro ad H locs ls hat
        obtain ⟨q0, h1, h2⟩ := kW_get (dA := dA) (ad := ad) (ρ := ρ) hw
        refine va_last (ws := kW dA ad ρ w) F.1 F.2.1 F.2.2.2.2.2.1 hat.2.1 hat.2.2.1 hat.2.2.2.1 q0 1 h1 rfl (kinB_ok ht.2) hd (k_put h2 ?_ hat g)
        show (Sum.inl (dA 1, n, .inr (.inl (vp_updL (fun j => kget l1 d1 j) i.toNatClampNeg x))) : va_E) = .inl (dA 1, n, .inr (.inl (fun j => kget (kset l1 i.toNatClampNeg x) d1 j)))
        rw [show vp_updL (fun j => kget l1 d1 j) i.toNatClampNeg x = (fun j => kget (kset l1 i.toNatClampNeg x) d1 j) from funext fun j => by rw [kget_set]; rfl]
    · cases h
  · cases h
theorem k_aast (F : kFix p s m args meth cd cc nL own mname D dA A zs ad0) (hd : decode cc pc = .ok (.aastore, 1)) (h : kaast pc lo st w c sl = some k) (g : kGo p l e R s m args below meth cd Q D dA ρ A nL ad0 n0 (k)) : kGo p l e R s m args below meth cd Q D dA ρ A nL ad0 n0 ((pc, lo, st, w, c, sl)) := by
  unfold kaast at h
  split at h
  · rename_i r i a rest
    split at h
    · rename_i t n l1 cj fs hw hr
      cases ht : (Nat.beq t 5 && Nat.beq cj 7 || Nat.beq t 6 && Nat.beq cj 2) && kinB i n with
      | false => rw [ht] at h; cases h
      | true =>
        rw [ht] at h; cases h
        have ht := Bool.and_eq_true_iff.mp ht
        intro ad H locs ls hat
        obtain ⟨q0, h1, h2⟩ := kW_get (dA := dA) (ad := ad) (ρ := ρ) hw
        obtain ⟨q1, h3, -⟩ := kW_get (dA := dA) (ad := ad) (ρ := ρ) hr
        have key : kE dA ad ρ (.inl (t, n, .inr (.inr (kset l1 i.toNatClampNeg (some r))))) = .inl (dA t, n, .inr (.inr (.inr (.inr (va_up (fun j => (kget l1 none j).map ad) i.toNatClampNeg (some (ad r))))))) := by
          show (Sum.inl (dA t, n, .inr (.inr (.inr (.inr (fun j => (kget (kset l1 i.toNatClampNeg (some r)) none j).map ad))))) : va_E) = _
          rw [show (fun j => (kget (kset l1 i.toNatClampNeg (some r)) none j).map ad) = va_up (fun j => (kget l1 none j).map ad) i.toNatClampNeg (some (ad r)) from funext fun j => by
            rw [kget_set]
            unfold va_up
            by_cases hj : j = i.toNatClampNeg
            · rw [if_pos hj, if_pos hj]; rfl
            · rw [if_neg hj, if_neg hj]]
        rcases Bool.or_eq_true_iff.mp ht.1 with q | q
        · have q := Bool.and_eq_true_iff.mp q
          have e1 := kb_t q.1
          have e2 := kb_t q.2
          subst e1; subst e2
          exact va_astq (ws := kW dA ad ρ w) (r := ("TriplicateForms$Standing", kT kF7, 10)) F.1 F.2.1 F.2.2.2.2.2.1 hat.2.1 hat.2.2.1 hat.2.2.2.1 q0 5 q1 7 h1 rfl h3 rfl (kinB_ok ht.2) hd (k_put h2 key.symm hat g)
        · have q := Bool.and_eq_true_iff.mp q
          have e1 := kb_t q.1
          have e2 := kb_t q.2
          subst e1; subst e2
          exact va_astq (ws := kW dA ad ρ w) (r := ("TriplicateForms$Image", kT kF2, 4)) F.1 F.2.1 F.2.2.2.2.2.1 hat.2.1 hat.2.2.1 hat.2.2.2.1 q0 6 q1 2 h1 rfl h3 rfl (kinB_ok ht.2) hd (k_put h2 key.symm hat g)
    · cases h
  · cases h
theorem k_dup (F : kFix p s m args meth cd cc nL own mname D dA A zs ad0) (hd : decode cc pc = .ok (.dup, 1)) (h : kdup pc lo st w c sl = some k) (g : kGo p l e R s m args below meth cd Q D dA ρ A nL ad0 n0 (k)) : kGo p l e R s m args below meth cd Q D dA ρ A nL ad0 n0 ((pc, lo, st, w, c, sl)) := by
  unfold kdup at h
  split at h
  · rename_i v rest
    cases hc : Nat.beq (kcat v) 1 with
    | false => rw [hc] at h; cases h
    | true =>
      rw [hc] at h; cases h
      intro ad H locs ls hat
      exact lv_dup F.1 F.2.1 hd ((kV_cat ad ρ v).trans (kb_t hc)) (g ad H locs ls hat)
  · cases h
theorem k_dup2 (F : kFix p s m args meth cd cc nL own mname D dA A zs ad0) (hd : decode cc pc = .ok (.dup2, 1)) (h : kdup2 pc lo st w c sl = some k) (g : kGo p l e R s m args below meth cd Q D dA ρ A nL ad0 n0 (k)) : kGo p l e R s m args below meth cd Q D dA ρ A nL ad0 n0 ((pc, lo, st, w, c, sl)) := by
  unfold kdup2 at h
  split at h
  · rename_i a b rest
    cases hc : Nat.beq (kcat a) 1 && Nat.beq (kcat b) 1 with
    | false => rw [hc] at h; cases h
    | true =>
      rw [hc] at h; cases h
      have hc := Bool.and_eq_true_iff.mp hc
      intro ad H locs ls hat
      exact lv_dup2_11 F.1 F.2.1 hd ((kV_cat ad ρ a).trans (kb_t hc.1)) ((kV_cat ad ρ b).trans (kb_t hc.2)) (g ad H locs ls hat)
  · cases h
theorem k_pop (F : kFix p s m args meth cd cc nL own mname D dA A zs ad0) (hd : decode cc pc = .ok (.pop, 1)) (h : kpop pc lo st w c sl = some k) (g : kGo p l e R s m args below meth cd Q D dA ρ A nL ad0 n0 (k)) : kGo p l e R s m args below meth cd Q D dA ρ A nL ad0 n0 ((pc, lo, st, w, c, sl)) := by
  unfold kpop at h
  split at h
  · rename_i v rest
    cases hc : Nat.beq (kcat v) 1 with
    | false => rw [hc] at h; cases h
    | true =>
      rw [hc] at h; cases h
      intro ad H locs ls hat
      exact lv_pop F.1 F.2.1 hd ((kV_cat ad ρ v).trans (kb_t hc)) (g ad H locs ls hat)
  · cases h
theorem kcats_eq (ad : Nat → Nat) (st : List KV) : ((st.map (kV ad ρ)).map (fun v => v.category)).sum = kcats st := by
  unfold kcats
  rw [List.map_map]
  congr 1
  apply List.map_congr_left
  intro v _
  exact kV_cat ad ρ v
theorem k_obj (F : kFix p s m args meth cd cc nL own mname D dA A zs ad0) (hf : 1 ≤ R.frames) (hl : 40 ≤ R.locals) {i : Nat} (h1 : Cond.methodLink own i objectInit ∈ LT) (h2 : Cond.instanceMethod objectInit ∈ LT) (h3 : Cond.code objectInit ⟨#[0xb1]⟩ 1 none ∈ LT) (hd : decode cc pc = .ok (.invokespecial i, 3)) (h : kobj pc lo st w c sl = some k) (g : kGo p l e R s m args below meth cd Q D dA ρ A nL ad0 n0 (k)) : kGo p l e R s m args below meth cd Q D dA ρ A nL ad0 n0 ((pc, lo, st, w, c, sl)) := by
  unfold kobj at h
  split at h
  · rename_i a rest
    cases hc : Nat.ble (kcats rest) 8 with
    | false => rw [hc] at h; cases h
    | true =>
      rw [hc] at h; cases h
      have hc := Nat.ble_eq.mp hc
      have hts := F.2.2.2.2.1
      intro ad H locs ls hat
      refine W.objInit (a := ad a) (rest := rest.map (kV ad ρ)) F.1 F.2.1 F.2.2.2.1 (hts _ h1) (hts _ h2) (hts _ h3) rfl (by rw [F.2.2.1]; exact hat.1.1) rfl hd hf ?_ (g ad H locs ls hat)
      rw [kcats_eq]
      show 2 * 0 + _ + 12 ≤ _
      omega
  · cases h
theorem k_min (F : kFix p s m args meth cd cc nL own mname D dA A zs ad0) (hr : kRg rg ρ) (hRc : Rc ≤ R.cells) (hRs : Rs ≤ R.slots) (hf : 1 ≤ R.frames) (hl : 40 ≤ R.locals) {i : Nat} (h1 : Cond.methodLink own i Lib.Math.min.name ∈ LT) (h2 : Cond.static Lib.Math.min.name ∈ LT) (h3 : Cond.initialized "java/lang/Math" ∈ LT) (h4 : Cond.code Lib.Math.min.name Lib.Math.min.code 2 (some .int) ∈ LT) (hd : decode cc pc = .ok (.invokestatic i, 3)) (h : kmin rg Rc Rs pc lo st w c sl = some k) (g : kGo p l e R s m args below meth cd Q D dA ρ A nL ad0 n0 (k)) : kGo p l e R s m args below meth cd Q D dA ρ A nL ad0 n0 ((pc, lo, st, w, c, sl)) := by
  unfold kmin at h
  split at h
  · rename_i y x rest
    cases hc : (kisI x && (kisI y && (Nat.ble c Rc && (Nat.ble sl Rs && Nat.ble (kcats rest) 8)))) with
    | false => rw [hc] at h; cases h
    | true =>
      rw [hc] at h
      simp only [cond_true] at h
      split at h
      · rename_i b hb
        cases h
        simp only [Bool.and_eq_true] at hc
        obtain ⟨c1, c2, c3, c4, c5⟩ := hc
        have c3 := Nat.ble_eq.mp c3
        have c4 := Nat.ble_eq.mp c4
        have c5 := Nat.ble_eq.mp c5
        have hts := F.2.2.2.2.1
        have hb := klt_ok hr hb
        intro ad H locs ls hat
        have g1 := g ad H locs ls hat
        simp only [List.map_cons] at g1 ⊢
        rw [kisI_eq c1, kisI_eq c2]
        refine va_mmin F.1 F.2.1 (F.2.2.1.trans hat.1.1.symm) F.2.2.2.1 (hts _ h1) (hts _ h2) (hts _ h3) (hts _ h4) hf (by rw [kcats_eq]; omega) (by omega) (by omega) hd ?_
        cases b with
        | true =>
          rw [if_pos (hb.mp rfl)]
          have e : kV ad ρ (bif true then y else x) = .int (kiv ρ y) := kisI_eq c2
          rw [e] at g1
          exact g1
        | false =>
          rw [if_neg (fun q => absurd (hb.mpr q) Bool.false_ne_true)]
          have e : kV ad ρ (bif false then y else x) = .int (kiv ρ x) := kisI_eq c1
          rw [e] at g1
          exact g1
      · cases h
  · cases h
theorem kcell_i {cA : ClassId} {n : Nat} {f g : Nat → Int32} (h : ∀ j, j < n → f j = g j) : vp_cell cA (n, .inl f) = vp_cell cA (n, .inl g) := by
  have e : (fun j : Fin n => Value.int (f j.val)) = (fun j : Fin n => Value.int (g j.val)) := funext fun j => by rw [h j.val j.isLt]
  show ({ cls := cA, slots := Array.ofFn (n := n) (fun j : Fin n => Value.int (f j.val)), vm := .none } : Cell) = { cls := cA, slots := Array.ofFn (n := n) (fun j : Fin n => Value.int (g j.val)), vm := .none }
  rw [e]
theorem kcell_l {cA : ClassId} {n : Nat} {f g : Nat → Int64} (h : ∀ j, j < n → f j = g j) : vp_cell cA (n, .inr (.inl f)) = vp_cell cA (n, .inr (.inl g)) := by
  have e : (fun j : Fin n => Value.long (f j.val)) = (fun j : Fin n => Value.long (g j.val)) := funext fun j => by rw [h j.val j.isLt]
  show ({ cls := cA, slots := Array.ofFn (n := n) (fun j : Fin n => Value.long (f j.val)), vm := .none } : Cell) = { cls := cA, slots := Array.ofFn (n := n) (fun j : Fin n => Value.long (g j.val)), vm := .none }
  rw [e]
/-- a cell may be told by another list that says the same below its length -/
theorem k_tell {ws : va_W} {a q0 : Nat} {cA : ClassId} {x y : vp_A} {H : Heap} (h : va_P D kCl (ws.set q0 (a, .inl (cA, x))) H) (hxy : vp_cell cA x = vp_cell cA y) : va_P D kCl (ws.set q0 (a, .inl (cA, y))) H := by
  intro k q hq
  rw [List.getElem?_set] at hq
  by_cases hk : q0 = k
  · subst hk
    by_cases hl : q0 < ws.length
    · simp only [if_true, hl] at hq
      cases hq
      have h1 := h q0 (a, .inl (cA, x)) (by rw [List.getElem?_set]; simp [hl])
      show H[a]? = some (vp_cell cA y)
      rw [← hxy]
      exact h1
    · simp [hl] at hq
  · rw [if_neg hk] at hq
    exact h k q (by rw [List.getElem?_set, if_neg hk]; exact hq)
theorem k_apart {A : Nat → Prop} {ws : va_W} {a q0 : Nat} {e1 e2 : va_E} (h : va_D A (ws.set q0 (a, e1))) : va_D A (ws.set q0 (a, e2)) := by
  by_cases hl : q0 < ws.length
  · have h2 := h.set (p := q0) (a := a) (e0 := e1) (e := e2) (by rw [List.getElem?_set]; simp [hl])
    rw [List.set_set] at h2
    exact h2
  · rw [List.set_eq_of_length_le (Nat.not_lt.mp hl)] at h ⊢
    exact h
theorem k_copy (F : kFix p s m args meth cd cc nL own mname D dA A zs ad0) (hf : 1 ≤ R.frames) (hlo : 40 ≤ R.locals) {i : Nat} (h1 : Cond.methodLink own i arraycopyName ∈ LT) (h2 : Cond.native arraycopyName ∈ LT) (h3 : Cond.static arraycopyName ∈ LT) (h4 : Cond.initialized "java/lang/System" ∈ LT) (hd : decode cc pc = .ok (.invokestatic i, 3)) (h : kcopy pc lo st w c sl = some k) (g : kGo p l e R s m args below meth cd Q D dA ρ A nL ad0 n0 (k)) : kGo p l e R s m args below meth cd Q D dA ρ A nL ad0 n0 ((pc, lo, st, w, c, sl)) := by
  unfold kcopy at h
  split at h
  · rename_i n dp a1 sp a0 rest
    split at h
    · rename_i t0 n0' e0 t1 n1 e1 hw0 hw1
      cases hc : (decide (sp = 0) && (decide (dp = 0) && (!decide (n < 0) && (Nat.beq n.toNatClampNeg n0' && (Nat.beq n0' n1 && (Nat.beq t0 t1 && Nat.ble (kcats rest) 8)))))) with
      | false => rw [hc] at h; cases h
      | true =>
        rw [hc] at h
        simp only [Bool.and_eq_true, Bool.not_eq_true', decide_eq_false_iff_not, decide_eq_true_eq] at hc
        obtain ⟨c1, c2, c3, c4, c5, c6, c7⟩ := hc
        have c4 := kb_t c4
        have c5 := kb_t c5
        have c6 := kb_t c6
        have c7 := Nat.ble_eq.mp c7
        subst c1; subst c2; subst c5; subst c6
        have hts := F.2.2.2.2.1
        have z : (0 : Int32).toNatClampNeg = 0 := by decide
        have hloc : ∀ ad : Nat → Nat, ((rest.map (kV ad ρ)).map fun v => v.category).sum + (nativeFrameWords "java/lang/System" "arraycopy" 5 + 11) ≤ R.locals := by
          intro ad
          rw [kcats_eq, show nativeFrameWords "java/lang/System" "arraycopy" 5 = 7 by decide]
          omega
        rcases e0 with ⟨l0, d0⟩ | e0 | e0
        · rcases e1 with ⟨l1, d1⟩ | e1 | e1
          · simp only [cond_true] at h
            cases ht : Nat.beq t0 0 with
            | false => rw [ht] at h; cases h
            | true =>
              rw [ht] at h; cases h
              have e := kb_t ht
              subst e
              intro ad H locs ls hat
              obtain ⟨q0, p1, p2⟩ := kW_get (dA := dA) (ad := ad) (ρ := ρ) hw0
              obtain ⟨q1, p3, p4⟩ := kW_get (dA := dA) (ad := ad) (ρ := ρ) hw1
              refine va_copyi (ws := kW dA ad ρ w) F.1 F.2.1 (F.2.2.1.trans hat.1.1.symm) F.2.2.2.1 (hts _ h1) (hts _ h2) (hts _ h3) (hts _ h4) F.2.2.2.2.2.1 hat.2.1 hat.2.2.1 hat.2.2.2.1 q0 q1 0 0 p1 p3 rfl rfl rfl (by decide) (by decide) c3 (by rw [z]; omega) (by rw [z]; omega) (fun _ _ => rfl) hf (hloc ad) hd ?_
              intro H1 locs1 r1 r2 r3
              refine k_put p4 rfl hat g H1 locs1 (k_tell r1 (kcell_i (fun j hj => ?_))) (k_apart r2) r3
              unfold va_cpy
              rw [z, if_pos ⟨Nat.zero_le _, by omega⟩]
              simp
          · cases h
          · cases h
        · rcases e1 with ⟨l1, d1⟩ | e1 | e1
          · cases h
          · simp only [cond_true] at h
            cases ht : Nat.beq t0 1 with
            | false => rw [ht] at h; cases h
            | true =>
              rw [ht] at h; cases h
              have e := kb_t ht
              subst e
              obtain ⟨l0, d0⟩ := e0
              obtain ⟨l1, d1⟩ := e1
              intro ad H locs ls hat
              obtain ⟨q0, p1, p2⟩ := kW_get (dA := dA) (ad := ad) (ρ := ρ) hw0
              obtain ⟨q1, p3, p4⟩ := kW_get (dA := dA) (ad := ad) (ρ := ρ) hw1
              refine va_copyl (ws := kW dA ad ρ w) F.1 F.2.1 (F.2.2.1.trans hat.1.1.symm) F.2.2.2.1 (hts _ h1) (hts _ h2) (hts _ h3) (hts _ h4) F.2.2.2.2.2.1 hat.2.1 hat.2.2.1 hat.2.2.2.1 q0 q1 1 1 p1 p3 rfl rfl rfl (by decide) (by decide) c3 (by rw [z]; omega) (by rw [z]; omega) (fun _ _ => rfl) hf (hloc ad) hd ?_
              intro H1 locs1 r1 r2 r3
              refine k_put p4 rfl hat g H1 locs1 (k_tell r1 (kcell_l (fun j hj => ?_))) (k_apart r2) r3
              unfold va_cpy
              rw [z, if_pos ⟨Nat.zero_le _, by omega⟩]
              simp
          · cases h
        · rcases e1 with ⟨l1, d1⟩ | e1 | e1 <;> cases h
    · cases h
  · cases h
end KROWS4
end
section
section KROWS5
variable {p : Program} {l : Launch} {e : Env} {R : Room} {s : State} {m : MethodId} {args : Array Value} {below : List Frame} {meth : Method} {cd : Code} {Q : State → Prop} {D : va_G} {dA : Nat → ClassId} {ρ : Nat → Int32} {A : Nat → Prop} {nL : Nat} {ad0 : Nat → Nat} {n0 : Nat} {cc : ByteArray} {own mname : String} {zs : KZ} {rg : List (Int × Int)}
variable {pc : Nat} {lo : List (Nat × KV)} {st : List KV} {w : KW} {c sl : Nat} {k : KF} {Rc Rs : Nat}
def kPc (D : va_G) (dA : Nat → ClassId) (ρ : Nat → Int32) (zs : KZ) (ad : Nat → Nat) (w : KW) (as : List KV) (sz : Nat) : Array Value → State → Prop := va_Pc (as.map (kV ad ρ)) (fun U => U.heap.size = sz ∧ va_P D kCl (kW dA ad ρ w) U.heap ∧ va_K D kCl (kTyL dA) U ∧ va_D (fun _ => True) (kW dA ad ρ w) ∧ (∀ (i : Nat) (z : String × String × String), zs[i]? = some z → va_Z z.1 z.2.1 z.2.2 (.ref (ad (1000001 + i))) (va_A (kW dA ad ρ w) sz) U U.heap) ∧ kSt U)
def kQc (D : va_G) (dA : Nat → ClassId) (ρ : Nat → Int32) (ad : Nat → Nat) (w : KW) (ret : Option KV) (w' : KW) (sz : Nat) : Array Value → State → Outcome → State → Prop := fun _ st oc t =>
  (∃ ad' : Nat → Nat, oc = .returned (ret.map (kV ad' ρ)) ∧ kExt (kfr 0 w) ad ad' ∧ kfr 0 w ≤ kfr 0 w' ∧ va_P D kCl (kW dA ad' ρ w') t.heap ∧ va_D (va_A (kW dA ad ρ w) sz) (kW dA ad' ρ w')) ∧ va_F (va_A (kW dA ad ρ w) sz) st t
def kwsOf (r : KMeth) : List Cond := .code r.1 r.2.1 r.2.2.1 r.2.2.2.1 :: LT
def krm (d : Nat) (r : KMeth) : Room := { frames := d, cells := r.2.2.2.2.1, slots := r.2.2.2.2.2.1, locals := 40 * d }
/-- the calls that the small machine makes have contracts -/
def kCalls (l : Launch) (ms : List KMeth) (zs : KZ) (ρ : Nat → Int32) (call : Nat → List KV → KW → Option (Option KV × KW)) (d : Nat) : Prop := ∀ (mid : Nat) (r : KMeth) (as : List KV) (w : KW) (ret : Option KV) (w' : KW), ms[mid]? = some r → call mid as w = some (ret, w') → ∀ (D : va_G) (dA : Nat → ClassId) (ad : Nat → Nat) (sz : Nat),
  Met l r.1 (kwsOf r) (krm d r) (kPc D dA ρ zs ad w as sz) (kQc D dA ρ ad w ret w' sz) r.2.2.2.2.1 r.2.2.2.2.2.1 (va_A (kW dA ad ρ w) sz)
theorem kPc_blind {ad : Nat → Nat} {as : List KV} {sz : Nat} : FrameBlind (kPc D dA ρ zs ad w as sz) := by
  intro a U g mk q
  obtain ⟨q0, q1, qP, qK, qD, qZ, qN⟩ := q
  exact ⟨q0, q1, qP, va_K.moved (u := U) (U := U.calling g mk a) (Vm.Alike.refl U.vm) qK, qD, fun i z hz => va_Z.moved (u := U) (U := U.calling g mk a) (Vm.Alike.refl U.vm) (qZ i z hz), qN.same (u := U) (U := U.calling g mk a) rfl⟩
theorem k_pre (F : kFix p s m args meth cd cc nL own mname D dA A zs ad0) {ad : Nat → Nat} {H : Heap} {locs : List Loc} {ls : Array Slot} (hat : kAt s D dA ρ A nL ad0 n0 ad ls lo w H locs) (as : List KV) {U : State} (hU : U.heap = H) (hW : s.WarmedH U.vm) : kPc D dA ρ zs ad w as H.size (as.map (kV ad ρ)).toArray U := by
  obtain ⟨hl, hP, hD, hS, hn, hE⟩ := hat
  refine ⟨rfl, by rw [hU], by rw [hU]; exact hP, va_K.moved hW.alike F.2.2.2.2.2.1, hD.weaken (fun _ _ _ _ => trivial), fun i z hz => ?_, F.2.2.2.2.2.2.2.2.2.warm hW⟩
  have h1 := F.2.2.2.2.2.2.2.2.1 i z hz
  rw [hE (1000001 + i) (Or.inr (by omega)), hU]
  refine ((h1.moved hW.alike).kept hS.2.1).narrow (fun q hq => ?_)
  rcases hq with ⟨j, x, hj⟩ | hq
  · exact hD.2 j (q, x) hj
  · exact F.2.2.2.2.2.2.1 q (Nat.le_trans hS.1 hq)
theorem k_after (F : kFix p s m args meth cd cc nL own mname D dA A zs ad0) {ad : Nat → Nat} {H : Heap} {locs : List Loc} {ls : Array Slot} {st0 : List Value} {rest : List KV} {ret : Option KV} {w' : KW} {mc msl : Nat} {a : Array Value} (hat : kAt s D dA ρ A nL ad0 n0 ad ls lo w H locs) (hlo : kokL (kfr 0 w) lo = true) (hst : kokS (kfr 0 w) rest = true)
    (hr : va_Run p l e R s m args below meth cd H locs c sl mc msl (F0 m pc ls st0) (rest.map (kV ad ρ)) (kQc D dA ρ ad w ret w' H.size a) (va_A (kW dA ad ρ w) H.size)) (g : kGo p l e R s m args below meth cd Q D dA ρ A nL ad0 n0 ((pc + 3, lo, ret.toList ++ rest, w', c + mc, sl + msl))) :
    W p l e R s m args below meth cd H locs c sl Q (F0 m pc ls st0) := by
  obtain ⟨hl, hP, hD, hS, hn, hE⟩ := hat
  have hf : ∀ q, va_A (kW dA ad ρ w) H.size q → A q := fun q hq => by
    rcases hq with ⟨j, x, hj⟩ | hq
    · exact hD.2 j (q, x) hj
    · exact F.2.2.2.2.2.2.1 q (Nat.le_trans hS.1 hq)
  intro T hT X
  obtain ⟨v, st₀, t, T', L, h0, X', hL, e1, e2, ⟨⟨ad', hv, hE', hn', hP', hD'⟩, hz, hk⟩, stp⟩ := hr T hT X
  cases hv
  rw [h0] at hz hk
  have g1 := g ad' T'.heap (locs ++ L) ls ⟨by rw [kL_ext hE' hlo]; exact hl, by rw [e1]; exact hP', hD'.weaken (fun _ q _ hq => hf _ hq), ⟨Nat.le_trans hS.1 (by rw [e1]; exact hz), fun q h1 h2 => by rw [e1, hk q (Nat.lt_of_lt_of_le h1 hS.1) (fun z => h2 (hf q z))]; exact hS.2.1 q h1 h2, fun q hq => by
      rcases List.mem_append.mp hq with h | h
      · exact hS.2.2 q h
      · exact hf _ (hL q h)⟩, Nat.le_trans hn hn', hE.tr hE' hn⟩
  have e3 : ((ret.toList ++ rest).map (kV ad' ρ)) = (ret.map (kV ad' ρ)).toList ++ rest.map (kV ad ρ) := by
    rw [List.map_append, kS_ext hE' hst]
    cases ret <;> rfl
  simp only [e3] at g1
  obtain ⟨t2, a1, b1⟩ := g1 T' rfl X'
  exact ⟨t2, stp t2 a1, b1⟩
theorem goodLT {ws : List Cond} (h : ∀ w ∈ ws, w ∈ LT) : GoodIn LT ws := fun w hw => ⟨h w hw, LT_good (h w hw)⟩
theorem kws_sub {r : KMeth} (h : Cond.code r.1 r.2.1 r.2.2.1 r.2.2.2.1 ∈ LT) : ∀ w ∈ kwsOf r, w ∈ LT := fun w hw => by
  rcases List.mem_cons.mp hw with e | hw
  · rw [e]; exact h
  · exact hw
theorem k_args {n : Nat} {ad : Nat → Nat} {b : Nat} {rest : List KV} (h : st.drop n = .inl (.ref b) :: rest) : st.map (kV ad ρ) = (((st.take n).reverse).map (kV ad ρ)).reverse ++ .ref (ad b) :: rest.map (kV ad ρ) ∧ (((st.take n).reverse).map (kV ad ρ)).length = n := by
  have hl : n < st.length := by
    have := congrArg List.length h
    rw [List.length_drop, List.length_cons] at this
    omega
  constructor
  · rw [← List.map_reverse, List.reverse_reverse]
    conv => lhs; rw [← List.take_append_drop n st, h]
    rw [List.map_append]
    rfl
  · rw [List.length_map, List.length_reverse, List.length_take]
    omega
theorem k_argsS {n : Nat} {ad : Nat → Nat} (h : n ≤ st.length) : st.map (kV ad ρ) = (((st.take n).reverse).map (kV ad ρ)).reverse ++ (st.drop n).map (kV ad ρ) ∧ (((st.take n).reverse).map (kV ad ρ)).length = n := by
  constructor
  · rw [← List.map_reverse, List.reverse_reverse, ← List.map_append, List.take_append_drop]
  · rw [List.length_map, List.length_reverse, List.length_take]
    omega
section KCALLS
variable {ms : List KMeth} {call : Nat → List KV → KW → Option (Option KV × KW)} {d : Nat} {x : KX} {r : KMeth} {i : Nat}
theorem k_callV (F : kFix p s m args meth cd cc nL own mname D dA A zs ad0) (hC : kCalls l ms zs ρ call d) (hRc : Rc ≤ R.cells) (hRs : Rs ≤ R.slots) (hRf : d + 1 ≤ R.frames) (hRl : 40 * d + 40 ≤ R.locals) (hr : ms[x.1]? = some r) (hmc : r.2.2.2.2.1 = x.2.2.1) (hms : r.2.2.2.2.2.1 = x.2.2.2.1) (hmL : r.2.2.1 ≤ 21) (hnA : (parseMethodDescriptor r.1.desc).map (fun d => d.parameters.length) = some x.2.1) (hm1 : r.1.cls ≠ "java/lang/invoke/MethodHandle") (hm2 : r.1.cls ≠ "java/lang/invoke/VarHandle") {q : vw_C} (hq : kCl[x.2.2.2.2]? = some q) (hqc : q.1 = r.1.cls)
    (w1 : Cond.methodLink own i r.1 ∈ LT) (w2 : Cond.instanceMethod r.1 ∈ LT) (w3 : Cond.selects r.1.cls r.1 r.1 ∈ LT) (w4 : Cond.initialized r.1.cls ∈ LT) (w5 : Cond.code r.1 r.2.1 r.2.2.1 r.2.2.2.1 ∈ LT) (hd : decode cc pc = .ok (.invokevirtual i, 3)) (h : kcallV call Rc Rs x pc lo st w c sl = some k) (g : kGo p l e R s m args below meth cd Q D dA ρ A nL ad0 n0 (k)) : kGo p l e R s m args below meth cd Q D dA ρ A nL ad0 n0 ((pc, lo, st, w, c, sl)) := by
  unfold kcallV at h
  split at h
  · rename_i b rest hdr
    split at h
    · rename_i cj fs hw
      cases hc : (Nat.beq cj x.2.2.2.2 && (kokL (kfr 0 w) lo && (kokS (kfr 0 w) rest && (Nat.ble (c + x.2.2.1) Rc && (Nat.ble (sl + x.2.2.2.1) Rs && Nat.ble (kcats rest) 8))))) with
      | false => rw [hc] at h; cases h
      | true =>
        rw [hc] at h
        simp only [cond_true] at h
        simp only [Bool.and_eq_true] at hc
        obtain ⟨c1, c2, c3, c4, c5, c6⟩ := hc
        have c1 := kb_t c1
        have c4 := Nat.ble_eq.mp c4
        have c5 := Nat.ble_eq.mp c5
        have c6 := Nat.ble_eq.mp c6
        split at h
        · rename_i ret w' hcall
          cases h
          intro ad H locs ls hat
          obtain ⟨q0, h1, -⟩ := kW_get (dA := dA) (ad := ad) (ρ := ρ) hw
          obtain ⟨a1, a2⟩ := k_args (ρ := ρ) (ad := ad) hdr
          have hM := hC x.1 r _ w ret w' hr hcall D dA ad H.size
          rw [hmc, hms] at hM
          subst c1
          have hgood : GoodIn LT (wsV own i r.1.cls r.1 (kwsOf r)) := goodLT (fun w hw => by
            rcases List.mem_append.mp hw with hw | hw
            · simp only [List.mem_cons, List.not_mem_nil, or_false] at hw
              rcases hw with e | e | e | e <;> rw [e] <;> assumption
            · exact kws_sub w5 w hw)
          refine k_after F hat c2 c3 (a := (Value.ref (ad b) :: ((st.take x.2.1).reverse).map (kV ad ρ)).toArray) (va_runV ⟨F.1, F.2.1, F.2.2.1, F.2.2.2.1, F.2.2.2.2.1⟩ hM (cwV x.2.1 F.2.2.2.2.1 hgood rfl hmc hms ⟨rfl, hm1, hm2, hnA⟩ ⟨hRf, ?_⟩) ⟨kPc_blind, ?_, fun U hU hW => ?_⟩ rfl a2 hat.1.1 a1 (lv_room (by rw [kcats_eq]; exact c6)) hd ⟨Nat.le_trans c4 hRc, Nat.le_trans c5 hRs⟩) g
          · show 8 + (r.2.2.1 + 11) + 40 * d ≤ _
            omega
          · rw [← hqc]
            exact va_recv F.2.2.2.2.2.1 hat.2.1 hq h1
          · exact k_pre F hat (.inl (.ref b) :: (st.take x.2.1).reverse) hU hW
        · cases h
    · cases h
  · cases h
theorem k_callI (F : kFix p s m args meth cd cc nL own mname D dA A zs ad0) (hC : kCalls l ms zs ρ call d) (hRc : Rc ≤ R.cells) (hRs : Rs ≤ R.slots) (hRf : d + 1 ≤ R.frames) (hRl : 40 * d + 40 ≤ R.locals) (hr : ms[x.1]? = some r) (hmc : r.2.2.2.2.1 = x.2.2.1) (hms : r.2.2.2.2.2.1 = x.2.2.2.1) (hmL : r.2.2.1 ≤ 21) (hnA : (parseMethodDescriptor r.1.desc).map (fun d => d.parameters.length) = some x.2.1) (hm1 : r.1.cls ≠ "java/lang/invoke/MethodHandle") (hm2 : r.1.cls ≠ "java/lang/invoke/VarHandle") (hnm : r.1.name = "<init>") (hrt : r.2.2.2.1 = none)
    (w1 : Cond.methodLink own i r.1 ∈ LT ∨ (own, i, r.1) ∈ kNW) (w2 : Cond.instanceMethod r.1 ∈ LT) (w4 : Cond.initialized r.1.cls ∈ LT) (w5 : Cond.code r.1 r.2.1 r.2.2.1 r.2.2.2.1 ∈ LT) (hd : decode cc pc = .ok (.invokespecial i, 3)) (h : kcallV call Rc Rs x pc lo st w c sl = some k) (g : kGo p l e R s m args below meth cd Q D dA ρ A nL ad0 n0 (k)) : kGo p l e R s m args below meth cd Q D dA ρ A nL ad0 n0 ((pc, lo, st, w, c, sl)) := by
  unfold kcallV at h
  split at h
  · rename_i b rest hdr
    split at h
    · rename_i cj fs hw
      cases hc : (Nat.beq cj x.2.2.2.2 && (kokL (kfr 0 w) lo && (kokS (kfr 0 w) rest && (Nat.ble (c + x.2.2.1) Rc && (Nat.ble (sl + x.2.2.2.1) Rs && Nat.ble (kcats rest) 8))))) with
      | false => rw [hc] at h; cases h
      | true =>
        rw [hc] at h
        simp only [cond_true] at h
        simp only [Bool.and_eq_true] at hc
        obtain ⟨c1, c2, c3, c4, c5, c6⟩ := hc
        have c4 := Nat.ble_eq.mp c4
        have c5 := Nat.ble_eq.mp c5
        have c6 := Nat.ble_eq.mp c6
        split at h
        · rename_i ret w' hcall
          cases h
          intro ad H locs ls hat
          obtain ⟨a1, a2⟩ := k_args (ρ := ρ) (ad := ad) hdr
          have hM := hC x.1 r _ w ret w' hr hcall D dA ad H.size
          rw [hmc, hms] at hM
          have hws : kwsOf r = Cond.code r.1 r.2.1 r.2.2.1 none :: LT := by unfold kwsOf; rw [hrt]
          have hpre : PreS s H (kPc D dA ρ zs ad w (.inl (.ref b) :: (st.take x.2.1).reverse) H.size) (.ref (ad b) :: ((st.take x.2.1).reverse).map (kV ad ρ)) := ⟨kPc_blind, fun U hU hW => k_pre F hat (.inl (.ref b) :: (st.take x.2.1).reverse) hU hW⟩
          have hlo : 8 + (r.2.2.1 + 11) + (krm d r).locals ≤ R.locals := by
            show 8 + (r.2.2.1 + 11) + 40 * d ≤ _
            omega
          have hts := F.2.2.2.2.1
          rcases w1 with w1 | w1
          · exact k_after F hat c2 c3 (a := (Value.ref (ad b) :: ((st.take x.2.1).reverse).map (kV ad ρ)).toArray) (va_runI ⟨F.1, F.2.1, F.2.2.1, F.2.2.2.1, hts⟩ hM (cwI x.2.1 hts (goodLT (kws_sub w5)) hws hmc hms (hts _ w4) (hts _ w1) (hts _ w2) hnm ⟨hm1, hm2, hnA⟩ ⟨hRf, hlo⟩) hpre rfl a2 hat.1.1 a1 (lv_room (by rw [kcats_eq]; exact c6)) hd ⟨Nat.le_trans c4 hRc, Nat.le_trans c5 hRs⟩) g
          · exact k_after F hat c2 c3 (a := (Value.ref (ad b) :: ((st.take x.2.1).reverse).map (kV ad ρ)).toArray) (va_runIN ⟨F.1, F.2.1, F.2.2.1, F.2.2.2.1, hts⟩ hM ⟨va_cnB x.2.1 hts (goodLT (kws_sub w5)) hws hmc hms (F.2.2.2.2.2.2.2.2.2.1 _ w1) (hts _ w4) ⟨hm1, hm2, hnA⟩ ⟨hRf, hlo⟩, hnm, hts _ w2⟩ hpre rfl a2 hat.1.1 a1 (lv_room (by rw [kcats_eq]; exact c6)) hd ⟨Nat.le_trans c4 hRc, Nat.le_trans c5 hRs⟩) g
        · cases h
    · cases h
  · cases h
theorem k_callS (F : kFix p s m args meth cd cc nL own mname D dA A zs ad0) (hC : kCalls l ms zs ρ call d) (hRc : Rc ≤ R.cells) (hRs : Rs ≤ R.slots) (hRf : d + 1 ≤ R.frames) (hRl : 40 * d + 40 ≤ R.locals) (hr : ms[x.1]? = some r) (hmc : r.2.2.2.2.1 = x.2.2.1) (hms : r.2.2.2.2.2.1 = x.2.2.2.1) (hmL : r.2.2.1 ≤ 21) (hnA : (parseMethodDescriptor r.1.desc).map (fun d => d.parameters.length) = some x.2.1) (hm1 : r.1.cls ≠ "java/lang/invoke/MethodHandle") (hm2 : r.1.cls ≠ "java/lang/invoke/VarHandle")
    (w1 : Cond.methodLink own i r.1 ∈ LT) (w2 : Cond.static r.1 ∈ LT) (w4 : Cond.initialized r.1.cls ∈ LT) (w5 : Cond.code r.1 r.2.1 r.2.2.1 r.2.2.2.1 ∈ LT) (hd : decode cc pc = .ok (.invokestatic i, 3)) (h : kcallS call Rc Rs x pc lo st w c sl = some k) (g : kGo p l e R s m args below meth cd Q D dA ρ A nL ad0 n0 (k)) : kGo p l e R s m args below meth cd Q D dA ρ A nL ad0 n0 ((pc, lo, st, w, c, sl)) := by
  unfold kcallS at h
  cases hc : (Nat.ble x.2.1 st.length && (kokL (kfr 0 w) lo && (kokS (kfr 0 w) (st.drop x.2.1) && (Nat.ble (c + x.2.2.1) Rc && (Nat.ble (sl + x.2.2.2.1) Rs && Nat.ble (kcats (st.drop x.2.1)) 8))))) with
  | false => rw [hc] at h; cases h
  | true =>
    rw [hc] at h
    simp only [cond_true] at h
    simp only [Bool.and_eq_true] at hc
    obtain ⟨c1, c2, c3, c4, c5, c6⟩ := hc
    have c1 := Nat.ble_eq.mp c1
    have c4 := Nat.ble_eq.mp c4
    have c5 := Nat.ble_eq.mp c5
    have c6 := Nat.ble_eq.mp c6
    split at h
    · rename_i ret w' hcall
      cases h
      intro ad H locs ls hat
      obtain ⟨a1, a2⟩ := k_argsS (ρ := ρ) (ad := ad) c1
      have hM := hC x.1 r _ w ret w' hr hcall D dA ad H.size
      rw [hmc, hms] at hM
      have hgood : GoodIn LT (va_wsS own i r.1 (kwsOf r)) := goodLT (fun w hw => by
        rcases List.mem_append.mp hw with hw | hw
        · simp only [List.mem_cons, List.not_mem_nil, or_false] at hw
          rcases hw with e | e | e <;> rw [e] <;> assumption
        · exact kws_sub w5 w hw)
      refine k_after F hat c2 c3 (a := (((st.take x.2.1).reverse).map (kV ad ρ)).toArray) (va_runS ⟨F.1, F.2.1, F.2.2.1, F.2.2.2.1, F.2.2.2.2.1⟩ hM (va_cwS x.2.1 F.2.2.2.2.1 hgood rfl hmc hms ⟨hm1, hm2, hnA⟩ ⟨hRf, ?_⟩) ⟨kPc_blind, fun U hU hW => ?_⟩ rfl a2 hat.1.1 a1 (lv_room (by rw [kcats_eq]; exact c6)) hd ⟨Nat.le_trans c4 hRc, Nat.le_trans c5 hRs⟩) g
      · show 8 + (r.2.2.1 + 11) + 40 * d ≤ _
        omega
      · exact k_pre F hat ((st.take x.2.1).reverse) hU hW
    · cases h
end KCALLS
end KROWS5
end
section
section KROWS6
variable {p : Program} {l : Launch} {e : Env} {R : Room} {s : State} {m : MethodId} {args : Array Value} {below : List Frame} {meth : Method} {cd : Code} {Q : State → Prop} {D : va_G} {dA : Nat → ClassId} {ρ : Nat → Int32} {A : Nat → Prop} {nL : Nat} {ad0 : Nat → Nat} {n0 : Nat} {cc : ByteArray} {own mname : String} {zs : KZ} {rg : List (Int × Int)}
variable {pc : Nat} {lo : List (Nat × KV)} {st : List KV} {w : KW} {c sl : Nat} {k : KF} {Rc Rs : Nat} {ms : List KMeth} {call : Nat → List KV → KW → Option (Option KV × KW)} {d : Nat}
/-- a program's rows are as they should be -/
def kEntOK (ms : List KMeth) (zs : KZ) (own mname : String) (cc : ByteArray) (x : KEnt) : Prop := kdec cc x = true ∧ (∀ w ∈ kwords ms zs own x, w ∈ LT) ∧ kside ms zs own mname x = true
theorem ksideM_ok {x : KX} {f : KMeth → Bool} (h : ksideM ms x f = true) : ∃ r, ms[x.1]? = some r ∧ (parseMethodDescriptor r.1.desc).map (fun d => d.parameters.length) = some x.2.1 ∧ r.2.2.2.2.1 = x.2.2.1 ∧ r.2.2.2.2.2.1 = x.2.2.2.1 ∧ r.1.cls ≠ "java/lang/invoke/MethodHandle" ∧ r.1.cls ≠ "java/lang/invoke/VarHandle" ∧ r.2.2.1 ≤ 21 ∧ f r = true := by
  unfold ksideM at h
  split at h
  · rename_i r hr
    simp only [Bool.and_eq_true, decide_eq_true_eq] at h
    obtain ⟨h1, h2, h3, h4, h5, h6, h7⟩ := h
    exact ⟨r, hr, h1, kb_t h2, kb_t h3, h4, h5, Nat.ble_eq.mp h6, h7⟩
  · cases h
theorem k_one (F : kFix p s m args meth cd cc nL own mname D dA A zs ad0) (hr : kRg rg ρ) {ks : Option Int32} {L : Nat} (hks : ∀ v, ks = some v → ρ 0 &&& 63 = v) (hX : kSc s A ad0 ρ L) (hC : kCalls l ms zs ρ call d) (hRc : Rc ≤ R.cells) (hRs : Rs ≤ R.slots) (hRf : d + 1 ≤ R.frames) (hRl : 40 * d + 40 ≤ R.locals) {ig : Instr} {x : KX} (hE : kEntOK ms zs own mname cc (pc, ig, x)) (h : kdo ig call rg ks L nL Rc Rs x pc lo st w c sl = some k) (g : kGo p l e R s m args below meth cd Q D dA ρ A nL ad0 n0 (k)) : kGo p l e R s m args below meth cd Q D dA ρ A nL ad0 n0 ((pc, lo, st, w, c, sl)) := by
  obtain ⟨hdec, hw, hside⟩ := hE
  obtain ⟨len, hd, hlen⟩ := kdec_ok hdec
  replace hd : decode cc pc = .ok (ig, len) := hd
  replace hlen : klen ig = 0 ∨ len = klen ig := hlen
  have hx := F.1
  have hb := F.2.1
  have hts := F.2.2.2.2.1
  have hfr : 1 ≤ R.frames := by omega
  have hlo : 40 ≤ R.locals := by omega
  have hd2 : klen ig ≠ 0 → decode cc pc = .ok (ig, klen ig) := fun h0 => by
    rcases hlen with q | q
    · exact absurd q h0
    · rw [q] at hd; exact hd
  cases ig <;> try (cases h; done)
  all_goals try replace hd := hd2 (Nat.succ_ne_zero _)
  case iconst n => cases h; exact fun ad H locs ls hat => lv_iconst hx hb hd rfl (g ad H locs ls hat)
  case bipush n => cases h; exact fun ad H locs ls hat => lv_bipush hx hb hd rfl (g ad H locs ls hat)
  case sipush n => cases h; exact fun ad H locs ls hat => lv_sipush hx hb hd rfl (g ad H locs ls hat)
  case lconst n => cases h; exact fun ad H locs ls hat => lv_lconst hx hb hd rfl (g ad H locs ls hat)
  case aconst_null => cases h; exact fun ad H locs ls hat => lv_null hx hb hd (g ad H locs ls hat)
  case iload_n n => exact k_ild (fun ad H locs ls x q1 q2 => lv_iload_n hx hb hd rfl q1 q2) h g
  case iload n => exact k_ild (fun ad H locs ls x q1 q2 => lv_iload hx hb hd q1 q2) h g
  case aload_n n => exact k_ald (fun ad H locs ls x q1 q2 => lv_aload_n hx hb hd rfl q1 q2) (fun ad H locs ls q1 q2 => lv_aload_nN hx hb hd rfl q1 q2) h g
  case aload n => exact k_ald (fun ad H locs ls x q1 q2 => lv_aload hx hb hd q1 q2) (fun ad H locs ls q1 q2 => lv_aloadN hx hb hd q1 q2) h g
  case istore_n n => exact k_ist (fun ad H locs ls x rest lv lv' q1 q2 q3 q4 => lv_istore_n hx hb hd rfl q1 q2 q3 q4) h g
  case istore n => exact k_ist (fun ad H locs ls x rest lv lv' q1 q2 q3 q4 => lv_istore hx hb hd q1 q2 q3 q4) h g
  case astore_n n => exact k_ast (fun ad H locs ls x rest lv lv' q1 q2 q3 q4 => lv_astore_n hx hb hd rfl q1 q2 q3 q4) (fun ad H locs ls rest lv lv' q1 q2 q3 q4 => lv_astore_nN hx hb hd rfl q1 q2 q3 q4) h g
  case astore n => exact k_ast (fun ad H locs ls x rest lv lv' q1 q2 q3 q4 => lv_astore hx hb hd q1 q2 q3 q4) (fun ad H locs ls rest lv lv' q1 q2 q3 q4 => lv_astoreN hx hb hd q1 q2 q3 q4) h g
  case iinc i n => exact k_inc F hd h g
  case iadd => exact k_bin (fun H locs ls x y rest q => lv_iadd hx hb hd q) h g
  case isub => exact k_bin (fun H locs ls x y rest q => lv_isub hx hb hd q) h g
  case imul => exact k_bin (fun H locs ls x y rest q => lv_imul hx hb hd q) h g
  case ishl => exact k_bin (fun H locs ls x y rest q => lv_ishl hx hb hd q) h g
  case iushr => exact k_bin (fun H locs ls x y rest q => lv_iushr hx hb hd rfl q) h g
  case iand => exact k_and F hks hd h g
  case i2b => exact k_un (fun H locs ls x rest q => lv_i2b hx hb hd rfl q) h g
  case dup => exact k_dup F hd h g
  case dup2 => exact k_dup2 F hd h g
  case pop => exact k_pop F hd h g
  case goto off =>
    unfold kdo at h
    dsimp only at h
    split at h
    · rename_i t ht
      cases h
      exact fun ad H locs ls hat => lv_goto hx hb hd (ktg_ok ht) (g ad H locs ls hat)
    · cases h
  case ifCond cnd off => exact k_if F hr hd h g
  case if_icmp cnd off => exact k_icmp F hr hd h g
  case if_acmp cnd off => exact k_acmp F hd h g
  case tableswitch a1 a2 a3 a4 => exact k_sw F hr hd h g
  case getfield i =>
    unfold kside at hside
    dsimp only at hside
    split at hside
    · rename_i q hq
      refine k_getf F hq (Nat.ble_eq.mp hside) (hw _ ?_) hd h g
      unfold kwords
      dsimp only
      rw [hq]
      exact List.mem_cons_self
    · cases hside
  case putfield i =>
    unfold kside at hside
    dsimp only at hside
    split at hside
    · rename_i q hq
      have hs := Bool.and_eq_true_iff.mp hside
      refine k_putf F hq (Nat.ble_eq.mp hs.1) ?_ (hw _ ?_) hd h g
      · have h2 := hs.2
        cases hf : (q.2.1 x.2.1).2.2.2 with
        | false => exact Or.inl rfl
        | true =>
          rw [hf] at h2
          simp only [cond_true, Bool.and_eq_true, decide_eq_true_eq] at h2
          exact Or.inr ⟨rfl, h2.1, h2.2⟩
      · unfold kwords
        dsimp only
        rw [hq]
        exact List.mem_cons_self
    · cases hside
  case getstatic i =>
    cases h
    obtain ⟨z, hz⟩ : ∃ z, zs[x.1]? = some z := ⟨zs[x.1]'(Nat.ble_eq.mp hside), List.getElem?_eq_getElem _⟩
    have hl : Cond.fieldLink own i z.1 z.2.1 z.2.2 ∈ LT := hw _ (by
      unfold kwords
      dsimp only
      rw [hz]
      exact List.mem_cons_self)
    intro ad H locs ls hat
    have hZ := F.2.2.2.2.2.2.2.2.1 x.1 z hz
    rw [← hat.2.2.2.2.2 (1000001 + x.1) (Or.inr (by omega))] at hZ
    exact va_gets hx hb hZ hat.2.2.2.1 F.2.2.2.1 (hts _ hl) (fun _ h9 => h9) hd (g ad H locs ls hat)
  case new i =>
    unfold kside at hside
    dsimp only at hside
    split at hside
    · rename_i q t hq ht
      have hm : ∀ w ∈ ([.classLink own i q.1, .instantiable q.1 q.2.2, .initialized q.1] : List Cond), w ∈ LT := fun w0 h0 => hw w0 (by
        unfold kwords
        dsimp only
        rw [hq]
        exact h0)
      exact k_new F hRc hRs hq ht (kb_t hside) (hm _ (by simp)) (hm _ (by simp)) (hm _ (by simp)) hd h g
    · cases hside
  case newarray t => exact k_newa F hRc hRs (of_decide_eq_true hside) (hw _ List.mem_cons_self) hd h g
  case anewarray i =>
    have h56 : x.1 = 5 ∨ x.1 = 6 := (Bool.or_eq_true_iff.mp hside).imp kb_t kb_t
    obtain ⟨C, hC9, hAO⟩ : ∃ C, kEl[x.1]? = some (.object C) ∧ va_AO C s := by
      rcases h56 with q | q <;> rw [q]
      · exact ⟨_, rfl, F.2.2.2.2.2.2.2.2.2.2.1⟩
      · exact ⟨_, rfl, F.2.2.2.2.2.2.2.2.2.2.2⟩
    have hm : ∀ w ∈ ([.classLink own i C] : List Cond), w ∈ LT := fun w0 h0 => hw w0 (by
      unfold kwords
      dsimp only
      rw [hC9]
      exact h0)
    exact k_newq F hRc hRs hC9 h56 (hm _ (by simp)) hAO hd h g
  case arraylength => exact k_alen F hX hd h g
  case iaload => exact k_iald F hr hX hd h g
  case baload => exact k_bald F hd h g
  case laload => exact k_lald F hd h g
  case aaload => exact k_aald F hd h g
  case iastore => exact k_iast F hd h g
  case bastore => exact k_bast F hd h g
  case lastore => exact k_last F hd h g
  case aastore => exact k_aast F hd h g
  case ldc i => cases h; exact fun ad H locs ls hat => lv_ldc hx hb F.2.2.2.1 (hts _ (hw _ List.mem_cons_self)) hd (g ad H locs ls hat)
  case ldc_w i => cases h; exact fun ad H locs ls hat => lv_ldcw hx hb F.2.2.2.1 (hts _ (hw _ List.mem_cons_self)) hd (g ad H locs ls hat)
  case invokevirtual i =>
    obtain ⟨r, hr0, q1, q2, q3, q4, q5, q6, q7⟩ := ksideM_ok hside
    split at q7
    · rename_i q hq
      have hm : ∀ w ∈ ([.methodLink own i r.1, .instanceMethod r.1, .selects r.1.cls r.1 r.1, .initialized r.1.cls, .code r.1 r.2.1 r.2.2.1 r.2.2.2.1] : List Cond), w ∈ LT := fun w0 h0 => hw w0 (by
        unfold kwords
        dsimp only
        rw [hr0]
        exact h0)
      exact k_callV F hC hRc hRs hRf hRl hr0 q2 q3 q6 q1 q4 q5 hq (of_decide_eq_true q7) (hm _ (by simp)) (hm _ (by simp)) (hm _ (by simp)) (hm _ (by simp)) (hm _ (by simp)) hd h g
    · cases q7
  case invokespecial i =>
    unfold kdo at h
    dsimp only at h
    cases ho : Nat.beq x.1 999999 with
    | true =>
      rw [ho] at h
      have hm : ∀ w ∈ ([.methodLink own i objectInit, .instanceMethod objectInit, .code objectInit ⟨#[0xb1]⟩ 1 none] : List Cond), w ∈ LT := fun w0 h0 => hw w0 (by
        unfold kwords
        dsimp only
        rw [ho]
        exact h0)
      exact k_obj F hfr hlo (hm _ (by simp)) (hm _ (by simp)) (hm _ (by simp)) hd h g
    | false =>
      rw [ho] at h
      have hside : (Nat.beq x.1 999999 || ksideM ms x (fun r => decide (r.1.name = "<init>") && (decide (r.2.2.2.1 = none) && (!Nat.ble 100 x.2.2.2.2 || decide ((own, i, r.1) ∈ kNW))))) = true := hside
      rw [ho, Bool.false_or] at hside
      obtain ⟨r, hr0, q1, q2, q3, q4, q5, q6, q7⟩ := ksideM_ok hside
      simp only [Bool.and_eq_true, decide_eq_true_eq] at q7
      obtain ⟨q7, q8, q9⟩ := q7
      have hm : ∀ w ∈ ((bif Nat.ble 100 x.2.2.2.2 then [] else [.methodLink own i r.1]) ++ [.instanceMethod r.1, .initialized r.1.cls, .code r.1 r.2.1 r.2.2.1 r.2.2.2.1] : List Cond), w ∈ LT := fun w0 h0 => hw w0 (by
        unfold kwords
        dsimp only
        rw [ho, hr0]
        exact h0)
      have w1 : Cond.methodLink own i r.1 ∈ LT ∨ (own, i, r.1) ∈ kNW := by
        cases hn : Nat.ble 100 x.2.2.2.2 with
        | true =>
          rw [hn] at q9
          exact Or.inr (of_decide_eq_true q9)
        | false =>
          refine Or.inl (hm _ (List.mem_append_left _ ?_))
          rw [hn]
          exact List.mem_cons_self
      exact k_callI (x := (x.1, x.2.1, x.2.2.1, x.2.2.2.1, x.2.2.2.2 % 100)) F hC hRc hRs hRf hRl hr0 q2 q3 q6 q1 q4 q5 q7 q8 w1 (hm _ (List.mem_append_right _ (by simp))) (hm _ (List.mem_append_right _ (by simp))) (hm _ (List.mem_append_right _ (by simp))) hd h g
  case invokestatic i =>
    unfold kdo at h
    dsimp only at h
    cases ho : Nat.beq x.1 999998 with
    | true =>
      rw [ho] at h
      have hm : ∀ w ∈ ([.methodLink own i Lib.Math.min.name, .static Lib.Math.min.name, .initialized "java/lang/Math", .code Lib.Math.min.name Lib.Math.min.code 2 (some .int)] : List Cond), w ∈ LT := fun w0 h0 => hw w0 (by
        unfold kwords
        dsimp only
        rw [ho]
        exact h0)
      exact k_min F hr hRc hRs hfr hlo (hm _ (by simp)) (hm _ (by simp)) (hm _ (by simp)) (hm _ (by simp)) hd h g
    | false =>
      rw [ho] at h
      cases ho2 : Nat.beq x.1 999997 with
      | true =>
        rw [ho2] at h
        have hm : ∀ w ∈ ([.methodLink own i arraycopyName, .native arraycopyName, .static arraycopyName, .initialized "java/lang/System"] : List Cond), w ∈ LT := fun w0 h0 => hw w0 (by
          unfold kwords
          dsimp only
          rw [ho, ho2]
          exact h0)
        exact k_copy F hfr hlo (hm _ (by simp)) (hm _ (by simp)) (hm _ (by simp)) (hm _ (by simp)) hd h g
      | false =>
        rw [ho2] at h
        have hside : (Nat.beq x.1 999998 || (Nat.beq x.1 999997 || ksideM ms x (fun _ => true))) = true := hside
        rw [ho, ho2, Bool.false_or, Bool.false_or] at hside
        obtain ⟨r, hr0, q1, q2, q3, q4, q5, q6, q7⟩ := ksideM_ok hside
        have hm : ∀ w ∈ ([.methodLink own i r.1, .static r.1, .initialized r.1.cls, .code r.1 r.2.1 r.2.2.1 r.2.2.2.1] : List Cond), w ∈ LT := fun w0 h0 => hw w0 (by
          unfold kwords
          dsimp only
          rw [ho, ho2, hr0]
          exact h0)
        exact k_callS F hC hRc hRs hRf hRl hr0 q2 q3 q6 q1 q4 q5 (hm _ (by simp)) (hm _ (by simp)) (hm _ (by simp)) (hm _ (by simp)) hd h g
end KROWS6
end
section
section KROWS7
variable {p : Program} {l : Launch} {e : Env} {R : Room} {s : State} {m : MethodId} {args : Array Value} {below : List Frame} {meth : Method} {cd : Code} {Q : State → Prop} {D : va_G} {dA : Nat → ClassId} {ρ : Nat → Int32} {A : Nat → Prop} {nL : Nat} {ad0 : Nat → Nat} {n0 : Nat} {cc : ByteArray} {own mname : String} {zs : KZ} {rg : List (Int × Int)}
variable {Rc Rs : Nat} {ms : List KMeth} {call : Nat → List KV → KW → Option (Option KV × KW)} {d : Nat} {prog : List KEnt} {ks : Option Int32} {L : Nat}
/-- a run of the small machine, down to a return -/
theorem k_run (F : kFix p s m args meth cd cc nL own mname D dA A zs ad0) (hr : kRg rg ρ) (hks : ∀ v, ks = some v → ρ 0 &&& 63 = v) (hX : kSc s A ad0 ρ L) (hC : kCalls l ms zs ρ call d) (hRc : Rc ≤ R.cells) (hRs : Rs ≤ R.slots) (hRf : d + 1 ≤ R.frames) (hRl : 40 * d + 40 ≤ R.locals) (hP : ∀ x ∈ prog, kEntOK ms zs own mname cc x) :
    ∀ (n : Nat) (cur : List KEnt) (k : KF) (ig : Instr) (k' : KF), (∀ x ∈ cur, x ∈ prog) → krun call rg ks L nL Rc Rs prog n cur k = some (ig, k') → (∃ x, (k'.1, ig, x) ∈ prog) ∧ kend ig = true ∧ (kGo p l e R s m args below meth cd Q D dA ρ A nL ad0 n0 (k') → kGo p l e R s m args below meth cd Q D dA ρ A nL ad0 n0 (k)) := by
  intro n
  induction n with
  | zero => intro cur k ig k' _ h; cases h
  | succ n ih =>
    intro cur k ig k' hsub h
    obtain ⟨pc, lo, st, w, c, sl⟩ := k
    unfold krun at h
    split at h
    · split at h
      · cases h
      · rename_i x l1 hx
        exact ih _ _ _ _ (fun y hy => kfrom_sub y (by rw [hx]; exact hy)) h
    · rename_i x l1
      cases hb : Nat.beq x.1 pc with
      | false =>
        rw [hb] at h
        exact ih _ _ _ _ (fun y hy => by cases hy) h
      | true =>
        rw [hb] at h
        simp only [cond_true] at h
        have e1 := kb_t hb
        cases he : kend x.2.1 with
        | true =>
          rw [he] at h
          simp only [cond_true] at h
          cases h
          refine ⟨⟨x.2.2, ?_⟩, he, id⟩
          rw [← e1]
          exact hsub x List.mem_cons_self
        | false =>
          rw [he] at h
          simp only [cond_false] at h
          split at h
          · cases h
          · rename_i k1 hk1
            obtain ⟨h1, h2, h3⟩ := ih _ _ _ _ (fun y hy => hsub y (List.mem_cons_of_mem _ hy)) h
            refine ⟨h1, h2, fun g => ?_⟩
            have hx := hP x (hsub x List.mem_cons_self)
            have ex : x = (pc, x.2.1, x.2.2) := by rw [← e1]
            rw [ex] at hx
            exact k_one F hr hks hX hC hRc hRs hRf hRl hx hk1 (h3 g)
end KROWS7
theorem kargs_eq (ad : Nat → Nat) (ρ : Nat → Int32) : ∀ (as : List KV) (i : Nat), lv_args i (as.map (kV ad ρ)) = kL ad ρ (kargs i as) := by
  intro as
  induction as with
  | nil => intro i; rfl
  | cons v t ih =>
    intro i
    show (i, kV ad ρ v) :: lv_args (if (kV ad ρ v).category = 2 then i + 2 else i + 1) (t.map (kV ad ρ)) = (i, kV ad ρ v) :: kL ad ρ (kargs (if kcat v = 2 then i + 2 else i + 1) t)
    rw [kV_cat, ih]
theorem ksl_len (ad : Nat → Nat) (ρ : Nat → Int32) (as : List KV) : (lg_sl (as.map (kV ad ρ))).length = kcats as := by
  induction as with
  | nil => rfl
  | cons v t ih =>
    have h1 : (lg_sl ((v :: t).map (kV ad ρ))).length = (if (kV ad ρ v).category = 2 then [Slot.val (kV ad ρ v), .second] else [.val (kV ad ρ v)]).length + (lg_sl (t.map (kV ad ρ))).length := by
      unfold lg_sl
      rw [List.map_cons, List.flatMap_cons, List.length_append]
    rw [h1, ih]
    have h2 : kcats (v :: t) = kcat v + kcats t := by
      unfold kcats
      rw [List.map_cons, List.sum_cons]
    rw [h2, kV_cat]
    have h3 := lv_cat (kV ad ρ v)
    rw [kV_cat] at h3
    rcases h3 with h3 | h3 <;> rw [h3] <;> rfl
/-- the tables of the small machine are as they should be -/
def kOK (ms : List KMeth) (zs : KZ) : Prop := ∀ (mid : Nat) (r : KMeth), ms[mid]? = some r → (∀ x ∈ r.2.2.2.2.2.2, kEntOK ms zs r.1.cls r.1.name r.2.1 x) ∧ plainName r.1.cls = true
set_option maxHeartbeats 4000000 in
theorem k_met {l : Launch} {ms : List KMeth} {zs : KZ} {ρ : Nat → Int32} {rg : List (Int × Int)} {ks : Option Int32} (hok : kOK ms zs) (hr : kRg rg ρ) (hks : ∀ v, ks = some v → ρ 0 &&& 63 = v) : ∀ d : Nat, kCalls l ms zs ρ (kcall ms rg ks d) d := by
  intro d
  induction d with
  | zero => intro mid r as w ret w' _ h; cases h
  | succ d ih =>
    intro mid r as w ret w' hmid h D dA ad sz
    unfold kcall at h
    rw [hmid] at h
    obtain ⟨y, cc, maxL, rt, mc, msl, prog⟩ := r
    dsimp only at h
    cases hc : Nat.ble (kcats as) maxL && Nat.blt (kfr 0 w) 1000000 with
    | false => rw [hc] at h; cases h
    | true =>
      rw [hc] at h
      simp only [cond_true] at h
      have hc := Bool.and_eq_true_iff.mp hc
      split at h
      · rename_i ig pc2 lo2 st2 w2 c2 s2 hrun
        cases hcs : Nat.ble c2 mc && Nat.ble s2 msl with
        | false => rw [hcs] at h; cases h
        | true =>
          rw [hcs] at h
          simp only [cond_true] at h
          have hcs := Bool.and_eq_true_iff.mp hcs
          split at h
          · rename_i r2 hret
            cases h
            obtain ⟨hP, hpl⟩ := hok mid _ hmid
            refine Met.ofW (cc := cc) (maxL := maxL) (ret := rt) hpl rfl ?_
            intro p e s m args below meth c s₁ B hml hv
            obtain ⟨rfl, hsz, hPw, hK, hD0, hZ, hN⟩ := hv
            have hts := atoms_spec (ws := kwsOf (y, cc, maxL, rt, mc, msl, prog)) B.pre
            have hlocks := B.notSynchronized
            have hrt := B.returns
            subst hsz
            have F : kFix p s m (as.map (kV ad ρ)).toArray meth c cc maxL y.cls y.name D dA (va_A (kW dA ad ρ w) s.heap.size) zs ad := ⟨B.exec, B.bytes, hml, findClass_of_methodNamed B.named, fun w hw => hts w (List.mem_cons_of_mem _ hw), hK, fun q h => Or.inr h, fun q => (name_of_methodNamed B.named B.method).1.trans q, hZ, hN⟩
            have hl := lv_entry (as.map (kV ad ρ)) (n := maxL) (by rw [ksl_len]; exact Nat.ble_eq.mp hc.1)
            rw [lg_entry_eq]
            generalize (lg_sl (as.map (kV ad ρ)) ++ List.replicate (maxL - (lg_sl (as.map (kV ad ρ))).length) Slot.unset).toArray = ls at hl ⊢
            rw [kargs_eq] at hl
            obtain ⟨⟨x, hx⟩, hend, hgo⟩ := k_run (p := p) (e := e) (R := (headSpec (kwsOf (y, cc, maxL, rt, mc, msl, prog)) (krm (d + 1) (y, cc, maxL, rt, mc, msl, prog))).room) (s := s) (m := m) (below := below) (n0 := kfr 0 w)
              (Q := MQ below (kQc D dA ρ ad w ret w' s.heap.size) (as.map (kV ad ρ)).toArray s mc msl (va_A (kW dA ad ρ w) s.heap.size)) F hr hks (L := 0) (fun q => absurd q (Nat.lt_irrefl 0)) ih (Nat.le_refl _) (Nat.le_refl _) (Nat.le_refl _) (by show 40 * d + 40 ≤ 40 * (d + 1); omega) hP kfuel prog _ _ _ (fun _ h => h) hrun
            refine hgo ?_ ad s.heap [] ls ⟨hl, hPw, hD0.self, va_S.rf, Nat.le_refl _, kExt.rf _ _⟩
            intro ad' H locs ls' hat
            obtain ⟨hl', hP', hD', hS', hn', hE'⟩ := hat
            obtain ⟨len, hd, hlen⟩ := kdec_ok (hP _ hx).1
            have fin : ∀ t : State, t.heap = H → s.WarmedH t.vm → ∀ oc : Outcome, oc = .returned (ret.map (kV ad' ρ)) → kQc D dA ρ ad w ret w' s.heap.size (as.map (kV ad ρ)).toArray s oc t := fun t ht hW oc hoc => ⟨⟨ad', hoc, hE', hn', by rw [ht]; exact hP', hD'⟩, hS'.F ht⟩
            refine W.widen (k := mc) (n := msl) (Nat.ble_eq.mp hcs.1) (Nat.ble_eq.mp hcs.2) ?_
            unfold kret at hret
            split at hret
            · rcases hlen with q | q
              · exact absurd q (Nat.succ_ne_zero _)
              · subst q
                split at hret
                · cases hret
                  exact W.vret B.exec B.bytes hrt (fun t ht hW => fin t ht hW _ rfl) hS'.2.2 hd
                · cases hret
            · rcases hlen with q | q
              · exact absurd q (Nat.succ_ne_zero _)
              · subst q
                split at hret
                · rename_i v
                  cases hv : kisI v with
                  | false => rw [hv] at hret; cases hret
                  | true =>
                    rw [hv] at hret; cases hret
                    simp only [List.map_cons, List.map_nil]
                    rw [kisI_eq hv]
                    exact W.iret B.exec B.bytes hrt (fun t ht hW => fin t ht hW _ (by rw [Option.map_some, kisI_eq hv])) hS'.2.2 hd
                · rename_i v
                  cases hv : decide (v = 0) || decide (v = 1) with
                  | false => rw [hv] at hret; cases hret
                  | true =>
                    rw [hv] at hret; cases hret
                    refine W.zret B.exec B.bytes hrt ?_ (fun t ht hW => fin t ht hW _ rfl) hS'.2.2 hd
                    rcases Bool.or_eq_true_iff.mp hv with q | q <;> rw [of_decide_eq_true q] <;> rfl
                · cases hret
            · cases hret
          · cases h
      · cases h
end
section
section KROWS8
variable {p : Program} {l : Launch} {e : Env} {R : Room} {s : State} {m : MethodId} {args : Array Value} {below : List Frame} {meth : Method} {cd : Code} {Q : State → Prop} {D : va_G} {dA : Nat → ClassId} {ρ : Nat → Int32} {A : Nat → Prop} {nL : Nat} {ad0 : Nat → Nat} {n0 : Nat} {cc : ByteArray} {own mname : String} {zs : KZ} {rg : List (Int × Int)}
variable {Rc Rs : Nat} {ms : List KMeth} {call : Nat → List KV → KW → Option (Option KV × KW)} {d : Nat} {prog : List KEnt} {ks : Option Int32} {L : Nat}
/-- a run of the small machine, up to a place -/
def kgoTo (call : Nat → List KV → KW → Option (Option KV × KW)) (rg : List (Int × Int)) (ks : Option Int32) (L nL Rc Rs : Nat) (prog : List KEnt) (stop : Nat) : Nat → KF → Option KF
  | 0, _ => none
  | n + 1, (pc, lo, st, w, c, s) => bif Nat.beq pc stop then some (pc, lo, st, w, c, s) else match kfrom prog pc with
    | [] => none
    | x :: _ => bif Nat.beq x.1 pc then (match kdo x.2.1 call rg ks L nL Rc Rs x.2.2 pc lo st w c s with
      | none => none
      | some k => kgoTo call rg ks L nL Rc Rs prog stop n k) else none
theorem k_goTo (F : kFix p s m args meth cd cc nL own mname D dA A zs ad0) (hr : kRg rg ρ) (hks : ∀ v, ks = some v → ρ 0 &&& 63 = v) (hX : kSc s A ad0 ρ L) (hC : kCalls l ms zs ρ call d) (hRc : Rc ≤ R.cells) (hRs : Rs ≤ R.slots) (hRf : d + 1 ≤ R.frames) (hRl : 40 * d + 40 ≤ R.locals) (hP : ∀ x ∈ prog, kEntOK ms zs own mname cc x) {stop : Nat} :
    ∀ (n : Nat) (k : KF) (k' : KF), kgoTo call rg ks L nL Rc Rs prog stop n k = some k' → (kGo p l e R s m args below meth cd Q D dA ρ A nL ad0 n0 (k') → kGo p l e R s m args below meth cd Q D dA ρ A nL ad0 n0 (k)) := by
  intro n
  induction n with
  | zero => intro k k' h; cases h
  | succ n ih =>
    intro k k' h g
    obtain ⟨pc, lo, st, w, c, sl⟩ := k
    unfold kgoTo at h
    cases hb : Nat.beq pc stop with
    | true => rw [hb] at h; cases h; exact g
    | false =>
      rw [hb] at h
      simp only [cond_false] at h
      split at h
      · cases h
      · rename_i x l1 hx
        cases hb2 : Nat.beq x.1 pc with
        | false => rw [hb2] at h; cases h
        | true =>
          rw [hb2] at h
          simp only [cond_true] at h
          have e1 := kb_t hb2
          split at h
          · cases h
          · rename_i k1 hk1
            have hm := hP x (kfrom_sub x (by rw [hx]; exact List.mem_cons_self))
            have ex : x = (pc, x.2.1, x.2.2) := by rw [← e1]
            rw [ex] at hm
            exact k_one F hr hks hX hC hRc hRs hRf hRl hm hk1 (ih _ _ h g)
end KROWS8
/-! states compared -/
def keV : KV → KV → Bool
  | .inl a, .inl b => decide (a = b)
  | _, _ => false
theorem keV_ok {a b : KV} (h : keV a b = true) : a = b := by
  rcases a with a | a <;> rcases b with b | b <;> first | (rw [of_decide_eq_true h]) | cases h
def keI : KI → KI → Bool
  | .inl a, .inl b => decide (a = b)
  | _, _ => false
theorem keI_ok {a b : KI} (h : keI a b = true) : a = b := by
  rcases a with a | a <;> rcases b with b | b <;> first | (rw [of_decide_eq_true h]) | cases h
def keL {α : Type} (f : α → α → Bool) : List α → List α → Bool
  | [], [] => true
  | a :: l, b :: r => f a b && keL f l r
  | _, _ => false
theorem keL_ok {α : Type} {f : α → α → Bool} (hf : ∀ a b, f a b = true → a = b) : ∀ l r : List α, keL f l r = true → l = r := by
  intro l
  induction l with
  | nil =>
    intro r h
    cases r with
    | nil => rfl
    | cons b r => cases h
  | cons a l ih =>
    intro r h
    cases r with
    | nil => cases h
    | cons b r =>
      have h := Bool.and_eq_true_iff.mp h
      rw [hf a b h.1, ih r h.2]
def keP {α : Type} (f : α → α → Bool) (a b : Nat × α) : Bool := Nat.beq a.1 b.1 && f a.2 b.2
theorem keP_ok {α : Type} {f : α → α → Bool} (hf : ∀ a b, f a b = true → a = b) (a b : Nat × α) (h : keP f a b = true) : a = b := by
  obtain ⟨i, x⟩ := a
  obtain ⟨j, y⟩ := b
  have h := Bool.and_eq_true_iff.mp h
  rw [show i = j from kb_t h.1, show x = y from hf x y h.2]
def keE : KE → KE → Bool
  | .inl (t, n, .inl (l, d)), .inl (t2, n2, .inl (l2, d2)) => Nat.beq t t2 && (Nat.beq n n2 && (keL (keP keI) l l2 && keI d d2))
  | .inl (t, n, .inr (.inl (l, d))), .inl (t2, n2, .inr (.inl (l2, d2))) => Nat.beq t t2 && (Nat.beq n n2 && (keL (keP (fun a b => decide (a = b))) l l2 && decide (d = d2)))
  | .inl (t, n, .inr (.inr l)), .inl (t2, n2, .inr (.inr l2)) => Nat.beq t t2 && (Nat.beq n n2 && keL (keP (fun a b => decide (a = b))) l l2)
  | .inr (c, fs), .inr (c2, fs2) => Nat.beq c c2 && keL keV fs fs2
  | _, _ => false
theorem keE_ok (a b : KE) (h : keE a b = true) : a = b := by
  rcases a with ⟨t, n, (⟨l, d⟩ | ⟨l, d⟩ | l)⟩ | ⟨c, fs⟩ <;> rcases b with ⟨t2, n2, (⟨l2, d2⟩ | ⟨l2, d2⟩ | l2)⟩ | ⟨c2, fs2⟩ <;> try (cases h; done)
  · have h : (Nat.beq t t2 && (Nat.beq n n2 && (keL (keP keI) l l2 && keI d d2))) = true := h
    simp only [Bool.and_eq_true] at h
    obtain ⟨h1, h2, h3, h4⟩ := h
    rw [show t = t2 from kb_t h1, show n = n2 from kb_t h2, keL_ok (keP_ok (fun a b => keI_ok)) _ _ h3, keI_ok h4]
  · have h : (Nat.beq t t2 && (Nat.beq n n2 && (keL (keP (fun a b => decide (a = b))) l l2 && decide (d = d2)))) = true := h
    simp only [Bool.and_eq_true] at h
    obtain ⟨h1, h2, h3, h4⟩ := h
    rw [show t = t2 from kb_t h1, show n = n2 from kb_t h2, keL_ok (keP_ok (fun a b q => of_decide_eq_true q)) _ _ h3, of_decide_eq_true h4]
  · have h : (Nat.beq t t2 && (Nat.beq n n2 && keL (keP (fun a b => decide (a = b))) l l2)) = true := h
    simp only [Bool.and_eq_true] at h
    obtain ⟨h1, h2, h3⟩ := h
    rw [show t = t2 from kb_t h1, show n = n2 from kb_t h2, keL_ok (keP_ok (fun a b q => of_decide_eq_true q)) _ _ h3]
  · have h : (Nat.beq c c2 && keL keV fs fs2) = true := h
    simp only [Bool.and_eq_true] at h
    rw [show c = c2 from kb_t h.1, keL_ok (fun a b => keV_ok) _ _ h.2]
def keF (a b : KF) : Bool := Nat.beq a.1 b.1 && (keL (keP keV) a.2.1 b.2.1 && (keL keV a.2.2.1 b.2.2.1 && (keL (keL keE) a.2.2.2.1 b.2.2.2.1 && (Nat.beq a.2.2.2.2.1 b.2.2.2.2.1 && Nat.beq a.2.2.2.2.2 b.2.2.2.2.2))))
theorem keF_ok (a b : KF) (h : keF a b = true) : a = b := by
  obtain ⟨p1, l1, s1, w1, c1, n1⟩ := a
  obtain ⟨p2, l2, s2, w2, c2, n2⟩ := b
  unfold keF at h
  simp only [Bool.and_eq_true] at h
  obtain ⟨h1, h2, h3, h4, h5, h6⟩ := h
  rw [show p1 = p2 from kb_t h1, show l1 = l2 from keL_ok (keP_ok (fun a b => keV_ok)) _ _ h2, show s1 = s2 from keL_ok (fun a b => keV_ok) _ _ h3, show w1 = w2 from keL_ok (keL_ok keE_ok) _ _ h4, show c1 = c2 from kb_t h5, show n1 = n2 from kb_t h6]
def keO (a : Option KF) (b : KF) : Bool := match a with
  | some x => keF x b
  | none => false
theorem keO_ok {a : Option KF} {b : KF} (h : keO a b = true) : a = some b := by
  unfold keO at h
  split at h
  · rw [keF_ok _ _ h]
  · cases h
end
section
/-! ===== BEGIN words of one list among another's, by their places ===== -/
theorem goodIn_r {big : List Cond} (ws : List Cond) (ps : List Nat) (hp : ws = ps.filterMap (fun i => big[i]?)) (h : ws.all goodWord = true) : GoodIn big ws := by
  intro w hw
  have h1 := List.all_eq_true.mp h w hw
  rw [hp] at hw
  obtain ⟨i, -, hi⟩ := List.mem_filterMap.mp hw
  have hm : w ∈ big := by first | exact List.mem_of_getElem? hi | exact List.getElem?_mem hi
  exact ⟨hm, good_of_word h1⟩
theorem goodIn_app {big a b : List Cond} (ha : GoodIn big a) (hb : GoodIn big b) : GoodIn big (a ++ b) := fun w h => (List.mem_append.mp h).elim (ha w) (hb w)
theorem goodIn_ca {big a b : List Cond} {c : Cond} (ha : GoodIn big (c :: a)) (hb : GoodIn big b) : GoodIn big (c :: (a ++ b)) := fun w h => (List.mem_cons.mp h).elim (fun e => ha w (List.mem_cons.mpr (Or.inl e))) (fun h => (List.mem_append.mp h).elim (fun h => ha w (List.mem_cons.mpr (Or.inr h))) (hb w))
theorem goodIn_sub {big ws : List Cond} (hm : ∀ w ∈ ws, w ∈ big) (h : ws.all goodWord = true) : GoodIn big ws := fun w hw => ⟨hm w hw, good_of_word (List.all_eq_true.mp h w hw)⟩
/-! ===== END ===== -/
/-! ===== BEGIN exceptions that leave a method, and their catching by the caller (launches without stack traces) ===== -/
section VXA
/-! The laws vx_back, vx_callV, vx_callS, vx_callSW, vx_throw0, vx_throwS follow proofs of the library, with one case more: JvmDerived/Free/Laws.lean (Back.of_free), Shelf42/LK1.lean (callV, callS), Shelf/KitTraced.lean (throwNew0V, throwNewS). -/
/-- where a method has thrown q: the class by its name, the cell, what was written, the world -/
def vx_T (XC : String → State → State → Prop) (st : State) (q : Addr) (t : State) (mc ms : Nat) (free : Addr → Prop) : Prop :=
  ∃ (E : String) (ce : Cell) (L : List Loc), XC E st t ∧ t.heap[q]? = some ce ∧ ce.vm = .none ∧ st.vm.findClass E = some ce.cls ∧ st.WarmedH t.vm ∧ st.sameButNew ({ t with vm := st.vm } : State) L mc ms ∧ ∀ z ∈ L, free z.base
def vx_Q (Qc : Array Value → State → Outcome → State → Prop) (XC : String → State → State → Prop) (mc ms : Nat) (free : Addr → Prop) : Array Value → State → Outcome → State → Prop := fun a st o t =>
  (Qc a st o t ∧ ∃ L, FrameEnd st o t L mc ms ∧ ∀ q ∈ L, free q.base) ∨ ∃ q, o = .threw q ∧ vx_T XC st q t mc ms free
/-- a callee that returns or throws -/
def vx_Met (l : Launch) (y : MethodName) (ws : List Cond) (rm : Room) (Pc : Array Value → State → Prop) (Qc : Array Value → State → Outcome → State → Prop) (XC : String → State → State → Prop) (mc ms : Nat) (free : Addr → Prop) : Prop :=
  MetFree l y (headSpec ws rm) Pc (fun _ _ _ _ _ => True) (vx_Q Qc XC mc ms free)
def vx_Post (XC : String → State → State → Prop) (mc ms : Nat) (free : Addr → Prop) : Pt → Array Value → Addr → Pt → Prop := fun A a q B =>
  ∃ (g : JFrame) (mk : MethodId) (t : State) (L : List Loc) (E : String) (ce : Cell), B.U.heap = t.heap ∧ B.U.vm = t.vm ∧ XC E (A.U.calling g mk a) t ∧ t.heap[q]? = some ce ∧ ce.vm = .none ∧ A.U.vm.findClass E = some ce.cls ∧ B.locs = A.locs ++ L ∧ (∀ z ∈ L, free z.base) ∧ B.cells = A.cells + mc ∧ B.slots = A.slots + ms
def vx_Back (l : Launch) (R : Room) (p : Program) (e : Env) (below : List Frame) (s : State) (sargs : Array Value) (y : MethodName) (len W9 : Nat)
    (Pre : Pt → Array Value → Prop) (Post : Pt → Array Value → Option Value → Pt → Prop) (PostX : Pt → Array Value → Addr → Pt → Prop) : Prop :=
  ∀ (m : MethodId) (meth : Method) (c : Code) (A : Pt) (g : JFrame) (ig : Instr) (mk : MethodId) (a : Array Value),
    Stand p l e R s m sargs below meth c A.U A.locs A.cells A.slots → g.method = m → g.locals.size = c.maxLocals → decode c.code g.pc = .ok (ig, len) →
    2 * g.monitorRoom + (g.stack.map fun v => v.category).sum ≤ W9 → A.U.methodNamed? y = some mk → Pre A a →
    (∃ (v : Option Value) (B : Pt), Stand p l e R s m sargs below meth c B.U B.locs B.cells B.slots ∧ Post A a v B ∧
      Steps p.tables e below (doInvoke e (A.U.setTop g) [] mk a).1 (B.U.setTop { g with pc := g.pc + len, stack := v.toList ++ g.stack })) ∨
    (∃ (q : Addr) (B : Pt), Stand p l e R s m sargs below meth c B.U B.locs B.cells B.slots ∧ PostX A a q B ∧
      Steps p.tables e below (doInvoke e (A.U.setTop g) [] mk a).1 ((B.U.setTop g).pushFrame (.throwing q)))
section Payer
variable {l : Launch} {R : Room} {p : Program} {e : Env} {below : List Frame} {s : State} {sargs : Array Value} {y : MethodName} {len W9 : Nat}
theorem vx_back {ws : List Cond} {rm : Room} {Pc : Array Value → State → Prop} {Qc : Array Value → State → Outcome → State → Prop} {XC : String → State → State → Prop} {mc ms : Nat} {free : Addr → Prop} {bytes : ByteArray} {maxL : Nat} {ret : Option FieldType}
    (hM : vx_Met l y ws rm Pc Qc XC mc ms free) (hblind : FrameBlind Pc) (hrc : rm.cells = mc) (hrs : rm.slots = ms)
    (hframes : rm.frames + 1 ≤ R.frames) (hlocals : W9 + (maxL + 11) + rm.locals ≤ R.locals)
    (hws : ∀ w ∈ ws, ∀ a' U, s.WarmedH U.vm → w.before a' U = true) (hcode : Cond.code y bytes maxL ret ∈ ws) (hinit : ∀ a' U, s.WarmedH U.vm → (Cond.initialized y.cls).before a' U = true) :
    vx_Back l R p e below s sargs y len W9 (PreOf R mc ms Pc) (PostOf Qc mc ms free) (vx_Post XC mc ms free) := by
  intro m meth c A g ig mk a X hg hsize hdg hW hn hp
  have h1 : (headSpec ws rm).pre.before a A.U = true := atoms_intro fun w hw => hws w hw _ _ X.warmed
  have h2 : (Cond.code y bytes maxL ret).before a A.U = true := hws _ hcode _ _ X.warmed
  have h3 : (Cond.initialized y.cls).before a A.U = true := hinit _ _ X.warmed
  have h4 : A.cells + (headSpec ws rm).room.cells ≤ R.cells := by rw [show (headSpec ws rm).room.cells = mc from hrc]; exact hp.1
  have h5 : A.slots + (headSpec ws rm).room.slots ≤ R.slots := by rw [show (headSpec ws rm).room.slots = ms from hrs]; exact hp.2.1
  have hPc : Pc a (A.U.calling g mk a) := hblind _ _ _ _ hp.2.2
  obtain ⟨U, Ls, c0, s0⟩ := A
  dsimp only [Pt.U, Pt.locs, Pt.cells, Pt.slots] at h1 h2 h3 h4 h5 X hn hPc ⊢
  obtain ⟨methY, cY, hmY, hcY, -, hlY, -, -, -, -⟩ := Cond.code_spec hn h2
  obtain ⟨kY, hkY, -⟩ := className_of_methodNamed hn
  have hinitY : kY.init = .initialized := Cond.initialized_spec (findClass_of_methodNamed hn) hkY h3
  have h : At U g.method c below := by rw [hg]; exact X.here
  have hlocals9 : W9 + (maxL + 11) + (headSpec ws rm).room.locals ≤ R.locals := hlocals
  have happ : (headSpec ws rm).appliesLoose y e.platform (U.calling g mk a) = true :=
    Spec.appliesLoose_calling (g := g) h hdg hn hkY hinitY
      (X.room_calling (g := g) (R' := (headSpec ws rm).room) hsize hmY hcY hframes (by rw [hlY]; omega) h4 h5) h1
  obtain ⟨mid, hmid⟩ := h.above
  have hfr : (U.setTop g).frames = (.java g :: mid) ++ below := by rw [State.frames_setTop' g h.top, hmid]; rfl
  obtain ⟨o, s₂, hsteps, -, hend, hq⟩ := Steps.callFree hM p X.admits X.cas X.clock (acts := []) hfr happ hPc trivial
  have hq' : vx_Q Qc XC mc ms free a (U.calling g mk a) o s₂ := hq
  rw [State.frames_setTop' g h.top] at hend
  obtain ⟨g₀, hg0⟩ := Option.isSome_iff_exists.mp h.top
  obtain ⟨r, hr⟩ := State.topJava?_eq_some.mp hg0
  have hr' : (({ U with heap := s₂.heap, slotsUsed := s₂.slotsUsed } : State).setVm s₂.vm).frames = .java g₀ :: r := hr
  rcases hq' with ⟨hqc, L, hfe, hL⟩ | ⟨q, rfl, E, ce, L, hx, hce, hcv, hcl, hW₂, hsm, hL⟩
  · obtain ⟨⟨v, rfl⟩, hW₂, e2, q2, q3, q4, q5, q6⟩ := id hfe
    have e3 : s₂ = ({ (U.calling g mk a).setFrames s₂.frames with heap := s₂.heap, slotsUsed := s₂.slotsUsed } : State).setVm s₂.vm := by
      have : s₂ = ({ s₂ with vm := (U.calling g mk a).vm } : State).setVm s₂.vm := rfl
      rw [e2] at this
      exact this
    obtain ⟨c₂, i₂, len₂, hc₂, hd₂, hf₂⟩ := hend
    have hW' : U.WarmedH s₂.vm := hW₂
    have hcc : c₂ = c := by
      have h1 : s₂.code? g.method = U.code? g.method := by
        rw [State.code?_eq, State.code?_eq, hW'.alike.method?]
      exact Option.some.inj (hc₂.symm.trans (h1.trans h.code))
    subst hcc
    have hlen : len₂ = len := by rw [hdg] at hd₂; cases hd₂; rfl
    subst hlen
    have hs₂ : s₂ = (({ U with heap := s₂.heap, slotsUsed := s₂.slotsUsed } : State).setVm s₂.vm).setTop { g with pc := g.pc + len₂, stack := v.toList ++ g.stack } := by
      refine e3.trans ?_
      rw [hf₂, State.calling_eq h.top, State.setFrames_setFrames, State.setTop_of_frames _ hr', hr]
      rfl
    have hsame : U.sameButNew ({ U with heap := s₂.heap, slotsUsed := s₂.slotsUsed } : State) L mc ms := by
      refine ⟨?_, q2, q3, q4, q5, q6⟩
      obtain ⟨t, ht, -⟩ := State.frames_cons hr
      show ({ U with heap := s₂.heap, slotsUsed := s₂.slotsUsed } : State) = { U.setFrames U.frames with heap := s₂.heap, slotsUsed := s₂.slotsUsed }
      rw [State.setFrames_self ht]
    subst hg
    refine Or.inl ⟨v, ⟨(({ U with heap := s₂.heap, slotsUsed := s₂.slotsUsed } : State).setVm s₂.vm), Ls ++ L, c0 + mc, s0 + ms⟩,
      ⟨X.admits, X.cas, X.clock, X.frames, X.room, X.hears, X.method, X.code, (X.here.setHeapUsed s₂.heap s₂.slotsUsed).setVm hW'.alike, X.tail, State.WarmedH.trans X.warmed hW', X.limits, X.bytes, X.same.trans (hsame.setVm s.vm)⟩,
      ⟨g, mk, s₂, L, rfl, rfl, hqc, rfl, hL, rfl, rfl⟩, ?_⟩
    show Steps p.tables e below _ ((({ U with heap := s₂.heap, slotsUsed := s₂.slotsUsed } : State).setVm s₂.vm).setTop { g with pc := g.pc + len₂, stack := v.toList ++ g.stack })
    rw [← hs₂]
    exact hsteps
  · obtain ⟨e2, q2, q3, q4, q5, q6⟩ := id hsm
    have e3 : s₂ = ({ (U.calling g mk a).setFrames s₂.frames with heap := s₂.heap, slotsUsed := s₂.slotsUsed } : State).setVm s₂.vm := by
      have : s₂ = ({ s₂ with vm := (U.calling g mk a).vm } : State).setVm s₂.vm := rfl
      rw [e2] at this
      exact this
    have hf₂ : s₂.frames = .throwing q :: .java g :: U.frames.tail := hend
    have hW' : U.WarmedH s₂.vm := hW₂
    have hs₂ : s₂ = ((({ U with heap := s₂.heap, slotsUsed := s₂.slotsUsed } : State).setVm s₂.vm).setTop g).pushFrame (.throwing q) := by
      refine e3.trans ?_
      rw [hf₂, State.calling_eq h.top, State.setFrames_setFrames, State.pushFrame, State.frames_setTop _ hr', State.setTop_of_frames _ hr', State.setFrames_setFrames, hr]
      rfl
    have hsame : U.sameButNew ({ U with heap := s₂.heap, slotsUsed := s₂.slotsUsed } : State) L mc ms := by
      refine ⟨?_, q2, q3, q4, q5, q6⟩
      obtain ⟨t, ht, -⟩ := State.frames_cons hr
      show ({ U with heap := s₂.heap, slotsUsed := s₂.slotsUsed } : State) = { U.setFrames U.frames with heap := s₂.heap, slotsUsed := s₂.slotsUsed }
      rw [State.setFrames_self ht]
    subst hg
    refine Or.inr ⟨q, ⟨(({ U with heap := s₂.heap, slotsUsed := s₂.slotsUsed } : State).setVm s₂.vm), Ls ++ L, c0 + mc, s0 + ms⟩,
      ⟨X.admits, X.cas, X.clock, X.frames, X.room, X.hears, X.method, X.code, (X.here.setHeapUsed s₂.heap s₂.slotsUsed).setVm hW'.alike, X.tail, State.WarmedH.trans X.warmed hW', X.limits, X.bytes, X.same.trans (hsame.setVm s.vm)⟩,
      ⟨g, mk, s₂, L, E, ce, rfl, rfl, hx, hce, hcv, hcl, rfl, hL, rfl, rfl⟩, ?_⟩
    show Steps p.tables e below _ (((({ U with heap := s₂.heap, slotsUsed := s₂.slotsUsed } : State).setVm s₂.vm).setTop g).pushFrame (.throwing q))
    rw [← hs₂]
    exact hsteps
end Payer
section Calls
variable {p : Program} {l : Launch} {e : Env} {R : Room} {s : State} {m : MethodId} {args : Array Value} {below : List Frame} {meth : Method} {c : Code} {T : State} {locs : List Loc} {cells slots : Nat}
theorem vx_callV (X : Stand p l e R s m args below meth c T locs cells slots) (hexec : p.tables.exec = Jvm.exec) {own C : String} {index : Nat} {y : MethodName} {bytes : ByteArray} {maxL : Nat} {ret : Option FieldType}
    (hown : s.vm.findClass own = some m.cls) (hlink : (Cond.methodLink own index y).before args s = true) (hinst : (Cond.instanceMethod y).before args s = true) (hsel : (Cond.selects C y y).before args s = true)
    (hcode : (Cond.code y bytes maxL ret).before args s = true) (hy : y.cls ≠ "java/lang/invoke/MethodHandle" ∧ y.cls ≠ "java/lang/invoke/VarHandle")
    {W9 : Nat} {Pre : Pt → Array Value → Prop} {Post : Pt → Array Value → Option Value → Pt → Prop} {PostX : Pt → Array Value → Addr → Pt → Prop} (hK : vx_Back l R p e below s args y 3 W9 Pre Post PostX)
    {b : Addr} {cellB : Cell} (hcell : T.heap[b]? = some cellB) (hobj : cellB.vm.isStatics = false) (hcls : s.vm.findClass C = some cellB.cls)
    {g : JFrame} (hg : g.method = m) (hsize : g.locals.size = c.maxLocals) {argsL rest : List Value} (hlen : ∀ sig, parseMethodDescriptor y.desc = some sig → argsL.length = sig.parameters.length)
    (hstack : g.stack = argsL.reverse ++ .ref b :: rest) (hW : 2 * g.monitorRoom + (rest.map fun v => v.category).sum ≤ W9) (hdg : decode c.code g.pc = .ok (.invokevirtual index, 3))
    (hpre : ∀ vm₁, s.WarmedH vm₁ → Pre ⟨T.setVm vm₁, locs, cells, slots⟩ (Value.ref b :: argsL).toArray) :
    (∃ (v : Option Value) (vm₁ : Vm) (B : Pt), s.WarmedH vm₁ ∧ Stand p l e R s m args below meth c B.U B.locs B.cells B.slots ∧ Post ⟨T.setVm vm₁, locs, cells, slots⟩ (Value.ref b :: argsL).toArray v B ∧
      ∀ target, Steps p.tables e below (B.U.setTop { g with pc := g.pc + 3, stack := v.toList ++ rest }) target → Steps p.tables e below (T.setTop g) target) ∨
    (∃ (q : Addr) (vm₁ : Vm) (B : Pt), s.WarmedH vm₁ ∧ Stand p l e R s m args below meth c B.U B.locs B.cells B.slots ∧ PostX ⟨T.setVm vm₁, locs, cells, slots⟩ (Value.ref b :: argsL).toArray q B ∧
      Steps p.tables e below (T.setTop g) ((B.U.setTop { g with stack := rest }).pushFrame (.throwing q))) := by
  obtain ⟨mk, methM, hnamed, hmethM, hstM, habM⟩ := Cond.instanceMethod_spec hinst
  obtain ⟨methM', cM, hmethM', -, -, -, -, -, -, hsigM⟩ := Cond.code_spec hnamed hcode
  cases hmethM.symm.trans hmethM'
  obtain ⟨c2, r2, m2, q1, q2, q3, q4, kP, hkP, hkPi⟩ := Cond.selects_spec hsel
  cases hcls.symm.trans q1
  cases (State.methodFound?_of_named hnamed hy).symm.trans q2
  cases hnamed.symm.trans q3
  have hselP : selectMethod e.platform s.vm cellB.cls mk = .method mk := by rw [Launch.admits_selectMethod X.admits]; exact q4
  obtain ⟨vm₁, X₁, hstep₁⟩ := X.invokevirtual hexec hown hlink hnamed hmethM hstM hkP hkPi hy (a := b) (cell := cellB) hcell
    (fun z h => by rw [h] at hobj; cases hobj) hselP hmethM habM hkP hkPi (g := g) hg (argsL := argsL) (rest := rest) (hlen _ hsigM) hstack hdg
  rcases hK m meth c ⟨T.setVm vm₁, locs, cells, slots⟩ { g with stack := rest } (.invokevirtual index) mk (Value.ref b :: argsL).toArray X₁ hg hsize hdg hW (X₁.named hnamed) (hpre vm₁ X₁.warmed) with ⟨v, B, X', hpost, hsteps⟩ | ⟨q, B, X', hpost, hsteps⟩
  · exact Or.inl ⟨v, vm₁, B, X₁.warmed, X', hpost, fun target h => hstep₁ _ fun acts => by rw [doInvoke_state]; exact hsteps.trans h⟩
  · exact Or.inr ⟨q, vm₁, B, X₁.warmed, X', hpost, hstep₁ _ fun acts => by rw [doInvoke_state]; exact hsteps⟩
theorem vx_callS (X : Stand p l e R s m args below meth c T locs cells slots) (hexec : p.tables.exec = Jvm.exec) {own : String} {index : Nat} {y : MethodName} {bytes : ByteArray} {maxL : Nat} {ret : Option FieldType}
    (hown : s.vm.findClass own = some m.cls) (hlink : (Cond.methodLink own index y).before args s = true) (hstat : (Cond.static y).before args s = true) (hinit : (Cond.initialized y.cls).before args s = true)
    (hcode : (Cond.code y bytes maxL ret).before args s = true) (hy : y.cls ≠ "java/lang/invoke/MethodHandle" ∧ y.cls ≠ "java/lang/invoke/VarHandle")
    {W9 : Nat} {Pre : Pt → Array Value → Prop} {Post : Pt → Array Value → Option Value → Pt → Prop} {PostX : Pt → Array Value → Addr → Pt → Prop} (hK : vx_Back l R p e below s args y 3 W9 Pre Post PostX)
    {g : JFrame} (hg : g.method = m) (hsize : g.locals.size = c.maxLocals) {argsL rest : List Value} (hlen : ∀ sig, parseMethodDescriptor y.desc = some sig → argsL.length = sig.parameters.length)
    (hstack : g.stack = argsL.reverse ++ rest) (hW : 2 * g.monitorRoom + (rest.map fun v => v.category).sum ≤ W9) (hdg : decode c.code g.pc = .ok (.invokestatic index, 3))
    (hpre : ∀ vm₁, s.WarmedH vm₁ → Pre ⟨T.setVm vm₁, locs, cells, slots⟩ argsL.toArray) :
    (∃ (v : Option Value) (vm₁ : Vm) (B : Pt), s.WarmedH vm₁ ∧ Stand p l e R s m args below meth c B.U B.locs B.cells B.slots ∧ Post ⟨T.setVm vm₁, locs, cells, slots⟩ argsL.toArray v B ∧
      ∀ target, Steps p.tables e below (B.U.setTop { g with pc := g.pc + 3, stack := v.toList ++ rest }) target → Steps p.tables e below (T.setTop g) target) ∨
    (∃ (q : Addr) (vm₁ : Vm) (B : Pt), s.WarmedH vm₁ ∧ Stand p l e R s m args below meth c B.U B.locs B.cells B.slots ∧ PostX ⟨T.setVm vm₁, locs, cells, slots⟩ argsL.toArray q B ∧
      Steps p.tables e below (T.setTop g) ((B.U.setTop { g with stack := rest }).pushFrame (.throwing q))) := by
  obtain ⟨mk, hnamed⟩ := Cond.code_named hcode
  obtain ⟨methM, cM, hmethM, -, -, -, -, -, -, hsigM⟩ := Cond.code_spec hnamed hcode
  have hstatic : methM.isStatic = true := Cond.static_spec hnamed hmethM hstat
  obtain ⟨kP, hkP, -⟩ := className_of_methodNamed hnamed
  have hinitP : kP.init = .initialized := Cond.initialized_spec (findClass_of_methodNamed hnamed) hkP hinit
  obtain ⟨vm₁, X₁, hstep₁⟩ := X.invokestatic hexec hown hlink hnamed hmethM hstatic hkP hinitP hy (g := g) hg (argsL := argsL) (rest := rest) (hlen _ hsigM) hstack hdg
  rcases hK m meth c ⟨T.setVm vm₁, locs, cells, slots⟩ { g with stack := rest } (.invokestatic index) mk argsL.toArray X₁ hg hsize hdg hW (X₁.named hnamed) (hpre vm₁ X₁.warmed) with ⟨v, B, X', hpost, hsteps⟩ | ⟨q, B, X', hpost, hsteps⟩
  · exact Or.inl ⟨v, vm₁, B, X₁.warmed, X', hpost, fun target h => hstep₁ _ fun acts => by rw [doInvoke_state]; exact hsteps.trans h⟩
  · exact Or.inr ⟨q, vm₁, B, X₁.warmed, X', hpost, hstep₁ _ fun acts => by rw [doInvoke_state]; exact hsteps⟩
end Calls
theorem vx_cls {s : State} {T : State} {vm₁ : Vm} {E : String} {k : ClassId} (hW : s.WarmedH vm₁) (h : (T.setVm vm₁).vm.findClass E = some k) : s.vm.findClass E = some k := by
  have h1 : vm₁.findClass E = some k := h
  rw [hW.alike.findClass] at h1
  exact h1
/-- the method's frame g, with q thrown over it -/
def vx_W (p : Program) (l : Launch) (e : Env) (R : Room) (s : State) (m : MethodId) (args : Array Value) (below : List Frame) (meth : Method) (c : Code) (H : Heap) (locs : List Loc) (cells slots : Nat) (Q : State → Prop) (g : JFrame) (q : Addr) : Prop :=
  ∀ T : State, T.heap = H → Stand p l e R s m args below meth c T locs cells slots → ∃ t, Steps p.tables e below ((T.setTop g).pushFrame (.throwing q)) t ∧ Q t
def vx_Run (p : Program) (l : Launch) (e : Env) (R : Room) (s : State) (m : MethodId) (args : Array Value) (below : List Frame) (meth : Method) (c : Code) (H : Heap) (locs : List Loc) (cells slots mc ms : Nat) (g : JFrame) (rest : List Value) (Qa : State → Outcome → State → Prop) (XC : String → State → State → Prop) (free : Addr → Prop) : Prop :=
  ∀ T : State, T.heap = H → Stand p l e R s m args below meth c T locs cells slots →
    (∃ (v : Option Value) (st₀ t T' : State) (L : List Loc), st₀.heap = H ∧ Stand p l e R s m args below meth c T' (locs ++ L) (cells + mc) (slots + ms) ∧ (∀ q ∈ L, free q.base) ∧ T'.heap = t.heap ∧ T'.vm = t.vm ∧ Qa st₀ (.returned v) t ∧
      Goes p e below T g T' { g with pc := g.pc + 3, stack := v.toList ++ rest }) ∨
    (∃ (q : Addr) (st₀ t T' : State) (L : List Loc) (E : String) (ce : Cell), st₀.heap = H ∧ Stand p l e R s m args below meth c T' (locs ++ L) (cells + mc) (slots + ms) ∧ (∀ z ∈ L, free z.base) ∧ T'.heap = t.heap ∧ T'.vm = t.vm ∧ XC E st₀ t ∧ t.heap[q]? = some ce ∧ ce.vm = .none ∧ s.vm.findClass E = some ce.cls ∧
      Steps p.tables e below (T.setTop g) ((T'.setTop { g with stack := rest }).pushFrame (.throwing q)))
def vx_X {S : Type} (px : S → Prop) (B : String → S → State → Prop) (A : Nat → Prop) : String → State → State → Prop := fun E st t => ∃ u : S, px u ∧ B E u t ∧ va_F A st t
section Runs
variable {p : Program} {l : Launch} {e : Env} {R : Room} {s : State} {m : MethodId} {args : Array Value} {below : List Frame} {meth : Method} {c : Code} {H : Heap} {locs : List Loc} {cells slots : Nat}
variable {y : MethodName} {bytes cc : ByteArray} {maxL nL mc ms n index : Nat} {ret : Option FieldType} {ws : List Cond} {rm : Room} {Pc : Array Value → State → Prop} {Qc : Array Value → State → Outcome → State → Prop} {XC : String → State → State → Prop} {free : Addr → Prop} {Ts : List Cond} {own C : String} {b : Addr} {As rest : List Value} {g : JFrame}
theorem vx_callBack (cb : CallB R s args own index y bytes maxL ret ws rm mc ms n) (hM : vx_Met l y ws rm Pc Qc XC mc ms free) (hbl : FrameBlind Pc) : vx_Back l R p e below s args y 3 8 (PreOf R mc ms Pc) (PostOf Qc mc ms free) (vx_Post XC mc ms free) := by
  obtain ⟨hrc, hrs, hfr, hlo, hws, hcw, -, hini, -⟩ := cb
  exact vx_back (bytes := bytes) (maxL := maxL) (ret := ret) hM hbl hrc hrs hfr hlo hws hcw (fun a' U hW => word_at hW (Or.inl (by first | rfl | simp [Cond.onTables, Cond.keeps, Cond.steady])) hini)
theorem vx_runV (S : CallFix p m c cc nL s args Ts own) (hM : vx_Met l y ws rm Pc Qc XC mc ms free) (cw : CallW R s args own C index y bytes maxL ret ws rm mc ms n) (hp : PreV s H C b Pc As)
    (hg : g.method = m) (hn : As.length = n) (hsize : g.locals.size = nL) (hstack : g.stack = As.reverse ++ .ref b :: rest) (hW : 2 * g.monitorRoom + (rest.map fun v => v.category).sum ≤ 8) (hdg : decode cc g.pc = .ok (.invokevirtual index, 3)) (hf : cells + mc ≤ R.cells ∧ slots + ms ≤ R.slots) :
    vx_Run p l e R s m args below meth c H locs cells slots mc ms g rest (Qc (Value.ref b :: As).toArray) XC free := by
  have hK : vx_Back l R p e below s args y 3 8 (PreOf R mc ms Pc) (PostOf Qc mc ms free) (vx_Post XC mc ms free) := vx_callBack cw.1 hM hp.1
  obtain ⟨⟨-, -, -, -, -, -, hcode, -, hy, hlen, hl⟩, hin, hse⟩ := cw
  obtain ⟨hx, hb, hml, ho, -⟩ := S
  obtain ⟨-, ⟨cellB, hcB, hoB, hclB⟩, hPc⟩ := hp
  intro T hT X
  rcases vx_callV X hx (C := C) (bytes := bytes) (maxL := maxL) (ret := ret) ho hl hin hse hcode hy hK (by rw [hT]; exact hcB) hoB hclB hg (hsize.trans hml.symm) (argsL := As) (rest := rest) (fun sig h => hn.trans (hlen sig h)) hstack hW (by rw [hb]; exact hdg)
    (fun vm₁ hW₁ => ⟨hf.1, hf.2, hPc (T.setVm vm₁) hT hW₁⟩) with ⟨v, vm₁, ⟨U', l2, c2, s2⟩, hW₁, X', ⟨g', mk, t, L, e1, e2, hq, h1, hL, h2, h3⟩, st⟩ | ⟨q, vm₁, ⟨U', l2, c2, s2⟩, hW₁, X', ⟨g', mk, t, L, E, ce, e1, e2, hq, hce, hcv, hcl, h1, hL, h2, h3⟩, st⟩
  · dsimp only [Pt.U, Pt.locs, Pt.cells, Pt.slots] at X' e1 e2 h1 h2 h3 st
    subst h1; subst h2; subst h3
    exact Or.inl ⟨v, (T.setVm vm₁).calling g' mk (Value.ref b :: As).toArray, t, U', L, hT, X', hL, e1, e2, hq, st⟩
  · dsimp only [Pt.U, Pt.locs, Pt.cells, Pt.slots] at X' e1 e2 h1 h2 h3 st hcl
    subst h1; subst h2; subst h3
    exact Or.inr ⟨q, (T.setVm vm₁).calling g' mk (Value.ref b :: As).toArray, t, U', L, E, ce, hT, X', hL, e1, e2, hq, hce, hcv, vx_cls hW₁ hcl, st⟩
theorem vx_runS (S : CallFix p m c cc nL s args Ts own) (hM : vx_Met l y ws rm Pc Qc XC mc ms free) (cw : CallB R s args own index y bytes maxL ret ws rm mc ms n ∧ (Cond.static y).before args s = true) (hp : PreS s H Pc As)
    (hg : g.method = m) (hn : As.length = n) (hsize : g.locals.size = nL) (hstack : g.stack = As.reverse ++ rest) (hW : 2 * g.monitorRoom + (rest.map fun v => v.category).sum ≤ 8) (hdg : decode cc g.pc = .ok (.invokestatic index, 3)) (hf : cells + mc ≤ R.cells ∧ slots + ms ≤ R.slots) :
    vx_Run p l e R s m args below meth c H locs cells slots mc ms g rest (Qc As.toArray) XC free := by
  have hK : vx_Back l R p e below s args y 3 8 (PreOf R mc ms Pc) (PostOf Qc mc ms free) (vx_Post XC mc ms free) := vx_callBack cw.1 hM hp.1
  obtain ⟨⟨-, -, -, -, -, -, hcode, hini, hy, hlen, hl⟩, hstt⟩ := cw
  obtain ⟨hx, hb, hml, ho, -⟩ := S
  intro T hT X
  rcases vx_callS X hx (bytes := bytes) (maxL := maxL) (ret := ret) ho hl hstt hini hcode hy hK hg (hsize.trans hml.symm) (argsL := As) (rest := rest) (fun sig h => hn.trans (hlen sig h)) hstack hW (by rw [hb]; exact hdg)
    (fun vm₁ hW₁ => ⟨hf.1, hf.2, hp.2 (T.setVm vm₁) hT hW₁⟩) with ⟨v, vm₁, ⟨U', l2, c2, s2⟩, hW₁, X', ⟨g', mk, t, L, e1, e2, hq, h1, hL, h2, h3⟩, st⟩ | ⟨q, vm₁, ⟨U', l2, c2, s2⟩, hW₁, X', ⟨g', mk, t, L, E, ce, e1, e2, hq, hce, hcv, hcl, h1, hL, h2, h3⟩, st⟩
  · dsimp only [Pt.U, Pt.locs, Pt.cells, Pt.slots] at X' e1 e2 h1 h2 h3 st
    subst h1; subst h2; subst h3
    exact Or.inl ⟨v, (T.setVm vm₁).calling g' mk As.toArray, t, U', L, hT, X', hL, e1, e2, hq, st⟩
  · dsimp only [Pt.U, Pt.locs, Pt.cells, Pt.slots] at X' e1 e2 h1 h2 h3 st hcl
    subst h1; subst h2; subst h3
    exact Or.inr ⟨q, (T.setVm vm₁).calling g' mk As.toArray, t, U', L, E, ce, hT, X', hL, e1, e2, hq, hce, hcv, vx_cls hW₁ hcl, st⟩
end Runs
section Rows
variable {p : Program} {l : Launch} {e : Env} {R : Room} {s : State} {m : MethodId} {args : Array Value} {below : List Frame} {meth : Method} {c : Code} {H : Heap} {locs : List Loc} {cells slots : Nat} {Q : State → Prop}
variable {mc ms : Nat} {free : Addr → Prop} {A0 A1 : Nat → Prop} {H0 : Heap} {a : Array Value} {pc : Nat} {ls : Array Slot} {st0 rest : List Value}
theorem vx_keep {st₀ t T' : State} {L : List Loc} (h0 : st₀.heap = H) (e1 : T'.heap = t.heap) (hS : va_S A0 H0 H locs) (hA : ∀ q, q < H.size → A1 q → A0 q) (hf : ∀ q, free q → A0 q) (hL : ∀ q ∈ L, free q.base) (hF : va_F A1 st₀ t) :
    H.size ≤ T'.heap.size ∧ (∀ q : Nat, q < H.size → ¬ A1 q → T'.heap[q]? = H[q]?) ∧ va_S A0 H0 T'.heap (locs ++ L) := by
  obtain ⟨hz, hk⟩ := hF
  rw [h0] at hz hk
  exact ⟨by rw [e1]; exact hz, fun q h1 h2 => by rw [e1]; exact hk q h1 h2,
    ⟨Nat.le_trans hS.1 (by rw [e1]; exact hz), fun q h1 h2 => by rw [e1, hk q (Nat.lt_of_lt_of_le h1 hS.1) (fun z => h2 (hA q (Nat.lt_of_lt_of_le h1 hS.1) z))]; exact hS.2.1 q h1 h2, fun q hq => by
      rcases List.mem_append.mp hq with h | h
      · exact hS.2.2 q h
      · exact hf _ (hL q h)⟩⟩
theorem vx_calli {S SX : Type} {post : Int32 → S → Prop} {px : SX → Prop} {B : S → State → Prop} {BX : String → SX → State → Prop} {AX : Nat → Prop} (hr : vx_Run p l e R s m args below meth c H locs cells slots mc ms (F0 m pc ls st0) rest (va_Qi post B A1 a) (vx_X px BX AX) free) (hS : va_S A0 H0 H locs) (hA : ∀ q, q < H.size → A1 q → A0 q) (hf : ∀ q, free q → A0 q) (hAX : ∀ q, q < H.size → AX q → A0 q)
    (kx : ∀ (E : String) (ce : Cell) (q9 : Addr) (u : SX) (t : State) (H1 : Heap) (locs1 : List Loc), t.heap = H1 → s.vm.Alike t.vm → px u → BX E u t → H.size ≤ H1.size → (∀ q : Nat, q < H.size → ¬ AX q → H1[q]? = H[q]?) → va_S A0 H0 H1 locs1 → H1[q9]? = some ce → ce.vm = .none → s.vm.findClass E = some ce.cls → vx_W p l e R s m args below meth c H1 locs1 (cells + mc) (slots + ms) Q (F0 m pc ls rest) q9)
    (kk : ∀ (r : Int32) (u : S) (t : State) (H1 : Heap) (locs1 : List Loc), t.heap = H1 → s.vm.Alike t.vm → post r u → B u t → H.size ≤ H1.size → (∀ q : Nat, q < H.size → ¬ A1 q → H1[q]? = H[q]?) → va_S A0 H0 H1 locs1 → W p l e R s m args below meth c H1 locs1 (cells + mc) (slots + ms) Q (F0 m (pc + 3) ls (.int r :: rest))) : W p l e R s m args below meth c H locs cells slots Q (F0 m pc ls st0) := by
  intro T hT X
  rcases hr T hT X with ⟨v, st₀, t, T', L, h0, X', hL, e1, e2, ⟨⟨r, u, hv, hp, hb⟩, hF⟩, st⟩ | ⟨q, st₀, t, T', L, E, ce, h0, X', hL, e1, e2, ⟨u, hp, hb, hF⟩, hce, hcv, hcl, st⟩
  · cases hv
    obtain ⟨k1, k2, k3⟩ := vx_keep h0 e1 hS hA hf hL hF
    obtain ⟨t2, a1, b1⟩ := kk r u t T'.heap (locs ++ L) e1.symm (by rw [← e2]; exact X'.warmed.alike) hp hb k1 k2 k3 T' rfl X'
    exact ⟨t2, st t2 a1, b1⟩
  · obtain ⟨k1, k2, k3⟩ := vx_keep h0 e1 hS hAX hf hL hF
    obtain ⟨t2, a1, b1⟩ := kx E ce q u t T'.heap (locs ++ L) e1.symm (by rw [← e2]; exact X'.warmed.alike) hp hb k1 k2 k3 (by rw [e1]; exact hce) hcv hcl T' rfl X'
    exact ⟨t2, st.trans a1, b1⟩
theorem vx_calll {S SX : Type} {post : Int64 → S → Prop} {px : SX → Prop} {B : S → State → Prop} {BX : String → SX → State → Prop} {AX : Nat → Prop} (hr : vx_Run p l e R s m args below meth c H locs cells slots mc ms (F0 m pc ls st0) rest (va_Ql post B A1 a) (vx_X px BX AX) free) (hS : va_S A0 H0 H locs) (hA : ∀ q, q < H.size → A1 q → A0 q) (hf : ∀ q, free q → A0 q) (hAX : ∀ q, q < H.size → AX q → A0 q)
    (kx : ∀ (E : String) (ce : Cell) (q9 : Addr) (u : SX) (t : State) (H1 : Heap) (locs1 : List Loc), t.heap = H1 → s.vm.Alike t.vm → px u → BX E u t → H.size ≤ H1.size → (∀ q : Nat, q < H.size → ¬ AX q → H1[q]? = H[q]?) → va_S A0 H0 H1 locs1 → H1[q9]? = some ce → ce.vm = .none → s.vm.findClass E = some ce.cls → vx_W p l e R s m args below meth c H1 locs1 (cells + mc) (slots + ms) Q (F0 m pc ls rest) q9)
    (kk : ∀ (r : Int64) (u : S) (t : State) (H1 : Heap) (locs1 : List Loc), t.heap = H1 → s.vm.Alike t.vm → post r u → B u t → H.size ≤ H1.size → (∀ q : Nat, q < H.size → ¬ A1 q → H1[q]? = H[q]?) → va_S A0 H0 H1 locs1 → W p l e R s m args below meth c H1 locs1 (cells + mc) (slots + ms) Q (F0 m (pc + 3) ls (.long r :: rest))) : W p l e R s m args below meth c H locs cells slots Q (F0 m pc ls st0) := by
  intro T hT X
  rcases hr T hT X with ⟨v, st₀, t, T', L, h0, X', hL, e1, e2, ⟨⟨r, u, hv, hp, hb⟩, hF⟩, st⟩ | ⟨q, st₀, t, T', L, E, ce, h0, X', hL, e1, e2, ⟨u, hp, hb, hF⟩, hce, hcv, hcl, st⟩
  · cases hv
    obtain ⟨k1, k2, k3⟩ := vx_keep h0 e1 hS hA hf hL hF
    obtain ⟨t2, a1, b1⟩ := kk r u t T'.heap (locs ++ L) e1.symm (by rw [← e2]; exact X'.warmed.alike) hp hb k1 k2 k3 T' rfl X'
    exact ⟨t2, st t2 a1, b1⟩
  · obtain ⟨k1, k2, k3⟩ := vx_keep h0 e1 hS hAX hf hL hF
    obtain ⟨t2, a1, b1⟩ := kx E ce q u t T'.heap (locs ++ L) e1.symm (by rw [← e2]; exact X'.warmed.alike) hp hb k1 k2 k3 (by rw [e1]; exact hce) hcv hcl T' rfl X'
    exact ⟨t2, st.trans a1, b1⟩
theorem vx_callf {S SX : Type} {post : UInt32 → S → Prop} {px : SX → Prop} {B : S → State → Prop} {BX : String → SX → State → Prop} {AX : Nat → Prop} (hr : vx_Run p l e R s m args below meth c H locs cells slots mc ms (F0 m pc ls st0) rest (va_Qf post B A1 a) (vx_X px BX AX) free) (hS : va_S A0 H0 H locs) (hA : ∀ q, q < H.size → A1 q → A0 q) (hf : ∀ q, free q → A0 q) (hAX : ∀ q, q < H.size → AX q → A0 q)
    (kx : ∀ (E : String) (ce : Cell) (q9 : Addr) (u : SX) (t : State) (H1 : Heap) (locs1 : List Loc), t.heap = H1 → s.vm.Alike t.vm → px u → BX E u t → H.size ≤ H1.size → (∀ q : Nat, q < H.size → ¬ AX q → H1[q]? = H[q]?) → va_S A0 H0 H1 locs1 → H1[q9]? = some ce → ce.vm = .none → s.vm.findClass E = some ce.cls → vx_W p l e R s m args below meth c H1 locs1 (cells + mc) (slots + ms) Q (F0 m pc ls rest) q9)
    (kk : ∀ (r : UInt32) (u : S) (t : State) (H1 : Heap) (locs1 : List Loc), t.heap = H1 → s.vm.Alike t.vm → post r u → B u t → H.size ≤ H1.size → (∀ q : Nat, q < H.size → ¬ A1 q → H1[q]? = H[q]?) → va_S A0 H0 H1 locs1 → W p l e R s m args below meth c H1 locs1 (cells + mc) (slots + ms) Q (F0 m (pc + 3) ls (.float r :: rest))) : W p l e R s m args below meth c H locs cells slots Q (F0 m pc ls st0) := by
  intro T hT X
  rcases hr T hT X with ⟨v, st₀, t, T', L, h0, X', hL, e1, e2, ⟨⟨r, u, hv, hp, hb⟩, hF⟩, st⟩ | ⟨q, st₀, t, T', L, E, ce, h0, X', hL, e1, e2, ⟨u, hp, hb, hF⟩, hce, hcv, hcl, st⟩
  · cases hv
    obtain ⟨k1, k2, k3⟩ := vx_keep h0 e1 hS hA hf hL hF
    obtain ⟨t2, a1, b1⟩ := kk r u t T'.heap (locs ++ L) e1.symm (by rw [← e2]; exact X'.warmed.alike) hp hb k1 k2 k3 T' rfl X'
    exact ⟨t2, st t2 a1, b1⟩
  · obtain ⟨k1, k2, k3⟩ := vx_keep h0 e1 hS hAX hf hL hF
    obtain ⟨t2, a1, b1⟩ := kx E ce q u t T'.heap (locs ++ L) e1.symm (by rw [← e2]; exact X'.warmed.alike) hp hb k1 k2 k3 (by rw [e1]; exact hce) hcv hcl T' rfl X'
    exact ⟨t2, st.trans a1, b1⟩
theorem vx_calld {S SX : Type} {post : UInt64 → S → Prop} {px : SX → Prop} {B : S → State → Prop} {BX : String → SX → State → Prop} {AX : Nat → Prop} (hr : vx_Run p l e R s m args below meth c H locs cells slots mc ms (F0 m pc ls st0) rest (va_Qd post B A1 a) (vx_X px BX AX) free) (hS : va_S A0 H0 H locs) (hA : ∀ q, q < H.size → A1 q → A0 q) (hf : ∀ q, free q → A0 q) (hAX : ∀ q, q < H.size → AX q → A0 q)
    (kx : ∀ (E : String) (ce : Cell) (q9 : Addr) (u : SX) (t : State) (H1 : Heap) (locs1 : List Loc), t.heap = H1 → s.vm.Alike t.vm → px u → BX E u t → H.size ≤ H1.size → (∀ q : Nat, q < H.size → ¬ AX q → H1[q]? = H[q]?) → va_S A0 H0 H1 locs1 → H1[q9]? = some ce → ce.vm = .none → s.vm.findClass E = some ce.cls → vx_W p l e R s m args below meth c H1 locs1 (cells + mc) (slots + ms) Q (F0 m pc ls rest) q9)
    (kk : ∀ (r : UInt64) (u : S) (t : State) (H1 : Heap) (locs1 : List Loc), t.heap = H1 → s.vm.Alike t.vm → post r u → B u t → H.size ≤ H1.size → (∀ q : Nat, q < H.size → ¬ A1 q → H1[q]? = H[q]?) → va_S A0 H0 H1 locs1 → W p l e R s m args below meth c H1 locs1 (cells + mc) (slots + ms) Q (F0 m (pc + 3) ls (.double r :: rest))) : W p l e R s m args below meth c H locs cells slots Q (F0 m pc ls st0) := by
  intro T hT X
  rcases hr T hT X with ⟨v, st₀, t, T', L, h0, X', hL, e1, e2, ⟨⟨r, u, hv, hp, hb⟩, hF⟩, st⟩ | ⟨q, st₀, t, T', L, E, ce, h0, X', hL, e1, e2, ⟨u, hp, hb, hF⟩, hce, hcv, hcl, st⟩
  · cases hv
    obtain ⟨k1, k2, k3⟩ := vx_keep h0 e1 hS hA hf hL hF
    obtain ⟨t2, a1, b1⟩ := kk r u t T'.heap (locs ++ L) e1.symm (by rw [← e2]; exact X'.warmed.alike) hp hb k1 k2 k3 T' rfl X'
    exact ⟨t2, st t2 a1, b1⟩
  · obtain ⟨k1, k2, k3⟩ := vx_keep h0 e1 hS hAX hf hL hF
    obtain ⟨t2, a1, b1⟩ := kx E ce q u t T'.heap (locs ++ L) e1.symm (by rw [← e2]; exact X'.warmed.alike) hp hb k1 k2 k3 (by rw [e1]; exact hce) hcv hcl T' rfl X'
    exact ⟨t2, st.trans a1, b1⟩
theorem vx_callv {S SX : Type} {post : S → Prop} {px : SX → Prop} {B : S → State → Prop} {BX : String → SX → State → Prop} {AX : Nat → Prop} (hr : vx_Run p l e R s m args below meth c H locs cells slots mc ms (F0 m pc ls st0) rest (va_Qv post B A1 a) (vx_X px BX AX) free) (hS : va_S A0 H0 H locs) (hA : ∀ q, q < H.size → A1 q → A0 q) (hf : ∀ q, free q → A0 q) (hAX : ∀ q, q < H.size → AX q → A0 q)
    (kx : ∀ (E : String) (ce : Cell) (q9 : Addr) (u : SX) (t : State) (H1 : Heap) (locs1 : List Loc), t.heap = H1 → s.vm.Alike t.vm → px u → BX E u t → H.size ≤ H1.size → (∀ q : Nat, q < H.size → ¬ AX q → H1[q]? = H[q]?) → va_S A0 H0 H1 locs1 → H1[q9]? = some ce → ce.vm = .none → s.vm.findClass E = some ce.cls → vx_W p l e R s m args below meth c H1 locs1 (cells + mc) (slots + ms) Q (F0 m pc ls rest) q9)
    (kk : ∀ (u : S) (t : State) (H1 : Heap) (locs1 : List Loc), t.heap = H1 → s.vm.Alike t.vm → post u → B u t → H.size ≤ H1.size → (∀ q : Nat, q < H.size → ¬ A1 q → H1[q]? = H[q]?) → va_S A0 H0 H1 locs1 → W p l e R s m args below meth c H1 locs1 (cells + mc) (slots + ms) Q (F0 m (pc + 3) ls (rest))) : W p l e R s m args below meth c H locs cells slots Q (F0 m pc ls st0) := by
  intro T hT X
  rcases hr T hT X with ⟨v, st₀, t, T', L, h0, X', hL, e1, e2, ⟨⟨u, hv, hp, hb⟩, hF⟩, st⟩ | ⟨q, st₀, t, T', L, E, ce, h0, X', hL, e1, e2, ⟨u, hp, hb, hF⟩, hce, hcv, hcl, st⟩
  · cases hv
    obtain ⟨k1, k2, k3⟩ := vx_keep h0 e1 hS hA hf hL hF
    obtain ⟨t2, a1, b1⟩ := kk u t T'.heap (locs ++ L) e1.symm (by rw [← e2]; exact X'.warmed.alike) hp hb k1 k2 k3 T' rfl X'
    exact ⟨t2, st t2 a1, b1⟩
  · obtain ⟨k1, k2, k3⟩ := vx_keep h0 e1 hS hAX hf hL hF
    obtain ⟨t2, a1, b1⟩ := kx E ce q u t T'.heap (locs ++ L) e1.symm (by rw [← e2]; exact X'.warmed.alike) hp hb k1 k2 k3 (by rw [e1]; exact hce) hcv hcl T' rfl X'
    exact ⟨t2, st.trans a1, b1⟩
/-- caught by the row x of this method's table; the rows ahead don't take it -/
theorem vx_catch {own name : String} {E : String} {ce : Cell} {q : Addr} (hown : s.vm.findClass own = some m.cls) (pre : List ExceptionTableEntry) (x : ExceptionTableEntry) (suf : List ExceptionTableEntry) (hsplit : c.exceptionTable.toList = pre ++ x :: suf)
    (hpass : ∀ z ∈ pre, covers z pc = false ∨ (z.catchType ≠ 0 ∧ ∃ nm : String, (Cond.classLink own z.catchType nm).before args s = true ∧ va_Nc E nm s)) (hx : covers x pc = true) (h0 : x.catchType ≠ 0)
    (hlink : (Cond.classLink own x.catchType name).before args s = true) (hcast : (Cond.castable E name).before args s = true) (hcell : H[q]? = some ce) (hv : ce.vm = .none) (hcl : s.vm.findClass E = some ce.cls)
    (kk : W p l e R s m args below meth c H locs cells slots Q (F0 m x.handlerPc ls [.ref q])) : vx_W p l e R s m args below meth c H locs cells slots Q (F0 m pc ls rest) q := by
  intro T hT X
  have hpl : e.platform.magicAccessors = ({} : Platform).magicAccessors := by rw [X.admits.platform]
  obtain ⟨c3, c4, hc3, hc4, hasg⟩ := Cond.castable_spec hcast
  cases Option.some.inj (hc3.symm.trans hcl)
  obtain ⟨c5, hc5, hcl5⟩ := Cond.classLink_spec hown hlink e.platform hpl
  cases Option.some.inj (hc4.symm.trans hc5)
  obtain ⟨vm', X', st⟩ := X.thenCaughtThrough q (g := F0 m pc ls rest) rfl (Steps.refl _) (by rw [hT]; exact hcell) (by rw [hv]; rfl) (by obtain ⟨k9, h9, -⟩ := Vm.findClass_spec hcl; exact ⟨k9, h9⟩) pre x suf hsplit
    (fun z hz => by
      rcases hpass z hz with h | ⟨hz0, nm, hl1, hn1⟩
      · exact Or.inl h
      · obtain ⟨c6, hc6, hcl6⟩ := Cond.classLink_spec hown hl1 e.platform hpl
        obtain ⟨a8, b8, h1, h2, h3⟩ := hn1
        cases Option.some.inj (h1.symm.trans hcl)
        cases Option.some.inj (h2.symm.trans hc6)
        exact Or.inr ⟨hz0, _, hcl6, h3⟩) hx (Or.inr ⟨h0, c4, hcl5, hasg⟩)
  obtain ⟨t, a1, b1⟩ := kk (T.setVm vm') hT X'
  exact ⟨t, st.trans a1, b1⟩
end Rows
section Ends
variable {p : Program} {l : Launch} {e : Env} {R : Room} {s : State} {m : MethodId} {args : Array Value} {below : List Frame} {meth : Method} {c : Code} {H : Heap} {locs : List Loc} {cells slots : Nat} {Q : State → Prop}
variable {mc ms : Nat} {free : Addr → Prop} {A0 A1 : Nat → Prop} {H0 : Heap} {a : Array Value} {ls : Array Slot} {st0 rest : List Value}
variable {Qc : Array Value → State → Outcome → State → Prop} {XC : String → State → State → Prop}
/-- what a body that may throw owes at its end -/
def vx_MQ (below : List Frame) (Qc : Array Value → State → Outcome → State → Prop) (XC : String → State → State → Prop) (a : Array Value) (s : State) (mc ms : Nat) (free : Addr → Prop) : State → Prop := fun t =>
  ∃ o, t.status = .running ∧ Ended t below o ∧ vx_Q Qc XC mc ms free a s o t
theorem vx_ret {g : JFrame} {mc ms : Nat} (k : W p l e R s m args below meth c H locs cells slots (MQ below Qc args s mc ms free) g) : W p l e R s m args below meth c H locs cells slots (vx_MQ below Qc XC args s mc ms free) g := by
  intro T hT X
  obtain ⟨t, a1, o, b1, b2, b3, b4⟩ := k T hT X
  exact ⟨t, a1, o, b1, b2, Or.inl ⟨b3, b4⟩⟩
/-- not caught here: it goes on to the caller -/
theorem vx_widen {g : JFrame} {q : Addr} {k n : Nat} (h1 : cells ≤ k) (h2 : slots ≤ n) (kk : vx_W p l e R s m args below meth c H locs k n Q g q) : vx_W p l e R s m args below meth c H locs cells slots Q g q := fun T hT X => kk T hT (stand_widen X h1 h2)
theorem vx_out {pc : Nat} {E : String} {ce : Cell} {q : Addr} {mc ms : Nat} (hout : ∀ x ∈ c.exceptionTable.toList, covers x pc = false) (hlocks : meth.locks = false) (hcell : H[q]? = some ce) (hv : ce.vm = .none) (hcl : s.vm.findClass E = some ce.cls)
    (hx : ∀ t : State, t.heap = H → s.vm.Alike t.vm → XC E s t) (hf : ∀ z ∈ locs, free z.base) (hc : cells ≤ mc) (hs : slots ≤ ms) :
    vx_W p l e R s m args below meth c H locs cells slots (vx_MQ below Qc XC args s mc ms free) (F0 m pc ls rest) q := by
  intro T hT X
  obtain ⟨st1, hrun, hend, hW, hsm⟩ := X.leaveThrown q (g := F0 m pc ls rest) rfl rfl rfl hout hlocks
  have hcell9 : (T.setFrames (.throwing q :: below)).heap[q]? = some ce := by
    show T.heap[q]? = some ce
    rw [hT]; exact hcell
  exact ⟨_, st1, .threw q, hrun, hend, Or.inr ⟨q, rfl, E, ce, locs, hx _ hT hW.alike, hcell9, hv, hcl, hW, hsm.mono hc hs, hf⟩⟩
theorem vx_frame {U : State} {k n : Nat} (h : s.sameButNew ({ U with vm := s.vm } : State) locs k n) : s.heap.size ≤ U.heap.size ∧ ∀ q : Nat, q < s.heap.size → (∀ z ∈ locs, z.base ≠ q) → U.heap[q]? = s.heap[q]? := by
  obtain ⟨-, h2, -, -, -, h6⟩ := h
  refine ⟨h2, fun q hq hz => ?_⟩
  obtain ⟨c9, e1, e2, e3, e4⟩ := h6 q _ (Array.getElem?_eq_getElem hq)
  have hs : c9.slots = (s.heap[q]).slots := Array.ext_getElem? fun i => e4 i fun hm => hz _ hm rfl
  have h9 : c9 = s.heap[q] := by
    rw [hs] at e2
    exact e2
  have e5 : U.heap[q]? = some c9 := e1
  rw [e5, h9, Array.getElem?_eq_getElem hq]
/-- the words of a throw but the four that speak of the heap -/
def vx_no (w : Cond) : Bool := decide (w ≠ .isRef (.static Bundle.tN "UNASSIGNED_STACK" Bundle.steD)) && decide (w ≠ .isRef (.static Bundle.tN "SUPPRESSED_SENTINEL" Bundle.listD)) && decide (w ≠ .laysStatic Bundle.tN "UNASSIGNED_STACK" Bundle.steD) && decide (w ≠ .laysStatic Bundle.tN "SUPPRESSED_SENTINEL" Bundle.listD)
def vx_at0 (own : String) (ic : Nat) (X : String) (names : List String) : List Cond := (Bundle.ownAtoms0 own ic X names).filter vx_no
def vx_atS (own : String) (ic : Nat) (X : String) (names : List String) : List Cond := (Bundle.ownAtoms own ic X names).filter vx_no
/-- a word that the tables alone decide, or a good one -/
def vx_ot (w : Cond) : Bool := w.onTables || goodWord w
theorem vx_ot_at {args a' : Array Value} {s U : State} {w : Cond} (hW : s.WarmedH U.vm) (hvm : s.vm = U.vm) (hg : vx_ot w = true) (h : w.before args s = true) : w.before a' U = true := by
  simp only [vx_ot, Bool.or_eq_true] at hg
  rcases hg with hg | hg
  · exact va_tabs hg hvm h
  · exact word_at hW (good_of_word hg) h
/-- a list's words: the good ones out of the method's own list, the others by premises of their own -/
theorem vx_hat {args : Array Value} {s : State} {L B : List Cond} (h1 : ∀ w ∈ L.filter goodWord, w.before args s = true) (h2 : ∀ w ∈ L.filter (fun w => !goodWord w), w ∈ B) (h3 : ∀ w ∈ B, w.before args s = true) : ∀ w ∈ L, w.before args s = true := by
  intro w hw
  by_cases g : goodWord w = true
  · exact h1 w (List.mem_filter.mpr ⟨hw, g⟩)
  · refine h3 w (h2 w (List.mem_filter.mpr ⟨hw, ?_⟩))
    show (!goodWord w) = true
    cases hgw : goodWord w
    · rfl
    · exact absurd hgw g
theorem vx_c {args : Array Value} {s : State} {w : Cond} {B : List Cond} (h : w.before args s = true) (t : ∀ w ∈ B, w.before args s = true) : ∀ w' ∈ w :: B, w'.before args s = true := fun w' h' => (List.mem_cons.mp h').elim (fun e => by rw [e]; exact h) (t w')
theorem vx_n {args : Array Value} {s : State} : ∀ w ∈ ([] : List Cond), w.before args s = true := fun _ h => nomatch h
theorem vx_own {args : Array Value} {s : State} {L : List Cond} (h1 : ∀ w ∈ L.filter vx_no, w.before args s = true)
    (hU : (Cond.isRef (.static Bundle.tN "UNASSIGNED_STACK" Bundle.steD)).before args s = true) (hN : (Cond.isRef (.static Bundle.tN "SUPPRESSED_SENTINEL" Bundle.listD)).before args s = true)
    (lU : (Cond.laysStatic Bundle.tN "UNASSIGNED_STACK" Bundle.steD).before args s = true) (lN : (Cond.laysStatic Bundle.tN "SUPPRESSED_SENTINEL" Bundle.listD).before args s = true) : ∀ w ∈ L, w.before args s = true := by
  intro w hw
  by_cases e1 : w = .isRef (.static Bundle.tN "UNASSIGNED_STACK" Bundle.steD)
  · rw [e1]; exact hU
  · by_cases e2 : w = .isRef (.static Bundle.tN "SUPPRESSED_SENTINEL" Bundle.listD)
    · rw [e2]; exact hN
    · by_cases e3 : w = .laysStatic Bundle.tN "UNASSIGNED_STACK" Bundle.steD
      · rw [e3]; exact lU
      · by_cases e4 : w = .laysStatic Bundle.tN "SUPPRESSED_SENTINEL" Bundle.listD
        · rw [e4]; exact lN
        · exact h1 w (List.mem_filter.mpr ⟨hw, by unfold vx_no; rw [decide_eq_true e1, decide_eq_true e2, decide_eq_true e3, decide_eq_true e4]; rfl⟩)
/-- where a static field lies, its class's statics cell in H -/
def vx_L (C n d : String) (A : Nat → Prop) (U : State) (H : Heap) : Prop := ∃ (c : ClassId) (k : Class) (i : Nat) (f : Field) (a : Nat) (cell : Cell), U.vm.findClass C = some c ∧ U.fieldFound? C n d = some (c, k, i, f) ∧ f.isStatic = true ∧ k.statics = some a ∧ H[a]? = some cell ∧ cell.vm.isStatics = true ∧ cell.cls = c ∧ f.slot < cell.slots.size ∧ k.staticTypes[f.slot]? = some f.type ∧ ¬ A a
theorem vx_L.moved {C n d : String} {A : Nat → Prop} {u U : State} {H : Heap} (hvm : u.vm.Alike U.vm) (h : vx_L C n d A u H) : vx_L C n d A U H := by
  obtain ⟨c, k, i, f, a, cell, h1, h2, h3, h4, h5, h6, h7, h8, h9, h10⟩ := h
  obtain ⟨k', hi', he⟩ := State.fieldFound?_setVm hvm h2
  exact ⟨c, k', i, f, a, cell, by rw [hvm.findClass]; exact h1, hi', h3, by rw [he]; exact h4, h5, h6, h7, h8, by rw [he]; exact h9, h10⟩
theorem vx_L.kept {C n d : String} {A : Nat → Prop} {U : State} {H H1 : Heap} (h : vx_L C n d A U H) (hq : ∀ a : Nat, a < H.size → ¬ A a → H1[a]? = H[a]?) : vx_L C n d A U H1 := by
  obtain ⟨c, k, i, f, a, cell, h1, h2, h3, h4, h5, h6, h7, h8, h9, h10⟩ := h
  exact ⟨c, k, i, f, a, cell, h1, h2, h3, h4, by rw [hq a (Array.getElem?_eq_some_iff.mp h5).1 h10]; exact h5, h6, h7, h8, h9, h10⟩
theorem vx_L.narrow {C n d : String} {A B : Nat → Prop} {U : State} {H : Heap} (h : vx_L C n d A U H) (hAB : ∀ q, B q → A q) : vx_L C n d B U H := by
  obtain ⟨c, k, i, f, a, cell, h1, h2, h3, h4, h5, h6, h7, h8, h9, h10⟩ := h
  exact ⟨c, k, i, f, a, cell, h1, h2, h3, h4, h5, h6, h7, h8, h9, fun z => h10 (hAB _ z)⟩
theorem vx_L.word {C n d : String} {A : Nat → Prop} {s : State} {args : Array Value} (h : vx_L C n d A s s.heap) : (Cond.laysStatic C n d).before args s = true := by
  obtain ⟨c, k, i, f, a, cell, h1, h2, h3, h4, h5, h6, h7, h8, h9, -⟩ := h
  show (Cond.laysStatic C n d).holds args s none s [] = true
  exact Cond.laysStatic_of h1 h2 h3 h4 h5 h6 h7 h8 h9
/-- .. and what it holds: null or some reference -/
def vx_Zq (C n d : String) (A : Nat → Prop) (U : State) (H : Heap) : Prop := va_Zq C n d A U H ∧ vx_L C n d A U H
theorem vx_Zq.moved {C n d : String} {A : Nat → Prop} {u U : State} {H : Heap} (hvm : u.vm.Alike U.vm) (h : vx_Zq C n d A u H) : vx_Zq C n d A U H := ⟨va_Zq.moved hvm h.1, vx_L.moved hvm h.2⟩
theorem vx_Zq.kept {C n d : String} {A : Nat → Prop} {U : State} {H H1 : Heap} (h : vx_Zq C n d A U H) (hq : ∀ a : Nat, a < H.size → ¬ A a → H1[a]? = H[a]?) : vx_Zq C n d A U H1 := ⟨va_Zq.kept h.1 hq, vx_L.kept h.2 hq⟩
theorem vx_Zq.narrow {C n d : String} {A B : Nat → Prop} {U : State} {H : Heap} (h : vx_Zq C n d A U H) (hAB : ∀ q, B q → A q) : vx_Zq C n d B U H := ⟨va_Zq.narrow h.1 hAB, vx_L.narrow h.2 hAB⟩
theorem vx_Zqof {args : Array Value} {s : State} {C n d : String} {A : Nat → Prop} (hl : (Cond.laysStatic C n d).before args s = true) (hini : (Cond.initialized C).before args s = true) (h : (Cond.isRef (.static C n d)).before args s = true) (hA : ∀ a : Nat, a < s.heap.size → ¬ A a) : vx_Zq C n d A s s.heap := by
  refine ⟨va_Zqof hl hini h hA, ?_⟩
  obtain ⟨c, k, i, f, a, cell, h1, h2, h3, h4, h5, h6, h7, h8, h9⟩ := Cond.laysStatic_spec hl
  exact ⟨c, k, i, f, a, cell, h1, h2, h3, h4, h5, h6, h7, h8, h9, hA a (Array.getElem?_eq_some_iff.mp h5).1⟩
theorem vx_isRef {C n d : String} {v : Value} {A : Nat → Prop} {s : State} {args : Array Value} (h : va_Z C n d v A s s.heap) (hv : v.isRef = true) : (Cond.isRef (.static C n d)).before args s = true := by
  obtain ⟨cf, kf, fi, f, a, cell, h1, h2, h3, h4, h5, h6, h7, -⟩ := h
  have he : (Term.static C n d).eval args s none [] s = some v := by
    simp [Term.eval, State.fieldNamed?, h1, h2, h4, h5, h6, h7]
  simp only [Cond.before, Cond.holds, Cond.value, he]
  cases v <;> simp_all [Value.isRef]
theorem vx_isRefq {C n d : String} {A : Nat → Prop} {s : State} {args : Array Value} (h : va_Zq C n d A s s.heap) : (Cond.isRef (.static C n d)).before args s = true := by
  rcases h with h | ⟨t, h⟩
  · exact vx_isRef h rfl
  · exact vx_isRef h rfl
/-- the same frame, seen from here: as if the method were called anew in this heap -/
theorem vx_rebase {T : State} (X : Stand p l e R s m args below meth c T locs cells slots) {R' : Room} (hf : R'.frames ≤ R.frames) (hl : R'.locals ≤ R.locals) (hc : cells + R'.cells ≤ R.cells) (hs : slots + R'.slots ≤ R.slots) :
    Stand p l e R' ((T.setVm s.vm).setFrames (.invoking m args :: below)) m args below meth c T [] 0 0 := by
  have htop : (T.setVm s.vm).topJava?.isSome := X.here.top
  have hF : ((T.setVm s.vm).setFrames (.invoking m args :: below)).frames = .invoking m args :: below := State.frames_setFrames _ (State.cur_lt_of_top htop)
  obtain ⟨g₀, hg0⟩ := Option.isSome_iff_exists.mp htop
  obtain ⟨r, hr⟩ := State.topJava?_eq_some.mp hg0
  have hl9 : e.platform.stackLimits (T.setVm s.vm).me = e.platform.stackLimits s.me := X.limits
  have hb9 : (T.setVm s.vm).me.stackBytes = s.me.stackBytes := X.bytes
  refine ⟨X.admits, X.cas, X.clock, hF, ?_, X.hears, X.method, X.code, X.here, X.tail, X.warmed, ?_, ?_, ?_⟩
  · have h := X.room
    have hU : ((T.setVm s.vm).setFrames (.invoking m args :: below)).localsInUse = s.localsInUse := by
      rw [State.localsInUse_invoking hF (meth := meth) (c := c) X.method X.code, State.localsInUse_invoking X.frames X.method X.code]
    simp only [State.hasRoom, Bool.and_eq_true, decide_eq_true_eq] at h ⊢
    obtain ⟨⟨⟨⟨h1, h2, h3, h4, h5, h6⟩, h7⟩, h8⟩, h9⟩ := h
    rw [X.frames, List.length_cons] at h2 h3
    have q1 := X.heapSize
    have q2 := X.used
    simp only [hF, hU, List.length_cons, State.stackLimits_setFrames, State.stackBytes_setFrames, hl9, hb9]
    refine ⟨⟨⟨⟨by omega, by omega, by omega, by omega, by omega, h6⟩, ?_⟩, ?_⟩, X.book⟩
    · show T.heap.size + R'.cells ≤ e.platform.maxCells
      omega
    · show T.slotsUsed + R'.slots ≤ e.platform.maxSlots
      omega
  · rw [State.stackLimits_setFrames]; rfl
  · rw [State.stackBytes_setFrames]; rfl
  · refine ⟨?_, Nat.le_refl _, Nat.le_refl _, ?_, ?_, fun a c9 h9 => ⟨c9, h9, rfl, rfl, fun _ _ => rfl⟩⟩
    · obtain ⟨t, ht, -⟩ := State.frames_cons hr
      show T.setVm s.vm = { ((T.setVm s.vm).setFrames (.invoking m args :: below)).setFrames (T.setVm s.vm).frames with heap := T.heap, slotsUsed := T.slotsUsed }
      rw [State.setFrames_setFrames, State.setFrames_self ht]
      rfl
    · show T.slotsUsed = T.slotsUsed + ((T.heap.toList.drop T.heap.size).map (·.slots.size)).sum
      rw [List.drop_eq_nil_of_le (Nat.le_of_eq Array.length_toList)]
      rfl
    · show ((T.heap.toList.drop T.heap.size).map (·.slots.size)).sum ≤ 0
      rw [List.drop_eq_nil_of_le (Nat.le_of_eq Array.length_toList)]
      exact Nat.le_refl _
/-- 'throw new E()': new; dup; invokespecial; athrow -/
theorem vx_throw0 {cc : ByteArray} {pc : Nat} (hexec : p.tables.exec = Jvm.exec) (hb : c.code = cc) (hl : l.stackTraces = false) {own cls : String} {names : List String} {ik ic mc ms : Nat} {A : Nat → Prop}
    (hown : s.vm.findClass own = some m.cls) (hcls : Bundle.fit cls = true) (hnames : ∀ n ∈ names, Bundle.fit n = true)
    (hk : (Cond.classLink own ik cls).before args s = true) (hini : (Cond.initialized cls).before args s = true) (hat : ∀ w ∈ vx_at0 own ic cls names, w.before args s = true)
    (hgood : ∀ w ∈ Cond.classLink own ik cls :: Cond.initialized cls :: vx_at0 own ic cls names, vx_ot w = true)
    (hU : vx_Zq Bundle.tN "UNASSIGNED_STACK" Bundle.steD A s s.heap) (hN : vx_Zq Bundle.tN "SUPPRESSED_SENTINEL" Bundle.listD A s s.heap) (hS : va_S A s.heap H locs) (hsize : ls.size = c.maxLocals)
    (d0 : decode cc pc = .ok (.new ik, 3)) (d3 : decode cc (pc + 3) = .ok (.dup, 1)) (d4 : decode cc (pc + 4) = .ok (.invokespecial ic, 3)) (d7 : decode cc (pc + 7) = .ok (.athrow, 1))
    (hout : ∀ x ∈ c.exceptionTable.toList, covers x (pc + 7) = false)
    (hRframes : names.length + 3 < R.frames) (hRlocals : (rest.map fun v => v.category).sum + (13 * (names.length + 1) + 42) ≤ R.locals) (hRcells : cells + 1 ≤ R.cells) (hRslots : slots + 6 ≤ R.slots) (hlocks : meth.locks = false)
    (hx : ∀ t : State, s.vm.Alike t.vm → H.size ≤ t.heap.size → (∀ q : Nat, q < H.size → t.heap[q]? = H[q]?) → XC cls s t)
    (hf : ∀ z ∈ locs, free z.base) (hc : cells + 1 ≤ mc) (hs : slots + 6 ≤ ms) :
    W p l e R s m args below meth c H locs cells slots (vx_MQ below Qc XC args s mc ms free) (F0 m pc ls rest) := by
  intro T hT X
  have htr : e.platform.stackTraces = false := (show e.platform.stackTraces = l.stackTraces by rw [X.admits.platform]).trans hl
  have Y := vx_rebase X (R' := { frames := R.frames, locals := R.locals, cells := 1, slots := 6 }) (Nat.le_refl _) (Nat.le_refl _) hRcells hRslots
  obtain ⟨s', hA⟩ : ∃ z, z = (T.setVm s.vm).setFrames (.invoking m args :: below) := ⟨_, rfl⟩
  rw [← hA] at Y
  have hvm : s'.vm = s.vm := by rw [hA]; rfl
  have hhp : s'.heap = H := by rw [hA]; exact hT
  have hW0 : s.WarmedH s'.vm := by rw [hvm]; exact State.WarmedH.refl s
  have hat' : ∀ w ∈ vx_at0 own ic cls names, w.before args s' = true := fun w hw => vx_ot_at hW0 hvm.symm (hgood w (List.mem_cons_of_mem _ (List.mem_cons_of_mem _ hw))) (hat w hw)
  have hk' : (Cond.classLink own ik cls).before args s' = true := vx_ot_at hW0 hvm.symm (hgood _ List.mem_cons_self) hk
  have hini' : (Cond.initialized cls).before args s' = true := vx_ot_at hW0 hvm.symm (hgood _ (List.mem_cons_of_mem _ List.mem_cons_self)) hini
  have hU' : vx_Zq Bundle.tN "UNASSIGNED_STACK" Bundle.steD A s' s'.heap := by rw [hhp]; exact vx_Zq.moved hW0.alike (hU.kept hS.2.1)
  have hN' : vx_Zq Bundle.tN "SUPPRESSED_SENTINEL" Bundle.listD A s' s'.heap := by rw [hhp]; exact vx_Zq.moved hW0.alike (hN.kept hS.2.1)
  have h : ∀ w ∈ Bundle.ownAtoms0 own ic cls names, w.before args s' = true := vx_own hat' (vx_isRefq hU'.1) (vx_isRefq hN'.1) hU'.2.word hN'.2.word
  have hown' : s'.vm.findClass own = some m.cls := by rw [hvm]; exact hown
  have hins : (Cond.instantiable cls 6).before args s' = true := h _ (by simp [Bundle.ownAtoms0])
  obtain ⟨vm₁, cX, kX, hfX, hkX, -, -, X₁, st1⟩ := Y.newCold hexec (own := own) (C := cls) (index := ik) (n := 6) hown' hk' hins hini'
    (g := F0 m pc ls rest) rfl (by rw [hb]; exact d0) (Nat.le_refl _) (Nat.le_refl _)
  generalize hT1 : (T.setVm vm₁).pushCell { cls := cX, slots := kX.instanceTypes.map defaultValue, vm := .none } = T1 at X₁ st1
  have hcat : (Value.ref T.heap.size).category = 1 := rfl
  have hcellA : T1.heap[T.heap.size]? = some (freshCell cX kX) := by rw [← hT1]; exact State.heap_pushCell_size _ _
  have d3' : decode c.code (pc + 3) = .ok (.dup, 1) := by rw [hb]; exact d3
  obtain ⟨U, hsteps, hrun, hend, hW, hsame, ce, hce, hO⟩ := X₁.ctorThrow0 hexec htr (own := own) (cls := cls) (names := names) (ic := ic) hown' hcls hnames h (fun x hx => nomatch hx) hfX hkX hcellA (by rw [hhp, hT]; exact Nat.le_refl _)
    (g := { method := m, pc := pc + 4, locals := ls, stack := .ref T.heap.size :: .ref T.heap.size :: rest, locked := none }) rfl hsize rfl rfl (rest := rest) rfl
    (by rw [hb]; exact d4) (by rw [hb]; exact d7) hout hRframes (by simp only [List.map_cons, List.sum_cons, hcat]; omega) hlocks
  obtain ⟨f1, f2⟩ := vx_frame hsame
  rw [hhp] at f1 f2
  have hWs : s.WarmedH U.vm := State.WarmedH.trans hW0 hW
  have hcl : s.vm.findClass cls = some ce.cls := by
    have h9 := hO.cls
    rw [hvm] at h9
    exact h9
  have hall : s.sameButNew ({ U with vm := s.vm } : State) locs mc ms := by
    subst hA
    obtain ⟨e1, e2⟩ := hsame
    rw [State.setFrames_setFrames] at e1
    have h2 : (T.setVm s.vm).sameButNew ({ U with vm := s.vm } : State) [] (0 + 1) (0 + 6) := ⟨e1, e2⟩
    have h3 := X.same.trans h2
    rw [List.append_nil] at h3
    exact h3.mono hc hs
  refine ⟨U, ?_, .threw T.heap.size, hrun, hend, Or.inr ⟨T.heap.size, rfl, cls, ce, locs, hx U hWs.alike f1 (fun q hq => f2 q hq (fun z hz => nomatch hz)), hce, hO.vm, hcl, hWs, hall, hf⟩⟩
  refine st1 _ ?_
  show Steps p.tables e below (T1.setTop { method := m, pc := pc + 3, locals := ls, stack := .ref T.heap.size :: rest, locked := none }) _
  jvm_step X₁.here [X₁.here.top, hexec, d3', Value.category]
  exact hsteps
/-- 'throw new E("text")': new; dup; ldc; invokespecial; athrow -/
theorem vx_throwS {cc : ByteArray} {pc : Nat} (hexec : p.tables.exec = Jvm.exec) (hb : c.code = cc) (hl : l.stackTraces = false) {own cls text : String} {names : List String} {ik is ic mc ms sa : Nat} {A : Nat → Prop}
    (hown : s.vm.findClass own = some m.cls) (hcls : Bundle.fit cls = true) (hnames : ∀ n ∈ names, Bundle.fit n = true)
    (hk : (Cond.classLink own ik cls).before args s = true) (hini : (Cond.initialized cls).before args s = true) (hstr : vk_R own is text sa s) (hat : ∀ w ∈ vx_atS own ic cls names, w.before args s = true)
    (hgood : ∀ w ∈ Cond.classLink own ik cls :: Cond.initialized cls :: vx_atS own ic cls names, vx_ot w = true)
    (hU : vx_Zq Bundle.tN "UNASSIGNED_STACK" Bundle.steD A s s.heap) (hN : vx_Zq Bundle.tN "SUPPRESSED_SENTINEL" Bundle.listD A s s.heap) (hS : va_S A s.heap H locs) (hsize : ls.size = c.maxLocals)
    (d0 : decode cc pc = .ok (.new ik, 3)) (d3 : decode cc (pc + 3) = .ok (.dup, 1)) (d4 : decode cc (pc + 4) = .ok (.ldc is, 2)) (d6 : decode cc (pc + 6) = .ok (.invokespecial ic, 3)) (d9 : decode cc (pc + 9) = .ok (.athrow, 1))
    (hout : ∀ x ∈ c.exceptionTable.toList, covers x (pc + 9) = false)
    (hRframes : names.length + 3 < R.frames) (hRlocals : (rest.map fun v => v.category).sum + (13 * (names.length + 1) + 43) ≤ R.locals) (hRcells : cells + 1 ≤ R.cells) (hRslots : slots + 6 ≤ R.slots) (hlocks : meth.locks = false)
    (hx : ∀ t : State, s.vm.Alike t.vm → H.size ≤ t.heap.size → (∀ q : Nat, q < H.size → t.heap[q]? = H[q]?) → XC cls s t)
    (hf : ∀ z ∈ locs, free z.base) (hc : cells + 1 ≤ mc) (hs : slots + 6 ≤ ms) :
    W p l e R s m args below meth c H locs cells slots (vx_MQ below Qc XC args s mc ms free) (F0 m pc ls rest) := by
  intro T hT X
  have htr : e.platform.stackTraces = false := (show e.platform.stackTraces = l.stackTraces by rw [X.admits.platform]).trans hl
  have Y := vx_rebase X (R' := { frames := R.frames, locals := R.locals, cells := 1, slots := 6 }) (Nat.le_refl _) (Nat.le_refl _) hRcells hRslots
  obtain ⟨s', hA⟩ : ∃ z, z = (T.setVm s.vm).setFrames (.invoking m args :: below) := ⟨_, rfl⟩
  rw [← hA] at Y
  have hvm : s'.vm = s.vm := by rw [hA]; rfl
  have hhp : s'.heap = H := by rw [hA]; exact hT
  have hW0 : s.WarmedH s'.vm := by rw [hvm]; exact State.WarmedH.refl s
  have hat' : ∀ w ∈ vx_atS own ic cls names, w.before args s' = true := fun w hw => vx_ot_at hW0 hvm.symm (hgood w (List.mem_cons_of_mem _ (List.mem_cons_of_mem _ hw))) (hat w hw)
  have hk' : (Cond.classLink own ik cls).before args s' = true := vx_ot_at hW0 hvm.symm (hgood _ List.mem_cons_self) hk
  have hini' : (Cond.initialized cls).before args s' = true := vx_ot_at hW0 hvm.symm (hgood _ (List.mem_cons_of_mem _ List.mem_cons_self)) hini
  have hU' : vx_Zq Bundle.tN "UNASSIGNED_STACK" Bundle.steD A s' s'.heap := by rw [hhp]; exact vx_Zq.moved hW0.alike (hU.kept hS.2.1)
  have hN' : vx_Zq Bundle.tN "SUPPRESSED_SENTINEL" Bundle.listD A s' s'.heap := by rw [hhp]; exact vx_Zq.moved hW0.alike (hN.kept hS.2.1)
  have h : ∀ w ∈ Bundle.ownAtoms own ic cls names, w.before args s' = true := vx_own hat' (vx_isRefq hU'.1) (vx_isRefq hN'.1) hU'.2.word hN'.2.word
  have hown' : s'.vm.findClass own = some m.cls := by rw [hvm]; exact hown
  have hins : (Cond.instantiable cls 6).before args s' = true := h _ (by simp [Bundle.ownAtoms])
  obtain ⟨vm₁, cX, kX, hfX, hkX, -, -, X₁, st1⟩ := Y.newCold hexec (own := own) (C := cls) (index := ik) (n := 6) hown' hk' hins hini'
    (g := F0 m pc ls rest) rfl (by rw [hb]; exact d0) (Nat.le_refl _) (Nat.le_refl _)
  generalize hT1 : (T.setVm vm₁).pushCell { cls := cX, slots := kX.instanceTypes.map defaultValue, vm := .none } = T1 at X₁ st1
  have hcat : (Value.ref T.heap.size).category = 1 := rfl
  have hcellA : T1.heap[T.heap.size]? = some (freshCell cX kX) := by rw [← hT1]; exact State.heap_pushCell_size _ _
  have d3' : decode c.code (pc + 3) = .ok (.dup, 1) := by rw [hb]; exact d3
  have d4' : decode c.code (pc + 4) = .ok (.ldc is, 2) := by rw [hb]; exact d4
  have hstr' : vk_R own is text sa s' := vk_R.warm hW0 hstr
  obtain ⟨U, hsteps, hrun, hend, hW, hsame, ce, hce, hO⟩ := X₁.ctorThrowS hexec htr (own := own) (cls := cls) (names := names) (ic := ic) hown' hcls hnames h (fun x hx => nomatch hx) hfX hkX hcellA (by rw [hhp, hT]; exact Nat.le_refl _) (msg := .ref sa) rfl
    (g := { method := m, pc := pc + 6, locals := ls, stack := .ref sa :: .ref T.heap.size :: .ref T.heap.size :: rest, locked := none }) rfl hsize rfl rfl (rest := rest) rfl
    (by rw [hb]; exact d6) (by rw [hb]; exact d9) hout hRframes (by simp only [List.map_cons, List.sum_cons, hcat]; omega) hlocks
  obtain ⟨f1, f2⟩ := vx_frame hsame
  rw [hhp] at f1 f2
  have hWs : s.WarmedH U.vm := State.WarmedH.trans hW0 hW
  have hcl : s.vm.findClass cls = some ce.cls := by
    have h9 := hO.cls
    rw [hvm] at h9
    exact h9
  have hall : s.sameButNew ({ U with vm := s.vm } : State) locs mc ms := by
    subst hA
    obtain ⟨e1, e2⟩ := hsame
    rw [State.setFrames_setFrames] at e1
    have h2 : (T.setVm s.vm).sameButNew ({ U with vm := s.vm } : State) [] (0 + 1) (0 + 6) := ⟨e1, e2⟩
    have h3 := X.same.trans h2
    rw [List.append_nil] at h3
    exact h3.mono hc hs
  refine ⟨U, ?_, .threw T.heap.size, hrun, hend, Or.inr ⟨T.heap.size, rfl, cls, ce, locs, hx U hWs.alike f1 (fun q hq => f2 q hq (fun z hz => nomatch hz)), hce, hO.vm, hcl, hWs, hall, hf⟩⟩
  refine st1 _ ?_
  show Steps p.tables e below (T1.setTop { method := m, pc := pc + 3, locals := ls, stack := .ref T.heap.size :: rest, locked := none }) _
  jvm_step X₁.here [X₁.here.top, hexec, d3', Value.category]
  exact X₁.ldcString hexec (own := own) (text := text) (index := is) (a := sa) hown' hstr'.1 hstr'.2
    (g := { method := m, pc := pc + 4, locals := ls, stack := .ref T.heap.size :: .ref T.heap.size :: rest, locked := none }) rfl d4' _ hsteps
/-- 'throw new E("text")', the text by a wide index -/
theorem vx_throwSW {cc : ByteArray} {pc : Nat} (hexec : p.tables.exec = Jvm.exec) (hb : c.code = cc) (hl : l.stackTraces = false) {own cls text : String} {names : List String} {ik is ic mc ms sa : Nat} {A : Nat → Prop}
    (hown : s.vm.findClass own = some m.cls) (hcls : Bundle.fit cls = true) (hnames : ∀ n ∈ names, Bundle.fit n = true)
    (hk : (Cond.classLink own ik cls).before args s = true) (hini : (Cond.initialized cls).before args s = true) (hstr : vk_R own is text sa s) (hat : ∀ w ∈ vx_atS own ic cls names, w.before args s = true)
    (hgood : ∀ w ∈ Cond.classLink own ik cls :: Cond.initialized cls :: vx_atS own ic cls names, vx_ot w = true)
    (hU : vx_Zq Bundle.tN "UNASSIGNED_STACK" Bundle.steD A s s.heap) (hN : vx_Zq Bundle.tN "SUPPRESSED_SENTINEL" Bundle.listD A s s.heap) (hS : va_S A s.heap H locs) (hsize : ls.size = c.maxLocals)
    (d0 : decode cc pc = .ok (.new ik, 3)) (d3 : decode cc (pc + 3) = .ok (.dup, 1)) (d4 : decode cc (pc + 4) = .ok (.ldc_w is, 3)) (d7 : decode cc (pc + 7) = .ok (.invokespecial ic, 3)) (d10 : decode cc (pc + 10) = .ok (.athrow, 1))
    (hout : ∀ x ∈ c.exceptionTable.toList, covers x (pc + 10) = false)
    (hRframes : names.length + 3 < R.frames) (hRlocals : (rest.map fun v => v.category).sum + (13 * (names.length + 1) + 43) ≤ R.locals) (hRcells : cells + 1 ≤ R.cells) (hRslots : slots + 6 ≤ R.slots) (hlocks : meth.locks = false)
    (hx : ∀ t : State, s.vm.Alike t.vm → H.size ≤ t.heap.size → (∀ q : Nat, q < H.size → t.heap[q]? = H[q]?) → XC cls s t)
    (hf : ∀ z ∈ locs, free z.base) (hc : cells + 1 ≤ mc) (hs : slots + 6 ≤ ms) :
    W p l e R s m args below meth c H locs cells slots (vx_MQ below Qc XC args s mc ms free) (F0 m pc ls rest) := by
  intro T hT X
  have htr : e.platform.stackTraces = false := (show e.platform.stackTraces = l.stackTraces by rw [X.admits.platform]).trans hl
  have Y := vx_rebase X (R' := { frames := R.frames, locals := R.locals, cells := 1, slots := 6 }) (Nat.le_refl _) (Nat.le_refl _) hRcells hRslots
  obtain ⟨s', hA⟩ : ∃ z, z = (T.setVm s.vm).setFrames (.invoking m args :: below) := ⟨_, rfl⟩
  rw [← hA] at Y
  have hvm : s'.vm = s.vm := by rw [hA]; rfl
  have hhp : s'.heap = H := by rw [hA]; exact hT
  have hW0 : s.WarmedH s'.vm := by rw [hvm]; exact State.WarmedH.refl s
  have hat' : ∀ w ∈ vx_atS own ic cls names, w.before args s' = true := fun w hw => vx_ot_at hW0 hvm.symm (hgood w (List.mem_cons_of_mem _ (List.mem_cons_of_mem _ hw))) (hat w hw)
  have hk' : (Cond.classLink own ik cls).before args s' = true := vx_ot_at hW0 hvm.symm (hgood _ List.mem_cons_self) hk
  have hini' : (Cond.initialized cls).before args s' = true := vx_ot_at hW0 hvm.symm (hgood _ (List.mem_cons_of_mem _ List.mem_cons_self)) hini
  have hU' : vx_Zq Bundle.tN "UNASSIGNED_STACK" Bundle.steD A s' s'.heap := by rw [hhp]; exact vx_Zq.moved hW0.alike (hU.kept hS.2.1)
  have hN' : vx_Zq Bundle.tN "SUPPRESSED_SENTINEL" Bundle.listD A s' s'.heap := by rw [hhp]; exact vx_Zq.moved hW0.alike (hN.kept hS.2.1)
  have h : ∀ w ∈ Bundle.ownAtoms own ic cls names, w.before args s' = true := vx_own hat' (vx_isRefq hU'.1) (vx_isRefq hN'.1) hU'.2.word hN'.2.word
  have hown' : s'.vm.findClass own = some m.cls := by rw [hvm]; exact hown
  have hins : (Cond.instantiable cls 6).before args s' = true := h _ (by simp [Bundle.ownAtoms])
  obtain ⟨vm₁, cX, kX, hfX, hkX, -, -, X₁, st1⟩ := Y.newCold hexec (own := own) (C := cls) (index := ik) (n := 6) hown' hk' hins hini'
    (g := F0 m pc ls rest) rfl (by rw [hb]; exact d0) (Nat.le_refl _) (Nat.le_refl _)
  generalize hT1 : (T.setVm vm₁).pushCell { cls := cX, slots := kX.instanceTypes.map defaultValue, vm := .none } = T1 at X₁ st1
  have hcat : (Value.ref T.heap.size).category = 1 := rfl
  have hcellA : T1.heap[T.heap.size]? = some (freshCell cX kX) := by rw [← hT1]; exact State.heap_pushCell_size _ _
  have d3' : decode c.code (pc + 3) = .ok (.dup, 1) := by rw [hb]; exact d3
  have d4' : decode c.code (pc + 4) = .ok (.ldc_w is, 3) := by rw [hb]; exact d4
  have hstr' : vk_R own is text sa s' := vk_R.warm hW0 hstr
  obtain ⟨U, hsteps, hrun, hend, hW, hsame, ce, hce, hO⟩ := X₁.ctorThrowS hexec htr (own := own) (cls := cls) (names := names) (ic := ic) hown' hcls hnames h (fun x hx => nomatch hx) hfX hkX hcellA (by rw [hhp, hT]; exact Nat.le_refl _) (msg := .ref sa) rfl
    (g := { method := m, pc := pc + 7, locals := ls, stack := .ref sa :: .ref T.heap.size :: .ref T.heap.size :: rest, locked := none }) rfl hsize rfl rfl (rest := rest) rfl
    (by rw [hb]; exact d7) (by rw [hb]; exact d10) hout hRframes (by simp only [List.map_cons, List.sum_cons, hcat]; omega) hlocks
  obtain ⟨f1, f2⟩ := vx_frame hsame
  rw [hhp] at f1 f2
  have hWs : s.WarmedH U.vm := State.WarmedH.trans hW0 hW
  have hcl : s.vm.findClass cls = some ce.cls := by
    have h9 := hO.cls
    rw [hvm] at h9
    exact h9
  have hall : s.sameButNew ({ U with vm := s.vm } : State) locs mc ms := by
    subst hA
    obtain ⟨e1, e2⟩ := hsame
    rw [State.setFrames_setFrames] at e1
    have h2 : (T.setVm s.vm).sameButNew ({ U with vm := s.vm } : State) [] (0 + 1) (0 + 6) := ⟨e1, e2⟩
    have h3 := X.same.trans h2
    rw [List.append_nil] at h3
    exact h3.mono hc hs
  refine ⟨U, ?_, .threw T.heap.size, hrun, hend, Or.inr ⟨T.heap.size, rfl, cls, ce, locs, hx U hWs.alike f1 (fun q hq => f2 q hq (fun z hz => nomatch hz)), hce, hO.vm, hcl, hWs, hall, hf⟩⟩
  refine st1 _ ?_
  show Steps p.tables e below (T1.setTop { method := m, pc := pc + 3, locals := ls, stack := .ref T.heap.size :: rest, locked := none }) _
  jvm_step X₁.here [X₁.here.top, hexec, d3', Value.category]
  exact X₁.ldcStringW hexec (own := own) (text := text) (index := is) (a := sa) hown' hstr'.1 hstr'.2
    (g := { method := m, pc := pc + 4, locals := ls, stack := .ref T.heap.size :: .ref T.heap.size :: rest, locked := none }) rfl d4' _ hsteps
end Ends
section Bodies
variable {l : Launch}
theorem vx_ofW {y : MethodName} {ws ws' : List Cond} {rm : Room} {Pc : Array Value → State → Prop} {Qc : Array Value → State → Outcome → State → Prop} {XC : String → State → State → Prop} {mc ms : Nat} {free : Addr → Prop} {cc : ByteArray} {maxL : Nat} {ret : Option FieldType}
    (hy : plainName y.cls = true) (hw : ws = Cond.code y cc maxL ret :: ws')
    (body : ∀ p e s m args below meth c s₁, BodyLoose p l y (headSpec ws rm) cc maxL ret e s m args below meth c s₁ → c.maxLocals = maxL → (∀ x ∈ c.exceptionTable.toList, False) → Pc args s →
      W p l e (headSpec ws rm).room s m args below meth c s.heap [] 0 0 (vx_MQ below Qc XC args s mc ms free) (entryFrame m args maxL)) : vx_Met l y ws rm Pc Qc XC mc ms free := by
  refine MetFree.of_bodyS (code := cc) (maxLocals := maxL) (ret := ret) hy ?_ ?_
  · intro args s m h hn
    obtain ⟨meth, c, h1, h2, h3, h4, h5, h6, -, -⟩ := Cond.code_spec hn (atoms_spec (ws := ws) h _ (by rw [hw]; exact List.mem_cons_self))
    exact ⟨meth, c, h1, h2, h3, h4, h5, h6⟩
  · intro p e s m args below meth c s₁ B hml hP _
    have hh0 : s₁.heap = s.heap := by rw [B.state]; rfl
    have ht : ∀ x ∈ c.exceptionTable.toList, False := by
      obtain ⟨meth9, c9, h1, h2, -, -, -, -, h7, -⟩ := Cond.code_spec B.named (atoms_spec (ws := ws) B.pre _ (by rw [hw]; exact List.mem_cons_self))
      cases Option.some.inj (h1.symm.trans B.method)
      cases Option.some.inj (h2.symm.trans (Stand.of_body B).code)
      intro x hx
      rw [Array.isEmpty_iff.mp h7] at hx
      cases hx
    obtain ⟨t, a1, o, b1, b2, b3⟩ := body p e s m args below meth c s₁ B hml ht hP s₁ hh0 (Stand.of_body B)
    exact ⟨t, o, a1, b1, b2, b3⟩
/-- the table of a body with handlers -/
theorem vx_table {p : Program} {x y : MethodName} {S : Spec} {cc bytes : ByteArray} {maxL maxL' : Nat} {ret ret' : Option FieldType} {e : Env} {s s₁ : State} {m : MethodId} {args : Array Value} {below : List Frame} {meth : Method} {c : Code} {hh : List (Nat × Nat × Nat × Nat)}
    (B : BodyLoose p l y S cc maxL ret e s m args below meth c s₁) (h : (Cond.codeWith y bytes maxL' ret' hh).before args s = true) : c.exceptionTable.toList = tableOf hh := by
  obtain ⟨m9, meth9, c9, hn9, h1, h2, -, -, h6, -⟩ := Cond.codeWith_spec h
  cases Option.some.inj (hn9.symm.trans B.named)
  cases Option.some.inj (h1.symm.trans B.method)
  cases Option.some.inj (h2.symm.trans (Stand.of_body B).code)
  rw [← h6, table_eq]
end Bodies
end VXA
/-! ===== END ===== -/
/-! ===== BEGIN a static call of a method with an exception table ===== -/
section VXS
variable {p : Program} {l : Launch} {e : Env} {R : Room} {s : State} {m : MethodId} {args : Array Value} {below : List Frame} {meth : Method} {c : Code} {T : State} {H : Heap} {locs : List Loc} {cells slots : Nat}
abbrev vx_CSW (R : Room) (s : State) (args : Array Value) (own : String) (index : Nat) (y : MethodName) (bytes : ByteArray) (maxL : Nat) (ret : Option FieldType) (hh : List (Nat × Nat × Nat × Nat)) (ws : List Cond) (rm : Room) (mc ms n : Nat) : Prop :=
  (rm.cells = mc ∧ rm.slots = ms ∧ rm.frames + 1 ≤ R.frames ∧ 8 + (maxL + 11) + rm.locals ≤ R.locals ∧ (∀ w ∈ ws, ∀ (a' : Array Value) (U : State), s.WarmedH U.vm → w.before a' U = true) ∧ Cond.codeWith y bytes maxL ret hh ∈ ws) ∧
  (Cond.codeWith y bytes maxL ret hh).before args s = true ∧ (Cond.initialized y.cls).before args s = true ∧ (y.cls ≠ "java/lang/invoke/MethodHandle" ∧ y.cls ≠ "java/lang/invoke/VarHandle") ∧
  (∀ sig, parseMethodDescriptor y.desc = some sig → n = sig.parameters.length) ∧ (Cond.methodLink own index y).before args s = true ∧ (Cond.static y).before args s = true
theorem vx_cwSW {own : String} {index maxL mc ms : Nat} {y : MethodName} {bytes : ByteArray} {ret : Option FieldType} {hh : List (Nat × Nat × Nat × Nat)} {Ts ws ws' : List Cond} {rm : Room} (n : Nat) (ht : ∀ w ∈ Ts, w.before args s = true) (hT : GoodIn Ts (va_wsS own index y ws)) (hw : ws = Cond.codeWith y bytes maxL ret hh :: ws') (hrc : rm.cells = mc) (hrs : rm.slots = ms)
    (hd : y.cls ≠ "java/lang/invoke/MethodHandle" ∧ y.cls ≠ "java/lang/invoke/VarHandle" ∧ (parseMethodDescriptor y.desc).map (fun d => d.parameters.length) = some n) (hR : rm.frames + 1 ≤ R.frames ∧ 8 + (maxL + 11) + rm.locals ≤ R.locals) :
    vx_CSW R s args own index y bytes maxL ret hh ws rm mc ms n := by
  have ok : ∀ w ∈ va_wsS own index y ws, w.before args s = true := fun w h => ht w (hT w h).1
  have hG : GoodIn Ts ws := fun w h => hT w (by unfold va_wsS; exact List.mem_append_right _ h)
  have hc : Cond.codeWith y bytes maxL ret hh ∈ ws := by rw [hw]; exact List.mem_cons_self
  refine ⟨⟨hrc, hrs, hR.1, hR.2, pay_in ht hG, hc⟩, ht _ (hG _ hc).1, ok _ (by simp [va_wsS]), ⟨hd.1, hd.2.1⟩, fun sig h => ?_, ok _ (by simp [va_wsS]), ok _ (by simp [va_wsS])⟩
  have h2 := hd.2.2
  rw [h] at h2
  exact (Option.some.inj h2).symm
theorem vx_callSW (X : Stand p l e R s m args below meth c T locs cells slots) (hexec : p.tables.exec = Jvm.exec) {own : String} {index : Nat} {y : MethodName} {bytes : ByteArray} {maxL : Nat} {ret : Option FieldType} {hh : List (Nat × Nat × Nat × Nat)}
    (hown : s.vm.findClass own = some m.cls) (hlink : (Cond.methodLink own index y).before args s = true) (hstat : (Cond.static y).before args s = true) (hinit : (Cond.initialized y.cls).before args s = true)
    (hcode : (Cond.codeWith y bytes maxL ret hh).before args s = true) (hy : y.cls ≠ "java/lang/invoke/MethodHandle" ∧ y.cls ≠ "java/lang/invoke/VarHandle")
    {W9 : Nat} {Pre : Pt → Array Value → Prop} {Post : Pt → Array Value → Option Value → Pt → Prop} (hK : Back l R p e below s args y 3 W9 Pre Post)
    {g : JFrame} (hg : g.method = m) (hsize : g.locals.size = c.maxLocals) {argsL rest : List Value} (hlen : ∀ sig, parseMethodDescriptor y.desc = some sig → argsL.length = sig.parameters.length)
    (hstack : g.stack = argsL.reverse ++ rest) (hW : 2 * g.monitorRoom + (rest.map fun v => v.category).sum ≤ W9) (hdg : decode c.code g.pc = .ok (.invokestatic index, 3))
    (hpre : ∀ vm₁, s.WarmedH vm₁ → Pre ⟨T.setVm vm₁, locs, cells, slots⟩ argsL.toArray) :
    ∃ (v : Option Value) (vm₁ : Vm) (B : Pt), s.WarmedH vm₁ ∧ Stand p l e R s m args below meth c B.U B.locs B.cells B.slots ∧ Post ⟨T.setVm vm₁, locs, cells, slots⟩ argsL.toArray v B ∧
      ∀ target, Steps p.tables e below (B.U.setTop { g with pc := g.pc + 3, stack := v.toList ++ rest }) target → Steps p.tables e below (T.setTop g) target := by
  obtain ⟨mk, methM, cM, hnamed, hmethM, -, -, -, -, -, -, hsigM⟩ := Cond.codeWith_spec hcode
  have hstatic : methM.isStatic = true := Cond.static_spec hnamed hmethM hstat
  obtain ⟨kP, hkP, -⟩ := className_of_methodNamed hnamed
  have hinitP : kP.init = .initialized := Cond.initialized_spec (findClass_of_methodNamed hnamed) hkP hinit
  obtain ⟨vm₁, X₁, hstep₁⟩ := X.invokestatic hexec hown hlink hnamed hmethM hstatic hkP hinitP hy (g := g) hg (argsL := argsL) (rest := rest) (hlen _ hsigM) hstack hdg
  obtain ⟨v, B, X', hpost, hsteps⟩ := hK m meth c ⟨T.setVm vm₁, locs, cells, slots⟩ { g with stack := rest } (.invokestatic index) mk argsL.toArray X₁ hg hsize hdg hW (X₁.named hnamed) (hpre vm₁ X₁.warmed)
  exact ⟨v, vm₁, B, X₁.warmed, X', hpost, fun target h => hstep₁ _ fun acts => by rw [doInvoke_state]; exact hsteps.trans h⟩
theorem vx_runSW {y : MethodName} {bytes cc : ByteArray} {maxL nL mc ms n index : Nat} {ret : Option FieldType} {hh : List (Nat × Nat × Nat × Nat)} {ws : List Cond} {rm : Room} {Pc : Array Value → State → Prop} {Qc : Array Value → State → Outcome → State → Prop} {free : Addr → Prop} {Ts : List Cond} {own : String} {As rest : List Value} {g : JFrame}
    (S : CallFix p m c cc nL s args Ts own) (hM : Met l y ws rm Pc Qc mc ms free) (cw : vx_CSW R s args own index y bytes maxL ret hh ws rm mc ms n) (hp : PreS s H Pc As)
    (hg : g.method = m) (hn : As.length = n) (hsize : g.locals.size = nL) (hstack : g.stack = As.reverse ++ rest) (hW : 2 * g.monitorRoom + (rest.map fun v => v.category).sum ≤ 8) (hdg : decode cc g.pc = .ok (.invokestatic index, 3)) (hf : cells + mc ≤ R.cells ∧ slots + ms ≤ R.slots) :
    va_Run p l e R s m args below meth c H locs cells slots mc ms g rest (Qc As.toArray) (free) := by
  obtain ⟨⟨hrc, hrs, hfr, hlo, hws, hcw⟩, hcode, hini, hy, hlen, hl, hstt⟩ := cw
  have hK : Back l R p e below s args y 3 8 (PreOf R mc ms Pc) (PostOf Qc mc ms free) := va_backW (hh := hh) (bytes := bytes) (maxL := maxL) (ret := ret) hM hp.1 hrc hrs hfr hlo hws hcw (fun a' U hW => word_at hW (Or.inl (by first | rfl | simp [Cond.onTables, Cond.keeps, Cond.steady])) hini)
  obtain ⟨hx, hb, hml, ho, -⟩ := S
  intro T hT X
  obtain ⟨v, vm₁, ⟨U', l2, c2, s2⟩, hW₁, X', ⟨g', mk, t, L, e1, e2, hq, h1, hL, h2, h3⟩, st⟩ := vx_callSW X hx (hh := hh) (bytes := bytes) (maxL := maxL) (ret := ret) ho hl hstt hini hcode hy hK hg (hsize.trans hml.symm) (argsL := As) (rest := rest) (fun sig h => hn.trans (hlen sig h)) hstack hW (by rw [hb]; exact hdg)
    (fun vm₁ hW₁ => ⟨hf.1, hf.2, hp.2 (T.setVm vm₁) hT hW₁⟩)
  dsimp only [Pt.U, Pt.locs, Pt.cells, Pt.slots] at X' e1 e2 h1 h2 h3 st
  subst h1; subst h2; subst h3
  exact ⟨v, (T.setVm vm₁).calling g' mk As.toArray, t, U', L, hT, X', hL, e1, e2, hq, st⟩
/-- not caught here, past rows that name other classes: it goes on to the caller -/
theorem vx_outP {p : Program} {l : Launch} {e : Env} {R : Room} {s : State} {m : MethodId} {args : Array Value} {below : List Frame} {meth : Method} {c : Code} {H : Heap} {locs : List Loc} {cells slots : Nat} {free : Addr → Prop} {ls : Array Slot} {rest : List Value} {Qc : Array Value → State → Outcome → State → Prop} {XC : String → State → State → Prop}
    {pc : Nat} {own E : String} {ce : Cell} {q : Addr} {mc ms : Nat} (hown : s.vm.findClass own = some m.cls) (hlocks : meth.locks = false)
    (hpass : ∀ z ∈ c.exceptionTable.toList, covers z pc = false ∨ (z.catchType ≠ 0 ∧ ∃ nm : String, (Cond.classLink own z.catchType nm).before args s = true ∧ va_Nc E nm s)) (hcell : H[q]? = some ce) (hv : ce.vm = .none) (hcl : s.vm.findClass E = some ce.cls)
    (hx : ∀ t : State, t.heap = H → s.vm.Alike t.vm → XC E s t) (hf : ∀ z ∈ locs, free z.base) (hc : cells ≤ mc) (hs : slots ≤ ms) :
    vx_W p l e R s m args below meth c H locs cells slots (vx_MQ below Qc XC args s mc ms free) (F0 m pc ls rest) q := by
  intro T hT X
  have hpl : e.platform.magicAccessors = ({} : Platform).magicAccessors := by rw [X.admits.platform]
  obtain ⟨vm', hW', X', st⟩ := X.outThrough hlocks q (g := F0 m pc ls rest) rfl rfl rfl (cell := ce) (by rw [hT]; exact hcell) (by rw [hv]; rfl)
    (by obtain ⟨k9, h9, -⟩ := Vm.findClass_spec hcl; exact ⟨k9, h9⟩) (fun z hz => by
      rcases hpass z hz with h | ⟨hz0, nm, hl1, hn1⟩
      · exact Or.inl h
      · obtain ⟨c6, hc6, hcl6⟩ := Cond.classLink_spec hown hl1 e.platform hpl
        obtain ⟨a8, b8, h1, h2, h3⟩ := hn1
        cases Option.some.inj (h1.symm.trans hcl)
        cases Option.some.inj (h2.symm.trans hc6)
        exact Or.inr ⟨hz0, _, hcl6, h3⟩)
  obtain ⟨g₀, hfr⟩ := X'.frames_eq
  have hcell9 : ((T.setVm vm').setFrames (.throwing q :: below)).heap[q]? = some ce := by
    show T.heap[q]? = some ce
    rw [hT]; exact hcell
  have hend : Ended ((T.setVm vm').setFrames (.throwing q :: below)) below (.threw q) := State.frames_setFrames _ (State.cur_lt_of_frames hfr)
  refine ⟨(T.setVm vm').setFrames (.throwing q :: below), ?_, .threw q, X'.here.running, hend, Or.inr ⟨q, rfl, E, ce, locs, hx _ hT (X'.ends _).1.alike, hcell9, hv, hcl, (X'.ends _).1, (X'.ends _).2.mono hc hs, hf⟩⟩
  rw [X.pushThrowing_eq]
  exact st
/-- a thing of a world lies in the heap -/
theorem vx_lt {D : va_G} {cl : List vw_C} {ws : va_W} {H1 : Heap} (h : va_P D cl ws H1) {k : Nat} {q : Nat × va_E} (hk : ws[k]? = some q) : q.1 < H1.size := (h k q hk).lt
end VXS
/-! ===== END ===== -/
/-! ===== BEGIN methods with a table of their own: called by a name, returning or throwing ===== -/
section VXH
/-! vx_backW, vx_callVX, vx_callSX, vx_callVW, vx_runVW, vx_runVX, vx_runSX, vx_ofWH follow the same proofs as their sisters above (Free/Laws.lean, Shelf42/LK1.lean); vx_outP calls Shelf42/NT130.lean (outThrough). -/
section
variable {l : Launch} {R : Room} {p : Program} {e : Env} {below : List Frame} {s : State} {sargs : Array Value} {y : MethodName} {len W9 : Nat}
theorem vx_backW {ws : List Cond} {rm : Room} {Pc : Array Value → State → Prop} {Qc : Array Value → State → Outcome → State → Prop} {XC : String → State → State → Prop} {mc ms : Nat} {free : Addr → Prop} {bytes : ByteArray} {maxL : Nat} {ret : Option FieldType} {hh : List (Nat × Nat × Nat × Nat)}
    (hM : vx_Met l y ws rm Pc Qc XC mc ms free) (hblind : FrameBlind Pc) (hrc : rm.cells = mc) (hrs : rm.slots = ms)
    (hframes : rm.frames + 1 ≤ R.frames) (hlocals : W9 + (maxL + 11) + rm.locals ≤ R.locals)
    (hws : ∀ w ∈ ws, ∀ a' U, s.WarmedH U.vm → w.before a' U = true) (hcode : Cond.codeWith y bytes maxL ret hh ∈ ws) (hinit : ∀ a' U, s.WarmedH U.vm → (Cond.initialized y.cls).before a' U = true) :
    vx_Back l R p e below s sargs y len W9 (PreOf R mc ms Pc) (PostOf Qc mc ms free) (vx_Post XC mc ms free) := by
  intro m meth c A g ig mk a X hg hsize hdg hW hn hp
  have h1 : (headSpec ws rm).pre.before a A.U = true := atoms_intro fun w hw => hws w hw _ _ X.warmed
  have h2 : (Cond.codeWith y bytes maxL ret hh).before a A.U = true := hws _ hcode _ _ X.warmed
  have h3 : (Cond.initialized y.cls).before a A.U = true := hinit _ _ X.warmed
  have h4 : A.cells + (headSpec ws rm).room.cells ≤ R.cells := by rw [show (headSpec ws rm).room.cells = mc from hrc]; exact hp.1
  have h5 : A.slots + (headSpec ws rm).room.slots ≤ R.slots := by rw [show (headSpec ws rm).room.slots = ms from hrs]; exact hp.2.1
  have hPc : Pc a (A.U.calling g mk a) := hblind _ _ _ _ hp.2.2
  obtain ⟨U, Ls, c0, s0⟩ := A
  dsimp only [Pt.U, Pt.locs, Pt.cells, Pt.slots] at h1 h2 h3 h4 h5 X hn hPc ⊢
  obtain ⟨m9, methY, cY, hn9, hmY, hcY, -, hlY, -⟩ := Cond.codeWith_spec h2
  cases Option.some.inj (hn9.symm.trans hn)
  obtain ⟨kY, hkY, -⟩ := className_of_methodNamed hn
  have hinitY : kY.init = .initialized := Cond.initialized_spec (findClass_of_methodNamed hn) hkY h3
  have h : At U g.method c below := by rw [hg]; exact X.here
  have hlocals9 : W9 + (maxL + 11) + (headSpec ws rm).room.locals ≤ R.locals := hlocals
  have happ : (headSpec ws rm).appliesLoose y e.platform (U.calling g mk a) = true :=
    Spec.appliesLoose_calling (g := g) h hdg hn hkY hinitY
      (X.room_calling (g := g) (R' := (headSpec ws rm).room) hsize hmY hcY hframes (by rw [hlY]; omega) h4 h5) h1
  obtain ⟨mid, hmid⟩ := h.above
  have hfr : (U.setTop g).frames = (.java g :: mid) ++ below := by rw [State.frames_setTop' g h.top, hmid]; rfl
  obtain ⟨o, s₂, hsteps, -, hend, hq⟩ := Steps.callFree hM p X.admits X.cas X.clock (acts := []) hfr happ hPc trivial
  have hq' : vx_Q Qc XC mc ms free a (U.calling g mk a) o s₂ := hq
  rw [State.frames_setTop' g h.top] at hend
  obtain ⟨g₀, hg0⟩ := Option.isSome_iff_exists.mp h.top
  obtain ⟨r, hr⟩ := State.topJava?_eq_some.mp hg0
  have hr' : (({ U with heap := s₂.heap, slotsUsed := s₂.slotsUsed } : State).setVm s₂.vm).frames = .java g₀ :: r := hr
  rcases hq' with ⟨hqc, L, hfe, hL⟩ | ⟨q, rfl, E, ce, L, hx, hce, hcv, hcl, hW₂, hsm, hL⟩
  · obtain ⟨⟨v, rfl⟩, hW₂, e2, q2, q3, q4, q5, q6⟩ := id hfe
    have e3 : s₂ = ({ (U.calling g mk a).setFrames s₂.frames with heap := s₂.heap, slotsUsed := s₂.slotsUsed } : State).setVm s₂.vm := by
      have : s₂ = ({ s₂ with vm := (U.calling g mk a).vm } : State).setVm s₂.vm := rfl
      rw [e2] at this
      exact this
    obtain ⟨c₂, i₂, len₂, hc₂, hd₂, hf₂⟩ := hend
    have hW' : U.WarmedH s₂.vm := hW₂
    have hcc : c₂ = c := by
      have h1 : s₂.code? g.method = U.code? g.method := by
        rw [State.code?_eq, State.code?_eq, hW'.alike.method?]
      exact Option.some.inj (hc₂.symm.trans (h1.trans h.code))
    subst hcc
    have hlen : len₂ = len := by rw [hdg] at hd₂; cases hd₂; rfl
    subst hlen
    have hs₂ : s₂ = (({ U with heap := s₂.heap, slotsUsed := s₂.slotsUsed } : State).setVm s₂.vm).setTop { g with pc := g.pc + len₂, stack := v.toList ++ g.stack } := by
      refine e3.trans ?_
      rw [hf₂, State.calling_eq h.top, State.setFrames_setFrames, State.setTop_of_frames _ hr', hr]
      rfl
    have hsame : U.sameButNew ({ U with heap := s₂.heap, slotsUsed := s₂.slotsUsed } : State) L mc ms := by
      refine ⟨?_, q2, q3, q4, q5, q6⟩
      obtain ⟨t, ht, -⟩ := State.frames_cons hr
      show ({ U with heap := s₂.heap, slotsUsed := s₂.slotsUsed } : State) = { U.setFrames U.frames with heap := s₂.heap, slotsUsed := s₂.slotsUsed }
      rw [State.setFrames_self ht]
    subst hg
    refine Or.inl ⟨v, ⟨(({ U with heap := s₂.heap, slotsUsed := s₂.slotsUsed } : State).setVm s₂.vm), Ls ++ L, c0 + mc, s0 + ms⟩,
      ⟨X.admits, X.cas, X.clock, X.frames, X.room, X.hears, X.method, X.code, (X.here.setHeapUsed s₂.heap s₂.slotsUsed).setVm hW'.alike, X.tail, State.WarmedH.trans X.warmed hW', X.limits, X.bytes, X.same.trans (hsame.setVm s.vm)⟩,
      ⟨g, mk, s₂, L, rfl, rfl, hqc, rfl, hL, rfl, rfl⟩, ?_⟩
    show Steps p.tables e below _ ((({ U with heap := s₂.heap, slotsUsed := s₂.slotsUsed } : State).setVm s₂.vm).setTop { g with pc := g.pc + len₂, stack := v.toList ++ g.stack })
    rw [← hs₂]
    exact hsteps
  · obtain ⟨e2, q2, q3, q4, q5, q6⟩ := id hsm
    have e3 : s₂ = ({ (U.calling g mk a).setFrames s₂.frames with heap := s₂.heap, slotsUsed := s₂.slotsUsed } : State).setVm s₂.vm := by
      have : s₂ = ({ s₂ with vm := (U.calling g mk a).vm } : State).setVm s₂.vm := rfl
      rw [e2] at this
      exact this
    have hf₂ : s₂.frames = .throwing q :: .java g :: U.frames.tail := hend
    have hW' : U.WarmedH s₂.vm := hW₂
    have hs₂ : s₂ = ((({ U with heap := s₂.heap, slotsUsed := s₂.slotsUsed } : State).setVm s₂.vm).setTop g).pushFrame (.throwing q) := by
      refine e3.trans ?_
      rw [hf₂, State.calling_eq h.top, State.setFrames_setFrames, State.pushFrame, State.frames_setTop _ hr', State.setTop_of_frames _ hr', State.setFrames_setFrames, hr]
      rfl
    have hsame : U.sameButNew ({ U with heap := s₂.heap, slotsUsed := s₂.slotsUsed } : State) L mc ms := by
      refine ⟨?_, q2, q3, q4, q5, q6⟩
      obtain ⟨t, ht, -⟩ := State.frames_cons hr
      show ({ U with heap := s₂.heap, slotsUsed := s₂.slotsUsed } : State) = { U.setFrames U.frames with heap := s₂.heap, slotsUsed := s₂.slotsUsed }
      rw [State.setFrames_self ht]
    subst hg
    refine Or.inr ⟨q, ⟨(({ U with heap := s₂.heap, slotsUsed := s₂.slotsUsed } : State).setVm s₂.vm), Ls ++ L, c0 + mc, s0 + ms⟩,
      ⟨X.admits, X.cas, X.clock, X.frames, X.room, X.hears, X.method, X.code, (X.here.setHeapUsed s₂.heap s₂.slotsUsed).setVm hW'.alike, X.tail, State.WarmedH.trans X.warmed hW', X.limits, X.bytes, X.same.trans (hsame.setVm s.vm)⟩,
      ⟨g, mk, s₂, L, E, ce, rfl, rfl, hx, hce, hcv, hcl, rfl, hL, rfl, rfl⟩, ?_⟩
    show Steps p.tables e below _ (((({ U with heap := s₂.heap, slotsUsed := s₂.slotsUsed } : State).setVm s₂.vm).setTop g).pushFrame (.throwing q))
    rw [← hs₂]
    exact hsteps
end
variable {p : Program} {l : Launch} {e : Env} {R : Room} {s : State} {m : MethodId} {args : Array Value} {below : List Frame} {meth : Method} {c : Code} {T : State} {H : Heap} {locs : List Loc} {cells slots : Nat}
theorem vx_callVX (X : Stand p l e R s m args below meth c T locs cells slots) (hexec : p.tables.exec = Jvm.exec) {own C : String} {index : Nat} {y : MethodName} {bytes : ByteArray} {maxL : Nat} {ret : Option FieldType} {hh : List (Nat × Nat × Nat × Nat)}
    (hown : s.vm.findClass own = some m.cls) (hlink : (Cond.methodLink own index y).before args s = true) (hinst : (Cond.instanceMethod y).before args s = true) (hsel : (Cond.selects C y y).before args s = true)
    (hcode : (Cond.codeWith y bytes maxL ret hh).before args s = true) (hy : y.cls ≠ "java/lang/invoke/MethodHandle" ∧ y.cls ≠ "java/lang/invoke/VarHandle")
    {W9 : Nat} {Pre : Pt → Array Value → Prop} {Post : Pt → Array Value → Option Value → Pt → Prop} {PostX : Pt → Array Value → Addr → Pt → Prop} (hK : vx_Back l R p e below s args y 3 W9 Pre Post PostX)
    {b : Addr} {cellB : Cell} (hcell : T.heap[b]? = some cellB) (hobj : cellB.vm.isStatics = false) (hcls : s.vm.findClass C = some cellB.cls)
    {g : JFrame} (hg : g.method = m) (hsize : g.locals.size = c.maxLocals) {argsL rest : List Value} (hlen : ∀ sig, parseMethodDescriptor y.desc = some sig → argsL.length = sig.parameters.length)
    (hstack : g.stack = argsL.reverse ++ .ref b :: rest) (hW : 2 * g.monitorRoom + (rest.map fun v => v.category).sum ≤ W9) (hdg : decode c.code g.pc = .ok (.invokevirtual index, 3))
    (hpre : ∀ vm₁, s.WarmedH vm₁ → Pre ⟨T.setVm vm₁, locs, cells, slots⟩ (Value.ref b :: argsL).toArray) :
    (∃ (v : Option Value) (vm₁ : Vm) (B : Pt), s.WarmedH vm₁ ∧ Stand p l e R s m args below meth c B.U B.locs B.cells B.slots ∧ Post ⟨T.setVm vm₁, locs, cells, slots⟩ (Value.ref b :: argsL).toArray v B ∧
      ∀ target, Steps p.tables e below (B.U.setTop { g with pc := g.pc + 3, stack := v.toList ++ rest }) target → Steps p.tables e below (T.setTop g) target) ∨
    (∃ (q : Addr) (vm₁ : Vm) (B : Pt), s.WarmedH vm₁ ∧ Stand p l e R s m args below meth c B.U B.locs B.cells B.slots ∧ PostX ⟨T.setVm vm₁, locs, cells, slots⟩ (Value.ref b :: argsL).toArray q B ∧
      Steps p.tables e below (T.setTop g) ((B.U.setTop { g with stack := rest }).pushFrame (.throwing q))) := by
  obtain ⟨mk, methM, hnamed, hmethM, hstM, habM⟩ := Cond.instanceMethod_spec hinst
  obtain ⟨m8, methM', cM, hn8, hmethM', -, -, -, -, -, -, hsigM⟩ := Cond.codeWith_spec hcode
  cases Option.some.inj (hn8.symm.trans hnamed)
  cases hmethM.symm.trans hmethM'
  obtain ⟨c2, r2, m2, q1, q2, q3, q4, kP, hkP, hkPi⟩ := Cond.selects_spec hsel
  cases hcls.symm.trans q1
  cases (State.methodFound?_of_named hnamed hy).symm.trans q2
  cases hnamed.symm.trans q3
  have hselP : selectMethod e.platform s.vm cellB.cls mk = .method mk := by rw [Launch.admits_selectMethod X.admits]; exact q4
  obtain ⟨vm₁, X₁, hstep₁⟩ := X.invokevirtual hexec hown hlink hnamed hmethM hstM hkP hkPi hy (a := b) (cell := cellB) hcell
    (fun z h => by rw [h] at hobj; cases hobj) hselP hmethM habM hkP hkPi (g := g) hg (argsL := argsL) (rest := rest) (hlen _ hsigM) hstack hdg
  rcases hK m meth c ⟨T.setVm vm₁, locs, cells, slots⟩ { g with stack := rest } (.invokevirtual index) mk (Value.ref b :: argsL).toArray X₁ hg hsize hdg hW (X₁.named hnamed) (hpre vm₁ X₁.warmed) with ⟨v, B, X', hpost, hsteps⟩ | ⟨q, B, X', hpost, hsteps⟩
  · exact Or.inl ⟨v, vm₁, B, X₁.warmed, X', hpost, fun target h => hstep₁ _ fun acts => by rw [doInvoke_state]; exact hsteps.trans h⟩
  · exact Or.inr ⟨q, vm₁, B, X₁.warmed, X', hpost, hstep₁ _ fun acts => by rw [doInvoke_state]; exact hsteps⟩
theorem vx_callSX (X : Stand p l e R s m args below meth c T locs cells slots) (hexec : p.tables.exec = Jvm.exec) {own : String} {index : Nat} {y : MethodName} {bytes : ByteArray} {maxL : Nat} {ret : Option FieldType} {hh : List (Nat × Nat × Nat × Nat)}
    (hown : s.vm.findClass own = some m.cls) (hlink : (Cond.methodLink own index y).before args s = true) (hstat : (Cond.static y).before args s = true) (hinit : (Cond.initialized y.cls).before args s = true)
    (hcode : (Cond.codeWith y bytes maxL ret hh).before args s = true) (hy : y.cls ≠ "java/lang/invoke/MethodHandle" ∧ y.cls ≠ "java/lang/invoke/VarHandle")
    {W9 : Nat} {Pre : Pt → Array Value → Prop} {Post : Pt → Array Value → Option Value → Pt → Prop} {PostX : Pt → Array Value → Addr → Pt → Prop} (hK : vx_Back l R p e below s args y 3 W9 Pre Post PostX)
    {g : JFrame} (hg : g.method = m) (hsize : g.locals.size = c.maxLocals) {argsL rest : List Value} (hlen : ∀ sig, parseMethodDescriptor y.desc = some sig → argsL.length = sig.parameters.length)
    (hstack : g.stack = argsL.reverse ++ rest) (hW : 2 * g.monitorRoom + (rest.map fun v => v.category).sum ≤ W9) (hdg : decode c.code g.pc = .ok (.invokestatic index, 3))
    (hpre : ∀ vm₁, s.WarmedH vm₁ → Pre ⟨T.setVm vm₁, locs, cells, slots⟩ argsL.toArray) :
    (∃ (v : Option Value) (vm₁ : Vm) (B : Pt), s.WarmedH vm₁ ∧ Stand p l e R s m args below meth c B.U B.locs B.cells B.slots ∧ Post ⟨T.setVm vm₁, locs, cells, slots⟩ argsL.toArray v B ∧
      ∀ target, Steps p.tables e below (B.U.setTop { g with pc := g.pc + 3, stack := v.toList ++ rest }) target → Steps p.tables e below (T.setTop g) target) ∨
    (∃ (q : Addr) (vm₁ : Vm) (B : Pt), s.WarmedH vm₁ ∧ Stand p l e R s m args below meth c B.U B.locs B.cells B.slots ∧ PostX ⟨T.setVm vm₁, locs, cells, slots⟩ argsL.toArray q B ∧
      Steps p.tables e below (T.setTop g) ((B.U.setTop { g with stack := rest }).pushFrame (.throwing q))) := by
  obtain ⟨mk, methM, cM, hnamed, hmethM, -, -, -, -, -, -, hsigM⟩ := Cond.codeWith_spec hcode
  have hstatic : methM.isStatic = true := Cond.static_spec hnamed hmethM hstat
  obtain ⟨kP, hkP, -⟩ := className_of_methodNamed hnamed
  have hinitP : kP.init = .initialized := Cond.initialized_spec (findClass_of_methodNamed hnamed) hkP hinit
  obtain ⟨vm₁, X₁, hstep₁⟩ := X.invokestatic hexec hown hlink hnamed hmethM hstatic hkP hinitP hy (g := g) hg (argsL := argsL) (rest := rest) (hlen _ hsigM) hstack hdg
  rcases hK m meth c ⟨T.setVm vm₁, locs, cells, slots⟩ { g with stack := rest } (.invokestatic index) mk argsL.toArray X₁ hg hsize hdg hW (X₁.named hnamed) (hpre vm₁ X₁.warmed) with ⟨v, B, X', hpost, hsteps⟩ | ⟨q, B, X', hpost, hsteps⟩
  · exact Or.inl ⟨v, vm₁, B, X₁.warmed, X', hpost, fun target h => hstep₁ _ fun acts => by rw [doInvoke_state]; exact hsteps.trans h⟩
  · exact Or.inr ⟨q, vm₁, B, X₁.warmed, X', hpost, hstep₁ _ fun acts => by rw [doInvoke_state]; exact hsteps⟩
theorem vx_callVW (X : Stand p l e R s m args below meth c T locs cells slots) (hexec : p.tables.exec = Jvm.exec) {own C : String} {index : Nat} {y : MethodName} {bytes : ByteArray} {maxL : Nat} {ret : Option FieldType} {hh : List (Nat × Nat × Nat × Nat)}
    (hown : s.vm.findClass own = some m.cls) (hlink : (Cond.methodLink own index y).before args s = true) (hinst : (Cond.instanceMethod y).before args s = true) (hsel : (Cond.selects C y y).before args s = true)
    (hcode : (Cond.codeWith y bytes maxL ret hh).before args s = true) (hy : y.cls ≠ "java/lang/invoke/MethodHandle" ∧ y.cls ≠ "java/lang/invoke/VarHandle")
    {W9 : Nat} {Pre : Pt → Array Value → Prop} {Post : Pt → Array Value → Option Value → Pt → Prop} (hK : Back l R p e below s args y 3 W9 Pre Post)
    {b : Addr} {cellB : Cell} (hcell : T.heap[b]? = some cellB) (hobj : cellB.vm.isStatics = false) (hcls : s.vm.findClass C = some cellB.cls)
    {g : JFrame} (hg : g.method = m) (hsize : g.locals.size = c.maxLocals) {argsL rest : List Value} (hlen : ∀ sig, parseMethodDescriptor y.desc = some sig → argsL.length = sig.parameters.length)
    (hstack : g.stack = argsL.reverse ++ .ref b :: rest) (hW : 2 * g.monitorRoom + (rest.map fun v => v.category).sum ≤ W9) (hdg : decode c.code g.pc = .ok (.invokevirtual index, 3))
    (hpre : ∀ vm₁, s.WarmedH vm₁ → Pre ⟨T.setVm vm₁, locs, cells, slots⟩ (Value.ref b :: argsL).toArray) :
    ∃ (v : Option Value) (vm₁ : Vm) (B : Pt), s.WarmedH vm₁ ∧ Stand p l e R s m args below meth c B.U B.locs B.cells B.slots ∧ Post ⟨T.setVm vm₁, locs, cells, slots⟩ (Value.ref b :: argsL).toArray v B ∧
      ∀ target, Steps p.tables e below (B.U.setTop { g with pc := g.pc + 3, stack := v.toList ++ rest }) target → Steps p.tables e below (T.setTop g) target := by
  obtain ⟨mk, methM, hnamed, hmethM, hstM, habM⟩ := Cond.instanceMethod_spec hinst
  obtain ⟨m8, methM', cM, hn8, hmethM', -, -, -, -, -, -, hsigM⟩ := Cond.codeWith_spec hcode
  cases Option.some.inj (hn8.symm.trans hnamed)
  cases hmethM.symm.trans hmethM'
  obtain ⟨c2, r2, m2, q1, q2, q3, q4, kP, hkP, hkPi⟩ := Cond.selects_spec hsel
  cases hcls.symm.trans q1
  cases (State.methodFound?_of_named hnamed hy).symm.trans q2
  cases hnamed.symm.trans q3
  have hselP : selectMethod e.platform s.vm cellB.cls mk = .method mk := by rw [Launch.admits_selectMethod X.admits]; exact q4
  obtain ⟨vm₁, X₁, hstep₁⟩ := X.invokevirtual hexec hown hlink hnamed hmethM hstM hkP hkPi hy (a := b) (cell := cellB) hcell
    (fun z h => by rw [h] at hobj; cases hobj) hselP hmethM habM hkP hkPi (g := g) hg (argsL := argsL) (rest := rest) (hlen _ hsigM) hstack hdg
  obtain ⟨v, B, X', hpost, hsteps⟩ := hK m meth c ⟨T.setVm vm₁, locs, cells, slots⟩ { g with stack := rest } (.invokevirtual index) mk (Value.ref b :: argsL).toArray X₁ hg hsize hdg hW (X₁.named hnamed) (hpre vm₁ X₁.warmed)
  exact ⟨v, vm₁, B, X₁.warmed, X', hpost, fun target h => hstep₁ _ fun acts => by rw [doInvoke_state]; exact hsteps.trans h⟩
abbrev vx_CVW (R : Room) (s : State) (args : Array Value) (own C : String) (index : Nat) (y : MethodName) (bytes : ByteArray) (maxL : Nat) (ret : Option FieldType) (hh : List (Nat × Nat × Nat × Nat)) (ws : List Cond) (rm : Room) (mc ms n : Nat) : Prop :=
  (rm.cells = mc ∧ rm.slots = ms ∧ rm.frames + 1 ≤ R.frames ∧ 8 + (maxL + 11) + rm.locals ≤ R.locals ∧ (∀ w ∈ ws, ∀ (a' : Array Value) (U : State), s.WarmedH U.vm → w.before a' U = true) ∧ Cond.codeWith y bytes maxL ret hh ∈ ws) ∧
  (Cond.codeWith y bytes maxL ret hh).before args s = true ∧ (Cond.initialized y.cls).before args s = true ∧ (y.cls ≠ "java/lang/invoke/MethodHandle" ∧ y.cls ≠ "java/lang/invoke/VarHandle") ∧
  (∀ sig, parseMethodDescriptor y.desc = some sig → n = sig.parameters.length) ∧ (Cond.methodLink own index y).before args s = true ∧ (Cond.instanceMethod y).before args s = true ∧ (Cond.selects C y y).before args s = true
theorem vx_cwVW {own C : String} {index maxL mc ms : Nat} {y : MethodName} {bytes : ByteArray} {ret : Option FieldType} {hh : List (Nat × Nat × Nat × Nat)} {Ts ws ws' : List Cond} {rm : Room} (n : Nat) (ht : ∀ w ∈ Ts, w.before args s = true) (hT : GoodIn Ts (wsV own index C y ws)) (hw : ws = Cond.codeWith y bytes maxL ret hh :: ws') (hrc : rm.cells = mc) (hrs : rm.slots = ms)
    (hd : y.cls = C ∧ y.cls ≠ "java/lang/invoke/MethodHandle" ∧ y.cls ≠ "java/lang/invoke/VarHandle" ∧ (parseMethodDescriptor y.desc).map (fun d => d.parameters.length) = some n) (hR : rm.frames + 1 ≤ R.frames ∧ 8 + (maxL + 11) + rm.locals ≤ R.locals) :
    vx_CVW R s args own C index y bytes maxL ret hh ws rm mc ms n := by
  obtain ⟨hC, hd⟩ := hd
  subst hC
  have ok : ∀ w ∈ wsV own index y.cls y ws, w.before args s = true := fun w h => ht w (hT w h).1
  have hG : GoodIn Ts ws := fun w h => hT w (by unfold wsV; exact List.mem_append_right _ h)
  have hc : Cond.codeWith y bytes maxL ret hh ∈ ws := by rw [hw]; exact List.mem_cons_self
  refine ⟨⟨hrc, hrs, hR.1, hR.2, pay_in ht hG, hc⟩, ht _ (hG _ hc).1, ok _ (by simp [wsV]), ⟨hd.1, hd.2.1⟩, fun sig h => ?_, ok _ (by simp [wsV]), ok _ (by simp [wsV]), ok _ (by simp [wsV])⟩
  have h2 := hd.2.2
  rw [h] at h2
  exact (Option.some.inj h2).symm
theorem vx_runVW {y : MethodName} {bytes cc : ByteArray} {maxL nL mc ms n index : Nat} {ret : Option FieldType} {hh : List (Nat × Nat × Nat × Nat)} {ws : List Cond} {rm : Room} {Pc : Array Value → State → Prop} {Qc : Array Value → State → Outcome → State → Prop} {free : Addr → Prop} {Ts : List Cond} {own C : String} {b : Addr} {As rest : List Value} {g : JFrame}
    (S : CallFix p m c cc nL s args Ts own) (hM : Met l y ws rm Pc Qc mc ms free) (cw : vx_CVW R s args own C index y bytes maxL ret hh ws rm mc ms n) (hp : PreV s H C b Pc As)
    (hg : g.method = m) (hn : As.length = n) (hsize : g.locals.size = nL) (hstack : g.stack = As.reverse ++ .ref b :: rest) (hW : 2 * g.monitorRoom + (rest.map fun v => v.category).sum ≤ 8) (hdg : decode cc g.pc = .ok (.invokevirtual index, 3)) (hf : cells + mc ≤ R.cells ∧ slots + ms ≤ R.slots) :
    va_Run p l e R s m args below meth c H locs cells slots mc ms g rest (Qc (Value.ref b :: As).toArray) free := by
  obtain ⟨⟨hrc, hrs, hfr, hlo, hws, hcw⟩, hcode, hini, hy, hlen, hl, hin, hse⟩ := cw
  have hK : Back l R p e below s args y 3 8 (PreOf R mc ms Pc) (PostOf Qc mc ms free) := va_backW (hh := hh) (bytes := bytes) (maxL := maxL) (ret := ret) hM hp.1 hrc hrs hfr hlo hws hcw (fun a' U hW => word_at hW (Or.inl (by first | rfl | simp [Cond.onTables, Cond.keeps, Cond.steady])) hini)
  obtain ⟨hx, hb, hml, ho, -⟩ := S
  obtain ⟨-, ⟨cellB, hcB, hoB, hclB⟩, hPc⟩ := hp
  intro T hT X
  obtain ⟨v, vm₁, ⟨U', l2, c2, s2⟩, hW₁, X', ⟨g', mk, t, L, e1, e2, hq, h1, hL, h2, h3⟩, st⟩ := vx_callVW X hx (C := C) (hh := hh) (bytes := bytes) (maxL := maxL) (ret := ret) ho hl hin hse hcode hy hK (by rw [hT]; exact hcB) hoB hclB hg (hsize.trans hml.symm) (argsL := As) (rest := rest) (fun sig h => hn.trans (hlen sig h)) hstack hW (by rw [hb]; exact hdg)
    (fun vm₁ hW₁ => ⟨hf.1, hf.2, hPc (T.setVm vm₁) hT hW₁⟩)
  dsimp only [Pt.U, Pt.locs, Pt.cells, Pt.slots] at X' e1 e2 h1 h2 h3 st
  subst h1; subst h2; subst h3
  exact ⟨v, (T.setVm vm₁).calling g' mk (Value.ref b :: As).toArray, t, U', L, hT, X', hL, e1, e2, hq, st⟩
section
variable {y : MethodName} {bytes cc : ByteArray} {maxL nL mc ms n index : Nat} {ret : Option FieldType} {ws : List Cond} {rm : Room} {Pc : Array Value → State → Prop} {Qc : Array Value → State → Outcome → State → Prop} {XC : String → State → State → Prop} {free : Addr → Prop} {Ts : List Cond} {own C : String} {b : Addr} {As rest : List Value} {g : JFrame}
theorem vx_runVX {hh : List (Nat × Nat × Nat × Nat)} (S : CallFix p m c cc nL s args Ts own) (hM : vx_Met l y ws rm Pc Qc XC mc ms free) (cw : vx_CVW R s args own C index y bytes maxL ret hh ws rm mc ms n) (hp : PreV s H C b Pc As)
    (hg : g.method = m) (hn : As.length = n) (hsize : g.locals.size = nL) (hstack : g.stack = As.reverse ++ .ref b :: rest) (hW : 2 * g.monitorRoom + (rest.map fun v => v.category).sum ≤ 8) (hdg : decode cc g.pc = .ok (.invokevirtual index, 3)) (hf : cells + mc ≤ R.cells ∧ slots + ms ≤ R.slots) :
    vx_Run p l e R s m args below meth c H locs cells slots mc ms g rest (Qc (Value.ref b :: As).toArray) XC free := by
  obtain ⟨⟨hrc, hrs, hfr, hlo, hws, hcw⟩, hcode, hini, hy, hlen, hl, hin, hse⟩ := cw
  have hK : vx_Back l R p e below s args y 3 8 (PreOf R mc ms Pc) (PostOf Qc mc ms free) (vx_Post XC mc ms free) := vx_backW (hh := hh) (bytes := bytes) (maxL := maxL) (ret := ret) hM hp.1 hrc hrs hfr hlo hws hcw (fun a' U hW => word_at hW (Or.inl (by first | rfl | simp [Cond.onTables, Cond.keeps, Cond.steady])) hini)
  obtain ⟨hx, hb, hml, ho, -⟩ := S
  obtain ⟨-, ⟨cellB, hcB, hoB, hclB⟩, hPc⟩ := hp
  intro T hT X
  rcases vx_callVX X hx (C := C) (hh := hh) (bytes := bytes) (maxL := maxL) (ret := ret) ho hl hin hse hcode hy hK (by rw [hT]; exact hcB) hoB hclB hg (hsize.trans hml.symm) (argsL := As) (rest := rest) (fun sig h => hn.trans (hlen sig h)) hstack hW (by rw [hb]; exact hdg)
    (fun vm₁ hW₁ => ⟨hf.1, hf.2, hPc (T.setVm vm₁) hT hW₁⟩) with ⟨v, vm₁, ⟨U', l2, c2, s2⟩, hW₁, X', ⟨g', mk, t, L, e1, e2, hq, h1, hL, h2, h3⟩, st⟩ | ⟨q, vm₁, ⟨U', l2, c2, s2⟩, hW₁, X', ⟨g', mk, t, L, E, ce, e1, e2, hq, hce, hcv, hcl, h1, hL, h2, h3⟩, st⟩
  · dsimp only [Pt.U, Pt.locs, Pt.cells, Pt.slots] at X' e1 e2 h1 h2 h3 st
    subst h1; subst h2; subst h3
    exact Or.inl ⟨v, (T.setVm vm₁).calling g' mk (Value.ref b :: As).toArray, t, U', L, hT, X', hL, e1, e2, hq, st⟩
  · dsimp only [Pt.U, Pt.locs, Pt.cells, Pt.slots] at X' e1 e2 h1 h2 h3 st hcl
    subst h1; subst h2; subst h3
    exact Or.inr ⟨q, (T.setVm vm₁).calling g' mk (Value.ref b :: As).toArray, t, U', L, E, ce, hT, X', hL, e1, e2, hq, hce, hcv, vx_cls hW₁ hcl, st⟩
theorem vx_runSX {hh : List (Nat × Nat × Nat × Nat)} (S : CallFix p m c cc nL s args Ts own) (hM : vx_Met l y ws rm Pc Qc XC mc ms free) (cw : vx_CSW R s args own index y bytes maxL ret hh ws rm mc ms n) (hp : PreS s H Pc As)
    (hg : g.method = m) (hn : As.length = n) (hsize : g.locals.size = nL) (hstack : g.stack = As.reverse ++ rest) (hW : 2 * g.monitorRoom + (rest.map fun v => v.category).sum ≤ 8) (hdg : decode cc g.pc = .ok (.invokestatic index, 3)) (hf : cells + mc ≤ R.cells ∧ slots + ms ≤ R.slots) :
    vx_Run p l e R s m args below meth c H locs cells slots mc ms g rest (Qc As.toArray) XC free := by
  obtain ⟨⟨hrc, hrs, hfr, hlo, hws, hcw⟩, hcode, hini, hy, hlen, hl, hstt⟩ := cw
  have hK : vx_Back l R p e below s args y 3 8 (PreOf R mc ms Pc) (PostOf Qc mc ms free) (vx_Post XC mc ms free) := vx_backW (hh := hh) (bytes := bytes) (maxL := maxL) (ret := ret) hM hp.1 hrc hrs hfr hlo hws hcw (fun a' U hW => word_at hW (Or.inl (by first | rfl | simp [Cond.onTables, Cond.keeps, Cond.steady])) hini)
  obtain ⟨hx, hb, hml, ho, -⟩ := S
  intro T hT X
  rcases vx_callSX X hx (hh := hh) (bytes := bytes) (maxL := maxL) (ret := ret) ho hl hstt hini hcode hy hK hg (hsize.trans hml.symm) (argsL := As) (rest := rest) (fun sig h => hn.trans (hlen sig h)) hstack hW (by rw [hb]; exact hdg)
    (fun vm₁ hW₁ => ⟨hf.1, hf.2, hp.2 (T.setVm vm₁) hT hW₁⟩) with ⟨v, vm₁, ⟨U', l2, c2, s2⟩, hW₁, X', ⟨g', mk, t, L, e1, e2, hq, h1, hL, h2, h3⟩, st⟩ | ⟨q, vm₁, ⟨U', l2, c2, s2⟩, hW₁, X', ⟨g', mk, t, L, E, ce, e1, e2, hq, hce, hcv, hcl, h1, hL, h2, h3⟩, st⟩
  · dsimp only [Pt.U, Pt.locs, Pt.cells, Pt.slots] at X' e1 e2 h1 h2 h3 st
    subst h1; subst h2; subst h3
    exact Or.inl ⟨v, (T.setVm vm₁).calling g' mk As.toArray, t, U', L, hT, X', hL, e1, e2, hq, st⟩
  · dsimp only [Pt.U, Pt.locs, Pt.cells, Pt.slots] at X' e1 e2 h1 h2 h3 st hcl
    subst h1; subst h2; subst h3
    exact Or.inr ⟨q, (T.setVm vm₁).calling g' mk As.toArray, t, U', L, E, ce, hT, X', hL, e1, e2, hq, hce, hcv, vx_cls hW₁ hcl, st⟩
end
end VXH
theorem vx_ofWH {l : Launch} {y : MethodName} {ws ws' : List Cond} {rm : Room} {Pc : Array Value → State → Prop} {Qc : Array Value → State → Outcome → State → Prop} {XC : String → State → State → Prop} {mc ms : Nat} {free : Addr → Prop} {cc : ByteArray} {maxL : Nat} {ret : Option FieldType} {hh : List (Nat × Nat × Nat × Nat)}
    (hy : plainName y.cls = true) (hw : ws = Cond.codeWith y cc maxL ret hh :: ws')
    (body : ∀ p e s m args below meth c s₁, BodyLoose p l y (headSpec ws rm) cc maxL ret e s m args below meth c s₁ → c.maxLocals = maxL → Pc args s →
      W p l e (headSpec ws rm).room s m args below meth c s.heap [] 0 0 (vx_MQ below Qc XC args s mc ms free) (entryFrame m args maxL)) : vx_Met l y ws rm Pc Qc XC mc ms free := by
  refine MetFree.of_bodyS (code := cc) (maxLocals := maxL) (ret := ret) hy ?_ ?_
  · intro args s m h hn
    obtain ⟨m9, meth, c, hn9, h1, h2, h3, h4, -, h5, h6, -⟩ := Cond.codeWith_spec (atoms_spec (ws := ws) h _ (by rw [hw]; exact List.mem_cons_self))
    cases hn.symm.trans hn9
    exact ⟨meth, c, h1, h2, h3, h4, h5, h6⟩
  · intro p e s m args below meth c s₁ B hml hP _
    have hh0 : s₁.heap = s.heap := by rw [B.state]; rfl
    obtain ⟨t, a1, o, b1, b2, b3⟩ := body p e s m args below meth c s₁ B hml hP s₁ hh0 (Stand.of_body B)
    exact ⟨t, o, a1, b1, b2, b3⟩
/-! ===== END ===== -/
/-! ===== BEGIN what the machine throws by itself, no traces kept ===== -/
section VXM
set_option maxHeartbeats 1000000 in
/-- the machine throws cls with the message text, no traces kept: from its note over the frame g to 'throwing' over the same frame (follows the proofs of Stand.vmThrowsMessage, Shelf/KitTracedVmS.lean, and Stand.throwsMessageColdBareV, StandMessageColdV.lean, without the step out of the frame) -/
theorem vx_vmAt {p : Program} {l : Launch} {e : Env} {R : Room} {s : State} {m₀ : MethodId} {args : Array Value} {below : List Frame} {meth : Method} {c : Code} {W : State} {locs : List Loc} {cells slots : Nat}
    (X : Stand p l e R s m₀ args below meth c W locs cells slots) (hexec : p.tables.exec = Jvm.exec) (htr : e.platform.stackTraces = false) {cls : String} {names : List String} {text : String}
    (hcls : Bundle.fit cls = true) (hnames : ∀ n ∈ names, Bundle.fit n = true) (hsoe : (cls == "java/lang/StackOverflowError") = false) (hoom : (cls == "java/lang/OutOfMemoryError") = false)
    (h : ∀ a ∈ Bundle.messageArmAtoms cls names, a.before args s = true)
    (hlocs : ∀ x ∈ locs, ∀ cell, s.heap[x.base]? = some cell → cell.vm.isStatics = false)
    (htext : (text == notModelled) = false) (hlimit : ¬ (stringBytes (stringToUtf16 text)).size > e.platform.arrayLengthLimit) (hheap : ¬ (stringBytes (stringToUtf16 text)).size * componentBytes .byte > e.platform.maxHeapBytes)
    {g : JFrame} (hg : g.method = m₀) (hsize : g.locals.size = c.maxLocals)
    (hRframes : names.length + 4 < R.frames) (hRlocals : 2 * g.monitorRoom + (g.stack.map fun v => v.category).sum + 10240 ≤ R.locals) (hshort : 13 * names.length + 55 ≤ 10240)
    (hRcells : cells + 3 ≤ R.cells) (hRslots : slots + ((stringBytes (stringToUtf16 text)).size + 4 + 6) ≤ R.slots) (hlocks : meth.locks = false) :
    ∃ (S : State) (q : Addr) (ce : Cell), (∀ target, Steps p.tables e below ((S.setTop g).pushFrame (.throwing q)) target → Steps p.tables e below ((W.setTop g).pushFrame (.throwNew cls (some text) none)) target) ∧
      Stand p l e R s m₀ args below meth c S locs (cells + 3) (slots + ((stringBytes (stringToUtf16 text)).size + 4 + 6)) ∧ S.heap[q]? = some ce ∧ s.vm.findClass cls = some ce.cls ∧ ce.vm = .none := by
  have howns : e.platform.frameOwnsMonitors = true := by rw [X.admits.platform]
  have hfin : e.platform.finalization = false := by rw [X.admits.platform]
  have hpl : e.platform.magicAccessors = ({} : Platform).magicAccessors := by rw [X.admits.platform]
  have a : ∀ x, x ∈ Bundle.messageArmAtoms cls names → x.holds args s none s [] = true := fun x hx => h x hx
  obtain ⟨T, Z0, L, -, Y⟩ := ThrowableC.of_atoms (args := args) howns hfin hpl (fun x hx => h x (by simp [Bundle.messageArmAtoms, hx]))
  obtain ⟨Z, M, LZ, LM, hnZ⟩ := Init0T.ofS_atoms (args := args) hpl L Y (fun x hx => h x (by simp [Bundle.messageArmAtoms, hx]))
  obtain ⟨P1, Ps, hlen, L1, hL, hP1m, hlink1, hlink⟩ := Bundle.chainS (args := args) hpl hnZ names cls hcls hnames (fun x hx => h x (by simp [Bundle.messageArmAtoms, hx]))
  obtain ⟨Zs, LZs, hn4, hfitv, hfitc⟩ := StringT.of_atoms (args := args) (fun x hx => h x (by simp [Bundle.messageArmAtoms, hx]))
  have hfound : s.vm.findClass cls = some P1.m.cls := findClass_of_methodNamed hP1m
  obtain ⟨c1, kX, hc1, hk, hord, -, -, hn6⟩ := Cond.instantiable_spec (a (.instantiable cls 6) (by simp [Bundle.messageArmAtoms]))
  cases Option.some.inj (hc1.symm.trans hfound)
  have hinit := Cond.initialized_spec hfound hk (a (.initialized cls) (by simp [Bundle.messageArmAtoms]))
  have hctor : kX.findMethod "<init>" "(Ljava/lang/String;)V" = some P1.m.idx := findMethod_of_methodNamed hP1m hk
  have hsel0 : selectMethod e.platform s.vm P1.m.cls T.fill0 = .method T.fill0 := by
    obtain ⟨c2, r2, m2, q1, q2, q3, q4, -⟩ := Cond.selects_spec (a (.selects cls Bundle.tFill0 Bundle.tFill0) (by simp [Bundle.messageArmAtoms]))
    cases Option.some.inj (q1.symm.trans hfound)
    cases Option.some.inj (q2.symm.trans (State.methodFound?_of_named Y.fill0 (by decide)))
    cases Option.some.inj (q3.symm.trans Y.fill0)
    rw [Launch.admits_selectMethod X.admits]; exact q4
  have hselF : selectMethod e.platform s.vm P1.m.cls T.fill = .method T.fill := by
    obtain ⟨c2, r2, m2, q1, q2, q3, q4, -⟩ := Cond.selects_spec (a (.selects cls Bundle.tFill Bundle.tFill) (by simp [Bundle.messageArmAtoms]))
    cases Option.some.inj (q1.symm.trans hfound)
    cases Option.some.inj (q2.symm.trans (State.methodFound?_of_named Y.fill (by decide)))
    cases Option.some.inj (q3.symm.trans Y.fill)
    rw [Launch.admits_selectMethod X.admits]; exact q4
  obtain ⟨cellS0, hcS0, hiss⟩ := Y.statics
  obtain ⟨u0, hu0⟩ := Cond.staticRefV Y.unassigned L.unassignedStatic L.statics hcS0 hiss (a (.isRef (.static Bundle.tN "UNASSIGNED_STACK" Bundle.steD)) (by simp [Bundle.messageArmAtoms]))
  obtain ⟨sen, hsen⟩ := Cond.staticRefV Y.sentinel L.sentinelStatic L.statics hcS0 hiss (a (.isRef (.static Bundle.tN "SUPPRESSED_SENTINEL" Bundle.listD)) (by simp [Bundle.messageArmAtoms]))
  obtain ⟨ci198, i198, fB, hk198, hg198, ha198, hsB, -, hnB, htB, hffB⟩ := Cond.ownField (t := .object "java/lang/Object") Y.found L.cls (by decide +kernel) (a (.fieldLink Bundle.tN 198 Bundle.tN "backtrace" "Ljava/lang/Object;") (by simp [Bundle.messageArmAtoms])) (a (.lays Bundle.tN Bundle.tN "backtrace" "Ljava/lang/Object;") (by simp [Bundle.messageArmAtoms])) e.platform hpl
  obtain ⟨cellS, hcS', heS, -, hkeep⟩ := X.same.2.2.2.2.2 T.aS cellS0 hcS0
  have hcellS : W.heap[T.aS]? = some cellS := hcS'
  have hout' : ∀ i, (⟨T.aS, i⟩ : Loc) ∉ locs := fun i hmem => by
    have := hlocs _ hmem cellS0 hcS0
    rw [hiss] at this; cases this
  have hknownS : cellS.vm ≠ .unknown := by
    rw [heS]; intro hu
    rw [show cellS0.vm = .unknown from hu] at hiss
    cases hiss
  have hvU : cellS.slots[T.fUnassigned.slot]? = some u0.v := by rw [hkeep _ (hout' _)]; exact hu0
  have hvSen : cellS.slots[T.fSentinel.slot]? = some sen.v := by rw [hkeep _ (hout' _)]; exact hsen
  obtain ⟨iM, hffM⟩ := Y.msg
  obtain ⟨tyC, dC, hdC, hdnC⟩ := Cond.laysAt hfound hk Y.cause (a (.lays cls Bundle.tN "cause" "Ljava/lang/Throwable;") (by simp [Bundle.messageArmAtoms]))
  obtain ⟨tyS, dS, hdS, hdnS⟩ := Cond.laysAt hfound hk Y.stack (a (.lays cls Bundle.tN "stackTrace" Bundle.steD) (by simp [Bundle.messageArmAtoms]))
  obtain ⟨tyP, dP, hdP, hdnP⟩ := Cond.laysAt hfound hk Y.supp (a (.lays cls Bundle.tN "suppressedExceptions" Bundle.listD) (by simp [Bundle.messageArmAtoms]))
  obtain ⟨tyM, dM, hdM, hdnM⟩ := Cond.laysAt hfound hk hffM (a (.lays cls Bundle.tN "detailMessage" "Ljava/lang/String;") (by simp [Bundle.messageArmAtoms]))
  obtain ⟨tyB, dB, hdB, hdnB⟩ := Cond.laysAt hfound hk hffB (a (.lays cls Bundle.tN "backtrace" "Ljava/lang/Object;") (by simp [Bundle.messageArmAtoms]))
  have bC := Cond.laysApart hdB hdC hdnB hdnC (by rw [hnB, Y.causeName]; decide)
  have bS := Cond.laysApart hdB hdS hdnB hdnS (by rw [hnB, Y.stackName]; decide)
  have bP := Cond.laysApart hdB hdP hdnB hdnP (by rw [hnB, Y.suppName]; decide)
  have hbk : ((preparedCellV T.toThrowableT (freshCell P1.m.cls kX) (W.heap.size + 2) u0 sen).withEntry W.cur).slots[fB.slot]? = some .null := by
    have := fresh_default (c := P1.m.cls) tyB
    rw [htB] at this
    simpa [preparedCellV, Cell.setSlot, Cell.withEntry, Array.getElem?_setIfInBounds, bC, bS, bP, bC.symm, bS.symm, bP.symm, defaultValue] using this
  have tkC := Takes.of_laid (v := .ref (W.heap.size + 2)) hk hord tyC (by rw [Y.causeType]; rfl)
  have tkS := Takes.of_laid (v := u0.v) hk hord tyS (by rw [Y.stackType]; exact fits_refV_array _ u0)
  have tkP := Takes.of_laid (v := sen.v) hk hord tyP (by rw [Y.suppType]; exact fits_refV_object _ sen)
  have tkM := Takes.of_laid (v := .ref (W.heap.size + 1)) hk hord tyM (by rw [Y.msgType]; rfl)
  have hskip : SkipFacts T e.platform s (fun u => u) u0 ((preparedCellV T.toThrowableT (freshCell P1.m.cls kX) (W.heap.size + 2) u0 sen).withEntry W.cur) := ⟨{ ci198 := ci198, i198 := i198, fBack := fB }, ⟨hk198, hg198, ha198, hsB⟩, hbk, fun _ _ => rfl⟩
  have h0 : At W g.method c below := by rw [hg]; exact X.here
  obtain ⟨hbeyond, hfreeW⟩ := X.vmMayThrow hsize (.throwNew cls (some text) none) (fun f hf => by cases hf) rfl hRlocals
  have hfr' : W.frames.length + Ps.length + 4 < (e.platform.stackLimits W.me).1 := by have := X.framesAbove hRframes; omega
  have hwd' : (stackUse (.java g :: W.frames.tail)).2 + 13 * Ps.length + 55 ≤ (e.platform.stackLimits W.me).2 := by have := X.stackAbove hsize (K := 13 * Ps.length + 55) (by omega); omega
  have hslots : W.slotsUsed + (stringBytes (stringToUtf16 text)).size + Zs.kS.instanceTypes.size + kX.instanceTypes.size ≤ e.platform.maxSlots := by
    have := X.slotsAbove hRslots
    rw [hn4, hn6]
    omega
  obtain ⟨vm', hW', st⟩ := Steps.vmThrowsMessageColdByV p (s₀ := s) (S := W) (g := g) h0 hexec T L Z LZ M LM X.warmed (t := W.cur) rfl Zs LZs P1 L1 Ps hL hlink1 hlink hsoe hoom hfound hk hinit hord hctor
    (Launch.admits_hotImplicitExceptions X.admits) hbeyond hfreeW htext hlimit hheap (X.cellsAbove hRcells) hslots (hfitv _) (hfitc _)
    (Nn := fun u => u) heapOnly_id (fun _ _ => rfl) (fun _ => rfl) (fun u x y => setCell_twice _ _ _ _) (fun _ => Nat.le_refl _) (cN := ((preparedCellV T.toThrowableT (freshCell P1.m.cls kX) (W.heap.size + 2) u0 sen).withEntry W.cur))
    hsel0 hcellS hknownS hvU tkS (fun _ hu => hu) (fun _ hu => hu) rfl rfl rfl (by simp [preparedCellV, Cell.setSlot, Cell.withEntry]) hskip (fun _ _ hA hW _ hroom _ hrest => L.nativeOff p htr hA hW hroom hrest) hselF hvSen tkC tkP tkM Y.objLocals rfl hfr' hwd'
  rw [plainBareV_eq T.toThrowableT (W.heap.size + 2) u0 sen (.ref (W.heap.size + 1)) W.cur rfl rfl] at st
  obtain ⟨-, -, w3, w4, -, -, -⟩ := withThrown_facts e.platform W Zs text P1.m.cls kX
  have X3 := ((X.pushed (bytesOf Zs.cB (stringToUtf16 text))).pushed (stringAt Zs.cS Zs.kS Zs.fv Zs.fc (stringToUtf16 text) W.heap.size)).pushed (freshCell P1.m.cls kX)
  rw [← withString_eq] at X3
  have X4 := X3.noted hW'
  have ha : (W.heap.size + 2) < ((withThrown W Zs text P1.m.cls kX).setVm vm').heap.size := by show _ < (withThrown W Zs text P1.m.cls kX).heap.size; rw [w3]; omega
  have hcell : ((withThrown W Zs text P1.m.cls kX).setVm vm').heap[(W.heap.size + 2)]? = some (freshCell P1.m.cls kX) := w4
  have X5 := ((((X4.stored hcell T.fCause.slot (.ref (W.heap.size + 2))).storedAgain ha T.fStack.slot u0.v).storedAgain ha T.fSupp.slot sen.v).storedAgain ha T.fStack.slot u0.v).storedAgain ha T.fMsg.slot (.ref (W.heap.size + 1))
  obtain ⟨g₁, hfrM⟩ := X5.frames_eq
  have hU : ((((withThrown W Zs text P1.m.cls kX).setVm vm').setCell (W.heap.size + 2) (plainBareV T.toThrowableT (freshCell P1.m.cls kX) (W.heap.size + 2) u0 sen (.ref (W.heap.size + 1)))).setTop g).pushFrame (.throwing (W.heap.size + 2)) = (((withThrown W Zs text P1.m.cls kX).setVm vm').setCell (W.heap.size + 2) (plainBareV T.toThrowableT (freshCell P1.m.cls kX) (W.heap.size + 2) u0 sen (.ref (W.heap.size + 1)))).setFrames (.throwing (W.heap.size + 2) :: .java g :: below) := by
    rw [State.pushFrame, State.frames_setTop _ hfrM, State.setTop_of_frames _ hfrM, State.setFrames_setFrames]
  have b1 : (bytesOf Zs.cB (stringToUtf16 text)).slots.size = (stringBytes (stringToUtf16 text)).size := by
    rw [(Cell.writeAll_facts _ _).2.2]; simp [bytes0]
  have b2 : (stringAt Zs.cS Zs.kS Zs.fv Zs.fc (stringToUtf16 text) W.heap.size).slots.size = 4 := by simp [string0, Cell.setSlot, hn4]
  have b3 : (freshCell P1.m.cls kX).slots.size = 6 := by simp [hn6]
  rw [b1, b2, b3] at X5
  have e9 : slots + (stringBytes (stringToUtf16 text)).size + 4 + 6 = slots + ((stringBytes (stringToUtf16 text)).size + 4 + 6) := by omega
  rw [e9] at X5
  simp only [List.append_assoc, List.cons_append, List.nil_append] at X5
  refine ⟨((withThrown W Zs text P1.m.cls kX).setVm vm').setCell (W.heap.size + 2) (plainBareV T.toThrowableT (freshCell P1.m.cls kX) (W.heap.size + 2) u0 sen (.ref (W.heap.size + 1))), W.heap.size + 2, _, fun target ht => st _ (by rw [X.tail, ← hU]; exact ht),
    X5.forget (fun y hy => ?_), heapAt_setCell_self _ ha, hfound, rfl⟩
  simp only [List.mem_cons, List.not_mem_nil, or_false] at hy
  have hge : s.heap.size ≤ W.heap.size := X.same.2.1
  rcases hy with rfl | rfl | rfl | rfl | rfl <;> exact Nat.le_trans hge (Nat.le_add_right _ 2)
set_option maxHeartbeats 1000000 in
/-- the machine throws NullPointerException, no traces kept: from its note over the frame g to 'throwing' over the same frame (follows the proof of Stand.vmThrowsNpe, Shelf42/KT2.lean; throwsNpeColdBareVAt, Shelf42/NT91.lean, called) -/
theorem vx_npeAt {p : Program} {l : Launch} {e : Env} {R : Room} {s : State} {m₀ : MethodId} {args : Array Value} {below : List Frame} {meth : Method} {c : Code} {W : State} {locs : List Loc} {cells slots : Nat}
    (X : Stand p l e R s m₀ args below meth c W locs cells slots) (hexec : p.tables.exec = Jvm.exec) (htr : e.platform.stackTraces = false) {n : Nat}
    (h : ∀ a ∈ Bundle.npeArmAtoms n, a.before args s = true)
    (hlocs : ∀ x ∈ locs, ∀ cell, s.heap[x.base]? = some cell → cell.vm.isStatics = false)
    {g : JFrame} (hg : g.method = m₀) (hsize : g.locals.size = c.maxLocals)
    (hRframes : 7 < R.frames) (hRlocals : 2 * g.monitorRoom + (g.stack.map fun v => v.category).sum + 10240 ≤ R.locals)
    (hRcells : cells + 1 ≤ R.cells) (hRslots : slots + n ≤ R.slots) (hlocks : meth.locks = false) :
    ∃ (S : State) (q : Addr) (ce : Cell), (∀ target, Steps p.tables e below ((S.setTop g).pushFrame (.throwing q)) target → Steps p.tables e below ((W.setTop g).pushFrame (.throwNew "java/lang/NullPointerException" none none)) target) ∧
      Stand p l e R s m₀ args below meth c S locs (cells + 1) (slots + n) ∧ S.heap[q]? = some ce ∧ s.vm.findClass "java/lang/NullPointerException" = some ce.cls ∧ ce.vm = .none := by
  have howns : e.platform.frameOwnsMonitors = true := by rw [X.admits.platform]
  have hfin : e.platform.finalization = false := by rw [X.admits.platform]
  have hpl : e.platform.magicAccessors = ({} : Platform).magicAccessors := by rw [X.admits.platform]
  have hpl2 : e.platform.arrayCloneIsPublic = true := by rw [X.admits.platform]
  have a' : ∀ x, x ∈ Bundle.npeArmAtoms n → x.holds args s none s [] = true := fun x hx => h x hx
  obtain ⟨T, Z, L, LZ, Y⟩ := ThrowableC.of_atoms (args := args) howns hfin hpl (fun x hx => h x (by simp [Bundle.npeArmAtoms, hx]))
  obtain ⟨N, LN, hcN, hnNF, hordN, hffS⟩ := NpeC.of_atoms (args := args) hpl hpl2 L Y (fun x hx => h x (by simp [Bundle.npeArmAtoms, hx]))
  obtain ⟨P1, L1, hP1m, hP1s⟩ := PassC.of_atoms (args := args) (s := s) hpl (X := Bundle.nN) (Y := Bundle.rN) (by decide) (by decide) LibCode.NullPointerException.Init0.at_0 LibCode.NullPointerException.Init0.at_1 LibCode.NullPointerException.Init0.at_4 (fun x hx => h x (by simp [Bundle.npeArmAtoms, hx]))
  obtain ⟨PR, LR, hPRm, hPRs⟩ := PassC.of_atoms (args := args) (s := s) hpl (X := Bundle.rN) (Y := Bundle.eN) (by decide) (by decide) LibCode.RuntimeException.Init0.at_0 LibCode.RuntimeException.Init0.at_1 LibCode.RuntimeException.Init0.at_4 (fun x hx => h x (by simp [Bundle.npeArmAtoms, hx]))
  obtain ⟨PE, LEx, hPEm, hPEs⟩ := PassC.of_atoms (args := args) (s := s) hpl (X := Bundle.eN) (Y := Bundle.tN) (by decide) (by decide) LibCode.Exception.Init0.at_0 LibCode.Exception.Init0.at_1 LibCode.Exception.Init0.at_4 (fun x hx => h x (by simp [Bundle.npeArmAtoms, hx]))
  have hfound : s.vm.findClass Bundle.nN = some P1.m.cls := findClass_of_methodNamed hP1m
  have ecls : N.cN = P1.m.cls := Option.some.inj (hcN.symm.trans hfound)
  have hk : s.vm.classes[P1.m.cls]? = some N.kN := by rw [← ecls]; exact LN.cls
  have hinit := Cond.initialized_spec hfound hk (a' (.initialized Bundle.nN) (by simp [Bundle.npeArmAtoms]))
  have hctor : N.kN.findMethod "<init>" "()V" = some P1.m.idx := findMethod_of_methodNamed hP1m hk
  obtain ⟨c1, k1, hc1, hk1, -, -, -, hn⟩ := Cond.instantiable_spec (a' (.instantiable Bundle.nN n) (by simp [Bundle.npeArmAtoms]))
  cases Option.some.inj (hc1.symm.trans hfound)
  cases Option.some.inj (hk1.symm.trans hk)
  have hfsz : (freshCell P1.m.cls N.kN).slots.size = n := by simp [hn]
  have hlink1 : P1.sup = PR.m := Option.some.inj (hP1s.symm.trans hPRm)
  have hlinkR : PR.sup = PE.m := Option.some.inj (hPRs.symm.trans hPEm)
  have hlinkE : PE.sup = Z.m T.toThrowableT := Option.some.inj (hPEs.symm.trans Y.init0)
  have hLs : ∀ P, P ∈ [PR, PE] → P.Links0 e.platform s := fun P hP => by
    simp only [List.mem_cons, List.not_mem_nil, or_false] at hP
    rcases hP with rfl | rfl
    · exact LR
    · exact LEx
  have hsel0 : selectMethod e.platform s.vm P1.m.cls T.fill0 = .method T.fill0 := by
    obtain ⟨c2, r2, m2, q1, q2, q3, q4, -⟩ := Cond.selects_spec (a' (.selects Bundle.nN Bundle.tFill0 Bundle.tFill0) (by simp [Bundle.npeArmAtoms]))
    cases Option.some.inj (q1.symm.trans hfound)
    cases Option.some.inj (q2.symm.trans (State.methodFound?_of_named Y.fill0 (by decide)))
    cases Option.some.inj (q3.symm.trans Y.fill0)
    rw [Launch.admits_selectMethod X.admits]; exact q4
  have hselF : selectMethod e.platform s.vm P1.m.cls T.fill = .method N.fill := by
    obtain ⟨c2, r2, m2, q1, q2, q3, q4, -⟩ := Cond.selects_spec (a' (.selects Bundle.nN Bundle.tFill Bundle.nFill) (by simp [Bundle.npeArmAtoms]))
    cases Option.some.inj (q1.symm.trans hfound)
    cases Option.some.inj (q2.symm.trans (State.methodFound?_of_named Y.fill (by decide)))
    cases Option.some.inj (q3.symm.trans hnNF)
    rw [Launch.admits_selectMethod X.admits]; exact q4
  obtain ⟨cellS0, hcS0, hiss⟩ := Y.statics
  obtain ⟨u0, hu0⟩ := Cond.staticRefV Y.unassigned L.unassignedStatic L.statics hcS0 hiss (a' (.isRef (.static Bundle.tN "UNASSIGNED_STACK" Bundle.steD)) (by simp [Bundle.npeArmAtoms]))
  obtain ⟨sen, hsen⟩ := Cond.staticRefV Y.sentinel L.sentinelStatic L.statics hcS0 hiss (a' (.isRef (.static Bundle.tN "SUPPRESSED_SENTINEL" Bundle.listD)) (by simp [Bundle.npeArmAtoms]))
  obtain ⟨ci198, i198, fB, hk198, hg198, ha198, hsB, -, hnB, htB, hffB⟩ := Cond.ownField (t := .object "java/lang/Object") Y.found L.cls (by decide +kernel) (a' (.fieldLink Bundle.tN 198 Bundle.tN "backtrace" Bundle.objD) (by simp [Bundle.npeArmAtoms])) (a' (.lays Bundle.tN Bundle.tN "backtrace" Bundle.objD) (by simp [Bundle.npeArmAtoms])) e.platform hpl
  obtain ⟨cellS, hcS', heS, -, hkeep⟩ := X.same.2.2.2.2.2 T.aS cellS0 hcS0
  have hcellS : W.heap[T.aS]? = some cellS := hcS'
  have hout' : ∀ i, (⟨T.aS, i⟩ : Loc) ∉ locs := fun i hmem => by
    have := hlocs _ hmem cellS0 hcS0
    rw [hiss] at this; cases this
  have hknownS : cellS.vm ≠ .unknown := by
    rw [heS]; intro hu
    rw [show cellS0.vm = .unknown from hu] at hiss
    cases hiss
  have hvU : cellS.slots[T.fUnassigned.slot]? = some u0.v := by rw [hkeep _ (hout' _)]; exact hu0
  have hvSen : cellS.slots[T.fSentinel.slot]? = some sen.v := by rw [hkeep _ (hout' _)]; exact hsen
  obtain ⟨tyC, dC, hdC, hdnC⟩ := Cond.laysAt hfound hk Y.cause (a' (.lays Bundle.nN Bundle.tN "cause" "Ljava/lang/Throwable;") (by simp [Bundle.npeArmAtoms]))
  obtain ⟨tyS, dS, hdS, hdnS⟩ := Cond.laysAt hfound hk Y.stack (a' (.lays Bundle.nN Bundle.tN "stackTrace" Bundle.steD) (by simp [Bundle.npeArmAtoms]))
  obtain ⟨tyP, dP, hdP, hdnP⟩ := Cond.laysAt hfound hk Y.supp (a' (.lays Bundle.nN Bundle.tN "suppressedExceptions" Bundle.listD) (by simp [Bundle.npeArmAtoms]))
  obtain ⟨tyX, dX, hdX, hdnX⟩ := Cond.laysAt hfound hk hffS (a' (.lays Bundle.nN Bundle.nN "extendedMessageState" "I") (by simp [Bundle.npeArmAtoms, Bundle.npeAtoms]))
  obtain ⟨hnX, htX⟩ := State.fieldFound?_type hffS (t := .int) (by decide +kernel)
  have xC := Cond.laysApart hdC hdX hdnC hdnX (by rw [hnX, Y.causeName]; decide)
  have xS := Cond.laysApart hdS hdX hdnS hdnX (by rw [hnX, Y.stackName]; decide)
  have xP := Cond.laysApart hdP hdX hdnP hdnX (by rw [hnX, Y.suppName]; decide)
  have hv0 : (freshCell P1.m.cls N.kN).slots[N.fState.slot]? = some (.int 0) := by
    have := fresh_default (c := P1.m.cls) tyX
    rw [htX] at this; exact this
  obtain ⟨tyB, dB, hdB, hdnB⟩ := Cond.laysAt hfound hk hffB (a' (.lays Bundle.nN Bundle.tN "backtrace" Bundle.objD) (by simp [Bundle.npeArmAtoms]))
  have bC := Cond.laysApart hdB hdC hdnB hdnC (by rw [hnB, Y.causeName]; decide)
  have bS := Cond.laysApart hdB hdS hdnB hdnS (by rw [hnB, Y.stackName]; decide)
  have bP := Cond.laysApart hdB hdP hdnB hdnP (by rw [hnB, Y.suppName]; decide)
  have bX := Cond.laysApart hdB hdX hdnB hdnX (by rw [hnB, hnX]; decide)
  have hbk : ((npeCell N.toNpeT (preparedCellV T.toThrowableT (freshCell P1.m.cls N.kN) W.heap.size u0 sen) W.cur).withEntry W.cur).slots[fB.slot]? = some .null := by
    have := fresh_default (c := P1.m.cls) tyB
    rw [htB] at this
    simpa [npeCell, preparedCellV, Cell.setSlot, Cell.withEntry, Array.getElem?_setIfInBounds, bC, bS, bP, bX, bC.symm, bS.symm, bP.symm, bX.symm, defaultValue] using this
  have tkC := Takes.of_laid (v := .ref W.heap.size) hk hordN tyC (by rw [Y.causeType]; rfl)
  have tkS := Takes.of_laid (v := u0.v) hk hordN tyS (by rw [Y.stackType]; exact fits_refV_array _ u0)
  have tkP := Takes.of_laid (v := sen.v) hk hordN tyP (by rw [Y.suppType]; exact fits_refV_object _ sen)
  have tkX := Takes.of_laid (v := .int 1) hk hordN tyX (by rw [htX]; rfl)
  have hskip : SkipFacts T e.platform s (fun u => u) u0 ((npeCell N.toNpeT (preparedCellV T.toThrowableT (freshCell P1.m.cls N.kN) W.heap.size u0 sen) W.cur).withEntry W.cur) := ⟨{ ci198 := ci198, i198 := i198, fBack := fB }, ⟨hk198, hg198, ha198, hsB⟩, hbk, fun _ _ => rfl⟩
  obtain ⟨vm', X3, st, -⟩ := X.throwsNpeColdBareVAt hexec hg hsize T L Z LZ N LN P1 L1 [PR, PE] hLs hlink1 ⟨hlinkR, hlinkE, trivial⟩ hfound hk hinit hordN hctor hsel0 hselF hcellS hknownS hvU hvSen
    hv0 xC xS xP tkC tkS tkP tkX Y.objLocals hskip (fun _ _ hA hW _ hroom _ hrest => L.nativeOff p htr hA hW hroom hrest) (by simpa using hRframes) hRlocals (by simp) hRcells (by rw [hn]; exact hRslots)
  have hlt : W.heap.size < ((W.pushCell (freshCell P1.m.cls N.kN)).setVm vm').heap.size := by
    show W.heap.size < (W.pushCell (freshCell P1.m.cls N.kN)).heap.size
    rw [State.heap_size_pushCell]; omega
  rw [hfsz] at X3
  obtain ⟨g₁, hfrM⟩ := X3.frames_eq
  have hU : ((((W.pushCell (freshCell P1.m.cls N.kN)).setVm vm').setCell W.heap.size (npeBareV T.toThrowableT N.toNpeT (freshCell P1.m.cls N.kN) W.heap.size u0 sen)).setTop g).pushFrame (.throwing W.heap.size) = (((W.pushCell (freshCell P1.m.cls N.kN)).setVm vm').setCell W.heap.size (npeBareV T.toThrowableT N.toNpeT (freshCell P1.m.cls N.kN) W.heap.size u0 sen)).setFrames (.throwing W.heap.size :: .java g :: below) := by
    rw [State.pushFrame, State.frames_setTop _ hfrM, State.setTop_of_frames _ hfrM, State.setFrames_setFrames]
  refine ⟨_, W.heap.size, _, fun target ht => st.trans (by rw [← hU]; exact ht), X3.forget (fun y hy => ?_), heapAt_setCell_self _ hlt, hfound, rfl⟩
  simp only [List.mem_cons, List.not_mem_nil, or_false] at hy
  have hge : s.heap.size ≤ W.heap.size := X.same.2.1
  rcases hy with rfl | rfl | rfl | rfl | rfl <;> exact hge
/-- the words of a machine's NullPointerException, but the four that speak of the heap -/
def vx_atN (n : Nat) : List Cond := (Bundle.npeArmAtoms n).filter vx_no
/-- the words of a machine's throw with a message, but the four that speak of the heap -/
def vx_atM (X : String) (names : List String) : List Cond := (Bundle.messageArmAtoms X names).filter vx_no
section
variable {p : Program} {l : Launch} {e : Env} {R : Room} {s : State} {m : MethodId} {args : Array Value} {below : List Frame} {meth : Method} {c : Code} {H : Heap} {locs : List Loc} {cells slots : Nat}
/-- a frame seen from a rebased start, seen from the first start again -/
theorem vx_back9 {T S : State} {R' : Room} {k n : Nat} (X : Stand p l e R s m args below meth c T locs cells slots) (Y : Stand p l e R' ((T.setVm s.vm).setFrames (.invoking m args :: below)) m args below meth c T [] 0 0) (Z : Stand p l e R' ((T.setVm s.vm).setFrames (.invoking m args :: below)) m args below meth c S [] k n) :
    Stand p l e R s m args below meth c S locs (cells + k) (slots + n) := by
  have hW0 : s.WarmedH ((T.setVm s.vm).setFrames (.invoking m args :: below)).vm := State.WarmedH.refl s
  refine { admits := X.admits, cas := X.cas, clock := X.clock, frames := X.frames, room := X.room, hears := X.hears, method := X.method, code := X.code, here := Z.here, tail := Z.tail, warmed := State.WarmedH.trans hW0 Z.warmed, limits := Z.limits.trans (Y.limits.symm.trans X.limits), bytes := Z.bytes.trans (Y.bytes.symm.trans X.bytes), same := ?_ }
  obtain ⟨e1, e2⟩ := Z.same
  rw [State.setFrames_setFrames] at e1
  have h2 : (T.setVm s.vm).sameButNew (S.setVm s.vm) [] k n := ⟨e1, e2⟩
  have h3 := X.same.trans h2
  rw [List.append_nil] at h3
  exact h3
/-- from the machine's note that E is thrown here with this text -/
def vx_Note (p : Program) (l : Launch) (e : Env) (R : Room) (s : State) (m : MethodId) (args : Array Value) (below : List Frame) (meth : Method) (c : Code) (H : Heap) (locs : List Loc) (cells slots : Nat) (Q : State → Prop) (g : JFrame) (E text : String) : Prop :=
  ∀ T : State, T.heap = H → Stand p l e R s m args below meth c T locs cells slots → ∃ t, Steps p.tables e below ((T.setTop g).pushFrame (.throwNew E (some text) none)) t ∧ Q t
theorem vx_vm {pc : Nat} {ls : Array Slot} {rest : List Value} {Q : State → Prop} (hexec : p.tables.exec = Jvm.exec) (hl : l.stackTraces = false) {cls text : String} {names : List String} {nb : Nat} {A : Nat → Prop}
    (hcls : Bundle.fit cls = true) (hnames : ∀ n ∈ names, Bundle.fit n = true) (hsoe : (cls == "java/lang/StackOverflowError") = false) (hoom : (cls == "java/lang/OutOfMemoryError") = false)
    (hat : ∀ w ∈ vx_atM cls names, w.before args s = true) (hgood : ∀ w ∈ vx_atM cls names, vx_ot w = true)
    (hU : vx_Zq Bundle.tN "UNASSIGNED_STACK" Bundle.steD A s s.heap) (hN : vx_Zq Bundle.tN "SUPPRESSED_SENTINEL" Bundle.listD A s s.heap) (hS : va_S A s.heap H locs) (hsize : ls.size = c.maxLocals)
    (htext : (text == notModelled) = false) (hnb : (stringBytes (stringToUtf16 text)).size ≤ nb) (hnb1 : nb ≤ 1000)
    (hRframes : names.length + 4 < R.frames) (hRlocals : (rest.map fun v => v.category).sum + 10240 ≤ R.locals) (hshort : 13 * names.length + 55 ≤ 10240) (hRcells : cells + 3 ≤ R.cells) (hRslots : slots + (nb + 10) ≤ R.slots) (hlocks : meth.locks = false)
    (k : ∀ (H1 : Heap) (q9 : Addr) (ce : Cell), H.size ≤ H1.size → (∀ q : Nat, q < H.size → H1[q]? = H[q]?) → va_S A s.heap H1 locs → H1[q9]? = some ce → ce.vm = .none → s.vm.findClass cls = some ce.cls → vx_W p l e R s m args below meth c H1 locs (cells + 3) (slots + (nb + 10)) Q (F0 m pc ls rest) q9) :
    vx_Note p l e R s m args below meth c H locs cells slots Q (F0 m pc ls rest) cls text := by
  intro T hT X
  have htr : e.platform.stackTraces = false := (show e.platform.stackTraces = l.stackTraces by rw [X.admits.platform]).trans hl
  have Y := vx_rebase X (R' := { frames := R.frames, locals := R.locals, cells := 3, slots := nb + 10 }) (Nat.le_refl _) (Nat.le_refl _) hRcells hRslots
  have hhp : ((T.setVm s.vm).setFrames (.invoking m args :: below)).heap = H := hT
  have hW0 : s.WarmedH ((T.setVm s.vm).setFrames (.invoking m args :: below)).vm := State.WarmedH.refl s
  have hat' : ∀ w ∈ vx_atM cls names, w.before args ((T.setVm s.vm).setFrames (.invoking m args :: below)) = true := fun w hw => vx_ot_at hW0 rfl (hgood w hw) (hat w hw)
  have hU' : vx_Zq Bundle.tN "UNASSIGNED_STACK" Bundle.steD A ((T.setVm s.vm).setFrames (.invoking m args :: below)) ((T.setVm s.vm).setFrames (.invoking m args :: below)).heap := by rw [hhp]; exact vx_Zq.moved hW0.alike (hU.kept hS.2.1)
  have hN' : vx_Zq Bundle.tN "SUPPRESSED_SENTINEL" Bundle.listD A ((T.setVm s.vm).setFrames (.invoking m args :: below)) ((T.setVm s.vm).setFrames (.invoking m args :: below)).heap := by rw [hhp]; exact vx_Zq.moved hW0.alike (hN.kept hS.2.1)
  obtain ⟨S, q, ce, st, Z, hce, hcl', hv⟩ := vx_vmAt Y hexec htr (cls := cls) (names := names) (text := text) hcls hnames hsoe hoom (vx_own hat' (vx_isRefq hU'.1) (vx_isRefq hN'.1) hU'.2.word hN'.2.word) (fun x hx => nomatch hx) htext
    (by rw [Launch.admits_arrayLengthLimit X.admits]; omega) (by rw [Launch.admits_maxHeapBytes X.admits]; simp only [componentBytes]; omega)
    (g := F0 m pc ls rest) rfl hsize hRframes (by show 2 * 0 + (rest.map fun v => v.category).sum + 10240 ≤ R.locals; omega) hshort (by show 0 + 3 ≤ 3; omega) (by show 0 + (_ + 4 + 6) ≤ nb + 10; omega) hlocks
  obtain ⟨f1, f2⟩ := vx_frame Z.same
  have f1' : H.size ≤ S.heap.size := by rw [← hT]; exact f1
  have f2' : ∀ q : Nat, q < H.size → S.heap[q]? = H[q]? := fun q hq => by
    rw [← hT]
    exact f2 q (by rw [← hT] at hq; exact hq) (fun z hz => nomatch hz)
  have X5 := vx_back9 X Y Z
  have X6 : Stand p l e R s m args below meth c S locs (cells + 3) (slots + (nb + 10)) := { X5 with same := X5.same.mono (by omega) (by omega) }
  obtain ⟨t, a1, b1⟩ := k S.heap q ce f1' f2' ⟨Nat.le_trans hS.1 f1', fun q h1 h2 => (f2' q (Nat.lt_of_lt_of_le h1 hS.1)).trans (hS.2.1 q h1 h2), hS.2.2⟩ hce hv hcl' S rfl X6
  exact ⟨t, st t a1, b1⟩
/-- from the machine's note that NullPointerException is thrown here -/
def vx_NoteN (p : Program) (l : Launch) (e : Env) (R : Room) (s : State) (m : MethodId) (args : Array Value) (below : List Frame) (meth : Method) (c : Code) (H : Heap) (locs : List Loc) (cells slots : Nat) (Q : State → Prop) (g : JFrame) : Prop :=
  ∀ T : State, T.heap = H → Stand p l e R s m args below meth c T locs cells slots → ∃ t, Steps p.tables e below ((T.setTop g).pushFrame (.throwNew "java/lang/NullPointerException" none none)) t ∧ Q t
theorem vx_npe {pc : Nat} {ls : Array Slot} {rest : List Value} {Q : State → Prop} (hexec : p.tables.exec = Jvm.exec) (hl : l.stackTraces = false) {nb : Nat} {A : Nat → Prop}
    (hat : ∀ w ∈ vx_atN nb, w.before args s = true) (hgood : ∀ w ∈ vx_atN nb, vx_ot w = true)
    (hU : vx_Zq Bundle.tN "UNASSIGNED_STACK" Bundle.steD A s s.heap) (hN : vx_Zq Bundle.tN "SUPPRESSED_SENTINEL" Bundle.listD A s s.heap) (hS : va_S A s.heap H locs) (hsize : ls.size = c.maxLocals)
    (hRframes : 7 < R.frames) (hRlocals : (rest.map fun v => v.category).sum + 10240 ≤ R.locals) (hRcells : cells + 1 ≤ R.cells) (hRslots : slots + nb ≤ R.slots) (hlocks : meth.locks = false)
    (k : ∀ (H1 : Heap) (q9 : Addr) (ce : Cell), H.size ≤ H1.size → (∀ q : Nat, q < H.size → H1[q]? = H[q]?) → va_S A s.heap H1 locs → H1[q9]? = some ce → ce.vm = .none → s.vm.findClass "java/lang/NullPointerException" = some ce.cls → vx_W p l e R s m args below meth c H1 locs (cells + 1) (slots + nb) Q (F0 m pc ls rest) q9) :
    vx_NoteN p l e R s m args below meth c H locs cells slots Q (F0 m pc ls rest) := by
  intro T hT X
  have htr : e.platform.stackTraces = false := (show e.platform.stackTraces = l.stackTraces by rw [X.admits.platform]).trans hl
  have Y := vx_rebase X (R' := { frames := R.frames, locals := R.locals, cells := 1, slots := nb }) (Nat.le_refl _) (Nat.le_refl _) hRcells hRslots
  have hhp : ((T.setVm s.vm).setFrames (.invoking m args :: below)).heap = H := hT
  have hW0 : s.WarmedH ((T.setVm s.vm).setFrames (.invoking m args :: below)).vm := State.WarmedH.refl s
  have hat' : ∀ w ∈ vx_atN nb, w.before args ((T.setVm s.vm).setFrames (.invoking m args :: below)) = true := fun w hw => vx_ot_at hW0 rfl (hgood w hw) (hat w hw)
  have hU' : vx_Zq Bundle.tN "UNASSIGNED_STACK" Bundle.steD A ((T.setVm s.vm).setFrames (.invoking m args :: below)) ((T.setVm s.vm).setFrames (.invoking m args :: below)).heap := by rw [hhp]; exact vx_Zq.moved hW0.alike (hU.kept hS.2.1)
  have hN' : vx_Zq Bundle.tN "SUPPRESSED_SENTINEL" Bundle.listD A ((T.setVm s.vm).setFrames (.invoking m args :: below)) ((T.setVm s.vm).setFrames (.invoking m args :: below)).heap := by rw [hhp]; exact vx_Zq.moved hW0.alike (hN.kept hS.2.1)
  obtain ⟨S, q, ce, st, Z, hce, hcl', hv⟩ := vx_npeAt Y hexec htr (n := nb) (vx_own hat' (vx_isRefq hU'.1) (vx_isRefq hN'.1) hU'.2.word hN'.2.word) (fun x hx => nomatch hx)
    (g := F0 m pc ls rest) rfl hsize hRframes (by show 2 * 0 + (rest.map fun v => v.category).sum + 10240 ≤ R.locals; omega) (by show 0 + 1 ≤ 1; omega) (by show 0 + nb ≤ nb; omega) hlocks
  obtain ⟨f1, f2⟩ := vx_frame Z.same
  have f1' : H.size ≤ S.heap.size := by rw [← hT]; exact f1
  have f2' : ∀ q : Nat, q < H.size → S.heap[q]? = H[q]? := fun q hq => by
    rw [← hT]
    exact f2 q (by rw [← hT] at hq; exact hq) (fun z hz => nomatch hz)
  have X5 := vx_back9 X Y Z
  have X6 : Stand p l e R s m args below meth c S locs (cells + 1) (slots + nb) := { X5 with same := X5.same.mono (by omega) (by omega) }
  obtain ⟨t, a1, b1⟩ := k S.heap q ce f1' f2' ⟨Nat.le_trans hS.1 f1', fun q h1 h2 => (f2' q (Nat.lt_of_lt_of_le h1 hS.1)).trans (hS.2.1 q h1 h2), hS.2.2⟩ hce hv hcl' S rfl X6
  exact ⟨t, st t a1, b1⟩
variable {Q : State → Prop} {cc : ByteArray} {pc : Nat} {ls : Array Slot} {rest : List Value}
theorem vx_idivZ (hexec : p.tables.exec = Jvm.exec) (hb : c.code = cc) {a b : Int32} (h0 : b = 0) (d : decode cc pc = .ok (.idiv, 1)) (k : vx_Note p l e R s m args below meth c H locs cells slots Q (F0 m pc ls rest) "java/lang/ArithmeticException" "/ by zero") :
    W p l e R s m args below meth c H locs cells slots Q (F0 m pc ls (.int b :: .int a :: rest)) := by
  intro T hT X
  obtain ⟨t, st, q⟩ := k T hT X
  exact ⟨t, X.idivZero hexec (g := F0 m pc ls (.int b :: .int a :: rest)) rfl (a := a) (rest := rest) (by rw [h0]) (by rw [hb]; exact d) t st, q⟩
theorem vx_iremZ (hexec : p.tables.exec = Jvm.exec) (hb : c.code = cc) {a b : Int32} (h0 : b = 0) (d : decode cc pc = .ok (.irem, 1)) (k : vx_Note p l e R s m args below meth c H locs cells slots Q (F0 m pc ls rest) "java/lang/ArithmeticException" "/ by zero") :
    W p l e R s m args below meth c H locs cells slots Q (F0 m pc ls (.int b :: .int a :: rest)) := by
  intro T hT X
  obtain ⟨t, st, q⟩ := k T hT X
  exact ⟨t, X.iremZero hexec (g := F0 m pc ls (.int b :: .int a :: rest)) rfl (a := a) (rest := rest) (by rw [h0]) (by rw [hb]; exact d) t st, q⟩
theorem vx_ldivZ (hexec : p.tables.exec = Jvm.exec) (hb : c.code = cc) {a b : Int64} (h0 : b = 0) (d : decode cc pc = .ok (.ldiv, 1)) (k : vx_Note p l e R s m args below meth c H locs cells slots Q (F0 m pc ls rest) "java/lang/ArithmeticException" "/ by zero") :
    W p l e R s m args below meth c H locs cells slots Q (F0 m pc ls (.long b :: .long a :: rest)) := by
  intro T hT X
  obtain ⟨t, st, q⟩ := k T hT X
  exact ⟨t, X.ldivZero hexec (g := F0 m pc ls (.long b :: .long a :: rest)) rfl (a := a) (rest := rest) (by rw [h0]) (by rw [hb]; exact d) t st, q⟩
theorem vx_lremZ (hexec : p.tables.exec = Jvm.exec) (hb : c.code = cc) {a b : Int64} (h0 : b = 0) (d : decode cc pc = .ok (.lrem, 1)) (k : vx_Note p l e R s m args below meth c H locs cells slots Q (F0 m pc ls rest) "java/lang/ArithmeticException" "/ by zero") :
    W p l e R s m args below meth c H locs cells slots Q (F0 m pc ls (.long b :: .long a :: rest)) := by
  intro T hT X
  obtain ⟨t, st, q⟩ := k T hT X
  exact ⟨t, X.lremZero hexec (g := F0 m pc ls (.long b :: .long a :: rest)) rfl (a := a) (rest := rest) (by rw [h0]) (by rw [hb]; exact d) t st, q⟩
theorem vx_ialdZ {D : va_G} {cl : List vw_C} {ws : va_W} {tys : List (ClassId × FieldType)} {a : Nat} (hexec : p.tables.exec = Jvm.exec) (hb : c.code = cc) (hK : va_K D cl tys s) (hP : va_P D cl ws H) (q0 t0 : Nat) {cA : ClassId} {n : Nat} {f : Nat → Int32} (ha : ws[q0]? = some (a, .inl (cA, n, .inl f))) (ht : tys[t0]? = some (cA, .int)) {i : Int32} (hout : ¬ vp_in i n) (hdg : decode cc pc = .ok (.iaload, 1))
    (k : ∀ tx : String, tx = (toString "Index " ++ toString i ++ toString " out of bounds for length " ++ toString n : String) → vx_Note p l e R s m args below meth c H locs cells slots Q (F0 m pc ls rest) "java/lang/ArrayIndexOutOfBoundsException" tx) : W p l e R s m args below meth c H locs cells slots Q (F0 m pc ls (.int i :: .ref a :: rest)) := by
  intro T hT X
  obtain ⟨t, st, q⟩ := k _ rfl T hT X
  refine ⟨t, ?_, q⟩
  have h1 := X.ialoadOut hexec (by rw [hT]; exact hP q0 _ ha) ((hK.2 t0 _ ht).1 n (fun j => .int (f j))) (j := i) (by show (i < 0 ∨ (arrV _ _ _).slots.size ≤ _); rw [arrV_size]; exact Classical.byContradiction hout) (g := F0 m pc ls (.int i :: .ref a :: rest)) rfl (rest := rest) rfl (by rw [hb]; exact hdg) t
  simp only [arrV_size] at h1
  exact h1 st
theorem vx_iastZ {D : va_G} {cl : List vw_C} {ws : va_W} {tys : List (ClassId × FieldType)} {a : Nat} (hexec : p.tables.exec = Jvm.exec) (hb : c.code = cc) (hK : va_K D cl tys s) (hP : va_P D cl ws H) (q0 t0 : Nat) {cA : ClassId} {n : Nat} {f : Nat → Int32} (ha : ws[q0]? = some (a, .inl (cA, n, .inl f))) (ht : tys[t0]? = some (cA, .int)) {i : Int32} {x : Int32} (hout : ¬ vp_in i n) (hdg : decode cc pc = .ok (.iastore, 1))
    (k : ∀ tx : String, tx = (toString "Index " ++ toString i ++ toString " out of bounds for length " ++ toString n : String) → vx_Note p l e R s m args below meth c H locs cells slots Q (F0 m pc ls rest) "java/lang/ArrayIndexOutOfBoundsException" tx) : W p l e R s m args below meth c H locs cells slots Q (F0 m pc ls (.int x :: .int i :: .ref a :: rest)) := by
  intro T hT X
  obtain ⟨t, st, q⟩ := k _ rfl T hT X
  refine ⟨t, ?_, q⟩
  have h1 := X.iastoreOut hexec (by rw [hT]; exact hP q0 _ ha) ((hK.2 t0 _ ht).1 n (fun j => .int (f j))) (j := i) (by show (i < 0 ∨ (arrV _ _ _).slots.size ≤ _); rw [arrV_size]; exact Classical.byContradiction hout) (g := F0 m pc ls (.int x :: .int i :: .ref a :: rest)) rfl (rest := rest) rfl (by rw [hb]; exact hdg) t
  simp only [arrV_size] at h1
  exact h1 st
theorem vx_baldZ {D : va_G} {cl : List vw_C} {ws : va_W} {tys : List (ClassId × FieldType)} {a : Nat} (hexec : p.tables.exec = Jvm.exec) (hb : c.code = cc) (hK : va_K D cl tys s) (hP : va_P D cl ws H) (q0 t0 : Nat) {cA : ClassId} {n : Nat} {f : Nat → Int32} (ha : ws[q0]? = some (a, .inl (cA, n, .inl f))) (ht : tys[t0]? = some (cA, .byte)) {i : Int32} (hout : ¬ vp_in i n) (hdg : decode cc pc = .ok (.baload, 1))
    (k : ∀ tx : String, tx = (toString "Index " ++ toString i ++ toString " out of bounds for length " ++ toString n : String) → vx_Note p l e R s m args below meth c H locs cells slots Q (F0 m pc ls rest) "java/lang/ArrayIndexOutOfBoundsException" tx) : W p l e R s m args below meth c H locs cells slots Q (F0 m pc ls (.int i :: .ref a :: rest)) := by
  intro T hT X
  obtain ⟨t, st, q⟩ := k _ rfl T hT X
  refine ⟨t, ?_, q⟩
  have h1 := X.baloadOut hexec (by rw [hT]; exact hP q0 _ ha) ((hK.2 t0 _ ht).1 n (fun j => .int (f j))) (j := i) (by show (i < 0 ∨ (arrV _ _ _).slots.size ≤ _); rw [arrV_size]; exact Classical.byContradiction hout) (g := F0 m pc ls (.int i :: .ref a :: rest)) rfl (rest := rest) rfl (by rw [hb]; exact hdg) t
  simp only [arrV_size] at h1
  exact h1 st
theorem vx_bastZ {D : va_G} {cl : List vw_C} {ws : va_W} {tys : List (ClassId × FieldType)} {a : Nat} (hexec : p.tables.exec = Jvm.exec) (hb : c.code = cc) (hK : va_K D cl tys s) (hP : va_P D cl ws H) (q0 t0 : Nat) {cA : ClassId} {n : Nat} {f : Nat → Int32} (ha : ws[q0]? = some (a, .inl (cA, n, .inl f))) (ht : tys[t0]? = some (cA, .byte)) {i : Int32} {x : Int32} (hout : ¬ vp_in i n) (hdg : decode cc pc = .ok (.bastore, 1))
    (k : ∀ tx : String, tx = (toString "Index " ++ toString i ++ toString " out of bounds for length " ++ toString n : String) → vx_Note p l e R s m args below meth c H locs cells slots Q (F0 m pc ls rest) "java/lang/ArrayIndexOutOfBoundsException" tx) : W p l e R s m args below meth c H locs cells slots Q (F0 m pc ls (.int x :: .int i :: .ref a :: rest)) := by
  intro T hT X
  obtain ⟨t, st, q⟩ := k _ rfl T hT X
  refine ⟨t, ?_, q⟩
  have h1 := X.bastoreOut hexec (by rw [hT]; exact hP q0 _ ha) ((hK.2 t0 _ ht).1 n (fun j => .int (f j))) (j := i) (by show (i < 0 ∨ (arrV _ _ _).slots.size ≤ _); rw [arrV_size]; exact Classical.byContradiction hout) (g := F0 m pc ls (.int x :: .int i :: .ref a :: rest)) rfl (rest := rest) rfl (by rw [hb]; exact hdg) t
  simp only [arrV_size] at h1
  exact h1 st
theorem vx_zaldZ {D : va_G} {cl : List vw_C} {ws : va_W} {tys : List (ClassId × FieldType)} {a : Nat} (hexec : p.tables.exec = Jvm.exec) (hb : c.code = cc) (hK : va_K D cl tys s) (hP : va_P D cl ws H) (q0 t0 : Nat) {cA : ClassId} {n : Nat} {f : Nat → Int32} (ha : ws[q0]? = some (a, .inl (cA, n, .inl f))) (ht : tys[t0]? = some (cA, .boolean)) {i : Int32} (hout : ¬ vp_in i n) (hdg : decode cc pc = .ok (.baload, 1))
    (k : ∀ tx : String, tx = (toString "Index " ++ toString i ++ toString " out of bounds for length " ++ toString n : String) → vx_Note p l e R s m args below meth c H locs cells slots Q (F0 m pc ls rest) "java/lang/ArrayIndexOutOfBoundsException" tx) : W p l e R s m args below meth c H locs cells slots Q (F0 m pc ls (.int i :: .ref a :: rest)) := by
  intro T hT X
  obtain ⟨t, st, q⟩ := k _ rfl T hT X
  refine ⟨t, ?_, q⟩
  have h1 := X.baloadOut hexec (by rw [hT]; exact hP q0 _ ha) ((hK.2 t0 _ ht).1 n (fun j => .int (f j))) (j := i) (by show (i < 0 ∨ (arrV _ _ _).slots.size ≤ _); rw [arrV_size]; exact Classical.byContradiction hout) (g := F0 m pc ls (.int i :: .ref a :: rest)) rfl (rest := rest) rfl (by rw [hb]; exact hdg) t
  simp only [arrV_size] at h1
  exact h1 st
theorem vx_zastZ {D : va_G} {cl : List vw_C} {ws : va_W} {tys : List (ClassId × FieldType)} {a : Nat} (hexec : p.tables.exec = Jvm.exec) (hb : c.code = cc) (hK : va_K D cl tys s) (hP : va_P D cl ws H) (q0 t0 : Nat) {cA : ClassId} {n : Nat} {f : Nat → Int32} (ha : ws[q0]? = some (a, .inl (cA, n, .inl f))) (ht : tys[t0]? = some (cA, .boolean)) {i : Int32} {x : Int32} (hout : ¬ vp_in i n) (hdg : decode cc pc = .ok (.bastore, 1))
    (k : ∀ tx : String, tx = (toString "Index " ++ toString i ++ toString " out of bounds for length " ++ toString n : String) → vx_Note p l e R s m args below meth c H locs cells slots Q (F0 m pc ls rest) "java/lang/ArrayIndexOutOfBoundsException" tx) : W p l e R s m args below meth c H locs cells slots Q (F0 m pc ls (.int x :: .int i :: .ref a :: rest)) := by
  intro T hT X
  obtain ⟨t, st, q⟩ := k _ rfl T hT X
  refine ⟨t, ?_, q⟩
  have h1 := X.bastoreOut hexec (by rw [hT]; exact hP q0 _ ha) ((hK.2 t0 _ ht).1 n (fun j => .int (f j))) (j := i) (by show (i < 0 ∨ (arrV _ _ _).slots.size ≤ _); rw [arrV_size]; exact Classical.byContradiction hout) (g := F0 m pc ls (.int x :: .int i :: .ref a :: rest)) rfl (rest := rest) rfl (by rw [hb]; exact hdg) t
  simp only [arrV_size] at h1
  exact h1 st
theorem vx_caldZ {D : va_G} {cl : List vw_C} {ws : va_W} {tys : List (ClassId × FieldType)} {a : Nat} (hexec : p.tables.exec = Jvm.exec) (hb : c.code = cc) (hK : va_K D cl tys s) (hP : va_P D cl ws H) (q0 t0 : Nat) {cA : ClassId} {n : Nat} {f : Nat → Int32} (ha : ws[q0]? = some (a, .inl (cA, n, .inl f))) (ht : tys[t0]? = some (cA, .char)) {i : Int32} (hout : ¬ vp_in i n) (hdg : decode cc pc = .ok (.caload, 1))
    (k : ∀ tx : String, tx = (toString "Index " ++ toString i ++ toString " out of bounds for length " ++ toString n : String) → vx_Note p l e R s m args below meth c H locs cells slots Q (F0 m pc ls rest) "java/lang/ArrayIndexOutOfBoundsException" tx) : W p l e R s m args below meth c H locs cells slots Q (F0 m pc ls (.int i :: .ref a :: rest)) := by
  intro T hT X
  obtain ⟨t, st, q⟩ := k _ rfl T hT X
  refine ⟨t, ?_, q⟩
  have h1 := X.caloadOut hexec (by rw [hT]; exact hP q0 _ ha) ((hK.2 t0 _ ht).1 n (fun j => .int (f j))) (j := i) (by show (i < 0 ∨ (arrV _ _ _).slots.size ≤ _); rw [arrV_size]; exact Classical.byContradiction hout) (g := F0 m pc ls (.int i :: .ref a :: rest)) rfl (rest := rest) rfl (by rw [hb]; exact hdg) t
  simp only [arrV_size] at h1
  exact h1 st
theorem vx_castZ {D : va_G} {cl : List vw_C} {ws : va_W} {tys : List (ClassId × FieldType)} {a : Nat} (hexec : p.tables.exec = Jvm.exec) (hb : c.code = cc) (hK : va_K D cl tys s) (hP : va_P D cl ws H) (q0 t0 : Nat) {cA : ClassId} {n : Nat} {f : Nat → Int32} (ha : ws[q0]? = some (a, .inl (cA, n, .inl f))) (ht : tys[t0]? = some (cA, .char)) {i : Int32} {x : Int32} (hout : ¬ vp_in i n) (hdg : decode cc pc = .ok (.castore, 1))
    (k : ∀ tx : String, tx = (toString "Index " ++ toString i ++ toString " out of bounds for length " ++ toString n : String) → vx_Note p l e R s m args below meth c H locs cells slots Q (F0 m pc ls rest) "java/lang/ArrayIndexOutOfBoundsException" tx) : W p l e R s m args below meth c H locs cells slots Q (F0 m pc ls (.int x :: .int i :: .ref a :: rest)) := by
  intro T hT X
  obtain ⟨t, st, q⟩ := k _ rfl T hT X
  refine ⟨t, ?_, q⟩
  have h1 := X.castoreOut hexec (by rw [hT]; exact hP q0 _ ha) ((hK.2 t0 _ ht).1 n (fun j => .int (f j))) (j := i) (by show (i < 0 ∨ (arrV _ _ _).slots.size ≤ _); rw [arrV_size]; exact Classical.byContradiction hout) (g := F0 m pc ls (.int x :: .int i :: .ref a :: rest)) rfl (rest := rest) rfl (by rw [hb]; exact hdg) t
  simp only [arrV_size] at h1
  exact h1 st
theorem vx_saldZ {D : va_G} {cl : List vw_C} {ws : va_W} {tys : List (ClassId × FieldType)} {a : Nat} (hexec : p.tables.exec = Jvm.exec) (hb : c.code = cc) (hK : va_K D cl tys s) (hP : va_P D cl ws H) (q0 t0 : Nat) {cA : ClassId} {n : Nat} {f : Nat → Int32} (ha : ws[q0]? = some (a, .inl (cA, n, .inl f))) (ht : tys[t0]? = some (cA, .short)) {i : Int32} (hout : ¬ vp_in i n) (hdg : decode cc pc = .ok (.saload, 1))
    (k : ∀ tx : String, tx = (toString "Index " ++ toString i ++ toString " out of bounds for length " ++ toString n : String) → vx_Note p l e R s m args below meth c H locs cells slots Q (F0 m pc ls rest) "java/lang/ArrayIndexOutOfBoundsException" tx) : W p l e R s m args below meth c H locs cells slots Q (F0 m pc ls (.int i :: .ref a :: rest)) := by
  intro T hT X
  obtain ⟨t, st, q⟩ := k _ rfl T hT X
  refine ⟨t, ?_, q⟩
  have h1 := X.saloadOut hexec (by rw [hT]; exact hP q0 _ ha) ((hK.2 t0 _ ht).1 n (fun j => .int (f j))) (j := i) (by show (i < 0 ∨ (arrV _ _ _).slots.size ≤ _); rw [arrV_size]; exact Classical.byContradiction hout) (g := F0 m pc ls (.int i :: .ref a :: rest)) rfl (rest := rest) rfl (by rw [hb]; exact hdg) t
  simp only [arrV_size] at h1
  exact h1 st
theorem vx_sastZ {D : va_G} {cl : List vw_C} {ws : va_W} {tys : List (ClassId × FieldType)} {a : Nat} (hexec : p.tables.exec = Jvm.exec) (hb : c.code = cc) (hK : va_K D cl tys s) (hP : va_P D cl ws H) (q0 t0 : Nat) {cA : ClassId} {n : Nat} {f : Nat → Int32} (ha : ws[q0]? = some (a, .inl (cA, n, .inl f))) (ht : tys[t0]? = some (cA, .short)) {i : Int32} {x : Int32} (hout : ¬ vp_in i n) (hdg : decode cc pc = .ok (.sastore, 1))
    (k : ∀ tx : String, tx = (toString "Index " ++ toString i ++ toString " out of bounds for length " ++ toString n : String) → vx_Note p l e R s m args below meth c H locs cells slots Q (F0 m pc ls rest) "java/lang/ArrayIndexOutOfBoundsException" tx) : W p l e R s m args below meth c H locs cells slots Q (F0 m pc ls (.int x :: .int i :: .ref a :: rest)) := by
  intro T hT X
  obtain ⟨t, st, q⟩ := k _ rfl T hT X
  refine ⟨t, ?_, q⟩
  have h1 := X.sastoreOut hexec (by rw [hT]; exact hP q0 _ ha) ((hK.2 t0 _ ht).1 n (fun j => .int (f j))) (j := i) (by show (i < 0 ∨ (arrV _ _ _).slots.size ≤ _); rw [arrV_size]; exact Classical.byContradiction hout) (g := F0 m pc ls (.int x :: .int i :: .ref a :: rest)) rfl (rest := rest) rfl (by rw [hb]; exact hdg) t
  simp only [arrV_size] at h1
  exact h1 st
theorem vx_laldZ {D : va_G} {cl : List vw_C} {ws : va_W} {tys : List (ClassId × FieldType)} {a : Nat} (hexec : p.tables.exec = Jvm.exec) (hb : c.code = cc) (hK : va_K D cl tys s) (hP : va_P D cl ws H) (q0 t0 : Nat) {cA : ClassId} {n : Nat} {f : Nat → Int64} (ha : ws[q0]? = some (a, .inl (cA, n, .inr (.inl f)))) (ht : tys[t0]? = some (cA, .long)) {i : Int32} (hout : ¬ vp_in i n) (hdg : decode cc pc = .ok (.laload, 1))
    (k : ∀ tx : String, tx = (toString "Index " ++ toString i ++ toString " out of bounds for length " ++ toString n : String) → vx_Note p l e R s m args below meth c H locs cells slots Q (F0 m pc ls rest) "java/lang/ArrayIndexOutOfBoundsException" tx) : W p l e R s m args below meth c H locs cells slots Q (F0 m pc ls (.int i :: .ref a :: rest)) := by
  intro T hT X
  obtain ⟨t, st, q⟩ := k _ rfl T hT X
  refine ⟨t, ?_, q⟩
  have h1 := X.laloadOut hexec (by rw [hT]; exact hP q0 _ ha) ((hK.2 t0 _ ht).1 n (fun j => .long (f j))) (j := i) (by show (i < 0 ∨ (arrV _ _ _).slots.size ≤ _); rw [arrV_size]; exact Classical.byContradiction hout) (g := F0 m pc ls (.int i :: .ref a :: rest)) rfl (rest := rest) rfl (by rw [hb]; exact hdg) t
  simp only [arrV_size] at h1
  exact h1 st
theorem vx_lastZ {D : va_G} {cl : List vw_C} {ws : va_W} {tys : List (ClassId × FieldType)} {a : Nat} (hexec : p.tables.exec = Jvm.exec) (hb : c.code = cc) (hK : va_K D cl tys s) (hP : va_P D cl ws H) (q0 t0 : Nat) {cA : ClassId} {n : Nat} {f : Nat → Int64} (ha : ws[q0]? = some (a, .inl (cA, n, .inr (.inl f)))) (ht : tys[t0]? = some (cA, .long)) {i : Int32} {x : Int64} (hout : ¬ vp_in i n) (hdg : decode cc pc = .ok (.lastore, 1))
    (k : ∀ tx : String, tx = (toString "Index " ++ toString i ++ toString " out of bounds for length " ++ toString n : String) → vx_Note p l e R s m args below meth c H locs cells slots Q (F0 m pc ls rest) "java/lang/ArrayIndexOutOfBoundsException" tx) : W p l e R s m args below meth c H locs cells slots Q (F0 m pc ls (.long x :: .int i :: .ref a :: rest)) := by
  intro T hT X
  obtain ⟨t, st, q⟩ := k _ rfl T hT X
  refine ⟨t, ?_, q⟩
  have h1 := X.lastoreOut hexec (by rw [hT]; exact hP q0 _ ha) ((hK.2 t0 _ ht).1 n (fun j => .long (f j))) (j := i) (by show (i < 0 ∨ (arrV _ _ _).slots.size ≤ _); rw [arrV_size]; exact Classical.byContradiction hout) (g := F0 m pc ls (.long x :: .int i :: .ref a :: rest)) rfl (rest := rest) rfl (by rw [hb]; exact hdg) t
  simp only [arrV_size] at h1
  exact h1 st
theorem vx_faldZ {D : va_G} {cl : List vw_C} {ws : va_W} {tys : List (ClassId × FieldType)} {a : Nat} (hexec : p.tables.exec = Jvm.exec) (hb : c.code = cc) (hK : va_K D cl tys s) (hP : va_P D cl ws H) (q0 t0 : Nat) {cA : ClassId} {n : Nat} {f : Nat → UInt32} (ha : ws[q0]? = some (a, .inl (cA, n, .inr (.inr (.inl f))))) (ht : tys[t0]? = some (cA, .float)) {i : Int32} (hout : ¬ vp_in i n) (hdg : decode cc pc = .ok (.faload, 1))
    (k : ∀ tx : String, tx = (toString "Index " ++ toString i ++ toString " out of bounds for length " ++ toString n : String) → vx_Note p l e R s m args below meth c H locs cells slots Q (F0 m pc ls rest) "java/lang/ArrayIndexOutOfBoundsException" tx) : W p l e R s m args below meth c H locs cells slots Q (F0 m pc ls (.int i :: .ref a :: rest)) := by
  intro T hT X
  obtain ⟨t, st, q⟩ := k _ rfl T hT X
  refine ⟨t, ?_, q⟩
  have h1 := X.faloadOut hexec (by rw [hT]; exact hP q0 _ ha) ((hK.2 t0 _ ht).1 n (fun j => .float (f j))) (j := i) (by show (i < 0 ∨ (arrV _ _ _).slots.size ≤ _); rw [arrV_size]; exact Classical.byContradiction hout) (g := F0 m pc ls (.int i :: .ref a :: rest)) rfl (rest := rest) rfl (by rw [hb]; exact hdg) t
  simp only [arrV_size] at h1
  exact h1 st
theorem vx_fastZ {D : va_G} {cl : List vw_C} {ws : va_W} {tys : List (ClassId × FieldType)} {a : Nat} (hexec : p.tables.exec = Jvm.exec) (hb : c.code = cc) (hK : va_K D cl tys s) (hP : va_P D cl ws H) (q0 t0 : Nat) {cA : ClassId} {n : Nat} {f : Nat → UInt32} (ha : ws[q0]? = some (a, .inl (cA, n, .inr (.inr (.inl f))))) (ht : tys[t0]? = some (cA, .float)) {i : Int32} {x : UInt32} (hout : ¬ vp_in i n) (hdg : decode cc pc = .ok (.fastore, 1))
    (k : ∀ tx : String, tx = (toString "Index " ++ toString i ++ toString " out of bounds for length " ++ toString n : String) → vx_Note p l e R s m args below meth c H locs cells slots Q (F0 m pc ls rest) "java/lang/ArrayIndexOutOfBoundsException" tx) : W p l e R s m args below meth c H locs cells slots Q (F0 m pc ls (.float x :: .int i :: .ref a :: rest)) := by
  intro T hT X
  obtain ⟨t, st, q⟩ := k _ rfl T hT X
  refine ⟨t, ?_, q⟩
  have h1 := X.fastoreOut hexec (by rw [hT]; exact hP q0 _ ha) ((hK.2 t0 _ ht).1 n (fun j => .float (f j))) (j := i) (by show (i < 0 ∨ (arrV _ _ _).slots.size ≤ _); rw [arrV_size]; exact Classical.byContradiction hout) (g := F0 m pc ls (.float x :: .int i :: .ref a :: rest)) rfl (rest := rest) rfl (by rw [hb]; exact hdg) t
  simp only [arrV_size] at h1
  exact h1 st
theorem vx_daldZ {D : va_G} {cl : List vw_C} {ws : va_W} {tys : List (ClassId × FieldType)} {a : Nat} (hexec : p.tables.exec = Jvm.exec) (hb : c.code = cc) (hK : va_K D cl tys s) (hP : va_P D cl ws H) (q0 t0 : Nat) {cA : ClassId} {n : Nat} {f : Nat → UInt64} (ha : ws[q0]? = some (a, .inl (cA, n, .inr (.inr (.inr (.inl f)))))) (ht : tys[t0]? = some (cA, .double)) {i : Int32} (hout : ¬ vp_in i n) (hdg : decode cc pc = .ok (.daload, 1))
    (k : ∀ tx : String, tx = (toString "Index " ++ toString i ++ toString " out of bounds for length " ++ toString n : String) → vx_Note p l e R s m args below meth c H locs cells slots Q (F0 m pc ls rest) "java/lang/ArrayIndexOutOfBoundsException" tx) : W p l e R s m args below meth c H locs cells slots Q (F0 m pc ls (.int i :: .ref a :: rest)) := by
  intro T hT X
  obtain ⟨t, st, q⟩ := k _ rfl T hT X
  refine ⟨t, ?_, q⟩
  have h1 := X.daloadOut hexec (by rw [hT]; exact hP q0 _ ha) ((hK.2 t0 _ ht).1 n (fun j => .double (f j))) (j := i) (by show (i < 0 ∨ (arrV _ _ _).slots.size ≤ _); rw [arrV_size]; exact Classical.byContradiction hout) (g := F0 m pc ls (.int i :: .ref a :: rest)) rfl (rest := rest) rfl (by rw [hb]; exact hdg) t
  simp only [arrV_size] at h1
  exact h1 st
theorem vx_dastZ {D : va_G} {cl : List vw_C} {ws : va_W} {tys : List (ClassId × FieldType)} {a : Nat} (hexec : p.tables.exec = Jvm.exec) (hb : c.code = cc) (hK : va_K D cl tys s) (hP : va_P D cl ws H) (q0 t0 : Nat) {cA : ClassId} {n : Nat} {f : Nat → UInt64} (ha : ws[q0]? = some (a, .inl (cA, n, .inr (.inr (.inr (.inl f)))))) (ht : tys[t0]? = some (cA, .double)) {i : Int32} {x : UInt64} (hout : ¬ vp_in i n) (hdg : decode cc pc = .ok (.dastore, 1))
    (k : ∀ tx : String, tx = (toString "Index " ++ toString i ++ toString " out of bounds for length " ++ toString n : String) → vx_Note p l e R s m args below meth c H locs cells slots Q (F0 m pc ls rest) "java/lang/ArrayIndexOutOfBoundsException" tx) : W p l e R s m args below meth c H locs cells slots Q (F0 m pc ls (.double x :: .int i :: .ref a :: rest)) := by
  intro T hT X
  obtain ⟨t, st, q⟩ := k _ rfl T hT X
  refine ⟨t, ?_, q⟩
  have h1 := X.dastoreOut hexec (by rw [hT]; exact hP q0 _ ha) ((hK.2 t0 _ ht).1 n (fun j => .double (f j))) (j := i) (by show (i < 0 ∨ (arrV _ _ _).slots.size ≤ _); rw [arrV_size]; exact Classical.byContradiction hout) (g := F0 m pc ls (.double x :: .int i :: .ref a :: rest)) rfl (rest := rest) rfl (by rw [hb]; exact hdg) t
  simp only [arrV_size] at h1
  exact h1 st
theorem vx_arraylengthN (hexec : p.tables.exec = Jvm.exec) (hb : c.code = cc) (hdg : decode cc pc = .ok (.arraylength, 1)) (k : vx_NoteN p l e R s m args below meth c H locs cells slots Q (F0 m pc ls rest)) : W p l e R s m args below meth c H locs cells slots Q (F0 m pc ls (.null :: rest)) := by
  intro T hT X
  obtain ⟨t, st, q⟩ := k T hT X
  exact ⟨t, X.arraylengthNull hexec (g := F0 m pc ls (.null :: rest)) rfl (rest := rest) rfl (by rw [hb]; exact hdg) t st, q⟩
theorem vx_ialoadN (hexec : p.tables.exec = Jvm.exec) (hb : c.code = cc) {i : Int32} (hdg : decode cc pc = .ok (.iaload, 1)) (k : vx_NoteN p l e R s m args below meth c H locs cells slots Q (F0 m pc ls rest)) : W p l e R s m args below meth c H locs cells slots Q (F0 m pc ls (.int i :: .null :: rest)) := by
  intro T hT X
  obtain ⟨t, st, q⟩ := k T hT X
  exact ⟨t, X.ialoadNull hexec (g := F0 m pc ls (.int i :: .null :: rest)) rfl (rest := rest) rfl (by rw [hb]; exact hdg) t st, q⟩
theorem vx_laloadN (hexec : p.tables.exec = Jvm.exec) (hb : c.code = cc) {i : Int32} (hdg : decode cc pc = .ok (.laload, 1)) (k : vx_NoteN p l e R s m args below meth c H locs cells slots Q (F0 m pc ls rest)) : W p l e R s m args below meth c H locs cells slots Q (F0 m pc ls (.int i :: .null :: rest)) := by
  intro T hT X
  obtain ⟨t, st, q⟩ := k T hT X
  exact ⟨t, X.laloadNull hexec (g := F0 m pc ls (.int i :: .null :: rest)) rfl (rest := rest) rfl (by rw [hb]; exact hdg) t st, q⟩
theorem vx_faloadN (hexec : p.tables.exec = Jvm.exec) (hb : c.code = cc) {i : Int32} (hdg : decode cc pc = .ok (.faload, 1)) (k : vx_NoteN p l e R s m args below meth c H locs cells slots Q (F0 m pc ls rest)) : W p l e R s m args below meth c H locs cells slots Q (F0 m pc ls (.int i :: .null :: rest)) := by
  intro T hT X
  obtain ⟨t, st, q⟩ := k T hT X
  exact ⟨t, X.faloadNull hexec (g := F0 m pc ls (.int i :: .null :: rest)) rfl (rest := rest) rfl (by rw [hb]; exact hdg) t st, q⟩
theorem vx_daloadN (hexec : p.tables.exec = Jvm.exec) (hb : c.code = cc) {i : Int32} (hdg : decode cc pc = .ok (.daload, 1)) (k : vx_NoteN p l e R s m args below meth c H locs cells slots Q (F0 m pc ls rest)) : W p l e R s m args below meth c H locs cells slots Q (F0 m pc ls (.int i :: .null :: rest)) := by
  intro T hT X
  obtain ⟨t, st, q⟩ := k T hT X
  exact ⟨t, X.daloadNull hexec (g := F0 m pc ls (.int i :: .null :: rest)) rfl (rest := rest) rfl (by rw [hb]; exact hdg) t st, q⟩
theorem vx_aaloadN (hexec : p.tables.exec = Jvm.exec) (hb : c.code = cc) {i : Int32} (hdg : decode cc pc = .ok (.aaload, 1)) (k : vx_NoteN p l e R s m args below meth c H locs cells slots Q (F0 m pc ls rest)) : W p l e R s m args below meth c H locs cells slots Q (F0 m pc ls (.int i :: .null :: rest)) := by
  intro T hT X
  obtain ⟨t, st, q⟩ := k T hT X
  exact ⟨t, X.aaloadNull hexec (g := F0 m pc ls (.int i :: .null :: rest)) rfl (rest := rest) rfl (by rw [hb]; exact hdg) t st, q⟩
theorem vx_baloadN (hexec : p.tables.exec = Jvm.exec) (hb : c.code = cc) {i : Int32} (hdg : decode cc pc = .ok (.baload, 1)) (k : vx_NoteN p l e R s m args below meth c H locs cells slots Q (F0 m pc ls rest)) : W p l e R s m args below meth c H locs cells slots Q (F0 m pc ls (.int i :: .null :: rest)) := by
  intro T hT X
  obtain ⟨t, st, q⟩ := k T hT X
  exact ⟨t, X.baloadNull hexec (g := F0 m pc ls (.int i :: .null :: rest)) rfl (rest := rest) rfl (by rw [hb]; exact hdg) t st, q⟩
theorem vx_caloadN (hexec : p.tables.exec = Jvm.exec) (hb : c.code = cc) {i : Int32} (hdg : decode cc pc = .ok (.caload, 1)) (k : vx_NoteN p l e R s m args below meth c H locs cells slots Q (F0 m pc ls rest)) : W p l e R s m args below meth c H locs cells slots Q (F0 m pc ls (.int i :: .null :: rest)) := by
  intro T hT X
  obtain ⟨t, st, q⟩ := k T hT X
  exact ⟨t, X.caloadNull hexec (g := F0 m pc ls (.int i :: .null :: rest)) rfl (rest := rest) rfl (by rw [hb]; exact hdg) t st, q⟩
theorem vx_saloadN (hexec : p.tables.exec = Jvm.exec) (hb : c.code = cc) {i : Int32} (hdg : decode cc pc = .ok (.saload, 1)) (k : vx_NoteN p l e R s m args below meth c H locs cells slots Q (F0 m pc ls rest)) : W p l e R s m args below meth c H locs cells slots Q (F0 m pc ls (.int i :: .null :: rest)) := by
  intro T hT X
  obtain ⟨t, st, q⟩ := k T hT X
  exact ⟨t, X.saloadNull hexec (g := F0 m pc ls (.int i :: .null :: rest)) rfl (rest := rest) rfl (by rw [hb]; exact hdg) t st, q⟩
theorem vx_iastoreN (hexec : p.tables.exec = Jvm.exec) (hb : c.code = cc) {x : Int32} {i : Int32} (hdg : decode cc pc = .ok (.iastore, 1)) (k : vx_NoteN p l e R s m args below meth c H locs cells slots Q (F0 m pc ls rest)) : W p l e R s m args below meth c H locs cells slots Q (F0 m pc ls (.int x :: .int i :: .null :: rest)) := by
  intro T hT X
  obtain ⟨t, st, q⟩ := k T hT X
  exact ⟨t, X.iastoreNull hexec (g := F0 m pc ls (.int x :: .int i :: .null :: rest)) rfl (rest := rest) rfl (by rw [hb]; exact hdg) t st, q⟩
theorem vx_lastoreN (hexec : p.tables.exec = Jvm.exec) (hb : c.code = cc) {x : Int64} {i : Int32} (hdg : decode cc pc = .ok (.lastore, 1)) (k : vx_NoteN p l e R s m args below meth c H locs cells slots Q (F0 m pc ls rest)) : W p l e R s m args below meth c H locs cells slots Q (F0 m pc ls (.long x :: .int i :: .null :: rest)) := by
  intro T hT X
  obtain ⟨t, st, q⟩ := k T hT X
  exact ⟨t, X.lastoreNull hexec (g := F0 m pc ls (.long x :: .int i :: .null :: rest)) rfl (rest := rest) rfl (by rw [hb]; exact hdg) t st, q⟩
theorem vx_fastoreN (hexec : p.tables.exec = Jvm.exec) (hb : c.code = cc) {x : UInt32} {i : Int32} (hdg : decode cc pc = .ok (.fastore, 1)) (k : vx_NoteN p l e R s m args below meth c H locs cells slots Q (F0 m pc ls rest)) : W p l e R s m args below meth c H locs cells slots Q (F0 m pc ls (.float x :: .int i :: .null :: rest)) := by
  intro T hT X
  obtain ⟨t, st, q⟩ := k T hT X
  exact ⟨t, X.fastoreNull hexec (g := F0 m pc ls (.float x :: .int i :: .null :: rest)) rfl (rest := rest) rfl (by rw [hb]; exact hdg) t st, q⟩
theorem vx_dastoreN (hexec : p.tables.exec = Jvm.exec) (hb : c.code = cc) {x : UInt64} {i : Int32} (hdg : decode cc pc = .ok (.dastore, 1)) (k : vx_NoteN p l e R s m args below meth c H locs cells slots Q (F0 m pc ls rest)) : W p l e R s m args below meth c H locs cells slots Q (F0 m pc ls (.double x :: .int i :: .null :: rest)) := by
  intro T hT X
  obtain ⟨t, st, q⟩ := k T hT X
  exact ⟨t, X.dastoreNull hexec (g := F0 m pc ls (.double x :: .int i :: .null :: rest)) rfl (rest := rest) rfl (by rw [hb]; exact hdg) t st, q⟩
theorem vx_bastoreN (hexec : p.tables.exec = Jvm.exec) (hb : c.code = cc) {x : Int32} {i : Int32} (hdg : decode cc pc = .ok (.bastore, 1)) (k : vx_NoteN p l e R s m args below meth c H locs cells slots Q (F0 m pc ls rest)) : W p l e R s m args below meth c H locs cells slots Q (F0 m pc ls (.int x :: .int i :: .null :: rest)) := by
  intro T hT X
  obtain ⟨t, st, q⟩ := k T hT X
  exact ⟨t, X.bastoreNull hexec (g := F0 m pc ls (.int x :: .int i :: .null :: rest)) rfl (rest := rest) rfl (by rw [hb]; exact hdg) t st, q⟩
theorem vx_castoreN (hexec : p.tables.exec = Jvm.exec) (hb : c.code = cc) {x : Int32} {i : Int32} (hdg : decode cc pc = .ok (.castore, 1)) (k : vx_NoteN p l e R s m args below meth c H locs cells slots Q (F0 m pc ls rest)) : W p l e R s m args below meth c H locs cells slots Q (F0 m pc ls (.int x :: .int i :: .null :: rest)) := by
  intro T hT X
  obtain ⟨t, st, q⟩ := k T hT X
  exact ⟨t, X.castoreNull hexec (g := F0 m pc ls (.int x :: .int i :: .null :: rest)) rfl (rest := rest) rfl (by rw [hb]; exact hdg) t st, q⟩
theorem vx_sastoreN (hexec : p.tables.exec = Jvm.exec) (hb : c.code = cc) {x : Int32} {i : Int32} (hdg : decode cc pc = .ok (.sastore, 1)) (k : vx_NoteN p l e R s m args below meth c H locs cells slots Q (F0 m pc ls rest)) : W p l e R s m args below meth c H locs cells slots Q (F0 m pc ls (.int x :: .int i :: .null :: rest)) := by
  intro T hT X
  obtain ⟨t, st, q⟩ := k T hT X
  exact ⟨t, X.sastoreNull hexec (g := F0 m pc ls (.int x :: .int i :: .null :: rest)) rfl (rest := rest) rfl (by rw [hb]; exact hdg) t st, q⟩
theorem vx_invokeN {own C : String} {index maxL : Nat} {y : MethodName} {bytes : ByteArray} {ret : Option FieldType} (hexec : p.tables.exec = Jvm.exec) (hb : c.code = cc) (hown : s.vm.findClass own = some m.cls) (hlink : (Cond.methodLink own index y).before args s = true) (hinst : (Cond.instanceMethod y).before args s = true) (hcode : (Cond.code y bytes maxL ret).before args s = true) (hsel : (Cond.selects C y y).before args s = true)
    (hx : y.cls ≠ "java/lang/invoke/MethodHandle" ∧ y.cls ≠ "java/lang/invoke/VarHandle") {As : List Value} (hlen : (parseMethodDescriptor y.desc).map (fun d => d.parameters.length) = some As.length) (hdg : decode cc pc = .ok (.invokevirtual index, 3))
    (k : vx_NoteN p l e R s m args below meth c H locs cells slots Q (F0 m pc ls rest)) {st0 : List Value} (hst : st0 = As.reverse ++ .null :: rest) : W p l e R s m args below meth c H locs cells slots Q (F0 m pc ls st0) := by
  intro T hT X
  obtain ⟨r0, r, hn, hrm, hstR, hsigR⟩ := va_Decl.of hinst hcode
  obtain ⟨c2, r2, m2, q1, q2, q3, q4, kP, hkP, hkPi⟩ := Cond.selects_spec hsel
  cases hn.symm.trans q3
  have hl9 : As.length = r.sig.parameters.length := by
    rw [hsigR] at hlen
    exact (Option.some.inj hlen).symm
  obtain ⟨vm', X1, st1⟩ := X.invokevirtualNull hexec hown hlink hn hrm hstR hkP hkPi hx (g := F0 m pc ls st0) rfl (argsL := As) (rest := rest) hl9 hst (by rw [hb]; exact hdg)
  obtain ⟨t, st, q⟩ := k (T.setVm vm') hT X1
  exact ⟨t, st1 t st, q⟩
theorem vx_newarrayZ {atype : ArrayType} (hexec : p.tables.exec = Jvm.exec) (hb : c.code = cc) {n : Int32} (h0 : n < 0) (hdg : decode cc pc = .ok (.newarray atype, 2)) (k : ∀ tx : String, tx = toString n → vx_Note p l e R s m args below meth c H locs cells slots Q (F0 m pc ls rest) "java/lang/NegativeArraySizeException" tx) : W p l e R s m args below meth c H locs cells slots Q (F0 m pc ls (.int n :: rest)) := by
  intro T hT X
  obtain ⟨t, st, q⟩ := k _ rfl T hT X
  exact ⟨t, X.newarrayNegative hexec (g := F0 m pc ls (.int n :: rest)) rfl h0 (rest := rest) rfl (by rw [hb]; exact hdg) t st, q⟩
end
end VXM
/-! ===== END ===== -/
/-! ===== BEGIN an exception as an object: made, kept, thrown later (no traces kept) ===== -/
section VXK
variable {p : Program} {l : Launch} {e : Env} {R : Room} {s : State} {m₀ : MethodId} {args : Array Value} {below : List Frame} {meth : Method} {c : Code} {W : State} {locs : List Loc} {cells slots : Nat}
set_option maxHeartbeats 1000000 in
theorem vx_ctorMadeS (X : Stand p l e R s m₀ args below meth c W locs cells slots) (hexec : p.tables.exec = Jvm.exec) (htr : e.platform.stackTraces = false) {own cls : String} {names : List String} {ic : Nat}
    (hown : s.vm.findClass own = some m₀.cls) (hcls : Bundle.fit cls = true) (hnames : ∀ n ∈ names, Bundle.fit n = true)
    (h : ∀ a ∈ Bundle.ownAtoms own ic cls names, a.before args s = true)
    (hlocs : ∀ x ∈ locs, ∀ cell, s.heap[x.base]? = some cell → cell.vm.isStatics = false)
    {a : Addr} {cX : ClassId} {kX : Class} (hfoundX : s.vm.findClass cls = some cX) (hkX : s.vm.classes[cX]? = some kX) (hcell : W.heap[a]? = some (freshCell cX kX)) (hnew : s.heap.size ≤ a)
    {msg : Value} (hmsg : msg.isRef = true)
    {g : JFrame} (hg : g.method = m₀) (hsize : g.locals.size = c.maxLocals) {rest : List Value} (hstack : g.stack = msg :: .ref a :: .ref a :: rest)
    (hd6 : decode c.code g.pc = .ok (.invokespecial ic, 3))
    (hRframes : names.length + 3 < R.frames) (hRlocals : 2 * g.monitorRoom + ((Value.ref a :: rest).map fun v => v.category).sum + (13 * (names.length + 1) + 42) ≤ R.locals) :
    ∃ (V : State) (ce : Cell) (L : List Loc), Stand p l e R s m₀ args below meth c (V.setCell a ce) (locs ++ L) cells slots ∧ (∀ y ∈ L, y.base = a) ∧ a < V.heap.size ∧ ce.cls = cX ∧ ce.vm = .none ∧
      ∀ target, Steps p.tables e below ((V.setCell a ce).setTop { g with stack := .ref a :: rest, pc := g.pc + 3 }) target → Steps p.tables e below (W.setTop g) target := by
  have howns : e.platform.frameOwnsMonitors = true := by rw [X.admits.platform]
  have hfin : e.platform.finalization = false := by rw [X.admits.platform]
  have hpl : e.platform.magicAccessors = ({} : Platform).magicAccessors := by rw [X.admits.platform]
  have a' : ∀ x, x ∈ Bundle.ownAtoms own ic cls names → x.holds args s none s [] = true := fun x hx => h x hx
  obtain ⟨T, Z0, L, -, Y⟩ := ThrowableC.of_atoms (args := args) howns hfin hpl (fun x hx => h x (by simp [Bundle.ownAtoms, hx]))
  obtain ⟨Z, M, LZ, LM, hnZ⟩ := Init0T.ofS_atoms (args := args) hpl L Y (fun x hx => h x (by simp [Bundle.ownAtoms, hx]))
  obtain ⟨P1, Ps, hlen, L1, hL, hP1m, hlink1, hlink⟩ := Bundle.chainS (args := args) hpl hnZ names cls hcls hnames (fun x hx => h x (by simp [Bundle.ownAtoms, hx]))
  have hfound : s.vm.findClass cls = some P1.m.cls := findClass_of_methodNamed hP1m
  cases Option.some.inj (hfoundX.symm.trans hfound)
  obtain ⟨c1, kX', hc1, hk, hord, -, -, hn6⟩ := Cond.instantiable_spec (a' (.instantiable cls 6) (by simp [Bundle.ownAtoms]))
  cases Option.some.inj (hc1.symm.trans hfound)
  cases Option.some.inj (hkX.symm.trans hk)
  have hsel0 : selectMethod e.platform s.vm P1.m.cls T.fill0 = .method T.fill0 := by
    obtain ⟨c2, r2, m2, q1, q2, q3, q4, -⟩ := Cond.selects_spec (a' (.selects cls Bundle.tFill0 Bundle.tFill0) (by simp [Bundle.ownAtoms]))
    cases Option.some.inj (q1.symm.trans hfound)
    cases Option.some.inj (q2.symm.trans (State.methodFound?_of_named Y.fill0 (by decide)))
    cases Option.some.inj (q3.symm.trans Y.fill0)
    rw [Launch.admits_selectMethod X.admits]; exact q4
  have hselF : selectMethod e.platform s.vm P1.m.cls T.fill = .method T.fill := by
    obtain ⟨c2, r2, m2, q1, q2, q3, q4, -⟩ := Cond.selects_spec (a' (.selects cls Bundle.tFill Bundle.tFill) (by simp [Bundle.ownAtoms]))
    cases Option.some.inj (q1.symm.trans hfound)
    cases Option.some.inj (q2.symm.trans (State.methodFound?_of_named Y.fill (by decide)))
    cases Option.some.inj (q3.symm.trans Y.fill)
    rw [Launch.admits_selectMethod X.admits]; exact q4
  obtain ⟨cellS0, hcS0, hiss⟩ := Y.statics
  obtain ⟨u0, hu0⟩ := Cond.staticRefV Y.unassigned L.unassignedStatic L.statics hcS0 hiss (a' (.isRef (.static Bundle.tN "UNASSIGNED_STACK" Bundle.steD)) (by simp [Bundle.ownAtoms]))
  obtain ⟨sen, hsen⟩ := Cond.staticRefV Y.sentinel L.sentinelStatic L.statics hcS0 hiss (a' (.isRef (.static Bundle.tN "SUPPRESSED_SENTINEL" Bundle.listD)) (by simp [Bundle.ownAtoms]))
  obtain ⟨ci198, i198, fB, hk198, hg198, ha198, hsB, -, hnB, htB, hffB⟩ := Cond.ownField (t := .object "java/lang/Object") Y.found L.cls (by decide +kernel) (a' (.fieldLink Bundle.tN 198 Bundle.tN "backtrace" "Ljava/lang/Object;") (by simp [Bundle.ownAtoms])) (a' (.lays Bundle.tN Bundle.tN "backtrace" "Ljava/lang/Object;") (by simp [Bundle.ownAtoms])) e.platform hpl
  obtain ⟨cellS, hcS', heS, -, hkeep⟩ := X.same.2.2.2.2.2 T.aS cellS0 hcS0
  have hcellS : W.heap[T.aS]? = some cellS := hcS'
  have hout' : ∀ i, (⟨T.aS, i⟩ : Loc) ∉ locs := fun i hmem => by
    have := hlocs _ hmem cellS0 hcS0
    rw [hiss] at this; cases this
  have hknownS : cellS.vm ≠ .unknown := by
    rw [heS]; intro hu
    rw [show cellS0.vm = .unknown from hu] at hiss
    cases hiss
  have hneS : T.aS ≠ a := Nat.ne_of_lt (Nat.lt_of_lt_of_le (Array.getElem?_eq_some_iff.mp hcS0).1 hnew)
  obtain ⟨iM, hffM⟩ := Y.msg
  obtain ⟨tyC, dC, hdC, hdnC⟩ := Cond.laysAt hfound hk Y.cause (a' (.lays cls Bundle.tN "cause" "Ljava/lang/Throwable;") (by simp [Bundle.ownAtoms]))
  obtain ⟨tyS, dS, hdS, hdnS⟩ := Cond.laysAt hfound hk Y.stack (a' (.lays cls Bundle.tN "stackTrace" Bundle.steD) (by simp [Bundle.ownAtoms]))
  obtain ⟨tyP, dP, hdP, hdnP⟩ := Cond.laysAt hfound hk Y.supp (a' (.lays cls Bundle.tN "suppressedExceptions" Bundle.listD) (by simp [Bundle.ownAtoms]))
  obtain ⟨tyM, dM, hdM, hdnM⟩ := Cond.laysAt hfound hk hffM (a' (.lays cls Bundle.tN "detailMessage" "Ljava/lang/String;") (by simp [Bundle.ownAtoms]))
  obtain ⟨tyB, dB, hdB, hdnB⟩ := Cond.laysAt hfound hk hffB (a' (.lays cls Bundle.tN "backtrace" "Ljava/lang/Object;") (by simp [Bundle.ownAtoms]))
  have bC := Cond.laysApart hdB hdC hdnB hdnC (by rw [hnB, Y.causeName]; decide)
  have bS := Cond.laysApart hdB hdS hdnB hdnS (by rw [hnB, Y.stackName]; decide)
  have bP := Cond.laysApart hdB hdP hdnB hdnP (by rw [hnB, Y.suppName]; decide)
  have hskip : SkipFacts T e.platform s (fun u => u) u0 ((preparedCellV T.toThrowableT (freshCell P1.m.cls kX) a u0 sen).withEntry W.cur) :=
    ⟨{ ci198 := ci198, i198 := i198, fBack := fB }, ⟨hk198, hg198, ha198, hsB⟩, by
      have := fresh_default (c := P1.m.cls) tyB
      rw [htB] at this
      simpa [preparedCellV, Cell.setSlot, Cell.withEntry, Array.getElem?_setIfInBounds, bC, bS, bP, bC.symm, bS.symm, bP.symm, defaultValue] using this, fun _ _ => rfl⟩
  obtain ⟨tm, methC, cdC, kC, vm₁, hnC, -, -, -, -, -, -, -, hW₁, st1⟩ := Steps.initColdS (tb := p.tables) (e := e) (below := below) (s := s) (U := W) X.here hexec X.warmed hpl hown (t := Bundle.initS cls) rfl rfl (Bundle.fit_spec hcls).2
    (a' (.methodLink own ic (Bundle.initS cls)) (by simp [Bundle.ownAtoms])) (h (.instanceMethod (Bundle.initS cls)) (by cases names <;> simp [Bundle.ownAtoms, Bundle.chainSAtoms, Bundle.passSAtoms])) (bytes := Bundle.six) (maxL := 2) (h (.code (Bundle.initS cls) Bundle.six 2 none) (by cases names <;> simp [Bundle.ownAtoms, Bundle.chainSAtoms, Bundle.passSAtoms]))
    (f := g) hg (a := a) (msg := msg) (rest := .ref a :: rest) hstack hd6
  cases Option.some.inj (hnC.symm.trans hP1m)
  have X₁ := X.noted hW₁
  obtain ⟨vm₂, X₂, st2⟩ := X₁.ctorMessageOffV hexec (g := { g with stack := .ref a :: rest }) hg hsize T L Z LZ M LM (P1 :: Ps)
    (fun P hP => by rcases List.mem_cons.mp hP with rfl | hP; exact L1; exact hL P hP) ⟨hlink1, hlink⟩ (u0 := u0) (sen := sen) (self := a) hmsg (cell := freshCell P1.m.cls kX) (cellS := cellS)
    hcell (fun _ => by simp) (by simp) rfl rfl hsel0 hselF hcellS hneS hknownS (by rw [hkeep _ (hout' _)]; exact hu0) (by rw [hkeep _ (hout' _)]; exact hsen)
    (Takes.of_laid hk hord tyC (by rw [Y.causeType]; rfl)) (Takes.of_laid hk hord tyS (by rw [Y.stackType]; exact fits_refV_array _ u0)) (Takes.of_laid hk hord tyP (by rw [Y.suppType]; exact fits_refV_object _ sen))
    (Takes.of_laid hk hord tyM (by rw [Y.msgType]; exact fits_refV_object _ ⟨msg, hmsg⟩)) Y.objLocals hskip htr [] hd6
    (by simp only [List.length_cons, hlen]; omega) (by simp only [List.length_cons, hlen]; exact hRlocals)
  have hlt : a < ((W.setVm vm₁).setVm vm₂).heap.size := (Array.getElem?_eq_some_iff.mp hcell).1
  refine ⟨(W.setVm vm₁).setVm vm₂, _, _, X₂, fun y hy => ?_, hlt, rfl, rfl, fun target hwalk => st1 _ (fun acts => ?_)⟩
  · simp only [List.mem_cons, List.not_mem_nil, or_false] at hy
    rcases hy with rfl | rfl | rfl | rfl | rfl <;> rfl
  · rw [doInvoke_state]
    exact st2 _ hwalk
set_option maxHeartbeats 1000000 in
theorem vx_ctorMade0 (X : Stand p l e R s m₀ args below meth c W locs cells slots) (hexec : p.tables.exec = Jvm.exec) (htr : e.platform.stackTraces = false) {own cls : String} {names : List String} {ic : Nat}
    (hown : s.vm.findClass own = some m₀.cls) (hcls : Bundle.fit cls = true) (hnames : ∀ n ∈ names, Bundle.fit n = true)
    (h : ∀ a ∈ Bundle.ownAtoms0 own ic cls names, a.before args s = true)
    (hlocs : ∀ x ∈ locs, ∀ cell, s.heap[x.base]? = some cell → cell.vm.isStatics = false)
    {a : Addr} {cX : ClassId} {kX : Class} (hfoundX : s.vm.findClass cls = some cX) (hkX : s.vm.classes[cX]? = some kX) (hcell : W.heap[a]? = some (freshCell cX kX)) (hnew : s.heap.size ≤ a)
    {g : JFrame} (hg : g.method = m₀) (hsize : g.locals.size = c.maxLocals) {rest : List Value} (hstack : g.stack = .ref a :: .ref a :: rest)
    (hd6 : decode c.code g.pc = .ok (.invokespecial ic, 3))
    (hRframes : names.length + 3 < R.frames) (hRlocals : 2 * g.monitorRoom + ((Value.ref a :: rest).map fun v => v.category).sum + (13 * (names.length + 1) + 41) ≤ R.locals) :
    ∃ (V : State) (ce : Cell) (L : List Loc), Stand p l e R s m₀ args below meth c (V.setCell a ce) (locs ++ L) cells slots ∧ (∀ y ∈ L, y.base = a) ∧ a < V.heap.size ∧ ce.cls = cX ∧ ce.vm = .none ∧
      ∀ target, Steps p.tables e below ((V.setCell a ce).setTop { g with stack := .ref a :: rest, pc := g.pc + 3 }) target → Steps p.tables e below (W.setTop g) target := by
  have howns : e.platform.frameOwnsMonitors = true := by rw [X.admits.platform]
  have hfin : e.platform.finalization = false := by rw [X.admits.platform]
  have hpl : e.platform.magicAccessors = ({} : Platform).magicAccessors := by rw [X.admits.platform]
  have a' : ∀ x, x ∈ Bundle.ownAtoms0 own ic cls names → x.holds args s none s [] = true := fun x hx => h x hx
  obtain ⟨T, Z, L, LZ, Y⟩ := ThrowableC.of_atoms (args := args) howns hfin hpl (fun x hx => h x (by simp [Bundle.ownAtoms0, hx]))
  obtain ⟨P1, Ps, hlen, L1, hL, hP1m, hlink1, hlink⟩ := Bundle.chain0 (args := args) hpl Y.init0 names cls hcls hnames (fun x hx => h x (by simp [Bundle.ownAtoms0, hx]))
  have hfound : s.vm.findClass cls = some P1.m.cls := findClass_of_methodNamed hP1m
  cases Option.some.inj (hfoundX.symm.trans hfound)
  obtain ⟨c1, kX', hc1, hk, hord, -, -, hn6⟩ := Cond.instantiable_spec (a' (.instantiable cls 6) (by simp [Bundle.ownAtoms0]))
  cases Option.some.inj (hc1.symm.trans hfound)
  cases Option.some.inj (hkX.symm.trans hk)
  have hsel0 : selectMethod e.platform s.vm P1.m.cls T.fill0 = .method T.fill0 := by
    obtain ⟨c2, r2, m2, q1, q2, q3, q4, -⟩ := Cond.selects_spec (a' (.selects cls Bundle.tFill0 Bundle.tFill0) (by simp [Bundle.ownAtoms0]))
    cases Option.some.inj (q1.symm.trans hfound)
    cases Option.some.inj (q2.symm.trans (State.methodFound?_of_named Y.fill0 (by decide)))
    cases Option.some.inj (q3.symm.trans Y.fill0)
    rw [Launch.admits_selectMethod X.admits]; exact q4
  have hselF : selectMethod e.platform s.vm P1.m.cls T.fill = .method T.fill := by
    obtain ⟨c2, r2, m2, q1, q2, q3, q4, -⟩ := Cond.selects_spec (a' (.selects cls Bundle.tFill Bundle.tFill) (by simp [Bundle.ownAtoms0]))
    cases Option.some.inj (q1.symm.trans hfound)
    cases Option.some.inj (q2.symm.trans (State.methodFound?_of_named Y.fill (by decide)))
    cases Option.some.inj (q3.symm.trans Y.fill)
    rw [Launch.admits_selectMethod X.admits]; exact q4
  obtain ⟨cellS0, hcS0, hiss⟩ := Y.statics
  obtain ⟨u0, hu0⟩ := Cond.staticRefV Y.unassigned L.unassignedStatic L.statics hcS0 hiss (a' (.isRef (.static Bundle.tN "UNASSIGNED_STACK" Bundle.steD)) (by simp [Bundle.ownAtoms0]))
  obtain ⟨sen, hsen⟩ := Cond.staticRefV Y.sentinel L.sentinelStatic L.statics hcS0 hiss (a' (.isRef (.static Bundle.tN "SUPPRESSED_SENTINEL" Bundle.listD)) (by simp [Bundle.ownAtoms0]))
  obtain ⟨ci198, i198, fB, hk198, hg198, ha198, hsB, -, hnB, htB, hffB⟩ := Cond.ownField (t := .object "java/lang/Object") Y.found L.cls (by decide +kernel) (a' (.fieldLink Bundle.tN 198 Bundle.tN "backtrace" "Ljava/lang/Object;") (by simp [Bundle.ownAtoms0])) (a' (.lays Bundle.tN Bundle.tN "backtrace" "Ljava/lang/Object;") (by simp [Bundle.ownAtoms0])) e.platform hpl
  obtain ⟨cellS, hcS', heS, -, hkeep⟩ := X.same.2.2.2.2.2 T.aS cellS0 hcS0
  have hcellS : W.heap[T.aS]? = some cellS := hcS'
  have hout' : ∀ i, (⟨T.aS, i⟩ : Loc) ∉ locs := fun i hmem => by
    have := hlocs _ hmem cellS0 hcS0
    rw [hiss] at this; cases this
  have hknownS : cellS.vm ≠ .unknown := by
    rw [heS]; intro hu
    rw [show cellS0.vm = .unknown from hu] at hiss
    cases hiss
  have hneS : T.aS ≠ a := Nat.ne_of_lt (Nat.lt_of_lt_of_le (Array.getElem?_eq_some_iff.mp hcS0).1 hnew)
  obtain ⟨iM, hffM⟩ := Y.msg
  obtain ⟨tyC, dC, hdC, hdnC⟩ := Cond.laysAt hfound hk Y.cause (a' (.lays cls Bundle.tN "cause" "Ljava/lang/Throwable;") (by simp [Bundle.ownAtoms0]))
  obtain ⟨tyS, dS, hdS, hdnS⟩ := Cond.laysAt hfound hk Y.stack (a' (.lays cls Bundle.tN "stackTrace" Bundle.steD) (by simp [Bundle.ownAtoms0]))
  obtain ⟨tyP, dP, hdP, hdnP⟩ := Cond.laysAt hfound hk Y.supp (a' (.lays cls Bundle.tN "suppressedExceptions" Bundle.listD) (by simp [Bundle.ownAtoms0]))
  obtain ⟨tyM, dM, hdM, hdnM⟩ := Cond.laysAt hfound hk hffM (a' (.lays cls Bundle.tN "detailMessage" "Ljava/lang/String;") (by simp [Bundle.ownAtoms0]))
  obtain ⟨tyB, dB, hdB, hdnB⟩ := Cond.laysAt hfound hk hffB (a' (.lays cls Bundle.tN "backtrace" "Ljava/lang/Object;") (by simp [Bundle.ownAtoms0]))
  have bC := Cond.laysApart hdB hdC hdnB hdnC (by rw [hnB, Y.causeName]; decide)
  have bS := Cond.laysApart hdB hdS hdnB hdnS (by rw [hnB, Y.stackName]; decide)
  have bP := Cond.laysApart hdB hdP hdnB hdnP (by rw [hnB, Y.suppName]; decide)
  have hskip : SkipFacts T e.platform s (fun u => u) u0 ((preparedCellV T.toThrowableT (freshCell P1.m.cls kX) a u0 sen).withEntry W.cur) :=
    ⟨{ ci198 := ci198, i198 := i198, fBack := fB }, ⟨hk198, hg198, ha198, hsB⟩, by
      have := fresh_default (c := P1.m.cls) tyB
      rw [htB] at this
      simpa [preparedCellV, Cell.setSlot, Cell.withEntry, Array.getElem?_setIfInBounds, bC, bS, bP, bC.symm, bS.symm, bP.symm, defaultValue] using this, fun _ _ => rfl⟩
  obtain ⟨tm, methC, cdC, kC, vm₁, hnC, -, -, -, -, -, -, -, hW₁, st1⟩ := Steps.initCold (tb := p.tables) (e := e) (below := below) (s := s) (U := W) X.here hexec X.warmed hpl hown (t := Bundle.init0 cls) rfl rfl (Bundle.fit_spec hcls).2
    (a' (.methodLink own ic (Bundle.init0 cls)) (by simp [Bundle.ownAtoms0])) (h (.instanceMethod (Bundle.init0 cls)) (by cases names <;> simp [Bundle.ownAtoms0, Bundle.chain0Atoms, Bundle.passAtoms])) (bytes := Bundle.five) (maxL := 1) (h (.code (Bundle.init0 cls) Bundle.five 1 none) (by cases names <;> simp [Bundle.ownAtoms0, Bundle.chain0Atoms, Bundle.passAtoms]))
    (f := g) hg (a := a) (rest := .ref a :: rest) hstack hd6
  cases Option.some.inj (hnC.symm.trans hP1m)
  have X₁ := X.noted hW₁
  obtain ⟨vm₂, X₂, st2⟩ := X₁.ctorPlainOffV hexec (g := { g with stack := .ref a :: rest }) hg hsize T L Z LZ (P1 :: Ps)
    (fun P hP => by rcases List.mem_cons.mp hP with rfl | hP; exact L1; exact hL P hP) ⟨hlink1, hlink⟩ (u0 := u0) (sen := sen) (self := a) (cell := freshCell P1.m.cls kX) (cellS := cellS)
    hcell (fun _ => by simp) (by simp) rfl rfl hsel0 hselF hcellS hneS hknownS (by rw [hkeep _ (hout' _)]; exact hu0) (by rw [hkeep _ (hout' _)]; exact hsen)
    (Takes.of_laid hk hord tyC (by rw [Y.causeType]; rfl)) (Takes.of_laid hk hord tyS (by rw [Y.stackType]; exact fits_refV_array _ u0)) (Takes.of_laid hk hord tyP (by rw [Y.suppType]; exact fits_refV_object _ sen)) Y.objLocals hskip htr [] hd6
    (by simp only [List.length_cons, hlen]; omega) (by simp only [List.length_cons, hlen]; exact hRlocals)
  have hlt : a < ((W.setVm vm₁).setVm vm₂).heap.size := (Array.getElem?_eq_some_iff.mp hcell).1
  refine ⟨(W.setVm vm₁).setVm vm₂, _, _, X₂, fun y hy => ?_, hlt, rfl, rfl, fun target hwalk => st1 _ (fun acts => ?_)⟩
  · simp only [List.mem_cons, List.not_mem_nil, or_false] at hy
    rcases hy with rfl | rfl | rfl | rfl <;> rfl
  · rw [doInvoke_state]
    exact st2 _ hwalk
end VXK
section VXK2
variable {p : Program} {l : Launch} {e : Env} {R : Room} {s : State} {m : MethodId} {args : Array Value} {below : List Frame} {meth : Method} {c : Code} {H : Heap} {locs : List Loc} {cells slots : Nat} {Q : State → Prop}
variable {ls : Array Slot} {rest : List Value} {D : va_G} {cl : List vw_C} {tys : List (ClassId × FieldType)} {ws : va_W}
/-- 'new E("text")' that isn't thrown at once: the object goes on the stack -/
theorem vx_makeS {cc : ByteArray} {pc : Nat} (hexec : p.tables.exec = Jvm.exec) (hb : c.code = cc) (hl : l.stackTraces = false) {own cls text : String} {names : List String} {ik is ic sa ci : Nat} {A : Nat → Prop} {T0 : u_T}
    (hown : s.vm.findClass own = some m.cls) (hcls : Bundle.fit cls = true) (hnames : ∀ n ∈ names, Bundle.fit n = true)
    (hk : (Cond.classLink own ik cls).before args s = true) (hini : (Cond.initialized cls).before args s = true) (hstr : vk_R own is text sa s) (hat : ∀ w ∈ vx_atS own ic cls names, w.before args s = true)
    (hgood : ∀ w ∈ Cond.classLink own ik cls :: Cond.initialized cls :: vx_atS own ic cls names, vx_ot w = true)
    (hU : vx_Zq Bundle.tN "UNASSIGNED_STACK" Bundle.steD A s s.heap) (hN : vx_Zq Bundle.tN "SUPPRESSED_SENTINEL" Bundle.listD A s s.heap) (hS : va_S A s.heap H locs) (hsize : ls.size = c.maxLocals)
    (d0 : decode cc pc = .ok (.new ik, 3)) (d3 : decode cc (pc + 3) = .ok (.dup, 1)) (d4 : decode cc (pc + 4) = .ok (.ldc is, 2)) (d6 : decode cc (pc + 6) = .ok (.invokespecial ic, 3))
    (hK : va_K D cl tys s) (hP : va_P D cl ws H) (hD : va_D A ws) (hA : ∀ q, s.heap.size ≤ q → A q) (hc : cl[ci]? = some (cls, T0, 0))
    (hRframes : names.length + 3 < R.frames) (hRlocals : (rest.map fun v => v.category).sum + (13 * (names.length + 1) + 43) ≤ R.locals) (hRcells : cells + 1 ≤ R.cells) (hRslots : slots + 6 ≤ R.slots)
    (kk : ∀ (q : Nat) (H1 : Heap), va_P D cl (ws ++ [(q, .inr (ci, []))]) H1 → va_D A (ws ++ [(q, .inr (ci, []))]) → va_S A s.heap H1 locs → W p l e R s m args below meth c H1 locs (cells + 1) (slots + 6) Q (F0 m (pc + 9) ls (.ref q :: rest))) :
    W p l e R s m args below meth c H locs cells slots Q (F0 m pc ls rest) := by
  intro T hT X
  subst hT
  have htr : e.platform.stackTraces = false := (show e.platform.stackTraces = l.stackTraces by rw [X.admits.platform]).trans hl
  have Y := vx_rebase X (R' := { frames := R.frames, locals := R.locals, cells := 1, slots := 6 }) (Nat.le_refl _) (Nat.le_refl _) hRcells hRslots
  obtain ⟨s', hA'⟩ : ∃ z, z = (T.setVm s.vm).setFrames (.invoking m args :: below) := ⟨_, rfl⟩
  rw [← hA'] at Y
  have hvm : s'.vm = s.vm := by rw [hA']; rfl
  have hhp : s'.heap = T.heap := by rw [hA']; rfl
  have hW0 : s.WarmedH s'.vm := by rw [hvm]; exact State.WarmedH.refl s
  have hat' : ∀ w ∈ vx_atS own ic cls names, w.before args s' = true := fun w hw => vx_ot_at hW0 hvm.symm (hgood w (List.mem_cons_of_mem _ (List.mem_cons_of_mem _ hw))) (hat w hw)
  have hk' : (Cond.classLink own ik cls).before args s' = true := vx_ot_at hW0 hvm.symm (hgood _ List.mem_cons_self) hk
  have hini' : (Cond.initialized cls).before args s' = true := vx_ot_at hW0 hvm.symm (hgood _ (List.mem_cons_of_mem _ List.mem_cons_self)) hini
  have hU' : vx_Zq Bundle.tN "UNASSIGNED_STACK" Bundle.steD A s' s'.heap := by rw [hhp]; exact vx_Zq.moved hW0.alike (hU.kept hS.2.1)
  have hN' : vx_Zq Bundle.tN "SUPPRESSED_SENTINEL" Bundle.listD A s' s'.heap := by rw [hhp]; exact vx_Zq.moved hW0.alike (hN.kept hS.2.1)
  have h : ∀ w ∈ Bundle.ownAtoms own ic cls names, w.before args s' = true := vx_own hat' (vx_isRefq hU'.1) (vx_isRefq hN'.1) hU'.2.word hN'.2.word
  have hown' : s'.vm.findClass own = some m.cls := by rw [hvm]; exact hown
  have hins : (Cond.instantiable cls 6).before args s' = true := h _ (by simp [Bundle.ownAtoms])
  obtain ⟨vm₁, cX, kX, hfX, hkX, -, -, X₁, st1⟩ := Y.newCold hexec (own := own) (C := cls) (index := ik) (n := 6) hown' hk' hins hini'
    (g := F0 m pc ls rest) rfl (by rw [hb]; exact d0) (Nat.le_refl _) (Nat.le_refl _)
  generalize hT1 : (T.setVm vm₁).pushCell { cls := cX, slots := kX.instanceTypes.map defaultValue, vm := .none } = T1 at X₁ st1
  have hcat : (Value.ref T.heap.size).category = 1 := rfl
  have hcellA : T1.heap[T.heap.size]? = some (freshCell cX kX) := by rw [← hT1]; exact State.heap_pushCell_size _ _
  have d3' : decode c.code (pc + 3) = .ok (.dup, 1) := by rw [hb]; exact d3
  have d4' : decode c.code (pc + 4) = .ok (.ldc is, 2) := by rw [hb]; exact d4
  have hstr' : vk_R own is text sa s' := vk_R.warm hW0 hstr
  obtain ⟨V, ce, L, Z, hL, hlt, hcl9, hvm9, st⟩ := vx_ctorMadeS X₁ hexec htr (own := own) (cls := cls) (names := names) (ic := ic) hown' hcls hnames h (fun x hx => nomatch hx) hfX hkX hcellA (by rw [hhp]; exact Nat.le_refl _) (msg := .ref sa) rfl
    (g := { method := m, pc := pc + 6, locals := ls, stack := .ref sa :: .ref T.heap.size :: .ref T.heap.size :: rest, locked := none }) rfl hsize (rest := rest) rfl
    (by rw [hb]; exact d6) hRframes (by simp only [List.map_cons, List.sum_cons, hcat]; omega)
  have Z0 := Stand.forget (locs := []) Z (fun y hy => by rw [hL y hy, hhp]; exact Nat.le_refl _)
  obtain ⟨f1, f2⟩ := vx_frame Z0.same
  rw [hhp] at f1 f2
  have hcid : ce.cls = D.1 ci := by
    rw [hcl9]
    have h1 := (hK.1 ci _ hc).2.1
    rw [hvm] at hfX
    exact Option.some.inj (hfX.symm.trans h1)
  have hh : (V.setCell T.heap.size ce).heap[T.heap.size]? = some ce := heapAt_setCell_self (s := V) ce hlt
  subst hA'
  have X5 := vx_back9 X Y Z0
  have X6 : Stand p l e R s m args below meth c (V.setCell T.heap.size ce) locs (cells + 1) (slots + 6) := { X5 with same := X5.same.mono (by omega) (by omega) }
  have hk9 : ∀ (k : Nat) (x : Nat × va_E), ws[k]? = some x → (V.setCell T.heap.size ce).heap[x.1]? = T.heap[x.1]? := fun k x hx => f2 x.1 ((hP k x hx).lt) (fun z hz => nomatch hz)
  obtain ⟨t, a1, b1⟩ := kk T.heap.size (V.setCell T.heap.size ce).heap ((hP.kept hk9).app (fun k x hx => by
      have hz : k < 1 := (List.getElem?_eq_some_iff.mp hx).1
      rw [show k = 0 by omega] at hx
      cases hx
      exact ⟨_, hc, ce, hh, hcid, hvm9, fun k hk => absurd hk (Nat.not_lt_zero k)⟩)) (hD.push hP rfl (hA _ hS.1)) ⟨Nat.le_trans hS.1 f1, fun q h1 h2 => (f2 q (Nat.lt_of_lt_of_le h1 hS.1) (fun z hz => nomatch hz)).trans (hS.2.1 q h1 h2), hS.2.2⟩ _ rfl X6
  refine ⟨t, st1 _ ?_, b1⟩
  show Steps p.tables e below (T1.setTop { method := m, pc := pc + 3, locals := ls, stack := .ref T.heap.size :: rest, locked := none }) _
  jvm_step X₁.here [X₁.here.top, hexec, d3', Value.category]
  exact X₁.ldcString hexec (own := own) (text := text) (index := is) (a := sa) hown' hstr'.1 hstr'.2
    (g := { method := m, pc := pc + 4, locals := ls, stack := .ref T.heap.size :: .ref T.heap.size :: rest, locked := none }) rfl d4' _ (st _ a1)
/-- 'new E()' that isn't thrown at once: the object goes on the stack -/
theorem vx_make0 {cc : ByteArray} {pc : Nat} (hexec : p.tables.exec = Jvm.exec) (hb : c.code = cc) (hl : l.stackTraces = false) {own cls : String} {names : List String} {ik ic ci : Nat} {A : Nat → Prop} {T0 : u_T}
    (hown : s.vm.findClass own = some m.cls) (hcls : Bundle.fit cls = true) (hnames : ∀ n ∈ names, Bundle.fit n = true)
    (hk : (Cond.classLink own ik cls).before args s = true) (hini : (Cond.initialized cls).before args s = true) (hat : ∀ w ∈ vx_at0 own ic cls names, w.before args s = true)
    (hgood : ∀ w ∈ Cond.classLink own ik cls :: Cond.initialized cls :: vx_at0 own ic cls names, vx_ot w = true)
    (hU : vx_Zq Bundle.tN "UNASSIGNED_STACK" Bundle.steD A s s.heap) (hN : vx_Zq Bundle.tN "SUPPRESSED_SENTINEL" Bundle.listD A s s.heap) (hS : va_S A s.heap H locs) (hsize : ls.size = c.maxLocals)
    (d0 : decode cc pc = .ok (.new ik, 3)) (d3 : decode cc (pc + 3) = .ok (.dup, 1)) (d4 : decode cc (pc + 4) = .ok (.invokespecial ic, 3))
    (hK : va_K D cl tys s) (hP : va_P D cl ws H) (hD : va_D A ws) (hA : ∀ q, s.heap.size ≤ q → A q) (hc : cl[ci]? = some (cls, T0, 0))
    (hRframes : names.length + 3 < R.frames) (hRlocals : (rest.map fun v => v.category).sum + (13 * (names.length + 1) + 42) ≤ R.locals) (hRcells : cells + 1 ≤ R.cells) (hRslots : slots + 6 ≤ R.slots)
    (kk : ∀ (q : Nat) (H1 : Heap), va_P D cl (ws ++ [(q, .inr (ci, []))]) H1 → va_D A (ws ++ [(q, .inr (ci, []))]) → va_S A s.heap H1 locs → W p l e R s m args below meth c H1 locs (cells + 1) (slots + 6) Q (F0 m (pc + 7) ls (.ref q :: rest))) :
    W p l e R s m args below meth c H locs cells slots Q (F0 m pc ls rest) := by
  intro T hT X
  subst hT
  have htr : e.platform.stackTraces = false := (show e.platform.stackTraces = l.stackTraces by rw [X.admits.platform]).trans hl
  have Y := vx_rebase X (R' := { frames := R.frames, locals := R.locals, cells := 1, slots := 6 }) (Nat.le_refl _) (Nat.le_refl _) hRcells hRslots
  obtain ⟨s', hA'⟩ : ∃ z, z = (T.setVm s.vm).setFrames (.invoking m args :: below) := ⟨_, rfl⟩
  rw [← hA'] at Y
  have hvm : s'.vm = s.vm := by rw [hA']; rfl
  have hhp : s'.heap = T.heap := by rw [hA']; rfl
  have hW0 : s.WarmedH s'.vm := by rw [hvm]; exact State.WarmedH.refl s
  have hat' : ∀ w ∈ vx_at0 own ic cls names, w.before args s' = true := fun w hw => vx_ot_at hW0 hvm.symm (hgood w (List.mem_cons_of_mem _ (List.mem_cons_of_mem _ hw))) (hat w hw)
  have hk' : (Cond.classLink own ik cls).before args s' = true := vx_ot_at hW0 hvm.symm (hgood _ List.mem_cons_self) hk
  have hini' : (Cond.initialized cls).before args s' = true := vx_ot_at hW0 hvm.symm (hgood _ (List.mem_cons_of_mem _ List.mem_cons_self)) hini
  have hU' : vx_Zq Bundle.tN "UNASSIGNED_STACK" Bundle.steD A s' s'.heap := by rw [hhp]; exact vx_Zq.moved hW0.alike (hU.kept hS.2.1)
  have hN' : vx_Zq Bundle.tN "SUPPRESSED_SENTINEL" Bundle.listD A s' s'.heap := by rw [hhp]; exact vx_Zq.moved hW0.alike (hN.kept hS.2.1)
  have h : ∀ w ∈ Bundle.ownAtoms0 own ic cls names, w.before args s' = true := vx_own hat' (vx_isRefq hU'.1) (vx_isRefq hN'.1) hU'.2.word hN'.2.word
  have hown' : s'.vm.findClass own = some m.cls := by rw [hvm]; exact hown
  have hins : (Cond.instantiable cls 6).before args s' = true := h _ (by simp [Bundle.ownAtoms0])
  obtain ⟨vm₁, cX, kX, hfX, hkX, -, -, X₁, st1⟩ := Y.newCold hexec (own := own) (C := cls) (index := ik) (n := 6) hown' hk' hins hini'
    (g := F0 m pc ls rest) rfl (by rw [hb]; exact d0) (Nat.le_refl _) (Nat.le_refl _)
  generalize hT1 : (T.setVm vm₁).pushCell { cls := cX, slots := kX.instanceTypes.map defaultValue, vm := .none } = T1 at X₁ st1
  have hcat : (Value.ref T.heap.size).category = 1 := rfl
  have hcellA : T1.heap[T.heap.size]? = some (freshCell cX kX) := by rw [← hT1]; exact State.heap_pushCell_size _ _
  have d3' : decode c.code (pc + 3) = .ok (.dup, 1) := by rw [hb]; exact d3
  obtain ⟨V, ce, L, Z, hL, hlt, hcl9, hvm9, st⟩ := vx_ctorMade0 X₁ hexec htr (own := own) (cls := cls) (names := names) (ic := ic) hown' hcls hnames h (fun x hx => nomatch hx) hfX hkX hcellA (by rw [hhp]; exact Nat.le_refl _)
    (g := { method := m, pc := pc + 4, locals := ls, stack := .ref T.heap.size :: .ref T.heap.size :: rest, locked := none }) rfl hsize (rest := rest) rfl
    (by rw [hb]; exact d4) hRframes (by simp only [List.map_cons, List.sum_cons, hcat]; omega)
  have Z0 := Stand.forget (locs := []) Z (fun y hy => by rw [hL y hy, hhp]; exact Nat.le_refl _)
  obtain ⟨f1, f2⟩ := vx_frame Z0.same
  rw [hhp] at f1 f2
  have hcid : ce.cls = D.1 ci := by
    rw [hcl9]
    have h1 := (hK.1 ci _ hc).2.1
    rw [hvm] at hfX
    exact Option.some.inj (hfX.symm.trans h1)
  have hh : (V.setCell T.heap.size ce).heap[T.heap.size]? = some ce := heapAt_setCell_self (s := V) ce hlt
  subst hA'
  have X5 := vx_back9 X Y Z0
  have X6 : Stand p l e R s m args below meth c (V.setCell T.heap.size ce) locs (cells + 1) (slots + 6) := { X5 with same := X5.same.mono (by omega) (by omega) }
  have hk9 : ∀ (k : Nat) (x : Nat × va_E), ws[k]? = some x → (V.setCell T.heap.size ce).heap[x.1]? = T.heap[x.1]? := fun k x hx => f2 x.1 ((hP k x hx).lt) (fun z hz => nomatch hz)
  obtain ⟨t, a1, b1⟩ := kk T.heap.size (V.setCell T.heap.size ce).heap ((hP.kept hk9).app (fun k x hx => by
      have hz : k < 1 := (List.getElem?_eq_some_iff.mp hx).1
      rw [show k = 0 by omega] at hx
      cases hx
      exact ⟨_, hc, ce, hh, hcid, hvm9, fun k hk => absurd hk (Nat.not_lt_zero k)⟩)) (hD.push hP rfl (hA _ hS.1)) ⟨Nat.le_trans hS.1 f1, fun q h1 h2 => (f2 q (Nat.lt_of_lt_of_le h1 hS.1) (fun z hz => nomatch hz)).trans (hS.2.1 q h1 h2), hS.2.2⟩ _ rfl X6
  refine ⟨t, st1 _ ?_, b1⟩
  show Steps p.tables e below (T1.setTop { method := m, pc := pc + 3, locals := ls, stack := .ref T.heap.size :: rest, locked := none }) _
  jvm_step X₁.here [X₁.here.top, hexec, d3', Value.category]
  exact st _ a1
/-- 'throw x' of an object that was made before -/
theorem vx_athrow {cc : ByteArray} {pc : Nat} (hexec : p.tables.exec = Jvm.exec) (hb : c.code = cc) {q : Addr} (hdg : decode cc pc = .ok (.athrow, 1)) (k : vx_W p l e R s m args below meth c H locs cells slots Q (F0 m pc ls rest) q) : W p l e R s m args below meth c H locs cells slots Q (F0 m pc ls (.ref q :: rest)) := by
  intro T hT X
  obtain ⟨t, st, hq⟩ := k T hT X
  refine ⟨t, ?_, hq⟩
  have hdg' : decode c.code pc = .ok (.athrow, 1) := by rw [hb]; exact hdg
  jvm_step X.here [X.here.top, hexec, hdg', athrow.wp_sem]
  exact st
end VXK2
/-! ===== END ===== -/
/-! ===== BEGIN a constructor that throws (launches without stack traces) ===== -/
section VXIA
variable {p : Program} {l : Launch} {e : Env} {R : Room} {s : State} {m : MethodId} {args : Array Value} {below : List Frame} {meth : Method} {c : Code} {T : State} {locs : List Loc} {cells slots : Nat}
theorem vx_callI (X : Stand p l e R s m args below meth c T locs cells slots) (hexec : p.tables.exec = Jvm.exec) {own : String} {index : Nat} {y : MethodName} {bytes : ByteArray} {maxL : Nat}
    (hown : s.vm.findClass own = some m.cls) (hy1 : y.name = "<init>") (hlink : (Cond.methodLink own index y).before args s = true) (hinst : (Cond.instanceMethod y).before args s = true)
    (hcode : (Cond.code y bytes maxL none).before args s = true) (hy : y.cls ≠ "java/lang/invoke/MethodHandle" ∧ y.cls ≠ "java/lang/invoke/VarHandle")
    {W9 : Nat} {Pre : Pt → Array Value → Prop} {Post : Pt → Array Value → Option Value → Pt → Prop} {PostX : Pt → Array Value → Addr → Pt → Prop} (hK : vx_Back l R p e below s args y 3 W9 Pre Post PostX)
    {g : JFrame} (hg : g.method = m) (hsize : g.locals.size = c.maxLocals) {a : Addr} {argsL rest : List Value} (hlen : ∀ sig, parseMethodDescriptor y.desc = some sig → argsL.length = sig.parameters.length)
    (hstack : g.stack = argsL.reverse ++ .ref a :: rest) (hW : 2 * g.monitorRoom + (rest.map fun v => v.category).sum ≤ W9) (hdg : decode c.code g.pc = .ok (.invokespecial index, 3))
    (hpre : ∀ vm₁, s.WarmedH vm₁ → Pre ⟨T.setVm vm₁, locs, cells, slots⟩ (Value.ref a :: argsL).toArray) :
    (∃ (v : Option Value) (vm₁ : Vm) (B : Pt), s.WarmedH vm₁ ∧ Stand p l e R s m args below meth c B.U B.locs B.cells B.slots ∧ Post ⟨T.setVm vm₁, locs, cells, slots⟩ (Value.ref a :: argsL).toArray v B ∧
      ∀ target, Steps p.tables e below (B.U.setTop { g with pc := g.pc + 3, stack := v.toList ++ rest }) target → Steps p.tables e below (T.setTop g) target) ∨
    (∃ (q : Addr) (vm₁ : Vm) (B : Pt), s.WarmedH vm₁ ∧ Stand p l e R s m args below meth c B.U B.locs B.cells B.slots ∧ PostX ⟨T.setVm vm₁, locs, cells, slots⟩ (Value.ref a :: argsL).toArray q B ∧
      Steps p.tables e below (T.setTop g) ((B.U.setTop { g with stack := rest }).pushFrame (.throwing q))) := by
  subst hg
  have hpl : e.platform.magicAccessors = ({} : Platform).magicAccessors := by rw [X.admits.platform]
  obtain ⟨mk, methM, cM, kP, vm₁, hnamed, hmethM, hcodeM, -, hlocalsM, -, hkP, -, hW₁, hstep₁⟩ := Steps.initColdArgs (e := e) X.here hexec X.warmed hpl hown hy1 hy hlink hinst hcode (f := g) rfl hlen hstack hdg
  have X₁ := X.noted hW₁
  rcases hK g.method meth c ⟨T.setVm vm₁, locs, cells, slots⟩ { g with stack := rest } (.invokespecial index) mk (Value.ref a :: argsL).toArray X₁ rfl hsize hdg hW (X₁.named hnamed) (hpre vm₁ X₁.warmed) with ⟨v, B, X', hpost, hsteps⟩ | ⟨q, B, X', hpost, hsteps⟩
  · exact Or.inl ⟨v, vm₁, B, X₁.warmed, X', hpost, fun target h => hstep₁ _ fun acts => by rw [doInvoke_state]; exact hsteps.trans h⟩
  · exact Or.inr ⟨q, vm₁, B, X₁.warmed, X', hpost, hstep₁ _ fun acts => by rw [doInvoke_state]; exact hsteps⟩
end VXIA
section VXIB
variable {p : Program} {l : Launch} {e : Env} {R : Room} {s : State} {m : MethodId} {args : Array Value} {below : List Frame} {meth : Method} {c : Code} {H : Heap} {locs : List Loc} {cells slots : Nat}
variable {y : MethodName} {bytes cc : ByteArray} {maxL nL mc ms n index : Nat} {ret : Option FieldType} {ws : List Cond} {rm : Room} {Pc : Array Value → State → Prop} {Qc : Array Value → State → Outcome → State → Prop} {XC : String → State → State → Prop} {free : Addr → Prop} {Ts : List Cond} {own C : String} {b : Addr} {As rest : List Value} {g : JFrame}
theorem vx_runI (S : CallFix p m c cc nL s args Ts own) (hM : vx_Met l y ws rm Pc Qc XC mc ms free) (cw : CallB R s args own index y bytes maxL none ws rm mc ms n ∧ y.name = "<init>" ∧ (Cond.instanceMethod y).before args s = true) (hp : PreS s H Pc (.ref b :: As))
    (hg : g.method = m) (hn : As.length = n) (hsize : g.locals.size = nL) (hstack : g.stack = As.reverse ++ .ref b :: rest) (hW : 2 * g.monitorRoom + (rest.map fun v => v.category).sum ≤ 8) (hdg : decode cc g.pc = .ok (.invokespecial index, 3)) (hf : cells + mc ≤ R.cells ∧ slots + ms ≤ R.slots) :
    vx_Run p l e R s m args below meth c H locs cells slots mc ms g rest (Qc (Value.ref b :: As).toArray) XC free := by
  have hK : vx_Back l R p e below s args y 3 8 (PreOf R mc ms Pc) (PostOf Qc mc ms free) (vx_Post XC mc ms free) := vx_callBack cw.1 hM hp.1
  obtain ⟨⟨-, -, -, -, -, -, hcode, -, hy, hlen, hl⟩, hy1, hin⟩ := cw
  obtain ⟨hx, hb, hml, ho, -⟩ := S
  have hPc := hp.2
  intro T hT X
  rcases vx_callI X hx (bytes := bytes) (maxL := maxL) ho hy1 hl hin hcode hy hK hg (hsize.trans hml.symm) (a := b) (argsL := As) (rest := rest) (fun sig h => hn.trans (hlen sig h)) hstack hW (by rw [hb]; exact hdg)
    (fun vm₁ hW₁ => ⟨hf.1, hf.2, hPc (T.setVm vm₁) hT hW₁⟩) with ⟨v, vm₁, ⟨U', l2, c2, s2⟩, hW₁, X', ⟨g', mk, t, L, e1, e2, hq, h1, hL, h2, h3⟩, st⟩ | ⟨q, vm₁, ⟨U', l2, c2, s2⟩, hW₁, X', ⟨g', mk, t, L, E, ce, e1, e2, hq, hce, hcv, hcl, h1, hL, h2, h3⟩, st⟩
  · dsimp only [Pt.U, Pt.locs, Pt.cells, Pt.slots] at X' e1 e2 h1 h2 h3 st
    subst h1; subst h2; subst h3
    exact Or.inl ⟨v, (T.setVm vm₁).calling g' mk (Value.ref b :: As).toArray, t, U', L, hT, X', hL, e1, e2, hq, st⟩
  · dsimp only [Pt.U, Pt.locs, Pt.cells, Pt.slots] at X' e1 e2 h1 h2 h3 st hcl
    subst h1; subst h2; subst h3
    exact Or.inr ⟨q, (T.setVm vm₁).calling g' mk (Value.ref b :: As).toArray, t, U', L, E, ce, hT, X', hL, e1, e2, hq, hce, hcv, vx_cls hW₁ hcl, st⟩
end VXIB
/-! ===== END ===== -/
/-! ===== BEGIN a private constructor of a nest mate that throws ===== -/
section VXIC
variable {p : Program} {l : Launch} {e : Env} {R : Room} {s : State} {m : MethodId} {args : Array Value} {below : List Frame} {meth : Method} {c : Code} {T : State} {locs : List Loc} {cells slots : Nat}
theorem vx_callIN (X : Stand p l e R s m args below meth c T locs cells slots) (hexec : p.tables.exec = Jvm.exec) {own : String} {index : Nat} {host : String} {y : MethodName} {bytes : ByteArray} {maxL : Nat}
    (hown : s.vm.findClass own = some m.cls) (hy1 : y.name = "<init>") (hlink : (Cond.methodLinkNest own index y host).before args s = true) (hinst : (Cond.instanceMethod y).before args s = true)
    (hcode : (Cond.code y bytes maxL none).before args s = true) (hy : y.cls ≠ "java/lang/invoke/MethodHandle" ∧ y.cls ≠ "java/lang/invoke/VarHandle")
    {W9 : Nat} {Pre : Pt → Array Value → Prop} {Post : Pt → Array Value → Option Value → Pt → Prop} {PostX : Pt → Array Value → Addr → Pt → Prop} (hK : vx_Back l R p e below s args y 3 W9 Pre Post PostX)
    {g : JFrame} (hg : g.method = m) (hsize : g.locals.size = c.maxLocals) {a : Addr} {argsL rest : List Value} (hlen : ∀ sig, parseMethodDescriptor y.desc = some sig → argsL.length = sig.parameters.length)
    (hstack : g.stack = argsL.reverse ++ .ref a :: rest) (hW : 2 * g.monitorRoom + (rest.map fun v => v.category).sum ≤ W9) (hdg : decode c.code g.pc = .ok (.invokespecial index, 3))
    (hpre : ∀ vm₁, s.WarmedH vm₁ → Pre ⟨T.setVm vm₁, locs, cells, slots⟩ (Value.ref a :: argsL).toArray) :
    (∃ (v : Option Value) (vm₁ : Vm) (B : Pt), s.WarmedH vm₁ ∧ Stand p l e R s m args below meth c B.U B.locs B.cells B.slots ∧ Post ⟨T.setVm vm₁, locs, cells, slots⟩ (Value.ref a :: argsL).toArray v B ∧
      ∀ target, Steps p.tables e below (B.U.setTop { g with pc := g.pc + 3, stack := v.toList ++ rest }) target → Steps p.tables e below (T.setTop g) target) ∨
    (∃ (q : Addr) (vm₁ : Vm) (B : Pt), s.WarmedH vm₁ ∧ Stand p l e R s m args below meth c B.U B.locs B.cells B.slots ∧ PostX ⟨T.setVm vm₁, locs, cells, slots⟩ (Value.ref a :: argsL).toArray q B ∧
      Steps p.tables e below (T.setTop g) ((B.U.setTop { g with stack := rest }).pushFrame (.throwing q))) := by
  subst hg
  have hpl : e.platform.magicAccessors = ({} : Platform).magicAccessors := by rw [X.admits.platform]
  obtain ⟨mk, methM, cM, kP, vm₁, hnamed, hmethM, hcodeM, -, hlocalsM, -, hkP, -, hW₁, hstep₁⟩ := Steps.initColdArgsNest (e := e) X.here hexec X.warmed hpl hown hy1 hy hlink hinst hcode (f := g) rfl hlen hstack hdg
  have X₁ := X.noted hW₁
  rcases hK g.method meth c ⟨T.setVm vm₁, locs, cells, slots⟩ { g with stack := rest } (.invokespecial index) mk (Value.ref a :: argsL).toArray X₁ rfl hsize hdg hW (X₁.named hnamed) (hpre vm₁ X₁.warmed) with ⟨v, B, X', hpost, hsteps⟩ | ⟨q, B, X', hpost, hsteps⟩
  · exact Or.inl ⟨v, vm₁, B, X₁.warmed, X', hpost, fun target h => hstep₁ _ fun acts => by rw [doInvoke_state]; exact hsteps.trans h⟩
  · exact Or.inr ⟨q, vm₁, B, X₁.warmed, X', hpost, hstep₁ _ fun acts => by rw [doInvoke_state]; exact hsteps⟩
end VXIC
section VXID
variable {p : Program} {l : Launch} {e : Env} {R : Room} {s : State} {m : MethodId} {args : Array Value} {below : List Frame} {meth : Method} {c : Code} {H : Heap} {locs : List Loc} {cells slots : Nat}
theorem vx_runIN {y : MethodName} {bytes cc : ByteArray} {maxL nL mc ms n index : Nat} {ws : List Cond} {rm : Room} {Pc : Array Value → State → Prop} {Qc : Array Value → State → Outcome → State → Prop} {XC : String → State → State → Prop} {free : Addr → Prop} {Ts : List Cond} {own host : String} {b : Addr} {As rest : List Value} {g : JFrame}
    (S : CallFix p m c cc nL s args Ts own) (hM : vx_Met l y ws rm Pc Qc XC mc ms free) (cw : va_CN R s args own index y host bytes maxL none ws rm mc ms n ∧ y.name = "<init>" ∧ (Cond.instanceMethod y).before args s = true) (hp : PreS s H Pc (.ref b :: As))
    (hg : g.method = m) (hn : As.length = n) (hsize : g.locals.size = nL) (hstack : g.stack = As.reverse ++ .ref b :: rest) (hW : 2 * g.monitorRoom + (rest.map fun v => v.category).sum ≤ 8) (hdg : decode cc g.pc = .ok (.invokespecial index, 3)) (hf : cells + mc ≤ R.cells ∧ slots + ms ≤ R.slots) :
    vx_Run p l e R s m args below meth c H locs cells slots mc ms g rest (Qc (Value.ref b :: As).toArray) XC free := by
  obtain ⟨⟨⟨hrc, hrs, hfr, hlo, hws, hcw⟩, hcode, hini, hy, hlen, hl⟩, hx1, hx2⟩ := cw
  have hK : vx_Back l R p e below s args y 3 8 (PreOf R mc ms Pc) (PostOf Qc mc ms free) (vx_Post XC mc ms free) := vx_back (bytes := bytes) (maxL := maxL) (ret := none) hM hp.1 hrc hrs hfr hlo hws hcw (fun a' U hW => word_at hW (Or.inl (by first | rfl | simp [Cond.onTables, Cond.keeps, Cond.steady])) hini)
  obtain ⟨hx, hb, hml, ho, -⟩ := S
  have hPc := hp.2
  intro T hT X
  rcases vx_callIN X hx (bytes := bytes) (maxL := maxL) ho hx1 hl hx2 hcode hy hK hg (hsize.trans hml.symm) (a := b) (argsL := As) (rest := rest) (fun sig h => hn.trans (hlen sig h)) hstack hW (by rw [hb]; exact hdg)
    (fun vm₁ hW₁ => ⟨hf.1, hf.2, hPc (T.setVm vm₁) hT hW₁⟩) with ⟨v, vm₁, ⟨U', l2, c2, s2⟩, hW₁, X', ⟨g', mk, t, L, e1, e2, hq, h1, hL, h2, h3⟩, st⟩ | ⟨q, vm₁, ⟨U', l2, c2, s2⟩, hW₁, X', ⟨g', mk, t, L, E, ce, e1, e2, hq, hce, hcv, hcl, h1, hL, h2, h3⟩, st⟩
  · dsimp only [Pt.U, Pt.locs, Pt.cells, Pt.slots] at X' e1 e2 h1 h2 h3 st
    subst h1; subst h2; subst h3
    exact Or.inl ⟨v, (T.setVm vm₁).calling g' mk (Value.ref b :: As).toArray, t, U', L, hT, X', hL, e1, e2, hq, st⟩
  · dsimp only [Pt.U, Pt.locs, Pt.cells, Pt.slots] at X' e1 e2 h1 h2 h3 st hcl
    subst h1; subst h2; subst h3
    exact Or.inr ⟨q, (T.setVm vm₁).calling g' mk (Value.ref b :: As).toArray, t, U', L, E, ce, hT, X', hL, e1, e2, hq, hce, hcv, vx_cls hW₁ hcl, st⟩
end VXID
/-! ===== END ===== -/
/-! ===== BEGIN a method of a class above, found by the receiver, that may throw (follows va_callVU, va_runU of this kit) ===== -/
section
variable {p : Program} {l : Launch} {e : Env} {R : Room} {s : State} {m : MethodId} {args : Array Value} {below : List Frame} {meth : Method} {c : Code} {H : Heap} {locs : List Loc} {cells slots : Nat}
theorem vx_callVU {T : State} {locs : List Loc} {cells slots : Nat} (X : Stand p l e R s m args below meth c T locs cells slots) (hexec : p.tables.exec = Jvm.exec) {own C owner : String} {index : Nat} {x y : MethodName} {bytes : ByteArray} {maxL : Nat} {ret : Option FieldType}
    (hown : s.vm.findClass own = some m.cls) (hlink : (Cond.methodLink own index x).before args s = true) (hsame : (Cond.sameMethod x.cls owner x.name x.desc).before args s = true)
    (hd0 : va_Decl s ⟨owner, x.name, x.desc⟩) (howner : owner ≠ "java/lang/invoke/MethodHandle" ∧ owner ≠ "java/lang/invoke/VarHandle")
    (hsel : (Cond.selects C x y).before args s = true) (hinst : (Cond.instanceMethod y).before args s = true) (hcode : (Cond.code y bytes maxL ret).before args s = true)
    {W : Nat} {Pre : Pt → Array Value → Prop} {Post : Pt → Array Value → Option Value → Pt → Prop} {PostX : Pt → Array Value → Addr → Pt → Prop} (hK : vx_Back l R p e below s args y 3 W Pre Post PostX)
    {b : Addr} {cellB : Cell} (hcell : T.heap[b]? = some cellB) (hobj : cellB.vm.isStatics = false) (hcls : s.vm.findClass C = some cellB.cls)
    {g : JFrame} (hg : g.method = m) (hsize : g.locals.size = c.maxLocals) {argsL rest : List Value} (hlen : ∀ sig, parseMethodDescriptor x.desc = some sig → argsL.length = sig.parameters.length)
    (hstack : g.stack = argsL.reverse ++ .ref b :: rest) (hW : 2 * g.monitorRoom + (rest.map fun v => v.category).sum ≤ W) (hdg : decode c.code g.pc = .ok (.invokevirtual index, 3))
    (hpre : ∀ vm₁, s.WarmedH vm₁ → Pre ⟨T.setVm vm₁, locs, cells, slots⟩ (Value.ref b :: argsL).toArray) :
    (∃ (v : Option Value) (vm₁ : Vm) (B : Pt), s.WarmedH vm₁ ∧ Stand p l e R s m args below meth c B.U B.locs B.cells B.slots ∧ Post ⟨T.setVm vm₁, locs, cells, slots⟩ (Value.ref b :: argsL).toArray v B ∧
      ∀ target, Steps p.tables e below (B.U.setTop { g with pc := g.pc + 3, stack := v.toList ++ rest }) target → Steps p.tables e below (T.setTop g) target) ∨
    (∃ (q : Addr) (vm₁ : Vm) (B : Pt), s.WarmedH vm₁ ∧ Stand p l e R s m args below meth c B.U B.locs B.cells B.slots ∧ PostX ⟨T.setVm vm₁, locs, cells, slots⟩ (Value.ref b :: argsL).toArray q B ∧
      Steps p.tables e below (T.setTop g) ((B.U.setTop { g with stack := rest }).pushFrame (.throwing q))) := by
  obtain ⟨r0, r, hn, hrm, hstR, hsigR⟩ := hd0
  obtain ⟨cn, ck, r1, hcn, hck, hni, hf, hn1⟩ := Cond.sameMethod_found hsame
  cases hn.symm.trans hn1
  obtain ⟨mk, methM, hnamed, hmethM, -, habM⟩ := Cond.instanceMethod_spec hinst
  obtain ⟨c2, r2, m2, q1, q2, q3, q4, kP, hkP, hkPi⟩ := Cond.selects_spec hsel
  cases hcls.symm.trans q1
  cases hf.symm.trans q2
  cases hnamed.symm.trans q3
  have hselP : selectMethod e.platform s.vm cellB.cls r0 = .method mk := by rw [Launch.admits_selectMethod X.admits]; exact q4
  obtain ⟨vm₁, X₁, hstep₁⟩ := X.invokevirtualUp hexec hown hlink hsame howner hn hrm hstR (a := b) (cell := cellB) hcell
    (fun z h => by rw [h] at hobj; cases hobj) hselP hmethM habM hkP hkPi (g := g) hg (argsL := argsL) (rest := rest) (hlen _ hsigR) hstack hdg
  rcases hK m meth c ⟨T.setVm vm₁, locs, cells, slots⟩ { g with stack := rest } (.invokevirtual index) mk (Value.ref b :: argsL).toArray X₁ hg hsize hdg hW (X₁.named hnamed) (hpre vm₁ X₁.warmed) with ⟨v, B, X', hpost, hsteps⟩ | ⟨q, B, X', hpost, hsteps⟩
  · exact Or.inl ⟨v, vm₁, B, X₁.warmed, X', hpost, fun target h => hstep₁ _ fun acts => by rw [doInvoke_state]; exact hsteps.trans h⟩
  · exact Or.inr ⟨q, vm₁, B, X₁.warmed, X', hpost, hstep₁ _ fun acts => by rw [doInvoke_state]; exact hsteps⟩
theorem vx_runU {x y : MethodName} {bytes cc : ByteArray} {maxL nL mc ms n index : Nat} {ret : Option FieldType} {ws : List Cond} {rm : Room} {Pc : Array Value → State → Prop} {Qc : Array Value → State → Outcome → State → Prop} {XC : String → State → State → Prop} {free : Addr → Prop} {Ts : List Cond} {own C owner : String} {b : Addr} {As rest : List Value} {g : JFrame}
    (S : CallFix p m c cc nL s args Ts own) (hM : vx_Met l y ws rm Pc Qc XC mc ms free) (cw : va_CU R s args own C owner index x y bytes maxL ret ws rm mc ms n) (hp : PreV s H C b Pc As)
    (hg : g.method = m) (hn : As.length = n) (hsize : g.locals.size = nL) (hstack : g.stack = As.reverse ++ .ref b :: rest) (hW : 2 * g.monitorRoom + (rest.map fun v => v.category).sum ≤ 8) (hdg : decode cc g.pc = .ok (.invokevirtual index, 3)) (hf : cells + mc ≤ R.cells ∧ slots + ms ≤ R.slots) :
    vx_Run p l e R s m args below meth c H locs cells slots mc ms g rest (Qc (Value.ref b :: As).toArray) XC free := by
  obtain ⟨hrc, hrs, hfr, hlo, hws, hcw⟩ := cw.back
  have hini := cw.init
  have hK : vx_Back l R p e below s args y 3 8 (PreOf R mc ms Pc) (PostOf Qc mc ms free) (vx_Post XC mc ms free) := vx_back (bytes := bytes) (maxL := maxL) (ret := ret) hM hp.1 hrc hrs hfr hlo hws hcw (fun a' U hW => word_at hW (Or.inl (by first | rfl | simp [Cond.onTables, Cond.keeps, Cond.steady])) hini)
  obtain ⟨hx, hb, hml, ho, -⟩ := S
  obtain ⟨-, ⟨cellB, hcB, hoB, hclB⟩, hPc⟩ := hp
  intro T hT X
  rcases vx_callVU X hx (C := C) (owner := owner) (bytes := bytes) (maxL := maxL) (ret := ret) ho cw.link cw.same cw.decl cw.notMH cw.sel cw.inst cw.code hK (by rw [hT]; exact hcB) hoB hclB hg (hsize.trans hml.symm) (argsL := As) (rest := rest) (fun sig h => hn.trans (cw.len sig h)) hstack hW (by rw [hb]; exact hdg)
    (fun vm₁ hW₁ => ⟨hf.1, hf.2, hPc (T.setVm vm₁) hT hW₁⟩) with ⟨v, vm₁, ⟨U', l2, c2, s2⟩, hW₁, X', ⟨g', mk, t, L, e1, e2, hq, h1, hL, h2, h3⟩, st⟩ | ⟨q, vm₁, ⟨U', l2, c2, s2⟩, hW₁, X', ⟨g', mk, t, L, E, ce, e1, e2, hq, hce, hcv, hcl, h1, hL, h2, h3⟩, st⟩
  · dsimp only [Pt.U, Pt.locs, Pt.cells, Pt.slots] at X' e1 e2 h1 h2 h3 st
    subst h1; subst h2; subst h3
    exact Or.inl ⟨v, (T.setVm vm₁).calling g' mk (Value.ref b :: As).toArray, t, U', L, hT, X', hL, e1, e2, hq, st⟩
  · dsimp only [Pt.U, Pt.locs, Pt.cells, Pt.slots] at X' e1 e2 h1 h2 h3 st hcl
    subst h1; subst h2; subst h3
    exact Or.inr ⟨q, (T.setVm vm₁).calling g' mk (Value.ref b :: As).toArray, t, U', L, E, ce, hT, X', hL, e1, e2, hq, hce, hcv, vx_cls hW₁ hcl, st⟩
end
/-! ===== END ===== -/
/-! ===== BEGIN super.m(..) that may throw (follows va_callSU, va_runSU) ===== -/
section
variable {p : Program} {l : Launch} {e : Env} {R : Room} {s : State} {m : MethodId} {args : Array Value} {below : List Frame} {meth : Method} {c : Code} {H : Heap} {locs : List Loc} {cells slots : Nat}
theorem vx_callSU {T : State} {locs : List Loc} {cells slots : Nat} (X : Stand p l e R s m args below meth c T locs cells slots) (hexec : p.tables.exec = Jvm.exec) {own : String} {index : Nat} {y : MethodName} {bytes : ByteArray} {maxL : Nat} {ret : Option FieldType}
    (hown : s.vm.findClass own = some m.cls) (hlink : (Cond.methodLink own index y).before args s = true) (hsame : (Cond.sameMethod y.cls y.cls y.name y.desc).before args s = true) (hsup : (Cond.superclass own y.cls).before args s = true)
    (hinst : (Cond.instanceMethod y).before args s = true) (hcode : (Cond.code y bytes maxL ret).before args s = true) (hno : y.name ≠ "<init>")
    {W : Nat} {Pre : Pt → Array Value → Prop} {Post : Pt → Array Value → Option Value → Pt → Prop} {PostX : Pt → Array Value → Addr → Pt → Prop} (hK : vx_Back l R p e below s args y 3 W Pre Post PostX)
    {b : Addr} {cellB : Cell} {kB : Class} (hcell : T.heap[b]? = some cellB) (hobj : cellB.vm.isStatics = false) (hkB : s.vm.classes[cellB.cls]? = some kB)
    {g : JFrame} (hg : g.method = m) (hsize : g.locals.size = c.maxLocals) {argsL rest : List Value} (hlen : ∀ sig, parseMethodDescriptor y.desc = some sig → argsL.length = sig.parameters.length)
    (hstack : g.stack = argsL.reverse ++ .ref b :: rest) (hW : 2 * g.monitorRoom + (rest.map fun v => v.category).sum ≤ W) (hdg : decode c.code g.pc = .ok (.invokespecial index, 3))
    (hpre : ∀ vm₁, s.WarmedH vm₁ → Pre ⟨T.setVm vm₁, locs, cells, slots⟩ (Value.ref b :: argsL).toArray) :
    (∃ (v : Option Value) (vm₁ : Vm) (B : Pt), s.WarmedH vm₁ ∧ Stand p l e R s m args below meth c B.U B.locs B.cells B.slots ∧ Post ⟨T.setVm vm₁, locs, cells, slots⟩ (Value.ref b :: argsL).toArray v B ∧
      ∀ target, Steps p.tables e below (B.U.setTop { g with pc := g.pc + 3, stack := v.toList ++ rest }) target → Steps p.tables e below (T.setTop g) target) ∨
    (∃ (q : Addr) (vm₁ : Vm) (B : Pt), s.WarmedH vm₁ ∧ Stand p l e R s m args below meth c B.U B.locs B.cells B.slots ∧ PostX ⟨T.setVm vm₁, locs, cells, slots⟩ (Value.ref b :: argsL).toArray q B ∧
      Steps p.tables e below (T.setTop g) ((B.U.setTop { g with stack := rest }).pushFrame (.throwing q))) := by
  obtain ⟨mk, methM, hnamed, hmethM, hstM, habM⟩ := Cond.instanceMethod_spec hinst
  obtain ⟨methM', cM, hmethM', -, -, -, -, -, -, hsigM⟩ := Cond.code_spec hnamed hcode
  cases hmethM.symm.trans hmethM'
  obtain ⟨ps, dk, kp, hps, hdk, hkp, hsuper, -, -, hnid⟩ := Cond.superclass_spec hown hsup
  have hn : s.methodNamed? ⟨y.cls, y.name, y.desc⟩ = some mk := hnamed
  have hpm : ps = mk.cls := Option.some.inj (hps.symm.trans (findClass_of_methodNamed hnamed))
  have hsub : s.vm.isSubclass ps mk.cls = true := by rw [hpm]; simp [Vm.isSubclass, Vm.isSubclassAux]
  obtain ⟨vm₁, X₁, hstep₁⟩ := X.invokespecialUp hexec hown hlink hsame hn hmethM hstM habM hno hdk hnid hps hsuper hsub (a := b) (cell := cellB) hcell
    (fun z h => by rw [h] at hobj; cases hobj) hkB (g := g) hg (argsL := argsL) (rest := rest) (hlen _ hsigM) hstack hdg
  rcases hK m meth c ⟨T.setVm vm₁, locs, cells, slots⟩ { g with stack := rest } (.invokespecial index) mk (Value.ref b :: argsL).toArray X₁ hg hsize hdg hW (X₁.named hnamed) (hpre vm₁ X₁.warmed) with ⟨v, B, X', hpost, hsteps⟩ | ⟨q, B, X', hpost, hsteps⟩
  · exact Or.inl ⟨v, vm₁, B, X₁.warmed, X', hpost, fun target h => hstep₁ _ (by rw [doInvoke_state]; exact hsteps.trans h)⟩
  · exact Or.inr ⟨q, vm₁, B, X₁.warmed, X', hpost, hstep₁ _ (by rw [doInvoke_state]; exact hsteps)⟩
theorem vx_runSU {y : MethodName} {bytes cc : ByteArray} {maxL nL mc ms n index : Nat} {ret : Option FieldType} {ws : List Cond} {rm : Room} {Pc : Array Value → State → Prop} {Qc : Array Value → State → Outcome → State → Prop} {XC : String → State → State → Prop} {free : Addr → Prop} {Ts : List Cond} {own C : String} {cC : ClassId} {b : Addr} {As rest : List Value} {g : JFrame}
    (hat : ClassAt s C cC) (S : CallFix p m c cc nL s args Ts own) (hM : vx_Met l y ws rm Pc Qc XC mc ms free) (cw : va_CS R s args own index y bytes maxL ret ws rm mc ms n) (hp : PreV s H C b Pc As)
    (hg : g.method = m) (hn : As.length = n) (hsize : g.locals.size = nL) (hstack : g.stack = As.reverse ++ .ref b :: rest) (hW : 2 * g.monitorRoom + (rest.map fun v => v.category).sum ≤ 8) (hdg : decode cc g.pc = .ok (.invokespecial index, 3)) (hf : cells + mc ≤ R.cells ∧ slots + ms ≤ R.slots) :
    vx_Run p l e R s m args below meth c H locs cells slots mc ms g rest (Qc (Value.ref b :: As).toArray) XC free := by
  obtain ⟨⟨hrc, hrs, hfr, hlo, hws, hcw⟩, hl1, hl2, hl3, hl4, hini, hcode, hno, hlen⟩ := cw
  have hK : vx_Back l R p e below s args y 3 8 (PreOf R mc ms Pc) (PostOf Qc mc ms free) (vx_Post XC mc ms free) := vx_back (bytes := bytes) (maxL := maxL) (ret := ret) hM hp.1 hrc hrs hfr hlo hws hcw (fun a' U hW => word_at hW (Or.inl (by first | rfl | simp [Cond.onTables, Cond.keeps, Cond.steady])) hini)
  obtain ⟨hx, hb, hml, ho, -⟩ := S
  obtain ⟨-, ⟨cellB, hcB, hoB, hclB⟩, hPc⟩ := hp
  obtain ⟨hfc, kB, hkB, -⟩ := hat
  cases hfc.symm.trans hclB
  intro T hT X
  rcases vx_callSU X hx (bytes := bytes) (maxL := maxL) (ret := ret) ho hl1 hl2 hl3 hl4 hcode hno hK (by rw [hT]; exact hcB) hoB hkB hg (hsize.trans hml.symm) (argsL := As) (rest := rest) (fun sig h => hn.trans (hlen sig h)) hstack hW (by rw [hb]; exact hdg)
    (fun vm₁ hW₁ => ⟨hf.1, hf.2, hPc (T.setVm vm₁) hT hW₁⟩) with ⟨v, vm₁, ⟨U', l2, c2, s2⟩, hW₁, X', ⟨g', mk, t, L, e1, e2, hq, h1, hL, h2, h3⟩, st⟩ | ⟨q, vm₁, ⟨U', l2, c2, s2⟩, hW₁, X', ⟨g', mk, t, L, E, ce, e1, e2, hq, hce, hcv, hcl, h1, hL, h2, h3⟩, st⟩
  · dsimp only [Pt.U, Pt.locs, Pt.cells, Pt.slots] at X' e1 e2 h1 h2 h3 st
    subst h1; subst h2; subst h3
    exact Or.inl ⟨v, (T.setVm vm₁).calling g' mk (Value.ref b :: As).toArray, t, U', L, hT, X', hL, e1, e2, hq, st⟩
  · dsimp only [Pt.U, Pt.locs, Pt.cells, Pt.slots] at X' e1 e2 h1 h2 h3 st hcl
    subst h1; subst h2; subst h3
    exact Or.inr ⟨q, (T.setVm vm₁).calling g' mk (Value.ref b :: As).toArray, t, U', L, E, ce, hT, X', hL, e1, e2, hq, hce, hcv, vx_cls hW₁ hcl, st⟩
end
/-! ===== END ===== -/
/-! ===== BEGIN a private method of a nest mate that may throw (follows va_callVN, va_callSN, va_runVN, va_runSN) ===== -/
section
variable {p : Program} {l : Launch} {e : Env} {R : Room} {s : State} {m : MethodId} {args : Array Value} {below : List Frame} {meth : Method} {c : Code} {H : Heap} {locs : List Loc} {cells slots : Nat}
variable {T : State}
theorem vx_callVN (X : Stand p l e R s m args below meth c T locs cells slots) (hexec : p.tables.exec = Jvm.exec) {own C : String} {index : Nat} {host : String} {y : MethodName} {bytes : ByteArray} {maxL : Nat} {ret : Option FieldType}
    (hown : s.vm.findClass own = some m.cls) (hlink : (Cond.methodLinkNest own index y host).before args s = true) (hinst : (Cond.instanceMethod y).before args s = true) (hsel : (Cond.selects C y y).before args s = true)
    (hcode : (Cond.code y bytes maxL ret).before args s = true) (hy : y.cls ≠ "java/lang/invoke/MethodHandle" ∧ y.cls ≠ "java/lang/invoke/VarHandle")
    {W : Nat} {Pre : Pt → Array Value → Prop} {Post : Pt → Array Value → Option Value → Pt → Prop} {PostX : Pt → Array Value → Addr → Pt → Prop} (hK : vx_Back l R p e below s args y 3 W Pre Post PostX)
    {b : Addr} {cellB : Cell} (hcell : T.heap[b]? = some cellB) (hobj : cellB.vm.isStatics = false) (hcls : s.vm.findClass C = some cellB.cls)
    {g : JFrame} (hg : g.method = m) (hsize : g.locals.size = c.maxLocals) {argsL rest : List Value} (hlen : ∀ sig, parseMethodDescriptor y.desc = some sig → argsL.length = sig.parameters.length)
    (hstack : g.stack = argsL.reverse ++ .ref b :: rest) (hW : 2 * g.monitorRoom + (rest.map fun v => v.category).sum ≤ W) (hdg : decode c.code g.pc = .ok (.invokevirtual index, 3))
    (hpre : ∀ vm₁, s.WarmedH vm₁ → Pre ⟨T.setVm vm₁, locs, cells, slots⟩ (Value.ref b :: argsL).toArray) :
    (∃ (v : Option Value) (vm₁ : Vm) (B : Pt), s.WarmedH vm₁ ∧ Stand p l e R s m args below meth c B.U B.locs B.cells B.slots ∧ Post ⟨T.setVm vm₁, locs, cells, slots⟩ (Value.ref b :: argsL).toArray v B ∧
      ∀ target, Steps p.tables e below (B.U.setTop { g with pc := g.pc + 3, stack := v.toList ++ rest }) target → Steps p.tables e below (T.setTop g) target) ∨
    (∃ (q : Addr) (vm₁ : Vm) (B : Pt), s.WarmedH vm₁ ∧ Stand p l e R s m args below meth c B.U B.locs B.cells B.slots ∧ PostX ⟨T.setVm vm₁, locs, cells, slots⟩ (Value.ref b :: argsL).toArray q B ∧
      Steps p.tables e below (T.setTop g) ((B.U.setTop { g with stack := rest }).pushFrame (.throwing q))) := by
  obtain ⟨mk, methM, hnamed, hmethM, hstM, habM⟩ := Cond.instanceMethod_spec hinst
  obtain ⟨methM', cM, hmethM', -, -, -, -, -, -, hsigM⟩ := Cond.code_spec hnamed hcode
  cases hmethM.symm.trans hmethM'
  obtain ⟨c2, r2, m2, q1, q2, q3, q4, kP, hkP, hkPi⟩ := Cond.selects_spec hsel
  cases hcls.symm.trans q1
  cases (State.methodFound?_of_named hnamed hy).symm.trans q2
  cases hnamed.symm.trans q3
  have hselP : selectMethod e.platform s.vm cellB.cls mk = .method mk := by rw [Launch.admits_selectMethod X.admits]; exact q4
  obtain ⟨vm₁, X₁, hstep₁⟩ := X.invokevirtualNest hexec hown hlink hnamed hmethM hstM hkP hkPi hy (a := b) (cell := cellB) hcell
    (fun z h => by rw [h] at hobj; cases hobj) hselP hmethM habM hkP hkPi (g := g) hg (argsL := argsL) (rest := rest) (hlen _ hsigM) hstack hdg
  rcases hK m meth c ⟨T.setVm vm₁, locs, cells, slots⟩ { g with stack := rest } (.invokevirtual index) mk (Value.ref b :: argsL).toArray X₁ hg hsize hdg hW (X₁.named hnamed) (hpre vm₁ X₁.warmed) with ⟨v, B, X', hpost, hsteps⟩ | ⟨q, B, X', hpost, hsteps⟩
  · exact Or.inl ⟨v, vm₁, B, X₁.warmed, X', hpost, fun target h => hstep₁ _ fun acts => by rw [doInvoke_state]; exact hsteps.trans h⟩
  · exact Or.inr ⟨q, vm₁, B, X₁.warmed, X', hpost, hstep₁ _ fun acts => by rw [doInvoke_state]; exact hsteps⟩
theorem vx_callSN (X : Stand p l e R s m args below meth c T locs cells slots) (hexec : p.tables.exec = Jvm.exec) {own : String} {index : Nat} {host : String} {y : MethodName} {bytes : ByteArray} {maxL : Nat} {ret : Option FieldType}
    (hown : s.vm.findClass own = some m.cls) (hlink : (Cond.methodLinkNest own index y host).before args s = true) (hstat : (Cond.static y).before args s = true) (hinit : (Cond.initialized y.cls).before args s = true)
    (hcode : (Cond.code y bytes maxL ret).before args s = true) (hy : y.cls ≠ "java/lang/invoke/MethodHandle" ∧ y.cls ≠ "java/lang/invoke/VarHandle")
    {W : Nat} {Pre : Pt → Array Value → Prop} {Post : Pt → Array Value → Option Value → Pt → Prop} {PostX : Pt → Array Value → Addr → Pt → Prop} (hK : vx_Back l R p e below s args y 3 W Pre Post PostX)
    {g : JFrame} (hg : g.method = m) (hsize : g.locals.size = c.maxLocals) {argsL rest : List Value} (hlen : ∀ sig, parseMethodDescriptor y.desc = some sig → argsL.length = sig.parameters.length)
    (hstack : g.stack = argsL.reverse ++ rest) (hW : 2 * g.monitorRoom + (rest.map fun v => v.category).sum ≤ W) (hdg : decode c.code g.pc = .ok (.invokestatic index, 3))
    (hpre : ∀ vm₁, s.WarmedH vm₁ → Pre ⟨T.setVm vm₁, locs, cells, slots⟩ argsL.toArray) :
    (∃ (v : Option Value) (vm₁ : Vm) (B : Pt), s.WarmedH vm₁ ∧ Stand p l e R s m args below meth c B.U B.locs B.cells B.slots ∧ Post ⟨T.setVm vm₁, locs, cells, slots⟩ argsL.toArray v B ∧
      ∀ target, Steps p.tables e below (B.U.setTop { g with pc := g.pc + 3, stack := v.toList ++ rest }) target → Steps p.tables e below (T.setTop g) target) ∨
    (∃ (q : Addr) (vm₁ : Vm) (B : Pt), s.WarmedH vm₁ ∧ Stand p l e R s m args below meth c B.U B.locs B.cells B.slots ∧ PostX ⟨T.setVm vm₁, locs, cells, slots⟩ argsL.toArray q B ∧
      Steps p.tables e below (T.setTop g) ((B.U.setTop { g with stack := rest }).pushFrame (.throwing q))) := by
  obtain ⟨mk, hnamed⟩ := Cond.code_named hcode
  obtain ⟨methM, cM, hmethM, -, -, -, -, -, -, hsigM⟩ := Cond.code_spec hnamed hcode
  have hstatic : methM.isStatic = true := Cond.static_spec hnamed hmethM hstat
  obtain ⟨kP, hkP, -⟩ := className_of_methodNamed hnamed
  have hinitP : kP.init = .initialized := Cond.initialized_spec (findClass_of_methodNamed hnamed) hkP hinit
  obtain ⟨vm₁, X₁, hstep₁⟩ := X.invokestaticNest hexec hown hlink hnamed hmethM hstatic hkP hinitP hy (g := g) hg (argsL := argsL) (rest := rest) (hlen _ hsigM) hstack hdg
  rcases hK m meth c ⟨T.setVm vm₁, locs, cells, slots⟩ { g with stack := rest } (.invokestatic index) mk argsL.toArray X₁ hg hsize hdg hW (X₁.named hnamed) (hpre vm₁ X₁.warmed) with ⟨v, B, X', hpost, hsteps⟩ | ⟨q, B, X', hpost, hsteps⟩
  · exact Or.inl ⟨v, vm₁, B, X₁.warmed, X', hpost, fun target h => hstep₁ _ fun acts => by rw [doInvoke_state]; exact hsteps.trans h⟩
  · exact Or.inr ⟨q, vm₁, B, X₁.warmed, X', hpost, hstep₁ _ fun acts => by rw [doInvoke_state]; exact hsteps⟩
theorem vx_runVN {y : MethodName} {bytes cc : ByteArray} {maxL nL mc ms n index : Nat} {ret : Option FieldType} {ws : List Cond} {rm : Room} {Pc : Array Value → State → Prop} {Qc : Array Value → State → Outcome → State → Prop} {XC : String → State → State → Prop} {free : Addr → Prop} {Ts : List Cond} {own C host : String} {b : Addr} {As rest : List Value} {g : JFrame}
    (S : CallFix p m c cc nL s args Ts own) (hM : vx_Met l y ws rm Pc Qc XC mc ms free) (cw : va_CN R s args own index y host bytes maxL ret ws rm mc ms n ∧ (Cond.instanceMethod y).before args s = true ∧ (Cond.selects C y y).before args s = true) (hp : PreV s H C b Pc As)
    (hg : g.method = m) (hn : As.length = n) (hsize : g.locals.size = nL) (hstack : g.stack = As.reverse ++ .ref b :: rest) (hW : 2 * g.monitorRoom + (rest.map fun v => v.category).sum ≤ 8) (hdg : decode cc g.pc = .ok (.invokevirtual index, 3)) (hf : cells + mc ≤ R.cells ∧ slots + ms ≤ R.slots) :
    vx_Run p l e R s m args below meth c H locs cells slots mc ms g rest (Qc (Value.ref b :: As).toArray) XC free := by
  obtain ⟨⟨⟨hrc, hrs, hfr, hlo, hws, hcw⟩, hcode, hini, hy, hlen, hl⟩, hx1, hx2⟩ := cw
  have hK : vx_Back l R p e below s args y 3 8 (PreOf R mc ms Pc) (PostOf Qc mc ms free) (vx_Post XC mc ms free) := vx_back (bytes := bytes) (maxL := maxL) (ret := ret) hM hp.1 hrc hrs hfr hlo hws hcw (fun a' U hW => word_at hW (Or.inl (by first | rfl | simp [Cond.onTables, Cond.keeps, Cond.steady])) hini)
  obtain ⟨hx, hb, hml, ho, -⟩ := S
  obtain ⟨-, ⟨cellB, hcB, hoB, hclB⟩, hPc⟩ := hp
  intro T hT X
  rcases vx_callVN X hx (C := C) (bytes := bytes) (maxL := maxL) (ret := ret) ho hl hx1 hx2 hcode hy hK (by rw [hT]; exact hcB) hoB hclB hg (hsize.trans hml.symm) (argsL := As) (rest := rest) (fun sig h => hn.trans (hlen sig h)) hstack hW (by rw [hb]; exact hdg)
    (fun vm₁ hW₁ => ⟨hf.1, hf.2, hPc (T.setVm vm₁) hT hW₁⟩) with ⟨v, vm₁, ⟨U', l2, c2, s2⟩, hW₁, X', ⟨g', mk, t, L, e1, e2, hq, h1, hL, h2, h3⟩, st⟩ | ⟨q, vm₁, ⟨U', l2, c2, s2⟩, hW₁, X', ⟨g', mk, t, L, E, ce, e1, e2, hq, hce, hcv, hcl, h1, hL, h2, h3⟩, st⟩
  · dsimp only [Pt.U, Pt.locs, Pt.cells, Pt.slots] at X' e1 e2 h1 h2 h3 st
    subst h1; subst h2; subst h3
    exact Or.inl ⟨v, (T.setVm vm₁).calling g' mk (Value.ref b :: As).toArray, t, U', L, hT, X', hL, e1, e2, hq, st⟩
  · dsimp only [Pt.U, Pt.locs, Pt.cells, Pt.slots] at X' e1 e2 h1 h2 h3 st hcl
    subst h1; subst h2; subst h3
    exact Or.inr ⟨q, (T.setVm vm₁).calling g' mk (Value.ref b :: As).toArray, t, U', L, E, ce, hT, X', hL, e1, e2, hq, hce, hcv, vx_cls hW₁ hcl, st⟩
theorem vx_runSN {y : MethodName} {bytes cc : ByteArray} {maxL nL mc ms n index : Nat} {ret : Option FieldType} {ws : List Cond} {rm : Room} {Pc : Array Value → State → Prop} {Qc : Array Value → State → Outcome → State → Prop} {XC : String → State → State → Prop} {free : Addr → Prop} {Ts : List Cond} {own host : String} {As rest : List Value} {g : JFrame}
    (S : CallFix p m c cc nL s args Ts own) (hM : vx_Met l y ws rm Pc Qc XC mc ms free) (cw : va_CN R s args own index y host bytes maxL ret ws rm mc ms n ∧ (Cond.static y).before args s = true ∧ True) (hp : PreS s H Pc As)
    (hg : g.method = m) (hn : As.length = n) (hsize : g.locals.size = nL) (hstack : g.stack = As.reverse ++ rest) (hW : 2 * g.monitorRoom + (rest.map fun v => v.category).sum ≤ 8) (hdg : decode cc g.pc = .ok (.invokestatic index, 3)) (hf : cells + mc ≤ R.cells ∧ slots + ms ≤ R.slots) :
    vx_Run p l e R s m args below meth c H locs cells slots mc ms g rest (Qc As.toArray) XC free := by
  obtain ⟨⟨⟨hrc, hrs, hfr, hlo, hws, hcw⟩, hcode, hini, hy, hlen, hl⟩, hx1, hx2⟩ := cw
  have hK : vx_Back l R p e below s args y 3 8 (PreOf R mc ms Pc) (PostOf Qc mc ms free) (vx_Post XC mc ms free) := vx_back (bytes := bytes) (maxL := maxL) (ret := ret) hM hp.1 hrc hrs hfr hlo hws hcw (fun a' U hW => word_at hW (Or.inl (by first | rfl | simp [Cond.onTables, Cond.keeps, Cond.steady])) hini)
  obtain ⟨hx, hb, hml, ho, -⟩ := S
  have hPc := hp.2
  intro T hT X
  rcases vx_callSN X hx (bytes := bytes) (maxL := maxL) (ret := ret) ho hl hx1 hini hcode hy hK hg (hsize.trans hml.symm) (argsL := As) (rest := rest) (fun sig h => hn.trans (hlen sig h)) hstack hW (by rw [hb]; exact hdg)
    (fun vm₁ hW₁ => ⟨hf.1, hf.2, hPc (T.setVm vm₁) hT hW₁⟩) with ⟨v, vm₁, ⟨U', l2, c2, s2⟩, hW₁, X', ⟨g', mk, t, L, e1, e2, hq, h1, hL, h2, h3⟩, st⟩ | ⟨q, vm₁, ⟨U', l2, c2, s2⟩, hW₁, X', ⟨g', mk, t, L, E, ce, e1, e2, hq, hce, hcv, hcl, h1, hL, h2, h3⟩, st⟩
  · dsimp only [Pt.U, Pt.locs, Pt.cells, Pt.slots] at X' e1 e2 h1 h2 h3 st
    subst h1; subst h2; subst h3
    exact Or.inl ⟨v, (T.setVm vm₁).calling g' mk As.toArray, t, U', L, hT, X', hL, e1, e2, hq, st⟩
  · dsimp only [Pt.U, Pt.locs, Pt.cells, Pt.slots] at X' e1 e2 h1 h2 h3 st hcl
    subst h1; subst h2; subst h3
    exact Or.inr ⟨q, (T.setVm vm₁).calling g' mk As.toArray, t, U', L, E, ce, hT, X', hL, e1, e2, hq, hce, hcv, vx_cls hW₁ hcl, st⟩
end
/-! ===== END ===== -/
/-! ===== BEGIN calls by an interface of methods that may throw (vx_callIF, vx_runF follow va_callIF, va_runF of this kit) ===== -/
section
variable {p : Program} {l : Launch} {e : Env} {R : Room} {s : State} {m : MethodId} {args : Array Value} {below : List Frame} {meth : Method} {c : Code} {H : Heap} {locs : List Loc} {cells slots : Nat} {Q : State → Prop}
variable {mc ms : Nat} {free : Addr → Prop} {A0 A1 : Nat → Prop} {H0 : Heap} {a : Array Value} {pc : Nat} {ls : Array Slot} {st0 rest : List Value}
def vx_Run5 (p : Program) (l : Launch) (e : Env) (R : Room) (s : State) (m : MethodId) (args : Array Value) (below : List Frame) (meth : Method) (c : Code) (H : Heap) (locs : List Loc) (cells slots mc ms : Nat) (g : JFrame) (rest : List Value) (Qa : State → Outcome → State → Prop) (XC : String → State → State → Prop) (free : Addr → Prop) : Prop :=
  ∀ T : State, T.heap = H → Stand p l e R s m args below meth c T locs cells slots →
    (∃ (v : Option Value) (st₀ t T' : State) (L : List Loc), st₀.heap = H ∧ Stand p l e R s m args below meth c T' (locs ++ L) (cells + mc) (slots + ms) ∧ (∀ q ∈ L, free q.base) ∧ T'.heap = t.heap ∧ T'.vm = t.vm ∧ Qa st₀ (.returned v) t ∧
      Goes p e below T g T' { g with pc := g.pc + 5, stack := v.toList ++ rest }) ∨
    (∃ (q : Addr) (st₀ t T' : State) (L : List Loc) (E : String) (ce : Cell), st₀.heap = H ∧ Stand p l e R s m args below meth c T' (locs ++ L) (cells + mc) (slots + ms) ∧ (∀ z ∈ L, free z.base) ∧ T'.heap = t.heap ∧ T'.vm = t.vm ∧ XC E st₀ t ∧ t.heap[q]? = some ce ∧ ce.vm = .none ∧ s.vm.findClass E = some ce.cls ∧
      Steps p.tables e below (T.setTop g) ((T'.setTop { g with stack := rest }).pushFrame (.throwing q)))
theorem vx_callIF {T : State} (X : Stand p l e R s m args below meth c T locs cells slots) (hexec : p.tables.exec = Jvm.exec) {own C : String} {index count : Nat} {x y : MethodName} {bytes : ByteArray} {maxL : Nat} {ret : Option FieldType}
    (hown : s.vm.findClass own = some m.cls) (hlink : (Cond.methodLink own index x).before args s = true) (hdecl : (Cond.declares x).before args s = true) (hface : (Cond.interfaceMethod x.cls x.cls x.name x.desc).before args s = true)
    (hsel : (Cond.selects C x y).before args s = true) (hinst : (Cond.instanceMethod y).before args s = true) (hpub : (Cond.publicMethod y).before args s = true) (hunh : (Cond.unhidden C x.name x.desc).before args s = true)
    (hcast : (Cond.castable C x.cls).before args s = true) (hcode : (Cond.code y bytes maxL ret).before args s = true) (hx : x.cls ≠ "java/lang/invoke/MethodHandle" ∧ x.cls ≠ "java/lang/invoke/VarHandle")
    {W9 : Nat} {Pre : Pt → Array Value → Prop} {Post : Pt → Array Value → Option Value → Pt → Prop} {PostX : Pt → Array Value → Addr → Pt → Prop} (hK : vx_Back l R p e below s args y 5 W9 Pre Post PostX)
    {b : Addr} {cellB : Cell} {kB : Class} (hcell : T.heap[b]? = some cellB) (hobj : cellB.vm.isStatics = false) (hcls : s.vm.findClass C = some cellB.cls) (hkB : s.vm.classes[cellB.cls]? = some kB)
    {g : JFrame} (hg : g.method = m) (hsize : g.locals.size = c.maxLocals) {argsL rest : List Value} (hlen : ∀ sig, parseMethodDescriptor x.desc = some sig → argsL.length = sig.parameters.length)
    (hstack : g.stack = argsL.reverse ++ .ref b :: rest) (hW : 2 * g.monitorRoom + (rest.map fun v => v.category).sum ≤ W9) (hdg : decode c.code g.pc = .ok (.invokeinterface index count, 5))
    (hpre : ∀ vm₁, s.WarmedH vm₁ → Pre ⟨T.setVm vm₁, locs, cells, slots⟩ (Value.ref b :: argsL).toArray) :
    (∃ (v : Option Value) (vm₁ : Vm) (B : Pt), s.WarmedH vm₁ ∧ Stand p l e R s m args below meth c B.U B.locs B.cells B.slots ∧ Post ⟨T.setVm vm₁, locs, cells, slots⟩ (Value.ref b :: argsL).toArray v B ∧
      ∀ target, Steps p.tables e below (B.U.setTop { g with pc := g.pc + 5, stack := v.toList ++ rest }) target → Steps p.tables e below (T.setTop g) target) ∨
    (∃ (q : Addr) (vm₁ : Vm) (B : Pt), s.WarmedH vm₁ ∧ Stand p l e R s m args below meth c B.U B.locs B.cells B.slots ∧ PostX ⟨T.setVm vm₁, locs, cells, slots⟩ (Value.ref b :: argsL).toArray q B ∧
      Steps p.tables e below (T.setTop g) ((B.U.setTop { g with stack := rest }).pushFrame (.throwing q))) := by
  obtain ⟨r0, r, hn, hrm, hstR, hsigR⟩ := Cond.declares_spec hdecl
  obtain ⟨cL, kL, r1, hcL, hkL, hiL, hfoundL, hn1⟩ := Cond.interfaceMethod_spec hface
  cases hn.symm.trans hn1
  have hr0cls : r0.cls = cL := Option.some.inj ((findClass_of_methodNamed hn).symm.trans hcL)
  obtain ⟨hnameR, hdescR⟩ := name_of_methodNamed hn hrm
  obtain ⟨mk, methM, hnamed, hmethM, -, habM⟩ := Cond.instanceMethod_spec hinst
  obtain ⟨c2, r2, m2, q1, q2, q3, q4, -⟩ := Cond.selects_spec hsel
  cases hcls.symm.trans q1
  cases hfoundL.symm.trans q2
  cases hnamed.symm.trans q3
  have hselP : selectMethod e.platform s.vm cellB.cls r0 = .method mk := by rw [Launch.admits_selectMethod X.admits]; exact q4
  have hpubM : hasFlag methM.accessFlags Acc.public_ = true := Cond.publicMethod_spec hnamed hmethM hpub
  have hway : ((cellB.cls :: s.vm.superclasses cellB.cls).any fun k => (declaredIn s.vm r.name r.desc k).any fun (_, z) => z.isPrivate || z.isStatic) = false := by
    rw [hnameR, hdescR]; exact Cond.unhidden_spec hcls hunh
  obtain ⟨c3, t3, w1, w2, w3⟩ := Cond.castable_spec hcast
  cases hcls.symm.trans w1
  cases hcL.symm.trans w2
  obtain ⟨vm₁, X₁, hstep₁⟩ := X.invokeinterface hexec hown hlink hn hrm hstR (by rw [hr0cls]; exact hkL) hiL hx (a := b) (cell := cellB) (kcell := kB) hcell
    (fun z h => by rw [h] at hobj; cases hobj) hkB (by rw [hr0cls]; exact w3) hselP hmethM hway hpubM habM (g := g) hg (argsL := argsL) (rest := rest) (hlen _ hsigR) hstack hdg
  rcases hK m meth c ⟨T.setVm vm₁, locs, cells, slots⟩ { g with stack := rest } (.invokeinterface index count) mk (Value.ref b :: argsL).toArray X₁ hg hsize hdg hW (X₁.named hnamed) (hpre vm₁ X₁.warmed) with ⟨v, B, X', hpost, hsteps⟩ | ⟨q, B, X', hpost, hsteps⟩
  · exact Or.inl ⟨v, vm₁, B, X₁.warmed, X', hpost, fun target h => hstep₁ _ fun acts => by rw [doInvoke_state]; exact hsteps.trans h⟩
  · exact Or.inr ⟨q, vm₁, B, X₁.warmed, X', hpost, hstep₁ _ fun acts => by rw [doInvoke_state]; exact hsteps⟩
theorem vx_runF {x y : MethodName} {bytes cc : ByteArray} {maxL nL mc ms n index count : Nat} {ret : Option FieldType} {ws : List Cond} {rm : Room} {Pc : Array Value → State → Prop} {Qc : Array Value → State → Outcome → State → Prop} {XC : String → State → State → Prop} {free : Addr → Prop} {Ts : List Cond} {own C : String} {cC : ClassId} {b : Addr} {As rest : List Value} {g : JFrame}
    (hat : ClassAt s C cC) (S : CallFix p m c cc nL s args Ts own) (hM : vx_Met l y ws rm Pc Qc XC mc ms free) (cw : va_CI R s args own C index x y bytes maxL ret ws rm mc ms n) (hp : PreV s H C b Pc As)
    (hg : g.method = m) (hn : As.length = n) (hsize : g.locals.size = nL) (hstack : g.stack = As.reverse ++ .ref b :: rest) (hW : 2 * g.monitorRoom + (rest.map fun v => v.category).sum ≤ 8) (hdg : decode cc g.pc = .ok (.invokeinterface index count, 5)) (hf : cells + mc ≤ R.cells ∧ slots + ms ≤ R.slots) :
    vx_Run5 p l e R s m args below meth c H locs cells slots mc ms g rest (Qc (Value.ref b :: As).toArray) XC free := by
  obtain ⟨hrc, hrs, hfr, hlo, hws, hcw⟩ := cw.back
  have hini := cw.init
  have hK : vx_Back l R p e below s args y 5 8 (PreOf R mc ms Pc) (PostOf Qc mc ms free) (vx_Post XC mc ms free) := vx_back (bytes := bytes) (maxL := maxL) (ret := ret) hM hp.1 hrc hrs hfr hlo hws hcw (fun a' U hW => word_at hW (Or.inl (by first | rfl | simp [Cond.onTables, Cond.keeps, Cond.steady])) hini)
  obtain ⟨hx, hb, hml, ho, -⟩ := S
  obtain ⟨-, ⟨cellB, hcB, hoB, hclB⟩, hPc⟩ := hp
  obtain ⟨hfc, kB, hkB, -⟩ := hat
  cases hfc.symm.trans hclB
  intro T hT X
  rcases vx_callIF X hx (C := C) (bytes := bytes) (maxL := maxL) (ret := ret) ho cw.link cw.decl cw.face cw.sel cw.inst cw.pub cw.unh cw.cast cw.code cw.notMH hK (by rw [hT]; exact hcB) hoB hclB hkB hg (hsize.trans hml.symm) (argsL := As) (rest := rest) (fun sig h => hn.trans (cw.len sig h)) hstack hW (by rw [hb]; exact hdg)
    (fun vm₁ hW₁ => ⟨hf.1, hf.2, hPc (T.setVm vm₁) hT hW₁⟩) with ⟨v, vm₁, ⟨U', l2, c2, s2⟩, hW₁, X', ⟨g', mk, t, L, e1, e2, hq, h1, hL, h2, h3⟩, st⟩ | ⟨q, vm₁, ⟨U', l2, c2, s2⟩, hW₁, X', ⟨g', mk, t, L, E, ce, e1, e2, hq, hce, hcv, hcl, h1, hL, h2, h3⟩, st⟩
  · dsimp only [Pt.U, Pt.locs, Pt.cells, Pt.slots] at X' e1 e2 h1 h2 h3 st
    subst h1; subst h2; subst h3
    exact Or.inl ⟨v, (T.setVm vm₁).calling g' mk (Value.ref b :: As).toArray, t, U', L, hT, X', hL, e1, e2, hq, st⟩
  · dsimp only [Pt.U, Pt.locs, Pt.cells, Pt.slots] at X' e1 e2 h1 h2 h3 st hcl
    subst h1; subst h2; subst h3
    exact Or.inr ⟨q, (T.setVm vm₁).calling g' mk (Value.ref b :: As).toArray, t, U', L, E, ce, hT, X', hL, e1, e2, hq, hce, hcv, vx_cls hW₁ hcl, st⟩
theorem vx_callFv {S SX : Type} {post : S → Prop} {px : SX → Prop} {B : S → State → Prop} {BX : String → SX → State → Prop} {AX : Nat → Prop} (hr : vx_Run5 p l e R s m args below meth c H locs cells slots mc ms (F0 m pc ls st0) rest (va_Qv post B A1 a) (vx_X px BX AX) free) (hS : va_S A0 H0 H locs) (hA : ∀ q, q < H.size → A1 q → A0 q) (hf : ∀ q, free q → A0 q) (hAX : ∀ q, q < H.size → AX q → A0 q)
    (kx : ∀ (E : String) (ce : Cell) (q9 : Addr) (u : SX) (t : State) (H1 : Heap) (locs1 : List Loc), t.heap = H1 → s.vm.Alike t.vm → px u → BX E u t → H.size ≤ H1.size → (∀ q : Nat, q < H.size → ¬ AX q → H1[q]? = H[q]?) → va_S A0 H0 H1 locs1 → H1[q9]? = some ce → ce.vm = .none → s.vm.findClass E = some ce.cls → vx_W p l e R s m args below meth c H1 locs1 (cells + mc) (slots + ms) Q (F0 m pc ls rest) q9)
    (kk : ∀ (u : S) (t : State) (H1 : Heap) (locs1 : List Loc), t.heap = H1 → s.vm.Alike t.vm → post u → B u t → H.size ≤ H1.size → (∀ q : Nat, q < H.size → ¬ A1 q → H1[q]? = H[q]?) → va_S A0 H0 H1 locs1 → W p l e R s m args below meth c H1 locs1 (cells + mc) (slots + ms) Q (F0 m (pc + 5) ls (rest))) : W p l e R s m args below meth c H locs cells slots Q (F0 m pc ls st0) := by
  intro T hT X
  rcases hr T hT X with ⟨v, st₀, t, T', L, h0, X', hL, e1, e2, ⟨⟨u, hv, hp, hb⟩, hF⟩, st⟩ | ⟨q, st₀, t, T', L, E, ce, h0, X', hL, e1, e2, ⟨u, hp, hb, hF⟩, hce, hcv, hcl, st⟩
  · cases hv
    obtain ⟨k1, k2, k3⟩ := vx_keep h0 e1 hS hA hf hL hF
    obtain ⟨t2, a1, b1⟩ := kk u t T'.heap (locs ++ L) e1.symm (by rw [← e2]; exact X'.warmed.alike) hp hb k1 k2 k3 T' rfl X'
    exact ⟨t2, st t2 a1, b1⟩
  · obtain ⟨k1, k2, k3⟩ := vx_keep h0 e1 hS hAX hf hL hF
    obtain ⟨t2, a1, b1⟩ := kx E ce q u t T'.heap (locs ++ L) e1.symm (by rw [← e2]; exact X'.warmed.alike) hp hb k1 k2 k3 (by rw [e1]; exact hce) hcv hcl T' rfl X'
    exact ⟨t2, st.trans a1, b1⟩
theorem vx_callFi {S SX : Type} {post : Int32 → S → Prop} {px : SX → Prop} {B : S → State → Prop} {BX : String → SX → State → Prop} {AX : Nat → Prop} (hr : vx_Run5 p l e R s m args below meth c H locs cells slots mc ms (F0 m pc ls st0) rest (va_Qi post B A1 a) (vx_X px BX AX) free) (hS : va_S A0 H0 H locs) (hA : ∀ q, q < H.size → A1 q → A0 q) (hf : ∀ q, free q → A0 q) (hAX : ∀ q, q < H.size → AX q → A0 q)
    (kx : ∀ (E : String) (ce : Cell) (q9 : Addr) (u : SX) (t : State) (H1 : Heap) (locs1 : List Loc), t.heap = H1 → s.vm.Alike t.vm → px u → BX E u t → H.size ≤ H1.size → (∀ q : Nat, q < H.size → ¬ AX q → H1[q]? = H[q]?) → va_S A0 H0 H1 locs1 → H1[q9]? = some ce → ce.vm = .none → s.vm.findClass E = some ce.cls → vx_W p l e R s m args below meth c H1 locs1 (cells + mc) (slots + ms) Q (F0 m pc ls rest) q9)
    (kk : ∀ (r : Int32) (u : S) (t : State) (H1 : Heap) (locs1 : List Loc), t.heap = H1 → s.vm.Alike t.vm → post r u → B u t → H.size ≤ H1.size → (∀ q : Nat, q < H.size → ¬ A1 q → H1[q]? = H[q]?) → va_S A0 H0 H1 locs1 → W p l e R s m args below meth c H1 locs1 (cells + mc) (slots + ms) Q (F0 m (pc + 5) ls (.int r :: rest))) : W p l e R s m args below meth c H locs cells slots Q (F0 m pc ls st0) := by
  intro T hT X
  rcases hr T hT X with ⟨v, st₀, t, T', L, h0, X', hL, e1, e2, ⟨⟨r, u, hv, hp, hb⟩, hF⟩, st⟩ | ⟨q, st₀, t, T', L, E, ce, h0, X', hL, e1, e2, ⟨u, hp, hb, hF⟩, hce, hcv, hcl, st⟩
  · cases hv
    obtain ⟨k1, k2, k3⟩ := vx_keep h0 e1 hS hA hf hL hF
    obtain ⟨t2, a1, b1⟩ := kk r u t T'.heap (locs ++ L) e1.symm (by rw [← e2]; exact X'.warmed.alike) hp hb k1 k2 k3 T' rfl X'
    exact ⟨t2, st t2 a1, b1⟩
  · obtain ⟨k1, k2, k3⟩ := vx_keep h0 e1 hS hAX hf hL hF
    obtain ⟨t2, a1, b1⟩ := kx E ce q u t T'.heap (locs ++ L) e1.symm (by rw [← e2]; exact X'.warmed.alike) hp hb k1 k2 k3 (by rw [e1]; exact hce) hcv hcl T' rfl X'
    exact ⟨t2, st.trans a1, b1⟩
theorem vx_callFl {S SX : Type} {post : Int64 → S → Prop} {px : SX → Prop} {B : S → State → Prop} {BX : String → SX → State → Prop} {AX : Nat → Prop} (hr : vx_Run5 p l e R s m args below meth c H locs cells slots mc ms (F0 m pc ls st0) rest (va_Ql post B A1 a) (vx_X px BX AX) free) (hS : va_S A0 H0 H locs) (hA : ∀ q, q < H.size → A1 q → A0 q) (hf : ∀ q, free q → A0 q) (hAX : ∀ q, q < H.size → AX q → A0 q)
    (kx : ∀ (E : String) (ce : Cell) (q9 : Addr) (u : SX) (t : State) (H1 : Heap) (locs1 : List Loc), t.heap = H1 → s.vm.Alike t.vm → px u → BX E u t → H.size ≤ H1.size → (∀ q : Nat, q < H.size → ¬ AX q → H1[q]? = H[q]?) → va_S A0 H0 H1 locs1 → H1[q9]? = some ce → ce.vm = .none → s.vm.findClass E = some ce.cls → vx_W p l e R s m args below meth c H1 locs1 (cells + mc) (slots + ms) Q (F0 m pc ls rest) q9)
    (kk : ∀ (r : Int64) (u : S) (t : State) (H1 : Heap) (locs1 : List Loc), t.heap = H1 → s.vm.Alike t.vm → post r u → B u t → H.size ≤ H1.size → (∀ q : Nat, q < H.size → ¬ A1 q → H1[q]? = H[q]?) → va_S A0 H0 H1 locs1 → W p l e R s m args below meth c H1 locs1 (cells + mc) (slots + ms) Q (F0 m (pc + 5) ls (.long r :: rest))) : W p l e R s m args below meth c H locs cells slots Q (F0 m pc ls st0) := by
  intro T hT X
  rcases hr T hT X with ⟨v, st₀, t, T', L, h0, X', hL, e1, e2, ⟨⟨r, u, hv, hp, hb⟩, hF⟩, st⟩ | ⟨q, st₀, t, T', L, E, ce, h0, X', hL, e1, e2, ⟨u, hp, hb, hF⟩, hce, hcv, hcl, st⟩
  · cases hv
    obtain ⟨k1, k2, k3⟩ := vx_keep h0 e1 hS hA hf hL hF
    obtain ⟨t2, a1, b1⟩ := kk r u t T'.heap (locs ++ L) e1.symm (by rw [← e2]; exact X'.warmed.alike) hp hb k1 k2 k3 T' rfl X'
    exact ⟨t2, st t2 a1, b1⟩
  · obtain ⟨k1, k2, k3⟩ := vx_keep h0 e1 hS hAX hf hL hF
    obtain ⟨t2, a1, b1⟩ := kx E ce q u t T'.heap (locs ++ L) e1.symm (by rw [← e2]; exact X'.warmed.alike) hp hb k1 k2 k3 (by rw [e1]; exact hce) hcv hcl T' rfl X'
    exact ⟨t2, st.trans a1, b1⟩
theorem vx_callFf {S SX : Type} {post : UInt32 → S → Prop} {px : SX → Prop} {B : S → State → Prop} {BX : String → SX → State → Prop} {AX : Nat → Prop} (hr : vx_Run5 p l e R s m args below meth c H locs cells slots mc ms (F0 m pc ls st0) rest (va_Qf post B A1 a) (vx_X px BX AX) free) (hS : va_S A0 H0 H locs) (hA : ∀ q, q < H.size → A1 q → A0 q) (hf : ∀ q, free q → A0 q) (hAX : ∀ q, q < H.size → AX q → A0 q)
    (kx : ∀ (E : String) (ce : Cell) (q9 : Addr) (u : SX) (t : State) (H1 : Heap) (locs1 : List Loc), t.heap = H1 → s.vm.Alike t.vm → px u → BX E u t → H.size ≤ H1.size → (∀ q : Nat, q < H.size → ¬ AX q → H1[q]? = H[q]?) → va_S A0 H0 H1 locs1 → H1[q9]? = some ce → ce.vm = .none → s.vm.findClass E = some ce.cls → vx_W p l e R s m args below meth c H1 locs1 (cells + mc) (slots + ms) Q (F0 m pc ls rest) q9)
    (kk : ∀ (r : UInt32) (u : S) (t : State) (H1 : Heap) (locs1 : List Loc), t.heap = H1 → s.vm.Alike t.vm → post r u → B u t → H.size ≤ H1.size → (∀ q : Nat, q < H.size → ¬ A1 q → H1[q]? = H[q]?) → va_S A0 H0 H1 locs1 → W p l e R s m args below meth c H1 locs1 (cells + mc) (slots + ms) Q (F0 m (pc + 5) ls (.float r :: rest))) : W p l e R s m args below meth c H locs cells slots Q (F0 m pc ls st0) := by
  intro T hT X
  rcases hr T hT X with ⟨v, st₀, t, T', L, h0, X', hL, e1, e2, ⟨⟨r, u, hv, hp, hb⟩, hF⟩, st⟩ | ⟨q, st₀, t, T', L, E, ce, h0, X', hL, e1, e2, ⟨u, hp, hb, hF⟩, hce, hcv, hcl, st⟩
  · cases hv
    obtain ⟨k1, k2, k3⟩ := vx_keep h0 e1 hS hA hf hL hF
    obtain ⟨t2, a1, b1⟩ := kk r u t T'.heap (locs ++ L) e1.symm (by rw [← e2]; exact X'.warmed.alike) hp hb k1 k2 k3 T' rfl X'
    exact ⟨t2, st t2 a1, b1⟩
  · obtain ⟨k1, k2, k3⟩ := vx_keep h0 e1 hS hAX hf hL hF
    obtain ⟨t2, a1, b1⟩ := kx E ce q u t T'.heap (locs ++ L) e1.symm (by rw [← e2]; exact X'.warmed.alike) hp hb k1 k2 k3 (by rw [e1]; exact hce) hcv hcl T' rfl X'
    exact ⟨t2, st.trans a1, b1⟩
theorem vx_callFd {S SX : Type} {post : UInt64 → S → Prop} {px : SX → Prop} {B : S → State → Prop} {BX : String → SX → State → Prop} {AX : Nat → Prop} (hr : vx_Run5 p l e R s m args below meth c H locs cells slots mc ms (F0 m pc ls st0) rest (va_Qd post B A1 a) (vx_X px BX AX) free) (hS : va_S A0 H0 H locs) (hA : ∀ q, q < H.size → A1 q → A0 q) (hf : ∀ q, free q → A0 q) (hAX : ∀ q, q < H.size → AX q → A0 q)
    (kx : ∀ (E : String) (ce : Cell) (q9 : Addr) (u : SX) (t : State) (H1 : Heap) (locs1 : List Loc), t.heap = H1 → s.vm.Alike t.vm → px u → BX E u t → H.size ≤ H1.size → (∀ q : Nat, q < H.size → ¬ AX q → H1[q]? = H[q]?) → va_S A0 H0 H1 locs1 → H1[q9]? = some ce → ce.vm = .none → s.vm.findClass E = some ce.cls → vx_W p l e R s m args below meth c H1 locs1 (cells + mc) (slots + ms) Q (F0 m pc ls rest) q9)
    (kk : ∀ (r : UInt64) (u : S) (t : State) (H1 : Heap) (locs1 : List Loc), t.heap = H1 → s.vm.Alike t.vm → post r u → B u t → H.size ≤ H1.size → (∀ q : Nat, q < H.size → ¬ A1 q → H1[q]? = H[q]?) → va_S A0 H0 H1 locs1 → W p l e R s m args below meth c H1 locs1 (cells + mc) (slots + ms) Q (F0 m (pc + 5) ls (.double r :: rest))) : W p l e R s m args below meth c H locs cells slots Q (F0 m pc ls st0) := by
  intro T hT X
  rcases hr T hT X with ⟨v, st₀, t, T', L, h0, X', hL, e1, e2, ⟨⟨r, u, hv, hp, hb⟩, hF⟩, st⟩ | ⟨q, st₀, t, T', L, E, ce, h0, X', hL, e1, e2, ⟨u, hp, hb, hF⟩, hce, hcv, hcl, st⟩
  · cases hv
    obtain ⟨k1, k2, k3⟩ := vx_keep h0 e1 hS hA hf hL hF
    obtain ⟨t2, a1, b1⟩ := kk r u t T'.heap (locs ++ L) e1.symm (by rw [← e2]; exact X'.warmed.alike) hp hb k1 k2 k3 T' rfl X'
    exact ⟨t2, st t2 a1, b1⟩
  · obtain ⟨k1, k2, k3⟩ := vx_keep h0 e1 hS hAX hf hL hF
    obtain ⟨t2, a1, b1⟩ := kx E ce q u t T'.heap (locs ++ L) e1.symm (by rw [← e2]; exact X'.warmed.alike) hp hb k1 k2 k3 (by rw [e1]; exact hce) hcv hcl T' rfl X'
    exact ⟨t2, st.trans a1, b1⟩
end
/-! ===== END ===== -/
/-! ===== BEGIN by an interface, a method with a table of its own that may throw (follows va_callIFW, va_runFW) ===== -/
section
variable {p : Program} {l : Launch} {e : Env} {R : Room} {s : State} {m : MethodId} {args : Array Value} {below : List Frame} {meth : Method} {c : Code} {H : Heap} {locs : List Loc} {cells slots : Nat}
theorem vx_callIFW {T : State} (X : Stand p l e R s m args below meth c T locs cells slots) (hexec : p.tables.exec = Jvm.exec) {own C : String} {index count : Nat} {x y : MethodName} {bytes : ByteArray} {maxL : Nat} {ret : Option FieldType} {hh : List (Nat × Nat × Nat × Nat)}
    (hown : s.vm.findClass own = some m.cls) (hlink : (Cond.methodLink own index x).before args s = true) (hdecl : (Cond.declares x).before args s = true) (hface : (Cond.interfaceMethod x.cls x.cls x.name x.desc).before args s = true)
    (hsel : (Cond.selects C x y).before args s = true) (hinst : (Cond.instanceMethod y).before args s = true) (hpub : (Cond.publicMethod y).before args s = true) (hunh : (Cond.unhidden C x.name x.desc).before args s = true)
    (hcast : (Cond.castable C x.cls).before args s = true) (hcode : (Cond.codeWith y bytes maxL ret hh).before args s = true) (hx : x.cls ≠ "java/lang/invoke/MethodHandle" ∧ x.cls ≠ "java/lang/invoke/VarHandle")
    {W : Nat} {Pre : Pt → Array Value → Prop} {Post : Pt → Array Value → Option Value → Pt → Prop} {PostX : Pt → Array Value → Addr → Pt → Prop} (hK : vx_Back l R p e below s args y 5 W Pre Post PostX)
    {b : Addr} {cellB : Cell} {kB : Class} (hcell : T.heap[b]? = some cellB) (hobj : cellB.vm.isStatics = false) (hcls : s.vm.findClass C = some cellB.cls) (hkB : s.vm.classes[cellB.cls]? = some kB)
    {g : JFrame} (hg : g.method = m) (hsize : g.locals.size = c.maxLocals) {argsL rest : List Value} (hlen : ∀ sig, parseMethodDescriptor x.desc = some sig → argsL.length = sig.parameters.length)
    (hstack : g.stack = argsL.reverse ++ .ref b :: rest) (hW : 2 * g.monitorRoom + (rest.map fun v => v.category).sum ≤ W) (hdg : decode c.code g.pc = .ok (.invokeinterface index count, 5))
    (hpre : ∀ vm₁, s.WarmedH vm₁ → Pre ⟨T.setVm vm₁, locs, cells, slots⟩ (Value.ref b :: argsL).toArray) :
    (∃ (v : Option Value) (vm₁ : Vm) (B : Pt), s.WarmedH vm₁ ∧ Stand p l e R s m args below meth c B.U B.locs B.cells B.slots ∧ Post ⟨T.setVm vm₁, locs, cells, slots⟩ (Value.ref b :: argsL).toArray v B ∧
      ∀ target, Steps p.tables e below (B.U.setTop { g with pc := g.pc + 5, stack := v.toList ++ rest }) target → Steps p.tables e below (T.setTop g) target) ∨
    (∃ (q : Addr) (vm₁ : Vm) (B : Pt), s.WarmedH vm₁ ∧ Stand p l e R s m args below meth c B.U B.locs B.cells B.slots ∧ PostX ⟨T.setVm vm₁, locs, cells, slots⟩ (Value.ref b :: argsL).toArray q B ∧
      Steps p.tables e below (T.setTop g) ((B.U.setTop { g with stack := rest }).pushFrame (.throwing q))) := by
  obtain ⟨r0, r, hn, hrm, hstR, hsigR⟩ := Cond.declares_spec hdecl
  obtain ⟨cL, kL, r1, hcL, hkL, hiL, hfoundL, hn1⟩ := Cond.interfaceMethod_spec hface
  cases hn.symm.trans hn1
  have hr0cls : r0.cls = cL := Option.some.inj ((findClass_of_methodNamed hn).symm.trans hcL)
  obtain ⟨hnameR, hdescR⟩ := name_of_methodNamed hn hrm
  obtain ⟨mk, methM, hnamed, hmethM, -, habM⟩ := Cond.instanceMethod_spec hinst
  obtain ⟨c2, r2, m2, q1, q2, q3, q4, -⟩ := Cond.selects_spec hsel
  cases hcls.symm.trans q1
  cases hfoundL.symm.trans q2
  cases hnamed.symm.trans q3
  have hselP : selectMethod e.platform s.vm cellB.cls r0 = .method mk := by rw [Launch.admits_selectMethod X.admits]; exact q4
  have hpubM : hasFlag methM.accessFlags Acc.public_ = true := Cond.publicMethod_spec hnamed hmethM hpub
  have hway : ((cellB.cls :: s.vm.superclasses cellB.cls).any fun k => (declaredIn s.vm r.name r.desc k).any fun (_, z) => z.isPrivate || z.isStatic) = false := by
    rw [hnameR, hdescR]; exact Cond.unhidden_spec hcls hunh
  obtain ⟨c3, t3, w1, w2, w3⟩ := Cond.castable_spec hcast
  cases hcls.symm.trans w1
  cases hcL.symm.trans w2
  obtain ⟨vm₁, X₁, hstep₁⟩ := X.invokeinterface hexec hown hlink hn hrm hstR (by rw [hr0cls]; exact hkL) hiL hx (a := b) (cell := cellB) (kcell := kB) hcell
    (fun z h => by rw [h] at hobj; cases hobj) hkB (by rw [hr0cls]; exact w3) hselP hmethM hway hpubM habM (g := g) hg (argsL := argsL) (rest := rest) (hlen _ hsigR) hstack hdg
  rcases hK m meth c ⟨T.setVm vm₁, locs, cells, slots⟩ { g with stack := rest } (.invokeinterface index count) mk (Value.ref b :: argsL).toArray X₁ hg hsize hdg hW (X₁.named hnamed) (hpre vm₁ X₁.warmed) with ⟨v, B, X', hpost, hsteps⟩ | ⟨q, B, X', hpost, hsteps⟩
  · exact Or.inl ⟨v, vm₁, B, X₁.warmed, X', hpost, fun target h => hstep₁ _ fun acts => by rw [doInvoke_state]; exact hsteps.trans h⟩
  · exact Or.inr ⟨q, vm₁, B, X₁.warmed, X', hpost, hstep₁ _ fun acts => by rw [doInvoke_state]; exact hsteps⟩
theorem vx_runFW {x y : MethodName} {bytes cc : ByteArray} {maxL nL mc ms n index count : Nat} {ret : Option FieldType} {hh : List (Nat × Nat × Nat × Nat)} {ws : List Cond} {rm : Room} {Pc : Array Value → State → Prop} {Qc : Array Value → State → Outcome → State → Prop} {XC : String → State → State → Prop} {free : Addr → Prop} {Ts : List Cond} {own C : String} {cC : ClassId} {b : Addr} {As rest : List Value} {g : JFrame}
    (hat : ClassAt s C cC) (S : CallFix p m c cc nL s args Ts own) (hM : vx_Met l y ws rm Pc Qc XC mc ms free) (cw : va_CIW R s args own C index x y bytes maxL ret hh ws rm mc ms n) (hp : PreV s H C b Pc As)
    (hg : g.method = m) (hn : As.length = n) (hsize : g.locals.size = nL) (hstack : g.stack = As.reverse ++ .ref b :: rest) (hW : 2 * g.monitorRoom + (rest.map fun v => v.category).sum ≤ 8) (hdg : decode cc g.pc = .ok (.invokeinterface index count, 5)) (hf : cells + mc ≤ R.cells ∧ slots + ms ≤ R.slots) :
    vx_Run5 p l e R s m args below meth c H locs cells slots mc ms g rest (Qc (Value.ref b :: As).toArray) XC free := by
  obtain ⟨hrc, hrs, hfr, hlo, hws, hcw⟩ := cw.back
  have hini := cw.init
  have hK : vx_Back l R p e below s args y 5 8 (PreOf R mc ms Pc) (PostOf Qc mc ms free) (vx_Post XC mc ms free) := vx_backW (hh := hh) (bytes := bytes) (maxL := maxL) (ret := ret) hM hp.1 hrc hrs hfr hlo hws hcw (fun a' U hW => word_at hW (Or.inl (by first | rfl | simp [Cond.onTables, Cond.keeps, Cond.steady])) hini)
  obtain ⟨hx, hb, hml, ho, -⟩ := S
  obtain ⟨-, ⟨cellB, hcB, hoB, hclB⟩, hPc⟩ := hp
  obtain ⟨hfc, kB, hkB, -⟩ := hat
  cases hfc.symm.trans hclB
  intro T hT X
  rcases vx_callIFW X hx (C := C) (hh := hh) (bytes := bytes) (maxL := maxL) (ret := ret) ho cw.link cw.decl cw.face cw.sel cw.inst cw.pub cw.unh cw.cast cw.code cw.notMH hK (by rw [hT]; exact hcB) hoB hclB hkB hg (hsize.trans hml.symm) (argsL := As) (rest := rest) (fun sig h => hn.trans (cw.len sig h)) hstack hW (by rw [hb]; exact hdg)
    (fun vm₁ hW₁ => ⟨hf.1, hf.2, hPc (T.setVm vm₁) hT hW₁⟩) with ⟨v, vm₁, ⟨U', l2, c2, s2⟩, hW₁, X', ⟨g', mk, t, L, e1, e2, hq, h1, hL, h2, h3⟩, st⟩ | ⟨q, vm₁, ⟨U', l2, c2, s2⟩, hW₁, X', ⟨g', mk, t, L, E, ce, e1, e2, hq, hce, hcv, hcl, h1, hL, h2, h3⟩, st⟩
  · dsimp only [Pt.U, Pt.locs, Pt.cells, Pt.slots] at X' e1 e2 h1 h2 h3 st
    subst h1; subst h2; subst h3
    exact Or.inl ⟨v, (T.setVm vm₁).calling g' mk (Value.ref b :: As).toArray, t, U', L, hT, X', hL, e1, e2, hq, st⟩
  · dsimp only [Pt.U, Pt.locs, Pt.cells, Pt.slots] at X' e1 e2 h1 h2 h3 st hcl
    subst h1; subst h2; subst h3
    exact Or.inr ⟨q, (T.setVm vm₁).calling g' mk (Value.ref b :: As).toArray, t, U', L, E, ce, hT, X', hL, e1, e2, hq, hce, hcv, vx_cls hW₁ hcl, st⟩
end
/-! ===== END ===== -/
/-! ===== BEGIN .. of methods that hand back an object of the pool ===== -/
section
variable {p : Program} {l : Launch} {e : Env} {R : Room} {s : State} {m : MethodId} {args : Array Value} {below : List Frame} {meth : Method} {c : Code} {H : Heap} {locs : List Loc} {cells slots : Nat} {Q : State → Prop}
variable {mc ms : Nat} {free : Addr → Prop} {A0 A1 : Nat → Prop} {H0 : Heap} {a : Array Value} {pc : Nat} {ls : Array Slot} {st0 rest : List Value}
theorem vx_callq {S SX : Type} {post : Option Nat → S → Prop} {px : SX → Prop} {B : S → State → Prop} {BX : String → SX → State → Prop} {AX : Nat → Prop} (hr : vx_Run p l e R s m args below meth c H locs cells slots mc ms (F0 m pc ls st0) rest (va_Qq post B A1 a) (vx_X px BX AX) free) (hS : va_S A0 H0 H locs) (hA : ∀ q, q < H.size → A1 q → A0 q) (hf : ∀ q, free q → A0 q) (hAX : ∀ q, q < H.size → AX q → A0 q)
    (kx : ∀ (E : String) (ce : Cell) (q9 : Addr) (u : SX) (t : State) (H1 : Heap) (locs1 : List Loc), t.heap = H1 → s.vm.Alike t.vm → px u → BX E u t → H.size ≤ H1.size → (∀ q : Nat, q < H.size → ¬ AX q → H1[q]? = H[q]?) → va_S A0 H0 H1 locs1 → H1[q9]? = some ce → ce.vm = .none → s.vm.findClass E = some ce.cls → vx_W p l e R s m args below meth c H1 locs1 (cells + mc) (slots + ms) Q (F0 m pc ls rest) q9)
    (kk : ∀ (r : Option Nat) (u : S) (t : State) (H1 : Heap) (locs1 : List Loc), t.heap = H1 → s.vm.Alike t.vm → post r u → B u t → H.size ≤ H1.size → (∀ q : Nat, q < H.size → ¬ A1 q → H1[q]? = H[q]?) → va_S A0 H0 H1 locs1 → W p l e R s m args below meth c H1 locs1 (cells + mc) (slots + ms) Q (F0 m (pc + 3) ls (va_rf r :: rest))) : W p l e R s m args below meth c H locs cells slots Q (F0 m pc ls st0) := by
  intro T hT X
  rcases hr T hT X with ⟨v, st₀, t, T', L, h0, X', hL, e1, e2, ⟨⟨r, u, hv, hp, hb⟩, hF⟩, st⟩ | ⟨q, st₀, t, T', L, E, ce, h0, X', hL, e1, e2, ⟨u, hp, hb, hF⟩, hce, hcv, hcl, st⟩
  · cases hv
    obtain ⟨k1, k2, k3⟩ := vx_keep h0 e1 hS hA hf hL hF
    obtain ⟨t2, a1, b1⟩ := kk r u t T'.heap (locs ++ L) e1.symm (by rw [← e2]; exact X'.warmed.alike) hp hb k1 k2 k3 T' rfl X'
    exact ⟨t2, st t2 a1, b1⟩
  · obtain ⟨k1, k2, k3⟩ := vx_keep h0 e1 hS hAX hf hL hF
    obtain ⟨t2, a1, b1⟩ := kx E ce q u t T'.heap (locs ++ L) e1.symm (by rw [← e2]; exact X'.warmed.alike) hp hb k1 k2 k3 (by rw [e1]; exact hce) hcv hcl T' rfl X'
    exact ⟨t2, st.trans a1, b1⟩
end
/-! ===== END ===== -/
/-! ===== BEGIN .. a constant ===== -/
section
variable {p : Program} {l : Launch} {e : Env} {R : Room} {s : State} {m : MethodId} {args : Array Value} {below : List Frame} {meth : Method} {c : Code} {H : Heap} {locs : List Loc} {cells slots : Nat} {Q : State → Prop}
variable {mc ms : Nat} {free : Addr → Prop} {A0 A1 : Nat → Prop} {H0 : Heap} {a : Array Value} {pc : Nat} {ls : Array Slot} {st0 rest : List Value}
theorem vx_calle {ad : Nat → Nat} {S SX : Type} {post : Option Nat → S → Prop} {px : SX → Prop} {B : S → State → Prop} {BX : String → SX → State → Prop} {AX : Nat → Prop} (hr : vx_Run p l e R s m args below meth c H locs cells slots mc ms (F0 m pc ls st0) rest (va_Qe ad post B A1 a) (vx_X px BX AX) free) (hS : va_S A0 H0 H locs) (hA : ∀ q, q < H.size → A1 q → A0 q) (hf : ∀ q, free q → A0 q) (hAX : ∀ q, q < H.size → AX q → A0 q)
    (kx : ∀ (E : String) (ce : Cell) (q9 : Addr) (u : SX) (t : State) (H1 : Heap) (locs1 : List Loc), t.heap = H1 → s.vm.Alike t.vm → px u → BX E u t → H.size ≤ H1.size → (∀ q : Nat, q < H.size → ¬ AX q → H1[q]? = H[q]?) → va_S A0 H0 H1 locs1 → H1[q9]? = some ce → ce.vm = .none → s.vm.findClass E = some ce.cls → vx_W p l e R s m args below meth c H1 locs1 (cells + mc) (slots + ms) Q (F0 m pc ls rest) q9)
    (kk : ∀ (r : Option Nat) (u : S) (t : State) (H1 : Heap) (locs1 : List Loc), t.heap = H1 → s.vm.Alike t.vm → post r u → B u t → H.size ≤ H1.size → (∀ q : Nat, q < H.size → ¬ A1 q → H1[q]? = H[q]?) → va_S A0 H0 H1 locs1 → W p l e R s m args below meth c H1 locs1 (cells + mc) (slots + ms) Q (F0 m (pc + 3) ls (va_re ad r :: rest))) : W p l e R s m args below meth c H locs cells slots Q (F0 m pc ls st0) := by
  intro T hT X
  rcases hr T hT X with ⟨v, st₀, t, T', L, h0, X', hL, e1, e2, ⟨⟨r, u, hv, hp, hb⟩, hF⟩, st⟩ | ⟨q, st₀, t, T', L, E, ce, h0, X', hL, e1, e2, ⟨u, hp, hb, hF⟩, hce, hcv, hcl, st⟩
  · cases hv
    obtain ⟨k1, k2, k3⟩ := vx_keep h0 e1 hS hA hf hL hF
    obtain ⟨t2, a1, b1⟩ := kk r u t T'.heap (locs ++ L) e1.symm (by rw [← e2]; exact X'.warmed.alike) hp hb k1 k2 k3 T' rfl X'
    exact ⟨t2, st t2 a1, b1⟩
  · obtain ⟨k1, k2, k3⟩ := vx_keep h0 e1 hS hAX hf hL hF
    obtain ⟨t2, a1, b1⟩ := kx E ce q u t T'.heap (locs ++ L) e1.symm (by rw [← e2]; exact X'.warmed.alike) hp hb k1 k2 k3 (by rw [e1]; exact hce) hcv hcl T' rfl X'
    exact ⟨t2, st.trans a1, b1⟩
end
/-! ===== END ===== -/
/-! ===== BEGIN .. by an interface, an object ===== -/
section
variable {p : Program} {l : Launch} {e : Env} {R : Room} {s : State} {m : MethodId} {args : Array Value} {below : List Frame} {meth : Method} {c : Code} {H : Heap} {locs : List Loc} {cells slots : Nat} {Q : State → Prop}
variable {mc ms : Nat} {free : Addr → Prop} {A0 A1 : Nat → Prop} {H0 : Heap} {a : Array Value} {pc : Nat} {ls : Array Slot} {st0 rest : List Value}
theorem vx_callFq {S SX : Type} {post : Option Nat → S → Prop} {px : SX → Prop} {B : S → State → Prop} {BX : String → SX → State → Prop} {AX : Nat → Prop} (hr : vx_Run5 p l e R s m args below meth c H locs cells slots mc ms (F0 m pc ls st0) rest (va_Qq post B A1 a) (vx_X px BX AX) free) (hS : va_S A0 H0 H locs) (hA : ∀ q, q < H.size → A1 q → A0 q) (hf : ∀ q, free q → A0 q) (hAX : ∀ q, q < H.size → AX q → A0 q)
    (kx : ∀ (E : String) (ce : Cell) (q9 : Addr) (u : SX) (t : State) (H1 : Heap) (locs1 : List Loc), t.heap = H1 → s.vm.Alike t.vm → px u → BX E u t → H.size ≤ H1.size → (∀ q : Nat, q < H.size → ¬ AX q → H1[q]? = H[q]?) → va_S A0 H0 H1 locs1 → H1[q9]? = some ce → ce.vm = .none → s.vm.findClass E = some ce.cls → vx_W p l e R s m args below meth c H1 locs1 (cells + mc) (slots + ms) Q (F0 m pc ls rest) q9)
    (kk : ∀ (r : Option Nat) (u : S) (t : State) (H1 : Heap) (locs1 : List Loc), t.heap = H1 → s.vm.Alike t.vm → post r u → B u t → H.size ≤ H1.size → (∀ q : Nat, q < H.size → ¬ A1 q → H1[q]? = H[q]?) → va_S A0 H0 H1 locs1 → W p l e R s m args below meth c H1 locs1 (cells + mc) (slots + ms) Q (F0 m (pc + 5) ls (va_rf r :: rest))) : W p l e R s m args below meth c H locs cells slots Q (F0 m pc ls st0) := by
  intro T hT X
  rcases hr T hT X with ⟨v, st₀, t, T', L, h0, X', hL, e1, e2, ⟨⟨r, u, hv, hp, hb⟩, hF⟩, st⟩ | ⟨q, st₀, t, T', L, E, ce, h0, X', hL, e1, e2, ⟨u, hp, hb, hF⟩, hce, hcv, hcl, st⟩
  · cases hv
    obtain ⟨k1, k2, k3⟩ := vx_keep h0 e1 hS hA hf hL hF
    obtain ⟨t2, a1, b1⟩ := kk r u t T'.heap (locs ++ L) e1.symm (by rw [← e2]; exact X'.warmed.alike) hp hb k1 k2 k3 T' rfl X'
    exact ⟨t2, st t2 a1, b1⟩
  · obtain ⟨k1, k2, k3⟩ := vx_keep h0 e1 hS hAX hf hL hF
    obtain ⟨t2, a1, b1⟩ := kx E ce q u t T'.heap (locs ++ L) e1.symm (by rw [← e2]; exact X'.warmed.alike) hp hb k1 k2 k3 (by rw [e1]; exact hce) hcv hcl T' rfl X'
    exact ⟨t2, st.trans a1, b1⟩
end
/-! ===== END ===== -/
/-! ===== BEGIN .. by an interface, a constant ===== -/
section
variable {p : Program} {l : Launch} {e : Env} {R : Room} {s : State} {m : MethodId} {args : Array Value} {below : List Frame} {meth : Method} {c : Code} {H : Heap} {locs : List Loc} {cells slots : Nat} {Q : State → Prop}
variable {mc ms : Nat} {free : Addr → Prop} {A0 A1 : Nat → Prop} {H0 : Heap} {a : Array Value} {pc : Nat} {ls : Array Slot} {st0 rest : List Value}
theorem vx_callFe {ad : Nat → Nat} {S SX : Type} {post : Option Nat → S → Prop} {px : SX → Prop} {B : S → State → Prop} {BX : String → SX → State → Prop} {AX : Nat → Prop} (hr : vx_Run5 p l e R s m args below meth c H locs cells slots mc ms (F0 m pc ls st0) rest (va_Qe ad post B A1 a) (vx_X px BX AX) free) (hS : va_S A0 H0 H locs) (hA : ∀ q, q < H.size → A1 q → A0 q) (hf : ∀ q, free q → A0 q) (hAX : ∀ q, q < H.size → AX q → A0 q)
    (kx : ∀ (E : String) (ce : Cell) (q9 : Addr) (u : SX) (t : State) (H1 : Heap) (locs1 : List Loc), t.heap = H1 → s.vm.Alike t.vm → px u → BX E u t → H.size ≤ H1.size → (∀ q : Nat, q < H.size → ¬ AX q → H1[q]? = H[q]?) → va_S A0 H0 H1 locs1 → H1[q9]? = some ce → ce.vm = .none → s.vm.findClass E = some ce.cls → vx_W p l e R s m args below meth c H1 locs1 (cells + mc) (slots + ms) Q (F0 m pc ls rest) q9)
    (kk : ∀ (r : Option Nat) (u : S) (t : State) (H1 : Heap) (locs1 : List Loc), t.heap = H1 → s.vm.Alike t.vm → post r u → B u t → H.size ≤ H1.size → (∀ q : Nat, q < H.size → ¬ A1 q → H1[q]? = H[q]?) → va_S A0 H0 H1 locs1 → W p l e R s m args below meth c H1 locs1 (cells + mc) (slots + ms) Q (F0 m (pc + 5) ls (va_re ad r :: rest))) : W p l e R s m args below meth c H locs cells slots Q (F0 m pc ls st0) := by
  intro T hT X
  rcases hr T hT X with ⟨v, st₀, t, T', L, h0, X', hL, e1, e2, ⟨⟨r, u, hv, hp, hb⟩, hF⟩, st⟩ | ⟨q, st₀, t, T', L, E, ce, h0, X', hL, e1, e2, ⟨u, hp, hb, hF⟩, hce, hcv, hcl, st⟩
  · cases hv
    obtain ⟨k1, k2, k3⟩ := vx_keep h0 e1 hS hA hf hL hF
    obtain ⟨t2, a1, b1⟩ := kk r u t T'.heap (locs ++ L) e1.symm (by rw [← e2]; exact X'.warmed.alike) hp hb k1 k2 k3 T' rfl X'
    exact ⟨t2, st t2 a1, b1⟩
  · obtain ⟨k1, k2, k3⟩ := vx_keep h0 e1 hS hAX hf hL hF
    obtain ⟨t2, a1, b1⟩ := kx E ce q u t T'.heap (locs ++ L) e1.symm (by rw [← e2]; exact X'.warmed.alike) hp hb k1 k2 k3 (by rw [e1]; exact hce) hcv hcl T' rfl X'
    exact ⟨t2, st.trans a1, b1⟩
end
/-! ===== END ===== -/
/-! ===== BEGIN what the machine throws by itself: null at a field, at athrow ===== -/
section VXM2
variable {p : Program} {l : Launch} {e : Env} {R : Room} {s : State} {m : MethodId} {args : Array Value} {below : List Frame} {meth : Method} {c : Code} {H : Heap} {locs : List Loc} {cells slots : Nat}
variable {Q : State → Prop} {cc : ByteArray} {pc : Nat} {ls : Array Slot} {rest : List Value}
theorem vx_getfN {D cl tys} {own ref C : String} {T : u_T} {N ci index : Nat} {Ts : List Cond} (hexec : p.tables.exec = Jvm.exec) (hb : c.code = cc) (hts : ∀ w ∈ Ts, w.before args s = true) (hin : ∀ w ∈ u_ws C T N, w ∈ Ts) (hown : s.vm.findClass own = some m.cls) (hK : va_K D cl tys s) (hc : cl[ci]? = some (C, T, N)) (k : Nat) (hk : k < N) (hlink : (Cond.fieldLink own index ref (T k).2.1 (T k).2.2.1).before args s = true) (hsame : ∀ x, s.fieldFound? (T k).1 (T k).2.1 (T k).2.2.1 = some x → s.fieldFound? ref (T k).2.1 (T k).2.2.1 = some x) (hdg : decode cc pc = .ok (.getfield index, 3)) (kk : vx_NoteN p l e R s m args below meth c H locs cells slots Q (F0 m pc ls rest)) : W p l e R s m args below meth c H locs cells slots Q (F0 m pc ls (.null :: rest)) := by
  obtain ⟨hS, hfc, kC, hkC, -⟩ := hK.1 ci _ hc
  obtain ⟨cf, kf, fi, f, hi, -⟩ := hS k hk
  intro U hU X
  obtain ⟨vm', X1, st1⟩ := X.getfieldNull hexec hown hlink (hsame _ hi) (u_facts hfc hkC (u_lays hts hin hk) hi).1 (g := F0 m pc ls (.null :: rest)) rfl (rest := rest) rfl (by rw [hb]; exact hdg)
  obtain ⟨t, st, q⟩ := kk (U.setVm vm') hU X1
  exact ⟨t, st1 t st, q⟩
theorem vx_getfNN {D cl tys} {own ref C host : String} {T : u_T} {N ci index : Nat} {Ts : List Cond} (hexec : p.tables.exec = Jvm.exec) (hb : c.code = cc) (hts : ∀ w ∈ Ts, w.before args s = true) (hin : ∀ w ∈ u_ws C T N, w ∈ Ts) (hown : s.vm.findClass own = some m.cls) (hK : va_K D cl tys s) (hc : cl[ci]? = some (C, T, N)) (k : Nat) (hk : k < N) (hlink : (Cond.fieldLinkNest own index ref (T k).2.1 (T k).2.2.1 host).before args s = true) (hsame : ∀ x, s.fieldFound? (T k).1 (T k).2.1 (T k).2.2.1 = some x → s.fieldFound? ref (T k).2.1 (T k).2.2.1 = some x) (hdg : decode cc pc = .ok (.getfield index, 3)) (kk : vx_NoteN p l e R s m args below meth c H locs cells slots Q (F0 m pc ls rest)) : W p l e R s m args below meth c H locs cells slots Q (F0 m pc ls (.null :: rest)) := by
  obtain ⟨hS, hfc, kC, hkC, -⟩ := hK.1 ci _ hc
  obtain ⟨cf, kf, fi, f, hi, -⟩ := hS k hk
  intro U hU X
  obtain ⟨vm', X1, st1⟩ := X.getfieldNullNest hexec hown hlink (hsame _ hi) (u_facts hfc hkC (u_lays hts hin hk) hi).1 (g := F0 m pc ls (.null :: rest)) rfl (rest := rest) rfl (by rw [hb]; exact hdg)
  obtain ⟨t, st, q⟩ := kk (U.setVm vm') hU X1
  exact ⟨t, st1 t st, q⟩
theorem vx_putfN {D cl tys} {own ref C : String} {T : u_T} {N ci index : Nat} {Ts : List Cond} (hexec : p.tables.exec = Jvm.exec) (hb : c.code = cc) (hts : ∀ w ∈ Ts, w.before args s = true) (hin : ∀ w ∈ u_ws C T N, w ∈ Ts) (hown : s.vm.findClass own = some m.cls) (hK : va_K D cl tys s) (hc : cl[ci]? = some (C, T, N)) (k : Nat) (hk : k < N) (hlink : (Cond.fieldLink own index ref (T k).2.1 (T k).2.2.1).before args s = true) (hsame : ∀ x, s.fieldFound? (T k).1 (T k).2.1 (T k).2.2.1 = some x → s.fieldFound? ref (T k).2.1 (T k).2.2.1 = some x) (hfin : (T k).2.2.2 = false) {v : Value} (hdg : decode cc pc = .ok (.putfield index, 3)) (kk : vx_NoteN p l e R s m args below meth c H locs cells slots Q (F0 m pc ls rest)) : W p l e R s m args below meth c H locs cells slots Q (F0 m pc ls (v :: .null :: rest)) := by
  obtain ⟨hS, hfc, kC, hkC, -⟩ := hK.1 ci _ hc
  obtain ⟨cf, kf, fi, f, hi, -⟩ := hS k hk
  have hlay := hts _ (hin _ (u_in_lay hk))
  unfold u_lay at hlay
  rw [if_neg (by rw [hfin]; decide)] at hlay
  obtain ⟨c9, k9, cf9, kf9, fi9, f9, -, -, hi9, hst9, hnf9, -⟩ := Cond.lays_spec hlay
  cases hi.symm.trans hi9
  intro U hU X
  obtain ⟨vm', X1, st1⟩ := X.putfieldNull hexec hown hlink (hsame _ hi) hst9 hnf9 (g := F0 m pc ls (v :: .null :: rest)) rfl (v := v) (rest := rest) rfl (by rw [hb]; exact hdg)
  obtain ⟨t, st, q⟩ := kk (U.setVm vm') hU X1
  exact ⟨t, st1 t st, q⟩
theorem vx_putfNN {D cl tys} {own ref C host : String} {T : u_T} {N ci index : Nat} {Ts : List Cond} (hexec : p.tables.exec = Jvm.exec) (hb : c.code = cc) (hts : ∀ w ∈ Ts, w.before args s = true) (hin : ∀ w ∈ u_ws C T N, w ∈ Ts) (hown : s.vm.findClass own = some m.cls) (hK : va_K D cl tys s) (hc : cl[ci]? = some (C, T, N)) (k : Nat) (hk : k < N) (hlink : (Cond.fieldLinkNest own index ref (T k).2.1 (T k).2.2.1 host).before args s = true) (hsame : ∀ x, s.fieldFound? (T k).1 (T k).2.1 (T k).2.2.1 = some x → s.fieldFound? ref (T k).2.1 (T k).2.2.1 = some x) (hfin : (T k).2.2.2 = false) {v : Value} (hdg : decode cc pc = .ok (.putfield index, 3)) (kk : vx_NoteN p l e R s m args below meth c H locs cells slots Q (F0 m pc ls rest)) : W p l e R s m args below meth c H locs cells slots Q (F0 m pc ls (v :: .null :: rest)) := by
  obtain ⟨hS, hfc, kC, hkC, -⟩ := hK.1 ci _ hc
  obtain ⟨cf, kf, fi, f, hi, -⟩ := hS k hk
  have hlay := hts _ (hin _ (u_in_lay hk))
  unfold u_lay at hlay
  rw [if_neg (by rw [hfin]; decide)] at hlay
  obtain ⟨c9, k9, cf9, kf9, fi9, f9, -, -, hi9, hst9, hnf9, -⟩ := Cond.lays_spec hlay
  cases hi.symm.trans hi9
  intro U hU X
  obtain ⟨vm', X1, st1⟩ := X.putfieldNullNest hexec hown hlink (hsame _ hi) hst9 hnf9 (g := F0 m pc ls (v :: .null :: rest)) rfl (v := v) (rest := rest) rfl (by rw [hb]; exact hdg)
  obtain ⟨t, st, q⟩ := kk (U.setVm vm') hU X1
  exact ⟨t, st1 t st, q⟩
theorem vx_athrowN (hexec : p.tables.exec = Jvm.exec) (hb : c.code = cc) (hdg : decode cc pc = .ok (.athrow, 1)) (k : vx_NoteN p l e R s m args below meth c H locs cells slots Q (F0 m pc ls rest)) : W p l e R s m args below meth c H locs cells slots Q (F0 m pc ls (.null :: rest)) := by
  intro T hT X
  obtain ⟨t, st, q⟩ := k T hT X
  exact ⟨t, X.athrowNull hexec (g := F0 m pc ls (.null :: rest)) rfl (rest := rest) rfl (by rw [hb]; exact hdg) t st, q⟩
end VXM2
/-! ===== END ===== -/
end
section
/-! the methods that are reached, their instructions with resolved operands (written by a program) -/
def kStats : List (String × String × String) := [("TriplicateForms$Word", "NOT", "LTriplicateForms$Word;"), ("TriplicateForms$Word", "CLEAR", "LTriplicateForms$Word;"), ("TriplicateForms$Word", "ABOUT", "LTriplicateForms$Word;"), ("TriplicateForms$Word", "HURTS", "LTriplicateForms$Word;"), ("TriplicateForms$Word", "SIGNED", "LTriplicateForms$Word;"), ("TriplicateForms$Word", "PARTS", "LTriplicateForms$Word;"), ("TriplicateForms$Word", "DAYS", "LTriplicateForms$Word;"), ("TriplicateForms$Word", "NUMBER", "LTriplicateForms$Word;"), ("TriplicateForms$Word", "OPEN", "LTriplicateForms$Word;"), ("TriplicateForms$Word", "FILED", "LTriplicateForms$Word;"), ("TriplicateForms$Word", "GRANTED", "LTriplicateForms$Word;"), ("TriplicateForms$Word", "VOIDED", "LTriplicateForms$Word;")]
def kP0 : List KEnt := [(0, .aload_n 0, (0, 0, 0, 0, 0)), (1, .invokespecial 1, (999999, 0, 0, 0, 0)), (4, .aload_n 0, (0, 0, 0, 0, 0)), (5, .new 7, (8, 0, 0, 0, 0)), (8, .dup, (0, 0, 0, 0, 0)), (9, .invokespecial 9, (87, 0, 1, 940, 108)), (12, .putfield 10, (10, 0, 0, 0, 0)), (15, .aload_n 0, (0, 0, 0, 0, 0)), (16, .new 16, (4, 0, 0, 0, 0)), (19, .dup, (0, 0, 0, 0, 0)), (20, .invokespecial 18, (58, 0, 5, 40, 104)), (23, .putfield 19, (10, 1, 0, 0, 0)), (26, .aload_n 0, (0, 0, 0, 0, 0)), (27, .new 16, (4, 0, 0, 0, 0)), (30, .dup, (0, 0, 0, 0, 0)), (31, .invokespecial 18, (58, 0, 5, 40, 104)), (34, .putfield 23, (10, 2, 0, 0, 0)), (37, .aload_n 0, (0, 0, 0, 0, 0)), (38, .new 26, (7, 0, 0, 0, 0)), (41, .dup, (0, 0, 0, 0, 0)), (42, .aload_n 0, (0, 0, 0, 0, 0)), (43, .getfield 19, (10, 1, 0, 0, 0)), (46, .invokespecial 28, (75, 1, 6, 120, 7)), (49, .putfield 31, (10, 3, 0, 0, 0)), (52, .aload_n 0, (0, 0, 0, 0, 0)), (53, .new 26, (7, 0, 0, 0, 0)), (56, .dup, (0, 0, 0, 0, 0)), (57, .aload_n 0, (0, 0, 0, 0, 0)), (58, .getfield 19, (10, 1, 0, 0, 0)), (61, .invokespecial 28, (75, 1, 6, 120, 7)), (64, .putfield 35, (10, 4, 0, 0, 0)), (67, .aload_n 0, (0, 0, 0, 0, 0)), (68, .new 38, (9, 0, 0, 0, 0)), (71, .dup, (0, 0, 0, 0, 0)), (72, .aload_n 0, (0, 0, 0, 0, 0)), (73, .getfield 19, (10, 1, 0, 0, 0)), (76, .invokespecial 40, (94, 1, 57, 1048, 9)), (79, .putfield 41, (10, 5, 0, 0, 0)), (82, .aload_n 0, (0, 0, 0, 0, 0)), (83, .iconst 2, (0, 0, 0, 0, 0)), (84, .anewarray 45, (6, 0, 0, 0, 0)), (87, .putfield 47, (10, 6, 0, 0, 0)), (90, .aload_n 0, (0, 0, 0, 0, 0)), (91, .new 51, (3, 0, 0, 0, 0)), (94, .dup, (0, 0, 0, 0, 0)), (95, .invokespecial 53, (53, 0, 3, 96, 3)), (98, .putfield 54, (10, 7, 0, 0, 0)), (101, .aload_n 0, (0, 0, 0, 0, 0)), (102, .new 58, (0, 0, 0, 0, 0)), (105, .dup, (0, 0, 0, 0, 0)), (106, .invokespecial 60, (42, 0, 1, 8, 100)), (109, .putfield 61, (10, 8, 0, 0, 0)), (112, .aload_n 0, (0, 0, 0, 0, 0)), (113, .new 65, (6, 0, 0, 0, 0)), (116, .dup, (0, 0, 0, 0, 0)), (117, .invokespecial 67, (73, 0, 1, 40, 106)), (120, .putfield 68, (10, 9, 0, 0, 0)), (123, .aload_n 0, (0, 0, 0, 0, 0)), (124, .new 72, (1, 0, 0, 0, 0)), (127, .dup, (0, 0, 0, 0, 0)), (128, .invokespecial 74, (47, 0, 3, 120, 101)), (131, .putfield 75, (10, 10, 0, 0, 0)), (134, .aload_n 0, (0, 0, 0, 0, 0)), (135, .new 79, (5, 0, 0, 0, 0)), (138, .dup, (0, 0, 0, 0, 0)), (139, .invokespecial 81, (64, 0, 4, 140, 105)), (142, .putfield 82, (10, 11, 0, 0, 0)), (145, .aload_n 0, (0, 0, 0, 0, 0)), (146, .new 79, (5, 0, 0, 0, 0)), (149, .dup, (0, 0, 0, 0, 0)), (150, .invokespecial 81, (64, 0, 4, 140, 105)), (153, .putfield 86, (10, 12, 0, 0, 0)), (156, .aload_n 0, (0, 0, 0, 0, 0)), (157, .iconst 0, (0, 0, 0, 0, 0)), (158, .putfield 89, (10, 13, 0, 0, 0)), (161, .iconst 0, (0, 0, 0, 0, 0)), (162, .istore_n 1, (0, 0, 0, 0, 0)), (163, .iload_n 1, (0, 0, 0, 0, 0)), (164, .aload_n 0, (0, 0, 0, 0, 0)), (165, .getfield 47, (10, 6, 0, 0, 0)), (168, .arraylength, (0, 0, 0, 0, 0)), (169, .if_icmp .ge 26, (0, 0, 0, 0, 0)), (172, .aload_n 0, (0, 0, 0, 0, 0)), (173, .getfield 47, (10, 6, 0, 0, 0)), (176, .iload_n 1, (0, 0, 0, 0, 0)), (177, .new 45, (2, 0, 0, 0, 0)), (180, .dup, (0, 0, 0, 0, 0)), (181, .aload_n 0, (0, 0, 0, 0, 0)), (182, .getfield 19, (10, 1, 0, 0, 0)), (185, .invokespecial 93, (51, 1, 18, 325, 2)), (188, .aastore, (0, 0, 0, 0, 0)), (189, .iinc 1 1, (0, 0, 0, 0, 0)), (192, .goto (-29), (0, 0, 0, 0, 0)), (195, .return_, (0, 0, 0, 0, 0))]
def kP1 : List KEnt := [(0, .aload_n 0, (0, 0, 0, 0, 0)), (1, .getfield 61, (10, 8, 0, 0, 0)), (4, .getfield 219, (0, 1, 0, 0, 0)), (7, .ireturn, (0, 0, 0, 0, 0))]
def kP2 : List KEnt := [(0, .aload_n 0, (0, 0, 0, 0, 0)), (1, .getfield 31, (10, 3, 0, 0, 0)), (4, .iload_n 1, (0, 0, 0, 0, 0)), (5, .iload_n 2, (0, 0, 0, 0, 0)), (6, .iload_n 3, (0, 0, 0, 0, 0)), (7, .invokevirtual 307, (86, 3, 0, 0, 7)), (10, .istore 4, (0, 0, 0, 0, 0)), (12, .iload 4, (0, 0, 0, 0, 0)), (14, .ifCond .ne 24, (0, 0, 0, 0, 0)), (17, .aload_n 0, (0, 0, 0, 0, 0)), (18, .getfield 41, (10, 5, 0, 0, 0)), (21, .aload_n 0, (0, 0, 0, 0, 0)), (22, .getfield 31, (10, 3, 0, 0, 0)), (25, .invokevirtual 251, (96, 1, 0, 0, 9)), (28, .aload_n 0, (0, 0, 0, 0, 0)), (29, .getfield 31, (10, 3, 0, 0, 0)), (32, .iload_n 1, (0, 0, 0, 0, 0)), (33, .iload_n 2, (0, 0, 0, 0, 0)), (34, .iload_n 3, (0, 0, 0, 0, 0)), (35, .invokevirtual 310, (84, 3, 0, 0, 7)), (38, .iload 4, (0, 0, 0, 0, 0)), (40, .ireturn, (0, 0, 0, 0, 0))]
def kP3 : List KEnt := [(0, .aload_n 0, (0, 0, 0, 0, 0)), (1, .getfield 19, (10, 1, 0, 0, 0)), (4, .iload_n 1, (0, 0, 0, 0, 0)), (5, .invokevirtual 149, (62, 1, 0, 0, 4)), (8, .ifCond .eq 13, (0, 0, 0, 0, 0)), (21, .iconst (-1), (0, 0, 0, 0, 0)), (22, .ireturn, (0, 0, 0, 0, 0))]
def kP4 : List KEnt := [(0, .iload_n 1, (0, 0, 0, 0, 0)), (1, .ifCond .eq 12, (0, 0, 0, 0, 0)), (4, .iload_n 1, (0, 0, 0, 0, 0)), (5, .iconst 1, (0, 0, 0, 0, 0)), (6, .if_icmp .eq 7, (0, 0, 0, 0, 0)), (9, .sipush (-1000), (0, 0, 0, 0, 0)), (12, .ireturn, (0, 0, 0, 0, 0)), (13, .aload_n 0, (0, 0, 0, 0, 0)), (14, .getfield 75, (10, 10, 0, 0, 0)), (17, .aload_n 0, (0, 0, 0, 0, 0)), (18, .getfield 10, (10, 0, 0, 0, 0)), (21, .aload_n 0, (0, 0, 0, 0, 0)), (22, .getfield 19, (10, 1, 0, 0, 0)), (25, .invokevirtual 257, (50, 2, 0, 0, 1)), (28, .aload_n 0, (0, 0, 0, 0, 0)), (29, .aload_n 0, (0, 0, 0, 0, 0)), (30, .getfield 10, (10, 0, 0, 0, 0)), (33, .getfield 105, (8, 9, 0, 0, 0)), (36, .putfield 89, (10, 13, 0, 0, 0)), (39, .aload_n 0, (0, 0, 0, 0, 0)), (40, .getfield 10, (10, 0, 0, 0, 0)), (43, .iconst 0, (0, 0, 0, 0, 0)), (44, .putfield 94, (8, 1, 0, 0, 0)), (47, .aload_n 0, (0, 0, 0, 0, 0)), (48, .getfield 89, (10, 13, 0, 0, 0)), (51, .ifCond .eq 14, (0, 0, 0, 0, 0)), (65, .aload_n 0, (0, 0, 0, 0, 0)), (66, .getfield 35, (10, 4, 0, 0, 0)), (69, .aload_n 0, (0, 0, 0, 0, 0)), (70, .getfield 31, (10, 3, 0, 0, 0)), (73, .invokevirtual 114, (79, 1, 0, 0, 7)), (76, .iload_n 1, (0, 0, 0, 0, 0)), (77, .ifCond .ne 15, (0, 0, 0, 0, 0)), (80, .aload_n 0, (0, 0, 0, 0, 0)), (81, .getfield 75, (10, 10, 0, 0, 0)), (84, .aload_n 0, (0, 0, 0, 0, 0)), (85, .getfield 35, (10, 4, 0, 0, 0)), (88, .invokevirtual 260, (48, 1, 0, 0, 1)), (91, .ireturn, (0, 0, 0, 0, 0)), (92, .aload_n 0, (0, 0, 0, 0, 0)), (93, .getfield 75, (10, 10, 0, 0, 0)), (96, .aload_n 0, (0, 0, 0, 0, 0)), (97, .getfield 31, (10, 3, 0, 0, 0)), (100, .invokevirtual 260, (48, 1, 0, 0, 1)), (103, .istore_n 2, (0, 0, 0, 0, 0)), (104, .aload_n 0, (0, 0, 0, 0, 0)), (105, .getfield 75, (10, 10, 0, 0, 0)), (108, .getfield 263, (1, 6, 0, 0, 0)), (111, .ifCond .le 14, (0, 0, 0, 0, 0)), (125, .iload_n 2, (0, 0, 0, 0, 0)), (126, .ireturn, (0, 0, 0, 0, 0))]
def kP5 : List KEnt := [(0, .aload_n 0, (0, 0, 0, 0, 0)), (1, .getfield 68, (10, 9, 0, 0, 0)), (4, .iload_n 1, (0, 0, 0, 0, 0)), (5, .invokevirtual 248, (74, 1, 0, 0, 6)), (8, .ireturn, (0, 0, 0, 0, 0))]
def kP6 : List KEnt := [(0, .aload_n 0, (0, 0, 0, 0, 0)), (1, .getfield 19, (10, 1, 0, 0, 0)), (4, .iload_n 1, (0, 0, 0, 0, 0)), (5, .invokevirtual 121, (61, 1, 0, 0, 4)), (8, .ifCond .eq 14, (0, 0, 0, 0, 0)), (22, .iconst (-1), (0, 0, 0, 0, 0)), (23, .ireturn, (0, 0, 0, 0, 0))]
def kP7 : List KEnt := [(0, .aload_n 0, (0, 0, 0, 0, 0)), (1, .getfield 19, (10, 1, 0, 0, 0)), (4, .iload_n 1, (0, 0, 0, 0, 0)), (5, .invokevirtual 121, (61, 1, 0, 0, 4)), (8, .ifCond .eq 13, (0, 0, 0, 0, 0)), (21, .iconst (-1), (0, 0, 0, 0, 0)), (22, .ireturn, (0, 0, 0, 0, 0))]
def kP8 : List KEnt := [(0, .iload_n 1, (0, 0, 0, 0, 0)), (1, .tableswitch 71 0 3 #[31, 39, 47, 63], (0, 0, 0, 0, 0)), (32, .aload_n 0, (0, 0, 0, 0, 0)), (33, .getfield 19, (10, 1, 0, 0, 0)), (36, .getfield 237, (4, 6, 0, 0, 0)), (39, .ireturn, (0, 0, 0, 0, 0)), (40, .aload_n 0, (0, 0, 0, 0, 0)), (41, .getfield 19, (10, 1, 0, 0, 0)), (44, .getfield 231, (4, 7, 0, 0, 0)), (47, .ireturn, (0, 0, 0, 0, 0)), (48, .aload_n 0, (0, 0, 0, 0, 0)), (49, .getfield 19, (10, 1, 0, 0, 0)), (52, .getfield 304, (4, 8, 0, 0, 0)), (55, .ifCond .eq 7, (0, 0, 0, 0, 0)), (62, .iconst 0, (0, 0, 0, 0, 0)), (63, .ireturn, (0, 0, 0, 0, 0)), (64, .aload_n 0, (0, 0, 0, 0, 0)), (65, .getfield 10, (10, 0, 0, 0, 0)), (68, .getfield 94, (8, 1, 0, 0, 0)), (71, .ireturn, (0, 0, 0, 0, 0)), (72, .iconst (-1), (0, 0, 0, 0, 0)), (73, .ireturn, (0, 0, 0, 0, 0))]
def kP9 : List KEnt := [(0, .aload_n 0, (0, 0, 0, 0, 0)), (1, .getfield 61, (10, 8, 0, 0, 0)), (4, .aload_n 0, (0, 0, 0, 0, 0)), (5, .getfield 31, (10, 3, 0, 0, 0)), (8, .invokevirtual 222, (44, 1, 0, 0, 0)), (11, .ireturn, (0, 0, 0, 0, 0))]
def kP10 : List KEnt := [(0, .aload_n 0, (0, 0, 0, 0, 0)), (1, .getfield 61, (10, 8, 0, 0, 0)), (4, .getfield 225, (0, 2, 0, 0, 0)), (7, .ireturn, (0, 0, 0, 0, 0))]
def kP11 : List KEnt := [(0, .iload_n 1, (0, 0, 0, 0, 0)), (1, .iconst 1, (0, 0, 0, 0, 0)), (2, .if_icmp .lt 9, (0, 0, 0, 0, 0)), (5, .iload_n 1, (0, 0, 0, 0, 0)), (6, .bipush 60, (0, 0, 0, 0, 0)), (8, .if_icmp .le 5, (0, 0, 0, 0, 0)), (11, .iconst (-1), (0, 0, 0, 0, 0)), (12, .ireturn, (0, 0, 0, 0, 0)), (13, .iload_n 1, (0, 0, 0, 0, 0)), (14, .sipush 400, (0, 0, 0, 0, 0)), (17, .aload_n 0, (0, 0, 0, 0, 0)), (18, .getfield 31, (10, 3, 0, 0, 0)), (21, .getfield 172, (7, 8, 0, 0, 0)), (24, .isub, (0, 0, 0, 0, 0)), (25, .invokestatic 192, (999998, 0, 0, 0, 0)), (28, .istore_n 2, (0, 0, 0, 0, 0)), (29, .iload_n 2, (0, 0, 0, 0, 0)), (30, .ifCond .le 12, (0, 0, 0, 0, 0)), (33, .aload_n 0, (0, 0, 0, 0, 0)), (34, .bipush 7, (0, 0, 0, 0, 0)), (36, .iload_n 2, (0, 0, 0, 0, 0)), (37, .iconst 0, (0, 0, 0, 0, 0)), (38, .invokevirtual 188, (2, 3, 0, 0, 10)), (41, .pop, (0, 0, 0, 0, 0)), (42, .iload_n 2, (0, 0, 0, 0, 0)), (43, .ireturn, (0, 0, 0, 0, 0))]
def kP12 : List KEnt := [(0, .iload_n 1, (0, 0, 0, 0, 0)), (1, .iconst 1, (0, 0, 0, 0, 0)), (2, .if_icmp .lt 19, (0, 0, 0, 0, 0)), (5, .iload_n 1, (0, 0, 0, 0, 0)), (6, .bipush 60, (0, 0, 0, 0, 0)), (8, .if_icmp .gt 13, (0, 0, 0, 0, 0)), (11, .aload_n 0, (0, 0, 0, 0, 0)), (12, .getfield 19, (10, 1, 0, 0, 0)), (15, .getfield 237, (4, 6, 0, 0, 0)), (18, .ifCond .ne 5, (0, 0, 0, 0, 0)), (21, .iconst (-1), (0, 0, 0, 0, 0)), (22, .ireturn, (0, 0, 0, 0, 0))]
def kP13 : List KEnt := [(0, .aload_n 0, (0, 0, 0, 0, 0)), (1, .getfield 19, (10, 1, 0, 0, 0)), (4, .iload_n 1, (0, 0, 0, 0, 0)), (5, .invokevirtual 121, (61, 1, 0, 0, 4)), (8, .ifCond .eq 26, (0, 0, 0, 0, 0)), (34, .iconst (-1), (0, 0, 0, 0, 0)), (35, .ireturn, (0, 0, 0, 0, 0))]
def kP14 : List KEnt := [(0, .iload_n 1, (0, 0, 0, 0, 0)), (1, .ifCond .lt 14, (0, 0, 0, 0, 0)), (4, .iload_n 1, (0, 0, 0, 0, 0)), (5, .aload_n 0, (0, 0, 0, 0, 0)), (6, .getfield 10, (10, 0, 0, 0, 0)), (9, .getfield 94, (8, 1, 0, 0, 0)), (12, .if_icmp .le 5, (0, 0, 0, 0, 0)), (15, .iconst 0, (0, 0, 0, 0, 0)), (16, .ireturn, (0, 0, 0, 0, 0)), (17, .aload_n 0, (0, 0, 0, 0, 0)), (18, .getfield 10, (10, 0, 0, 0, 0)), (21, .iload_n 1, (0, 0, 0, 0, 0)), (22, .putfield 94, (8, 1, 0, 0, 0)), (25, .iconst 1, (0, 0, 0, 0, 0)), (26, .ireturn, (0, 0, 0, 0, 0))]
def kP15 : List KEnt := [(0, .aload_n 0, (0, 0, 0, 0, 0)), (1, .getfield 89, (10, 13, 0, 0, 0)), (4, .ireturn, (0, 0, 0, 0, 0))]
def kP16 : List KEnt := [(0, .aload_n 0, (0, 0, 0, 0, 0)), (1, .getfield 10, (10, 0, 0, 0, 0)), (4, .getfield 94, (8, 1, 0, 0, 0)), (7, .bipush 20, (0, 0, 0, 0, 0)), (9, .iadd, (0, 0, 0, 0, 0)), (10, .sipush 940, (0, 0, 0, 0, 0)), (13, .if_icmp .le 5, (0, 0, 0, 0, 0)), (18, .aload_n 0, (0, 0, 0, 0, 0)), (19, .getfield 10, (10, 0, 0, 0, 0)), (22, .iload_n 1, (0, 0, 0, 0, 0)), (23, .invokevirtual 97, (88, 1, 0, 0, 8)), (26, .aload_n 0, (0, 0, 0, 0, 0)), (27, .getfield 10, (10, 0, 0, 0, 0)), (30, .iload_n 2, (0, 0, 0, 0, 0)), (31, .invokevirtual 97, (88, 1, 0, 0, 8)), (34, .aload_n 0, (0, 0, 0, 0, 0)), (35, .getfield 10, (10, 0, 0, 0, 0)), (38, .iload_n 3, (0, 0, 0, 0, 0)), (39, .invokevirtual 97, (88, 1, 0, 0, 8)), (42, .aload_n 0, (0, 0, 0, 0, 0)), (43, .getfield 10, (10, 0, 0, 0, 0)), (46, .iload 4, (0, 0, 0, 0, 0)), (48, .invokevirtual 97, (88, 1, 0, 0, 8)), (51, .aload_n 0, (0, 0, 0, 0, 0)), (52, .getfield 10, (10, 0, 0, 0, 0)), (55, .iload 5, (0, 0, 0, 0, 0)), (57, .invokevirtual 97, (88, 1, 0, 0, 8)), (60, .aload_n 0, (0, 0, 0, 0, 0)), (61, .getfield 10, (10, 0, 0, 0, 0)), (64, .getfield 94, (8, 1, 0, 0, 0)), (67, .ireturn, (0, 0, 0, 0, 0))]
def kP17 : List KEnt := [(0, .aload_n 0, (0, 0, 0, 0, 0)), (1, .getfield 61, (10, 8, 0, 0, 0)), (4, .aload_n 0, (0, 0, 0, 0, 0)), (5, .getfield 10, (10, 0, 0, 0, 0)), (8, .aload_n 0, (0, 0, 0, 0, 0)), (9, .getfield 31, (10, 3, 0, 0, 0)), (12, .invokevirtual 216, (45, 2, 0, 0, 0)), (15, .istore_n 1, (0, 0, 0, 0, 0)), (16, .aload_n 0, (0, 0, 0, 0, 0)), (17, .getfield 10, (10, 0, 0, 0, 0)), (20, .iconst 0, (0, 0, 0, 0, 0)), (21, .putfield 94, (8, 1, 0, 0, 0)), (24, .iload_n 1, (0, 0, 0, 0, 0)), (25, .ireturn, (0, 0, 0, 0, 0))]
def kP18 : List KEnt := [(0, .aload_n 0, (0, 0, 0, 0, 0)), (1, .getfield 19, (10, 1, 0, 0, 0)), (4, .iload_n 1, (0, 0, 0, 0, 0)), (5, .invokevirtual 121, (61, 1, 0, 0, 4)), (8, .ifCond .eq 13, (0, 0, 0, 0, 0)), (24, .dup, (0, 0, 0, 0, 0))]
def kP19 : List KEnt := [(0, .aload_n 0, (0, 0, 0, 0, 0)), (1, .getfield 19, (10, 1, 0, 0, 0)), (4, .iload_n 1, (0, 0, 0, 0, 0)), (5, .invokevirtual 149, (62, 1, 0, 0, 4)), (8, .ifCond .eq 31, (0, 0, 0, 0, 0)), (39, .iconst (-1), (0, 0, 0, 0, 0)), (40, .ireturn, (0, 0, 0, 0, 0))]
def kP20 : List KEnt := [(0, .iload_n 1, (0, 0, 0, 0, 0)), (1, .ifCond .lt 12, (0, 0, 0, 0, 0)), (4, .iload_n 1, (0, 0, 0, 0, 0)), (5, .aload_n 0, (0, 0, 0, 0, 0)), (6, .getfield 47, (10, 6, 0, 0, 0)), (9, .arraylength, (0, 0, 0, 0, 0)), (10, .if_icmp .lt 5, (0, 0, 0, 0, 0)), (13, .iconst 0, (0, 0, 0, 0, 0)), (14, .ireturn, (0, 0, 0, 0, 0)), (15, .aload_n 0, (0, 0, 0, 0, 0)), (16, .getfield 47, (10, 6, 0, 0, 0)), (19, .iload_n 1, (0, 0, 0, 0, 0)), (20, .aaload, (0, 0, 0, 0, 0)), (21, .aload_n 0, (0, 0, 0, 0, 0)), (22, .getfield 19, (10, 1, 0, 0, 0)), (25, .aload_n 0, (0, 0, 0, 0, 0)), (26, .getfield 31, (10, 3, 0, 0, 0)), (29, .aload_n 0, (0, 0, 0, 0, 0)), (30, .getfield 82, (10, 11, 0, 0, 0)), (33, .invokevirtual 285, (52, 3, 0, 0, 2)), (36, .iconst 1, (0, 0, 0, 0, 0)), (37, .ireturn, (0, 0, 0, 0, 0))]
def kP21 : List KEnt := [(0, .aload_n 0, (0, 0, 0, 0, 0)), (1, .getfield 19, (10, 1, 0, 0, 0)), (4, .iload_n 1, (0, 0, 0, 0, 0)), (5, .invokevirtual 121, (61, 1, 0, 0, 4)), (8, .ifCond .eq 14, (0, 0, 0, 0, 0)), (22, .iconst (-1), (0, 0, 0, 0, 0)), (23, .ireturn, (0, 0, 0, 0, 0))]
def kP22 : List KEnt := [(0, .iconst (-1), (0, 0, 0, 0, 0)), (1, .istore_n 1, (0, 0, 0, 0, 0)), (2, .iconst 0, (0, 0, 0, 0, 0)), (3, .istore_n 2, (0, 0, 0, 0, 0)), (4, .iconst 0, (0, 0, 0, 0, 0)), (5, .istore_n 3, (0, 0, 0, 0, 0)), (6, .iload_n 3, (0, 0, 0, 0, 0)), (7, .aload_n 0, (0, 0, 0, 0, 0)), (8, .getfield 19, (10, 1, 0, 0, 0)), (11, .getfield 237, (4, 6, 0, 0, 0)), (14, .if_icmp .ge 30, (0, 0, 0, 0, 0)), (44, .iload_n 1, (0, 0, 0, 0, 0)), (45, .ireturn, (0, 0, 0, 0, 0))]
def kP23 : List KEnt := [(0, .aload_n 0, (0, 0, 0, 0, 0)), (1, .getfield 54, (10, 7, 0, 0, 0)), (4, .aload_n 0, (0, 0, 0, 0, 0)), (5, .getfield 31, (10, 3, 0, 0, 0)), (8, .invokevirtual 210, (54, 1, 0, 0, 3)), (11, .ireturn, (0, 0, 0, 0, 0))]
def kP24 : List KEnt := [(0, .aload_n 0, (0, 0, 0, 0, 0)), (1, .getfield 54, (10, 7, 0, 0, 0)), (4, .iload_n 1, (0, 0, 0, 0, 0)), (5, .invokevirtual 213, (55, 1, 0, 0, 3)), (8, .ireturn, (0, 0, 0, 0, 0))]
def kP25 : List KEnt := [(0, .iload_n 1, (0, 0, 0, 0, 0)), (1, .tableswitch 115 0 7 #[47, 55, 64, 73, 82, 91, 99, 107], (0, 0, 0, 0, 0)), (48, .aload_n 0, (0, 0, 0, 0, 0)), (49, .getfield 31, (10, 3, 0, 0, 0)), (52, .getfield 172, (7, 8, 0, 0, 0)), (55, .ireturn, (0, 0, 0, 0, 0)), (56, .aload_n 0, (0, 0, 0, 0, 0)), (57, .getfield 31, (10, 3, 0, 0, 0)), (60, .iconst 0, (0, 0, 0, 0, 0)), (61, .invokevirtual 175, (80, 1, 0, 0, 7)), (64, .ireturn, (0, 0, 0, 0, 0)), (65, .aload_n 0, (0, 0, 0, 0, 0)), (66, .getfield 31, (10, 3, 0, 0, 0)), (69, .iconst 1, (0, 0, 0, 0, 0)), (70, .invokevirtual 175, (80, 1, 0, 0, 7)), (73, .ireturn, (0, 0, 0, 0, 0)), (74, .aload_n 0, (0, 0, 0, 0, 0)), (75, .getfield 31, (10, 3, 0, 0, 0)), (78, .iconst 2, (0, 0, 0, 0, 0)), (79, .invokevirtual 175, (80, 1, 0, 0, 7)), (82, .ireturn, (0, 0, 0, 0, 0)), (83, .aload_n 0, (0, 0, 0, 0, 0)), (84, .getfield 31, (10, 3, 0, 0, 0)), (87, .iconst 3, (0, 0, 0, 0, 0)), (88, .invokevirtual 175, (80, 1, 0, 0, 7)), (91, .ireturn, (0, 0, 0, 0, 0)), (92, .aload_n 0, (0, 0, 0, 0, 0)), (93, .getfield 31, (10, 3, 0, 0, 0)), (96, .invokevirtual 178, (78, 0, 0, 0, 7)), (99, .ireturn, (0, 0, 0, 0, 0)), (100, .aload_n 0, (0, 0, 0, 0, 0)), (101, .getfield 31, (10, 3, 0, 0, 0)), (104, .getfield 182, (7, 7, 0, 0, 0)), (107, .ireturn, (0, 0, 0, 0, 0)), (108, .aload_n 0, (0, 0, 0, 0, 0)), (109, .getfield 31, (10, 3, 0, 0, 0)), (112, .invokevirtual 185, (76, 0, 0, 0, 7)), (115, .ireturn, (0, 0, 0, 0, 0)), (116, .iconst (-1), (0, 0, 0, 0, 0)), (117, .ireturn, (0, 0, 0, 0, 0))]
def kP26 : List KEnt := [(0, .aload_n 0, (0, 0, 0, 0, 0)), (1, .getfield 19, (10, 1, 0, 0, 0)), (4, .iload_n 1, (0, 0, 0, 0, 0)), (5, .invokevirtual 121, (61, 1, 0, 0, 4)), (8, .ifCond .eq 14, (0, 0, 0, 0, 0)), (22, .iconst (-1), (0, 0, 0, 0, 0)), (23, .ireturn, (0, 0, 0, 0, 0))]
def kP27 : List KEnt := [(0, .aload_n 0, (0, 0, 0, 0, 0)), (1, .getfield 23, (10, 2, 0, 0, 0)), (4, .aload_n 0, (0, 0, 0, 0, 0)), (5, .getfield 10, (10, 0, 0, 0, 0)), (8, .aload_n 0, (0, 0, 0, 0, 0)), (9, .getfield 35, (10, 4, 0, 0, 0)), (12, .invokevirtual 101, (63, 2, 0, 0, 4)), (15, .istore_n 1, (0, 0, 0, 0, 0)), (16, .aload_n 0, (0, 0, 0, 0, 0)), (17, .aload_n 0, (0, 0, 0, 0, 0)), (18, .getfield 10, (10, 0, 0, 0, 0)), (21, .getfield 105, (8, 9, 0, 0, 0)), (24, .putfield 89, (10, 13, 0, 0, 0)), (27, .aload_n 0, (0, 0, 0, 0, 0)), (28, .getfield 10, (10, 0, 0, 0, 0)), (31, .iconst 0, (0, 0, 0, 0, 0)), (32, .putfield 94, (8, 1, 0, 0, 0)), (35, .aload_n 0, (0, 0, 0, 0, 0)), (36, .getfield 89, (10, 13, 0, 0, 0)), (39, .ifCond .eq 13, (0, 0, 0, 0, 0)), (52, .aload_n 0, (0, 0, 0, 0, 0)), (53, .getfield 19, (10, 1, 0, 0, 0)), (56, .aload_n 0, (0, 0, 0, 0, 0)), (57, .getfield 23, (10, 2, 0, 0, 0)), (60, .invokevirtual 111, (59, 1, 0, 0, 4)), (63, .aload_n 0, (0, 0, 0, 0, 0)), (64, .getfield 31, (10, 3, 0, 0, 0)), (67, .aload_n 0, (0, 0, 0, 0, 0)), (68, .getfield 35, (10, 4, 0, 0, 0)), (71, .invokevirtual 114, (79, 1, 0, 0, 7)), (74, .aload_n 0, (0, 0, 0, 0, 0)), (75, .getfield 82, (10, 11, 0, 0, 0)), (78, .invokevirtual 117, (67, 0, 0, 0, 5)), (81, .aload_n 0, (0, 0, 0, 0, 0)), (82, .getfield 41, (10, 5, 0, 0, 0)), (85, .invokevirtual 120, (95, 0, 0, 0, 9)), (88, .iload_n 1, (0, 0, 0, 0, 0)), (89, .ireturn, (0, 0, 0, 0, 0))]
def kP28 : List KEnt := [(0, .aload_n 0, (0, 0, 0, 0, 0)), (1, .getfield 31, (10, 3, 0, 0, 0)), (4, .iload_n 1, (0, 0, 0, 0, 0)), (5, .iload_n 2, (0, 0, 0, 0, 0)), (6, .invokevirtual 201, (83, 2, 0, 0, 7)), (9, .ireturn, (0, 0, 0, 0, 0))]
def kP29 : List KEnt := [(0, .aload_n 0, (0, 0, 0, 0, 0)), (1, .getfield 19, (10, 1, 0, 0, 0)), (4, .iload_n 1, (0, 0, 0, 0, 0)), (5, .invokevirtual 149, (62, 1, 0, 0, 4)), (8, .ifCond .eq 12, (0, 0, 0, 0, 0)), (23, .dup, (0, 0, 0, 0, 0))]
def kP30 : List KEnt := [(0, .aload_n 0, (0, 0, 0, 0, 0)), (1, .getfield 19, (10, 1, 0, 0, 0)), (4, .iload_n 1, (0, 0, 0, 0, 0)), (5, .invokevirtual 149, (62, 1, 0, 0, 4)), (8, .ifCond .eq 24, (0, 0, 0, 0, 0)), (32, .iconst (-1), (0, 0, 0, 0, 0)), (33, .ireturn, (0, 0, 0, 0, 0))]
def kP31 : List KEnt := [(0, .iload_n 1, (0, 0, 0, 0, 0)), (1, .ifCond .lt 24, (0, 0, 0, 0, 0)), (4, .iload_n 1, (0, 0, 0, 0, 0)), (5, .aload_n 0, (0, 0, 0, 0, 0)), (6, .getfield 47, (10, 6, 0, 0, 0)), (9, .arraylength, (0, 0, 0, 0, 0)), (10, .if_icmp .ge 15, (0, 0, 0, 0, 0)), (13, .aload_n 0, (0, 0, 0, 0, 0)), (14, .getfield 47, (10, 6, 0, 0, 0)), (17, .iload_n 1, (0, 0, 0, 0, 0)), (18, .aaload, (0, 0, 0, 0, 0)), (19, .getfield 288, (2, 3, 0, 0, 0)), (22, .ifCond .ne 5, (0, 0, 0, 0, 0)), (25, .iconst 0, (0, 0, 0, 0, 0)), (26, .ireturn, (0, 0, 0, 0, 0))]
def kP32 : List KEnt := [(0, .aload_n 0, (0, 0, 0, 0, 0)), (1, .getfield 19, (10, 1, 0, 0, 0)), (4, .iload_n 1, (0, 0, 0, 0, 0)), (5, .invokevirtual 149, (62, 1, 0, 0, 4)), (8, .ifCond .eq 13, (0, 0, 0, 0, 0)), (21, .iconst (-1), (0, 0, 0, 0, 0)), (22, .ireturn, (0, 0, 0, 0, 0))]
def kP33 : List KEnt := [(0, .aload_n 0, (0, 0, 0, 0, 0)), (1, .getfield 82, (10, 11, 0, 0, 0)), (4, .invokevirtual 273, (69, 0, 0, 0, 5)), (7, .ifCond .eq 5, (0, 0, 0, 0, 0)), (10, .iconst (-1), (0, 0, 0, 0, 0)), (11, .ireturn, (0, 0, 0, 0, 0))]
def kP34 : List KEnt := [(0, .aload_n 0, (0, 0, 0, 0, 0)), (1, .getfield 86, (10, 12, 0, 0, 0)), (4, .aload_n 0, (0, 0, 0, 0, 0)), (5, .getfield 10, (10, 0, 0, 0, 0)), (8, .aload_n 0, (0, 0, 0, 0, 0)), (9, .getfield 19, (10, 1, 0, 0, 0)), (12, .invokevirtual 269, (72, 2, 0, 0, 5)), (15, .aload_n 0, (0, 0, 0, 0, 0)), (16, .aload_n 0, (0, 0, 0, 0, 0)), (17, .getfield 10, (10, 0, 0, 0, 0)), (20, .getfield 105, (8, 9, 0, 0, 0)), (23, .putfield 89, (10, 13, 0, 0, 0)), (26, .aload_n 0, (0, 0, 0, 0, 0)), (27, .getfield 10, (10, 0, 0, 0, 0)), (30, .iconst 0, (0, 0, 0, 0, 0)), (31, .putfield 94, (8, 1, 0, 0, 0)), (34, .aload_n 0, (0, 0, 0, 0, 0)), (35, .getfield 89, (10, 13, 0, 0, 0)), (38, .ifCond .eq 13, (0, 0, 0, 0, 0)), (41, .iconst (-1), (0, 0, 0, 0, 0)), (42, .aload_n 0, (0, 0, 0, 0, 0)), (43, .getfield 10, (10, 0, 0, 0, 0)), (46, .getfield 108, (8, 10, 0, 0, 0)), (49, .isub, (0, 0, 0, 0, 0)), (50, .ireturn, (0, 0, 0, 0, 0))]
def kP35 : List KEnt := [(0, .iload_n 1, (0, 0, 0, 0, 0)), (1, .ifCond .eq 10, (0, 0, 0, 0, 0)), (4, .iload_n 1, (0, 0, 0, 0, 0)), (5, .iconst 1, (0, 0, 0, 0, 0)), (6, .if_icmp .eq 5, (0, 0, 0, 0, 0)), (9, .iconst (-1), (0, 0, 0, 0, 0)), (10, .ireturn, (0, 0, 0, 0, 0)), (11, .iconst 0, (0, 0, 0, 0, 0)), (12, .istore_n 2, (0, 0, 0, 0, 0)), (13, .iconst 0, (0, 0, 0, 0, 0)), (14, .istore_n 3, (0, 0, 0, 0, 0)), (15, .iload_n 3, (0, 0, 0, 0, 0)), (16, .aload_n 0, (0, 0, 0, 0, 0)), (17, .getfield 19, (10, 1, 0, 0, 0)), (20, .getfield 231, (4, 7, 0, 0, 0)), (23, .if_icmp .ge 55, (0, 0, 0, 0, 0)), (78, .iload_n 2, (0, 0, 0, 0, 0)), (79, .ireturn, (0, 0, 0, 0, 0))]
def kP36 : List KEnt := [(0, .aload_n 0, (0, 0, 0, 0, 0)), (1, .getfield 19, (10, 1, 0, 0, 0)), (4, .iload_n 1, (0, 0, 0, 0, 0)), (5, .invokevirtual 149, (62, 1, 0, 0, 4)), (8, .ifCond .eq 24, (0, 0, 0, 0, 0)), (32, .iconst (-1), (0, 0, 0, 0, 0)), (33, .ireturn, (0, 0, 0, 0, 0))]
def kP37 : List KEnt := [(0, .aload_n 0, (0, 0, 0, 0, 0)), (1, .getfield 19, (10, 1, 0, 0, 0)), (4, .iload_n 1, (0, 0, 0, 0, 0)), (5, .invokevirtual 149, (62, 1, 0, 0, 4)), (8, .ifCond .eq 24, (0, 0, 0, 0, 0)), (32, .iconst (-1), (0, 0, 0, 0, 0)), (33, .ireturn, (0, 0, 0, 0, 0))]
def kP38 : List KEnt := [(0, .aload_n 0, (0, 0, 0, 0, 0)), (1, .getfield 19, (10, 1, 0, 0, 0)), (4, .iload_n 1, (0, 0, 0, 0, 0)), (5, .invokevirtual 121, (61, 1, 0, 0, 4)), (8, .ifCond .ne 5, (0, 0, 0, 0, 0)), (11, .iconst (-1), (0, 0, 0, 0, 0)), (12, .ireturn, (0, 0, 0, 0, 0))]
def kP39 : List KEnt := [(0, .aload_n 0, (0, 0, 0, 0, 0)), (1, .getfield 75, (10, 10, 0, 0, 0)), (4, .iload_n 1, (0, 0, 0, 0, 0)), (5, .invokevirtual 266, (49, 1, 0, 0, 1)), (8, .ireturn, (0, 0, 0, 0, 0))]
def kP40 : List KEnt := [(0, .aload_n 0, (0, 0, 0, 0, 0)), (1, .getfield 41, (10, 5, 0, 0, 0)), (4, .aload_n 0, (0, 0, 0, 0, 0)), (5, .getfield 31, (10, 3, 0, 0, 0)), (8, .invokevirtual 197, (97, 1, 0, 0, 9)), (11, .ireturn, (0, 0, 0, 0, 0))]
def kP41 : List KEnt := [(0, .aload_n 0, (0, 0, 0, 0, 0)), (1, .getfield 19, (10, 1, 0, 0, 0)), (4, .iload_n 1, (0, 0, 0, 0, 0)), (5, .invokevirtual 121, (61, 1, 0, 0, 4)), (8, .ifCond .eq 14, (0, 0, 0, 0, 0)), (22, .iconst (-1), (0, 0, 0, 0, 0)), (23, .ireturn, (0, 0, 0, 0, 0))]
def kP42 : List KEnt := [(0, .aload_n 0, (0, 0, 0, 0, 0)), (1, .invokespecial 3, (999999, 0, 0, 0, 0)), (4, .aload_n 0, (0, 0, 0, 0, 0)), (5, .bipush 8, (0, 0, 0, 0, 0)), (7, .newarray .int, (0, 0, 0, 0, 0)), (9, .putfield 9, (0, 0, 0, 0, 0)), (12, .aload_n 0, (0, 0, 0, 0, 0)), (13, .iconst (-1), (0, 0, 0, 0, 0)), (14, .putfield 15, (0, 1, 0, 0, 0)), (17, .aload_n 0, (0, 0, 0, 0, 0)), (18, .iconst (-1), (0, 0, 0, 0, 0)), (19, .putfield 19, (0, 2, 0, 0, 0)), (22, .return_, (0, 0, 0, 0, 0))]
def kP43 : List KEnt := [(0, .iconst 0, (0, 0, 0, 0, 0)), (1, .istore_n 3, (0, 0, 0, 0, 0)), (2, .iload_n 3, (0, 0, 0, 0, 0)), (3, .bipush 8, (0, 0, 0, 0, 0)), (5, .if_icmp .ge 30, (0, 0, 0, 0, 0)), (8, .iload_n 2, (0, 0, 0, 0, 0)), (9, .iconst 1, (0, 0, 0, 0, 0)), (10, .iload_n 3, (0, 0, 0, 0, 0)), (11, .ishl, (0, 0, 0, 0, 0)), (12, .iand, (0, 0, 0, 0, 0)), (13, .ifCond .eq 16, (0, 0, 0, 0, 0)), (29, .iinc 3 1, (0, 0, 0, 0, 0)), (32, .goto (-30), (0, 0, 0, 0, 0)), (35, .iconst 1, (0, 0, 0, 0, 0)), (36, .ireturn, (0, 0, 0, 0, 0))]
def kP44 : List KEnt := [(0, .aload_n 0, (0, 0, 0, 0, 0)), (1, .aload_n 1, (0, 0, 0, 0, 0)), (2, .invokevirtual 66, (46, 1, 0, 0, 0)), (5, .istore_n 2, (0, 0, 0, 0, 0)), (6, .iconst (-1), (0, 0, 0, 0, 0)), (7, .istore_n 3, (0, 0, 0, 0, 0)), (8, .iconst (-1), (0, 0, 0, 0, 0)), (9, .istore 4, (0, 0, 0, 0, 0)), (11, .iconst 0, (0, 0, 0, 0, 0)), (12, .istore 5, (0, 0, 0, 0, 0)), (14, .iload 5, (0, 0, 0, 0, 0)), (16, .iconst 1, (0, 0, 0, 0, 0)), (17, .aload_n 1, (0, 0, 0, 0, 0)), (18, .getfield 31, (7, 0, 0, 0, 0)), (21, .getfield 58, (4, 6, 0, 0, 0)), (24, .ishl, (0, 0, 0, 0, 0)), (25, .if_icmp .ge 46, (0, 0, 0, 0, 0)), (28, .iload 5, (0, 0, 0, 0, 0)), (30, .invokestatic 70, (168, 1, 0, 0, 0)), (33, .istore 6, (0, 0, 0, 0, 0)), (35, .iload 4, (0, 0, 0, 0, 0)), (37, .iconst (-1), (0, 0, 0, 0, 0)), (38, .if_icmp .eq 10, (0, 0, 0, 0, 0)), (48, .aload_n 0, (0, 0, 0, 0, 0)), (49, .iload 5, (0, 0, 0, 0, 0)), (51, .iload_n 2, (0, 0, 0, 0, 0)), (52, .invokevirtual 75, (43, 2, 0, 0, 0)), (55, .ifCond .eq 10, (0, 0, 0, 0, 0)), (58, .iload 6, (0, 0, 0, 0, 0)), (60, .istore 4, (0, 0, 0, 0, 0)), (62, .iload 5, (0, 0, 0, 0, 0)), (64, .istore_n 3, (0, 0, 0, 0, 0)), (65, .iinc 5 1, (0, 0, 0, 0, 0)), (68, .goto (-54), (0, 0, 0, 0, 0)), (71, .iload 4, (0, 0, 0, 0, 0)), (73, .iconst (-1), (0, 0, 0, 0, 0)), (74, .if_icmp .eq 8, (0, 0, 0, 0, 0)), (77, .aload_n 0, (0, 0, 0, 0, 0)), (78, .iload_n 3, (0, 0, 0, 0, 0)), (79, .putfield 19, (0, 2, 0, 0, 0)), (82, .iload 4, (0, 0, 0, 0, 0)), (84, .ireturn, (0, 0, 0, 0, 0))]
def kP45 : List KEnt := [(0, .aload_n 1, (0, 0, 0, 0, 0)), (1, .getfield 22, (8, 1, 0, 0, 0)), (4, .iconst 1, (0, 0, 0, 0, 0)), (5, .if_icmp .lt 11, (0, 0, 0, 0, 0)), (16, .iconst (-1), (0, 0, 0, 0, 0)), (17, .ireturn, (0, 0, 0, 0, 0))]
def kP46 : List KEnt := [(0, .iconst 0, (0, 0, 0, 0, 0)), (1, .istore_n 2, (0, 0, 0, 0, 0)), (2, .iconst 0, (0, 0, 0, 0, 0)), (3, .istore_n 3, (0, 0, 0, 0, 0)), (4, .iload_n 3, (0, 0, 0, 0, 0)), (5, .aload_n 1, (0, 0, 0, 0, 0)), (6, .getfield 31, (7, 0, 0, 0, 0)), (9, .getfield 43, (4, 7, 0, 0, 0)), (12, .if_icmp .ge 41, (0, 0, 0, 0, 0)), (53, .iload_n 2, (0, 0, 0, 0, 0)), (54, .ireturn, (0, 0, 0, 0, 0))]
def kP47 : List KEnt := [(0, .aload_n 0, (0, 0, 0, 0, 0)), (1, .invokespecial 3, (999999, 0, 0, 0, 0)), (4, .aload_n 0, (0, 0, 0, 0, 0)), (5, .bipush 40, (0, 0, 0, 0, 0)), (7, .newarray .int, (0, 0, 0, 0, 0)), (9, .putfield 9, (1, 0, 0, 0, 0)), (12, .aload_n 0, (0, 0, 0, 0, 0)), (13, .bipush 40, (0, 0, 0, 0, 0)), (15, .newarray .int, (0, 0, 0, 0, 0)), (17, .putfield 15, (1, 1, 0, 0, 0)), (20, .aload_n 0, (0, 0, 0, 0, 0)), (21, .bipush 40, (0, 0, 0, 0, 0)), (23, .newarray .int, (0, 0, 0, 0, 0)), (25, .putfield 18, (1, 2, 0, 0, 0)), (28, .aload_n 0, (0, 0, 0, 0, 0)), (29, .iconst 0, (0, 0, 0, 0, 0)), (30, .putfield 21, (1, 3, 0, 0, 0)), (33, .aload_n 0, (0, 0, 0, 0, 0)), (34, .iconst 0, (0, 0, 0, 0, 0)), (35, .putfield 25, (1, 4, 0, 0, 0)), (38, .aload_n 0, (0, 0, 0, 0, 0)), (39, .iconst 0, (0, 0, 0, 0, 0)), (40, .putfield 29, (1, 5, 0, 0, 0)), (43, .aload_n 0, (0, 0, 0, 0, 0)), (44, .iconst 0, (0, 0, 0, 0, 0)), (45, .putfield 32, (1, 6, 0, 0, 0)), (48, .aload_n 0, (0, 0, 0, 0, 0)), (49, .iconst 0, (0, 0, 0, 0, 0)), (50, .putfield 35, (1, 7, 0, 0, 0)), (53, .aload_n 0, (0, 0, 0, 0, 0)), (54, .iconst 0, (0, 0, 0, 0, 0)), (55, .putfield 38, (1, 8, 0, 0, 0)), (58, .return_, (0, 0, 0, 0, 0))]
def kP48 : List KEnt := [(0, .aload_n 0, (0, 0, 0, 0, 0)), (1, .iconst 1, (0, 0, 0, 0, 0)), (2, .putfield 25, (1, 4, 0, 0, 0)), (5, .aload_n 0, (0, 0, 0, 0, 0)), (6, .iconst 0, (0, 0, 0, 0, 0)), (7, .putfield 29, (1, 5, 0, 0, 0)), (10, .aload_n 0, (0, 0, 0, 0, 0)), (11, .iconst 0, (0, 0, 0, 0, 0)), (12, .putfield 32, (1, 6, 0, 0, 0)), (15, .iconst (-1), (0, 0, 0, 0, 0)), (16, .istore_n 2, (0, 0, 0, 0, 0)), (17, .iconst 0, (0, 0, 0, 0, 0)), (18, .istore_n 3, (0, 0, 0, 0, 0)), (19, .iload_n 3, (0, 0, 0, 0, 0)), (20, .aload_n 0, (0, 0, 0, 0, 0)), (21, .getfield 21, (1, 3, 0, 0, 0)), (24, .if_icmp .ge 102, (0, 0, 0, 0, 0)), (126, .aload_n 0, (0, 0, 0, 0, 0)), (127, .aload_n 1, (0, 0, 0, 0, 0)), (128, .getfield 51, (7, 8, 0, 0, 0)), (131, .putfield 35, (1, 7, 0, 0, 0)), (134, .aload_n 0, (0, 0, 0, 0, 0)), (135, .aload_n 1, (0, 0, 0, 0, 0)), (136, .iconst 2, (0, 0, 0, 0, 0)), (137, .invokevirtual 54, (80, 1, 0, 0, 7)), (140, .putfield 38, (1, 8, 0, 0, 0)), (143, .iload_n 2, (0, 0, 0, 0, 0)), (144, .ireturn, (0, 0, 0, 0, 0))]
def kP49 : List KEnt := [(0, .aload_n 0, (0, 0, 0, 0, 0)), (1, .getfield 25, (1, 4, 0, 0, 0)), (4, .ifCond .ne 5, (0, 0, 0, 0, 0)), (7, .iconst (-1), (0, 0, 0, 0, 0)), (8, .ireturn, (0, 0, 0, 0, 0))]
def kP50 : List KEnt := [(0, .aload_n 0, (0, 0, 0, 0, 0)), (1, .iconst 0, (0, 0, 0, 0, 0)), (2, .putfield 21, (1, 3, 0, 0, 0)), (5, .aload_n 1, (0, 0, 0, 0, 0)), (6, .sipush 400, (0, 0, 0, 0, 0)), (9, .invokevirtual 58, (90, 1, 0, 0, 8)), (12, .iconst 1, (0, 0, 0, 0, 0)), (13, .istore_n 3, (0, 0, 0, 0, 0)), (14, .iconst 0, (0, 0, 0, 0, 0)), (15, .istore 4, (0, 0, 0, 0, 0)), (17, .iload 4, (0, 0, 0, 0, 0)), (19, .bipush 40, (0, 0, 0, 0, 0)), (21, .if_icmp .gt 27, (0, 0, 0, 0, 0)), (24, .iload_n 3, (0, 0, 0, 0, 0)), (25, .ifCond .eq 23, (0, 0, 0, 0, 0)), (28, .aload_n 1, (0, 0, 0, 0, 0)), (29, .getfield 64, (8, 4, 0, 0, 0)), (32, .ifCond .eq 16, (0, 0, 0, 0, 0)), (48, .return_, (0, 0, 0, 0, 0))]
def kP51 : List KEnt := [(0, .aload_n 0, (0, 0, 0, 0, 0)), (1, .invokespecial 1, (999999, 0, 0, 0, 0)), (4, .aload_n 0, (0, 0, 0, 0, 0)), (5, .new 7, (4, 0, 0, 0, 0)), (8, .dup, (0, 0, 0, 0, 0)), (9, .invokespecial 9, (58, 0, 5, 40, 104)), (12, .putfield 10, (2, 0, 0, 0, 0)), (15, .aload_n 0, (0, 0, 0, 0, 0)), (16, .new 16, (5, 0, 0, 0, 0)), (19, .dup, (0, 0, 0, 0, 0)), (20, .invokespecial 18, (64, 0, 4, 140, 105)), (23, .putfield 19, (2, 2, 0, 0, 0)), (26, .aload_n 0, (0, 0, 0, 0, 0)), (27, .iconst 0, (0, 0, 0, 0, 0)), (28, .putfield 23, (2, 3, 0, 0, 0)), (31, .aload_n 0, (0, 0, 0, 0, 0)), (32, .new 27, (7, 0, 0, 0, 0)), (35, .dup, (0, 0, 0, 0, 0)), (36, .aload_n 1, (0, 0, 0, 0, 0)), (37, .invokespecial 29, (75, 1, 6, 120, 7)), (40, .putfield 32, (2, 1, 0, 0, 0)), (43, .return_, (0, 0, 0, 0, 0))]
def kP52 : List KEnt := [(0, .aload_n 0, (0, 0, 0, 0, 0)), (1, .getfield 10, (2, 0, 0, 0, 0)), (4, .aload_n 1, (0, 0, 0, 0, 0)), (5, .invokevirtual 36, (59, 1, 0, 0, 4)), (8, .aload_n 0, (0, 0, 0, 0, 0)), (9, .getfield 32, (2, 1, 0, 0, 0)), (12, .aload_n 2, (0, 0, 0, 0, 0)), (13, .invokevirtual 39, (79, 1, 0, 0, 7)), (16, .aload_n 0, (0, 0, 0, 0, 0)), (17, .getfield 19, (2, 2, 0, 0, 0)), (20, .aload_n 3, (0, 0, 0, 0, 0)), (21, .invokevirtual 42, (66, 1, 0, 0, 5)), (24, .aload_n 0, (0, 0, 0, 0, 0)), (25, .iconst 1, (0, 0, 0, 0, 0)), (26, .putfield 23, (2, 3, 0, 0, 0)), (29, .return_, (0, 0, 0, 0, 0))]
def kP53 : List KEnt := [(0, .aload_n 0, (0, 0, 0, 0, 0)), (1, .invokespecial 3, (999999, 0, 0, 0, 0)), (4, .aload_n 0, (0, 0, 0, 0, 0)), (5, .bipush 64, (0, 0, 0, 0, 0)), (7, .newarray .int, (0, 0, 0, 0, 0)), (9, .putfield 9, (3, 0, 0, 0, 0)), (12, .aload_n 0, (0, 0, 0, 0, 0)), (13, .bipush 24, (0, 0, 0, 0, 0)), (15, .newarray .int, (0, 0, 0, 0, 0)), (17, .putfield 15, (3, 1, 0, 0, 0)), (20, .aload_n 0, (0, 0, 0, 0, 0)), (21, .bipush 8, (0, 0, 0, 0, 0)), (23, .newarray .int, (0, 0, 0, 0, 0)), (25, .putfield 18, (3, 2, 0, 0, 0)), (28, .aload_n 0, (0, 0, 0, 0, 0)), (29, .iconst 0, (0, 0, 0, 0, 0)), (30, .putfield 21, (3, 3, 0, 0, 0)), (33, .aload_n 0, (0, 0, 0, 0, 0)), (34, .iconst 0, (0, 0, 0, 0, 0)), (35, .putfield 25, (3, 4, 0, 0, 0)), (38, .aload_n 0, (0, 0, 0, 0, 0)), (39, .iconst 0, (0, 0, 0, 0, 0)), (40, .putfield 28, (3, 5, 0, 0, 0)), (43, .aload_n 0, (0, 0, 0, 0, 0)), (44, .getfield 18, (3, 2, 0, 0, 0)), (47, .iconst (-1), (0, 0, 0, 0, 0)), (48, .invokestatic 31, (169, 2, 0, 0, 0)), (51, .return_, (0, 0, 0, 0, 0))]
def kP54 : List KEnt := [(0, .aload_n 0, (0, 0, 0, 0, 0)), (1, .aload_n 1, (0, 0, 0, 0, 0)), (2, .invokevirtual 37, (57, 1, 0, 0, 3)), (5, .aload_n 0, (0, 0, 0, 0, 0)), (6, .getfield 18, (3, 2, 0, 0, 0)), (9, .iconst (-1), (0, 0, 0, 0, 0)), (10, .invokestatic 31, (169, 2, 0, 0, 0)), (13, .aload_n 0, (0, 0, 0, 0, 0)), (14, .iconst 0, (0, 0, 0, 0, 0)), (15, .iconst 0, (0, 0, 0, 0, 0)), (16, .invokevirtual 41, (56, 2, 0, 0, 3)), (19, .istore_n 2, (0, 0, 0, 0, 0)), (20, .iconst 0, (0, 0, 0, 0, 0)), (21, .istore_n 3, (0, 0, 0, 0, 0)), (22, .iconst 0, (0, 0, 0, 0, 0)), (23, .istore 4, (0, 0, 0, 0, 0)), (25, .iconst 0, (0, 0, 0, 0, 0)), (26, .istore 5, (0, 0, 0, 0, 0)), (28, .iload 5, (0, 0, 0, 0, 0)), (30, .aload_n 0, (0, 0, 0, 0, 0)), (31, .getfield 21, (3, 3, 0, 0, 0)), (34, .if_icmp .ge 106, (0, 0, 0, 0, 0)), (140, .iload_n 2, (0, 0, 0, 0, 0)), (141, .ireturn, (0, 0, 0, 0, 0))]
def kP55 : List KEnt := [(0, .iload_n 1, (0, 0, 0, 0, 0)), (1, .ifCond .lt 21, (0, 0, 0, 0, 0)), (4, .iload_n 1, (0, 0, 0, 0, 0)), (5, .aload_n 0, (0, 0, 0, 0, 0)), (6, .getfield 18, (3, 2, 0, 0, 0)), (9, .arraylength, (0, 0, 0, 0, 0)), (10, .if_icmp .ge 12, (0, 0, 0, 0, 0)), (13, .aload_n 0, (0, 0, 0, 0, 0)), (14, .getfield 18, (3, 2, 0, 0, 0)), (17, .iload_n 1, (0, 0, 0, 0, 0)), (18, .iaload, (0, 0, 0, 0, 0)), (19, .goto 4, (0, 0, 0, 0, 0)), (22, .iconst (-1), (0, 0, 0, 0, 0)), (23, .ireturn, (0, 0, 0, 0, 0))]
def kP56 : List KEnt := [(0, .aload_n 0, (0, 0, 0, 0, 0)), (1, .getfield 15, (3, 1, 0, 0, 0)), (4, .iconst (-1), (0, 0, 0, 0, 0)), (5, .invokestatic 31, (169, 2, 0, 0, 0)), (8, .iconst 0, (0, 0, 0, 0, 0)), (9, .istore_n 3, (0, 0, 0, 0, 0)), (10, .iload_n 1, (0, 0, 0, 0, 0)), (11, .istore 4, (0, 0, 0, 0, 0)), (13, .iload 4, (0, 0, 0, 0, 0)), (15, .aload_n 0, (0, 0, 0, 0, 0)), (16, .getfield 21, (3, 3, 0, 0, 0)), (19, .if_icmp .ge 27, (0, 0, 0, 0, 0)), (46, .iload_n 3, (0, 0, 0, 0, 0)), (47, .ireturn, (0, 0, 0, 0, 0))]
def kP57 : List KEnt := [(0, .aload_n 0, (0, 0, 0, 0, 0)), (1, .aload_n 1, (0, 0, 0, 0, 0)), (2, .getfield 52, (7, 0, 0, 0, 0)), (5, .getfield 58, (4, 6, 0, 0, 0)), (8, .putfield 21, (3, 3, 0, 0, 0)), (11, .aload_n 0, (0, 0, 0, 0, 0)), (12, .aload_n 1, (0, 0, 0, 0, 0)), (13, .getfield 52, (7, 0, 0, 0, 0)), (16, .getfield 61, (4, 7, 0, 0, 0)), (19, .putfield 25, (3, 4, 0, 0, 0)), (22, .aload_n 0, (0, 0, 0, 0, 0)), (23, .getfield 9, (3, 0, 0, 0, 0)), (26, .iconst (-1), (0, 0, 0, 0, 0)), (27, .invokestatic 31, (169, 2, 0, 0, 0)), (30, .iconst 0, (0, 0, 0, 0, 0)), (31, .istore_n 2, (0, 0, 0, 0, 0)), (32, .iload_n 2, (0, 0, 0, 0, 0)), (33, .aload_n 0, (0, 0, 0, 0, 0)), (34, .getfield 21, (3, 3, 0, 0, 0)), (37, .if_icmp .ge 81, (0, 0, 0, 0, 0)), (118, .return_, (0, 0, 0, 0, 0))]
def kP58 : List KEnt := [(0, .aload_n 0, (0, 0, 0, 0, 0)), (1, .invokespecial 3, (999999, 0, 0, 0, 0)), (4, .aload_n 0, (0, 0, 0, 0, 0)), (5, .bipush 8, (0, 0, 0, 0, 0)), (7, .newarray .long, (1, 0, 0, 0, 0)), (9, .putfield 9, (4, 0, 0, 0, 0)), (12, .aload_n 0, (0, 0, 0, 0, 0)), (13, .bipush 8, (0, 0, 0, 0, 0)), (15, .newarray .long, (1, 0, 0, 0, 0)), (17, .putfield 15, (4, 1, 0, 0, 0)), (20, .aload_n 0, (0, 0, 0, 0, 0)), (21, .bipush 8, (0, 0, 0, 0, 0)), (23, .newarray .int, (0, 0, 0, 0, 0)), (25, .putfield 18, (4, 2, 0, 0, 0)), (28, .aload_n 0, (0, 0, 0, 0, 0)), (29, .bipush 8, (0, 0, 0, 0, 0)), (31, .newarray .int, (0, 0, 0, 0, 0)), (33, .putfield 22, (4, 3, 0, 0, 0)), (36, .aload_n 0, (0, 0, 0, 0, 0)), (37, .bipush 8, (0, 0, 0, 0, 0)), (39, .newarray .int, (0, 0, 0, 0, 0)), (41, .putfield 25, (4, 4, 0, 0, 0)), (44, .aload_n 0, (0, 0, 0, 0, 0)), (45, .iconst 0, (0, 0, 0, 0, 0)), (46, .putfield 28, (4, 5, 0, 0, 0)), (49, .aload_n 0, (0, 0, 0, 0, 0)), (50, .iconst 0, (0, 0, 0, 0, 0)), (51, .putfield 32, (4, 6, 0, 0, 0)), (54, .aload_n 0, (0, 0, 0, 0, 0)), (55, .iconst 0, (0, 0, 0, 0, 0)), (56, .putfield 36, (4, 7, 0, 0, 0)), (59, .aload_n 0, (0, 0, 0, 0, 0)), (60, .iconst 0, (0, 0, 0, 0, 0)), (61, .putfield 39, (4, 8, 0, 0, 0)), (64, .return_, (0, 0, 0, 0, 0))]
def kP59 : List KEnt := [(0, .aload_n 1, (0, 0, 0, 0, 0)), (1, .getfield 9, (4, 0, 0, 0, 0)), (4, .iconst 0, (0, 0, 0, 0, 0)), (5, .aload_n 0, (0, 0, 0, 0, 0)), (6, .getfield 9, (4, 0, 0, 0, 0)), (9, .iconst 0, (0, 0, 0, 0, 0)), (10, .bipush 8, (0, 0, 0, 0, 0)), (12, .invokestatic 42, (999997, 0, 0, 0, 0)), (15, .aload_n 1, (0, 0, 0, 0, 0)), (16, .getfield 15, (4, 1, 0, 0, 0)), (19, .iconst 0, (0, 0, 0, 0, 0)), (20, .aload_n 0, (0, 0, 0, 0, 0)), (21, .getfield 15, (4, 1, 0, 0, 0)), (24, .iconst 0, (0, 0, 0, 0, 0)), (25, .bipush 8, (0, 0, 0, 0, 0)), (27, .invokestatic 42, (999997, 0, 0, 0, 0)), (30, .aload_n 1, (0, 0, 0, 0, 0)), (31, .getfield 18, (4, 2, 0, 0, 0)), (34, .iconst 0, (0, 0, 0, 0, 0)), (35, .aload_n 0, (0, 0, 0, 0, 0)), (36, .getfield 18, (4, 2, 0, 0, 0)), (39, .iconst 0, (0, 0, 0, 0, 0)), (40, .bipush 8, (0, 0, 0, 0, 0)), (42, .invokestatic 42, (999997, 0, 0, 0, 0)), (45, .aload_n 1, (0, 0, 0, 0, 0)), (46, .getfield 22, (4, 3, 0, 0, 0)), (49, .iconst 0, (0, 0, 0, 0, 0)), (50, .aload_n 0, (0, 0, 0, 0, 0)), (51, .getfield 22, (4, 3, 0, 0, 0)), (54, .iconst 0, (0, 0, 0, 0, 0)), (55, .bipush 8, (0, 0, 0, 0, 0)), (57, .invokestatic 42, (999997, 0, 0, 0, 0)), (60, .aload_n 1, (0, 0, 0, 0, 0)), (61, .getfield 25, (4, 4, 0, 0, 0)), (64, .iconst 0, (0, 0, 0, 0, 0)), (65, .aload_n 0, (0, 0, 0, 0, 0)), (66, .getfield 25, (4, 4, 0, 0, 0)), (69, .iconst 0, (0, 0, 0, 0, 0)), (70, .bipush 8, (0, 0, 0, 0, 0)), (72, .invokestatic 42, (999997, 0, 0, 0, 0)), (75, .aload_n 0, (0, 0, 0, 0, 0)), (76, .aload_n 1, (0, 0, 0, 0, 0)), (77, .getfield 28, (4, 5, 0, 0, 0)), (80, .putfield 28, (4, 5, 0, 0, 0)), (83, .aload_n 0, (0, 0, 0, 0, 0)), (84, .aload_n 1, (0, 0, 0, 0, 0)), (85, .getfield 32, (4, 6, 0, 0, 0)), (88, .putfield 32, (4, 6, 0, 0, 0)), (91, .aload_n 0, (0, 0, 0, 0, 0)), (92, .aload_n 1, (0, 0, 0, 0, 0)), (93, .getfield 36, (4, 7, 0, 0, 0)), (96, .putfield 36, (4, 7, 0, 0, 0)), (99, .aload_n 0, (0, 0, 0, 0, 0)), (100, .aload_n 1, (0, 0, 0, 0, 0)), (101, .getfield 39, (4, 8, 0, 0, 0)), (104, .putfield 39, (4, 8, 0, 0, 0)), (107, .return_, (0, 0, 0, 0, 0))]
def kP60 : List KEnt := [(0, .iconst 0, (0, 0, 0, 0, 0)), (1, .istore_n 1, (0, 0, 0, 0, 0)), (2, .iload_n 1, (0, 0, 0, 0, 0)), (3, .bipush 8, (0, 0, 0, 0, 0)), (5, .if_icmp .ge 16, (0, 0, 0, 0, 0)), (8, .aload_n 0, (0, 0, 0, 0, 0)), (9, .getfield 25, (4, 4, 0, 0, 0)), (12, .iload_n 1, (0, 0, 0, 0, 0)), (13, .iconst 0, (0, 0, 0, 0, 0)), (14, .iastore, (0, 0, 0, 0, 0)), (15, .iinc 1 1, (0, 0, 0, 0, 0)), (18, .goto (-16), (0, 0, 0, 0, 0)), (21, .aload_n 0, (0, 0, 0, 0, 0)), (22, .iconst 0, (0, 0, 0, 0, 0)), (23, .putfield 28, (4, 5, 0, 0, 0)), (26, .aload_n 0, (0, 0, 0, 0, 0)), (27, .iconst 0, (0, 0, 0, 0, 0)), (28, .putfield 32, (4, 6, 0, 0, 0)), (31, .aload_n 0, (0, 0, 0, 0, 0)), (32, .iconst 0, (0, 0, 0, 0, 0)), (33, .putfield 36, (4, 7, 0, 0, 0)), (36, .aload_n 0, (0, 0, 0, 0, 0)), (37, .iconst 0, (0, 0, 0, 0, 0)), (38, .putfield 39, (4, 8, 0, 0, 0)), (41, .return_, (0, 0, 0, 0, 0))]
def kP61 : List KEnt := [(0, .iload_n 1, (0, 0, 0, 0, 0)), (1, .ifCond .lt 21, (0, 0, 0, 0, 0)), (4, .iload_n 1, (0, 0, 0, 0, 0)), (5, .aload_n 0, (0, 0, 0, 0, 0)), (6, .getfield 36, (4, 7, 0, 0, 0)), (9, .if_icmp .ge 13, (0, 0, 0, 0, 0)), (22, .iconst 0, (0, 0, 0, 0, 0)), (23, .ireturn, (0, 0, 0, 0, 0))]
def kP62 : List KEnt := [(0, .iload_n 1, (0, 0, 0, 0, 0)), (1, .ifCond .lt 21, (0, 0, 0, 0, 0)), (4, .iload_n 1, (0, 0, 0, 0, 0)), (5, .aload_n 0, (0, 0, 0, 0, 0)), (6, .getfield 32, (4, 6, 0, 0, 0)), (9, .if_icmp .ge 13, (0, 0, 0, 0, 0)), (22, .iconst 0, (0, 0, 0, 0, 0)), (23, .ireturn, (0, 0, 0, 0, 0))]
def kP63 : List KEnt := [(0, .aload_n 0, (0, 0, 0, 0, 0)), (1, .invokevirtual 75, (60, 0, 0, 0, 4)), (4, .aload_n 2, (0, 0, 0, 0, 0)), (5, .invokevirtual 78, (77, 0, 0, 0, 7)), (8, .aload_n 1, (0, 0, 0, 0, 0)), (9, .sipush 900, (0, 0, 0, 0, 0)), (12, .invokevirtual 83, (90, 1, 0, 0, 8)), (15, .iconst 0, (0, 0, 0, 0, 0)), (16, .istore_n 3, (0, 0, 0, 0, 0)), (17, .iload_n 3, (0, 0, 0, 0, 0)), (18, .sipush 900, (0, 0, 0, 0, 0)), (21, .if_icmp .ge 27, (0, 0, 0, 0, 0)), (24, .aload_n 1, (0, 0, 0, 0, 0)), (25, .getfield 87, (8, 4, 0, 0, 0)), (28, .ifCond .eq 20, (0, 0, 0, 0, 0)), (48, .iload_n 3, (0, 0, 0, 0, 0)), (49, .ireturn, (0, 0, 0, 0, 0))]
def kP64 : List KEnt := [(0, .aload_n 0, (0, 0, 0, 0, 0)), (1, .invokespecial 3, (999999, 0, 0, 0, 0)), (4, .aload_n 0, (0, 0, 0, 0, 0)), (5, .bipush 40, (0, 0, 0, 0, 0)), (7, .newarray .int, (0, 0, 0, 0, 0)), (9, .putfield 9, (5, 0, 0, 0, 0)), (12, .aload_n 0, (0, 0, 0, 0, 0)), (13, .bipush 40, (0, 0, 0, 0, 0)), (15, .newarray .int, (0, 0, 0, 0, 0)), (17, .putfield 15, (5, 1, 0, 0, 0)), (20, .aload_n 0, (0, 0, 0, 0, 0)), (21, .bipush 40, (0, 0, 0, 0, 0)), (23, .newarray .int, (0, 0, 0, 0, 0)), (25, .putfield 18, (5, 2, 0, 0, 0)), (28, .aload_n 0, (0, 0, 0, 0, 0)), (29, .bipush 20, (0, 0, 0, 0, 0)), (31, .newarray .int, (0, 0, 0, 0, 0)), (33, .putfield 21, (5, 3, 0, 0, 0)), (36, .aload_n 0, (0, 0, 0, 0, 0)), (37, .iconst 0, (0, 0, 0, 0, 0)), (38, .putfield 24, (5, 4, 0, 0, 0)), (41, .aload_n 0, (0, 0, 0, 0, 0)), (42, .iconst 0, (0, 0, 0, 0, 0)), (43, .putfield 28, (5, 5, 0, 0, 0)), (46, .return_, (0, 0, 0, 0, 0))]
def kP65 : List KEnt := [(0, .aload_n 0, (0, 0, 0, 0, 0)), (1, .getstatic 89, (0, 0, 0, 0, 0)), (4, .if_acmp .eq 60, (0, 0, 0, 0, 0)), (7, .aload_n 0, (0, 0, 0, 0, 0)), (8, .getstatic 121, (1, 0, 0, 0, 0)), (11, .if_acmp .eq 53, (0, 0, 0, 0, 0)), (14, .aload_n 0, (0, 0, 0, 0, 0)), (15, .invokestatic 124, (68, 1, 0, 0, 5)), (18, .iconst (-1), (0, 0, 0, 0, 0)), (19, .if_icmp .ne 45, (0, 0, 0, 0, 0)), (22, .aload_n 0, (0, 0, 0, 0, 0)), (23, .getstatic 95, (2, 0, 0, 0, 0)), (26, .if_acmp .eq 38, (0, 0, 0, 0, 0)), (29, .aload_n 0, (0, 0, 0, 0, 0)), (30, .getstatic 98, (3, 0, 0, 0, 0)), (33, .if_acmp .eq 31, (0, 0, 0, 0, 0)), (36, .aload_n 0, (0, 0, 0, 0, 0)), (37, .getstatic 101, (4, 0, 0, 0, 0)), (40, .if_acmp .eq 24, (0, 0, 0, 0, 0)), (43, .aload_n 0, (0, 0, 0, 0, 0)), (44, .getstatic 108, (5, 0, 0, 0, 0)), (47, .if_acmp .eq 17, (0, 0, 0, 0, 0)), (50, .aload_n 0, (0, 0, 0, 0, 0)), (51, .getstatic 111, (6, 0, 0, 0, 0)), (54, .if_acmp .eq 10, (0, 0, 0, 0, 0)), (57, .aload_n 0, (0, 0, 0, 0, 0)), (58, .getstatic 114, (7, 0, 0, 0, 0)), (61, .if_acmp .ne 7, (0, 0, 0, 0, 0)), (68, .iconst 0, (0, 0, 0, 0, 0)), (69, .ireturn, (0, 0, 0, 0, 0))]
def kP66 : List KEnt := [(0, .aload_n 1, (0, 0, 0, 0, 0)), (1, .getfield 9, (5, 0, 0, 0, 0)), (4, .iconst 0, (0, 0, 0, 0, 0)), (5, .aload_n 0, (0, 0, 0, 0, 0)), (6, .getfield 9, (5, 0, 0, 0, 0)), (9, .iconst 0, (0, 0, 0, 0, 0)), (10, .bipush 40, (0, 0, 0, 0, 0)), (12, .invokestatic 31, (999997, 0, 0, 0, 0)), (15, .aload_n 1, (0, 0, 0, 0, 0)), (16, .getfield 15, (5, 1, 0, 0, 0)), (19, .iconst 0, (0, 0, 0, 0, 0)), (20, .aload_n 0, (0, 0, 0, 0, 0)), (21, .getfield 15, (5, 1, 0, 0, 0)), (24, .iconst 0, (0, 0, 0, 0, 0)), (25, .bipush 40, (0, 0, 0, 0, 0)), (27, .invokestatic 31, (999997, 0, 0, 0, 0)), (30, .aload_n 1, (0, 0, 0, 0, 0)), (31, .getfield 18, (5, 2, 0, 0, 0)), (34, .iconst 0, (0, 0, 0, 0, 0)), (35, .aload_n 0, (0, 0, 0, 0, 0)), (36, .getfield 18, (5, 2, 0, 0, 0)), (39, .iconst 0, (0, 0, 0, 0, 0)), (40, .bipush 40, (0, 0, 0, 0, 0)), (42, .invokestatic 31, (999997, 0, 0, 0, 0)), (45, .aload_n 0, (0, 0, 0, 0, 0)), (46, .aload_n 1, (0, 0, 0, 0, 0)), (47, .getfield 24, (5, 4, 0, 0, 0)), (50, .putfield 24, (5, 4, 0, 0, 0)), (53, .aload_n 0, (0, 0, 0, 0, 0)), (54, .aload_n 1, (0, 0, 0, 0, 0)), (55, .getfield 28, (5, 5, 0, 0, 0)), (58, .putfield 28, (5, 5, 0, 0, 0)), (61, .return_, (0, 0, 0, 0, 0))]
def kP67 : List KEnt := [(0, .aload_n 0, (0, 0, 0, 0, 0)), (1, .iconst 0, (0, 0, 0, 0, 0)), (2, .putfield 24, (5, 4, 0, 0, 0)), (5, .aload_n 0, (0, 0, 0, 0, 0)), (6, .iconst 0, (0, 0, 0, 0, 0)), (7, .putfield 28, (5, 5, 0, 0, 0)), (10, .return_, (0, 0, 0, 0, 0))]
def kP68 : List KEnt := [(0, .aload_n 0, (0, 0, 0, 0, 0)), (1, .getstatic 128, (8, 0, 0, 0, 0)), (4, .if_acmp .ne 5, (0, 0, 0, 0, 0)), (9, .aload_n 0, (0, 0, 0, 0, 0)), (10, .getstatic 131, (9, 0, 0, 0, 0)), (13, .if_acmp .ne 5, (0, 0, 0, 0, 0)), (18, .aload_n 0, (0, 0, 0, 0, 0)), (19, .getstatic 134, (10, 0, 0, 0, 0)), (22, .if_acmp .ne 5, (0, 0, 0, 0, 0)), (27, .aload_n 0, (0, 0, 0, 0, 0)), (28, .getstatic 137, (11, 0, 0, 0, 0)), (31, .if_acmp .ne 7, (0, 0, 0, 0, 0)), (38, .iconst (-1), (0, 0, 0, 0, 0)), (39, .ireturn, (0, 0, 0, 0, 0))]
def kP69 : List KEnt := [(0, .aload_n 0, (0, 0, 0, 0, 0)), (1, .getfield 28, (5, 5, 0, 0, 0)), (4, .ifCond .ne 7, (0, 0, 0, 0, 0)), (7, .iconst 1, (0, 0, 0, 0, 0)), (8, .goto 4, (0, 0, 0, 0, 0)), (12, .ireturn, (0, 0, 0, 0, 0))]
def kP70 : List KEnt := [(0, .aload_n 0, (0, 0, 0, 0, 0)), (1, .aload_n 1, (0, 0, 0, 0, 0)), (2, .aload_n 2, (0, 0, 0, 0, 0)), (3, .iload_n 3, (0, 0, 0, 0, 0)), (4, .invokevirtual 57, (71, 3, 0, 0, 5)), (7, .istore 4, (0, 0, 0, 0, 0)), (9, .iconst 0, (0, 0, 0, 0, 0)), (10, .istore 5, (0, 0, 0, 0, 0)), (12, .iconst 0, (0, 0, 0, 0, 0)), (13, .istore 6, (0, 0, 0, 0, 0)), (15, .iload 6, (0, 0, 0, 0, 0)), (17, .bipush 20, (0, 0, 0, 0, 0)), (19, .if_icmp .gt 114, (0, 0, 0, 0, 0)), (22, .iload 4, (0, 0, 0, 0, 0)), (24, .ifCond .eq 109, (0, 0, 0, 0, 0)), (133, .iload 4, (0, 0, 0, 0, 0)), (135, .ifCond .eq 22, (0, 0, 0, 0, 0)), (157, .iconst 0, (0, 0, 0, 0, 0)), (158, .ireturn, (0, 0, 0, 0, 0))]
def kP71 : List KEnt := [(0, .aload_n 1, (0, 0, 0, 0, 0)), (1, .bipush 40, (0, 0, 0, 0, 0)), (3, .invokevirtual 80, (91, 1, 0, 0, 8)), (6, .ifCond .ne 31, (0, 0, 0, 0, 0)), (9, .aload_n 1, (0, 0, 0, 0, 0)), (10, .getfield 50, (8, 4, 0, 0, 0)), (13, .iconst 1, (0, 0, 0, 0, 0)), (14, .if_icmp .ne 10, (0, 0, 0, 0, 0)), (24, .aconst_null, (0, 0, 0, 0, 0)), (25, .invokestatic 86, (65, 1, 0, 0, 5)), (28, .ifCond .ne 9, (0, 0, 0, 0, 0)), (31, .aload_n 1, (0, 0, 0, 0, 0)), (32, .iconst 1, (0, 0, 0, 0, 0)), (33, .invokevirtual 53, (92, 1, 0, 0, 8)), (36, .ireturn, (0, 0, 0, 0, 0))]
def kP72 : List KEnt := [(0, .aload_n 0, (0, 0, 0, 0, 0)), (1, .invokevirtual 37, (67, 0, 0, 0, 5)), (4, .aload_n 1, (0, 0, 0, 0, 0)), (5, .sipush 200, (0, 0, 0, 0, 0)), (8, .invokevirtual 40, (90, 1, 0, 0, 8)), (11, .aload_n 0, (0, 0, 0, 0, 0)), (12, .aload_n 1, (0, 0, 0, 0, 0)), (13, .aload_n 2, (0, 0, 0, 0, 0)), (14, .iconst 1, (0, 0, 0, 0, 0)), (15, .invokevirtual 46, (70, 3, 0, 0, 5)), (18, .ifCond .eq 16, (0, 0, 0, 0, 0)), (34, .return_, (0, 0, 0, 0, 0))]
def kP73 : List KEnt := [(0, .aload_n 0, (0, 0, 0, 0, 0)), (1, .invokespecial 3, (999999, 0, 0, 0, 0)), (4, .aload_n 0, (0, 0, 0, 0, 0)), (5, .bipush 40, (0, 0, 0, 0, 0)), (7, .newarray .char, (3, 0, 0, 0, 0)), (9, .putfield 9, (6, 0, 0, 0, 0)), (12, .aload_n 0, (0, 0, 0, 0, 0)), (13, .iconst 0, (0, 0, 0, 0, 0)), (14, .putfield 15, (6, 1, 0, 0, 0)), (17, .return_, (0, 0, 0, 0, 0))]
def kP74 : List KEnt := [(0, .iload_n 1, (0, 0, 0, 0, 0)), (1, .ifCond .lt 29, (0, 0, 0, 0, 0)), (4, .iload_n 1, (0, 0, 0, 0, 0)), (5, .aload_n 0, (0, 0, 0, 0, 0)), (6, .getfield 15, (6, 1, 0, 0, 0)), (9, .if_icmp .ge 21, (0, 0, 0, 0, 0)), (30, .iconst (-1), (0, 0, 0, 0, 0)), (31, .ireturn, (0, 0, 0, 0, 0))]
def kP75 : List KEnt := [(0, .aload_n 0, (0, 0, 0, 0, 0)), (1, .invokespecial 3, (999999, 0, 0, 0, 0)), (4, .aload_n 0, (0, 0, 0, 0, 0)), (5, .bipush 64, (0, 0, 0, 0, 0)), (7, .newarray .int, (0, 0, 0, 0, 0)), (9, .putfield 9, (7, 1, 0, 0, 0)), (12, .aload_n 0, (0, 0, 0, 0, 0)), (13, .bipush 8, (0, 0, 0, 0, 0)), (15, .newarray .int, (0, 0, 0, 0, 0)), (17, .putfield 15, (7, 2, 0, 0, 0)), (20, .aload_n 0, (0, 0, 0, 0, 0)), (21, .bipush 8, (0, 0, 0, 0, 0)), (23, .newarray .int, (0, 0, 0, 0, 0)), (25, .putfield 18, (7, 3, 0, 0, 0)), (28, .aload_n 0, (0, 0, 0, 0, 0)), (29, .bipush 8, (0, 0, 0, 0, 0)), (31, .newarray .int, (0, 0, 0, 0, 0)), (33, .putfield 21, (7, 4, 0, 0, 0)), (36, .aload_n 0, (0, 0, 0, 0, 0)), (37, .bipush 8, (0, 0, 0, 0, 0)), (39, .newarray .int, (0, 0, 0, 0, 0)), (41, .putfield 24, (7, 5, 0, 0, 0)), (44, .aload_n 0, (0, 0, 0, 0, 0)), (45, .bipush 24, (0, 0, 0, 0, 0)), (47, .newarray .int, (0, 0, 0, 0, 0)), (49, .putfield 27, (7, 6, 0, 0, 0)), (52, .aload_n 0, (0, 0, 0, 0, 0)), (53, .iconst 0, (0, 0, 0, 0, 0)), (54, .putfield 30, (7, 7, 0, 0, 0)), (57, .aload_n 0, (0, 0, 0, 0, 0)), (58, .iconst 0, (0, 0, 0, 0, 0)), (59, .putfield 34, (7, 8, 0, 0, 0)), (62, .aload_n 0, (0, 0, 0, 0, 0)), (63, .iconst 0, (0, 0, 0, 0, 0)), (64, .putfield 37, (7, 9, 0, 0, 0)), (67, .aload_n 0, (0, 0, 0, 0, 0)), (68, .aload_n 1, (0, 0, 0, 0, 0)), (69, .putfield 40, (7, 0, 0, 0, 0)), (72, .aload_n 0, (0, 0, 0, 0, 0)), (73, .invokevirtual 44, (85, 0, 0, 0, 7)), (76, .return_, (0, 0, 0, 0, 0))]
def kP76 : List KEnt := [(0, .iconst 0, (0, 0, 0, 0, 0)), (1, .istore_n 1, (0, 0, 0, 0, 0)), (2, .iconst 0, (0, 0, 0, 0, 0)), (3, .istore_n 2, (0, 0, 0, 0, 0)), (4, .iload_n 2, (0, 0, 0, 0, 0)), (5, .aload_n 0, (0, 0, 0, 0, 0)), (6, .getfield 9, (7, 1, 0, 0, 0)), (9, .arraylength, (0, 0, 0, 0, 0)), (10, .if_icmp .ge 18, (0, 0, 0, 0, 0)), (13, .iload_n 1, (0, 0, 0, 0, 0)), (14, .aload_n 0, (0, 0, 0, 0, 0)), (15, .getfield 9, (7, 1, 0, 0, 0)), (18, .iload_n 2, (0, 0, 0, 0, 0)), (19, .iaload, (0, 0, 0, 0, 0)), (20, .iadd, (0, 0, 0, 0, 0)), (21, .istore_n 1, (0, 0, 0, 0, 0)), (22, .iinc 2 1, (0, 0, 0, 0, 0)), (25, .goto (-21), (0, 0, 0, 0, 0)), (28, .iload_n 1, (0, 0, 0, 0, 0)), (29, .ireturn, (0, 0, 0, 0, 0))]
def kP77 : List KEnt := [(0, .aload_n 0, (0, 0, 0, 0, 0)), (1, .invokevirtual 44, (85, 0, 0, 0, 7)), (4, .return_, (0, 0, 0, 0, 0))]
def kP78 : List KEnt := [(0, .iconst 0, (0, 0, 0, 0, 0)), (1, .istore_n 1, (0, 0, 0, 0, 0)), (2, .iconst 0, (0, 0, 0, 0, 0)), (3, .istore_n 2, (0, 0, 0, 0, 0)), (4, .iload_n 2, (0, 0, 0, 0, 0)), (5, .aload_n 0, (0, 0, 0, 0, 0)), (6, .getfield 40, (7, 0, 0, 0, 0)), (9, .getfield 94, (4, 7, 0, 0, 0)), (12, .if_icmp .ge 24, (0, 0, 0, 0, 0)), (36, .iload_n 1, (0, 0, 0, 0, 0)), (37, .ireturn, (0, 0, 0, 0, 0))]
def kP79 : List KEnt := [(0, .aload_n 1, (0, 0, 0, 0, 0)), (1, .getfield 9, (7, 1, 0, 0, 0)), (4, .iconst 0, (0, 0, 0, 0, 0)), (5, .aload_n 0, (0, 0, 0, 0, 0)), (6, .getfield 9, (7, 1, 0, 0, 0)), (9, .iconst 0, (0, 0, 0, 0, 0)), (10, .bipush 64, (0, 0, 0, 0, 0)), (12, .invokestatic 53, (999997, 0, 0, 0, 0)), (15, .aload_n 1, (0, 0, 0, 0, 0)), (16, .getfield 15, (7, 2, 0, 0, 0)), (19, .iconst 0, (0, 0, 0, 0, 0)), (20, .aload_n 0, (0, 0, 0, 0, 0)), (21, .getfield 15, (7, 2, 0, 0, 0)), (24, .iconst 0, (0, 0, 0, 0, 0)), (25, .bipush 8, (0, 0, 0, 0, 0)), (27, .invokestatic 53, (999997, 0, 0, 0, 0)), (30, .aload_n 1, (0, 0, 0, 0, 0)), (31, .getfield 18, (7, 3, 0, 0, 0)), (34, .iconst 0, (0, 0, 0, 0, 0)), (35, .aload_n 0, (0, 0, 0, 0, 0)), (36, .getfield 18, (7, 3, 0, 0, 0)), (39, .iconst 0, (0, 0, 0, 0, 0)), (40, .bipush 8, (0, 0, 0, 0, 0)), (42, .invokestatic 53, (999997, 0, 0, 0, 0)), (45, .aload_n 1, (0, 0, 0, 0, 0)), (46, .getfield 21, (7, 4, 0, 0, 0)), (49, .iconst 0, (0, 0, 0, 0, 0)), (50, .aload_n 0, (0, 0, 0, 0, 0)), (51, .getfield 21, (7, 4, 0, 0, 0)), (54, .iconst 0, (0, 0, 0, 0, 0)), (55, .bipush 8, (0, 0, 0, 0, 0)), (57, .invokestatic 53, (999997, 0, 0, 0, 0)), (60, .aload_n 1, (0, 0, 0, 0, 0)), (61, .getfield 24, (7, 5, 0, 0, 0)), (64, .iconst 0, (0, 0, 0, 0, 0)), (65, .aload_n 0, (0, 0, 0, 0, 0)), (66, .getfield 24, (7, 5, 0, 0, 0)), (69, .iconst 0, (0, 0, 0, 0, 0)), (70, .bipush 8, (0, 0, 0, 0, 0)), (72, .invokestatic 53, (999997, 0, 0, 0, 0)), (75, .aload_n 1, (0, 0, 0, 0, 0)), (76, .getfield 27, (7, 6, 0, 0, 0)), (79, .iconst 0, (0, 0, 0, 0, 0)), (80, .aload_n 0, (0, 0, 0, 0, 0)), (81, .getfield 27, (7, 6, 0, 0, 0)), (84, .iconst 0, (0, 0, 0, 0, 0)), (85, .bipush 24, (0, 0, 0, 0, 0)), (87, .invokestatic 53, (999997, 0, 0, 0, 0)), (90, .aload_n 0, (0, 0, 0, 0, 0)), (91, .aload_n 1, (0, 0, 0, 0, 0)), (92, .getfield 30, (7, 7, 0, 0, 0)), (95, .putfield 30, (7, 7, 0, 0, 0)), (98, .aload_n 0, (0, 0, 0, 0, 0)), (99, .aload_n 1, (0, 0, 0, 0, 0)), (100, .getfield 34, (7, 8, 0, 0, 0)), (103, .putfield 34, (7, 8, 0, 0, 0)), (106, .return_, (0, 0, 0, 0, 0))]
def kP80 : List KEnt := [(0, .iconst 0, (0, 0, 0, 0, 0)), (1, .istore_n 2, (0, 0, 0, 0, 0)), (2, .iconst 0, (0, 0, 0, 0, 0)), (3, .istore_n 3, (0, 0, 0, 0, 0)), (4, .iload_n 3, (0, 0, 0, 0, 0)), (5, .aload_n 0, (0, 0, 0, 0, 0)), (6, .getfield 40, (7, 0, 0, 0, 0)), (9, .getfield 94, (4, 7, 0, 0, 0)), (12, .if_icmp .ge 24, (0, 0, 0, 0, 0)), (36, .iload_n 2, (0, 0, 0, 0, 0)), (37, .ireturn, (0, 0, 0, 0, 0))]
def kP81 : List KEnt := [(0, .iconst 0, (0, 0, 0, 0, 0)), (1, .istore_n 1, (0, 0, 0, 0, 0)), (2, .iload_n 1, (0, 0, 0, 0, 0)), (3, .aload_n 0, (0, 0, 0, 0, 0)), (4, .getfield 40, (7, 0, 0, 0, 0)), (7, .getfield 94, (4, 7, 0, 0, 0)), (10, .if_icmp .ge 49, (0, 0, 0, 0, 0)), (59, .aload_n 0, (0, 0, 0, 0, 0)), (60, .getfield 15, (7, 2, 0, 0, 0)), (63, .iconst (-1), (0, 0, 0, 0, 0)), (64, .invokestatic 47, (169, 2, 0, 0, 0)), (67, .aload_n 0, (0, 0, 0, 0, 0)), (68, .dup, (0, 0, 0, 0, 0)), (69, .getfield 34, (7, 8, 0, 0, 0)), (72, .iconst 1, (0, 0, 0, 0, 0)), (73, .iadd, (0, 0, 0, 0, 0)), (74, .putfield 34, (7, 8, 0, 0, 0)), (77, .return_, (0, 0, 0, 0, 0))]
def kP82 : List KEnt := [(0, .aload_n 0, (0, 0, 0, 0, 0)), (1, .getfield 40, (7, 0, 0, 0, 0)), (4, .iload_n 1, (0, 0, 0, 0, 0)), (5, .invokevirtual 69, (61, 1, 0, 0, 4)), (8, .ifCond .eq 12, (0, 0, 0, 0, 0)), (20, .iconst (-1), (0, 0, 0, 0, 0)), (21, .ireturn, (0, 0, 0, 0, 0))]
def kP83 : List KEnt := [(0, .aload_n 0, (0, 0, 0, 0, 0)), (1, .iload_n 2, (0, 0, 0, 0, 0)), (2, .invokevirtual 78, (82, 1, 0, 0, 7)), (5, .ifCond .ne 12, (0, 0, 0, 0, 0)), (17, .iconst (-1), (0, 0, 0, 0, 0)), (18, .ireturn, (0, 0, 0, 0, 0))]
def kP84 : List KEnt := [(0, .iload_n 1, (0, 0, 0, 0, 0)), (1, .tableswitch 127 0 6 #[43, 58, 68, 78, 93, 110, 119], (0, 0, 0, 0, 0)), (128, .iconst 0, (0, 0, 0, 0, 0)), (129, .istore 4, (0, 0, 0, 0, 0)), (131, .iload 4, (0, 0, 0, 0, 0)), (133, .iload_n 2, (0, 0, 0, 0, 0)), (134, .if_icmp .ge 13, (0, 0, 0, 0, 0)), (137, .aload_n 0, (0, 0, 0, 0, 0)), (138, .invokevirtual 149, (81, 0, 0, 0, 7)), (141, .iinc 4 1, (0, 0, 0, 0, 0)), (144, .goto (-13), (0, 0, 0, 0, 0)), (147, .return_, (0, 0, 0, 0, 0))]
def kP85 : List KEnt := [(0, .aload_n 0, (0, 0, 0, 0, 0)), (1, .getfield 9, (7, 1, 0, 0, 0)), (4, .iconst 0, (0, 0, 0, 0, 0)), (5, .invokestatic 47, (169, 2, 0, 0, 0)), (8, .aload_n 0, (0, 0, 0, 0, 0)), (9, .getfield 15, (7, 2, 0, 0, 0)), (12, .iconst (-1), (0, 0, 0, 0, 0)), (13, .invokestatic 47, (169, 2, 0, 0, 0)), (16, .aload_n 0, (0, 0, 0, 0, 0)), (17, .getfield 18, (7, 3, 0, 0, 0)), (20, .iconst 0, (0, 0, 0, 0, 0)), (21, .invokestatic 47, (169, 2, 0, 0, 0)), (24, .aload_n 0, (0, 0, 0, 0, 0)), (25, .getfield 21, (7, 4, 0, 0, 0)), (28, .iconst 0, (0, 0, 0, 0, 0)), (29, .invokestatic 47, (169, 2, 0, 0, 0)), (32, .aload_n 0, (0, 0, 0, 0, 0)), (33, .getfield 24, (7, 5, 0, 0, 0)), (36, .iconst 0, (0, 0, 0, 0, 0)), (37, .invokestatic 47, (169, 2, 0, 0, 0)), (40, .aload_n 0, (0, 0, 0, 0, 0)), (41, .getfield 27, (7, 6, 0, 0, 0)), (44, .iconst (-1), (0, 0, 0, 0, 0)), (45, .invokestatic 47, (169, 2, 0, 0, 0)), (48, .aload_n 0, (0, 0, 0, 0, 0)), (49, .iconst 0, (0, 0, 0, 0, 0)), (50, .putfield 30, (7, 7, 0, 0, 0)), (53, .aload_n 0, (0, 0, 0, 0, 0)), (54, .iconst 0, (0, 0, 0, 0, 0)), (55, .putfield 34, (7, 8, 0, 0, 0)), (58, .return_, (0, 0, 0, 0, 0))]
def kP86 : List KEnt := [(0, .iload_n 1, (0, 0, 0, 0, 0)), (1, .tableswitch 191 0 6 #[43, 80, 100, 124, 138, 152, 176], (0, 0, 0, 0, 0)), (192, .iload_n 2, (0, 0, 0, 0, 0)), (193, .sipush 400, (0, 0, 0, 0, 0)), (196, .aload_n 0, (0, 0, 0, 0, 0)), (197, .getfield 34, (7, 8, 0, 0, 0)), (200, .isub, (0, 0, 0, 0, 0)), (201, .if_icmp .le 7, (0, 0, 0, 0, 0)), (208, .iconst 0, (0, 0, 0, 0, 0)), (209, .ireturn, (0, 0, 0, 0, 0))]
def kP87 : List KEnt := [(0, .aload_n 0, (0, 0, 0, 0, 0)), (1, .invokespecial 3, (999999, 0, 0, 0, 0)), (4, .aload_n 0, (0, 0, 0, 0, 0)), (5, .sipush 940, (0, 0, 0, 0, 0)), (8, .newarray .byte, (2, 0, 0, 0, 0)), (10, .putfield 9, (8, 0, 0, 0, 0)), (13, .aload_n 0, (0, 0, 0, 0, 0)), (14, .iconst 0, (0, 0, 0, 0, 0)), (15, .putfield 15, (8, 1, 0, 0, 0)), (18, .aload_n 0, (0, 0, 0, 0, 0)), (19, .iconst 0, (0, 0, 0, 0, 0)), (20, .putfield 19, (8, 2, 0, 0, 0)), (23, .aload_n 0, (0, 0, 0, 0, 0)), (24, .iconst 0, (0, 0, 0, 0, 0)), (25, .putfield 22, (8, 3, 0, 0, 0)), (28, .aload_n 0, (0, 0, 0, 0, 0)), (29, .iconst 0, (0, 0, 0, 0, 0)), (30, .putfield 25, (8, 4, 0, 0, 0)), (33, .aload_n 0, (0, 0, 0, 0, 0)), (34, .iconst 0, (0, 0, 0, 0, 0)), (35, .putfield 28, (8, 5, 0, 0, 0)), (38, .aload_n 0, (0, 0, 0, 0, 0)), (39, .iconst 0, (0, 0, 0, 0, 0)), (40, .putfield 31, (8, 6, 0, 0, 0)), (43, .aload_n 0, (0, 0, 0, 0, 0)), (44, .lconst 0, (0, 0, 0, 0, 0)), (45, .putfield 34, (8, 7, 0, 0, 0)), (48, .aload_n 0, (0, 0, 0, 0, 0)), (49, .aconst_null, (0, 0, 0, 0, 0)), (50, .putfield 38, (8, 8, 0, 0, 0)), (53, .aload_n 0, (0, 0, 0, 0, 0)), (54, .iconst 0, (0, 0, 0, 0, 0)), (55, .putfield 42, (8, 9, 0, 0, 0)), (58, .aload_n 0, (0, 0, 0, 0, 0)), (59, .iconst 0, (0, 0, 0, 0, 0)), (60, .putfield 45, (8, 10, 0, 0, 0)), (63, .return_, (0, 0, 0, 0, 0))]
def kP88 : List KEnt := [(0, .bipush 24, (0, 0, 0, 0, 0)), (2, .istore_n 2, (0, 0, 0, 0, 0)), (3, .iload_n 2, (0, 0, 0, 0, 0)), (4, .ifCond .lt 51, (0, 0, 0, 0, 0)), (7, .aload_n 0, (0, 0, 0, 0, 0)), (8, .getfield 15, (8, 1, 0, 0, 0)), (11, .ifCond .lt 38, (0, 0, 0, 0, 0)), (14, .aload_n 0, (0, 0, 0, 0, 0)), (15, .getfield 15, (8, 1, 0, 0, 0)), (18, .aload_n 0, (0, 0, 0, 0, 0)), (19, .getfield 9, (8, 0, 0, 0, 0)), (22, .arraylength, (0, 0, 0, 0, 0)), (23, .if_icmp .ge 26, (0, 0, 0, 0, 0)), (26, .aload_n 0, (0, 0, 0, 0, 0)), (27, .getfield 9, (8, 0, 0, 0, 0)), (30, .aload_n 0, (0, 0, 0, 0, 0)), (31, .getfield 15, (8, 1, 0, 0, 0)), (34, .iload_n 1, (0, 0, 0, 0, 0)), (35, .iload_n 2, (0, 0, 0, 0, 0)), (36, .iushr, (0, 0, 0, 0, 0)), (37, .i2b, (0, 0, 0, 0, 0)), (38, .bastore, (0, 0, 0, 0, 0)), (39, .aload_n 0, (0, 0, 0, 0, 0)), (40, .dup, (0, 0, 0, 0, 0)), (41, .getfield 15, (8, 1, 0, 0, 0)), (44, .iconst 1, (0, 0, 0, 0, 0)), (45, .iadd, (0, 0, 0, 0, 0)), (46, .putfield 15, (8, 1, 0, 0, 0)), (49, .iinc 2 (-8), (0, 0, 0, 0, 0)), (52, .goto (-49), (0, 0, 0, 0, 0)), (55, .return_, (0, 0, 0, 0, 0))]
def kP89 : List KEnt := [(0, .aload_n 0, (0, 0, 0, 0, 0)), (1, .aload_n 0, (0, 0, 0, 0, 0)), (2, .getfield 22, (8, 3, 0, 0, 0)), (5, .invokevirtual 51, (93, 1, 0, 0, 8)), (8, .istore_n 1, (0, 0, 0, 0, 0)), (9, .aload_n 0, (0, 0, 0, 0, 0)), (10, .getfield 22, (8, 3, 0, 0, 0)), (13, .aload_n 0, (0, 0, 0, 0, 0)), (14, .getfield 15, (8, 1, 0, 0, 0)), (17, .if_icmp .ge 37, (0, 0, 0, 0, 0)), (54, .aload_n 0, (0, 0, 0, 0, 0)), (55, .aload_n 0, (0, 0, 0, 0, 0)), (56, .getfield 22, (8, 3, 0, 0, 0)), (59, .putfield 28, (8, 5, 0, 0, 0)), (62, .aload_n 0, (0, 0, 0, 0, 0)), (63, .aconst_null, (0, 0, 0, 0, 0)), (64, .putfield 38, (8, 8, 0, 0, 0)), (67, .aload_n 0, (0, 0, 0, 0, 0)), (68, .getfield 15, (8, 1, 0, 0, 0)), (71, .aload_n 0, (0, 0, 0, 0, 0)), (72, .getfield 19, (8, 2, 0, 0, 0)), (75, .if_icmp .le 30, (0, 0, 0, 0, 0)), (105, .aload_n 0, (0, 0, 0, 0, 0)), (106, .getfield 22, (8, 3, 0, 0, 0)), (109, .aload_n 0, (0, 0, 0, 0, 0)), (110, .getfield 15, (8, 1, 0, 0, 0)), (113, .if_icmp .lt 11, (0, 0, 0, 0, 0)), (116, .aload_n 0, (0, 0, 0, 0, 0)), (117, .iconst 0, (0, 0, 0, 0, 0)), (118, .putfield 25, (8, 4, 0, 0, 0)), (121, .goto 94, (0, 0, 0, 0, 0)), (215, .return_, (0, 0, 0, 0, 0))]
def kP90 : List KEnt := [(0, .aload_n 0, (0, 0, 0, 0, 0)), (1, .iload_n 1, (0, 0, 0, 0, 0)), (2, .putfield 19, (8, 2, 0, 0, 0)), (5, .aload_n 0, (0, 0, 0, 0, 0)), (6, .iconst 0, (0, 0, 0, 0, 0)), (7, .putfield 22, (8, 3, 0, 0, 0)), (10, .aload_n 0, (0, 0, 0, 0, 0)), (11, .iconst 0, (0, 0, 0, 0, 0)), (12, .putfield 42, (8, 9, 0, 0, 0)), (15, .aload_n 0, (0, 0, 0, 0, 0)), (16, .iconst 0, (0, 0, 0, 0, 0)), (17, .putfield 45, (8, 10, 0, 0, 0)), (20, .aload_n 0, (0, 0, 0, 0, 0)), (21, .invokevirtual 48, (89, 0, 0, 0, 8)), (24, .return_, (0, 0, 0, 0, 0))]
def kP91 : List KEnt := [(0, .aload_n 0, (0, 0, 0, 0, 0)), (1, .getfield 25, (8, 4, 0, 0, 0)), (4, .iconst 3, (0, 0, 0, 0, 0)), (5, .if_icmp .ne 15, (0, 0, 0, 0, 0)), (20, .iconst 0, (0, 0, 0, 0, 0)), (21, .ireturn, (0, 0, 0, 0, 0))]
def kP92 : List KEnt := [(0, .aload_n 0, (0, 0, 0, 0, 0)), (1, .iload_n 1, (0, 0, 0, 0, 0)), (2, .putfield 42, (8, 9, 0, 0, 0)), (5, .aload_n 0, (0, 0, 0, 0, 0)), (6, .aload_n 0, (0, 0, 0, 0, 0)), (7, .getfield 28, (8, 5, 0, 0, 0)), (10, .putfield 45, (8, 10, 0, 0, 0)), (13, .iconst 0, (0, 0, 0, 0, 0)), (14, .ireturn, (0, 0, 0, 0, 0))]
def kP93 : List KEnt := [(0, .iload_n 1, (0, 0, 0, 0, 0)), (1, .ifCond .lt 33, (0, 0, 0, 0, 0)), (4, .iload_n 1, (0, 0, 0, 0, 0)), (5, .aload_n 0, (0, 0, 0, 0, 0)), (6, .getfield 15, (8, 1, 0, 0, 0)), (9, .if_icmp .ge 25, (0, 0, 0, 0, 0)), (34, .iconst (-1), (0, 0, 0, 0, 0)), (35, .ireturn, (0, 0, 0, 0, 0))]
def kP94 : List KEnt := [(0, .aload_n 0, (0, 0, 0, 0, 0)), (1, .invokespecial 3, (999999, 0, 0, 0, 0)), (4, .aload_n 0, (0, 0, 0, 0, 0)), (5, .bipush 8, (0, 0, 0, 0, 0)), (7, .anewarray 9, (5, 0, 0, 0, 0)), (10, .putfield 11, (9, 0, 0, 0, 0)), (13, .aload_n 0, (0, 0, 0, 0, 0)), (14, .iconst 0, (0, 0, 0, 0, 0)), (15, .putfield 17, (9, 1, 0, 0, 0)), (18, .aload_n 0, (0, 0, 0, 0, 0)), (19, .iconst 0, (0, 0, 0, 0, 0)), (20, .putfield 21, (9, 2, 0, 0, 0)), (23, .iconst 0, (0, 0, 0, 0, 0)), (24, .istore_n 2, (0, 0, 0, 0, 0)), (25, .iload_n 2, (0, 0, 0, 0, 0)), (26, .aload_n 0, (0, 0, 0, 0, 0)), (27, .getfield 11, (9, 0, 0, 0, 0)), (30, .arraylength, (0, 0, 0, 0, 0)), (31, .if_icmp .ge 23, (0, 0, 0, 0, 0)), (34, .aload_n 0, (0, 0, 0, 0, 0)), (35, .getfield 11, (9, 0, 0, 0, 0)), (38, .iload_n 2, (0, 0, 0, 0, 0)), (39, .new 9, (7, 0, 0, 0, 0)), (42, .dup, (0, 0, 0, 0, 0)), (43, .aload_n 1, (0, 0, 0, 0, 0)), (44, .invokespecial 24, (75, 1, 6, 120, 7)), (47, .aastore, (0, 0, 0, 0, 0)), (48, .iinc 2 1, (0, 0, 0, 0, 0)), (51, .goto (-26), (0, 0, 0, 0, 0)), (54, .return_, (0, 0, 0, 0, 0))]
def kP95 : List KEnt := [(0, .aload_n 0, (0, 0, 0, 0, 0)), (1, .iconst 0, (0, 0, 0, 0, 0)), (2, .putfield 21, (9, 2, 0, 0, 0)), (5, .return_, (0, 0, 0, 0, 0))]
def kP96 : List KEnt := [(0, .aload_n 0, (0, 0, 0, 0, 0)), (1, .getfield 17, (9, 1, 0, 0, 0)), (4, .ifCond .lt 15, (0, 0, 0, 0, 0)), (7, .aload_n 0, (0, 0, 0, 0, 0)), (8, .getfield 17, (9, 1, 0, 0, 0)), (11, .aload_n 0, (0, 0, 0, 0, 0)), (12, .getfield 11, (9, 0, 0, 0, 0)), (15, .arraylength, (0, 0, 0, 0, 0)), (16, .if_icmp .lt 4, (0, 0, 0, 0, 0)), (20, .aload_n 0, (0, 0, 0, 0, 0)), (21, .getfield 11, (9, 0, 0, 0, 0)), (24, .aload_n 0, (0, 0, 0, 0, 0)), (25, .getfield 17, (9, 1, 0, 0, 0)), (28, .aaload, (0, 0, 0, 0, 0)), (29, .aload_n 1, (0, 0, 0, 0, 0)), (30, .invokevirtual 27, (79, 1, 0, 0, 7)), (33, .aload_n 0, (0, 0, 0, 0, 0)), (34, .aload_n 0, (0, 0, 0, 0, 0)), (35, .getfield 17, (9, 1, 0, 0, 0)), (38, .iconst 1, (0, 0, 0, 0, 0)), (39, .iadd, (0, 0, 0, 0, 0)), (40, .aload_n 0, (0, 0, 0, 0, 0)), (41, .getfield 11, (9, 0, 0, 0, 0)), (44, .arraylength, (0, 0, 0, 0, 0)), (45, .if_icmp .ge 12, (0, 0, 0, 0, 0)), (48, .aload_n 0, (0, 0, 0, 0, 0)), (49, .getfield 17, (9, 1, 0, 0, 0)), (52, .iconst 1, (0, 0, 0, 0, 0)), (53, .iadd, (0, 0, 0, 0, 0)), (54, .goto 4, (0, 0, 0, 0, 0)), (58, .putfield 17, (9, 1, 0, 0, 0)), (61, .aload_n 0, (0, 0, 0, 0, 0)), (62, .aload_n 0, (0, 0, 0, 0, 0)), (63, .getfield 21, (9, 2, 0, 0, 0)), (66, .iconst 1, (0, 0, 0, 0, 0)), (67, .iadd, (0, 0, 0, 0, 0)), (68, .aload_n 0, (0, 0, 0, 0, 0)), (69, .getfield 11, (9, 0, 0, 0, 0)), (72, .arraylength, (0, 0, 0, 0, 0)), (73, .invokestatic 31, (999998, 0, 0, 0, 0)), (76, .putfield 21, (9, 2, 0, 0, 0)), (79, .return_, (0, 0, 0, 0, 0))]
def kP97 : List KEnt := [(0, .aload_n 0, (0, 0, 0, 0, 0)), (1, .getfield 17, (9, 1, 0, 0, 0)), (4, .ifCond .le 12, (0, 0, 0, 0, 0)), (16, .aload_n 0, (0, 0, 0, 0, 0)), (17, .getfield 11, (9, 0, 0, 0, 0)), (20, .arraylength, (0, 0, 0, 0, 0)), (21, .iconst 1, (0, 0, 0, 0, 0)), (22, .isub, (0, 0, 0, 0, 0)), (23, .istore_n 2, (0, 0, 0, 0, 0)), (24, .aload_n 0, (0, 0, 0, 0, 0)), (25, .getfield 21, (9, 2, 0, 0, 0)), (28, .ifCond .le 16, (0, 0, 0, 0, 0)), (44, .iconst (-1), (0, 0, 0, 0, 0)), (45, .ireturn, (0, 0, 0, 0, 0))]
def kP98 : List KEnt := [(0, .aload_n 0, (0, 0, 0, 0, 0)), (1, .invokespecial 93, (999999, 0, 0, 0, 0)), (4, .aload_n 0, (0, 0, 0, 0, 0)), (5, .sipush 940, (0, 0, 0, 0, 0)), (8, .newarray .int, (0, 0, 0, 0, 0)), (10, .putfield 7, (11, 1, 0, 0, 0)), (13, .aload_n 0, (0, 0, 0, 0, 0)), (14, .sipush 456, (0, 0, 0, 0, 0)), (17, .newarray .int, (0, 0, 0, 0, 0)), (19, .putfield 98, (11, 14, 0, 0, 0)), (22, .aload_n 0, (0, 0, 0, 0, 0)), (23, .bipush 92, (0, 0, 0, 0, 0)), (25, .newarray .int, (0, 0, 0, 0, 0)), (27, .putfield 101, (11, 15, 0, 0, 0)), (30, .aload_n 0, (0, 0, 0, 0, 0)), (31, .sipush 912, (0, 0, 0, 0, 0)), (34, .newarray .int, (0, 0, 0, 0, 0)), (36, .putfield 104, (11, 16, 0, 0, 0)), (39, .aload_n 0, (0, 0, 0, 0, 0)), (40, .sipush 976, (0, 0, 0, 0, 0)), (43, .newarray .int, (0, 0, 0, 0, 0)), (45, .putfield 107, (11, 17, 0, 0, 0)), (48, .aload_n 0, (0, 0, 0, 0, 0)), (49, .bipush 122, (0, 0, 0, 0, 0)), (51, .newarray .int, (0, 0, 0, 0, 0)), (53, .putfield 110, (11, 18, 0, 0, 0)), (56, .aload_n 0, (0, 0, 0, 0, 0)), (57, .bipush 16, (0, 0, 0, 0, 0)), (59, .newarray .long, (1, 0, 0, 0, 0)), (61, .putfield 113, (11, 19, 0, 0, 0)), (64, .aload_n 0, (0, 0, 0, 0, 0)), (65, .bipush 16, (0, 0, 0, 0, 0)), (67, .newarray .long, (1, 0, 0, 0, 0)), (69, .putfield 117, (11, 20, 0, 0, 0)), (72, .aload_n 0, (0, 0, 0, 0, 0)), (73, .bipush 32, (0, 0, 0, 0, 0)), (75, .newarray .long, (1, 0, 0, 0, 0)), (77, .putfield 120, (11, 21, 0, 0, 0)), (80, .aload_n 0, (0, 0, 0, 0, 0)), (81, .iconst 2, (0, 0, 0, 0, 0)), (82, .newarray .boolean, (4, 0, 0, 0, 0)), (84, .putfield 123, (11, 22, 0, 0, 0)), (87, .aload_n 0, (0, 0, 0, 0, 0)), (88, .bipush 24, (0, 0, 0, 0, 0)), (90, .newarray .int, (0, 0, 0, 0, 0)), (92, .putfield 127, (11, 25, 0, 0, 0)), (95, .aload_n 0, (0, 0, 0, 0, 0)), (96, .bipush 8, (0, 0, 0, 0, 0)), (98, .newarray .int, (0, 0, 0, 0, 0)), (100, .putfield 130, (11, 26, 0, 0, 0)), (103, .aload_n 0, (0, 0, 0, 0, 0)), (104, .bipush 24, (0, 0, 0, 0, 0)), (106, .newarray .boolean, (4, 0, 0, 0, 0)), (108, .putfield 133, (11, 27, 0, 0, 0)), (111, .aload_n 0, (0, 0, 0, 0, 0)), (112, .bipush 24, (0, 0, 0, 0, 0)), (114, .newarray .boolean, (4, 0, 0, 0, 0)), (116, .putfield 136, (11, 28, 0, 0, 0)), (119, .aload_n 0, (0, 0, 0, 0, 0)), (120, .iconst (-1), (0, 0, 0, 0, 0)), (121, .putfield 139, (11, 31, 0, 0, 0)), (124, .aload_n 0, (0, 0, 0, 0, 0)), (125, .iconst (-1), (0, 0, 0, 0, 0)), (126, .putfield 142, (11, 32, 0, 0, 0)), (129, .aload_n 0, (0, 0, 0, 0, 0)), (130, .bipush 64, (0, 0, 0, 0, 0)), (132, .newarray .int, (0, 0, 0, 0, 0)), (134, .putfield 145, (11, 33, 0, 0, 0)), (137, .aload_n 0, (0, 0, 0, 0, 0)), (138, .bipush 120, (0, 0, 0, 0, 0)), (140, .newarray .int, (0, 0, 0, 0, 0)), (142, .putfield 148, (11, 36, 0, 0, 0)), (145, .aload_n 0, (0, 0, 0, 0, 0)), (146, .iconst 4, (0, 0, 0, 0, 0)), (147, .newarray .int, (0, 0, 0, 0, 0)), (149, .putfield 151, (11, 37, 0, 0, 0)), (152, .aload_n 0, (0, 0, 0, 0, 0)), (153, .sipush 240, (0, 0, 0, 0, 0)), (156, .newarray .int, (0, 0, 0, 0, 0)), (158, .putfield 154, (11, 40, 0, 0, 0)), (161, .aload_n 0, (0, 0, 0, 0, 0)), (162, .invokevirtual 157, (159, 0, 0, 0, 11)), (165, .return_, (0, 0, 0, 0, 0))]
def kP99 : List KEnt := [(0, .iload 4, (0, 0, 0, 0, 0)), (2, .ifCond .ne 5, (0, 0, 0, 0, 0)), (5, .iconst (-1), (0, 0, 0, 0, 0)), (6, .ireturn, (0, 0, 0, 0, 0))]
def kP100 : List KEnt := [(0, .aload_n 0, (0, 0, 0, 0, 0)), (1, .iconst 0, (0, 0, 0, 0, 0)), (2, .putfield 1, (11, 0, 0, 0, 0)), (5, .aload_n 0, (0, 0, 0, 0, 0)), (6, .getfield 139, (11, 31, 0, 0, 0)), (9, .ireturn, (0, 0, 0, 0, 0))]
def kP101 : List KEnt := [(0, .aload_n 0, (0, 0, 0, 0, 0)), (1, .iconst 0, (0, 0, 0, 0, 0)), (2, .putfield 1, (11, 0, 0, 0, 0)), (5, .aload_n 0, (0, 0, 0, 0, 0)), (6, .iconst 4, (0, 0, 0, 0, 0)), (7, .iload_n 1, (0, 0, 0, 0, 0)), (8, .iconst 0, (0, 0, 0, 0, 0)), (9, .aload_n 0, (0, 0, 0, 0, 0)), (10, .iload_n 1, (0, 0, 0, 0, 0)), (11, .invokevirtual 257, (126, 1, 0, 0, 11)), (14, .invokevirtual 286, (99, 4, 0, 0, 11)), (17, .ireturn, (0, 0, 0, 0, 0))]
def kP102 : List KEnt := [(0, .aload_n 0, (0, 0, 0, 0, 0)), (1, .aload_n 0, (0, 0, 0, 0, 0)), (2, .getfield 30, (11, 7, 0, 0, 0)), (5, .iconst 1, (0, 0, 0, 0, 0)), (6, .if_icmp .ne 7, (0, 0, 0, 0, 0)), (13, .iload_n 1, (0, 0, 0, 0, 0)), (14, .putfield 66, (11, 10, 0, 0, 0)), (17, .aload_n 0, (0, 0, 0, 0, 0)), (18, .aload_n 0, (0, 0, 0, 0, 0)), (19, .getfield 24, (11, 6, 0, 0, 0)), (22, .putfield 69, (11, 11, 0, 0, 0)), (25, .iconst 0, (0, 0, 0, 0, 0)), (26, .ireturn, (0, 0, 0, 0, 0))]
def kP103 : List KEnt := [(0, .aload_n 0, (0, 0, 0, 0, 0)), (1, .iconst 0, (0, 0, 0, 0, 0)), (2, .putfield 1, (11, 0, 0, 0, 0)), (5, .aload_n 0, (0, 0, 0, 0, 0)), (6, .aload_n 0, (0, 0, 0, 0, 0)), (7, .invokevirtual 89, (162, 0, 0, 0, 11)), (10, .putfield 18, (11, 3, 0, 0, 0)), (13, .aload_n 0, (0, 0, 0, 0, 0)), (14, .iload_n 1, (0, 0, 0, 0, 0)), (15, .putfield 27, (11, 4, 0, 0, 0)), (18, .aload_n 0, (0, 0, 0, 0, 0)), (19, .iconst 0, (0, 0, 0, 0, 0)), (20, .putfield 66, (11, 10, 0, 0, 0)), (23, .aload_n 0, (0, 0, 0, 0, 0)), (24, .iconst 0, (0, 0, 0, 0, 0)), (25, .putfield 21, (11, 5, 0, 0, 0)), (28, .aload_n 0, (0, 0, 0, 0, 0)), (29, .invokevirtual 82, (121, 0, 0, 0, 11)), (32, .return_, (0, 0, 0, 0, 0))]
def kP104 : List KEnt := [(0, .iconst 0, (0, 0, 0, 0, 0)), (1, .istore_n 1, (0, 0, 0, 0, 0)), (2, .iload_n 0, (0, 0, 0, 0, 0)), (3, .istore_n 2, (0, 0, 0, 0, 0)), (4, .iload_n 2, (0, 0, 0, 0, 0)), (5, .ifCond .eq 15, (0, 0, 0, 0, 0)), (20, .iload_n 1, (0, 0, 0, 0, 0)), (21, .ireturn, (0, 0, 0, 0, 0))]
def kP105 : List KEnt := [(0, .aload_n 0, (0, 0, 0, 0, 0)), (1, .iconst 0, (0, 0, 0, 0, 0)), (2, .putfield 1, (11, 0, 0, 0, 0)), (5, .iload_n 1, (0, 0, 0, 0, 0)), (6, .iconst 0, (0, 0, 0, 0, 0)), (7, .iconst 1, (0, 0, 0, 0, 0)), (8, .invokestatic 75, (125, 3, 0, 0, 11)), (11, .ifCond .ne 7, (0, 0, 0, 0, 0)), (14, .sipush (-1000), (0, 0, 0, 0, 0)), (17, .ireturn, (0, 0, 0, 0, 0)), (18, .aload_n 0, (0, 0, 0, 0, 0)), (19, .sipush 400, (0, 0, 0, 0, 0)), (22, .invokevirtual 216, (103, 1, 0, 0, 11)), (25, .aload_n 0, (0, 0, 0, 0, 0)), (26, .iconst 0, (0, 0, 0, 0, 0)), (27, .putfield 384, (11, 38, 0, 0, 0)), (30, .aload_n 0, (0, 0, 0, 0, 0)), (31, .getfield 30, (11, 7, 0, 0, 0)), (34, .ifCond .eq 31, (0, 0, 0, 0, 0)), (65, .aload_n 0, (0, 0, 0, 0, 0)), (66, .invokevirtual 366, (129, 0, 0, 0, 11)), (69, .iconst 0, (0, 0, 0, 0, 0)), (70, .istore_n 2, (0, 0, 0, 0, 0)), (71, .iconst 0, (0, 0, 0, 0, 0)), (72, .istore_n 3, (0, 0, 0, 0, 0)), (73, .iload_n 2, (0, 0, 0, 0, 0)), (74, .aload_n 0, (0, 0, 0, 0, 0)), (75, .getfield 384, (11, 38, 0, 0, 0)), (78, .if_icmp .ge 25, (0, 0, 0, 0, 0)), (103, .aload_n 0, (0, 0, 0, 0, 0)), (104, .getfield 151, (11, 37, 0, 0, 0)), (107, .iconst 0, (0, 0, 0, 0, 0)), (108, .iload_n 3, (0, 0, 0, 0, 0)), (109, .iastore, (0, 0, 0, 0, 0)), (110, .aload_n 0, (0, 0, 0, 0, 0)), (111, .getfield 151, (11, 37, 0, 0, 0)), (114, .iconst 1, (0, 0, 0, 0, 0)), (115, .iload_n 2, (0, 0, 0, 0, 0)), (116, .iastore, (0, 0, 0, 0, 0)), (117, .aload_n 0, (0, 0, 0, 0, 0)), (118, .getfield 151, (11, 37, 0, 0, 0)), (121, .iconst 2, (0, 0, 0, 0, 0)), (122, .aload_n 0, (0, 0, 0, 0, 0)), (123, .getfield 98, (11, 14, 0, 0, 0)), (126, .bipush 92, (0, 0, 0, 0, 0)), (128, .iaload, (0, 0, 0, 0, 0)), (129, .iastore, (0, 0, 0, 0, 0)), (130, .aload_n 0, (0, 0, 0, 0, 0)), (131, .getfield 151, (11, 37, 0, 0, 0)), (134, .iconst 3, (0, 0, 0, 0, 0)), (135, .aload_n 0, (0, 0, 0, 0, 0)), (136, .iconst 2, (0, 0, 0, 0, 0)), (137, .invokevirtual 263, (163, 1, 0, 0, 11)), (140, .iastore, (0, 0, 0, 0, 0)), (141, .aload_n 0, (0, 0, 0, 0, 0)), (142, .iconst 1, (0, 0, 0, 0, 0)), (143, .putfield 396, (11, 39, 0, 0, 0)), (146, .aload_n 0, (0, 0, 0, 0, 0)), (147, .iload_n 1, (0, 0, 0, 0, 0)), (148, .iconst 1, (0, 0, 0, 0, 0)), (149, .if_icmp .ne 11, (0, 0, 0, 0, 0)), (152, .iload_n 2, (0, 0, 0, 0, 0)), (153, .ifCond .le 7, (0, 0, 0, 0, 0)), (160, .iconst 0, (0, 0, 0, 0, 0)), (161, .invokevirtual 399, (160, 1, 0, 0, 11)), (164, .iload_n 3, (0, 0, 0, 0, 0)), (165, .ifCond .ne 7, (0, 0, 0, 0, 0)), (168, .iconst (-1), (0, 0, 0, 0, 0)), (169, .goto 4, (0, 0, 0, 0, 0)), (173, .ireturn, (0, 0, 0, 0, 0))]
def kP106 : List KEnt := [(0, .aload_n 0, (0, 0, 0, 0, 0)), (1, .iconst 0, (0, 0, 0, 0, 0)), (2, .putfield 1, (11, 0, 0, 0, 0)), (5, .iload_n 1, (0, 0, 0, 0, 0)), (6, .iconst 0, (0, 0, 0, 0, 0)), (7, .aload_n 0, (0, 0, 0, 0, 0)), (8, .getfield 337, (11, 34, 0, 0, 0)), (11, .iconst 1, (0, 0, 0, 0, 0)), (12, .isub, (0, 0, 0, 0, 0)), (13, .invokestatic 75, (125, 3, 0, 0, 11)), (16, .ifCond .eq 12, (0, 0, 0, 0, 0)), (28, .iconst (-1), (0, 0, 0, 0, 0)), (29, .ireturn, (0, 0, 0, 0, 0))]
def kP107 : List KEnt := [(0, .aload_n 0, (0, 0, 0, 0, 0)), (1, .iconst 0, (0, 0, 0, 0, 0)), (2, .putfield 1, (11, 0, 0, 0, 0)), (5, .aload_n 0, (0, 0, 0, 0, 0)), (6, .iload_n 1, (0, 0, 0, 0, 0)), (7, .invokevirtual 251, (124, 1, 0, 0, 11)), (10, .ifCond .eq 11, (0, 0, 0, 0, 0)), (21, .iconst (-1), (0, 0, 0, 0, 0)), (22, .ireturn, (0, 0, 0, 0, 0))]
def kP108 : List KEnt := [(0, .aload_n 0, (0, 0, 0, 0, 0)), (1, .iconst 0, (0, 0, 0, 0, 0)), (2, .putfield 1, (11, 0, 0, 0, 0)), (5, .aload_n 0, (0, 0, 0, 0, 0)), (6, .iconst 5, (0, 0, 0, 0, 0)), (7, .iload_n 1, (0, 0, 0, 0, 0)), (8, .iconst 0, (0, 0, 0, 0, 0)), (9, .aload_n 0, (0, 0, 0, 0, 0)), (10, .iload_n 1, (0, 0, 0, 0, 0)), (11, .invokevirtual 251, (124, 1, 0, 0, 11)), (14, .invokevirtual 286, (99, 4, 0, 0, 11)), (17, .ireturn, (0, 0, 0, 0, 0))]
def kP109 : List KEnt := [(0, .bipush 24, (0, 0, 0, 0, 0)), (2, .istore_n 2, (0, 0, 0, 0, 0)), (3, .iload_n 2, (0, 0, 0, 0, 0)), (4, .ifCond .lt 35, (0, 0, 0, 0, 0)), (7, .aload_n 0, (0, 0, 0, 0, 0)), (8, .getfield 7, (11, 1, 0, 0, 0)), (11, .aload_n 0, (0, 0, 0, 0, 0)), (12, .getfield 11, (11, 2, 0, 0, 0)), (15, .iload_n 1, (0, 0, 0, 0, 0)), (16, .iload_n 2, (0, 0, 0, 0, 0)), (17, .iushr, (0, 0, 0, 0, 0)), (18, .sipush 255, (0, 0, 0, 0, 0)), (21, .iand, (0, 0, 0, 0, 0)), (22, .iastore, (0, 0, 0, 0, 0)), (23, .aload_n 0, (0, 0, 0, 0, 0)), (24, .dup, (0, 0, 0, 0, 0)), (25, .getfield 11, (11, 2, 0, 0, 0)), (28, .iconst 1, (0, 0, 0, 0, 0)), (29, .iadd, (0, 0, 0, 0, 0)), (30, .putfield 11, (11, 2, 0, 0, 0)), (33, .iinc 2 (-8), (0, 0, 0, 0, 0)), (36, .goto (-33), (0, 0, 0, 0, 0)), (39, .return_, (0, 0, 0, 0, 0))]
def kP110 : List KEnt := [(0, .aload_n 0, (0, 0, 0, 0, 0)), (1, .iconst 0, (0, 0, 0, 0, 0)), (2, .putfield 1, (11, 0, 0, 0, 0)), (5, .iload_n 1, (0, 0, 0, 0, 0)), (6, .tableswitch 56 0 3 #[30, 37, 44, 51], (0, 0, 0, 0, 0)), (36, .aload_n 0, (0, 0, 0, 0, 0)), (37, .getfield 98, (11, 14, 0, 0, 0)), (40, .iconst 0, (0, 0, 0, 0, 0)), (41, .iaload, (0, 0, 0, 0, 0)), (42, .ireturn, (0, 0, 0, 0, 0)), (43, .aload_n 0, (0, 0, 0, 0, 0)), (44, .getfield 98, (11, 14, 0, 0, 0)), (47, .iconst 1, (0, 0, 0, 0, 0)), (48, .iaload, (0, 0, 0, 0, 0)), (49, .ireturn, (0, 0, 0, 0, 0)), (50, .aload_n 0, (0, 0, 0, 0, 0)), (51, .getfield 98, (11, 14, 0, 0, 0)), (54, .iconst 2, (0, 0, 0, 0, 0)), (55, .iaload, (0, 0, 0, 0, 0)), (56, .ireturn, (0, 0, 0, 0, 0)), (57, .aload_n 0, (0, 0, 0, 0, 0)), (58, .getfield 11, (11, 2, 0, 0, 0)), (61, .ireturn, (0, 0, 0, 0, 0)), (62, .iconst (-1), (0, 0, 0, 0, 0)), (63, .ireturn, (0, 0, 0, 0, 0))]
def kP111 : List KEnt := [(0, .aload_n 0, (0, 0, 0, 0, 0)), (1, .iconst 0, (0, 0, 0, 0, 0)), (2, .putfield 1, (11, 0, 0, 0, 0)), (5, .iconst 0, (0, 0, 0, 0, 0)), (6, .istore_n 1, (0, 0, 0, 0, 0)), (7, .iconst 0, (0, 0, 0, 0, 0)), (8, .istore_n 2, (0, 0, 0, 0, 0)), (9, .iload_n 2, (0, 0, 0, 0, 0)), (10, .aload_n 0, (0, 0, 0, 0, 0)), (11, .getfield 98, (11, 14, 0, 0, 0)), (14, .iconst 1, (0, 0, 0, 0, 0)), (15, .iaload, (0, 0, 0, 0, 0)), (16, .if_icmp .ge 20, (0, 0, 0, 0, 0)), (36, .iconst (-1), (0, 0, 0, 0, 0)), (37, .istore_n 2, (0, 0, 0, 0, 0)), (38, .iconst 0, (0, 0, 0, 0, 0)), (39, .istore_n 3, (0, 0, 0, 0, 0)), (40, .iload_n 3, (0, 0, 0, 0, 0)), (41, .iconst 1, (0, 0, 0, 0, 0)), (42, .aload_n 0, (0, 0, 0, 0, 0)), (43, .getfield 98, (11, 14, 0, 0, 0)), (46, .iconst 0, (0, 0, 0, 0, 0)), (47, .iaload, (0, 0, 0, 0, 0)), (48, .ishl, (0, 0, 0, 0, 0)), (49, .if_icmp .ge 36, (0, 0, 0, 0, 0)), (52, .iload_n 2, (0, 0, 0, 0, 0)), (53, .iconst (-1), (0, 0, 0, 0, 0)), (54, .if_icmp .eq 14, (0, 0, 0, 0, 0)), (68, .aload_n 0, (0, 0, 0, 0, 0)), (69, .iload_n 3, (0, 0, 0, 0, 0)), (70, .invokevirtual 334, (154, 1, 0, 0, 11)), (73, .iload_n 1, (0, 0, 0, 0, 0)), (74, .if_icmp .ne 5, (0, 0, 0, 0, 0)), (77, .iload_n 3, (0, 0, 0, 0, 0)), (78, .istore_n 2, (0, 0, 0, 0, 0)), (79, .iinc 3 1, (0, 0, 0, 0, 0)), (82, .goto (-42), (0, 0, 0, 0, 0)), (85, .iload_n 2, (0, 0, 0, 0, 0)), (86, .iconst (-1), (0, 0, 0, 0, 0)), (87, .if_icmp .ne 5, (0, 0, 0, 0, 0)), (92, .aload_n 0, (0, 0, 0, 0, 0)), (93, .iload_n 2, (0, 0, 0, 0, 0)), (94, .putfield 142, (11, 32, 0, 0, 0)), (97, .iload_n 2, (0, 0, 0, 0, 0)), (98, .invokestatic 326, (104, 1, 0, 0, 11)), (101, .ireturn, (0, 0, 0, 0, 0))]
def kP112 : List KEnt := [(0, .aload_n 0, (0, 0, 0, 0, 0)), (1, .iconst 0, (0, 0, 0, 0, 0)), (2, .putfield 1, (11, 0, 0, 0, 0)), (5, .aload_n 0, (0, 0, 0, 0, 0)), (6, .getfield 142, (11, 32, 0, 0, 0)), (9, .ireturn, (0, 0, 0, 0, 0))]
def kP113 : List KEnt := [(0, .aload_n 0, (0, 0, 0, 0, 0)), (1, .iconst 0, (0, 0, 0, 0, 0)), (2, .putfield 1, (11, 0, 0, 0, 0)), (5, .iload_n 1, (0, 0, 0, 0, 0)), (6, .iconst 1, (0, 0, 0, 0, 0)), (7, .bipush 60, (0, 0, 0, 0, 0)), (9, .invokestatic 75, (125, 3, 0, 0, 11)), (12, .ifCond .ne 5, (0, 0, 0, 0, 0)), (15, .iconst (-1), (0, 0, 0, 0, 0)), (16, .ireturn, (0, 0, 0, 0, 0)), (17, .aload_n 0, (0, 0, 0, 0, 0)), (18, .getfield 98, (11, 14, 0, 0, 0)), (21, .bipush 92, (0, 0, 0, 0, 0)), (23, .iaload, (0, 0, 0, 0, 0)), (24, .sipush 400, (0, 0, 0, 0, 0)), (27, .if_icmp .ne 5, (0, 0, 0, 0, 0)), (32, .aload_n 0, (0, 0, 0, 0, 0)), (33, .invokevirtual 279, (156, 0, 0, 0, 11)), (36, .aload_n 0, (0, 0, 0, 0, 0)), (37, .iload_n 1, (0, 0, 0, 0, 0)), (38, .invokevirtual 296, (142, 1, 0, 0, 11)), (41, .ireturn, (0, 0, 0, 0, 0))]
def kP114 : List KEnt := [(0, .aload_n 0, (0, 0, 0, 0, 0)), (1, .iconst 0, (0, 0, 0, 0, 0)), (2, .putfield 1, (11, 0, 0, 0, 0)), (5, .iload_n 1, (0, 0, 0, 0, 0)), (6, .iconst 1, (0, 0, 0, 0, 0)), (7, .bipush 60, (0, 0, 0, 0, 0)), (9, .invokestatic 75, (125, 3, 0, 0, 11)), (12, .ifCond .eq 12, (0, 0, 0, 0, 0)), (15, .aload_n 0, (0, 0, 0, 0, 0)), (16, .getfield 98, (11, 14, 0, 0, 0)), (19, .iconst 0, (0, 0, 0, 0, 0)), (20, .iaload, (0, 0, 0, 0, 0)), (21, .ifCond .ne 5, (0, 0, 0, 0, 0)), (24, .iconst (-1), (0, 0, 0, 0, 0)), (25, .ireturn, (0, 0, 0, 0, 0))]
def kP115 : List KEnt := [(0, .aload_n 0, (0, 0, 0, 0, 0)), (1, .iconst 0, (0, 0, 0, 0, 0)), (2, .putfield 1, (11, 0, 0, 0, 0)), (5, .aload_n 0, (0, 0, 0, 0, 0)), (6, .iload_n 1, (0, 0, 0, 0, 0)), (7, .invokevirtual 251, (124, 1, 0, 0, 11)), (10, .ifCond .eq 28, (0, 0, 0, 0, 0)), (38, .iconst (-1), (0, 0, 0, 0, 0)), (39, .ireturn, (0, 0, 0, 0, 0))]
def kP116 : List KEnt := [(0, .aload_n 0, (0, 0, 0, 0, 0)), (1, .iconst 0, (0, 0, 0, 0, 0)), (2, .putfield 1, (11, 0, 0, 0, 0)), (5, .iload_n 1, (0, 0, 0, 0, 0)), (6, .ifCond .lt 11, (0, 0, 0, 0, 0)), (9, .iload_n 1, (0, 0, 0, 0, 0)), (10, .aload_n 0, (0, 0, 0, 0, 0)), (11, .getfield 11, (11, 2, 0, 0, 0)), (14, .if_icmp .le 5, (0, 0, 0, 0, 0)), (17, .iconst 0, (0, 0, 0, 0, 0)), (18, .ireturn, (0, 0, 0, 0, 0)), (19, .aload_n 0, (0, 0, 0, 0, 0)), (20, .iload_n 1, (0, 0, 0, 0, 0)), (21, .putfield 11, (11, 2, 0, 0, 0)), (24, .iconst 1, (0, 0, 0, 0, 0)), (25, .ireturn, (0, 0, 0, 0, 0))]
def kP117 : List KEnt := [(0, .aload_n 0, (0, 0, 0, 0, 0)), (1, .iconst 0, (0, 0, 0, 0, 0)), (2, .putfield 1, (11, 0, 0, 0, 0)), (5, .aload_n 0, (0, 0, 0, 0, 0)), (6, .getfield 66, (11, 10, 0, 0, 0)), (9, .ireturn, (0, 0, 0, 0, 0))]
def kP118 : List KEnt := [(0, .aload_n 0, (0, 0, 0, 0, 0)), (1, .iconst 0, (0, 0, 0, 0, 0)), (2, .putfield 1, (11, 0, 0, 0, 0)), (5, .aload_n 0, (0, 0, 0, 0, 0)), (6, .getfield 11, (11, 2, 0, 0, 0)), (9, .bipush 20, (0, 0, 0, 0, 0)), (11, .iadd, (0, 0, 0, 0, 0)), (12, .sipush 940, (0, 0, 0, 0, 0)), (15, .if_icmp .le 5, (0, 0, 0, 0, 0)), (20, .aload_n 0, (0, 0, 0, 0, 0)), (21, .iload_n 1, (0, 0, 0, 0, 0)), (22, .invokevirtual 14, (109, 1, 0, 0, 11)), (25, .aload_n 0, (0, 0, 0, 0, 0)), (26, .iload_n 2, (0, 0, 0, 0, 0)), (27, .invokevirtual 14, (109, 1, 0, 0, 11)), (30, .aload_n 0, (0, 0, 0, 0, 0)), (31, .iload_n 3, (0, 0, 0, 0, 0)), (32, .invokevirtual 14, (109, 1, 0, 0, 11)), (35, .aload_n 0, (0, 0, 0, 0, 0)), (36, .iload 4, (0, 0, 0, 0, 0)), (38, .invokevirtual 14, (109, 1, 0, 0, 11)), (41, .aload_n 0, (0, 0, 0, 0, 0)), (42, .iload 5, (0, 0, 0, 0, 0)), (44, .invokevirtual 14, (109, 1, 0, 0, 11)), (47, .aload_n 0, (0, 0, 0, 0, 0)), (48, .getfield 11, (11, 2, 0, 0, 0)), (51, .ireturn, (0, 0, 0, 0, 0))]
def kP119 : List KEnt := [(0, .aload_n 0, (0, 0, 0, 0, 0)), (1, .iconst 0, (0, 0, 0, 0, 0)), (2, .putfield 1, (11, 0, 0, 0, 0)), (5, .aload_n 0, (0, 0, 0, 0, 0)), (6, .invokevirtual 89, (162, 0, 0, 0, 11)), (9, .istore_n 1, (0, 0, 0, 0, 0)), (10, .iload_n 1, (0, 0, 0, 0, 0)), (11, .iconst 1, (0, 0, 0, 0, 0)), (12, .iconst 3, (0, 0, 0, 0, 0)), (13, .invokestatic 75, (125, 3, 0, 0, 11)), (16, .ifCond .ne 5, (0, 0, 0, 0, 0)), (19, .iconst (-1), (0, 0, 0, 0, 0)), (20, .ireturn, (0, 0, 0, 0, 0))]
def kP120 : List KEnt := [(0, .aload_n 0, (0, 0, 0, 0, 0)), (1, .iconst 0, (0, 0, 0, 0, 0)), (2, .putfield 1, (11, 0, 0, 0, 0)), (5, .aload_n 0, (0, 0, 0, 0, 0)), (6, .iload_n 1, (0, 0, 0, 0, 0)), (7, .invokevirtual 251, (124, 1, 0, 0, 11)), (10, .ifCond .ne 8, (0, 0, 0, 0, 0)), (13, .aload_n 0, (0, 0, 0, 0, 0)), (14, .invokevirtual 254, (147, 0, 0, 0, 11)), (17, .ireturn, (0, 0, 0, 0, 0))]
def kP121 : List KEnt := [(0, .aload_n 0, (0, 0, 0, 0, 0)), (1, .getfield 21, (11, 5, 0, 0, 0)), (4, .aload_n 0, (0, 0, 0, 0, 0)), (5, .getfield 18, (11, 3, 0, 0, 0)), (8, .if_icmp .ge 44, (0, 0, 0, 0, 0)), (52, .aload_n 0, (0, 0, 0, 0, 0)), (53, .aload_n 0, (0, 0, 0, 0, 0)), (54, .getfield 21, (11, 5, 0, 0, 0)), (57, .putfield 24, (11, 6, 0, 0, 0)), (60, .aload_n 0, (0, 0, 0, 0, 0)), (61, .getfield 18, (11, 3, 0, 0, 0)), (64, .aload_n 0, (0, 0, 0, 0, 0)), (65, .getfield 27, (11, 4, 0, 0, 0)), (68, .if_icmp .le 28, (0, 0, 0, 0, 0)), (96, .aload_n 0, (0, 0, 0, 0, 0)), (97, .getfield 21, (11, 5, 0, 0, 0)), (100, .aload_n 0, (0, 0, 0, 0, 0)), (101, .getfield 18, (11, 3, 0, 0, 0)), (104, .if_icmp .lt 9, (0, 0, 0, 0, 0)), (107, .aload_n 0, (0, 0, 0, 0, 0)), (108, .iconst 0, (0, 0, 0, 0, 0)), (109, .putfield 30, (11, 7, 0, 0, 0)), (112, .return_, (0, 0, 0, 0, 0))]
def kP122 : List KEnt := [(0, .aload_n 0, (0, 0, 0, 0, 0)), (1, .iconst 0, (0, 0, 0, 0, 0)), (2, .putfield 1, (11, 0, 0, 0, 0)), (5, .aload_n 0, (0, 0, 0, 0, 0)), (6, .iload_n 1, (0, 0, 0, 0, 0)), (7, .invokevirtual 257, (126, 1, 0, 0, 11)), (10, .ifCond .eq 20, (0, 0, 0, 0, 0)), (30, .iconst (-1), (0, 0, 0, 0, 0)), (31, .ireturn, (0, 0, 0, 0, 0))]
def kP123 : List KEnt := [(0, .aload_n 0, (0, 0, 0, 0, 0)), (1, .iconst 0, (0, 0, 0, 0, 0)), (2, .putfield 1, (11, 0, 0, 0, 0)), (5, .iload_n 1, (0, 0, 0, 0, 0)), (6, .iconst 0, (0, 0, 0, 0, 0)), (7, .iconst 1, (0, 0, 0, 0, 0)), (8, .invokestatic 75, (125, 3, 0, 0, 11)), (11, .ifCond .ne 5, (0, 0, 0, 0, 0)), (14, .iconst 0, (0, 0, 0, 0, 0)), (15, .ireturn, (0, 0, 0, 0, 0)), (16, .iconst 0, (0, 0, 0, 0, 0)), (17, .istore_n 2, (0, 0, 0, 0, 0)), (18, .iload_n 2, (0, 0, 0, 0, 0)), (19, .sipush 456, (0, 0, 0, 0, 0)), (22, .if_icmp .ge 27, (0, 0, 0, 0, 0)), (25, .aload_n 0, (0, 0, 0, 0, 0)), (26, .getfield 104, (11, 16, 0, 0, 0)), (29, .sipush 456, (0, 0, 0, 0, 0)), (32, .iload_n 1, (0, 0, 0, 0, 0)), (33, .imul, (0, 0, 0, 0, 0)), (34, .iload_n 2, (0, 0, 0, 0, 0)), (35, .iadd, (0, 0, 0, 0, 0)), (36, .aload_n 0, (0, 0, 0, 0, 0)), (37, .getfield 98, (11, 14, 0, 0, 0)), (40, .iload_n 2, (0, 0, 0, 0, 0)), (41, .iaload, (0, 0, 0, 0, 0)), (42, .iastore, (0, 0, 0, 0, 0)), (43, .iinc 2 1, (0, 0, 0, 0, 0)), (46, .goto (-28), (0, 0, 0, 0, 0)), (49, .iconst 0, (0, 0, 0, 0, 0)), (50, .istore_n 2, (0, 0, 0, 0, 0)), (51, .iload_n 2, (0, 0, 0, 0, 0)), (52, .bipush 16, (0, 0, 0, 0, 0)), (54, .if_icmp .ge 26, (0, 0, 0, 0, 0)), (57, .aload_n 0, (0, 0, 0, 0, 0)), (58, .getfield 120, (11, 21, 0, 0, 0)), (61, .bipush 16, (0, 0, 0, 0, 0)), (63, .iload_n 1, (0, 0, 0, 0, 0)), (64, .imul, (0, 0, 0, 0, 0)), (65, .iload_n 2, (0, 0, 0, 0, 0)), (66, .iadd, (0, 0, 0, 0, 0)), (67, .aload_n 0, (0, 0, 0, 0, 0)), (68, .getfield 113, (11, 19, 0, 0, 0)), (71, .iload_n 2, (0, 0, 0, 0, 0)), (72, .laload, (0, 0, 0, 0, 0)), (73, .lastore, (0, 0, 0, 0, 0)), (74, .iinc 2 1, (0, 0, 0, 0, 0)), (77, .goto (-26), (0, 0, 0, 0, 0)), (80, .aload_n 0, (0, 0, 0, 0, 0)), (81, .getfield 123, (11, 22, 0, 0, 0)), (84, .iload_n 1, (0, 0, 0, 0, 0)), (85, .iconst 1, (0, 0, 0, 0, 0)), (86, .bastore, (0, 0, 0, 0, 0)), (87, .iconst 1, (0, 0, 0, 0, 0)), (88, .ireturn, (0, 0, 0, 0, 0))]
def kP124 : List KEnt := [(0, .iload_n 1, (0, 0, 0, 0, 0)), (1, .iconst 0, (0, 0, 0, 0, 0)), (2, .aload_n 0, (0, 0, 0, 0, 0)), (3, .getfield 98, (11, 14, 0, 0, 0)), (6, .iconst 1, (0, 0, 0, 0, 0)), (7, .iaload, (0, 0, 0, 0, 0)), (8, .iconst 1, (0, 0, 0, 0, 0)), (9, .isub, (0, 0, 0, 0, 0)), (10, .invokestatic 75, (125, 3, 0, 0, 11)), (13, .ireturn, (0, 0, 0, 0, 0))]
def kP125 : List KEnt := [(0, .iload_n 0, (0, 0, 0, 0, 0)), (1, .iload_n 1, (0, 0, 0, 0, 0)), (2, .if_icmp .lt 12, (0, 0, 0, 0, 0)), (5, .iload_n 0, (0, 0, 0, 0, 0)), (6, .iload_n 2, (0, 0, 0, 0, 0)), (7, .if_icmp .gt 7, (0, 0, 0, 0, 0)), (10, .iconst 1, (0, 0, 0, 0, 0)), (11, .goto 4, (0, 0, 0, 0, 0)), (14, .iconst 0, (0, 0, 0, 0, 0)), (15, .ireturn, (0, 0, 0, 0, 0))]
def kP126 : List KEnt := [(0, .iload_n 1, (0, 0, 0, 0, 0)), (1, .iconst 0, (0, 0, 0, 0, 0)), (2, .aload_n 0, (0, 0, 0, 0, 0)), (3, .getfield 98, (11, 14, 0, 0, 0)), (6, .iconst 0, (0, 0, 0, 0, 0)), (7, .iaload, (0, 0, 0, 0, 0)), (8, .iconst 1, (0, 0, 0, 0, 0)), (9, .isub, (0, 0, 0, 0, 0)), (10, .invokestatic 75, (125, 3, 0, 0, 11)), (13, .ireturn, (0, 0, 0, 0, 0))]
def kP127 : List KEnt := [(0, .aload_n 0, (0, 0, 0, 0, 0)), (1, .getfield 30, (11, 7, 0, 0, 0)), (4, .iconst 4, (0, 0, 0, 0, 0)), (5, .if_icmp .ne 15, (0, 0, 0, 0, 0)), (20, .iconst 0, (0, 0, 0, 0, 0)), (21, .ireturn, (0, 0, 0, 0, 0))]
def kP128 : List KEnt := [(0, .aload_n 0, (0, 0, 0, 0, 0)), (1, .getfield 30, (11, 7, 0, 0, 0)), (4, .iconst 2, (0, 0, 0, 0, 0)), (5, .if_icmp .ne 19, (0, 0, 0, 0, 0)), (24, .iconst 0, (0, 0, 0, 0, 0)), (25, .ireturn, (0, 0, 0, 0, 0))]
def kP129 : List KEnt := [(0, .iconst 0, (0, 0, 0, 0, 0)), (1, .istore_n 1, (0, 0, 0, 0, 0)), (2, .iload_n 1, (0, 0, 0, 0, 0)), (3, .bipush 122, (0, 0, 0, 0, 0)), (5, .if_icmp .ge 24, (0, 0, 0, 0, 0)), (8, .aload_n 0, (0, 0, 0, 0, 0)), (9, .getfield 110, (11, 18, 0, 0, 0)), (12, .iload_n 1, (0, 0, 0, 0, 0)), (13, .aload_n 0, (0, 0, 0, 0, 0)), (14, .getfield 98, (11, 14, 0, 0, 0)), (17, .bipush 92, (0, 0, 0, 0, 0)), (19, .iload_n 1, (0, 0, 0, 0, 0)), (20, .iadd, (0, 0, 0, 0, 0)), (21, .iaload, (0, 0, 0, 0, 0)), (22, .iastore, (0, 0, 0, 0, 0)), (23, .iinc 1 1, (0, 0, 0, 0, 0)), (26, .goto (-24), (0, 0, 0, 0, 0)), (29, .return_, (0, 0, 0, 0, 0))]
def kP130 : List KEnt := [(0, .iload_n 0, (0, 0, 0, 0, 0)), (1, .iload_n 1, (0, 0, 0, 0, 0)), (2, .if_icmp .ge 7, (0, 0, 0, 0, 0)), (5, .iload_n 0, (0, 0, 0, 0, 0)), (6, .goto 4, (0, 0, 0, 0, 0)), (10, .ireturn, (0, 0, 0, 0, 0))]
def kP131 : List KEnt := [(0, .aload_n 0, (0, 0, 0, 0, 0)), (1, .iconst 0, (0, 0, 0, 0, 0)), (2, .putfield 1, (11, 0, 0, 0, 0)), (5, .aload_n 0, (0, 0, 0, 0, 0)), (6, .bipush 6, (0, 0, 0, 0, 0)), (8, .iload_n 1, (0, 0, 0, 0, 0)), (9, .iconst 0, (0, 0, 0, 0, 0)), (10, .aload_n 0, (0, 0, 0, 0, 0)), (11, .iload_n 1, (0, 0, 0, 0, 0)), (12, .invokevirtual 251, (124, 1, 0, 0, 11)), (15, .invokevirtual 286, (99, 4, 0, 0, 11)), (18, .ireturn, (0, 0, 0, 0, 0))]
def kP132 : List KEnt := [(0, .aload_n 0, (0, 0, 0, 0, 0)), (1, .iconst 0, (0, 0, 0, 0, 0)), (2, .putfield 1, (11, 0, 0, 0, 0)), (5, .iconst (-1), (0, 0, 0, 0, 0)), (6, .istore_n 1, (0, 0, 0, 0, 0)), (7, .iconst 0, (0, 0, 0, 0, 0)), (8, .istore_n 2, (0, 0, 0, 0, 0)), (9, .iconst 0, (0, 0, 0, 0, 0)), (10, .istore_n 3, (0, 0, 0, 0, 0)), (11, .iload_n 3, (0, 0, 0, 0, 0)), (12, .aload_n 0, (0, 0, 0, 0, 0)), (13, .getfield 98, (11, 14, 0, 0, 0)), (16, .iconst 0, (0, 0, 0, 0, 0)), (17, .iaload, (0, 0, 0, 0, 0)), (18, .if_icmp .ge 59, (0, 0, 0, 0, 0)), (77, .iload_n 1, (0, 0, 0, 0, 0)), (78, .ireturn, (0, 0, 0, 0, 0))]
def kP133 : List KEnt := [(0, .aload_n 0, (0, 0, 0, 0, 0)), (1, .iconst 0, (0, 0, 0, 0, 0)), (2, .putfield 1, (11, 0, 0, 0, 0)), (5, .iconst 0, (0, 0, 0, 0, 0)), (6, .istore_n 1, (0, 0, 0, 0, 0)), (7, .iload_n 1, (0, 0, 0, 0, 0)), (8, .bipush 24, (0, 0, 0, 0, 0)), (10, .if_icmp .ge 16, (0, 0, 0, 0, 0)), (13, .aload_n 0, (0, 0, 0, 0, 0)), (14, .getfield 136, (11, 28, 0, 0, 0)), (17, .iload_n 1, (0, 0, 0, 0, 0)), (18, .iconst 0, (0, 0, 0, 0, 0)), (19, .bastore, (0, 0, 0, 0, 0)), (20, .iinc 1 1, (0, 0, 0, 0, 0)), (23, .goto (-16), (0, 0, 0, 0, 0)), (26, .aload_n 0, (0, 0, 0, 0, 0)), (27, .iconst 0, (0, 0, 0, 0, 0)), (28, .invokevirtual 311, (135, 1, 0, 0, 11)), (31, .istore_n 1, (0, 0, 0, 0, 0)), (32, .iload_n 1, (0, 0, 0, 0, 0)), (33, .istore_n 2, (0, 0, 0, 0, 0)), (34, .iconst 0, (0, 0, 0, 0, 0)), (35, .istore_n 3, (0, 0, 0, 0, 0)), (36, .iload_n 3, (0, 0, 0, 0, 0)), (37, .aload_n 0, (0, 0, 0, 0, 0)), (38, .getfield 98, (11, 14, 0, 0, 0)), (41, .iconst 0, (0, 0, 0, 0, 0)), (42, .iaload, (0, 0, 0, 0, 0)), (43, .if_icmp .ge 34, (0, 0, 0, 0, 0)), (77, .aload_n 0, (0, 0, 0, 0, 0)), (78, .aload_n 0, (0, 0, 0, 0, 0)), (79, .getfield 98, (11, 14, 0, 0, 0)), (82, .iconst 0, (0, 0, 0, 0, 0)), (83, .iaload, (0, 0, 0, 0, 0)), (84, .putfield 317, (11, 29, 0, 0, 0)), (87, .aload_n 0, (0, 0, 0, 0, 0)), (88, .iconst 1, (0, 0, 0, 0, 0)), (89, .putfield 320, (11, 30, 0, 0, 0)), (92, .iload_n 1, (0, 0, 0, 0, 0)), (93, .ireturn, (0, 0, 0, 0, 0))]
def kP134 : List KEnt := [(0, .aload_n 0, (0, 0, 0, 0, 0)), (1, .iconst 0, (0, 0, 0, 0, 0)), (2, .putfield 1, (11, 0, 0, 0, 0)), (5, .aload_n 0, (0, 0, 0, 0, 0)), (6, .getfield 320, (11, 30, 0, 0, 0)), (9, .ifCond .eq 26, (0, 0, 0, 0, 0)), (35, .iconst (-1), (0, 0, 0, 0, 0)), (36, .ireturn, (0, 0, 0, 0, 0))]
def kP135 : List KEnt := [(0, .iconst 0, (0, 0, 0, 0, 0)), (1, .istore_n 2, (0, 0, 0, 0, 0)), (2, .iload_n 2, (0, 0, 0, 0, 0)), (3, .bipush 24, (0, 0, 0, 0, 0)), (5, .if_icmp .ge 16, (0, 0, 0, 0, 0)), (8, .aload_n 0, (0, 0, 0, 0, 0)), (9, .getfield 127, (11, 25, 0, 0, 0)), (12, .iload_n 2, (0, 0, 0, 0, 0)), (13, .iconst (-1), (0, 0, 0, 0, 0)), (14, .iastore, (0, 0, 0, 0, 0)), (15, .iinc 2 1, (0, 0, 0, 0, 0)), (18, .goto (-16), (0, 0, 0, 0, 0)), (21, .iconst 0, (0, 0, 0, 0, 0)), (22, .istore_n 2, (0, 0, 0, 0, 0)), (23, .iload_n 1, (0, 0, 0, 0, 0)), (24, .istore_n 3, (0, 0, 0, 0, 0)), (25, .iload_n 3, (0, 0, 0, 0, 0)), (26, .aload_n 0, (0, 0, 0, 0, 0)), (27, .getfield 98, (11, 14, 0, 0, 0)), (30, .iconst 0, (0, 0, 0, 0, 0)), (31, .iaload, (0, 0, 0, 0, 0)), (32, .if_icmp .ge 61, (0, 0, 0, 0, 0)), (93, .iload_n 2, (0, 0, 0, 0, 0)), (94, .ireturn, (0, 0, 0, 0, 0))]
def kP136 : List KEnt := [(0, .aload_n 0, (0, 0, 0, 0, 0)), (1, .iconst 0, (0, 0, 0, 0, 0)), (2, .putfield 1, (11, 0, 0, 0, 0)), (5, .iconst 0, (0, 0, 0, 0, 0)), (6, .istore_n 2, (0, 0, 0, 0, 0)), (7, .iload_n 1, (0, 0, 0, 0, 0)), (8, .tableswitch 115 0 7 #[48, 56, 56, 56, 56, 64, 98, 106], (0, 0, 0, 0, 0)), (56, .aload_n 0, (0, 0, 0, 0, 0)), (57, .getfield 98, (11, 14, 0, 0, 0)), (60, .bipush 92, (0, 0, 0, 0, 0)), (62, .iaload, (0, 0, 0, 0, 0)), (63, .ireturn, (0, 0, 0, 0, 0)), (64, .aload_n 0, (0, 0, 0, 0, 0)), (65, .iload_n 1, (0, 0, 0, 0, 0)), (66, .iconst 1, (0, 0, 0, 0, 0)), (67, .isub, (0, 0, 0, 0, 0)), (68, .invokevirtual 263, (163, 1, 0, 0, 11)), (71, .ireturn, (0, 0, 0, 0, 0)), (72, .iconst 0, (0, 0, 0, 0, 0)), (73, .istore_n 3, (0, 0, 0, 0, 0)), (74, .iload_n 3, (0, 0, 0, 0, 0)), (75, .aload_n 0, (0, 0, 0, 0, 0)), (76, .getfield 98, (11, 14, 0, 0, 0)), (79, .iconst 1, (0, 0, 0, 0, 0)), (80, .iaload, (0, 0, 0, 0, 0)), (81, .if_icmp .ge 23, (0, 0, 0, 0, 0)), (104, .iload_n 2, (0, 0, 0, 0, 0)), (105, .ireturn, (0, 0, 0, 0, 0)), (106, .aload_n 0, (0, 0, 0, 0, 0)), (107, .getfield 98, (11, 14, 0, 0, 0)), (110, .bipush 93, (0, 0, 0, 0, 0)), (112, .iaload, (0, 0, 0, 0, 0)), (113, .ireturn, (0, 0, 0, 0, 0)), (114, .aload_n 0, (0, 0, 0, 0, 0)), (115, .bipush 94, (0, 0, 0, 0, 0)), (117, .bipush 64, (0, 0, 0, 0, 0)), (119, .invokevirtual 260, (161, 2, 0, 0, 11)), (122, .ireturn, (0, 0, 0, 0, 0)), (123, .iconst (-1), (0, 0, 0, 0, 0)), (124, .ireturn, (0, 0, 0, 0, 0))]
def kP137 : List KEnt := [(0, .aload_n 0, (0, 0, 0, 0, 0)), (1, .iconst 0, (0, 0, 0, 0, 0)), (2, .putfield 1, (11, 0, 0, 0, 0)), (5, .aload_n 0, (0, 0, 0, 0, 0)), (6, .iload_n 1, (0, 0, 0, 0, 0)), (7, .invokevirtual 251, (124, 1, 0, 0, 11)), (10, .ifCond .eq 13, (0, 0, 0, 0, 0)), (23, .iconst (-1), (0, 0, 0, 0, 0)), (24, .ireturn, (0, 0, 0, 0, 0))]
def kP138 : List KEnt := [(0, .aload_n 0, (0, 0, 0, 0, 0)), (1, .sipush 900, (0, 0, 0, 0, 0)), (4, .invokevirtual 216, (103, 1, 0, 0, 11)), (7, .iconst 0, (0, 0, 0, 0, 0)), (8, .istore_n 1, (0, 0, 0, 0, 0)), (9, .iload_n 1, (0, 0, 0, 0, 0)), (10, .bipush 92, (0, 0, 0, 0, 0)), (12, .if_icmp .ge 16, (0, 0, 0, 0, 0)), (15, .aload_n 0, (0, 0, 0, 0, 0)), (16, .getfield 101, (11, 15, 0, 0, 0)), (19, .iload_n 1, (0, 0, 0, 0, 0)), (20, .iconst 0, (0, 0, 0, 0, 0)), (21, .iastore, (0, 0, 0, 0, 0)), (22, .iinc 1 1, (0, 0, 0, 0, 0)), (25, .goto (-16), (0, 0, 0, 0, 0)), (28, .aload_n 0, (0, 0, 0, 0, 0)), (29, .iconst 0, (0, 0, 0, 0, 0)), (30, .putfield 197, (11, 24, 0, 0, 0)), (33, .iconst 0, (0, 0, 0, 0, 0)), (34, .istore_n 1, (0, 0, 0, 0, 0)), (35, .aload_n 0, (0, 0, 0, 0, 0)), (36, .getfield 30, (11, 7, 0, 0, 0)), (39, .ifCond .eq 30, (0, 0, 0, 0, 0)), (69, .iconst 0, (0, 0, 0, 0, 0)), (70, .istore_n 2, (0, 0, 0, 0, 0)), (71, .iload_n 2, (0, 0, 0, 0, 0)), (72, .bipush 92, (0, 0, 0, 0, 0)), (74, .if_icmp .ge 21, (0, 0, 0, 0, 0)), (77, .aload_n 0, (0, 0, 0, 0, 0)), (78, .getfield 98, (11, 14, 0, 0, 0)), (81, .iload_n 2, (0, 0, 0, 0, 0)), (82, .aload_n 0, (0, 0, 0, 0, 0)), (83, .getfield 101, (11, 15, 0, 0, 0)), (86, .iload_n 2, (0, 0, 0, 0, 0)), (87, .iaload, (0, 0, 0, 0, 0)), (88, .iastore, (0, 0, 0, 0, 0)), (89, .iinc 2 1, (0, 0, 0, 0, 0)), (92, .goto (-21), (0, 0, 0, 0, 0)), (95, .iconst 0, (0, 0, 0, 0, 0)), (96, .istore_n 2, (0, 0, 0, 0, 0)), (97, .iload_n 2, (0, 0, 0, 0, 0)), (98, .bipush 16, (0, 0, 0, 0, 0)), (100, .if_icmp .ge 21, (0, 0, 0, 0, 0)), (103, .aload_n 0, (0, 0, 0, 0, 0)), (104, .getfield 113, (11, 19, 0, 0, 0)), (107, .iload_n 2, (0, 0, 0, 0, 0)), (108, .aload_n 0, (0, 0, 0, 0, 0)), (109, .getfield 117, (11, 20, 0, 0, 0)), (112, .iload_n 2, (0, 0, 0, 0, 0)), (113, .laload, (0, 0, 0, 0, 0)), (114, .lastore, (0, 0, 0, 0, 0)), (115, .iinc 2 1, (0, 0, 0, 0, 0)), (118, .goto (-21), (0, 0, 0, 0, 0)), (121, .aload_n 0, (0, 0, 0, 0, 0)), (122, .invokevirtual 157, (159, 0, 0, 0, 11)), (125, .aload_n 0, (0, 0, 0, 0, 0)), (126, .iconst 0, (0, 0, 0, 0, 0)), (127, .putfield 225, (11, 23, 0, 0, 0)), (130, .iload_n 1, (0, 0, 0, 0, 0)), (131, .ireturn, (0, 0, 0, 0, 0))]
def kP139 : List KEnt := [(0, .iconst 0, (0, 0, 0, 0, 0)), (1, .istore_n 1, (0, 0, 0, 0, 0)), (2, .iload_n 1, (0, 0, 0, 0, 0)), (3, .aload_n 0, (0, 0, 0, 0, 0)), (4, .getfield 98, (11, 14, 0, 0, 0)), (7, .iconst 1, (0, 0, 0, 0, 0)), (8, .iaload, (0, 0, 0, 0, 0)), (9, .if_icmp .ge 109, (0, 0, 0, 0, 0)), (118, .iconst 0, (0, 0, 0, 0, 0)), (119, .istore_n 1, (0, 0, 0, 0, 0)), (120, .iload_n 1, (0, 0, 0, 0, 0)), (121, .bipush 8, (0, 0, 0, 0, 0)), (123, .if_icmp .ge 20, (0, 0, 0, 0, 0)), (126, .aload_n 0, (0, 0, 0, 0, 0)), (127, .getfield 98, (11, 14, 0, 0, 0)), (130, .sipush 198, (0, 0, 0, 0, 0)), (133, .iload_n 1, (0, 0, 0, 0, 0)), (134, .iadd, (0, 0, 0, 0, 0)), (135, .iconst (-1), (0, 0, 0, 0, 0)), (136, .iastore, (0, 0, 0, 0, 0)), (137, .iinc 1 1, (0, 0, 0, 0, 0)), (140, .goto (-20), (0, 0, 0, 0, 0)), (143, .aload_n 0, (0, 0, 0, 0, 0)), (144, .getfield 98, (11, 14, 0, 0, 0)), (147, .bipush 92, (0, 0, 0, 0, 0)), (149, .dup2, (0, 0, 0, 0, 0)), (150, .iaload, (0, 0, 0, 0, 0)), (151, .iconst 1, (0, 0, 0, 0, 0)), (152, .iadd, (0, 0, 0, 0, 0)), (153, .iastore, (0, 0, 0, 0, 0)), (154, .return_, (0, 0, 0, 0, 0))]
def kP140 : List KEnt := [(0, .iconst 0, (0, 0, 0, 0, 0)), (1, .istore_n 2, (0, 0, 0, 0, 0)), (2, .iload_n 2, (0, 0, 0, 0, 0)), (3, .iconst 3, (0, 0, 0, 0, 0)), (4, .if_icmp .ge 24, (0, 0, 0, 0, 0)), (7, .aload_n 0, (0, 0, 0, 0, 0)), (8, .getfield 98, (11, 14, 0, 0, 0)), (11, .sipush 158, (0, 0, 0, 0, 0)), (14, .iconst 3, (0, 0, 0, 0, 0)), (15, .iload_n 1, (0, 0, 0, 0, 0)), (16, .imul, (0, 0, 0, 0, 0)), (17, .iadd, (0, 0, 0, 0, 0)), (18, .iload_n 2, (0, 0, 0, 0, 0)), (19, .iadd, (0, 0, 0, 0, 0)), (20, .iconst (-1), (0, 0, 0, 0, 0)), (21, .iastore, (0, 0, 0, 0, 0)), (22, .iinc 2 1, (0, 0, 0, 0, 0)), (25, .goto (-23), (0, 0, 0, 0, 0)), (28, .aload_n 0, (0, 0, 0, 0, 0)), (29, .getfield 98, (11, 14, 0, 0, 0)), (32, .sipush 182, (0, 0, 0, 0, 0)), (35, .iload_n 1, (0, 0, 0, 0, 0)), (36, .iadd, (0, 0, 0, 0, 0)), (37, .iconst 0, (0, 0, 0, 0, 0)), (38, .iastore, (0, 0, 0, 0, 0)), (39, .aload_n 0, (0, 0, 0, 0, 0)), (40, .getfield 98, (11, 14, 0, 0, 0)), (43, .sipush 190, (0, 0, 0, 0, 0)), (46, .iload_n 1, (0, 0, 0, 0, 0)), (47, .iadd, (0, 0, 0, 0, 0)), (48, .aload_n 0, (0, 0, 0, 0, 0)), (49, .getfield 98, (11, 14, 0, 0, 0)), (52, .bipush 84, (0, 0, 0, 0, 0)), (54, .iload_n 1, (0, 0, 0, 0, 0)), (55, .iadd, (0, 0, 0, 0, 0)), (56, .iaload, (0, 0, 0, 0, 0)), (57, .iastore, (0, 0, 0, 0, 0)), (58, .return_, (0, 0, 0, 0, 0))]
def kP141 : List KEnt := [(0, .aload_n 0, (0, 0, 0, 0, 0)), (1, .iconst 0, (0, 0, 0, 0, 0)), (2, .putfield 1, (11, 0, 0, 0, 0)), (5, .aload_n 0, (0, 0, 0, 0, 0)), (6, .iload_n 1, (0, 0, 0, 0, 0)), (7, .invokevirtual 257, (126, 1, 0, 0, 11)), (10, .ifCond .eq 20, (0, 0, 0, 0, 0)), (30, .iconst (-1), (0, 0, 0, 0, 0)), (31, .ireturn, (0, 0, 0, 0, 0))]
def kP142 : List KEnt := [(0, .iload_n 1, (0, 0, 0, 0, 0)), (1, .sipush 400, (0, 0, 0, 0, 0)), (4, .aload_n 0, (0, 0, 0, 0, 0)), (5, .getfield 98, (11, 14, 0, 0, 0)), (8, .bipush 92, (0, 0, 0, 0, 0)), (10, .iaload, (0, 0, 0, 0, 0)), (11, .isub, (0, 0, 0, 0, 0)), (12, .invokestatic 290, (130, 2, 0, 0, 11)), (15, .istore_n 2, (0, 0, 0, 0, 0)), (16, .iconst 0, (0, 0, 0, 0, 0)), (17, .istore_n 3, (0, 0, 0, 0, 0)), (18, .iload_n 3, (0, 0, 0, 0, 0)), (19, .iload_n 2, (0, 0, 0, 0, 0)), (20, .if_icmp .ge 13, (0, 0, 0, 0, 0)), (23, .aload_n 0, (0, 0, 0, 0, 0)), (24, .invokevirtual 293, (139, 0, 0, 0, 11)), (27, .iinc 3 1, (0, 0, 0, 0, 0)), (30, .goto (-12), (0, 0, 0, 0, 0)), (33, .iload_n 2, (0, 0, 0, 0, 0)), (34, .ireturn, (0, 0, 0, 0, 0))]
def kP143 : List KEnt := [(0, .aload_n 0, (0, 0, 0, 0, 0)), (1, .iconst 0, (0, 0, 0, 0, 0)), (2, .putfield 1, (11, 0, 0, 0, 0)), (5, .aload_n 0, (0, 0, 0, 0, 0)), (6, .iload_n 1, (0, 0, 0, 0, 0)), (7, .invokevirtual 257, (126, 1, 0, 0, 11)), (10, .ifCond .ne 8, (0, 0, 0, 0, 0)), (13, .aload_n 0, (0, 0, 0, 0, 0)), (14, .invokevirtual 254, (147, 0, 0, 0, 11)), (17, .ireturn, (0, 0, 0, 0, 0))]
def kP144 : List KEnt := [(0, .aload_n 0, (0, 0, 0, 0, 0)), (1, .invokevirtual 416, (146, 0, 0, 0, 11)), (4, .ifCond .ne 5, (0, 0, 0, 0, 0)), (7, .iconst 0, (0, 0, 0, 0, 0)), (8, .ireturn, (0, 0, 0, 0, 0))]
def kP145 : List KEnt := [(0, .aload_n 0, (0, 0, 0, 0, 0)), (1, .invokevirtual 406, (144, 0, 0, 0, 11)), (4, .ifCond .ne 5, (0, 0, 0, 0, 0)), (7, .iconst 0, (0, 0, 0, 0, 0)), (8, .ireturn, (0, 0, 0, 0, 0))]
def kP146 : List KEnt := [(0, .aload_n 0, (0, 0, 0, 0, 0)), (1, .bipush 40, (0, 0, 0, 0, 0)), (3, .invokevirtual 86, (127, 1, 0, 0, 11)), (6, .istore_n 1, (0, 0, 0, 0, 0)), (7, .bipush 18, (0, 0, 0, 0, 0)), (9, .istore_n 2, (0, 0, 0, 0, 0)), (10, .iload_n 2, (0, 0, 0, 0, 0)), (11, .bipush 29, (0, 0, 0, 0, 0)), (13, .if_icmp .gt 17, (0, 0, 0, 0, 0)), (16, .aload_n 0, (0, 0, 0, 0, 0)), (17, .iload_n 2, (0, 0, 0, 0, 0)), (18, .invokevirtual 178, (128, 1, 0, 0, 11)), (21, .ifCond .ne 9, (0, 0, 0, 0, 0)), (24, .iinc 2 1, (0, 0, 0, 0, 0)), (27, .goto (-17), (0, 0, 0, 0, 0)), (30, .iload_n 1, (0, 0, 0, 0, 0)), (31, .ifCond .ne 15, (0, 0, 0, 0, 0)), (34, .iload_n 2, (0, 0, 0, 0, 0)), (35, .bipush 29, (0, 0, 0, 0, 0)), (37, .if_icmp .le 9, (0, 0, 0, 0, 0)), (40, .aload_n 0, (0, 0, 0, 0, 0)), (41, .iconst 1, (0, 0, 0, 0, 0)), (42, .invokevirtual 72, (102, 1, 0, 0, 11)), (45, .ireturn, (0, 0, 0, 0, 0))]
def kP147 : List KEnt := [(0, .aload_n 0, (0, 0, 0, 0, 0)), (1, .iconst 1, (0, 0, 0, 0, 0)), (2, .putfield 1, (11, 0, 0, 0, 0)), (5, .iconst 0, (0, 0, 0, 0, 0)), (6, .ireturn, (0, 0, 0, 0, 0))]
def kP148 : List KEnt := [(0, .aload_n 0, (0, 0, 0, 0, 0)), (1, .iconst 0, (0, 0, 0, 0, 0)), (2, .putfield 1, (11, 0, 0, 0, 0)), (5, .aload_n 0, (0, 0, 0, 0, 0)), (6, .iconst 2, (0, 0, 0, 0, 0)), (7, .iload_n 1, (0, 0, 0, 0, 0)), (8, .iload_n 2, (0, 0, 0, 0, 0)), (9, .aload_n 0, (0, 0, 0, 0, 0)), (10, .iload_n 1, (0, 0, 0, 0, 0)), (11, .invokevirtual 257, (126, 1, 0, 0, 11)), (14, .ifCond .eq 15, (0, 0, 0, 0, 0)), (29, .iconst 0, (0, 0, 0, 0, 0)), (30, .invokevirtual 286, (99, 4, 0, 0, 11)), (33, .ireturn, (0, 0, 0, 0, 0))]
def kP149 : List KEnt := [(0, .aload_n 0, (0, 0, 0, 0, 0)), (1, .iconst 0, (0, 0, 0, 0, 0)), (2, .putfield 1, (11, 0, 0, 0, 0)), (5, .iload_n 1, (0, 0, 0, 0, 0)), (6, .iconst 0, (0, 0, 0, 0, 0)), (7, .iconst 1, (0, 0, 0, 0, 0)), (8, .invokestatic 75, (125, 3, 0, 0, 11)), (11, .ifCond .eq 12, (0, 0, 0, 0, 0)), (14, .aload_n 0, (0, 0, 0, 0, 0)), (15, .getfield 123, (11, 22, 0, 0, 0)), (18, .iload_n 1, (0, 0, 0, 0, 0)), (19, .baload, (0, 0, 0, 0, 0)), (20, .ifCond .ne 5, (0, 0, 0, 0, 0)), (23, .iconst 0, (0, 0, 0, 0, 0)), (24, .ireturn, (0, 0, 0, 0, 0))]
def kP150 : List KEnt := [(0, .aload_n 0, (0, 0, 0, 0, 0)), (1, .iconst 0, (0, 0, 0, 0, 0)), (2, .putfield 1, (11, 0, 0, 0, 0)), (5, .aload_n 0, (0, 0, 0, 0, 0)), (6, .iconst 3, (0, 0, 0, 0, 0)), (7, .iload_n 1, (0, 0, 0, 0, 0)), (8, .iconst 0, (0, 0, 0, 0, 0)), (9, .aload_n 0, (0, 0, 0, 0, 0)), (10, .iload_n 1, (0, 0, 0, 0, 0)), (11, .invokevirtual 257, (126, 1, 0, 0, 11)), (14, .invokevirtual 286, (99, 4, 0, 0, 11)), (17, .ireturn, (0, 0, 0, 0, 0))]
def kP151 : List KEnt := [(0, .aload_n 0, (0, 0, 0, 0, 0)), (1, .iconst 0, (0, 0, 0, 0, 0)), (2, .putfield 1, (11, 0, 0, 0, 0)), (5, .aload_n 0, (0, 0, 0, 0, 0)), (6, .getfield 98, (11, 14, 0, 0, 0)), (9, .sipush 214, (0, 0, 0, 0, 0)), (12, .iaload, (0, 0, 0, 0, 0)), (13, .ifCond .ne 5, (0, 0, 0, 0, 0)), (16, .iconst (-1), (0, 0, 0, 0, 0)), (17, .ireturn, (0, 0, 0, 0, 0))]
def kP152 : List KEnt := [(0, .aload_n 0, (0, 0, 0, 0, 0)), (1, .sipush 200, (0, 0, 0, 0, 0)), (4, .invokevirtual 216, (103, 1, 0, 0, 11)), (7, .aload_n 0, (0, 0, 0, 0, 0)), (8, .iconst 0, (0, 0, 0, 0, 0)), (9, .putfield 403, (11, 41, 0, 0, 0)), (12, .aload_n 0, (0, 0, 0, 0, 0)), (13, .iconst 0, (0, 0, 0, 0, 0)), (14, .putfield 419, (11, 42, 0, 0, 0)), (17, .aload_n 0, (0, 0, 0, 0, 0)), (18, .iconst 0, (0, 0, 0, 0, 0)), (19, .putfield 422, (11, 43, 0, 0, 0)), (22, .aload_n 0, (0, 0, 0, 0, 0)), (23, .invokevirtual 437, (145, 0, 0, 0, 11)), (26, .ifCond .ne 10, (0, 0, 0, 0, 0)), (29, .iconst (-1), (0, 0, 0, 0, 0)), (30, .aload_n 0, (0, 0, 0, 0, 0)), (31, .getfield 69, (11, 11, 0, 0, 0)), (34, .isub, (0, 0, 0, 0, 0)), (35, .ireturn, (0, 0, 0, 0, 0))]
def kP153 : List KEnt := [(0, .aload_n 0, (0, 0, 0, 0, 0)), (1, .iconst 0, (0, 0, 0, 0, 0)), (2, .putfield 1, (11, 0, 0, 0, 0)), (5, .iload_n 1, (0, 0, 0, 0, 0)), (6, .ifCond .ne 17, (0, 0, 0, 0, 0)), (9, .aload_n 0, (0, 0, 0, 0, 0)), (10, .aload_n 0, (0, 0, 0, 0, 0)), (11, .getfield 98, (11, 14, 0, 0, 0)), (14, .bipush 93, (0, 0, 0, 0, 0)), (16, .iaload, (0, 0, 0, 0, 0)), (17, .invokevirtual 334, (154, 1, 0, 0, 11)), (20, .goto 26, (0, 0, 0, 0, 0)), (23, .iload_n 1, (0, 0, 0, 0, 0)), (24, .iconst 1, (0, 0, 0, 0, 0)), (25, .if_icmp .ne 20, (0, 0, 0, 0, 0)), (28, .aload_n 0, (0, 0, 0, 0, 0)), (29, .iconst 1, (0, 0, 0, 0, 0)), (30, .aload_n 0, (0, 0, 0, 0, 0)), (31, .getfield 98, (11, 14, 0, 0, 0)), (34, .iconst 0, (0, 0, 0, 0, 0)), (35, .iaload, (0, 0, 0, 0, 0)), (36, .ishl, (0, 0, 0, 0, 0)), (37, .iconst 1, (0, 0, 0, 0, 0)), (38, .isub, (0, 0, 0, 0, 0)), (39, .invokevirtual 334, (154, 1, 0, 0, 11)), (42, .goto 4, (0, 0, 0, 0, 0)), (45, .iconst (-1), (0, 0, 0, 0, 0)), (46, .ireturn, (0, 0, 0, 0, 0))]
def kP154 : List KEnt := [(0, .iconst 0, (0, 0, 0, 0, 0)), (1, .istore_n 2, (0, 0, 0, 0, 0)), (2, .iconst 0, (0, 0, 0, 0, 0)), (3, .istore_n 3, (0, 0, 0, 0, 0)), (4, .iload_n 3, (0, 0, 0, 0, 0)), (5, .aload_n 0, (0, 0, 0, 0, 0)), (6, .getfield 98, (11, 14, 0, 0, 0)), (9, .iconst 1, (0, 0, 0, 0, 0)), (10, .iaload, (0, 0, 0, 0, 0)), (11, .if_icmp .ge 29, (0, 0, 0, 0, 0)), (40, .iload_n 2, (0, 0, 0, 0, 0)), (41, .ireturn, (0, 0, 0, 0, 0))]
def kP155 : List KEnt := [(0, .aload_n 0, (0, 0, 0, 0, 0)), (1, .iconst 0, (0, 0, 0, 0, 0)), (2, .putfield 1, (11, 0, 0, 0, 0)), (5, .aload_n 0, (0, 0, 0, 0, 0)), (6, .iconst 0, (0, 0, 0, 0, 0)), (7, .iload_n 1, (0, 0, 0, 0, 0)), (8, .iload_n 2, (0, 0, 0, 0, 0)), (9, .aload_n 0, (0, 0, 0, 0, 0)), (10, .iload_n 1, (0, 0, 0, 0, 0)), (11, .invokevirtual 257, (126, 1, 0, 0, 11)), (14, .ifCond .eq 15, (0, 0, 0, 0, 0)), (29, .iconst 0, (0, 0, 0, 0, 0)), (30, .invokevirtual 286, (99, 4, 0, 0, 11)), (33, .ireturn, (0, 0, 0, 0, 0))]
def kP156 : List KEnt := [(0, .aload_n 0, (0, 0, 0, 0, 0)), (1, .getfield 225, (11, 23, 0, 0, 0)), (4, .bipush 8, (0, 0, 0, 0, 0)), (6, .if_icmp .ne 43, (0, 0, 0, 0, 0)), (49, .iconst 0, (0, 0, 0, 0, 0)), (50, .istore_n 1, (0, 0, 0, 0, 0)), (51, .iload_n 1, (0, 0, 0, 0, 0)), (52, .bipush 122, (0, 0, 0, 0, 0)), (54, .if_icmp .ge 32, (0, 0, 0, 0, 0)), (57, .aload_n 0, (0, 0, 0, 0, 0)), (58, .getfield 107, (11, 17, 0, 0, 0)), (61, .bipush 122, (0, 0, 0, 0, 0)), (63, .aload_n 0, (0, 0, 0, 0, 0)), (64, .getfield 225, (11, 23, 0, 0, 0)), (67, .imul, (0, 0, 0, 0, 0)), (68, .iload_n 1, (0, 0, 0, 0, 0)), (69, .iadd, (0, 0, 0, 0, 0)), (70, .aload_n 0, (0, 0, 0, 0, 0)), (71, .getfield 98, (11, 14, 0, 0, 0)), (74, .bipush 92, (0, 0, 0, 0, 0)), (76, .iload_n 1, (0, 0, 0, 0, 0)), (77, .iadd, (0, 0, 0, 0, 0)), (78, .iaload, (0, 0, 0, 0, 0)), (79, .iastore, (0, 0, 0, 0, 0)), (80, .iinc 1 1, (0, 0, 0, 0, 0)), (83, .goto (-32), (0, 0, 0, 0, 0)), (86, .aload_n 0, (0, 0, 0, 0, 0)), (87, .dup, (0, 0, 0, 0, 0)), (88, .getfield 225, (11, 23, 0, 0, 0)), (91, .iconst 1, (0, 0, 0, 0, 0)), (92, .iadd, (0, 0, 0, 0, 0)), (93, .putfield 225, (11, 23, 0, 0, 0)), (96, .return_, (0, 0, 0, 0, 0))]
def kP157 : List KEnt := [(0, .aload_n 0, (0, 0, 0, 0, 0)), (1, .iconst 0, (0, 0, 0, 0, 0)), (2, .putfield 1, (11, 0, 0, 0, 0)), (5, .aload_n 0, (0, 0, 0, 0, 0)), (6, .iconst 1, (0, 0, 0, 0, 0)), (7, .iload_n 1, (0, 0, 0, 0, 0)), (8, .iload_n 2, (0, 0, 0, 0, 0)), (9, .aload_n 0, (0, 0, 0, 0, 0)), (10, .iload_n 1, (0, 0, 0, 0, 0)), (11, .invokevirtual 257, (126, 1, 0, 0, 11)), (14, .ifCond .eq 15, (0, 0, 0, 0, 0)), (29, .iconst 0, (0, 0, 0, 0, 0)), (30, .invokevirtual 286, (99, 4, 0, 0, 11)), (33, .ireturn, (0, 0, 0, 0, 0))]
def kP158 : List KEnt := [(0, .aload_n 0, (0, 0, 0, 0, 0)), (1, .iconst 0, (0, 0, 0, 0, 0)), (2, .putfield 1, (11, 0, 0, 0, 0)), (5, .aload_n 0, (0, 0, 0, 0, 0)), (6, .iload_n 1, (0, 0, 0, 0, 0)), (7, .invokevirtual 251, (124, 1, 0, 0, 11)), (10, .ifCond .ne 5, (0, 0, 0, 0, 0)), (13, .iconst (-1), (0, 0, 0, 0, 0)), (14, .ireturn, (0, 0, 0, 0, 0))]
def kP159 : List KEnt := [(0, .bipush 92, (0, 0, 0, 0, 0)), (2, .istore_n 1, (0, 0, 0, 0, 0)), (3, .iload_n 1, (0, 0, 0, 0, 0)), (4, .sipush 456, (0, 0, 0, 0, 0)), (7, .if_icmp .ge 16, (0, 0, 0, 0, 0)), (10, .aload_n 0, (0, 0, 0, 0, 0)), (11, .getfield 98, (11, 14, 0, 0, 0)), (14, .iload_n 1, (0, 0, 0, 0, 0)), (15, .iconst 0, (0, 0, 0, 0, 0)), (16, .iastore, (0, 0, 0, 0, 0)), (17, .iinc 1 1, (0, 0, 0, 0, 0)), (20, .goto (-17), (0, 0, 0, 0, 0)), (23, .aload_n 0, (0, 0, 0, 0, 0)), (24, .getfield 98, (11, 14, 0, 0, 0)), (27, .bipush 93, (0, 0, 0, 0, 0)), (29, .aload_n 0, (0, 0, 0, 0, 0)), (30, .getfield 98, (11, 14, 0, 0, 0)), (33, .iconst 3, (0, 0, 0, 0, 0)), (34, .iaload, (0, 0, 0, 0, 0)), (35, .iastore, (0, 0, 0, 0, 0)), (36, .iconst 0, (0, 0, 0, 0, 0)), (37, .istore_n 1, (0, 0, 0, 0, 0)), (38, .iload_n 1, (0, 0, 0, 0, 0)), (39, .bipush 64, (0, 0, 0, 0, 0)), (41, .if_icmp .ge 27, (0, 0, 0, 0, 0)), (44, .aload_n 0, (0, 0, 0, 0, 0)), (45, .getfield 98, (11, 14, 0, 0, 0)), (48, .bipush 94, (0, 0, 0, 0, 0)), (50, .iload_n 1, (0, 0, 0, 0, 0)), (51, .iadd, (0, 0, 0, 0, 0)), (52, .aload_n 0, (0, 0, 0, 0, 0)), (53, .getfield 98, (11, 14, 0, 0, 0)), (56, .bipush 12, (0, 0, 0, 0, 0)), (58, .iload_n 1, (0, 0, 0, 0, 0)), (59, .iadd, (0, 0, 0, 0, 0)), (60, .iaload, (0, 0, 0, 0, 0)), (61, .iastore, (0, 0, 0, 0, 0)), (62, .iinc 1 1, (0, 0, 0, 0, 0)), (65, .goto (-27), (0, 0, 0, 0, 0)), (68, .iconst 0, (0, 0, 0, 0, 0)), (69, .istore_n 1, (0, 0, 0, 0, 0)), (70, .iload_n 1, (0, 0, 0, 0, 0)), (71, .bipush 8, (0, 0, 0, 0, 0)), (73, .if_icmp .ge 14, (0, 0, 0, 0, 0)), (76, .aload_n 0, (0, 0, 0, 0, 0)), (77, .iload_n 1, (0, 0, 0, 0, 0)), (78, .invokevirtual 160, (140, 1, 0, 0, 11)), (81, .iinc 1 1, (0, 0, 0, 0, 0)), (84, .goto (-14), (0, 0, 0, 0, 0)), (87, .iconst 0, (0, 0, 0, 0, 0)), (88, .istore_n 1, (0, 0, 0, 0, 0)), (89, .iload_n 1, (0, 0, 0, 0, 0)), (90, .bipush 8, (0, 0, 0, 0, 0)), (92, .if_icmp .ge 20, (0, 0, 0, 0, 0)), (95, .aload_n 0, (0, 0, 0, 0, 0)), (96, .getfield 98, (11, 14, 0, 0, 0)), (99, .sipush 198, (0, 0, 0, 0, 0)), (102, .iload_n 1, (0, 0, 0, 0, 0)), (103, .iadd, (0, 0, 0, 0, 0)), (104, .iconst (-1), (0, 0, 0, 0, 0)), (105, .iastore, (0, 0, 0, 0, 0)), (106, .iinc 1 1, (0, 0, 0, 0, 0)), (109, .goto (-20), (0, 0, 0, 0, 0)), (112, .return_, (0, 0, 0, 0, 0))]
def kP160 : List KEnt := [(0, .iconst 0, (0, 0, 0, 0, 0)), (1, .istore_n 2, (0, 0, 0, 0, 0)), (2, .iload_n 2, (0, 0, 0, 0, 0)), (3, .bipush 122, (0, 0, 0, 0, 0)), (5, .if_icmp .ge 41, (0, 0, 0, 0, 0)), (8, .aload_n 0, (0, 0, 0, 0, 0)), (9, .getfield 98, (11, 14, 0, 0, 0)), (12, .bipush 92, (0, 0, 0, 0, 0)), (14, .iload_n 2, (0, 0, 0, 0, 0)), (15, .iadd, (0, 0, 0, 0, 0)), (16, .iaload, (0, 0, 0, 0, 0)), (17, .istore_n 3, (0, 0, 0, 0, 0)), (18, .aload_n 0, (0, 0, 0, 0, 0)), (19, .getfield 98, (11, 14, 0, 0, 0)), (22, .bipush 92, (0, 0, 0, 0, 0)), (24, .iload_n 2, (0, 0, 0, 0, 0)), (25, .iadd, (0, 0, 0, 0, 0)), (26, .aload_n 0, (0, 0, 0, 0, 0)), (27, .getfield 110, (11, 18, 0, 0, 0)), (30, .iload_n 2, (0, 0, 0, 0, 0)), (31, .iaload, (0, 0, 0, 0, 0)), (32, .iastore, (0, 0, 0, 0, 0)), (33, .aload_n 0, (0, 0, 0, 0, 0)), (34, .getfield 110, (11, 18, 0, 0, 0)), (37, .iload_n 2, (0, 0, 0, 0, 0)), (38, .iload_n 3, (0, 0, 0, 0, 0)), (39, .iastore, (0, 0, 0, 0, 0)), (40, .iinc 2 1, (0, 0, 0, 0, 0)), (43, .goto (-41), (0, 0, 0, 0, 0)), (46, .iload_n 1, (0, 0, 0, 0, 0)), (47, .ifCond .ne 4, (0, 0, 0, 0, 0)), (50, .return_, (0, 0, 0, 0, 0))]
def kP161 : List KEnt := [(0, .iconst 0, (0, 0, 0, 0, 0)), (1, .istore_n 3, (0, 0, 0, 0, 0)), (2, .iconst 0, (0, 0, 0, 0, 0)), (3, .istore 4, (0, 0, 0, 0, 0)), (5, .iload 4, (0, 0, 0, 0, 0)), (7, .iload_n 2, (0, 0, 0, 0, 0)), (8, .if_icmp .ge 21, (0, 0, 0, 0, 0)), (11, .iload_n 3, (0, 0, 0, 0, 0)), (12, .aload_n 0, (0, 0, 0, 0, 0)), (13, .getfield 98, (11, 14, 0, 0, 0)), (16, .iload_n 1, (0, 0, 0, 0, 0)), (17, .iload 4, (0, 0, 0, 0, 0)), (19, .iadd, (0, 0, 0, 0, 0)), (20, .iaload, (0, 0, 0, 0, 0)), (21, .iadd, (0, 0, 0, 0, 0)), (22, .istore_n 3, (0, 0, 0, 0, 0)), (23, .iinc 4 1, (0, 0, 0, 0, 0)), (26, .goto (-21), (0, 0, 0, 0, 0)), (29, .iload_n 3, (0, 0, 0, 0, 0)), (30, .ireturn, (0, 0, 0, 0, 0))]
def kP162 : List KEnt := [(0, .aload_n 0, (0, 0, 0, 0, 0)), (1, .getfield 11, (11, 2, 0, 0, 0)), (4, .istore_n 1, (0, 0, 0, 0, 0)), (5, .aload_n 0, (0, 0, 0, 0, 0)), (6, .iconst 0, (0, 0, 0, 0, 0)), (7, .putfield 11, (11, 2, 0, 0, 0)), (10, .iload_n 1, (0, 0, 0, 0, 0)), (11, .ireturn, (0, 0, 0, 0, 0))]
def kP163 : List KEnt := [(0, .iconst 0, (0, 0, 0, 0, 0)), (1, .istore_n 2, (0, 0, 0, 0, 0)), (2, .iconst 0, (0, 0, 0, 0, 0)), (3, .istore_n 3, (0, 0, 0, 0, 0)), (4, .iload_n 3, (0, 0, 0, 0, 0)), (5, .aload_n 0, (0, 0, 0, 0, 0)), (6, .getfield 98, (11, 14, 0, 0, 0)), (9, .iconst 1, (0, 0, 0, 0, 0)), (10, .iaload, (0, 0, 0, 0, 0)), (11, .if_icmp .ge 29, (0, 0, 0, 0, 0)), (40, .iload_n 2, (0, 0, 0, 0, 0)), (41, .ireturn, (0, 0, 0, 0, 0))]
def kP164 : List KEnt := [(0, .aload_n 0, (0, 0, 0, 0, 0)), (1, .getfield 1, (11, 0, 0, 0, 0)), (4, .ireturn, (0, 0, 0, 0, 0))]
def kP165 : List KEnt := [(0, .aload_n 0, (0, 0, 0, 0, 0)), (1, .iconst 0, (0, 0, 0, 0, 0)), (2, .putfield 1, (11, 0, 0, 0, 0)), (5, .aload_n 0, (0, 0, 0, 0, 0)), (6, .getfield 396, (11, 39, 0, 0, 0)), (9, .ifCond .eq 21, (0, 0, 0, 0, 0)), (30, .iconst (-1), (0, 0, 0, 0, 0)), (31, .ireturn, (0, 0, 0, 0, 0))]
def kP166 : List KEnt := [(0, .aload_n 0, (0, 0, 0, 0, 0)), (1, .iconst 0, (0, 0, 0, 0, 0)), (2, .putfield 1, (11, 0, 0, 0, 0)), (5, .aload_n 0, (0, 0, 0, 0, 0)), (6, .getfield 225, (11, 23, 0, 0, 0)), (9, .ifCond .ne 5, (0, 0, 0, 0, 0)), (12, .iconst (-1), (0, 0, 0, 0, 0)), (13, .ireturn, (0, 0, 0, 0, 0))]
def kP167 : List KEnt := [(0, .aload_n 0, (0, 0, 0, 0, 0)), (1, .iconst 0, (0, 0, 0, 0, 0)), (2, .putfield 1, (11, 0, 0, 0, 0)), (5, .aload_n 0, (0, 0, 0, 0, 0)), (6, .iload_n 1, (0, 0, 0, 0, 0)), (7, .invokevirtual 251, (124, 1, 0, 0, 11)), (10, .ifCond .eq 17, (0, 0, 0, 0, 0)), (27, .iconst (-1), (0, 0, 0, 0, 0)), (28, .ireturn, (0, 0, 0, 0, 0))]
def kP168 : List KEnt := [(0, .iload_n 0, (0, 0, 0, 0, 0)), (1, .iload_n 0, (0, 0, 0, 0, 0)), (2, .iconst 1, (0, 0, 0, 0, 0)), (3, .iushr, (0, 0, 0, 0, 0)), (4, .ldc_w 265, (1431655765, 0, 0, 0, 0)), (7, .iand, (0, 0, 0, 0, 0)), (8, .isub, (0, 0, 0, 0, 0)), (9, .istore_n 0, (0, 0, 0, 0, 0)), (10, .iload_n 0, (0, 0, 0, 0, 0)), (11, .ldc_w 266, (858993459, 0, 0, 0, 0)), (14, .iand, (0, 0, 0, 0, 0)), (15, .iload_n 0, (0, 0, 0, 0, 0)), (16, .iconst 2, (0, 0, 0, 0, 0)), (17, .iushr, (0, 0, 0, 0, 0)), (18, .ldc_w 266, (858993459, 0, 0, 0, 0)), (21, .iand, (0, 0, 0, 0, 0)), (22, .iadd, (0, 0, 0, 0, 0)), (23, .istore_n 0, (0, 0, 0, 0, 0)), (24, .iload_n 0, (0, 0, 0, 0, 0)), (25, .iload_n 0, (0, 0, 0, 0, 0)), (26, .iconst 4, (0, 0, 0, 0, 0)), (27, .iushr, (0, 0, 0, 0, 0)), (28, .iadd, (0, 0, 0, 0, 0)), (29, .ldc_w 267, (252645135, 0, 0, 0, 0)), (32, .iand, (0, 0, 0, 0, 0)), (33, .istore_n 0, (0, 0, 0, 0, 0)), (34, .iload_n 0, (0, 0, 0, 0, 0)), (35, .iload_n 0, (0, 0, 0, 0, 0)), (36, .bipush 8, (0, 0, 0, 0, 0)), (38, .iushr, (0, 0, 0, 0, 0)), (39, .iadd, (0, 0, 0, 0, 0)), (40, .istore_n 0, (0, 0, 0, 0, 0)), (41, .iload_n 0, (0, 0, 0, 0, 0)), (42, .iload_n 0, (0, 0, 0, 0, 0)), (43, .bipush 16, (0, 0, 0, 0, 0)), (45, .iushr, (0, 0, 0, 0, 0)), (46, .iadd, (0, 0, 0, 0, 0)), (47, .istore_n 0, (0, 0, 0, 0, 0)), (48, .iload_n 0, (0, 0, 0, 0, 0)), (49, .bipush 63, (0, 0, 0, 0, 0)), (51, .iand, (0, 0, 0, 0, 0)), (52, .ireturn, (0, 0, 0, 0, 0))]
def kP169 : List KEnt := [(0, .iconst 0, (0, 0, 0, 0, 0)), (1, .istore_n 2, (0, 0, 0, 0, 0)), (2, .aload_n 0, (0, 0, 0, 0, 0)), (3, .arraylength, (0, 0, 0, 0, 0)), (4, .istore_n 3, (0, 0, 0, 0, 0)), (5, .iload_n 2, (0, 0, 0, 0, 0)), (6, .iload_n 3, (0, 0, 0, 0, 0)), (7, .if_icmp .ge 13, (0, 0, 0, 0, 0)), (10, .aload_n 0, (0, 0, 0, 0, 0)), (11, .iload_n 2, (0, 0, 0, 0, 0)), (12, .iload_n 1, (0, 0, 0, 0, 0)), (13, .iastore, (0, 0, 0, 0, 0)), (14, .iinc 2 1, (0, 0, 0, 0, 0)), (17, .goto (-12), (0, 0, 0, 0, 0)), (20, .return_, (0, 0, 0, 0, 0))]
def kM0 : KMeth := (⟨"TriplicateForms", "<init>", "()V"⟩, prog_1_method_1_code, 2, none, 147, 3596, kP0)
def kM1 : KMeth := (⟨"TriplicateForms", "ask", "()I"⟩, prog_1_method_25_code, 1, some .int, 0, 0, kP1)
def kM2 : KMeth := (⟨"TriplicateForms", "attempt", "(III)I"⟩, prog_1_method_42_code, 5, some .int, 0, 0, kP2)
def kM3 : KMeth := (⟨"TriplicateForms", "back", "(I)I"⟩, prog_1_method_14_code, 2, some .int, 0, 0, kP3)
def kM4 : KMeth := (⟨"TriplicateForms", "book", "(I)I"⟩, prog_1_method_35_code, 3, some .int, 0, 0, kP4)
def kM5 : KMeth := (⟨"TriplicateForms", "byteAt", "(I)I"⟩, prog_1_method_32_code, 2, some .int, 0, 0, kP5)
def kM6 : KMeth := (⟨"TriplicateForms", "can", "(I)I"⟩, prog_1_method_20_code, 2, some .int, 0, 0, kP6)
def kM7 : KMeth := (⟨"TriplicateForms", "cancel", "(I)I"⟩, prog_1_method_15_code, 2, some .int, 0, 0, kP7)
def kM8 : KMeth := (⟨"TriplicateForms", "count", "(I)I"⟩, prog_1_method_41_code, 2, some .int, 0, 0, kP8)
def kM9 : KMeth := (⟨"TriplicateForms", "cover", "()I"⟩, prog_1_method_26_code, 1, some .int, 0, 0, kP9)
def kM10 : KMeth := (⟨"TriplicateForms", "covering", "()I"⟩, prog_1_method_27_code, 1, some .int, 0, 0, kP10)
def kM11 : KMeth := (⟨"TriplicateForms", "days", "(I)I"⟩, prog_1_method_17_code, 3, some .int, 0, 0, kP11)
def kM12 : KMeth := (⟨"TriplicateForms", "drawn", "(II)I"⟩, prog_1_method_33_code, 3, some .int, 0, 0, kP12)
def kM13 : KMeth := (⟨"TriplicateForms", "eased", "(II)I"⟩, prog_1_method_28_code, 3, some .int, 0, 0, kP13)
def kM14 : KMeth := (⟨"TriplicateForms", "end", "(I)Z"⟩, prog_1_method_3_code, 2, some .boolean, 0, 0, kP14)
def kM15 : KMeth := (⟨"TriplicateForms", "fault", "()I"⟩, prog_1_method_5_code, 1, some .int, 0, 0, kP15)
def kM16 : KMeth := (⟨"TriplicateForms", "feed", "(IIIII)I"⟩, prog_1_method_2_code, 6, some .int, 0, 0, kP16)
def kM17 : KMeth := (⟨"TriplicateForms", "fits", "()I"⟩, prog_1_method_24_code, 2, some .int, 0, 0, kP17)
def kM18 : KMeth := (⟨"TriplicateForms", "form", "(II)I"⟩, prog_1_method_6_code, 3, some .int, 0, 0, kP18)
def kM19 : KMeth := (⟨"TriplicateForms", "grudge", "(II)I"⟩, prog_1_method_8_code, 3, some .int, 0, 0, kP19)
def kM20 : KMeth := (⟨"TriplicateForms", "image", "(I)Z"⟩, prog_1_method_39_code, 2, some .boolean, 0, 0, kP20)
def kM21 : KMeth := (⟨"TriplicateForms", "lodge", "(I)I"⟩, prog_1_method_16_code, 2, some .int, 0, 0, kP21)
def kM22 : KMeth := (⟨"TriplicateForms", "martyr", "()I"⟩, prog_1_method_30_code, 5, some .int, 0, 0, kP22)
def kM23 : KMeth := (⟨"TriplicateForms", "match", "()I"⟩, prog_1_method_22_code, 1, some .int, 0, 0, kP23)
def kM24 : KMeth := (⟨"TriplicateForms", "matched", "(I)I"⟩, prog_1_method_23_code, 2, some .int, 0, 0, kP24)
def kM25 : KMeth := (⟨"TriplicateForms", "now", "(I)I"⟩, prog_1_method_9_code, 2, some .int, 0, 0, kP25)
def kM26 : KMeth := (⟨"TriplicateForms", "odds", "(III)I"⟩, prog_1_method_34_code, 6, some .int, 0, 0, kP26)
def kM27 : KMeth := (⟨"TriplicateForms", "office", "()I"⟩, prog_1_method_4_code, 2, some .int, 0, 0, kP27)
def kM28 : KMeth := (⟨"TriplicateForms", "part", "(II)I"⟩, prog_1_method_19_code, 3, some .int, 0, 0, kP28)
def kM29 : KMeth := (⟨"TriplicateForms", "person", "(II)I"⟩, prog_1_method_7_code, 3, some .int, 0, 0, kP29)
def kM30 : KMeth := (⟨"TriplicateForms", "resent", "(II)I"⟩, prog_1_method_12_code, 3, some .int, 0, 0, kP30)
def kM31 : KMeth := (⟨"TriplicateForms", "restore", "(I)Z"⟩, prog_1_method_40_code, 2, some .boolean, 0, 0, kP31)
def kM32 : KMeth := (⟨"TriplicateForms", "retire", "(I)I"⟩, prog_1_method_13_code, 2, some .int, 0, 0, kP32)
def kM33 : KMeth := (⟨"TriplicateForms", "said", "(I)I"⟩, prog_1_method_38_code, 5, some .int, 0, 0, kP33)
def kM34 : KMeth := (⟨"TriplicateForms", "sentence", "()I"⟩, prog_1_method_37_code, 2, some .int, 0, 0, kP34)
def kM35 : KMeth := (⟨"TriplicateForms", "served", "(I)I"⟩, prog_1_method_29_code, 5, some .int, 0, 0, kP35)
def kM36 : KMeth := (⟨"TriplicateForms", "sign", "(II)I"⟩, prog_1_method_10_code, 3, some .int, 0, 0, kP36)
def kM37 : KMeth := (⟨"TriplicateForms", "soften", "(II)I"⟩, prog_1_method_11_code, 3, some .int, 0, 0, kP37)
def kM38 : KMeth := (⟨"TriplicateForms", "stamp", "(I)I"⟩, prog_1_method_31_code, 2, some .int, 0, 0, kP38)
def kM39 : KMeth := (⟨"TriplicateForms", "told", "(I)I"⟩, prog_1_method_36_code, 2, some .int, 0, 0, kP39)
def kM40 : KMeth := (⟨"TriplicateForms", "undo", "()I"⟩, prog_1_method_18_code, 1, some .int, 0, 0, kP40)
def kM41 : KMeth := (⟨"TriplicateForms", "when", "(I)I"⟩, prog_1_method_21_code, 2, some .int, 0, 0, kP41)
def kM42 : KMeth := (⟨"TriplicateForms$Adviser", "<init>", "()V"⟩, prog_2_method_1_code, 1, none, 1, 8, kP42)
def kM43 : KMeth := (⟨"TriplicateForms$Adviser", "coversAll", "(II)Z"⟩, prog_2_method_7_code, 4, some .boolean, 0, 0, kP43)
def kM44 : KMeth := (⟨"TriplicateForms$Adviser", "fewestToCover", "(LTriplicateForms$Standing;)I"⟩, prog_2_method_5_code, 7, some .int, 0, 0, kP44)
def kM45 : KMeth := (⟨"TriplicateForms$Adviser", "formsThatFit", "(LTriplicateForms$Tape;LTriplicateForms$Standing;)I"⟩, prog_2_method_2_code, 6, some .int, 0, 0, kP45)
def kM46 : KMeth := (⟨"TriplicateForms$Adviser", "readThirds", "(LTriplicateForms$Standing;)I"⟩, prog_2_method_6_code, 4, some .int, 0, 0, kP46)
def kM47 : KMeth := (⟨"TriplicateForms$Book", "<init>", "()V"⟩, prog_3_method_1_code, 1, none, 3, 120, kP47)
def kM48 : KMeth := (⟨"TriplicateForms$Book", "goThrough", "(LTriplicateForms$Standing;)I"⟩, prog_3_method_3_code, 5, some .int, 0, 0, kP48)
def kM49 : KMeth := (⟨"TriplicateForms$Book", "latest", "(I)I"⟩, prog_3_method_2_code, 2, some .int, 0, 0, kP49)
def kM50 : KMeth := (⟨"TriplicateForms$Book", "readText", "(LTriplicateForms$Tape;LTriplicateForms$Roster;)V"⟩, prog_3_method_4_code, 5, none, 0, 0, kP50)
def kM51 : KMeth := (⟨"TriplicateForms$Image", "<init>", "(LTriplicateForms$Roster;)V"⟩, prog_4_method_1_code, 2, none, 18, 325, kP51)
def kM52 : KMeth := (⟨"TriplicateForms$Image", "keep", "(LTriplicateForms$Roster;LTriplicateForms$Standing;LTriplicateForms$Sentence;)V"⟩, prog_4_method_2_code, 4, none, 0, 0, kP52)
def kM53 : KMeth := (⟨"TriplicateForms$Matcher", "<init>", "()V"⟩, prog_5_method_1_code, 1, none, 3, 96, kP53)
def kM54 : KMeth := (⟨"TriplicateForms$Matcher", "assign", "(LTriplicateForms$Standing;)I"⟩, prog_5_method_3_code, 8, some .int, 0, 0, kP54)
def kM55 : KMeth := (⟨"TriplicateForms$Matcher", "formOf", "(I)I"⟩, prog_5_method_2_code, 2, some .int, 0, 0, kP55)
def kM56 : KMeth := (⟨"TriplicateForms$Matcher", "mostFrom", "(II)I"⟩, prog_5_method_7_code, 5, some .int, 0, 0, kP56)
def kM57 : KMeth := (⟨"TriplicateForms$Matcher", "readSlots", "(LTriplicateForms$Standing;)V"⟩, prog_5_method_4_code, 5, none, 0, 0, kP57)
def kM58 : KMeth := (⟨"TriplicateForms$Roster", "<init>", "()V"⟩, prog_6_method_1_code, 1, none, 5, 40, kP58)
def kM59 : KMeth := (⟨"TriplicateForms$Roster", "copyFrom", "(LTriplicateForms$Roster;)V"⟩, prog_6_method_2_code, 2, none, 0, 0, kP59)
def kM60 : KMeth := (⟨"TriplicateForms$Roster", "forget", "()V"⟩, prog_6_method_3_code, 2, none, 0, 0, kP60)
def kM61 : KMeth := (⟨"TriplicateForms$Roster", "hasForm", "(I)Z"⟩, prog_6_method_5_code, 2, some .boolean, 0, 0, kP61)
def kM62 : KMeth := (⟨"TriplicateForms$Roster", "hasPerson", "(I)Z"⟩, prog_6_method_4_code, 2, some .boolean, 0, 0, kP62)
def kM63 : KMeth := (⟨"TriplicateForms$Roster", "readText", "(LTriplicateForms$Tape;LTriplicateForms$Standing;)I"⟩, prog_6_method_14_code, 4, some .int, 0, 0, kP63)
def kM64 : KMeth := (⟨"TriplicateForms$Sentence", "<init>", "()V"⟩, prog_7_method_1_code, 1, none, 4, 140, kP64)
def kM65 : KMeth := (⟨"TriplicateForms$Sentence", "beginsOne", "(LTriplicateForms$Word;)Z"⟩, prog_7_method_9_code, 1, some .boolean, 0, 0, kP65)
def kM66 : KMeth := (⟨"TriplicateForms$Sentence", "copyFrom", "(LTriplicateForms$Sentence;)V"⟩, prog_7_method_4_code, 2, none, 0, 0, kP66)
def kM67 : KMeth := (⟨"TriplicateForms$Sentence", "forget", "()V"⟩, prog_7_method_2_code, 1, none, 0, 0, kP67)
def kM68 : KMeth := (⟨"TriplicateForms$Sentence", "howNamed", "(LTriplicateForms$Word;)I"⟩, prog_7_method_10_code, 1, some .int, 0, 0, kP68)
def kM69 : KMeth := (⟨"TriplicateForms$Sentence", "isNone", "()Z"⟩, prog_7_method_3_code, 1, some .boolean, 0, 0, kP69)
def kM70 : KMeth := (⟨"TriplicateForms$Sentence", "readCond", "(LTriplicateForms$Tape;LTriplicateForms$Roster;I)Z"⟩, prog_7_method_6_code, 8, some .boolean, 0, 0, kP70)
def kM71 : KMeth := (⟨"TriplicateForms$Sentence", "readOne", "(LTriplicateForms$Tape;LTriplicateForms$Roster;I)Z"⟩, prog_7_method_7_code, 5, some .boolean, 0, 0, kP71)
def kM72 : KMeth := (⟨"TriplicateForms$Sentence", "readText", "(LTriplicateForms$Tape;LTriplicateForms$Roster;)V"⟩, prog_7_method_5_code, 3, none, 0, 0, kP72)
def kM73 : KMeth := (⟨"TriplicateForms$Stamp", "<init>", "()V"⟩, prog_8_method_1_code, 1, none, 1, 40, kP73)
def kM74 : KMeth := (⟨"TriplicateForms$Stamp", "signAt", "(I)I"⟩, prog_8_method_2_code, 2, some .int, 0, 0, kP74)
def kM75 : KMeth := (⟨"TriplicateForms$Standing", "<init>", "(LTriplicateForms$Roster;)V"⟩, prog_9_method_1_code, 2, none, 6, 120, kP75)
def kM76 : KMeth := (⟨"TriplicateForms$Standing", "allGrudges", "()I"⟩, prog_9_method_9_code, 3, some .int, 0, 0, kP76)
def kM77 : KMeth := (⟨"TriplicateForms$Standing", "clear", "()V"⟩, prog_9_method_2_code, 1, none, 0, 0, kP77)
def kM78 : KMeth := (⟨"TriplicateForms$Standing", "clearForms", "()I"⟩, prog_9_method_21_code, 3, some .int, 0, 0, kP78)
def kM79 : KMeth := (⟨"TriplicateForms$Standing", "copyFrom", "(LTriplicateForms$Standing;)V"⟩, prog_9_method_4_code, 2, none, 0, 0, kP79)
def kM80 : KMeth := (⟨"TriplicateForms$Standing", "formsThatAre", "(I)I"⟩, prog_9_method_20_code, 4, some .int, 0, 0, kP80)
def kM81 : KMeth := (⟨"TriplicateForms$Standing", "goOneDay", "()V"⟩, prog_9_method_36_code, 2, none, 0, 0, kP81)
def kM82 : KMeth := (⟨"TriplicateForms$Standing", "howIs", "(I)I"⟩, prog_9_method_13_code, 2, some .int, 0, 0, kP82)
def kM83 : KMeth := (⟨"TriplicateForms$Standing", "partOf", "(II)I"⟩, prog_9_method_26_code, 4, some .int, 0, 0, kP83)
def kM84 : KMeth := (⟨"TriplicateForms$Standing", "perform", "(III)V"⟩, prog_9_method_32_code, 5, none, 0, 0, kP84)
def kM85 : KMeth := (⟨"TriplicateForms$Standing", "setToStart", "()V"⟩, prog_9_method_3_code, 1, none, 0, 0, kP85)
def kM86 : KMeth := (⟨"TriplicateForms$Standing", "whyNot", "(III)I"⟩, prog_9_method_31_code, 4, some .int, 0, 0, kP86)
def kM87 : KMeth := (⟨"TriplicateForms$Tape", "<init>", "()V"⟩, prog_10_method_1_code, 1, none, 1, 940, kP87)
def kM88 : KMeth := (⟨"TriplicateForms$Tape", "add", "(I)V"⟩, prog_10_method_2_code, 3, none, 0, 0, kP88)
def kM89 : KMeth := (⟨"TriplicateForms$Tape", "advance", "()V"⟩, prog_10_method_5_code, 3, none, 0, 0, kP89)
def kM90 : KMeth := (⟨"TriplicateForms$Tape", "begin", "(I)V"⟩, prog_10_method_4_code, 2, none, 0, 0, kP90)
def kM91 : KMeth := (⟨"TriplicateForms$Tape", "isMark", "(I)Z"⟩, prog_10_method_9_code, 2, some .boolean, 0, 0, kP91)
def kM92 : KMeth := (⟨"TriplicateForms$Tape", "refuse", "(I)Z"⟩, prog_10_method_11_code, 2, some .boolean, 0, 0, kP92)
def kM93 : KMeth := (⟨"TriplicateForms$Tape", "signAt", "(I)I"⟩, prog_10_method_3_code, 2, some .int, 0, 0, kP93)
def kM94 : KMeth := (⟨"TriplicateForms$Undos", "<init>", "(LTriplicateForms$Roster;)V"⟩, prog_11_method_1_code, 3, none, 57, 1048, kP94)
def kM95 : KMeth := (⟨"TriplicateForms$Undos", "forget", "()V"⟩, prog_11_method_2_code, 1, none, 0, 0, kP95)
def kM96 : KMeth := (⟨"TriplicateForms$Undos", "keep", "(LTriplicateForms$Standing;)V"⟩, prog_11_method_3_code, 2, none, 0, 0, kP96)
def kM97 : KMeth := (⟨"TriplicateForms$Undos", "takeBack", "(LTriplicateForms$Standing;)I"⟩, prog_11_method_4_code, 3, some .int, 0, 0, kP97)
def kM98 : KMeth := (⟨"TriplicateFormsModel", "<init>", "()V"⟩, prog_14_method_26_code, 1, none, 18, 4072, kP98)
def kM99 : KMeth := (⟨"TriplicateFormsModel", "act", "(IIIZ)I"⟩, prog_14_method_64_code, 6, some .int, 0, 0, kP99)
def kM100 : KMeth := (⟨"TriplicateFormsModel", "ask", "()I"⟩, prog_14_method_89_code, 1, some .int, 0, 0, kP100)
def kM101 : KMeth := (⟨"TriplicateFormsModel", "back", "(I)I"⟩, prog_14_method_69_code, 2, some .int, 0, 0, kP101)
def kM102 : KMeth := (⟨"TriplicateFormsModel", "bad", "(I)Z"⟩, prog_14_method_22_code, 2, some .boolean, 0, 0, kP102)
def kM103 : KMeth := (⟨"TriplicateFormsModel", "begin", "(I)V"⟩, prog_14_method_25_code, 2, none, 0, 0, kP103)
def kM104 : KMeth := (⟨"TriplicateFormsModel", "bits", "(I)I"⟩, prog_14_method_9_code, 3, some .int, 0, 0, kP104)
def kM105 : KMeth := (⟨"TriplicateFormsModel", "book", "(I)I"⟩, prog_14_method_117_code, 4, some .int, 0, 0, kP105)
def kM106 : KMeth := (⟨"TriplicateFormsModel", "byteAt", "(I)I"⟩, prog_14_method_102_code, 2, some .int, 0, 0, kP106)
def kM107 : KMeth := (⟨"TriplicateFormsModel", "can", "(I)I"⟩, prog_14_method_78_code, 2, some .int, 0, 0, kP107)
def kM108 : KMeth := (⟨"TriplicateFormsModel", "cancel", "(I)I"⟩, prog_14_method_70_code, 2, some .int, 0, 0, kP108)
def kM109 : KMeth := (⟨"TriplicateFormsModel", "come", "(I)V"⟩, prog_14_method_3_code, 3, none, 0, 0, kP109)
def kM110 : KMeth := (⟨"TriplicateFormsModel", "count", "(I)I"⟩, prog_14_method_135_code, 2, some .int, 0, 0, kP110)
def kM111 : KMeth := (⟨"TriplicateFormsModel", "cover", "()I"⟩, prog_14_method_92_code, 4, some .int, 0, 0, kP111)
def kM112 : KMeth := (⟨"TriplicateFormsModel", "covering", "()I"⟩, prog_14_method_93_code, 1, some .int, 0, 0, kP112)
def kM113 : KMeth := (⟨"TriplicateFormsModel", "days", "(I)I"⟩, prog_14_method_75_code, 2, some .int, 0, 0, kP113)
def kM114 : KMeth := (⟨"TriplicateFormsModel", "drawn", "(II)I"⟩, prog_14_method_106_code, 3, some .int, 0, 0, kP114)
def kM115 : KMeth := (⟨"TriplicateFormsModel", "eased", "(II)I"⟩, prog_14_method_94_code, 6, some .int, 0, 0, kP115)
def kM116 : KMeth := (⟨"TriplicateFormsModel", "end", "(I)Z"⟩, prog_14_method_5_code, 2, some .boolean, 0, 0, kP116)
def kM117 : KMeth := (⟨"TriplicateFormsModel", "fault", "()I"⟩, prog_14_method_42_code, 1, some .int, 0, 0, kP117)
def kM118 : KMeth := (⟨"TriplicateFormsModel", "feed", "(IIIII)I"⟩, prog_14_method_4_code, 6, some .int, 0, 0, kP118)
def kM119 : KMeth := (⟨"TriplicateFormsModel", "fits", "()I"⟩, prog_14_method_88_code, 7, some .int, 0, 0, kP119)
def kM120 : KMeth := (⟨"TriplicateFormsModel", "form", "(II)I"⟩, prog_14_method_54_code, 3, some .int, 0, 0, kP120)
def kM121 : KMeth := (⟨"TriplicateFormsModel", "go", "()V"⟩, prog_14_method_16_code, 5, none, 0, 0, kP121)
def kM122 : KMeth := (⟨"TriplicateFormsModel", "grudge", "(II)I"⟩, prog_14_method_57_code, 3, some .int, 0, 0, kP122)
def kM123 : KMeth := (⟨"TriplicateFormsModel", "image", "(I)Z"⟩, prog_14_method_133_code, 3, some .boolean, 0, 0, kP123)
def kM124 : KMeth := (⟨"TriplicateFormsModel", "isForm", "(I)Z"⟩, prog_14_method_44_code, 2, some .boolean, 0, 0, kP124)
def kM125 : KMeth := (⟨"TriplicateFormsModel", "isIn", "(III)Z"⟩, prog_14_method_7_code, 3, some .boolean, 0, 0, kP125)
def kM126 : KMeth := (⟨"TriplicateFormsModel", "isPerson", "(I)Z"⟩, prog_14_method_43_code, 2, some .boolean, 0, 0, kP126)
def kM127 : KMeth := (⟨"TriplicateFormsModel", "isSign", "(I)Z"⟩, prog_14_method_20_code, 2, some .boolean, 0, 0, kP127)
def kM128 : KMeth := (⟨"TriplicateFormsModel", "isWord", "(I)Z"⟩, prog_14_method_19_code, 2, some .boolean, 0, 0, kP128)
def kM129 : KMeth := (⟨"TriplicateFormsModel", "layAside", "()V"⟩, prog_14_method_107_code, 2, none, 0, 0, kP129)
def kM130 : KMeth := (⟨"TriplicateFormsModel", "least", "(II)I"⟩, prog_14_method_10_code, 2, some .int, 0, 0, kP130)
def kM131 : KMeth := (⟨"TriplicateFormsModel", "lodge", "(I)I"⟩, prog_14_method_71_code, 2, some .int, 0, 0, kP131)
def kM132 : KMeth := (⟨"TriplicateFormsModel", "martyr", "()I"⟩, prog_14_method_96_code, 6, some .int, 0, 0, kP132)
def kM133 : KMeth := (⟨"TriplicateFormsModel", "match", "()I"⟩, prog_14_method_85_code, 4, some .int, 0, 0, kP133)
def kM134 : KMeth := (⟨"TriplicateFormsModel", "matched", "(I)I"⟩, prog_14_method_86_code, 2, some .int, 0, 0, kP134)
def kM135 : KMeth := (⟨"TriplicateFormsModel", "mostFrom", "(I)I"⟩, prog_14_method_83_code, 5, some .int, 0, 0, kP135)
def kM136 : KMeth := (⟨"TriplicateFormsModel", "now", "(I)I"⟩, prog_14_method_59_code, 4, some .int, 0, 0, kP136)
def kM137 : KMeth := (⟨"TriplicateFormsModel", "odds", "(III)I"⟩, prog_14_method_109_code, 6, some .int, 0, 0, kP137)
def kM138 : KMeth := (⟨"TriplicateFormsModel", "office", "()I"⟩, prog_14_method_41_code, 3, some .int, 0, 0, kP138)
def kM139 : KMeth := (⟨"TriplicateFormsModel", "oneDay", "()V"⟩, prog_14_method_73_code, 3, none, 0, 0, kP139)
def kM140 : KMeth := (⟨"TriplicateFormsModel", "openForm", "(I)V"⟩, prog_14_method_28_code, 3, none, 0, 0, kP140)
def kM141 : KMeth := (⟨"TriplicateFormsModel", "part", "(II)I"⟩, prog_14_method_76_code, 3, some .int, 0, 0, kP141)
def kM142 : KMeth := (⟨"TriplicateFormsModel", "passDays", "(I)I"⟩, prog_14_method_74_code, 4, some .int, 0, 0, kP142)
def kM143 : KMeth := (⟨"TriplicateFormsModel", "person", "(II)I"⟩, prog_14_method_56_code, 3, some .int, 0, 0, kP143)
def kM144 : KMeth := (⟨"TriplicateFormsModel", "readAnd", "()Z"⟩, prog_14_method_124_code, 2, some .boolean, 0, 0, kP144)
def kM145 : KMeth := (⟨"TriplicateFormsModel", "readOr", "()Z"⟩, prog_14_method_123_code, 2, some .boolean, 0, 0, kP145)
def kM146 : KMeth := (⟨"TriplicateFormsModel", "readSaid", "()Z"⟩, prog_14_method_125_code, 4, some .boolean, 0, 0, kP146)
def kM147 : KMeth := (⟨"TriplicateFormsModel", "refuse", "()I"⟩, prog_14_method_2_code, 1, some .int, 0, 0, kP147)
def kM148 : KMeth := (⟨"TriplicateFormsModel", "resent", "(II)I"⟩, prog_14_method_67_code, 3, some .int, 0, 0, kP148)
def kM149 : KMeth := (⟨"TriplicateFormsModel", "restore", "(I)Z"⟩, prog_14_method_134_code, 3, some .boolean, 0, 0, kP149)
def kM150 : KMeth := (⟨"TriplicateFormsModel", "retire", "(I)I"⟩, prog_14_method_68_code, 2, some .int, 0, 0, kP150)
def kM151 : KMeth := (⟨"TriplicateFormsModel", "said", "(I)I"⟩, prog_14_method_132_code, 4, some .int, 0, 0, kP151)
def kM152 : KMeth := (⟨"TriplicateFormsModel", "sentence", "()I"⟩, prog_14_method_130_code, 2, some .int, 0, 0, kP152)
def kM153 : KMeth := (⟨"TriplicateFormsModel", "served", "(I)I"⟩, prog_14_method_95_code, 2, some .int, 0, 0, kP153)
def kM154 : KMeth := (⟨"TriplicateFormsModel", "servedBy", "(I)I"⟩, prog_14_method_91_code, 4, some .int, 0, 0, kP154)
def kM155 : KMeth := (⟨"TriplicateFormsModel", "sign", "(II)I"⟩, prog_14_method_65_code, 3, some .int, 0, 0, kP155)
def kM156 : KMeth := (⟨"TriplicateFormsModel", "snap", "()V"⟩, prog_14_method_60_code, 2, none, 0, 0, kP156)
def kM157 : KMeth := (⟨"TriplicateFormsModel", "soften", "(II)I"⟩, prog_14_method_66_code, 3, some .int, 0, 0, kP157)
def kM158 : KMeth := (⟨"TriplicateFormsModel", "stamp", "(I)I"⟩, prog_14_method_101_code, 2, some .int, 0, 0, kP158)
def kM159 : KMeth := (⟨"TriplicateFormsModel", "startSo", "()V"⟩, prog_14_method_27_code, 2, none, 0, 0, kP159)
def kM160 : KMeth := (⟨"TriplicateFormsModel", "stay", "(Z)V"⟩, prog_14_method_118_code, 4, none, 0, 0, kP160)
def kM161 : KMeth := (⟨"TriplicateFormsModel", "sum", "(II)I"⟩, prog_14_method_55_code, 5, some .int, 0, 0, kP161)
def kM162 : KMeth := (⟨"TriplicateFormsModel", "take", "()I"⟩, prog_14_method_6_code, 2, some .int, 0, 0, kP162)
def kM163 : KMeth := (⟨"TriplicateFormsModel", "those", "(I)I"⟩, prog_14_method_58_code, 4, some .int, 0, 0, kP163)
def kM164 : KMeth := (⟨"TriplicateFormsModel", "thrown", "()I"⟩, prog_14_method_1_code, 1, some .int, 0, 0, kP164)
def kM165 : KMeth := (⟨"TriplicateFormsModel", "told", "(I)I"⟩, prog_14_method_119_code, 2, some .int, 0, 0, kP165)
def kM166 : KMeth := (⟨"TriplicateFormsModel", "undo", "()I"⟩, prog_14_method_72_code, 2, some .int, 0, 0, kP166)
def kM167 : KMeth := (⟨"TriplicateFormsModel", "when", "(I)I"⟩, prog_14_method_80_code, 3, some .int, 0, 0, kP167)
def kM168 : KMeth := (⟨"java/lang/Integer", "bitCount", "(I)I"⟩, prog_20_method_49_code, 1, some .int, 0, 0, kP168)
def kM169 : KMeth := (⟨"java/util/Arrays", "fill", "([II)V"⟩, prog_30_method_103_code, 4, none, 0, 0, kP169)
def kmeths : List KMeth := [kM0, kM1, kM2, kM3, kM4, kM5, kM6, kM7, kM8, kM9, kM10, kM11, kM12, kM13, kM14, kM15, kM16, kM17, kM18, kM19, kM20, kM21, kM22, kM23, kM24, kM25, kM26, kM27, kM28, kM29, kM30, kM31, kM32, kM33, kM34, kM35, kM36, kM37, kM38, kM39, kM40, kM41, kM42, kM43, kM44, kM45, kM46, kM47, kM48, kM49, kM50, kM51, kM52, kM53, kM54, kM55, kM56, kM57, kM58, kM59, kM60, kM61, kM62, kM63, kM64, kM65, kM66, kM67, kM68, kM69, kM70, kM71, kM72, kM73, kM74, kM75, kM76, kM77, kM78, kM79, kM80, kM81, kM82, kM83, kM84, kM85, kM86, kM87, kM88, kM89, kM90, kM91, kM92, kM93, kM94, kM95, kM96, kM97, kM98, kM99, kM100, kM101, kM102, kM103, kM104, kM105, kM106, kM107, kM108, kM109, kM110, kM111, kM112, kM113, kM114, kM115, kM116, kM117, kM118, kM119, kM120, kM121, kM122, kM123, kM124, kM125, kM126, kM127, kM128, kM129, kM130, kM131, kM132, kM133, kM134, kM135, kM136, kM137, kM138, kM139, kM140, kM141, kM142, kM143, kM144, kM145, kM146, kM147, kM148, kM149, kM150, kM151, kM152, kM153, kM154, kM155, kM156, kM157, kM158, kM159, kM160, kM161, kM162, kM163, kM164, kM165, kM166, kM167, kM168, kM169]
def kPL0 : List KEnt := [(0, .new 8, (10, 0, 0, 0, 0)), (3, .dup, (0, 0, 0, 0, 0)), (4, .invokespecial 18, (0, 0, 147, 3596, 10)), (7, .astore_n 1, (0, 0, 0, 0, 0)), (8, .new 19, (11, 0, 0, 0, 0)), (11, .dup, (0, 0, 0, 0, 0)), (12, .invokespecial 21, (98, 0, 18, 4072, 11)), (15, .astore_n 2, (0, 0, 0, 0, 0)), (16, .iconst 1, (0, 0, 0, 0, 0)), (17, .newarray .long, (1, 0, 0, 0, 0)), (19, .astore_n 3, (0, 0, 0, 0, 0)), (20, .iconst 0, (0, 0, 0, 0, 0)), (21, .istore 4, (0, 0, 0, 0, 0)), (23, .iload 4, (0, 0, 0, 0, 0)), (25, .aload_n 0, (0, 0, 0, 0, 0)), (26, .arraylength, (0, 0, 0, 0, 0)), (27, .bipush 6, (0, 0, 0, 0, 0)), (29, .isub, (0, 0, 0, 0, 0)), (30, .if_icmp .gt 1314, (0, 0, 0, 0, 0)), (33, .aload_n 0, (0, 0, 0, 0, 0)), (34, .iload 4, (0, 0, 0, 0, 0)), (36, .iaload, (0, 0, 0, 0, 0)), (37, .bipush 63, (0, 0, 0, 0, 0)), (39, .iand, (0, 0, 0, 0, 0)), (40, .tableswitch 1298 0 39 #[176, 249, 274, 287, 300, 368, 436, 473, 498, 535, 572, 609, 634, 659, 684, 709, 734, 747, 784, 809, 834, 847, 872, 885, 898, 911, 924, 961, 986, 999, 1024, 1049, 1086, 1135, 1160, 1185, 1198, 1223, 1248, 1273], (0, 0, 0, 0, 0)), (216, .aload_n 1, (0, 0, 0, 0, 0)), (217, .aload_n 0, (0, 0, 0, 0, 0)), (218, .iload 4, (0, 0, 0, 0, 0)), (220, .iconst 1, (0, 0, 0, 0, 0)), (221, .iadd, (0, 0, 0, 0, 0)), (222, .iaload, (0, 0, 0, 0, 0)), (223, .aload_n 0, (0, 0, 0, 0, 0)), (224, .iload 4, (0, 0, 0, 0, 0)), (226, .iconst 2, (0, 0, 0, 0, 0)), (227, .iadd, (0, 0, 0, 0, 0)), (228, .iaload, (0, 0, 0, 0, 0)), (229, .aload_n 0, (0, 0, 0, 0, 0)), (230, .iload 4, (0, 0, 0, 0, 0)), (232, .iconst 3, (0, 0, 0, 0, 0)), (233, .iadd, (0, 0, 0, 0, 0)), (234, .iaload, (0, 0, 0, 0, 0)), (235, .aload_n 0, (0, 0, 0, 0, 0)), (236, .iload 4, (0, 0, 0, 0, 0)), (238, .iconst 4, (0, 0, 0, 0, 0)), (239, .iadd, (0, 0, 0, 0, 0)), (240, .iaload, (0, 0, 0, 0, 0)), (241, .aload_n 0, (0, 0, 0, 0, 0)), (242, .iload 4, (0, 0, 0, 0, 0)), (244, .iconst 5, (0, 0, 0, 0, 0)), (245, .iadd, (0, 0, 0, 0, 0)), (246, .iaload, (0, 0, 0, 0, 0)), (247, .invokevirtual 22, (16, 5, 0, 0, 10)), (250, .aload_n 2, (0, 0, 0, 0, 0)), (251, .aload_n 0, (0, 0, 0, 0, 0)), (252, .iload 4, (0, 0, 0, 0, 0)), (254, .iconst 1, (0, 0, 0, 0, 0)), (255, .iadd, (0, 0, 0, 0, 0)), (256, .iaload, (0, 0, 0, 0, 0)), (257, .aload_n 0, (0, 0, 0, 0, 0)), (258, .iload 4, (0, 0, 0, 0, 0))]
def kPL1 : List KEnt := [(260, .iconst 2, (0, 0, 0, 0, 0)), (261, .iadd, (0, 0, 0, 0, 0)), (262, .iaload, (0, 0, 0, 0, 0)), (263, .aload_n 0, (0, 0, 0, 0, 0)), (264, .iload 4, (0, 0, 0, 0, 0)), (266, .iconst 3, (0, 0, 0, 0, 0)), (267, .iadd, (0, 0, 0, 0, 0)), (268, .iaload, (0, 0, 0, 0, 0)), (269, .aload_n 0, (0, 0, 0, 0, 0)), (270, .iload 4, (0, 0, 0, 0, 0)), (272, .iconst 4, (0, 0, 0, 0, 0)), (273, .iadd, (0, 0, 0, 0, 0)), (274, .iaload, (0, 0, 0, 0, 0)), (275, .aload_n 0, (0, 0, 0, 0, 0)), (276, .iload 4, (0, 0, 0, 0, 0)), (278, .iconst 5, (0, 0, 0, 0, 0)), (279, .iadd, (0, 0, 0, 0, 0)), (280, .iaload, (0, 0, 0, 0, 0)), (281, .invokevirtual 26, (118, 5, 0, 0, 11)), (284, .if_icmp .eq 1054, (0, 0, 0, 0, 0)), (289, .aload_n 1, (0, 0, 0, 0, 0)), (290, .aload_n 0, (0, 0, 0, 0, 0)), (291, .iload 4, (0, 0, 0, 0, 0)), (293, .iconst 1, (0, 0, 0, 0, 0)), (294, .iadd, (0, 0, 0, 0, 0)), (295, .iaload, (0, 0, 0, 0, 0)), (296, .invokevirtual 27, (14, 1, 0, 0, 10)), (299, .aload_n 2, (0, 0, 0, 0, 0)), (300, .aload_n 0, (0, 0, 0, 0, 0)), (301, .iload 4, (0, 0, 0, 0, 0)), (303, .iconst 1, (0, 0, 0, 0, 0)), (304, .iadd, (0, 0, 0, 0, 0)), (305, .iaload, (0, 0, 0, 0, 0)), (306, .invokevirtual 31, (116, 1, 0, 0, 11)), (309, .if_icmp .eq 1029, (0, 0, 0, 0, 0)), (314, .aload_n 1, (0, 0, 0, 0, 0)), (315, .invokevirtual 32, (27, 0, 0, 0, 10)), (318, .aload_n 2, (0, 0, 0, 0, 0)), (319, .invokevirtual 36, (138, 0, 0, 0, 11)), (322, .if_icmp .eq 1016, (0, 0, 0, 0, 0)), (327, .aload_n 1, (0, 0, 0, 0, 0)), (328, .invokevirtual 37, (15, 0, 0, 0, 10)), (331, .aload_n 2, (0, 0, 0, 0, 0)), (332, .invokevirtual 40, (117, 0, 0, 0, 11)), (335, .if_icmp .eq 1003, (0, 0, 0, 0, 0)), (340, .aload_n 1, (0, 0, 0, 0, 0)), (341, .aload_n 0, (0, 0, 0, 0, 0)), (342, .iload 4, (0, 0, 0, 0, 0)), (344, .iconst 1, (0, 0, 0, 0, 0)), (345, .iadd, (0, 0, 0, 0, 0)), (346, .iaload, (0, 0, 0, 0, 0)), (347, .aload_n 0, (0, 0, 0, 0, 0)), (348, .iload 4, (0, 0, 0, 0, 0)), (350, .iconst 2, (0, 0, 0, 0, 0)), (351, .iadd, (0, 0, 0, 0, 0)), (352, .iaload, (0, 0, 0, 0, 0)), (353, .aload_n 3, (0, 0, 0, 0, 0)), (357, .istore 5, (0, 0, 0, 0, 0)), (359, .aload_n 2, (0, 0, 0, 0, 0)), (360, .aload_n 0, (0, 0, 0, 0, 0))]
def kPL2 : List KEnt := [(361, .iload 4, (0, 0, 0, 0, 0)), (363, .iconst 1, (0, 0, 0, 0, 0)), (364, .iadd, (0, 0, 0, 0, 0)), (365, .iaload, (0, 0, 0, 0, 0)), (366, .aload_n 0, (0, 0, 0, 0, 0)), (367, .iload 4, (0, 0, 0, 0, 0)), (369, .iconst 2, (0, 0, 0, 0, 0)), (370, .iadd, (0, 0, 0, 0, 0)), (371, .iaload, (0, 0, 0, 0, 0)), (372, .invokevirtual 46, (120, 2, 0, 0, 11)), (375, .istore 6, (0, 0, 0, 0, 0)), (377, .aload_n 2, (0, 0, 0, 0, 0)), (378, .invokevirtual 47, (164, 0, 0, 0, 11)), (381, .iload 5, (0, 0, 0, 0, 0)), (383, .if_icmp .eq 5, (0, 0, 0, 0, 0)), (388, .iload 5, (0, 0, 0, 0, 0)), (390, .ifCond .ne 15, (0, 0, 0, 0, 0)), (405, .goto 933, (0, 0, 0, 0, 0)), (408, .aload_n 1, (0, 0, 0, 0, 0)), (409, .aload_n 0, (0, 0, 0, 0, 0)), (410, .iload 4, (0, 0, 0, 0, 0)), (412, .iconst 1, (0, 0, 0, 0, 0)), (413, .iadd, (0, 0, 0, 0, 0)), (414, .iaload, (0, 0, 0, 0, 0)), (415, .aload_n 0, (0, 0, 0, 0, 0)), (416, .iload 4, (0, 0, 0, 0, 0)), (418, .iconst 2, (0, 0, 0, 0, 0)), (419, .iadd, (0, 0, 0, 0, 0)), (420, .iaload, (0, 0, 0, 0, 0)), (421, .aload_n 3, (0, 0, 0, 0, 0)), (425, .istore 5, (0, 0, 0, 0, 0)), (427, .aload_n 2, (0, 0, 0, 0, 0)), (428, .aload_n 0, (0, 0, 0, 0, 0)), (429, .iload 4, (0, 0, 0, 0, 0)), (431, .iconst 1, (0, 0, 0, 0, 0)), (432, .iadd, (0, 0, 0, 0, 0)), (433, .iaload, (0, 0, 0, 0, 0)), (434, .aload_n 0, (0, 0, 0, 0, 0)), (435, .iload 4, (0, 0, 0, 0, 0)), (437, .iconst 2, (0, 0, 0, 0, 0)), (438, .iadd, (0, 0, 0, 0, 0)), (439, .iaload, (0, 0, 0, 0, 0)), (440, .invokevirtual 52, (143, 2, 0, 0, 11)), (443, .istore 6, (0, 0, 0, 0, 0)), (445, .aload_n 2, (0, 0, 0, 0, 0)), (446, .invokevirtual 47, (164, 0, 0, 0, 11)), (449, .iload 5, (0, 0, 0, 0, 0)), (451, .if_icmp .eq 5, (0, 0, 0, 0, 0)), (456, .iload 5, (0, 0, 0, 0, 0)), (458, .ifCond .ne 15, (0, 0, 0, 0, 0)), (473, .goto 865, (0, 0, 0, 0, 0)), (476, .aload_n 1, (0, 0, 0, 0, 0)), (477, .aload_n 0, (0, 0, 0, 0, 0)), (478, .iload 4, (0, 0, 0, 0, 0)), (480, .iconst 1, (0, 0, 0, 0, 0)), (481, .iadd, (0, 0, 0, 0, 0)), (482, .iaload, (0, 0, 0, 0, 0)), (483, .aload_n 0, (0, 0, 0, 0, 0)), (484, .iload 4, (0, 0, 0, 0, 0)), (486, .iconst 2, (0, 0, 0, 0, 0))]
def kPL3 : List KEnt := [(487, .iadd, (0, 0, 0, 0, 0)), (488, .iaload, (0, 0, 0, 0, 0)), (489, .invokevirtual 53, (19, 2, 0, 0, 10)), (492, .aload_n 2, (0, 0, 0, 0, 0)), (493, .aload_n 0, (0, 0, 0, 0, 0)), (494, .iload 4, (0, 0, 0, 0, 0)), (496, .iconst 1, (0, 0, 0, 0, 0)), (497, .iadd, (0, 0, 0, 0, 0)), (498, .iaload, (0, 0, 0, 0, 0)), (499, .aload_n 0, (0, 0, 0, 0, 0)), (500, .iload 4, (0, 0, 0, 0, 0)), (502, .iconst 2, (0, 0, 0, 0, 0)), (503, .iadd, (0, 0, 0, 0, 0)), (504, .iaload, (0, 0, 0, 0, 0)), (505, .invokevirtual 56, (122, 2, 0, 0, 11)), (508, .if_icmp .eq 830, (0, 0, 0, 0, 0)), (513, .aload_n 1, (0, 0, 0, 0, 0)), (514, .aload_n 0, (0, 0, 0, 0, 0)), (515, .iload 4, (0, 0, 0, 0, 0)), (517, .iconst 1, (0, 0, 0, 0, 0)), (518, .iadd, (0, 0, 0, 0, 0)), (519, .iaload, (0, 0, 0, 0, 0)), (520, .invokevirtual 57, (25, 1, 0, 0, 10)), (523, .aload_n 2, (0, 0, 0, 0, 0)), (524, .aload_n 0, (0, 0, 0, 0, 0)), (525, .iload 4, (0, 0, 0, 0, 0)), (527, .iconst 1, (0, 0, 0, 0, 0)), (528, .iadd, (0, 0, 0, 0, 0)), (529, .iaload, (0, 0, 0, 0, 0)), (530, .invokevirtual 61, (136, 1, 0, 0, 11)), (533, .if_icmp .eq 805, (0, 0, 0, 0, 0)), (538, .aload_n 1, (0, 0, 0, 0, 0)), (539, .aload_n 0, (0, 0, 0, 0, 0)), (540, .iload 4, (0, 0, 0, 0, 0)), (542, .iconst 1, (0, 0, 0, 0, 0)), (543, .iadd, (0, 0, 0, 0, 0)), (544, .iaload, (0, 0, 0, 0, 0)), (545, .aload_n 0, (0, 0, 0, 0, 0)), (546, .iload 4, (0, 0, 0, 0, 0)), (548, .iconst 2, (0, 0, 0, 0, 0)), (549, .iadd, (0, 0, 0, 0, 0)), (550, .iaload, (0, 0, 0, 0, 0)), (551, .invokevirtual 62, (36, 2, 0, 0, 10)), (554, .aload_n 2, (0, 0, 0, 0, 0)), (555, .aload_n 0, (0, 0, 0, 0, 0)), (556, .iload 4, (0, 0, 0, 0, 0)), (558, .iconst 1, (0, 0, 0, 0, 0)), (559, .iadd, (0, 0, 0, 0, 0)), (560, .iaload, (0, 0, 0, 0, 0)), (561, .aload_n 0, (0, 0, 0, 0, 0)), (562, .iload 4, (0, 0, 0, 0, 0)), (564, .iconst 2, (0, 0, 0, 0, 0)), (565, .iadd, (0, 0, 0, 0, 0)), (566, .iaload, (0, 0, 0, 0, 0)), (567, .invokevirtual 65, (155, 2, 0, 0, 11)), (570, .if_icmp .eq 768, (0, 0, 0, 0, 0)), (575, .aload_n 1, (0, 0, 0, 0, 0)), (576, .aload_n 0, (0, 0, 0, 0, 0)), (577, .iload 4, (0, 0, 0, 0, 0)), (579, .iconst 1, (0, 0, 0, 0, 0))]
def kPL4 : List KEnt := [(580, .iadd, (0, 0, 0, 0, 0)), (581, .iaload, (0, 0, 0, 0, 0)), (582, .aload_n 0, (0, 0, 0, 0, 0)), (583, .iload 4, (0, 0, 0, 0, 0)), (585, .iconst 2, (0, 0, 0, 0, 0)), (586, .iadd, (0, 0, 0, 0, 0)), (587, .iaload, (0, 0, 0, 0, 0)), (588, .invokevirtual 66, (37, 2, 0, 0, 10)), (591, .aload_n 2, (0, 0, 0, 0, 0)), (592, .aload_n 0, (0, 0, 0, 0, 0)), (593, .iload 4, (0, 0, 0, 0, 0)), (595, .iconst 1, (0, 0, 0, 0, 0)), (596, .iadd, (0, 0, 0, 0, 0)), (597, .iaload, (0, 0, 0, 0, 0)), (598, .aload_n 0, (0, 0, 0, 0, 0)), (599, .iload 4, (0, 0, 0, 0, 0)), (601, .iconst 2, (0, 0, 0, 0, 0)), (602, .iadd, (0, 0, 0, 0, 0)), (603, .iaload, (0, 0, 0, 0, 0)), (604, .invokevirtual 69, (157, 2, 0, 0, 11)), (607, .if_icmp .eq 731, (0, 0, 0, 0, 0)), (612, .aload_n 1, (0, 0, 0, 0, 0)), (613, .aload_n 0, (0, 0, 0, 0, 0)), (614, .iload 4, (0, 0, 0, 0, 0)), (616, .iconst 1, (0, 0, 0, 0, 0)), (617, .iadd, (0, 0, 0, 0, 0)), (618, .iaload, (0, 0, 0, 0, 0)), (619, .aload_n 0, (0, 0, 0, 0, 0)), (620, .iload 4, (0, 0, 0, 0, 0)), (622, .iconst 2, (0, 0, 0, 0, 0)), (623, .iadd, (0, 0, 0, 0, 0)), (624, .iaload, (0, 0, 0, 0, 0)), (625, .invokevirtual 70, (30, 2, 0, 0, 10)), (628, .aload_n 2, (0, 0, 0, 0, 0)), (629, .aload_n 0, (0, 0, 0, 0, 0)), (630, .iload 4, (0, 0, 0, 0, 0)), (632, .iconst 1, (0, 0, 0, 0, 0)), (633, .iadd, (0, 0, 0, 0, 0)), (634, .iaload, (0, 0, 0, 0, 0)), (635, .aload_n 0, (0, 0, 0, 0, 0)), (636, .iload 4, (0, 0, 0, 0, 0)), (638, .iconst 2, (0, 0, 0, 0, 0)), (639, .iadd, (0, 0, 0, 0, 0)), (640, .iaload, (0, 0, 0, 0, 0)), (641, .invokevirtual 73, (148, 2, 0, 0, 11)), (644, .if_icmp .eq 694, (0, 0, 0, 0, 0)), (649, .aload_n 1, (0, 0, 0, 0, 0)), (650, .aload_n 0, (0, 0, 0, 0, 0)), (651, .iload 4, (0, 0, 0, 0, 0)), (653, .iconst 1, (0, 0, 0, 0, 0)), (654, .iadd, (0, 0, 0, 0, 0)), (655, .iaload, (0, 0, 0, 0, 0)), (656, .invokevirtual 74, (32, 1, 0, 0, 10)), (659, .aload_n 2, (0, 0, 0, 0, 0)), (660, .aload_n 0, (0, 0, 0, 0, 0)), (661, .iload 4, (0, 0, 0, 0, 0)), (663, .iconst 1, (0, 0, 0, 0, 0)), (664, .iadd, (0, 0, 0, 0, 0)), (665, .iaload, (0, 0, 0, 0, 0)), (666, .invokevirtual 77, (150, 1, 0, 0, 11))]
def kPL5 : List KEnt := [(669, .if_icmp .eq 669, (0, 0, 0, 0, 0)), (674, .aload_n 1, (0, 0, 0, 0, 0)), (675, .aload_n 0, (0, 0, 0, 0, 0)), (676, .iload 4, (0, 0, 0, 0, 0)), (678, .iconst 1, (0, 0, 0, 0, 0)), (679, .iadd, (0, 0, 0, 0, 0)), (680, .iaload, (0, 0, 0, 0, 0)), (681, .invokevirtual 78, (3, 1, 0, 0, 10)), (684, .aload_n 2, (0, 0, 0, 0, 0)), (685, .aload_n 0, (0, 0, 0, 0, 0)), (686, .iload 4, (0, 0, 0, 0, 0)), (688, .iconst 1, (0, 0, 0, 0, 0)), (689, .iadd, (0, 0, 0, 0, 0)), (690, .iaload, (0, 0, 0, 0, 0)), (691, .invokevirtual 81, (101, 1, 0, 0, 11)), (694, .if_icmp .eq 644, (0, 0, 0, 0, 0)), (699, .aload_n 1, (0, 0, 0, 0, 0)), (700, .aload_n 0, (0, 0, 0, 0, 0)), (701, .iload 4, (0, 0, 0, 0, 0)), (703, .iconst 1, (0, 0, 0, 0, 0)), (704, .iadd, (0, 0, 0, 0, 0)), (705, .iaload, (0, 0, 0, 0, 0)), (706, .invokevirtual 82, (7, 1, 0, 0, 10)), (709, .aload_n 2, (0, 0, 0, 0, 0)), (710, .aload_n 0, (0, 0, 0, 0, 0)), (711, .iload 4, (0, 0, 0, 0, 0)), (713, .iconst 1, (0, 0, 0, 0, 0)), (714, .iadd, (0, 0, 0, 0, 0)), (715, .iaload, (0, 0, 0, 0, 0)), (716, .invokevirtual 85, (108, 1, 0, 0, 11)), (719, .if_icmp .eq 619, (0, 0, 0, 0, 0)), (724, .aload_n 1, (0, 0, 0, 0, 0)), (725, .aload_n 0, (0, 0, 0, 0, 0)), (726, .iload 4, (0, 0, 0, 0, 0)), (728, .iconst 1, (0, 0, 0, 0, 0)), (729, .iadd, (0, 0, 0, 0, 0)), (730, .iaload, (0, 0, 0, 0, 0)), (731, .invokevirtual 86, (21, 1, 0, 0, 10)), (734, .aload_n 2, (0, 0, 0, 0, 0)), (735, .aload_n 0, (0, 0, 0, 0, 0)), (736, .iload 4, (0, 0, 0, 0, 0)), (738, .iconst 1, (0, 0, 0, 0, 0)), (739, .iadd, (0, 0, 0, 0, 0)), (740, .iaload, (0, 0, 0, 0, 0)), (741, .invokevirtual 89, (131, 1, 0, 0, 11)), (744, .if_icmp .eq 594, (0, 0, 0, 0, 0)), (749, .aload_n 1, (0, 0, 0, 0, 0)), (750, .aload_n 0, (0, 0, 0, 0, 0)), (751, .iload 4, (0, 0, 0, 0, 0)), (753, .iconst 1, (0, 0, 0, 0, 0)), (754, .iadd, (0, 0, 0, 0, 0)), (755, .iaload, (0, 0, 0, 0, 0)), (756, .invokevirtual 90, (11, 1, 0, 0, 10)), (759, .aload_n 2, (0, 0, 0, 0, 0)), (760, .aload_n 0, (0, 0, 0, 0, 0)), (761, .iload 4, (0, 0, 0, 0, 0)), (763, .iconst 1, (0, 0, 0, 0, 0)), (764, .iadd, (0, 0, 0, 0, 0)), (765, .iaload, (0, 0, 0, 0, 0)), (766, .invokevirtual 93, (113, 1, 0, 0, 11))]
def kPL6 : List KEnt := [(769, .if_icmp .eq 569, (0, 0, 0, 0, 0)), (774, .aload_n 1, (0, 0, 0, 0, 0)), (775, .invokevirtual 94, (40, 0, 0, 0, 10)), (778, .aload_n 2, (0, 0, 0, 0, 0)), (779, .invokevirtual 97, (166, 0, 0, 0, 11)), (782, .if_icmp .eq 556, (0, 0, 0, 0, 0)), (787, .aload_n 1, (0, 0, 0, 0, 0)), (788, .aload_n 0, (0, 0, 0, 0, 0)), (789, .iload 4, (0, 0, 0, 0, 0)), (791, .iconst 1, (0, 0, 0, 0, 0)), (792, .iadd, (0, 0, 0, 0, 0)), (793, .iaload, (0, 0, 0, 0, 0)), (794, .aload_n 0, (0, 0, 0, 0, 0)), (795, .iload 4, (0, 0, 0, 0, 0)), (797, .iconst 2, (0, 0, 0, 0, 0)), (798, .iadd, (0, 0, 0, 0, 0)), (799, .iaload, (0, 0, 0, 0, 0)), (800, .invokevirtual 98, (28, 2, 0, 0, 10)), (803, .aload_n 2, (0, 0, 0, 0, 0)), (804, .aload_n 0, (0, 0, 0, 0, 0)), (805, .iload 4, (0, 0, 0, 0, 0)), (807, .iconst 1, (0, 0, 0, 0, 0)), (808, .iadd, (0, 0, 0, 0, 0)), (809, .iaload, (0, 0, 0, 0, 0)), (810, .aload_n 0, (0, 0, 0, 0, 0)), (811, .iload 4, (0, 0, 0, 0, 0)), (813, .iconst 2, (0, 0, 0, 0, 0)), (814, .iadd, (0, 0, 0, 0, 0)), (815, .iaload, (0, 0, 0, 0, 0)), (816, .invokevirtual 101, (141, 2, 0, 0, 11)), (819, .if_icmp .eq 519, (0, 0, 0, 0, 0)), (824, .aload_n 1, (0, 0, 0, 0, 0)), (825, .aload_n 0, (0, 0, 0, 0, 0)), (826, .iload 4, (0, 0, 0, 0, 0)), (828, .iconst 1, (0, 0, 0, 0, 0)), (829, .iadd, (0, 0, 0, 0, 0)), (830, .iaload, (0, 0, 0, 0, 0)), (831, .invokevirtual 102, (6, 1, 0, 0, 10)), (834, .aload_n 2, (0, 0, 0, 0, 0)), (835, .aload_n 0, (0, 0, 0, 0, 0)), (836, .iload 4, (0, 0, 0, 0, 0)), (838, .iconst 1, (0, 0, 0, 0, 0)), (839, .iadd, (0, 0, 0, 0, 0)), (840, .iaload, (0, 0, 0, 0, 0)), (841, .invokevirtual 105, (107, 1, 0, 0, 11)), (844, .if_icmp .eq 494, (0, 0, 0, 0, 0)), (849, .aload_n 1, (0, 0, 0, 0, 0)), (850, .aload_n 0, (0, 0, 0, 0, 0)), (851, .iload 4, (0, 0, 0, 0, 0)), (853, .iconst 1, (0, 0, 0, 0, 0)), (854, .iadd, (0, 0, 0, 0, 0)), (855, .iaload, (0, 0, 0, 0, 0)), (856, .invokevirtual 106, (41, 1, 0, 0, 10)), (859, .aload_n 2, (0, 0, 0, 0, 0)), (860, .aload_n 0, (0, 0, 0, 0, 0)), (861, .iload 4, (0, 0, 0, 0, 0)), (863, .iconst 1, (0, 0, 0, 0, 0)), (864, .iadd, (0, 0, 0, 0, 0)), (865, .iaload, (0, 0, 0, 0, 0)), (866, .invokevirtual 109, (167, 1, 0, 0, 11))]
def kPL7 : List KEnt := [(869, .if_icmp .eq 469, (0, 0, 0, 0, 0)), (874, .aload_n 1, (0, 0, 0, 0, 0)), (875, .invokevirtual 110, (23, 0, 0, 0, 10)), (878, .aload_n 2, (0, 0, 0, 0, 0)), (879, .invokevirtual 113, (133, 0, 0, 0, 11)), (882, .if_icmp .eq 456, (0, 0, 0, 0, 0)), (887, .aload_n 1, (0, 0, 0, 0, 0)), (888, .aload_n 0, (0, 0, 0, 0, 0)), (889, .iload 4, (0, 0, 0, 0, 0)), (891, .iconst 1, (0, 0, 0, 0, 0)), (892, .iadd, (0, 0, 0, 0, 0)), (893, .iaload, (0, 0, 0, 0, 0)), (894, .invokevirtual 114, (24, 1, 0, 0, 10)), (897, .aload_n 2, (0, 0, 0, 0, 0)), (898, .aload_n 0, (0, 0, 0, 0, 0)), (899, .iload 4, (0, 0, 0, 0, 0)), (901, .iconst 1, (0, 0, 0, 0, 0)), (902, .iadd, (0, 0, 0, 0, 0)), (903, .iaload, (0, 0, 0, 0, 0)), (904, .invokevirtual 117, (134, 1, 0, 0, 11)), (907, .if_icmp .eq 431, (0, 0, 0, 0, 0)), (912, .aload_n 1, (0, 0, 0, 0, 0)), (913, .invokevirtual 118, (17, 0, 0, 0, 10)), (916, .aload_n 2, (0, 0, 0, 0, 0)), (917, .invokevirtual 121, (119, 0, 0, 0, 11)), (920, .if_icmp .eq 418, (0, 0, 0, 0, 0)), (925, .aload_n 1, (0, 0, 0, 0, 0)), (926, .invokevirtual 122, (1, 0, 0, 0, 10)), (929, .aload_n 2, (0, 0, 0, 0, 0)), (930, .invokevirtual 125, (100, 0, 0, 0, 11)), (933, .if_icmp .eq 405, (0, 0, 0, 0, 0)), (938, .aload_n 1, (0, 0, 0, 0, 0)), (939, .invokevirtual 126, (9, 0, 0, 0, 10)), (942, .aload_n 2, (0, 0, 0, 0, 0)), (943, .invokevirtual 129, (111, 0, 0, 0, 11)), (946, .if_icmp .eq 392, (0, 0, 0, 0, 0)), (951, .aload_n 1, (0, 0, 0, 0, 0)), (952, .invokevirtual 130, (10, 0, 0, 0, 10)), (955, .aload_n 2, (0, 0, 0, 0, 0)), (956, .invokevirtual 133, (112, 0, 0, 0, 11)), (959, .if_icmp .eq 379, (0, 0, 0, 0, 0)), (964, .aload_n 1, (0, 0, 0, 0, 0)), (965, .aload_n 0, (0, 0, 0, 0, 0)), (966, .iload 4, (0, 0, 0, 0, 0)), (968, .iconst 1, (0, 0, 0, 0, 0)), (969, .iadd, (0, 0, 0, 0, 0)), (970, .iaload, (0, 0, 0, 0, 0)), (971, .aload_n 0, (0, 0, 0, 0, 0)), (972, .iload 4, (0, 0, 0, 0, 0)), (974, .iconst 2, (0, 0, 0, 0, 0)), (975, .iadd, (0, 0, 0, 0, 0)), (976, .iaload, (0, 0, 0, 0, 0)), (977, .invokevirtual 134, (13, 2, 0, 0, 10)), (980, .aload_n 2, (0, 0, 0, 0, 0)), (981, .aload_n 0, (0, 0, 0, 0, 0)), (982, .iload 4, (0, 0, 0, 0, 0)), (984, .iconst 1, (0, 0, 0, 0, 0)), (985, .iadd, (0, 0, 0, 0, 0)), (986, .iaload, (0, 0, 0, 0, 0)), (987, .aload_n 0, (0, 0, 0, 0, 0))]
def kPL8 : List KEnt := [(988, .iload 4, (0, 0, 0, 0, 0)), (990, .iconst 2, (0, 0, 0, 0, 0)), (991, .iadd, (0, 0, 0, 0, 0)), (992, .iaload, (0, 0, 0, 0, 0)), (993, .invokevirtual 137, (115, 2, 0, 0, 11)), (996, .if_icmp .eq 342, (0, 0, 0, 0, 0)), (1001, .aload_n 1, (0, 0, 0, 0, 0)), (1002, .aload_n 0, (0, 0, 0, 0, 0)), (1003, .iload 4, (0, 0, 0, 0, 0)), (1005, .iconst 1, (0, 0, 0, 0, 0)), (1006, .iadd, (0, 0, 0, 0, 0)), (1007, .iaload, (0, 0, 0, 0, 0)), (1008, .invokevirtual 138, (35, 1, 0, 0, 10)), (1011, .aload_n 2, (0, 0, 0, 0, 0)), (1012, .aload_n 0, (0, 0, 0, 0, 0)), (1013, .iload 4, (0, 0, 0, 0, 0)), (1015, .iconst 1, (0, 0, 0, 0, 0)), (1016, .iadd, (0, 0, 0, 0, 0)), (1017, .iaload, (0, 0, 0, 0, 0)), (1018, .invokevirtual 141, (153, 1, 0, 0, 11)), (1021, .if_icmp .eq 317, (0, 0, 0, 0, 0)), (1026, .aload_n 1, (0, 0, 0, 0, 0)), (1027, .invokevirtual 142, (22, 0, 0, 0, 10)), (1030, .aload_n 2, (0, 0, 0, 0, 0)), (1031, .invokevirtual 145, (132, 0, 0, 0, 11)), (1034, .if_icmp .eq 304, (0, 0, 0, 0, 0)), (1039, .aload_n 1, (0, 0, 0, 0, 0)), (1040, .aload_n 0, (0, 0, 0, 0, 0)), (1041, .iload 4, (0, 0, 0, 0, 0)), (1043, .iconst 1, (0, 0, 0, 0, 0)), (1044, .iadd, (0, 0, 0, 0, 0)), (1045, .iaload, (0, 0, 0, 0, 0)), (1046, .invokevirtual 146, (38, 1, 0, 0, 10)), (1049, .aload_n 2, (0, 0, 0, 0, 0)), (1050, .aload_n 0, (0, 0, 0, 0, 0)), (1051, .iload 4, (0, 0, 0, 0, 0)), (1053, .iconst 1, (0, 0, 0, 0, 0)), (1054, .iadd, (0, 0, 0, 0, 0)), (1055, .iaload, (0, 0, 0, 0, 0)), (1056, .invokevirtual 149, (158, 1, 0, 0, 11)), (1059, .if_icmp .eq 279, (0, 0, 0, 0, 0)), (1064, .aload_n 1, (0, 0, 0, 0, 0)), (1065, .aload_n 0, (0, 0, 0, 0, 0)), (1066, .iload 4, (0, 0, 0, 0, 0)), (1068, .iconst 1, (0, 0, 0, 0, 0)), (1069, .iadd, (0, 0, 0, 0, 0)), (1070, .iaload, (0, 0, 0, 0, 0)), (1071, .invokevirtual 150, (5, 1, 0, 0, 10)), (1074, .aload_n 2, (0, 0, 0, 0, 0)), (1075, .aload_n 0, (0, 0, 0, 0, 0)), (1076, .iload 4, (0, 0, 0, 0, 0)), (1078, .iconst 1, (0, 0, 0, 0, 0)), (1079, .iadd, (0, 0, 0, 0, 0)), (1080, .iaload, (0, 0, 0, 0, 0)), (1081, .invokevirtual 153, (106, 1, 0, 0, 11)), (1084, .if_icmp .eq 254, (0, 0, 0, 0, 0)), (1089, .aload_n 1, (0, 0, 0, 0, 0)), (1090, .aload_n 0, (0, 0, 0, 0, 0)), (1091, .iload 4, (0, 0, 0, 0, 0)), (1093, .iconst 1, (0, 0, 0, 0, 0))]
def kPL9 : List KEnt := [(1094, .iadd, (0, 0, 0, 0, 0)), (1095, .iaload, (0, 0, 0, 0, 0)), (1096, .aload_n 0, (0, 0, 0, 0, 0)), (1097, .iload 4, (0, 0, 0, 0, 0)), (1099, .iconst 2, (0, 0, 0, 0, 0)), (1100, .iadd, (0, 0, 0, 0, 0)), (1101, .iaload, (0, 0, 0, 0, 0)), (1102, .invokevirtual 154, (12, 2, 0, 0, 10)), (1105, .aload_n 2, (0, 0, 0, 0, 0)), (1106, .aload_n 0, (0, 0, 0, 0, 0)), (1107, .iload 4, (0, 0, 0, 0, 0)), (1109, .iconst 1, (0, 0, 0, 0, 0)), (1110, .iadd, (0, 0, 0, 0, 0)), (1111, .iaload, (0, 0, 0, 0, 0)), (1112, .aload_n 0, (0, 0, 0, 0, 0)), (1113, .iload 4, (0, 0, 0, 0, 0)), (1115, .iconst 2, (0, 0, 0, 0, 0)), (1116, .iadd, (0, 0, 0, 0, 0)), (1117, .iaload, (0, 0, 0, 0, 0)), (1118, .invokevirtual 157, (114, 2, 0, 0, 11)), (1121, .if_icmp .eq 217, (0, 0, 0, 0, 0)), (1126, .aload_n 1, (0, 0, 0, 0, 0)), (1127, .aload_n 0, (0, 0, 0, 0, 0)), (1128, .iload 4, (0, 0, 0, 0, 0)), (1130, .iconst 1, (0, 0, 0, 0, 0)), (1131, .iadd, (0, 0, 0, 0, 0)), (1132, .iaload, (0, 0, 0, 0, 0)), (1133, .aload_n 0, (0, 0, 0, 0, 0)), (1134, .iload 4, (0, 0, 0, 0, 0)), (1136, .iconst 2, (0, 0, 0, 0, 0)), (1137, .iadd, (0, 0, 0, 0, 0)), (1138, .iaload, (0, 0, 0, 0, 0)), (1139, .aload_n 0, (0, 0, 0, 0, 0)), (1140, .iload 4, (0, 0, 0, 0, 0)), (1142, .iconst 3, (0, 0, 0, 0, 0)), (1143, .iadd, (0, 0, 0, 0, 0)), (1144, .iaload, (0, 0, 0, 0, 0)), (1145, .invokevirtual 158, (26, 3, 0, 0, 10)), (1148, .aload_n 2, (0, 0, 0, 0, 0)), (1149, .aload_n 0, (0, 0, 0, 0, 0)), (1150, .iload 4, (0, 0, 0, 0, 0)), (1152, .iconst 1, (0, 0, 0, 0, 0)), (1153, .iadd, (0, 0, 0, 0, 0)), (1154, .iaload, (0, 0, 0, 0, 0)), (1155, .aload_n 0, (0, 0, 0, 0, 0)), (1156, .iload 4, (0, 0, 0, 0, 0)), (1158, .iconst 2, (0, 0, 0, 0, 0)), (1159, .iadd, (0, 0, 0, 0, 0)), (1160, .iaload, (0, 0, 0, 0, 0)), (1161, .aload_n 0, (0, 0, 0, 0, 0)), (1162, .iload 4, (0, 0, 0, 0, 0)), (1164, .iconst 3, (0, 0, 0, 0, 0)), (1165, .iadd, (0, 0, 0, 0, 0)), (1166, .iaload, (0, 0, 0, 0, 0)), (1167, .invokevirtual 162, (137, 3, 0, 0, 11)), (1170, .if_icmp .eq 168, (0, 0, 0, 0, 0)), (1175, .aload_n 1, (0, 0, 0, 0, 0)), (1176, .aload_n 0, (0, 0, 0, 0, 0)), (1177, .iload 4, (0, 0, 0, 0, 0)), (1179, .iconst 1, (0, 0, 0, 0, 0))]
def kPL10 : List KEnt := [(1180, .iadd, (0, 0, 0, 0, 0)), (1181, .iaload, (0, 0, 0, 0, 0)), (1182, .invokevirtual 163, (4, 1, 0, 0, 10)), (1185, .aload_n 2, (0, 0, 0, 0, 0)), (1186, .aload_n 0, (0, 0, 0, 0, 0)), (1187, .iload 4, (0, 0, 0, 0, 0)), (1189, .iconst 1, (0, 0, 0, 0, 0)), (1190, .iadd, (0, 0, 0, 0, 0)), (1191, .iaload, (0, 0, 0, 0, 0)), (1192, .invokevirtual 166, (105, 1, 0, 0, 11)), (1195, .if_icmp .eq 143, (0, 0, 0, 0, 0)), (1200, .aload_n 1, (0, 0, 0, 0, 0)), (1201, .aload_n 0, (0, 0, 0, 0, 0)), (1202, .iload 4, (0, 0, 0, 0, 0)), (1204, .iconst 1, (0, 0, 0, 0, 0)), (1205, .iadd, (0, 0, 0, 0, 0)), (1206, .iaload, (0, 0, 0, 0, 0)), (1207, .invokevirtual 167, (39, 1, 0, 0, 10)), (1210, .aload_n 2, (0, 0, 0, 0, 0)), (1211, .aload_n 0, (0, 0, 0, 0, 0)), (1212, .iload 4, (0, 0, 0, 0, 0)), (1214, .iconst 1, (0, 0, 0, 0, 0)), (1215, .iadd, (0, 0, 0, 0, 0)), (1216, .iaload, (0, 0, 0, 0, 0)), (1217, .invokevirtual 170, (165, 1, 0, 0, 11)), (1220, .if_icmp .eq 118, (0, 0, 0, 0, 0)), (1225, .aload_n 1, (0, 0, 0, 0, 0)), (1226, .invokevirtual 171, (34, 0, 0, 0, 10)), (1229, .aload_n 2, (0, 0, 0, 0, 0)), (1230, .invokevirtual 174, (152, 0, 0, 0, 11)), (1233, .if_icmp .eq 105, (0, 0, 0, 0, 0)), (1238, .aload_n 1, (0, 0, 0, 0, 0)), (1239, .aload_n 0, (0, 0, 0, 0, 0)), (1240, .iload 4, (0, 0, 0, 0, 0)), (1242, .iconst 1, (0, 0, 0, 0, 0)), (1243, .iadd, (0, 0, 0, 0, 0)), (1244, .iaload, (0, 0, 0, 0, 0)), (1245, .invokevirtual 175, (33, 1, 0, 0, 10)), (1248, .aload_n 2, (0, 0, 0, 0, 0)), (1249, .aload_n 0, (0, 0, 0, 0, 0)), (1250, .iload 4, (0, 0, 0, 0, 0)), (1252, .iconst 1, (0, 0, 0, 0, 0)), (1253, .iadd, (0, 0, 0, 0, 0)), (1254, .iaload, (0, 0, 0, 0, 0)), (1255, .invokevirtual 178, (151, 1, 0, 0, 11)), (1258, .if_icmp .eq 80, (0, 0, 0, 0, 0)), (1263, .aload_n 1, (0, 0, 0, 0, 0)), (1264, .aload_n 0, (0, 0, 0, 0, 0)), (1265, .iload 4, (0, 0, 0, 0, 0)), (1267, .iconst 1, (0, 0, 0, 0, 0)), (1268, .iadd, (0, 0, 0, 0, 0)), (1269, .iaload, (0, 0, 0, 0, 0)), (1270, .invokevirtual 179, (20, 1, 0, 0, 10)), (1273, .aload_n 2, (0, 0, 0, 0, 0)), (1274, .aload_n 0, (0, 0, 0, 0, 0)), (1275, .iload 4, (0, 0, 0, 0, 0)), (1277, .iconst 1, (0, 0, 0, 0, 0)), (1278, .iadd, (0, 0, 0, 0, 0)), (1279, .iaload, (0, 0, 0, 0, 0)), (1280, .invokevirtual 182, (123, 1, 0, 0, 11))]
def kPL11 : List KEnt := [(1283, .if_icmp .eq 55, (0, 0, 0, 0, 0)), (1288, .aload_n 1, (0, 0, 0, 0, 0)), (1289, .aload_n 0, (0, 0, 0, 0, 0)), (1290, .iload 4, (0, 0, 0, 0, 0)), (1292, .iconst 1, (0, 0, 0, 0, 0)), (1293, .iadd, (0, 0, 0, 0, 0)), (1294, .iaload, (0, 0, 0, 0, 0)), (1295, .invokevirtual 183, (31, 1, 0, 0, 10)), (1298, .aload_n 2, (0, 0, 0, 0, 0)), (1299, .aload_n 0, (0, 0, 0, 0, 0)), (1300, .iload 4, (0, 0, 0, 0, 0)), (1302, .iconst 1, (0, 0, 0, 0, 0)), (1303, .iadd, (0, 0, 0, 0, 0)), (1304, .iaload, (0, 0, 0, 0, 0)), (1305, .invokevirtual 186, (149, 1, 0, 0, 11)), (1308, .if_icmp .eq 30, (0, 0, 0, 0, 0)), (1313, .aload_n 1, (0, 0, 0, 0, 0)), (1314, .aload_n 0, (0, 0, 0, 0, 0)), (1315, .iload 4, (0, 0, 0, 0, 0)), (1317, .iconst 1, (0, 0, 0, 0, 0)), (1318, .iadd, (0, 0, 0, 0, 0)), (1319, .iaload, (0, 0, 0, 0, 0)), (1320, .invokevirtual 187, (8, 1, 0, 0, 10)), (1323, .aload_n 2, (0, 0, 0, 0, 0)), (1324, .aload_n 0, (0, 0, 0, 0, 0)), (1325, .iload 4, (0, 0, 0, 0, 0)), (1327, .iconst 1, (0, 0, 0, 0, 0)), (1328, .iadd, (0, 0, 0, 0, 0)), (1329, .iaload, (0, 0, 0, 0, 0)), (1330, .invokevirtual 190, (110, 1, 0, 0, 11)), (1333, .if_icmp .eq 5, (0, 0, 0, 0, 0)), (1338, .iinc 4 6, (0, 0, 0, 0, 0)), (1341, .goto (-1318), (0, 0, 0, 0, 0)), (1344, .iconst 1, (0, 0, 0, 0, 0)), (1345, .ireturn, (0, 0, 0, 0, 0))]
def kPL : List KEnt := kPL0 ++ (kPL1 ++ (kPL2 ++ (kPL3 ++ (kPL4 ++ (kPL5 ++ (kPL6 ++ (kPL7 ++ (kPL8 ++ (kPL9 ++ (kPL10 ++ (kPL11)))))))))))
end
section
def kC0 : List KE := [.inr (10, [.inl (.ref 1), .inl (.ref 3), .inl (.ref 9), .inl (.ref 15), .inl (.ref 22), .inl (.ref 29), .inl (.ref 87), .inl (.ref 88), .inl (.ref 92), .inl (.ref 94), .inl (.ref 96), .inl (.ref 100), .inl (.ref 105), .inl (.int 0)]),
  .inr (8, [.inl (.ref 2), .inl (.int 0), .inl (.int 0), .inl (.int 0), .inl (.int 0), .inl (.int 0), .inl (.int 0), .inl (.long 0), .inl .null, .inl (.int 0), .inl (.int 0)]),
  .inl (2, 940, .inl ([], .inl 0)),
  .inr (4, [.inl (.ref 4), .inl (.ref 5), .inl (.ref 6), .inl (.ref 7), .inl (.ref 8), .inl (.int 0), .inl (.int 0), .inl (.int 0), .inl (.int 0)]),
  .inl (1, 8, .inr (.inl ([], 0))),
  .inl (1, 8, .inr (.inl ([], 0))),
  .inl (0, 8, .inl ([], .inl 0)),
  .inl (0, 8, .inl ([], .inl 0)),
  .inl (0, 8, .inl ([], .inl 0)),
  .inr (4, [.inl (.ref 10), .inl (.ref 11), .inl (.ref 12), .inl (.ref 13), .inl (.ref 14), .inl (.int 0), .inl (.int 0), .inl (.int 0), .inl (.int 0)]),
  .inl (1, 8, .inr (.inl ([], 0))),
  .inl (1, 8, .inr (.inl ([], 0))),
  .inl (0, 8, .inl ([], .inl 0)),
  .inl (0, 8, .inl ([], .inl 0)),
  .inl (0, 8, .inl ([], .inl 0)),
  .inr (7, [.inl (.ref 3), .inl (.ref 16), .inl (.ref 17), .inl (.ref 18), .inl (.ref 19), .inl (.ref 20), .inl (.ref 21), .inl (.int 0), .inl (.int 0), .inl (.int 0)])]
def kC1 : List KE := [.inl (0, 64, .inl ([(63, .inl 0), (62, .inl 0), (61, .inl 0), (60, .inl 0), (59, .inl 0), (58, .inl 0), (57, .inl 0), (56, .inl 0), (55, .inl 0), (54, .inl 0), (53, .inl 0), (52, .inl 0), (51, .inl 0), (50, .inl 0), (49, .inl 0), (48, .inl 0), (47, .inl 0), (46, .inl 0), (45, .inl 0), (44, .inl 0), (43, .inl 0), (42, .inl 0), (41, .inl 0), (40, .inl 0), (39, .inl 0), (38, .inl 0), (37, .inl 0), (36, .inl 0), (35, .inl 0), (34, .inl 0), (33, .inl 0), (32, .inl 0), (31, .inl 0), (30, .inl 0), (29, .inl 0), (28, .inl 0), (27, .inl 0), (26, .inl 0), (25, .inl 0), (24, .inl 0), (23, .inl 0), (22, .inl 0), (21, .inl 0), (20, .inl 0), (19, .inl 0), (18, .inl 0), (17, .inl 0), (16, .inl 0), (15, .inl 0), (14, .inl 0), (13, .inl 0), (12, .inl 0), (11, .inl 0), (10, .inl 0), (9, .inl 0), (8, .inl 0), (7, .inl 0), (6, .inl 0), (5, .inl 0), (4, .inl 0), (3, .inl 0), (2, .inl 0), (1, .inl 0), (0, .inl 0)], .inl 0)),
  .inl (0, 8, .inl ([(7, .inl (-1)), (6, .inl (-1)), (5, .inl (-1)), (4, .inl (-1)), (3, .inl (-1)), (2, .inl (-1)), (1, .inl (-1)), (0, .inl (-1))], .inl 0)),
  .inl (0, 8, .inl ([(7, .inl 0), (6, .inl 0), (5, .inl 0), (4, .inl 0), (3, .inl 0), (2, .inl 0), (1, .inl 0), (0, .inl 0)], .inl 0)),
  .inl (0, 8, .inl ([(7, .inl 0), (6, .inl 0), (5, .inl 0), (4, .inl 0), (3, .inl 0), (2, .inl 0), (1, .inl 0), (0, .inl 0)], .inl 0)),
  .inl (0, 8, .inl ([(7, .inl 0), (6, .inl 0), (5, .inl 0), (4, .inl 0), (3, .inl 0), (2, .inl 0), (1, .inl 0), (0, .inl 0)], .inl 0)),
  .inl (0, 24, .inl ([(23, .inl (-1)), (22, .inl (-1)), (21, .inl (-1)), (20, .inl (-1)), (19, .inl (-1)), (18, .inl (-1)), (17, .inl (-1)), (16, .inl (-1)), (15, .inl (-1)), (14, .inl (-1)), (13, .inl (-1)), (12, .inl (-1)), (11, .inl (-1)), (10, .inl (-1)), (9, .inl (-1)), (8, .inl (-1)), (7, .inl (-1)), (6, .inl (-1)), (5, .inl (-1)), (4, .inl (-1)), (3, .inl (-1)), (2, .inl (-1)), (1, .inl (-1)), (0, .inl (-1))], .inl 0)),
  .inr (7, [.inl (.ref 3), .inl (.ref 23), .inl (.ref 24), .inl (.ref 25), .inl (.ref 26), .inl (.ref 27), .inl (.ref 28), .inl (.int 0), .inl (.int 0), .inl (.int 0)]),
  .inl (0, 64, .inl ([(63, .inl 0), (62, .inl 0), (61, .inl 0), (60, .inl 0), (59, .inl 0), (58, .inl 0), (57, .inl 0), (56, .inl 0), (55, .inl 0), (54, .inl 0), (53, .inl 0), (52, .inl 0), (51, .inl 0), (50, .inl 0), (49, .inl 0), (48, .inl 0), (47, .inl 0), (46, .inl 0), (45, .inl 0), (44, .inl 0), (43, .inl 0), (42, .inl 0), (41, .inl 0), (40, .inl 0), (39, .inl 0), (38, .inl 0), (37, .inl 0), (36, .inl 0), (35, .inl 0), (34, .inl 0), (33, .inl 0), (32, .inl 0), (31, .inl 0), (30, .inl 0), (29, .inl 0), (28, .inl 0), (27, .inl 0), (26, .inl 0), (25, .inl 0), (24, .inl 0), (23, .inl 0), (22, .inl 0), (21, .inl 0), (20, .inl 0), (19, .inl 0), (18, .inl 0), (17, .inl 0), (16, .inl 0), (15, .inl 0), (14, .inl 0), (13, .inl 0), (12, .inl 0), (11, .inl 0), (10, .inl 0), (9, .inl 0), (8, .inl 0), (7, .inl 0), (6, .inl 0), (5, .inl 0), (4, .inl 0), (3, .inl 0), (2, .inl 0), (1, .inl 0), (0, .inl 0)], .inl 0)),
  .inl (0, 8, .inl ([(7, .inl (-1)), (6, .inl (-1)), (5, .inl (-1)), (4, .inl (-1)), (3, .inl (-1)), (2, .inl (-1)), (1, .inl (-1)), (0, .inl (-1))], .inl 0)),
  .inl (0, 8, .inl ([(7, .inl 0), (6, .inl 0), (5, .inl 0), (4, .inl 0), (3, .inl 0), (2, .inl 0), (1, .inl 0), (0, .inl 0)], .inl 0)),
  .inl (0, 8, .inl ([(7, .inl 0), (6, .inl 0), (5, .inl 0), (4, .inl 0), (3, .inl 0), (2, .inl 0), (1, .inl 0), (0, .inl 0)], .inl 0)),
  .inl (0, 8, .inl ([(7, .inl 0), (6, .inl 0), (5, .inl 0), (4, .inl 0), (3, .inl 0), (2, .inl 0), (1, .inl 0), (0, .inl 0)], .inl 0)),
  .inl (0, 24, .inl ([(23, .inl (-1)), (22, .inl (-1)), (21, .inl (-1)), (20, .inl (-1)), (19, .inl (-1)), (18, .inl (-1)), (17, .inl (-1)), (16, .inl (-1)), (15, .inl (-1)), (14, .inl (-1)), (13, .inl (-1)), (12, .inl (-1)), (11, .inl (-1)), (10, .inl (-1)), (9, .inl (-1)), (8, .inl (-1)), (7, .inl (-1)), (6, .inl (-1)), (5, .inl (-1)), (4, .inl (-1)), (3, .inl (-1)), (2, .inl (-1)), (1, .inl (-1)), (0, .inl (-1))], .inl 0)),
  .inr (9, [.inl (.ref 30), .inl (.int 0), .inl (.int 0)]),
  .inl (5, 8, .inr (.inr [(7, some 80), (6, some 73), (5, some 66), (4, some 59), (3, some 52), (2, some 45), (1, some 38), (0, some 31)])),
  .inr (7, [.inl (.ref 3), .inl (.ref 32), .inl (.ref 33), .inl (.ref 34), .inl (.ref 35), .inl (.ref 36), .inl (.ref 37), .inl (.int 0), .inl (.int 0), .inl (.int 0)])]
def kC2 : List KE := [.inl (0, 64, .inl ([(63, .inl 0), (62, .inl 0), (61, .inl 0), (60, .inl 0), (59, .inl 0), (58, .inl 0), (57, .inl 0), (56, .inl 0), (55, .inl 0), (54, .inl 0), (53, .inl 0), (52, .inl 0), (51, .inl 0), (50, .inl 0), (49, .inl 0), (48, .inl 0), (47, .inl 0), (46, .inl 0), (45, .inl 0), (44, .inl 0), (43, .inl 0), (42, .inl 0), (41, .inl 0), (40, .inl 0), (39, .inl 0), (38, .inl 0), (37, .inl 0), (36, .inl 0), (35, .inl 0), (34, .inl 0), (33, .inl 0), (32, .inl 0), (31, .inl 0), (30, .inl 0), (29, .inl 0), (28, .inl 0), (27, .inl 0), (26, .inl 0), (25, .inl 0), (24, .inl 0), (23, .inl 0), (22, .inl 0), (21, .inl 0), (20, .inl 0), (19, .inl 0), (18, .inl 0), (17, .inl 0), (16, .inl 0), (15, .inl 0), (14, .inl 0), (13, .inl 0), (12, .inl 0), (11, .inl 0), (10, .inl 0), (9, .inl 0), (8, .inl 0), (7, .inl 0), (6, .inl 0), (5, .inl 0), (4, .inl 0), (3, .inl 0), (2, .inl 0), (1, .inl 0), (0, .inl 0)], .inl 0)),
  .inl (0, 8, .inl ([(7, .inl (-1)), (6, .inl (-1)), (5, .inl (-1)), (4, .inl (-1)), (3, .inl (-1)), (2, .inl (-1)), (1, .inl (-1)), (0, .inl (-1))], .inl 0)),
  .inl (0, 8, .inl ([(7, .inl 0), (6, .inl 0), (5, .inl 0), (4, .inl 0), (3, .inl 0), (2, .inl 0), (1, .inl 0), (0, .inl 0)], .inl 0)),
  .inl (0, 8, .inl ([(7, .inl 0), (6, .inl 0), (5, .inl 0), (4, .inl 0), (3, .inl 0), (2, .inl 0), (1, .inl 0), (0, .inl 0)], .inl 0)),
  .inl (0, 8, .inl ([(7, .inl 0), (6, .inl 0), (5, .inl 0), (4, .inl 0), (3, .inl 0), (2, .inl 0), (1, .inl 0), (0, .inl 0)], .inl 0)),
  .inl (0, 24, .inl ([(23, .inl (-1)), (22, .inl (-1)), (21, .inl (-1)), (20, .inl (-1)), (19, .inl (-1)), (18, .inl (-1)), (17, .inl (-1)), (16, .inl (-1)), (15, .inl (-1)), (14, .inl (-1)), (13, .inl (-1)), (12, .inl (-1)), (11, .inl (-1)), (10, .inl (-1)), (9, .inl (-1)), (8, .inl (-1)), (7, .inl (-1)), (6, .inl (-1)), (5, .inl (-1)), (4, .inl (-1)), (3, .inl (-1)), (2, .inl (-1)), (1, .inl (-1)), (0, .inl (-1))], .inl 0)),
  .inr (7, [.inl (.ref 3), .inl (.ref 39), .inl (.ref 40), .inl (.ref 41), .inl (.ref 42), .inl (.ref 43), .inl (.ref 44), .inl (.int 0), .inl (.int 0), .inl (.int 0)]),
  .inl (0, 64, .inl ([(63, .inl 0), (62, .inl 0), (61, .inl 0), (60, .inl 0), (59, .inl 0), (58, .inl 0), (57, .inl 0), (56, .inl 0), (55, .inl 0), (54, .inl 0), (53, .inl 0), (52, .inl 0), (51, .inl 0), (50, .inl 0), (49, .inl 0), (48, .inl 0), (47, .inl 0), (46, .inl 0), (45, .inl 0), (44, .inl 0), (43, .inl 0), (42, .inl 0), (41, .inl 0), (40, .inl 0), (39, .inl 0), (38, .inl 0), (37, .inl 0), (36, .inl 0), (35, .inl 0), (34, .inl 0), (33, .inl 0), (32, .inl 0), (31, .inl 0), (30, .inl 0), (29, .inl 0), (28, .inl 0), (27, .inl 0), (26, .inl 0), (25, .inl 0), (24, .inl 0), (23, .inl 0), (22, .inl 0), (21, .inl 0), (20, .inl 0), (19, .inl 0), (18, .inl 0), (17, .inl 0), (16, .inl 0), (15, .inl 0), (14, .inl 0), (13, .inl 0), (12, .inl 0), (11, .inl 0), (10, .inl 0), (9, .inl 0), (8, .inl 0), (7, .inl 0), (6, .inl 0), (5, .inl 0), (4, .inl 0), (3, .inl 0), (2, .inl 0), (1, .inl 0), (0, .inl 0)], .inl 0)),
  .inl (0, 8, .inl ([(7, .inl (-1)), (6, .inl (-1)), (5, .inl (-1)), (4, .inl (-1)), (3, .inl (-1)), (2, .inl (-1)), (1, .inl (-1)), (0, .inl (-1))], .inl 0)),
  .inl (0, 8, .inl ([(7, .inl 0), (6, .inl 0), (5, .inl 0), (4, .inl 0), (3, .inl 0), (2, .inl 0), (1, .inl 0), (0, .inl 0)], .inl 0)),
  .inl (0, 8, .inl ([(7, .inl 0), (6, .inl 0), (5, .inl 0), (4, .inl 0), (3, .inl 0), (2, .inl 0), (1, .inl 0), (0, .inl 0)], .inl 0)),
  .inl (0, 8, .inl ([(7, .inl 0), (6, .inl 0), (5, .inl 0), (4, .inl 0), (3, .inl 0), (2, .inl 0), (1, .inl 0), (0, .inl 0)], .inl 0)),
  .inl (0, 24, .inl ([(23, .inl (-1)), (22, .inl (-1)), (21, .inl (-1)), (20, .inl (-1)), (19, .inl (-1)), (18, .inl (-1)), (17, .inl (-1)), (16, .inl (-1)), (15, .inl (-1)), (14, .inl (-1)), (13, .inl (-1)), (12, .inl (-1)), (11, .inl (-1)), (10, .inl (-1)), (9, .inl (-1)), (8, .inl (-1)), (7, .inl (-1)), (6, .inl (-1)), (5, .inl (-1)), (4, .inl (-1)), (3, .inl (-1)), (2, .inl (-1)), (1, .inl (-1)), (0, .inl (-1))], .inl 0)),
  .inr (7, [.inl (.ref 3), .inl (.ref 46), .inl (.ref 47), .inl (.ref 48), .inl (.ref 49), .inl (.ref 50), .inl (.ref 51), .inl (.int 0), .inl (.int 0), .inl (.int 0)]),
  .inl (0, 64, .inl ([(63, .inl 0), (62, .inl 0), (61, .inl 0), (60, .inl 0), (59, .inl 0), (58, .inl 0), (57, .inl 0), (56, .inl 0), (55, .inl 0), (54, .inl 0), (53, .inl 0), (52, .inl 0), (51, .inl 0), (50, .inl 0), (49, .inl 0), (48, .inl 0), (47, .inl 0), (46, .inl 0), (45, .inl 0), (44, .inl 0), (43, .inl 0), (42, .inl 0), (41, .inl 0), (40, .inl 0), (39, .inl 0), (38, .inl 0), (37, .inl 0), (36, .inl 0), (35, .inl 0), (34, .inl 0), (33, .inl 0), (32, .inl 0), (31, .inl 0), (30, .inl 0), (29, .inl 0), (28, .inl 0), (27, .inl 0), (26, .inl 0), (25, .inl 0), (24, .inl 0), (23, .inl 0), (22, .inl 0), (21, .inl 0), (20, .inl 0), (19, .inl 0), (18, .inl 0), (17, .inl 0), (16, .inl 0), (15, .inl 0), (14, .inl 0), (13, .inl 0), (12, .inl 0), (11, .inl 0), (10, .inl 0), (9, .inl 0), (8, .inl 0), (7, .inl 0), (6, .inl 0), (5, .inl 0), (4, .inl 0), (3, .inl 0), (2, .inl 0), (1, .inl 0), (0, .inl 0)], .inl 0)),
  .inl (0, 8, .inl ([(7, .inl (-1)), (6, .inl (-1)), (5, .inl (-1)), (4, .inl (-1)), (3, .inl (-1)), (2, .inl (-1)), (1, .inl (-1)), (0, .inl (-1))], .inl 0))]
def kC3 : List KE := [.inl (0, 8, .inl ([(7, .inl 0), (6, .inl 0), (5, .inl 0), (4, .inl 0), (3, .inl 0), (2, .inl 0), (1, .inl 0), (0, .inl 0)], .inl 0)),
  .inl (0, 8, .inl ([(7, .inl 0), (6, .inl 0), (5, .inl 0), (4, .inl 0), (3, .inl 0), (2, .inl 0), (1, .inl 0), (0, .inl 0)], .inl 0)),
  .inl (0, 8, .inl ([(7, .inl 0), (6, .inl 0), (5, .inl 0), (4, .inl 0), (3, .inl 0), (2, .inl 0), (1, .inl 0), (0, .inl 0)], .inl 0)),
  .inl (0, 24, .inl ([(23, .inl (-1)), (22, .inl (-1)), (21, .inl (-1)), (20, .inl (-1)), (19, .inl (-1)), (18, .inl (-1)), (17, .inl (-1)), (16, .inl (-1)), (15, .inl (-1)), (14, .inl (-1)), (13, .inl (-1)), (12, .inl (-1)), (11, .inl (-1)), (10, .inl (-1)), (9, .inl (-1)), (8, .inl (-1)), (7, .inl (-1)), (6, .inl (-1)), (5, .inl (-1)), (4, .inl (-1)), (3, .inl (-1)), (2, .inl (-1)), (1, .inl (-1)), (0, .inl (-1))], .inl 0)),
  .inr (7, [.inl (.ref 3), .inl (.ref 53), .inl (.ref 54), .inl (.ref 55), .inl (.ref 56), .inl (.ref 57), .inl (.ref 58), .inl (.int 0), .inl (.int 0), .inl (.int 0)]),
  .inl (0, 64, .inl ([(63, .inl 0), (62, .inl 0), (61, .inl 0), (60, .inl 0), (59, .inl 0), (58, .inl 0), (57, .inl 0), (56, .inl 0), (55, .inl 0), (54, .inl 0), (53, .inl 0), (52, .inl 0), (51, .inl 0), (50, .inl 0), (49, .inl 0), (48, .inl 0), (47, .inl 0), (46, .inl 0), (45, .inl 0), (44, .inl 0), (43, .inl 0), (42, .inl 0), (41, .inl 0), (40, .inl 0), (39, .inl 0), (38, .inl 0), (37, .inl 0), (36, .inl 0), (35, .inl 0), (34, .inl 0), (33, .inl 0), (32, .inl 0), (31, .inl 0), (30, .inl 0), (29, .inl 0), (28, .inl 0), (27, .inl 0), (26, .inl 0), (25, .inl 0), (24, .inl 0), (23, .inl 0), (22, .inl 0), (21, .inl 0), (20, .inl 0), (19, .inl 0), (18, .inl 0), (17, .inl 0), (16, .inl 0), (15, .inl 0), (14, .inl 0), (13, .inl 0), (12, .inl 0), (11, .inl 0), (10, .inl 0), (9, .inl 0), (8, .inl 0), (7, .inl 0), (6, .inl 0), (5, .inl 0), (4, .inl 0), (3, .inl 0), (2, .inl 0), (1, .inl 0), (0, .inl 0)], .inl 0)),
  .inl (0, 8, .inl ([(7, .inl (-1)), (6, .inl (-1)), (5, .inl (-1)), (4, .inl (-1)), (3, .inl (-1)), (2, .inl (-1)), (1, .inl (-1)), (0, .inl (-1))], .inl 0)),
  .inl (0, 8, .inl ([(7, .inl 0), (6, .inl 0), (5, .inl 0), (4, .inl 0), (3, .inl 0), (2, .inl 0), (1, .inl 0), (0, .inl 0)], .inl 0)),
  .inl (0, 8, .inl ([(7, .inl 0), (6, .inl 0), (5, .inl 0), (4, .inl 0), (3, .inl 0), (2, .inl 0), (1, .inl 0), (0, .inl 0)], .inl 0)),
  .inl (0, 8, .inl ([(7, .inl 0), (6, .inl 0), (5, .inl 0), (4, .inl 0), (3, .inl 0), (2, .inl 0), (1, .inl 0), (0, .inl 0)], .inl 0)),
  .inl (0, 24, .inl ([(23, .inl (-1)), (22, .inl (-1)), (21, .inl (-1)), (20, .inl (-1)), (19, .inl (-1)), (18, .inl (-1)), (17, .inl (-1)), (16, .inl (-1)), (15, .inl (-1)), (14, .inl (-1)), (13, .inl (-1)), (12, .inl (-1)), (11, .inl (-1)), (10, .inl (-1)), (9, .inl (-1)), (8, .inl (-1)), (7, .inl (-1)), (6, .inl (-1)), (5, .inl (-1)), (4, .inl (-1)), (3, .inl (-1)), (2, .inl (-1)), (1, .inl (-1)), (0, .inl (-1))], .inl 0)),
  .inr (7, [.inl (.ref 3), .inl (.ref 60), .inl (.ref 61), .inl (.ref 62), .inl (.ref 63), .inl (.ref 64), .inl (.ref 65), .inl (.int 0), .inl (.int 0), .inl (.int 0)]),
  .inl (0, 64, .inl ([(63, .inl 0), (62, .inl 0), (61, .inl 0), (60, .inl 0), (59, .inl 0), (58, .inl 0), (57, .inl 0), (56, .inl 0), (55, .inl 0), (54, .inl 0), (53, .inl 0), (52, .inl 0), (51, .inl 0), (50, .inl 0), (49, .inl 0), (48, .inl 0), (47, .inl 0), (46, .inl 0), (45, .inl 0), (44, .inl 0), (43, .inl 0), (42, .inl 0), (41, .inl 0), (40, .inl 0), (39, .inl 0), (38, .inl 0), (37, .inl 0), (36, .inl 0), (35, .inl 0), (34, .inl 0), (33, .inl 0), (32, .inl 0), (31, .inl 0), (30, .inl 0), (29, .inl 0), (28, .inl 0), (27, .inl 0), (26, .inl 0), (25, .inl 0), (24, .inl 0), (23, .inl 0), (22, .inl 0), (21, .inl 0), (20, .inl 0), (19, .inl 0), (18, .inl 0), (17, .inl 0), (16, .inl 0), (15, .inl 0), (14, .inl 0), (13, .inl 0), (12, .inl 0), (11, .inl 0), (10, .inl 0), (9, .inl 0), (8, .inl 0), (7, .inl 0), (6, .inl 0), (5, .inl 0), (4, .inl 0), (3, .inl 0), (2, .inl 0), (1, .inl 0), (0, .inl 0)], .inl 0)),
  .inl (0, 8, .inl ([(7, .inl (-1)), (6, .inl (-1)), (5, .inl (-1)), (4, .inl (-1)), (3, .inl (-1)), (2, .inl (-1)), (1, .inl (-1)), (0, .inl (-1))], .inl 0)),
  .inl (0, 8, .inl ([(7, .inl 0), (6, .inl 0), (5, .inl 0), (4, .inl 0), (3, .inl 0), (2, .inl 0), (1, .inl 0), (0, .inl 0)], .inl 0)),
  .inl (0, 8, .inl ([(7, .inl 0), (6, .inl 0), (5, .inl 0), (4, .inl 0), (3, .inl 0), (2, .inl 0), (1, .inl 0), (0, .inl 0)], .inl 0))]
def kC4 : List KE := [.inl (0, 8, .inl ([(7, .inl 0), (6, .inl 0), (5, .inl 0), (4, .inl 0), (3, .inl 0), (2, .inl 0), (1, .inl 0), (0, .inl 0)], .inl 0)),
  .inl (0, 24, .inl ([(23, .inl (-1)), (22, .inl (-1)), (21, .inl (-1)), (20, .inl (-1)), (19, .inl (-1)), (18, .inl (-1)), (17, .inl (-1)), (16, .inl (-1)), (15, .inl (-1)), (14, .inl (-1)), (13, .inl (-1)), (12, .inl (-1)), (11, .inl (-1)), (10, .inl (-1)), (9, .inl (-1)), (8, .inl (-1)), (7, .inl (-1)), (6, .inl (-1)), (5, .inl (-1)), (4, .inl (-1)), (3, .inl (-1)), (2, .inl (-1)), (1, .inl (-1)), (0, .inl (-1))], .inl 0)),
  .inr (7, [.inl (.ref 3), .inl (.ref 67), .inl (.ref 68), .inl (.ref 69), .inl (.ref 70), .inl (.ref 71), .inl (.ref 72), .inl (.int 0), .inl (.int 0), .inl (.int 0)]),
  .inl (0, 64, .inl ([(63, .inl 0), (62, .inl 0), (61, .inl 0), (60, .inl 0), (59, .inl 0), (58, .inl 0), (57, .inl 0), (56, .inl 0), (55, .inl 0), (54, .inl 0), (53, .inl 0), (52, .inl 0), (51, .inl 0), (50, .inl 0), (49, .inl 0), (48, .inl 0), (47, .inl 0), (46, .inl 0), (45, .inl 0), (44, .inl 0), (43, .inl 0), (42, .inl 0), (41, .inl 0), (40, .inl 0), (39, .inl 0), (38, .inl 0), (37, .inl 0), (36, .inl 0), (35, .inl 0), (34, .inl 0), (33, .inl 0), (32, .inl 0), (31, .inl 0), (30, .inl 0), (29, .inl 0), (28, .inl 0), (27, .inl 0), (26, .inl 0), (25, .inl 0), (24, .inl 0), (23, .inl 0), (22, .inl 0), (21, .inl 0), (20, .inl 0), (19, .inl 0), (18, .inl 0), (17, .inl 0), (16, .inl 0), (15, .inl 0), (14, .inl 0), (13, .inl 0), (12, .inl 0), (11, .inl 0), (10, .inl 0), (9, .inl 0), (8, .inl 0), (7, .inl 0), (6, .inl 0), (5, .inl 0), (4, .inl 0), (3, .inl 0), (2, .inl 0), (1, .inl 0), (0, .inl 0)], .inl 0)),
  .inl (0, 8, .inl ([(7, .inl (-1)), (6, .inl (-1)), (5, .inl (-1)), (4, .inl (-1)), (3, .inl (-1)), (2, .inl (-1)), (1, .inl (-1)), (0, .inl (-1))], .inl 0)),
  .inl (0, 8, .inl ([(7, .inl 0), (6, .inl 0), (5, .inl 0), (4, .inl 0), (3, .inl 0), (2, .inl 0), (1, .inl 0), (0, .inl 0)], .inl 0)),
  .inl (0, 8, .inl ([(7, .inl 0), (6, .inl 0), (5, .inl 0), (4, .inl 0), (3, .inl 0), (2, .inl 0), (1, .inl 0), (0, .inl 0)], .inl 0)),
  .inl (0, 8, .inl ([(7, .inl 0), (6, .inl 0), (5, .inl 0), (4, .inl 0), (3, .inl 0), (2, .inl 0), (1, .inl 0), (0, .inl 0)], .inl 0)),
  .inl (0, 24, .inl ([(23, .inl (-1)), (22, .inl (-1)), (21, .inl (-1)), (20, .inl (-1)), (19, .inl (-1)), (18, .inl (-1)), (17, .inl (-1)), (16, .inl (-1)), (15, .inl (-1)), (14, .inl (-1)), (13, .inl (-1)), (12, .inl (-1)), (11, .inl (-1)), (10, .inl (-1)), (9, .inl (-1)), (8, .inl (-1)), (7, .inl (-1)), (6, .inl (-1)), (5, .inl (-1)), (4, .inl (-1)), (3, .inl (-1)), (2, .inl (-1)), (1, .inl (-1)), (0, .inl (-1))], .inl 0)),
  .inr (7, [.inl (.ref 3), .inl (.ref 74), .inl (.ref 75), .inl (.ref 76), .inl (.ref 77), .inl (.ref 78), .inl (.ref 79), .inl (.int 0), .inl (.int 0), .inl (.int 0)]),
  .inl (0, 64, .inl ([(63, .inl 0), (62, .inl 0), (61, .inl 0), (60, .inl 0), (59, .inl 0), (58, .inl 0), (57, .inl 0), (56, .inl 0), (55, .inl 0), (54, .inl 0), (53, .inl 0), (52, .inl 0), (51, .inl 0), (50, .inl 0), (49, .inl 0), (48, .inl 0), (47, .inl 0), (46, .inl 0), (45, .inl 0), (44, .inl 0), (43, .inl 0), (42, .inl 0), (41, .inl 0), (40, .inl 0), (39, .inl 0), (38, .inl 0), (37, .inl 0), (36, .inl 0), (35, .inl 0), (34, .inl 0), (33, .inl 0), (32, .inl 0), (31, .inl 0), (30, .inl 0), (29, .inl 0), (28, .inl 0), (27, .inl 0), (26, .inl 0), (25, .inl 0), (24, .inl 0), (23, .inl 0), (22, .inl 0), (21, .inl 0), (20, .inl 0), (19, .inl 0), (18, .inl 0), (17, .inl 0), (16, .inl 0), (15, .inl 0), (14, .inl 0), (13, .inl 0), (12, .inl 0), (11, .inl 0), (10, .inl 0), (9, .inl 0), (8, .inl 0), (7, .inl 0), (6, .inl 0), (5, .inl 0), (4, .inl 0), (3, .inl 0), (2, .inl 0), (1, .inl 0), (0, .inl 0)], .inl 0)),
  .inl (0, 8, .inl ([(7, .inl (-1)), (6, .inl (-1)), (5, .inl (-1)), (4, .inl (-1)), (3, .inl (-1)), (2, .inl (-1)), (1, .inl (-1)), (0, .inl (-1))], .inl 0)),
  .inl (0, 8, .inl ([(7, .inl 0), (6, .inl 0), (5, .inl 0), (4, .inl 0), (3, .inl 0), (2, .inl 0), (1, .inl 0), (0, .inl 0)], .inl 0)),
  .inl (0, 8, .inl ([(7, .inl 0), (6, .inl 0), (5, .inl 0), (4, .inl 0), (3, .inl 0), (2, .inl 0), (1, .inl 0), (0, .inl 0)], .inl 0)),
  .inl (0, 8, .inl ([(7, .inl 0), (6, .inl 0), (5, .inl 0), (4, .inl 0), (3, .inl 0), (2, .inl 0), (1, .inl 0), (0, .inl 0)], .inl 0)),
  .inl (0, 24, .inl ([(23, .inl (-1)), (22, .inl (-1)), (21, .inl (-1)), (20, .inl (-1)), (19, .inl (-1)), (18, .inl (-1)), (17, .inl (-1)), (16, .inl (-1)), (15, .inl (-1)), (14, .inl (-1)), (13, .inl (-1)), (12, .inl (-1)), (11, .inl (-1)), (10, .inl (-1)), (9, .inl (-1)), (8, .inl (-1)), (7, .inl (-1)), (6, .inl (-1)), (5, .inl (-1)), (4, .inl (-1)), (3, .inl (-1)), (2, .inl (-1)), (1, .inl (-1)), (0, .inl (-1))], .inl 0))]
def kC5 : List KE := [.inr (7, [.inl (.ref 3), .inl (.ref 81), .inl (.ref 82), .inl (.ref 83), .inl (.ref 84), .inl (.ref 85), .inl (.ref 86), .inl (.int 0), .inl (.int 0), .inl (.int 0)]),
  .inl (0, 64, .inl ([(63, .inl 0), (62, .inl 0), (61, .inl 0), (60, .inl 0), (59, .inl 0), (58, .inl 0), (57, .inl 0), (56, .inl 0), (55, .inl 0), (54, .inl 0), (53, .inl 0), (52, .inl 0), (51, .inl 0), (50, .inl 0), (49, .inl 0), (48, .inl 0), (47, .inl 0), (46, .inl 0), (45, .inl 0), (44, .inl 0), (43, .inl 0), (42, .inl 0), (41, .inl 0), (40, .inl 0), (39, .inl 0), (38, .inl 0), (37, .inl 0), (36, .inl 0), (35, .inl 0), (34, .inl 0), (33, .inl 0), (32, .inl 0), (31, .inl 0), (30, .inl 0), (29, .inl 0), (28, .inl 0), (27, .inl 0), (26, .inl 0), (25, .inl 0), (24, .inl 0), (23, .inl 0), (22, .inl 0), (21, .inl 0), (20, .inl 0), (19, .inl 0), (18, .inl 0), (17, .inl 0), (16, .inl 0), (15, .inl 0), (14, .inl 0), (13, .inl 0), (12, .inl 0), (11, .inl 0), (10, .inl 0), (9, .inl 0), (8, .inl 0), (7, .inl 0), (6, .inl 0), (5, .inl 0), (4, .inl 0), (3, .inl 0), (2, .inl 0), (1, .inl 0), (0, .inl 0)], .inl 0)),
  .inl (0, 8, .inl ([(7, .inl (-1)), (6, .inl (-1)), (5, .inl (-1)), (4, .inl (-1)), (3, .inl (-1)), (2, .inl (-1)), (1, .inl (-1)), (0, .inl (-1))], .inl 0)),
  .inl (0, 8, .inl ([(7, .inl 0), (6, .inl 0), (5, .inl 0), (4, .inl 0), (3, .inl 0), (2, .inl 0), (1, .inl 0), (0, .inl 0)], .inl 0)),
  .inl (0, 8, .inl ([(7, .inl 0), (6, .inl 0), (5, .inl 0), (4, .inl 0), (3, .inl 0), (2, .inl 0), (1, .inl 0), (0, .inl 0)], .inl 0)),
  .inl (0, 8, .inl ([(7, .inl 0), (6, .inl 0), (5, .inl 0), (4, .inl 0), (3, .inl 0), (2, .inl 0), (1, .inl 0), (0, .inl 0)], .inl 0)),
  .inl (0, 24, .inl ([(23, .inl (-1)), (22, .inl (-1)), (21, .inl (-1)), (20, .inl (-1)), (19, .inl (-1)), (18, .inl (-1)), (17, .inl (-1)), (16, .inl (-1)), (15, .inl (-1)), (14, .inl (-1)), (13, .inl (-1)), (12, .inl (-1)), (11, .inl (-1)), (10, .inl (-1)), (9, .inl (-1)), (8, .inl (-1)), (7, .inl (-1)), (6, .inl (-1)), (5, .inl (-1)), (4, .inl (-1)), (3, .inl (-1)), (2, .inl (-1)), (1, .inl (-1)), (0, .inl (-1))], .inl 0)),
  .inl (6, 2, .inr (.inr [(1, some 129), (0, some 110)])),
  .inr (3, [.inl (.ref 89), .inl (.ref 90), .inl (.ref 91), .inl (.int 0), .inl (.int 0), .inl (.int 0)]),
  .inl (0, 64, .inl ([], .inl 0)),
  .inl (0, 24, .inl ([], .inl 0)),
  .inl (0, 8, .inl ([(7, .inl (-1)), (6, .inl (-1)), (5, .inl (-1)), (4, .inl (-1)), (3, .inl (-1)), (2, .inl (-1)), (1, .inl (-1)), (0, .inl (-1))], .inl 0)),
  .inr (0, [.inl (.ref 93), .inl (.int (-1)), .inl (.int (-1))]),
  .inl (0, 8, .inl ([], .inl 0)),
  .inr (6, [.inl (.ref 95), .inl (.int 0)]),
  .inl (3, 40, .inl ([], .inl 0))]
def kC6 : List KE := [.inr (1, [.inl (.ref 97), .inl (.ref 98), .inl (.ref 99), .inl (.int 0), .inl (.int 0), .inl (.int 0), .inl (.int 0), .inl (.int 0), .inl (.int 0)]),
  .inl (0, 40, .inl ([], .inl 0)),
  .inl (0, 40, .inl ([], .inl 0)),
  .inl (0, 40, .inl ([], .inl 0)),
  .inr (5, [.inl (.ref 101), .inl (.ref 102), .inl (.ref 103), .inl (.ref 104), .inl (.int 0), .inl (.int 0)]),
  .inl (0, 40, .inl ([], .inl 0)),
  .inl (0, 40, .inl ([], .inl 0)),
  .inl (0, 40, .inl ([], .inl 0)),
  .inl (0, 20, .inl ([], .inl 0)),
  .inr (5, [.inl (.ref 106), .inl (.ref 107), .inl (.ref 108), .inl (.ref 109), .inl (.int 0), .inl (.int 0)]),
  .inl (0, 40, .inl ([], .inl 0)),
  .inl (0, 40, .inl ([], .inl 0)),
  .inl (0, 40, .inl ([], .inl 0)),
  .inl (0, 20, .inl ([], .inl 0)),
  .inr (2, [.inl (.ref 111), .inl (.ref 122), .inl (.ref 117), .inl (.int 0)]),
  .inr (4, [.inl (.ref 112), .inl (.ref 113), .inl (.ref 114), .inl (.ref 115), .inl (.ref 116), .inl (.int 0), .inl (.int 0), .inl (.int 0), .inl (.int 0)])]
def kC7 : List KE := [.inl (1, 8, .inr (.inl ([], 0))),
  .inl (1, 8, .inr (.inl ([], 0))),
  .inl (0, 8, .inl ([], .inl 0)),
  .inl (0, 8, .inl ([], .inl 0)),
  .inl (0, 8, .inl ([], .inl 0)),
  .inr (5, [.inl (.ref 118), .inl (.ref 119), .inl (.ref 120), .inl (.ref 121), .inl (.int 0), .inl (.int 0)]),
  .inl (0, 40, .inl ([], .inl 0)),
  .inl (0, 40, .inl ([], .inl 0)),
  .inl (0, 40, .inl ([], .inl 0)),
  .inl (0, 20, .inl ([], .inl 0)),
  .inr (7, [.inl (.ref 3), .inl (.ref 123), .inl (.ref 124), .inl (.ref 125), .inl (.ref 126), .inl (.ref 127), .inl (.ref 128), .inl (.int 0), .inl (.int 0), .inl (.int 0)]),
  .inl (0, 64, .inl ([(63, .inl 0), (62, .inl 0), (61, .inl 0), (60, .inl 0), (59, .inl 0), (58, .inl 0), (57, .inl 0), (56, .inl 0), (55, .inl 0), (54, .inl 0), (53, .inl 0), (52, .inl 0), (51, .inl 0), (50, .inl 0), (49, .inl 0), (48, .inl 0), (47, .inl 0), (46, .inl 0), (45, .inl 0), (44, .inl 0), (43, .inl 0), (42, .inl 0), (41, .inl 0), (40, .inl 0), (39, .inl 0), (38, .inl 0), (37, .inl 0), (36, .inl 0), (35, .inl 0), (34, .inl 0), (33, .inl 0), (32, .inl 0), (31, .inl 0), (30, .inl 0), (29, .inl 0), (28, .inl 0), (27, .inl 0), (26, .inl 0), (25, .inl 0), (24, .inl 0), (23, .inl 0), (22, .inl 0), (21, .inl 0), (20, .inl 0), (19, .inl 0), (18, .inl 0), (17, .inl 0), (16, .inl 0), (15, .inl 0), (14, .inl 0), (13, .inl 0), (12, .inl 0), (11, .inl 0), (10, .inl 0), (9, .inl 0), (8, .inl 0), (7, .inl 0), (6, .inl 0), (5, .inl 0), (4, .inl 0), (3, .inl 0), (2, .inl 0), (1, .inl 0), (0, .inl 0)], .inl 0)),
  .inl (0, 8, .inl ([(7, .inl (-1)), (6, .inl (-1)), (5, .inl (-1)), (4, .inl (-1)), (3, .inl (-1)), (2, .inl (-1)), (1, .inl (-1)), (0, .inl (-1))], .inl 0)),
  .inl (0, 8, .inl ([(7, .inl 0), (6, .inl 0), (5, .inl 0), (4, .inl 0), (3, .inl 0), (2, .inl 0), (1, .inl 0), (0, .inl 0)], .inl 0)),
  .inl (0, 8, .inl ([(7, .inl 0), (6, .inl 0), (5, .inl 0), (4, .inl 0), (3, .inl 0), (2, .inl 0), (1, .inl 0), (0, .inl 0)], .inl 0)),
  .inl (0, 8, .inl ([(7, .inl 0), (6, .inl 0), (5, .inl 0), (4, .inl 0), (3, .inl 0), (2, .inl 0), (1, .inl 0), (0, .inl 0)], .inl 0))]
def kC8 : List KE := [.inl (0, 24, .inl ([(23, .inl (-1)), (22, .inl (-1)), (21, .inl (-1)), (20, .inl (-1)), (19, .inl (-1)), (18, .inl (-1)), (17, .inl (-1)), (16, .inl (-1)), (15, .inl (-1)), (14, .inl (-1)), (13, .inl (-1)), (12, .inl (-1)), (11, .inl (-1)), (10, .inl (-1)), (9, .inl (-1)), (8, .inl (-1)), (7, .inl (-1)), (6, .inl (-1)), (5, .inl (-1)), (4, .inl (-1)), (3, .inl (-1)), (2, .inl (-1)), (1, .inl (-1)), (0, .inl (-1))], .inl 0)),
  .inr (2, [.inl (.ref 130), .inl (.ref 141), .inl (.ref 136), .inl (.int 0)]),
  .inr (4, [.inl (.ref 131), .inl (.ref 132), .inl (.ref 133), .inl (.ref 134), .inl (.ref 135), .inl (.int 0), .inl (.int 0), .inl (.int 0), .inl (.int 0)]),
  .inl (1, 8, .inr (.inl ([], 0))),
  .inl (1, 8, .inr (.inl ([], 0))),
  .inl (0, 8, .inl ([], .inl 0)),
  .inl (0, 8, .inl ([], .inl 0)),
  .inl (0, 8, .inl ([], .inl 0)),
  .inr (5, [.inl (.ref 137), .inl (.ref 138), .inl (.ref 139), .inl (.ref 140), .inl (.int 0), .inl (.int 0)]),
  .inl (0, 40, .inl ([], .inl 0)),
  .inl (0, 40, .inl ([], .inl 0)),
  .inl (0, 40, .inl ([], .inl 0)),
  .inl (0, 20, .inl ([], .inl 0)),
  .inr (7, [.inl (.ref 3), .inl (.ref 142), .inl (.ref 143), .inl (.ref 144), .inl (.ref 145), .inl (.ref 146), .inl (.ref 147), .inl (.int 0), .inl (.int 0), .inl (.int 0)]),
  .inl (0, 64, .inl ([(63, .inl 0), (62, .inl 0), (61, .inl 0), (60, .inl 0), (59, .inl 0), (58, .inl 0), (57, .inl 0), (56, .inl 0), (55, .inl 0), (54, .inl 0), (53, .inl 0), (52, .inl 0), (51, .inl 0), (50, .inl 0), (49, .inl 0), (48, .inl 0), (47, .inl 0), (46, .inl 0), (45, .inl 0), (44, .inl 0), (43, .inl 0), (42, .inl 0), (41, .inl 0), (40, .inl 0), (39, .inl 0), (38, .inl 0), (37, .inl 0), (36, .inl 0), (35, .inl 0), (34, .inl 0), (33, .inl 0), (32, .inl 0), (31, .inl 0), (30, .inl 0), (29, .inl 0), (28, .inl 0), (27, .inl 0), (26, .inl 0), (25, .inl 0), (24, .inl 0), (23, .inl 0), (22, .inl 0), (21, .inl 0), (20, .inl 0), (19, .inl 0), (18, .inl 0), (17, .inl 0), (16, .inl 0), (15, .inl 0), (14, .inl 0), (13, .inl 0), (12, .inl 0), (11, .inl 0), (10, .inl 0), (9, .inl 0), (8, .inl 0), (7, .inl 0), (6, .inl 0), (5, .inl 0), (4, .inl 0), (3, .inl 0), (2, .inl 0), (1, .inl 0), (0, .inl 0)], .inl 0)),
  .inl (0, 8, .inl ([(7, .inl (-1)), (6, .inl (-1)), (5, .inl (-1)), (4, .inl (-1)), (3, .inl (-1)), (2, .inl (-1)), (1, .inl (-1)), (0, .inl (-1))], .inl 0))]
def kC9 : List KE := [.inl (0, 8, .inl ([(7, .inl 0), (6, .inl 0), (5, .inl 0), (4, .inl 0), (3, .inl 0), (2, .inl 0), (1, .inl 0), (0, .inl 0)], .inl 0)),
  .inl (0, 8, .inl ([(7, .inl 0), (6, .inl 0), (5, .inl 0), (4, .inl 0), (3, .inl 0), (2, .inl 0), (1, .inl 0), (0, .inl 0)], .inl 0)),
  .inl (0, 8, .inl ([(7, .inl 0), (6, .inl 0), (5, .inl 0), (4, .inl 0), (3, .inl 0), (2, .inl 0), (1, .inl 0), (0, .inl 0)], .inl 0)),
  .inl (0, 24, .inl ([(23, .inl (-1)), (22, .inl (-1)), (21, .inl (-1)), (20, .inl (-1)), (19, .inl (-1)), (18, .inl (-1)), (17, .inl (-1)), (16, .inl (-1)), (15, .inl (-1)), (14, .inl (-1)), (13, .inl (-1)), (12, .inl (-1)), (11, .inl (-1)), (10, .inl (-1)), (9, .inl (-1)), (8, .inl (-1)), (7, .inl (-1)), (6, .inl (-1)), (5, .inl (-1)), (4, .inl (-1)), (3, .inl (-1)), (2, .inl (-1)), (1, .inl (-1)), (0, .inl (-1))], .inl 0)),
  .inr (11, [.inl (.int 0), .inl (.ref 149), .inl (.int 0), .inl (.int 0), .inl (.int 0), .inl (.int 0), .inl (.int 0), .inl (.int 0), .inl (.int 0), .inl (.int 0), .inl (.int 0), .inl (.int 0), .inl (.long 0), .inl (.int 0), .inl (.ref 150), .inl (.ref 151), .inl (.ref 152), .inl (.ref 153), .inl (.ref 154), .inl (.ref 155), .inl (.ref 156), .inl (.ref 157), .inl (.ref 158), .inl (.int 0), .inl (.int 0), .inl (.ref 159), .inl (.ref 160), .inl (.ref 161), .inl (.ref 162), .inl (.int 0), .inl (.int 0), .inl (.int (-1)), .inl (.int (-1)), .inl (.ref 163), .inl (.int 0), .inl (.int 0), .inl (.ref 164), .inl (.ref 165), .inl (.int 0), .inl (.int 0), .inl (.ref 166), .inl (.int 0), .inl (.int 0), .inl (.int 0), .inl (.int 0)]),
  .inl (0, 940, .inl ([], .inl 0)),
  .inl (0, 456, .inl ([(205, .inl (-1)), (204, .inl (-1)), (203, .inl (-1)), (202, .inl (-1)), (201, .inl (-1)), (200, .inl (-1)), (199, .inl (-1)), (198, .inl (-1)), (197, .inl 0), (189, .inl 0), (181, .inl (-1)), (180, .inl (-1)), (179, .inl (-1)), (196, .inl 0), (188, .inl 0), (178, .inl (-1)), (177, .inl (-1)), (176, .inl (-1)), (195, .inl 0), (187, .inl 0), (175, .inl (-1)), (174, .inl (-1)), (173, .inl (-1)), (194, .inl 0), (186, .inl 0), (172, .inl (-1)), (171, .inl (-1)), (170, .inl (-1)), (193, .inl 0), (185, .inl 0), (169, .inl (-1)), (168, .inl (-1)), (167, .inl (-1)), (192, .inl 0), (184, .inl 0), (166, .inl (-1)), (165, .inl (-1)), (164, .inl (-1)), (191, .inl 0), (183, .inl 0), (163, .inl (-1)), (162, .inl (-1)), (161, .inl (-1)), (190, .inl 0), (182, .inl 0), (160, .inl (-1)), (159, .inl (-1)), (158, .inl (-1)), (157, .inl 0), (156, .inl 0), (155, .inl 0), (154, .inl 0), (153, .inl 0), (152, .inl 0), (151, .inl 0), (150, .inl 0), (149, .inl 0), (148, .inl 0), (147, .inl 0), (146, .inl 0), (145, .inl 0), (144, .inl 0), (143, .inl 0), (142, .inl 0), (141, .inl 0), (140, .inl 0), (139, .inl 0), (138, .inl 0), (137, .inl 0), (136, .inl 0), (135, .inl 0), (134, .inl 0), (133, .inl 0), (132, .inl 0), (131, .inl 0), (130, .inl 0), (129, .inl 0), (128, .inl 0), (127, .inl 0), (126, .inl 0), (125, .inl 0), (124, .inl 0), (123, .inl 0), (122, .inl 0), (121, .inl 0), (120, .inl 0), (119, .inl 0), (118, .inl 0), (117, .inl 0), (116, .inl 0), (115, .inl 0), (114, .inl 0), (113, .inl 0), (112, .inl 0), (111, .inl 0), (110, .inl 0), (109, .inl 0), (108, .inl 0), (107, .inl 0), (106, .inl 0), (105, .inl 0), (104, .inl 0), (103, .inl 0), (102, .inl 0), (101, .inl 0), (100, .inl 0), (99, .inl 0), (98, .inl 0), (97, .inl 0), (96, .inl 0), (95, .inl 0), (94, .inl 0), (93, .inl 0), (455, .inl 0), (454, .inl 0), (453, .inl 0), (452, .inl 0), (451, .inl 0), (450, .inl 0), (449, .inl 0), (448, .inl 0), (447, .inl 0), (446, .inl 0), (445, .inl 0), (444, .inl 0), (443, .inl 0), (442, .inl 0), (441, .inl 0), (440, .inl 0), (439, .inl 0), (438, .inl 0), (437, .inl 0), (436, .inl 0), (435, .inl 0), (434, .inl 0), (433, .inl 0), (432, .inl 0), (431, .inl 0), (430, .inl 0), (429, .inl 0), (428, .inl 0), (427, .inl 0), (426, .inl 0), (425, .inl 0), (424, .inl 0), (423, .inl 0), (422, .inl 0), (421, .inl 0), (420, .inl 0), (419, .inl 0), (418, .inl 0), (417, .inl 0), (416, .inl 0), (415, .inl 0), (414, .inl 0), (413, .inl 0), (412, .inl 0), (411, .inl 0), (410, .inl 0), (409, .inl 0), (408, .inl 0), (407, .inl 0), (406, .inl 0), (405, .inl 0), (404, .inl 0), (403, .inl 0), (402, .inl 0), (401, .inl 0), (400, .inl 0), (399, .inl 0), (398, .inl 0), (397, .inl 0), (396, .inl 0), (395, .inl 0), (394, .inl 0), (393, .inl 0), (392, .inl 0), (391, .inl 0), (390, .inl 0), (389, .inl 0), (388, .inl 0), (387, .inl 0), (386, .inl 0), (385, .inl 0), (384, .inl 0), (383, .inl 0), (382, .inl 0), (381, .inl 0), (380, .inl 0), (379, .inl 0), (378, .inl 0), (377, .inl 0), (376, .inl 0), (375, .inl 0), (374, .inl 0), (373, .inl 0), (372, .inl 0), (371, .inl 0), (370, .inl 0), (369, .inl 0), (368, .inl 0), (367, .inl 0), (366, .inl 0), (365, .inl 0), (364, .inl 0), (363, .inl 0), (362, .inl 0), (361, .inl 0), (360, .inl 0), (359, .inl 0), (358, .inl 0), (357, .inl 0), (356, .inl 0), (355, .inl 0), (354, .inl 0), (353, .inl 0), (352, .inl 0), (351, .inl 0), (350, .inl 0), (349, .inl 0), (348, .inl 0), (347, .inl 0), (346, .inl 0), (345, .inl 0), (344, .inl 0), (343, .inl 0), (342, .inl 0), (341, .inl 0), (340, .inl 0), (339, .inl 0), (338, .inl 0), (337, .inl 0), (336, .inl 0), (335, .inl 0), (334, .inl 0), (333, .inl 0), (332, .inl 0), (331, .inl 0), (330, .inl 0), (329, .inl 0), (328, .inl 0), (327, .inl 0), (326, .inl 0), (325, .inl 0), (324, .inl 0), (323, .inl 0), (322, .inl 0), (321, .inl 0), (320, .inl 0), (319, .inl 0), (318, .inl 0), (317, .inl 0), (316, .inl 0), (315, .inl 0), (314, .inl 0), (313, .inl 0), (312, .inl 0), (311, .inl 0), (310, .inl 0), (309, .inl 0), (308, .inl 0), (307, .inl 0), (306, .inl 0), (305, .inl 0), (304, .inl 0), (303, .inl 0), (302, .inl 0), (301, .inl 0), (300, .inl 0), (299, .inl 0), (298, .inl 0), (297, .inl 0), (296, .inl 0), (295, .inl 0), (294, .inl 0), (293, .inl 0), (292, .inl 0), (291, .inl 0), (290, .inl 0), (289, .inl 0), (288, .inl 0), (287, .inl 0), (286, .inl 0), (285, .inl 0), (284, .inl 0), (283, .inl 0), (282, .inl 0), (281, .inl 0), (280, .inl 0), (279, .inl 0), (278, .inl 0), (277, .inl 0), (276, .inl 0), (275, .inl 0), (274, .inl 0), (273, .inl 0), (272, .inl 0), (271, .inl 0), (270, .inl 0), (269, .inl 0), (268, .inl 0), (267, .inl 0), (266, .inl 0), (265, .inl 0), (264, .inl 0), (263, .inl 0), (262, .inl 0), (261, .inl 0), (260, .inl 0), (259, .inl 0), (258, .inl 0), (257, .inl 0), (256, .inl 0), (255, .inl 0), (254, .inl 0), (253, .inl 0), (252, .inl 0), (251, .inl 0), (250, .inl 0), (249, .inl 0), (248, .inl 0), (247, .inl 0), (246, .inl 0), (245, .inl 0), (244, .inl 0), (243, .inl 0), (242, .inl 0), (241, .inl 0), (240, .inl 0), (239, .inl 0), (238, .inl 0), (237, .inl 0), (236, .inl 0), (235, .inl 0), (234, .inl 0), (233, .inl 0), (232, .inl 0), (231, .inl 0), (230, .inl 0), (229, .inl 0), (228, .inl 0), (227, .inl 0), (226, .inl 0), (225, .inl 0), (224, .inl 0), (223, .inl 0), (222, .inl 0), (221, .inl 0), (220, .inl 0), (219, .inl 0), (218, .inl 0), (217, .inl 0), (216, .inl 0), (215, .inl 0), (214, .inl 0), (213, .inl 0), (212, .inl 0), (211, .inl 0), (210, .inl 0), (209, .inl 0), (208, .inl 0), (207, .inl 0), (206, .inl 0), (92, .inl 0)], .inl 0)),
  .inl (0, 92, .inl ([], .inl 0)),
  .inl (0, 912, .inl ([], .inl 0)),
  .inl (0, 976, .inl ([], .inl 0)),
  .inl (0, 122, .inl ([], .inl 0)),
  .inl (1, 16, .inr (.inl ([], 0))),
  .inl (1, 16, .inr (.inl ([], 0))),
  .inl (1, 32, .inr (.inl ([], 0))),
  .inl (4, 2, .inl ([], .inl 0)),
  .inl (0, 24, .inl ([], .inl 0))]
def kC10 : List KE := [.inl (0, 8, .inl ([], .inl 0)),
  .inl (4, 24, .inl ([], .inl 0)),
  .inl (4, 24, .inl ([], .inl 0)),
  .inl (0, 64, .inl ([], .inl 0)),
  .inl (0, 120, .inl ([], .inl 0)),
  .inl (0, 4, .inl ([], .inl 0)),
  .inl (0, 240, .inl ([], .inl 0)),
  .inl (1, 1, .inr (.inl ([], 0)))]
def kW1 : KW := [kC0, kC1, kC2, kC3, kC4, kC5, kC6, kC7, kC8, kC9, kC10]
/-- the law behind its two constructors, at the head of its loop -/
def kS1 : KF := (23, [(4, .inl (.int 0)), (3, .inl (.ref 167)), (2, .inl (.ref 148)), (1, .inl (.ref 0)), (0, .inl (.ref 1000000))], [], kW1, 168, 7728)
end
section
/-! the tables are as they should be: each method's rows decode, and their words are the tables' (written by a program) -/
def kpick : List Cond → List Nat → List Cond
  | [], _ => []
  | c :: l, gs => match gs with
    | [] => []
    | g :: r => match g with
      | 0 => c :: kpick l r
      | n + 1 => kpick l (n :: r)
theorem kpick_sub : ∀ (l : List Cond) (gs : List Nat), ∀ w ∈ kpick l gs, w ∈ l := by
  intro l
  induction l with
  | nil => intro gs w h; cases h
  | cons c l ih =>
    intro gs w h
    cases gs with
    | nil => cases h
    | cons g r =>
      cases g with
      | zero =>
        rcases List.mem_cons.mp h with e | h
        · rw [e]; exact List.mem_cons_self
        · exact List.mem_cons_of_mem _ (ih r w h)
      | succ n => exact List.mem_cons_of_mem _ (ih (n :: r) w h)
def kin2 (ws sel : List Cond) (ps : List Nat) : Bool := decide (ws.map some = ps.map (fun i => sel[i]?)) && ws.all goodWord
theorem kin2_ok {ws : List Cond} {gs ps : List Nat} (h : kin2 ws (kpick lw_tbl gs) ps = true) : ∀ w ∈ ws, w ∈ LT := by
  intro w hw
  have h1 := Bool.and_eq_true_iff.mp h
  have h2 := of_decide_eq_true h1.1
  have h3 : some w ∈ ps.map (fun i => (kpick lw_tbl gs)[i]?) := by rw [← h2]; exact List.mem_map.mpr ⟨w, hw, rfl⟩
  obtain ⟨i, -, hi⟩ := List.mem_map.mp h3
  exact List.mem_filter.mpr ⟨kpick_sub _ _ _ (List.mem_of_getElem? hi), List.all_eq_true.mp h1.2 w hw⟩
def kchk (ms : List KMeth) (zs : KZ) (own mname : String) (cc : ByteArray) (prog : List KEnt) (gs ps : List Nat) : Bool := prog.all (fun x => kdec cc x && kside ms zs own mname x) && kin2 (prog.flatMap (fun x => kwords ms zs own x)) (kpick lw_tbl gs) ps
theorem kchk_ok {ms : List KMeth} {zs : KZ} {own mname : String} {cc : ByteArray} {prog : List KEnt} {gs ps : List Nat} (h : kchk ms zs own mname cc prog gs ps = true) : ∀ x ∈ prog, kEntOK ms zs own mname cc x := by
  intro x hx
  have h1 := Bool.and_eq_true_iff.mp h
  have h2 := Bool.and_eq_true_iff.mp (List.all_eq_true.mp h1.1 x hx)
  exact ⟨h2.1, fun w hw => kin2_ok h1.2 w (List.mem_flatMap.mpr ⟨x, hx, hw⟩), h2.2⟩
def kMethOK (r : KMeth) : Prop := (∀ x ∈ r.2.2.2.2.2.2, kEntOK kmeths kStats r.1.cls r.1.name r.2.1 x) ∧ plainName r.1.cls = true
end
section
set_option maxRecDepth 100000 in
theorem kO0 : kMethOK kM0 := ⟨kchk_ok (gs := [136, 0, 0, 1, 0, 0, 0, 0, 0, 0, 19, 0, 0, 0, 0, 1, 0, 46, 0, 1, 0, 42, 0, 0, 0, 0, 47, 0, 0, 0, 0, 14, 1, 0, 0, 0, 0, 21, 0, 1, 0, 13, 0, 1, 0, 10, 0, 1, 0, 30, 0, 1, 0, 21, 0, 0, 0, 24, 0, 0, 0, 0, 0, 0, 0, 0, 0, 0, 0, 0, 0]) (ps := [10, 11, 12, 13, 14, 0, 15, 0, 16, 57, 17, 18, 1, 19, 1, 20, 58, 17, 18, 1, 19, 1, 20, 59, 21, 22, 2, 58, 23, 24, 2, 25, 60, 21, 22, 2, 58, 23, 24, 2, 25, 61, 26, 27, 3, 58, 28, 29, 3, 30, 62, 31, 63, 32, 33, 4, 34, 35, 4, 36, 64, 37, 38, 5, 39, 5, 40, 65, 41, 42, 6, 43, 6, 44, 66, 45, 46, 7, 47, 7, 48, 67, 49, 50, 8, 51, 8, 52, 68, 49, 50, 8, 51, 8, 52, 69, 70, 63, 63, 31, 53, 9, 58, 54, 55, 9, 56]) (by decide +kernel), by decide +kernel⟩
set_option maxRecDepth 100000 in
theorem kO1 : kMethOK kM1 := ⟨kchk_ok (gs := [374, 121]) (ps := [1, 0]) (by decide +kernel), by decide +kernel⟩
set_option maxRecDepth 100000 in
theorem kO2 : kMethOK kM2 := ⟨kchk_ok (gs := [138, 1, 350, 1, 271, 0, 0, 0, 25, 0, 0, 0, 4, 0, 0, 0]) (ps := [2, 4, 5, 6, 0, 7, 3, 2, 8, 9, 10, 1, 11, 2, 12, 13, 14, 0, 15]) (by decide +kernel), by decide +kernel⟩
set_option maxRecDepth 100000 in
theorem kO3 : kMethOK kM3 := ⟨kchk_ok (gs := [137, 351, 173, 0, 0, 44]) (ps := [1, 5, 2, 3, 0, 4]) (by decide +kernel), by decide +kernel⟩
set_option maxRecDepth 100000 in
theorem kO4 : kMethOK kM4 := ⟨kchk_ok (gs := [138, 5, 33, 14, 218, 75, 0, 1, 0, 5, 2, 187, 0, 0, 0, 457, 0, 0, 0, 63, 0, 0, 0]) (ps := [9, 5, 6, 15, 16, 17, 1, 18, 5, 3, 10, 5, 2, 10, 8, 7, 11, 12, 13, 0, 14, 9, 8, 19, 20, 21, 1, 22, 9, 7, 19, 20, 21, 1, 22, 9, 4]) (by decide +kernel), by decide +kernel⟩
set_option maxRecDepth 100000 in
theorem kO5 : kMethOK kM5 := ⟨kchk_ok (gs := [143, 353, 620, 0, 0, 0]) (ps := [1, 2, 3, 4, 0, 5]) (by decide +kernel), by decide +kernel⟩
set_option maxRecDepth 100000 in
theorem kO6 : kMethOK kM6 := ⟨kchk_ok (gs := [137, 351, 235, 0, 0, 32]) (ps := [1, 5, 2, 3, 0, 4]) (by decide +kernel), by decide +kernel⟩
set_option maxRecDepth 100000 in
theorem kO7 : kMethOK kM7 := ⟨kchk_ok (gs := [137, 351, 235, 0, 0, 32]) (ps := [1, 5, 2, 3, 0, 4]) (by decide +kernel), by decide +kernel⟩
set_option maxRecDepth 100000 in
theorem kO8 : kMethOK kM8 := ⟨kchk_ok (gs := [178, 57, 5, 2, 242, 0]) (ps := [5, 1, 5, 2, 5, 3, 4, 0]) (by decide +kernel), by decide +kernel⟩
set_option maxRecDepth 100000 in
theorem kO9 : kMethOK kM9 := ⟨kchk_ok (gs := [142, 348, 4, 477, 0, 0, 0]) (ps := [2, 1, 3, 4, 5, 0, 6]) (by decide +kernel), by decide +kernel⟩
set_option maxRecDepth 100000 in
theorem kO10 : kMethOK kM10 := ⟨kchk_ok (gs := [376, 119]) (ps := [1, 0]) (by decide +kernel), by decide +kernel⟩
set_option maxRecDepth 100000 in
theorem kO11 : kMethOK kM11 := ⟨kchk_ok (gs := [13, 121, 19, 140, 194, 269, 1, 0, 35, 0, 62]) (ps := [4, 3, 10, 8, 2, 9, 5, 6, 0, 1, 7]) (by decide +kernel), by decide +kernel⟩
set_option maxRecDepth 100000 in
theorem kO12 : kMethOK kM12 := ⟨kchk_ok (gs := [236, 252]) (ps := [1, 0]) (by decide +kernel), by decide +kernel⟩
set_option maxRecDepth 100000 in
theorem kO13 : kMethOK kM13 := ⟨kchk_ok (gs := [137, 351, 235, 0, 0, 32]) (ps := [1, 5, 2, 3, 0, 4]) (by decide +kernel), by decide +kernel⟩
set_option maxRecDepth 100000 in
theorem kO14 : kMethOK kM14 := ⟨kchk_ok (gs := [178, 309]) (ps := [1, 0, 1, 0]) (by decide +kernel), by decide +kernel⟩
set_option maxRecDepth 100000 in
theorem kO15 : kMethOK kM15 := ⟨kchk_ok (gs := [501]) (ps := [0]) (by decide +kernel), by decide +kernel⟩
set_option maxRecDepth 100000 in
theorem kO16 : kMethOK kM16 := ⟨kchk_ok (gs := [136, 41, 309, 46, 0, 0, 0]) (ps := [2, 1, 2, 3, 4, 5, 0, 6, 2, 3, 4, 5, 0, 6, 2, 3, 4, 5, 0, 6, 2, 3, 4, 5, 0, 6, 2, 3, 4, 5, 0, 6, 2, 1]) (by decide +kernel), by decide +kernel⟩
set_option maxRecDepth 100000 in
theorem kO17 : kMethOK kM17 := ⟨kchk_ok (gs := [142, 35, 309, 2, 4, 450, 0, 0, 0]) (ps := [4, 2, 3, 5, 6, 7, 0, 8, 2, 1]) (by decide +kernel), by decide +kernel⟩
set_option maxRecDepth 100000 in
theorem kO18 : kMethOK kM18 := ⟨kchk_ok (gs := [137, 351, 235, 0, 0, 32]) (ps := [1, 5, 2, 3, 0, 4]) (by decide +kernel), by decide +kernel⟩
set_option maxRecDepth 100000 in
theorem kO19 : kMethOK kM19 := ⟨kchk_ok (gs := [137, 351, 173, 0, 0, 44]) (ps := [1, 5, 2, 3, 0, 4]) (by decide +kernel), by decide +kernel⟩
set_option maxRecDepth 100000 in
theorem kO20 : kMethOK kM20 := ⟨kchk_ok (gs := [146, 342, 1, 2, 4, 840, 0, 0, 0]) (ps := [3, 3, 1, 2, 4, 5, 6, 7, 0, 8]) (by decide +kernel), by decide +kernel⟩
set_option maxRecDepth 100000 in
theorem kO21 : kMethOK kM21 := ⟨kchk_ok (gs := [137, 351, 235, 0, 0, 32]) (ps := [1, 5, 2, 3, 0, 4]) (by decide +kernel), by decide +kernel⟩
set_option maxRecDepth 100000 in
theorem kO22 : kMethOK kM22 := ⟨kchk_ok (gs := [236, 252]) (ps := [1, 0]) (by decide +kernel), by decide +kernel⟩
set_option maxRecDepth 100000 in
theorem kO23 : kMethOK kM23 := ⟨kchk_ok (gs := [141, 349, 3, 410, 0, 0, 0]) (ps := [2, 1, 3, 4, 5, 0, 6]) (by decide +kernel), by decide +kernel⟩
set_option maxRecDepth 100000 in
theorem kO24 : kMethOK kM24 := ⟨kchk_ok (gs := [141, 353, 443, 0, 0, 0]) (ps := [1, 2, 3, 4, 0, 5]) (by decide +kernel), by decide +kernel⟩
set_option maxRecDepth 100000 in
theorem kO25 : kMethOK kM25 := ⟨kchk_ok (gs := [138, 153, 3, 194, 224, 0, 0, 0, 8, 0, 0, 0, 20, 0, 0, 0]) (ps := [3, 2, 3, 4, 5, 6, 0, 7, 3, 4, 5, 6, 0, 7, 3, 4, 5, 6, 0, 7, 3, 4, 5, 6, 0, 7, 3, 8, 9, 10, 0, 11, 3, 1, 3, 12, 13, 14, 0, 15]) (by decide +kernel), by decide +kernel⟩
set_option maxRecDepth 100000 in
theorem kO26 : kMethOK kM26 := ⟨kchk_ok (gs := [137, 351, 235, 0, 0, 32]) (ps := [1, 5, 2, 3, 0, 4]) (by decide +kernel), by decide +kernel⟩
set_option maxRecDepth 100000 in
theorem kO27 : kMethOK kM27 := ⟨kchk_ok (gs := [137, 0, 1, 4, 32, 14, 294, 0, 0, 0, 0, 0, 5, 1, 45, 0, 0, 0, 131, 0, 0, 0, 3, 0, 0, 0, 1, 0, 0, 0, 0, 0, 0, 0]) (ps := [8, 6, 10, 14, 15, 16, 0, 17, 6, 5, 13, 6, 4, 13, 7, 8, 18, 19, 20, 0, 21, 9, 10, 22, 23, 24, 1, 25, 12, 26, 27, 28, 3, 29, 11, 30, 31, 32, 2, 33]) (by decide +kernel), by decide +kernel⟩
set_option maxRecDepth 100000 in
theorem kO28 : kMethOK kM28 := ⟨kchk_ok (gs := [138, 352, 283, 0, 0, 99]) (ps := [1, 5, 2, 3, 0, 4]) (by decide +kernel), by decide +kernel⟩
set_option maxRecDepth 100000 in
theorem kO29 : kMethOK kM29 := ⟨kchk_ok (gs := [137, 351, 173, 0, 0, 44]) (ps := [1, 5, 2, 3, 0, 4]) (by decide +kernel), by decide +kernel⟩
set_option maxRecDepth 100000 in
theorem kO30 : kMethOK kM30 := ⟨kchk_ok (gs := [137, 351, 173, 0, 0, 44]) (ps := [1, 5, 2, 3, 0, 4]) (by decide +kernel), by decide +kernel⟩
set_option maxRecDepth 100000 in
theorem kO31 : kMethOK kM31 := ⟨kchk_ok (gs := [478, 15]) (ps := [1, 1, 0]) (by decide +kernel), by decide +kernel⟩
set_option maxRecDepth 100000 in
theorem kO32 : kMethOK kM32 := ⟨kchk_ok (gs := [137, 351, 173, 0, 0, 44]) (ps := [1, 5, 2, 3, 0, 4]) (by decide +kernel), by decide +kernel⟩
set_option maxRecDepth 100000 in
theorem kO33 : kMethOK kM33 := ⟨kchk_ok (gs := [145, 353, 810, 0, 0, 0]) (ps := [1, 2, 3, 4, 0, 5]) (by decide +kernel), by decide +kernel⟩
set_option maxRecDepth 100000 in
theorem kO34 : kMethOK kM34 := ⟨kchk_ok (gs := [145, 32, 14, 1, 292, 0, 10, 0, 734, 0, 0, 0]) (ps := [6, 4, 5, 8, 9, 10, 0, 11, 4, 2, 7, 4, 1, 7, 4, 3]) (by decide +kernel), by decide +kernel⟩
set_option maxRecDepth 100000 in
theorem kO35 : kMethOK kM35 := ⟨kchk_ok (gs := [242, 246]) (ps := [1, 0]) (by decide +kernel), by decide +kernel⟩
set_option maxRecDepth 100000 in
theorem kO36 : kMethOK kM36 := ⟨kchk_ok (gs := [137, 351, 173, 0, 0, 44]) (ps := [1, 5, 2, 3, 0, 4]) (by decide +kernel), by decide +kernel⟩
set_option maxRecDepth 100000 in
theorem kO37 : kMethOK kM37 := ⟨kchk_ok (gs := [137, 351, 173, 0, 0, 44]) (ps := [1, 5, 2, 3, 0, 4]) (by decide +kernel), by decide +kernel⟩
set_option maxRecDepth 100000 in
theorem kO38 : kMethOK kM38 := ⟨kchk_ok (gs := [137, 351, 235, 0, 0, 32]) (ps := [1, 5, 2, 3, 0, 4]) (by decide +kernel), by decide +kernel⟩
set_option maxRecDepth 100000 in
theorem kO39 : kMethOK kM39 := ⟨kchk_ok (gs := [144, 353, 729, 0, 0, 0]) (ps := [1, 2, 3, 4, 0, 5]) (by decide +kernel), by decide +kernel⟩
set_option maxRecDepth 100000 in
theorem kO40 : kMethOK kM40 := ⟨kchk_ok (gs := [140, 350, 1, 375, 0, 0, 0]) (ps := [2, 1, 3, 4, 5, 0, 6]) (by decide +kernel), by decide +kernel⟩
set_option maxRecDepth 100000 in
theorem kO41 : kMethOK kM41 := ⟨kchk_ok (gs := [137, 351, 235, 0, 0, 32]) (ps := [1, 5, 2, 3, 0, 4]) (by decide +kernel), by decide +kernel⟩
set_option maxRecDepth 100000 in
theorem kO42 : kMethOK kM42 := ⟨kchk_ok (gs := [167, 0, 97, 104, 0, 0, 1]) (ps := [3, 0, 1, 2, 4, 5, 6]) (by decide +kernel), by decide +kernel⟩
set_option maxRecDepth 100000 in
theorem kO43 : kMethOK kM43 := ⟨kchk_ok (gs := []) (ps := []) (by decide +kernel), by decide +kernel⟩
set_option maxRecDepth 100000 in
theorem kO44 : kMethOK kM44 := ⟨kchk_ok (gs := [26, 0, 114, 13, 77, 46, 93, 602, 1, 0, 5, 0, 0, 3, 1, 0]) (ps := [7, 8, 0, 2, 9, 5, 4, 10, 11, 3, 12, 13, 14, 1, 2, 15, 6]) (by decide +kernel), by decide +kernel⟩
set_option maxRecDepth 100000 in
theorem kO45 : kMethOK kM45 := ⟨kchk_ok (gs := [177]) (ps := [0]) (by decide +kernel), by decide +kernel⟩
set_option maxRecDepth 100000 in
theorem kO46 : kMethOK kM46 := ⟨kchk_ok (gs := [238, 42]) (ps := [1, 0]) (by decide +kernel), by decide +kernel⟩
set_option maxRecDepth 100000 in
theorem kO47 : kMethOK kM47 := ⟨kchk_ok (gs := [167, 0, 97, 137, 0, 0, 0, 0, 0, 0, 0, 1, 0]) (ps := [3, 0, 1, 2, 4, 2, 5, 2, 6, 7, 8, 9, 10, 11, 12]) (by decide +kernel), by decide +kernel⟩
set_option maxRecDepth 100000 in
theorem kO48 : kMethOK kM48 := ⟨kchk_ok (gs := [138, 156, 112, 0, 0, 0, 1, 0, 302, 0, 0, 503]) (ps := [3, 4, 5, 2, 1, 6, 11, 8, 9, 0, 10, 7]) (by decide +kernel), by decide +kernel⟩
set_option maxRecDepth 100000 in
theorem kO49 : kMethOK kM49 := ⟨kchk_ok (gs := [409]) (ps := [0]) (by decide +kernel), by decide +kernel⟩
set_option maxRecDepth 100000 in
theorem kO50 : kMethOK kM50 := ⟨kchk_ok (gs := [136, 45, 225, 151, 0, 0, 591]) (ps := [2, 6, 3, 4, 0, 5, 1]) (by decide +kernel), by decide +kernel⟩
set_option maxRecDepth 100000 in
theorem kO51 : kMethOK kM51 := ⟨kchk_ok (gs := [137, 0, 6, 21, 0, 52, 1, 0, 43, 1, 0, 163, 1, 0, 25, 0, 1, 1, 0, 0, 1, 1, 1]) (ps := [14, 3, 4, 15, 5, 0, 6, 0, 7, 19, 16, 11, 2, 12, 2, 13, 21, 22, 17, 8, 1, 18, 9, 1, 10, 20]) (by decide +kernel), by decide +kernel⟩
set_option maxRecDepth 100000 in
theorem kO52 : kMethOK kM52 := ⟨kchk_ok (gs := [137, 0, 6, 325, 1, 1, 1, 205, 0, 0, 4, 0, 0, 651, 0, 0, 0, 0, 0]) (ps := [3, 13, 7, 8, 0, 9, 4, 14, 10, 11, 1, 12, 5, 15, 16, 17, 2, 18, 6]) (by decide +kernel), by decide +kernel⟩
set_option maxRecDepth 100000 in
theorem kO53 : kMethOK kM53 := ⟨kchk_ok (gs := [139, 27, 0, 97, 11, 0, 65, 0, 0, 0, 0, 0, 0, 0]) (ps := [6, 1, 2, 3, 8, 3, 9, 3, 10, 11, 12, 13, 10, 7, 4, 0, 5]) (by decide +kernel), by decide +kernel⟩
set_option maxRecDepth 100000 in
theorem kO54 : kMethOK kM54 := ⟨kchk_ok (gs := [21, 0, 116, 1, 136, 0, 66, 2, 0, 559, 1, 0, 2, 1, 0]) (ps := [9, 10, 0, 3, 11, 7, 6, 4, 2, 5, 12, 13, 1, 3, 14, 8]) (by decide +kernel), by decide +kernel⟩
set_option maxRecDepth 100000 in
theorem kO55 : kMethOK kM55 := ⟨kchk_ok (gs := [349]) (ps := [0, 0]) (by decide +kernel), by decide +kernel⟩
set_option maxRecDepth 100000 in
theorem kO56 : kMethOK kM56 := ⟨kchk_ok (gs := [139, 138, 0, 66, 1, 1]) (ps := [4, 3, 1, 0, 2, 5]) (by decide +kernel), by decide +kernel⟩
set_option maxRecDepth 100000 in
theorem kO57 : kMethOK kM57 := ⟨kchk_ok (gs := [139, 93, 5, 38, 0, 3, 62, 0, 2, 0]) (ps := [5, 1, 8, 5, 2, 9, 7, 6, 3, 0, 4, 8]) (by decide +kernel), by decide +kernel⟩
set_option maxRecDepth 100000 in
theorem kO58 : kMethOK kM58 := ⟨kchk_ok (gs := [167, 0, 56, 0, 0, 0, 0, 0, 0, 0, 4, 5, 21, 0]) (ps := [2, 0, 1, 12, 3, 12, 4, 13, 5, 13, 6, 13, 7, 8, 9, 10, 11]) (by decide +kernel), by decide +kernel⟩
set_option maxRecDepth 100000 in
theorem kO59 : kMethOK kM59 := ⟨kchk_ok (gs := [150, 75, 0, 0, 0, 0, 0, 0, 4, 5, 442, 0, 0]) (ps := [1, 1, 10, 12, 11, 0, 2, 2, 10, 12, 11, 0, 3, 3, 10, 12, 11, 0, 4, 4, 10, 12, 11, 0, 5, 5, 10, 12, 11, 0, 6, 6, 7, 7, 8, 8, 9, 9]) (by decide +kernel), by decide +kernel⟩
set_option maxRecDepth 100000 in
theorem kO60 : kMethOK kM60 := ⟨kchk_ok (gs := [230, 0, 0, 4, 5]) (ps := [0, 1, 2, 3, 4]) (by decide +kernel), by decide +kernel⟩
set_option maxRecDepth 100000 in
theorem kO61 : kMethOK kM61 := ⟨kchk_ok (gs := [237]) (ps := [0]) (by decide +kernel), by decide +kernel⟩
set_option maxRecDepth 100000 in
theorem kO62 : kMethOK kM62 := ⟨kchk_ok (gs := [232]) (ps := [0]) (by decide +kernel), by decide +kernel⟩
set_option maxRecDepth 100000 in
theorem kO63 : kMethOK kM63 := ⟨kchk_ok (gs := [1, 134, 0, 0, 45, 366, 1, 0, 0, 0, 0, 0, 0, 0, 0, 0]) (ps := [5, 6, 0, 2, 7, 8, 9, 10, 3, 11, 12, 13, 14, 1, 15, 4]) (by decide +kernel), by decide +kernel⟩
set_option maxRecDepth 100000 in
theorem kO64 : kMethOK kM64 := ⟨kchk_ok (gs := [167, 0, 97, 172, 0, 0, 0, 0, 0, 0]) (ps := [3, 0, 1, 2, 4, 2, 5, 2, 6, 2, 7, 8, 9]) (by decide +kernel), by decide +kernel⟩
set_option maxRecDepth 100000 in
theorem kO65 : kMethOK kM65 := ⟨kchk_ok (gs := [145, 1108, 1, 1, 0, 0, 8, 1, 1, 1, 1, 1]) (ps := [1, 2, 3, 4, 0, 5, 6, 7, 8, 9, 10, 11]) (by decide +kernel), by decide +kernel⟩
set_option maxRecDepth 100000 in
theorem kO66 : kMethOK kM66 := ⟨kchk_ok (gs := [150, 289, 0, 0, 1, 0, 241, 0, 661]) (ps := [1, 1, 8, 7, 6, 0, 2, 2, 8, 7, 6, 0, 3, 3, 8, 7, 6, 0, 4, 4, 5, 5]) (by decide +kernel), by decide +kernel⟩
set_option maxRecDepth 100000 in
theorem kO67 : kMethOK kM67 := ⟨kchk_ok (gs := [444, 0]) (ps := [0, 1]) (by decide +kernel), by decide +kernel⟩
set_option maxRecDepth 100000 in
theorem kO68 : kMethOK kM68 := ⟨kchk_ok (gs := [1261, 1, 1, 1]) (ps := [0, 1, 2, 3]) (by decide +kernel), by decide +kernel⟩
set_option maxRecDepth 100000 in
theorem kO69 : kMethOK kM69 := ⟨kchk_ok (gs := [445]) (ps := [0]) (by decide +kernel), by decide +kernel⟩
set_option maxRecDepth 100000 in
theorem kO70 : kMethOK kM70 := ⟨kchk_ok (gs := [44, 100, 1100, 1, 0]) (ps := [2, 3, 0, 1, 4]) (by decide +kernel), by decide +kernel⟩
set_option maxRecDepth 100000 in
theorem kO71 : kMethOK kM71 := ⟨kchk_ok (gs := [136, 8, 37, 419, 0, 0, 24, 0, 0, 617, 0, 0, 0, 27]) (ps := [9, 6, 7, 0, 8, 2, 10, 11, 1, 12, 13, 3, 4, 0, 5]) (by decide +kernel), by decide +kernel⟩
set_option maxRecDepth 100000 in
theorem kO72 : kMethOK kM72 := ⟨kchk_ok (gs := [43, 92, 8, 414, 0, 0, 132, 0, 0, 542, 0, 0, 1, 0]) (ps := [9, 6, 7, 2, 8, 10, 3, 4, 1, 5, 11, 12, 0, 2, 13]) (by decide +kernel), by decide +kernel⟩
set_option maxRecDepth 100000 in
theorem kO73 : kMethOK kM73 := ⟨kchk_ok (gs := [167, 0, 220, 0, 0, 6]) (ps := [2, 0, 1, 5, 3, 4]) (by decide +kernel), by decide +kernel⟩
set_option maxRecDepth 100000 in
theorem kO74 : kMethOK kM74 := ⟨kchk_ok (gs := [391]) (ps := [0]) (by decide +kernel), by decide +kernel⟩
set_option maxRecDepth 100000 in
theorem kO75 : kMethOK kM75 := ⟨kchk_ok (gs := [0, 137, 28, 0, 97, 5, 0, 1, 0, 3, 4, 0, 0, 0, 0, 0, 0, 2, 2]) (ps := [5, 2, 3, 4, 10, 4, 11, 4, 12, 4, 13, 4, 14, 4, 15, 16, 17, 18, 9, 6, 7, 0, 1, 8]) (by decide +kernel), by decide +kernel⟩
set_option maxRecDepth 100000 in
theorem kO76 : kMethOK kM76 := ⟨kchk_ok (gs := [285]) (ps := [0, 0]) (by decide +kernel), by decide +kernel⟩
set_option maxRecDepth 100000 in
theorem kO77 : kMethOK kM77 := ⟨kchk_ok (gs := [0, 137, 134, 1, 0]) (ps := [2, 3, 0, 1, 4]) (by decide +kernel), by decide +kernel⟩
set_option maxRecDepth 100000 in
theorem kO78 : kMethOK kM78 := ⟨kchk_ok (gs := [241, 38]) (ps := [1, 0]) (by decide +kernel), by decide +kernel⟩
set_option maxRecDepth 100000 in
theorem kO79 : kMethOK kM79 := ⟨kchk_ok (gs := [150, 134, 0, 0, 0, 0, 0, 0, 2, 392, 0, 4]) (ps := [1, 1, 11, 10, 9, 0, 2, 2, 11, 10, 9, 0, 3, 3, 11, 10, 9, 0, 4, 4, 11, 10, 9, 0, 5, 5, 11, 10, 9, 0, 6, 6, 11, 10, 9, 0, 7, 7, 8, 8]) (by decide +kernel), by decide +kernel⟩
set_option maxRecDepth 100000 in
theorem kO80 : kMethOK kM80 := ⟨kchk_ok (gs := [241, 38]) (ps := [1, 0]) (by decide +kernel), by decide +kernel⟩
set_option maxRecDepth 100000 in
theorem kO81 : kMethOK kM81 := ⟨kchk_ok (gs := [139, 101, 35, 0, 0, 0, 5, 7]) (ps := [5, 1, 6, 2, 3, 0, 4, 7, 7]) (by decide +kernel), by decide +kernel⟩
set_option maxRecDepth 100000 in
theorem kO82 : kMethOK kM82 := ⟨kchk_ok (gs := [137, 142, 443, 0, 0, 0]) (ps := [1, 2, 3, 4, 0, 5]) (by decide +kernel), by decide +kernel⟩
set_option maxRecDepth 100000 in
theorem kO83 : kMethOK kM83 := ⟨kchk_ok (gs := [138, 581, 0, 0, 0]) (ps := [1, 2, 3, 0, 4]) (by decide +kernel), by decide +kernel⟩
set_option maxRecDepth 100000 in
theorem kO84 : kMethOK kM84 := ⟨kchk_ok (gs := [18, 119, 689, 1, 0]) (ps := [2, 3, 0, 1, 4]) (by decide +kernel), by decide +kernel⟩
end
section
set_option maxRecDepth 100000 in
theorem kO85 : kMethOK kM85 := ⟨kchk_ok (gs := [139, 137, 0, 0, 5, 0, 0, 0, 0, 0, 0, 2]) (ps := [4, 1, 2, 0, 3, 5, 1, 2, 0, 3, 6, 1, 2, 0, 3, 7, 1, 2, 0, 3, 8, 1, 2, 0, 3, 9, 1, 2, 0, 3, 10, 11]) (by decide +kernel), by decide +kernel⟩
set_option maxRecDepth 100000 in
theorem kO86 : kMethOK kM86 := ⟨kchk_ok (gs := [294]) (ps := [0]) (by decide +kernel), by decide +kernel⟩
set_option maxRecDepth 100000 in
theorem kO87 : kMethOK kM87 := ⟨kchk_ok (gs := [167, 0, 5, 0, 0, 2, 0, 0, 3, 0, 1, 1, 1, 1, 24]) (ps := [2, 0, 1, 14, 3, 4, 5, 6, 7, 8, 9, 10, 11, 12, 13]) (by decide +kernel), by decide +kernel⟩
set_option maxRecDepth 100000 in
theorem kO88 : kMethOK kM88 := ⟨kchk_ok (gs := [175, 0]) (ps := [1, 1, 0, 0, 1, 1, 1]) (by decide +kernel), by decide +kernel⟩
set_option maxRecDepth 100000 in
theorem kO89 : kMethOK kM89 := ⟨kchk_ok (gs := [136, 39, 2, 0, 0, 3, 4, 376, 0, 0, 0]) (ps := [3, 7, 8, 9, 0, 10, 3, 1, 3, 5, 6, 1, 2, 3, 1, 4]) (by decide +kernel), by decide +kernel⟩
set_option maxRecDepth 100000 in
theorem kO90 : kMethOK kM90 := ⟨kchk_ok (gs := [136, 42, 0, 11, 1, 368, 0, 0, 0]) (ps := [1, 2, 3, 4, 5, 6, 7, 0, 8]) (by decide +kernel), by decide +kernel⟩
set_option maxRecDepth 100000 in
theorem kO91 : kMethOK kM91 := ⟨kchk_ok (gs := [181]) (ps := [0]) (by decide +kernel), by decide +kernel⟩
set_option maxRecDepth 100000 in
theorem kO92 : kMethOK kM92 := ⟨kchk_ok (gs := [185, 6, 1]) (ps := [1, 0, 2]) (by decide +kernel), by decide +kernel⟩
set_option maxRecDepth 100000 in
theorem kO93 : kMethOK kM93 := ⟨kchk_ok (gs := [176]) (ps := [0]) (by decide +kernel), by decide +kernel⟩
set_option maxRecDepth 100000 in
theorem kO94 : kMethOK kM94 := ⟨kchk_ok (gs := [138, 28, 0, 99, 1, 0, 52, 0, 1, 0, 0, 0]) (ps := [6, 1, 2, 7, 9, 10, 11, 9, 9, 7, 3, 0, 8, 4, 0, 5]) (by decide +kernel), by decide +kernel⟩
set_option maxRecDepth 100000 in
theorem kO95 : kMethOK kM95 := ⟨kchk_ok (gs := [330]) (ps := [0]) (by decide +kernel), by decide +kernel⟩
set_option maxRecDepth 100000 in
theorem kO96 : kMethOK kM96 := ⟨kchk_ok (gs := [138, 16, 172, 0, 0, 359, 0, 0, 105, 0, 0, 0]) (ps := [3, 3, 2, 2, 3, 8, 5, 6, 0, 7, 3, 2, 3, 3, 4, 2, 9, 10, 1, 11, 4]) (by decide +kernel), by decide +kernel⟩
set_option maxRecDepth 100000 in
theorem kO97 : kMethOK kM97 := ⟨kchk_ok (gs := [328, 0, 0]) (ps := [1, 0, 2]) (by decide +kernel), by decide +kernel⟩
set_option maxRecDepth 100000 in
theorem kO98 : kMethOK kM98 := ⟨kchk_ok (gs := [53, 93, 19, 0, 96, 0, 1209, 0, 1, 0, 5, 12, 0, 0, 0, 0, 0, 0, 0, 0, 2, 0, 0, 0, 2, 0, 0, 2, 0, 2, 95]) (ps := [6, 2, 3, 5, 10, 5, 11, 5, 12, 5, 13, 5, 14, 5, 15, 4, 16, 4, 17, 4, 18, 30, 19, 5, 20, 5, 21, 30, 22, 30, 23, 24, 25, 5, 26, 5, 27, 5, 28, 5, 29, 7, 8, 0, 1, 9]) (by decide +kernel), by decide +kernel⟩
set_option maxRecDepth 100000 in
theorem kO99 : kMethOK kM99 := ⟨kchk_ok (gs := []) (ps := []) (by decide +kernel), by decide +kernel⟩
set_option maxRecDepth 100000 in
theorem kO100 : kMethOK kM100 := ⟨kchk_ok (gs := [1485, 30]) (ps := [0, 1]) (by decide +kernel), by decide +kernel⟩
set_option maxRecDepth 100000 in
theorem kO101 : kMethOK kM101 := ⟨kchk_ok (gs := [82, 4, 59, 1337, 283, 1, 0, 28, 1, 0]) (ps := [3, 4, 5, 0, 2, 6, 7, 8, 1, 2, 9]) (by decide +kernel), by decide +kernel⟩
set_option maxRecDepth 100000 in
theorem kO102 : kMethOK kM102 := ⟨kchk_ok (gs := [1491, 0, 2, 0]) (ps := [1, 2, 0, 3]) (by decide +kernel), by decide +kernel⟩
set_option maxRecDepth 100000 in
theorem kO103 : kMethOK kM103 := ⟨kchk_ok (gs := [56, 0, 89, 1337, 2, 0, 0, 4, 134, 1, 0, 0, 1, 0]) (ps := [3, 8, 9, 0, 2, 10, 4, 5, 7, 6, 11, 12, 1, 2, 13]) (by decide +kernel), by decide +kernel⟩
set_option maxRecDepth 100000 in
theorem kO104 : kMethOK kM104 := ⟨kchk_ok (gs := []) (ps := []) (by decide +kernel), by decide +kernel⟩
set_option maxRecDepth 100000 in
theorem kO105 : kMethOK kM105 := ⟨kchk_ok (gs := [55, 29, 27, 8, 24, 1337, 6, 6, 22, 0, 0, 101, 1, 0, 73, 0, 0, 83, 1, 0, 218, 1, 0, 36, 1, 0]) (ps := [5, 14, 15, 4, 16, 11, 12, 0, 4, 13, 9, 6, 20, 21, 2, 4, 22, 9, 8, 8, 8, 7, 8, 17, 18, 1, 4, 19, 10, 23, 24, 3, 4, 25]) (by decide +kernel), by decide +kernel⟩
set_option maxRecDepth 100000 in
theorem kO106 : kMethOK kM106 := ⟨kchk_ok (gs := [147, 1337, 33, 183, 0, 0]) (ps := [1, 2, 3, 4, 0, 5]) (by decide +kernel), by decide +kernel⟩
set_option maxRecDepth 100000 in
theorem kO107 : kMethOK kM107 := ⟨kchk_ok (gs := [76, 70, 1337, 255, 1, 0]) (ps := [2, 3, 4, 0, 1, 5]) (by decide +kernel), by decide +kernel⟩
set_option maxRecDepth 100000 in
theorem kO108 : kMethOK kM108 := ⟨kchk_ok (gs := [76, 10, 59, 1337, 255, 1, 0, 56, 1, 0]) (ps := [3, 4, 5, 0, 2, 6, 7, 8, 1, 2, 9]) (by decide +kernel), by decide +kernel⟩
set_option maxRecDepth 100000 in
theorem kO109 : kMethOK kM109 := ⟨kchk_ok (gs := [1486, 0]) (ps := [0, 1, 1, 1]) (by decide +kernel), by decide +kernel⟩
set_option maxRecDepth 100000 in
theorem kO110 : kMethOK kM110 := ⟨kchk_ok (gs := [1485, 1, 11]) (ps := [0, 2, 2, 2, 1]) (by decide +kernel), by decide +kernel⟩
set_option maxRecDepth 100000 in
theorem kO111 : kMethOK kM111 := ⟨kchk_ok (gs := [104, 42, 1337, 13, 17, 410, 0, 0, 11, 1, 0]) (ps := [2, 3, 3, 8, 9, 0, 1, 10, 4, 5, 6, 1, 7]) (by decide +kernel), by decide +kernel⟩
set_option maxRecDepth 100000 in
theorem kO112 : kMethOK kM112 := ⟨kchk_ok (gs := [1485, 31]) (ps := [0, 1]) (by decide +kernel), by decide +kernel⟩
set_option maxRecDepth 100000 in
theorem kO113 : kMethOK kM113 := ⟨kchk_ok (gs := [92, 2, 51, 1337, 13, 203, 0, 0, 115, 1, 0, 40, 1, 0]) (ps := [3, 5, 6, 2, 7, 4, 8, 9, 0, 2, 10, 11, 12, 1, 2, 13]) (by decide +kernel), by decide +kernel⟩
set_option maxRecDepth 100000 in
theorem kO114 : kMethOK kM114 := ⟨kchk_ok (gs := [147, 1337, 13, 203, 0, 0]) (ps := [1, 3, 4, 0, 5, 2]) (by decide +kernel), by decide +kernel⟩
set_option maxRecDepth 100000 in
theorem kO115 : kMethOK kM115 := ⟨kchk_ok (gs := [76, 70, 1337, 255, 1, 0]) (ps := [2, 3, 4, 0, 1, 5]) (by decide +kernel), by decide +kernel⟩
set_option maxRecDepth 100000 in
theorem kO116 : kMethOK kM116 := ⟨kchk_ok (gs := [1485, 1]) (ps := [0, 1, 1]) (by decide +kernel), by decide +kernel⟩
set_option maxRecDepth 100000 in
theorem kO117 : kMethOK kM117 := ⟨kchk_ok (gs := [1485, 9]) (ps := [0, 1]) (by decide +kernel), by decide +kernel⟩
set_option maxRecDepth 100000 in
theorem kO118 : kMethOK kM118 := ⟨kchk_ok (gs := [52, 94, 1315, 1, 1, 17, 1]) (ps := [5, 6, 2, 3, 0, 1, 4, 2, 3, 0, 1, 4, 2, 3, 0, 1, 4, 2, 3, 0, 1, 4, 2, 3, 0, 1, 4, 6]) (by decide +kernel), by decide +kernel⟩
set_option maxRecDepth 100000 in
theorem kO119 : kMethOK kM119 := ⟨kchk_ok (gs := [56, 90, 1337, 144, 1, 0, 69, 0, 0]) (ps := [2, 3, 4, 0, 1, 5, 6, 7, 1, 8]) (by decide +kernel), by decide +kernel⟩
set_option maxRecDepth 100000 in
theorem kO120 : kMethOK kM120 := ⟨kchk_ok (gs := [76, 0, 69, 1337, 255, 1, 0, 0, 1, 0]) (ps := [3, 4, 5, 0, 2, 6, 7, 8, 1, 2, 9]) (by decide +kernel), by decide +kernel⟩
set_option maxRecDepth 100000 in
theorem kO121 : kMethOK kM121 := ⟨kchk_ok (gs := [1488, 0, 0, 0, 0]) (ps := [2, 0, 2, 3, 0, 1, 2, 0, 4]) (by decide +kernel), by decide +kernel⟩
set_option maxRecDepth 100000 in
theorem kO122 : kMethOK kM122 := ⟨kchk_ok (gs := [82, 64, 1337, 283, 1, 0]) (ps := [2, 3, 4, 0, 1, 5]) (by decide +kernel), by decide +kernel⟩
set_option maxRecDepth 100000 in
theorem kO123 : kMethOK kM123 := ⟨kchk_ok (gs := [147, 1337, 13, 1, 2, 1, 0, 195, 0, 0]) (ps := [1, 7, 8, 0, 9, 3, 2, 5, 4, 6]) (by decide +kernel), by decide +kernel⟩
set_option maxRecDepth 100000 in
theorem kO124 : kMethOK kM124 := ⟨kchk_ok (gs := [147, 1351, 203, 0, 0]) (ps := [1, 2, 3, 0, 4]) (by decide +kernel), by decide +kernel⟩
set_option maxRecDepth 100000 in
theorem kO125 : kMethOK kM125 := ⟨kchk_ok (gs := []) (ps := []) (by decide +kernel), by decide +kernel⟩
set_option maxRecDepth 100000 in
theorem kO126 : kMethOK kM126 := ⟨kchk_ok (gs := [147, 1351, 203, 0, 0]) (ps := [1, 2, 3, 0, 4]) (by decide +kernel), by decide +kernel⟩
set_option maxRecDepth 100000 in
theorem kO127 : kMethOK kM127 := ⟨kchk_ok (gs := [1492]) (ps := [0]) (by decide +kernel), by decide +kernel⟩
set_option maxRecDepth 100000 in
theorem kO128 : kMethOK kM128 := ⟨kchk_ok (gs := [1492]) (ps := [0]) (by decide +kernel), by decide +kernel⟩
set_option maxRecDepth 100000 in
theorem kO129 : kMethOK kM129 := ⟨kchk_ok (gs := [1499, 3]) (ps := [1, 0]) (by decide +kernel), by decide +kernel⟩
set_option maxRecDepth 100000 in
theorem kO130 : kMethOK kM130 := ⟨kchk_ok (gs := []) (ps := []) (by decide +kernel), by decide +kernel⟩
set_option maxRecDepth 100000 in
theorem kO131 : kMethOK kM131 := ⟨kchk_ok (gs := [76, 10, 59, 1337, 255, 1, 0, 56, 1, 0]) (ps := [3, 4, 5, 0, 2, 6, 7, 8, 1, 2, 9]) (by decide +kernel), by decide +kernel⟩
set_option maxRecDepth 100000 in
theorem kO132 : kMethOK kM132 := ⟨kchk_ok (gs := [1485, 13]) (ps := [0, 1]) (by decide +kernel), by decide +kernel⟩
set_option maxRecDepth 100000 in
theorem kO133 : kMethOK kM133 := ⟨kchk_ok (gs := [99, 47, 1337, 13, 13, 0, 0, 384, 1, 0]) (ps := [2, 4, 7, 8, 0, 1, 9, 3, 3, 5, 6]) (by decide +kernel), by decide +kernel⟩
set_option maxRecDepth 100000 in
theorem kO134 : kMethOK kM134 := ⟨kchk_ok (gs := [1485, 29]) (ps := [0, 1]) (by decide +kernel), by decide +kernel⟩
set_option maxRecDepth 100000 in
theorem kO135 : kMethOK kM135 := ⟨kchk_ok (gs := [1499, 10]) (ps := [1, 0]) (by decide +kernel), by decide +kernel⟩
set_option maxRecDepth 100000 in
theorem kO136 : kMethOK kM136 := ⟨kchk_ok (gs := [84, 0, 61, 1337, 13, 277, 1, 0, 8, 1, 0]) (ps := [3, 4, 8, 9, 1, 2, 10, 4, 4, 5, 6, 0, 2, 7]) (by decide +kernel), by decide +kernel⟩
set_option maxRecDepth 100000 in
theorem kO137 : kMethOK kM137 := ⟨kchk_ok (gs := [76, 70, 1337, 255, 1, 0]) (ps := [2, 3, 4, 0, 1, 5]) (by decide +kernel), by decide +kernel⟩
set_option maxRecDepth 100000 in
theorem kO138 : kMethOK kM138 := ⟨kchk_ok (gs := [53, 1, 91, 1329, 1, 0, 11, 6, 0, 3, 0, 2, 0, 116, 1, 0]) (ps := [13, 14, 1, 2, 15, 8, 12, 6, 7, 8, 9, 10, 3, 4, 0, 2, 5, 11]) (by decide +kernel), by decide +kernel⟩
set_option maxRecDepth 100000 in
theorem kO139 : kMethOK kM139 := ⟨kchk_ok (gs := [1499]) (ps := [0, 0, 0]) (by decide +kernel), by decide +kernel⟩
set_option maxRecDepth 100000 in
theorem kO140 : kMethOK kM140 := ⟨kchk_ok (gs := [1499]) (ps := [0, 0, 0, 0]) (by decide +kernel), by decide +kernel⟩
set_option maxRecDepth 100000 in
theorem kO141 : kMethOK kM141 := ⟨kchk_ok (gs := [82, 64, 1337, 283, 1, 0]) (ps := [2, 3, 4, 0, 1, 5]) (by decide +kernel), by decide +kernel⟩
set_option maxRecDepth 100000 in
theorem kO142 : kMethOK kM142 := ⟨kchk_ok (gs := [96, 50, 1351, 369, 0, 0, 0, 1, 0]) (ps := [2, 3, 4, 1, 5, 6, 7, 0, 1, 8]) (by decide +kernel), by decide +kernel⟩
set_option maxRecDepth 100000 in
theorem kO143 : kMethOK kM143 := ⟨kchk_ok (gs := [77, 4, 64, 1337, 259, 1, 0, 20, 1, 0]) (ps := [3, 7, 8, 1, 2, 9, 4, 5, 0, 2, 6]) (by decide +kernel), by decide +kernel⟩
set_option maxRecDepth 100000 in
theorem kO144 : kMethOK kM144 := ⟨kchk_ok (gs := [125, 21, 1923, 1, 0]) (ps := [2, 3, 0, 1, 4]) (by decide +kernel), by decide +kernel⟩
set_option maxRecDepth 100000 in
theorem kO145 : kMethOK kM145 := ⟨kchk_ok (gs := [124, 22, 1919, 1, 0]) (ps := [2, 3, 0, 1, 4]) (by decide +kernel), by decide +kernel⟩
set_option maxRecDepth 100000 in
theorem kO146 : kMethOK kM146 := ⟨kchk_ok (gs := [60, 2, 11, 71, 1506, 1, 0, 14, 1, 0, 53, 1, 0]) (ps := [10, 11, 2, 3, 12, 4, 5, 0, 3, 6, 7, 8, 1, 3, 9]) (by decide +kernel), by decide +kernel⟩
set_option maxRecDepth 100000 in
theorem kO147 : kMethOK kM147 := ⟨kchk_ok (gs := [1485]) (ps := [0]) (by decide +kernel), by decide +kernel⟩
set_option maxRecDepth 100000 in
theorem kO148 : kMethOK kM148 := ⟨kchk_ok (gs := [82, 4, 59, 1337, 283, 1, 0, 28, 1, 0]) (ps := [3, 4, 5, 0, 2, 6, 7, 8, 1, 2, 9]) (by decide +kernel), by decide +kernel⟩
set_option maxRecDepth 100000 in
theorem kO149 : kMethOK kM149 := ⟨kchk_ok (gs := [147, 1337, 21, 195, 0, 0]) (ps := [1, 3, 4, 0, 5, 2]) (by decide +kernel), by decide +kernel⟩
set_option maxRecDepth 100000 in
theorem kO150 : kMethOK kM150 := ⟨kchk_ok (gs := [82, 4, 59, 1337, 283, 1, 0, 28, 1, 0]) (ps := [3, 4, 5, 0, 2, 6, 7, 8, 1, 2, 9]) (by decide +kernel), by decide +kernel⟩
set_option maxRecDepth 100000 in
theorem kO151 : kMethOK kM151 := ⟨kchk_ok (gs := [1485, 13]) (ps := [0, 1]) (by decide +kernel), by decide +kernel⟩
set_option maxRecDepth 100000 in
theorem kO152 : kMethOK kM152 := ⟨kchk_ok (gs := [55, 67, 23, 1348, 29, 0, 0, 97, 1, 0, 433, 1, 0]) (ps := [7, 8, 0, 2, 9, 4, 5, 6, 10, 11, 1, 2, 12, 3]) (by decide +kernel), by decide +kernel⟩
set_option maxRecDepth 100000 in
theorem kO153 : kMethOK kM153 := ⟨kchk_ok (gs := [104, 42, 1337, 13, 442, 1, 0]) (ps := [2, 3, 4, 5, 0, 1, 6, 3, 4, 5, 0, 1, 6]) (by decide +kernel), by decide +kernel⟩
set_option maxRecDepth 100000 in
theorem kO154 : kMethOK kM154 := ⟨kchk_ok (gs := [1499]) (ps := [0]) (by decide +kernel), by decide +kernel⟩
set_option maxRecDepth 100000 in
theorem kO155 : kMethOK kM155 := ⟨kchk_ok (gs := [82, 4, 59, 1337, 283, 1, 0, 28, 1, 0]) (ps := [3, 4, 5, 0, 2, 6, 7, 8, 1, 2, 9]) (by decide +kernel), by decide +kernel⟩
set_option maxRecDepth 100000 in
theorem kO156 : kMethOK kM156 := ⟨kchk_ok (gs := [1499, 2, 5]) (ps := [2, 1, 2, 0, 2, 2]) (by decide +kernel), by decide +kernel⟩
set_option maxRecDepth 100000 in
theorem kO157 : kMethOK kM157 := ⟨kchk_ok (gs := [82, 4, 59, 1337, 283, 1, 0, 28, 1, 0]) (ps := [3, 4, 5, 0, 2, 6, 7, 8, 1, 2, 9]) (by decide +kernel), by decide +kernel⟩
set_option maxRecDepth 100000 in
theorem kO158 : kMethOK kM158 := ⟨kchk_ok (gs := [76, 70, 1337, 255, 1, 0]) (ps := [2, 3, 4, 0, 1, 5]) (by decide +kernel), by decide +kernel⟩
set_option maxRecDepth 100000 in
theorem kO159 : kMethOK kM159 := ⟨kchk_ok (gs := [54, 92, 1333, 1, 0, 14]) (ps := [5, 5, 5, 5, 5, 2, 3, 0, 1, 4, 5]) (by decide +kernel), by decide +kernel⟩
set_option maxRecDepth 100000 in
theorem kO160 : kMethOK kM160 := ⟨kchk_ok (gs := [1499, 3]) (ps := [0, 0, 1, 1]) (by decide +kernel), by decide +kernel⟩
set_option maxRecDepth 100000 in
theorem kO161 : kMethOK kM161 := ⟨kchk_ok (gs := [1499]) (ps := [0]) (by decide +kernel), by decide +kernel⟩
set_option maxRecDepth 100000 in
theorem kO162 : kMethOK kM162 := ⟨kchk_ok (gs := [1487]) (ps := [0, 0]) (by decide +kernel), by decide +kernel⟩
set_option maxRecDepth 100000 in
theorem kO163 : kMethOK kM163 := ⟨kchk_ok (gs := [1499]) (ps := [0]) (by decide +kernel), by decide +kernel⟩
set_option maxRecDepth 100000 in
theorem kO164 : kMethOK kM164 := ⟨kchk_ok (gs := [1485]) (ps := [0]) (by decide +kernel), by decide +kernel⟩
set_option maxRecDepth 100000 in
theorem kO165 : kMethOK kM165 := ⟨kchk_ok (gs := [1485, 38]) (ps := [0, 1]) (by decide +kernel), by decide +kernel⟩
set_option maxRecDepth 100000 in
theorem kO166 : kMethOK kM166 := ⟨kchk_ok (gs := [1485, 22]) (ps := [0, 1]) (by decide +kernel), by decide +kernel⟩
set_option maxRecDepth 100000 in
theorem kO167 : kMethOK kM167 := ⟨kchk_ok (gs := [76, 70, 1337, 255, 1, 0]) (ps := [2, 3, 4, 0, 1, 5]) (by decide +kernel), by decide +kernel⟩
set_option maxRecDepth 100000 in
theorem kO168 : kMethOK kM168 := ⟨kchk_ok (gs := [990, 0, 0]) (ps := [0, 1, 1, 2]) (by decide +kernel), by decide +kernel⟩
set_option maxRecDepth 100000 in
theorem kO169 : kMethOK kM169 := ⟨kchk_ok (gs := []) (ps := []) (by decide +kernel), by decide +kernel⟩
theorem kOc0 : ∀ r ∈ ([kM0, kM1, kM2, kM3, kM4, kM5, kM6, kM7, kM8, kM9, kM10, kM11, kM12, kM13, kM14, kM15, kM16, kM17, kM18, kM19, kM20, kM21, kM22, kM23] : List KMeth), kMethOK r := List.forall_mem_cons.mpr ⟨kO0, List.forall_mem_cons.mpr ⟨kO1, List.forall_mem_cons.mpr ⟨kO2, List.forall_mem_cons.mpr ⟨kO3, List.forall_mem_cons.mpr ⟨kO4, List.forall_mem_cons.mpr ⟨kO5, List.forall_mem_cons.mpr ⟨kO6, List.forall_mem_cons.mpr ⟨kO7, List.forall_mem_cons.mpr ⟨kO8, List.forall_mem_cons.mpr ⟨kO9, List.forall_mem_cons.mpr ⟨kO10, List.forall_mem_cons.mpr ⟨kO11, List.forall_mem_cons.mpr ⟨kO12, List.forall_mem_cons.mpr ⟨kO13, List.forall_mem_cons.mpr ⟨kO14, List.forall_mem_cons.mpr ⟨kO15, List.forall_mem_cons.mpr ⟨kO16, List.forall_mem_cons.mpr ⟨kO17, List.forall_mem_cons.mpr ⟨kO18, List.forall_mem_cons.mpr ⟨kO19, List.forall_mem_cons.mpr ⟨kO20, List.forall_mem_cons.mpr ⟨kO21, List.forall_mem_cons.mpr ⟨kO22, List.forall_mem_cons.mpr ⟨kO23, fun _ h => absurd h List.not_mem_nil⟩⟩⟩⟩⟩⟩⟩⟩⟩⟩⟩⟩⟩⟩⟩⟩⟩⟩⟩⟩⟩⟩⟩⟩
theorem kOc1 : ∀ r ∈ ([kM24, kM25, kM26, kM27, kM28, kM29, kM30, kM31, kM32, kM33, kM34, kM35, kM36, kM37, kM38, kM39, kM40, kM41, kM42, kM43, kM44, kM45, kM46, kM47] : List KMeth), kMethOK r := List.forall_mem_cons.mpr ⟨kO24, List.forall_mem_cons.mpr ⟨kO25, List.forall_mem_cons.mpr ⟨kO26, List.forall_mem_cons.mpr ⟨kO27, List.forall_mem_cons.mpr ⟨kO28, List.forall_mem_cons.mpr ⟨kO29, List.forall_mem_cons.mpr ⟨kO30, List.forall_mem_cons.mpr ⟨kO31, List.forall_mem_cons.mpr ⟨kO32, List.forall_mem_cons.mpr ⟨kO33, List.forall_mem_cons.mpr ⟨kO34, List.forall_mem_cons.mpr ⟨kO35, List.forall_mem_cons.mpr ⟨kO36, List.forall_mem_cons.mpr ⟨kO37, List.forall_mem_cons.mpr ⟨kO38, List.forall_mem_cons.mpr ⟨kO39, List.forall_mem_cons.mpr ⟨kO40, List.forall_mem_cons.mpr ⟨kO41, List.forall_mem_cons.mpr ⟨kO42, List.forall_mem_cons.mpr ⟨kO43, List.forall_mem_cons.mpr ⟨kO44, List.forall_mem_cons.mpr ⟨kO45, List.forall_mem_cons.mpr ⟨kO46, List.forall_mem_cons.mpr ⟨kO47, fun _ h => absurd h List.not_mem_nil⟩⟩⟩⟩⟩⟩⟩⟩⟩⟩⟩⟩⟩⟩⟩⟩⟩⟩⟩⟩⟩⟩⟩⟩
theorem kOc2 : ∀ r ∈ ([kM48, kM49, kM50, kM51, kM52, kM53, kM54, kM55, kM56, kM57, kM58, kM59, kM60, kM61, kM62, kM63, kM64, kM65, kM66, kM67, kM68, kM69, kM70, kM71] : List KMeth), kMethOK r := List.forall_mem_cons.mpr ⟨kO48, List.forall_mem_cons.mpr ⟨kO49, List.forall_mem_cons.mpr ⟨kO50, List.forall_mem_cons.mpr ⟨kO51, List.forall_mem_cons.mpr ⟨kO52, List.forall_mem_cons.mpr ⟨kO53, List.forall_mem_cons.mpr ⟨kO54, List.forall_mem_cons.mpr ⟨kO55, List.forall_mem_cons.mpr ⟨kO56, List.forall_mem_cons.mpr ⟨kO57, List.forall_mem_cons.mpr ⟨kO58, List.forall_mem_cons.mpr ⟨kO59, List.forall_mem_cons.mpr ⟨kO60, List.forall_mem_cons.mpr ⟨kO61, List.forall_mem_cons.mpr ⟨kO62, List.forall_mem_cons.mpr ⟨kO63, List.forall_mem_cons.mpr ⟨kO64, List.forall_mem_cons.mpr ⟨kO65, List.forall_mem_cons.mpr ⟨kO66, List.forall_mem_cons.mpr ⟨kO67, List.forall_mem_cons.mpr ⟨kO68, List.forall_mem_cons.mpr ⟨kO69, List.forall_mem_cons.mpr ⟨kO70, List.forall_mem_cons.mpr ⟨kO71, fun _ h => absurd h List.not_mem_nil⟩⟩⟩⟩⟩⟩⟩⟩⟩⟩⟩⟩⟩⟩⟩⟩⟩⟩⟩⟩⟩⟩⟩⟩
theorem kOc3 : ∀ r ∈ ([kM72, kM73, kM74, kM75, kM76, kM77, kM78, kM79, kM80, kM81, kM82, kM83, kM84, kM85, kM86, kM87, kM88, kM89, kM90, kM91, kM92, kM93, kM94, kM95] : List KMeth), kMethOK r := List.forall_mem_cons.mpr ⟨kO72, List.forall_mem_cons.mpr ⟨kO73, List.forall_mem_cons.mpr ⟨kO74, List.forall_mem_cons.mpr ⟨kO75, List.forall_mem_cons.mpr ⟨kO76, List.forall_mem_cons.mpr ⟨kO77, List.forall_mem_cons.mpr ⟨kO78, List.forall_mem_cons.mpr ⟨kO79, List.forall_mem_cons.mpr ⟨kO80, List.forall_mem_cons.mpr ⟨kO81, List.forall_mem_cons.mpr ⟨kO82, List.forall_mem_cons.mpr ⟨kO83, List.forall_mem_cons.mpr ⟨kO84, List.forall_mem_cons.mpr ⟨kO85, List.forall_mem_cons.mpr ⟨kO86, List.forall_mem_cons.mpr ⟨kO87, List.forall_mem_cons.mpr ⟨kO88, List.forall_mem_cons.mpr ⟨kO89, List.forall_mem_cons.mpr ⟨kO90, List.forall_mem_cons.mpr ⟨kO91, List.forall_mem_cons.mpr ⟨kO92, List.forall_mem_cons.mpr ⟨kO93, List.forall_mem_cons.mpr ⟨kO94, List.forall_mem_cons.mpr ⟨kO95, fun _ h => absurd h List.not_mem_nil⟩⟩⟩⟩⟩⟩⟩⟩⟩⟩⟩⟩⟩⟩⟩⟩⟩⟩⟩⟩⟩⟩⟩⟩
theorem kOc4 : ∀ r ∈ ([kM96, kM97, kM98, kM99, kM100, kM101, kM102, kM103, kM104, kM105, kM106, kM107, kM108, kM109, kM110, kM111, kM112, kM113, kM114, kM115, kM116, kM117, kM118, kM119] : List KMeth), kMethOK r := List.forall_mem_cons.mpr ⟨kO96, List.forall_mem_cons.mpr ⟨kO97, List.forall_mem_cons.mpr ⟨kO98, List.forall_mem_cons.mpr ⟨kO99, List.forall_mem_cons.mpr ⟨kO100, List.forall_mem_cons.mpr ⟨kO101, List.forall_mem_cons.mpr ⟨kO102, List.forall_mem_cons.mpr ⟨kO103, List.forall_mem_cons.mpr ⟨kO104, List.forall_mem_cons.mpr ⟨kO105, List.forall_mem_cons.mpr ⟨kO106, List.forall_mem_cons.mpr ⟨kO107, List.forall_mem_cons.mpr ⟨kO108, List.forall_mem_cons.mpr ⟨kO109, List.forall_mem_cons.mpr ⟨kO110, List.forall_mem_cons.mpr ⟨kO111, List.forall_mem_cons.mpr ⟨kO112, List.forall_mem_cons.mpr ⟨kO113, List.forall_mem_cons.mpr ⟨kO114, List.forall_mem_cons.mpr ⟨kO115, List.forall_mem_cons.mpr ⟨kO116, List.forall_mem_cons.mpr ⟨kO117, List.forall_mem_cons.mpr ⟨kO118, List.forall_mem_cons.mpr ⟨kO119, fun _ h => absurd h List.not_mem_nil⟩⟩⟩⟩⟩⟩⟩⟩⟩⟩⟩⟩⟩⟩⟩⟩⟩⟩⟩⟩⟩⟩⟩⟩
theorem kOc5 : ∀ r ∈ ([kM120, kM121, kM122, kM123, kM124, kM125, kM126, kM127, kM128, kM129, kM130, kM131, kM132, kM133, kM134, kM135, kM136, kM137, kM138, kM139, kM140, kM141, kM142, kM143] : List KMeth), kMethOK r := List.forall_mem_cons.mpr ⟨kO120, List.forall_mem_cons.mpr ⟨kO121, List.forall_mem_cons.mpr ⟨kO122, List.forall_mem_cons.mpr ⟨kO123, List.forall_mem_cons.mpr ⟨kO124, List.forall_mem_cons.mpr ⟨kO125, List.forall_mem_cons.mpr ⟨kO126, List.forall_mem_cons.mpr ⟨kO127, List.forall_mem_cons.mpr ⟨kO128, List.forall_mem_cons.mpr ⟨kO129, List.forall_mem_cons.mpr ⟨kO130, List.forall_mem_cons.mpr ⟨kO131, List.forall_mem_cons.mpr ⟨kO132, List.forall_mem_cons.mpr ⟨kO133, List.forall_mem_cons.mpr ⟨kO134, List.forall_mem_cons.mpr ⟨kO135, List.forall_mem_cons.mpr ⟨kO136, List.forall_mem_cons.mpr ⟨kO137, List.forall_mem_cons.mpr ⟨kO138, List.forall_mem_cons.mpr ⟨kO139, List.forall_mem_cons.mpr ⟨kO140, List.forall_mem_cons.mpr ⟨kO141, List.forall_mem_cons.mpr ⟨kO142, List.forall_mem_cons.mpr ⟨kO143, fun _ h => absurd h List.not_mem_nil⟩⟩⟩⟩⟩⟩⟩⟩⟩⟩⟩⟩⟩⟩⟩⟩⟩⟩⟩⟩⟩⟩⟩⟩
theorem kOc6 : ∀ r ∈ ([kM144, kM145, kM146, kM147, kM148, kM149, kM150, kM151, kM152, kM153, kM154, kM155, kM156, kM157, kM158, kM159, kM160, kM161, kM162, kM163, kM164, kM165, kM166, kM167] : List KMeth), kMethOK r := List.forall_mem_cons.mpr ⟨kO144, List.forall_mem_cons.mpr ⟨kO145, List.forall_mem_cons.mpr ⟨kO146, List.forall_mem_cons.mpr ⟨kO147, List.forall_mem_cons.mpr ⟨kO148, List.forall_mem_cons.mpr ⟨kO149, List.forall_mem_cons.mpr ⟨kO150, List.forall_mem_cons.mpr ⟨kO151, List.forall_mem_cons.mpr ⟨kO152, List.forall_mem_cons.mpr ⟨kO153, List.forall_mem_cons.mpr ⟨kO154, List.forall_mem_cons.mpr ⟨kO155, List.forall_mem_cons.mpr ⟨kO156, List.forall_mem_cons.mpr ⟨kO157, List.forall_mem_cons.mpr ⟨kO158, List.forall_mem_cons.mpr ⟨kO159, List.forall_mem_cons.mpr ⟨kO160, List.forall_mem_cons.mpr ⟨kO161, List.forall_mem_cons.mpr ⟨kO162, List.forall_mem_cons.mpr ⟨kO163, List.forall_mem_cons.mpr ⟨kO164, List.forall_mem_cons.mpr ⟨kO165, List.forall_mem_cons.mpr ⟨kO166, List.forall_mem_cons.mpr ⟨kO167, fun _ h => absurd h List.not_mem_nil⟩⟩⟩⟩⟩⟩⟩⟩⟩⟩⟩⟩⟩⟩⟩⟩⟩⟩⟩⟩⟩⟩⟩⟩
theorem kOc7 : ∀ r ∈ ([kM168, kM169] : List KMeth), kMethOK r := List.forall_mem_cons.mpr ⟨kO168, List.forall_mem_cons.mpr ⟨kO169, fun _ h => absurd h List.not_mem_nil⟩⟩
set_option maxRecDepth 100000 in
theorem kOall : kOK kmeths kStats := by
  intro mid r h
  have hm : r ∈ ([kM0, kM1, kM2, kM3, kM4, kM5, kM6, kM7, kM8, kM9, kM10, kM11, kM12, kM13, kM14, kM15, kM16, kM17, kM18, kM19, kM20, kM21, kM22, kM23] : List KMeth) ++ (([kM24, kM25, kM26, kM27, kM28, kM29, kM30, kM31, kM32, kM33, kM34, kM35, kM36, kM37, kM38, kM39, kM40, kM41, kM42, kM43, kM44, kM45, kM46, kM47] : List KMeth) ++ (([kM48, kM49, kM50, kM51, kM52, kM53, kM54, kM55, kM56, kM57, kM58, kM59, kM60, kM61, kM62, kM63, kM64, kM65, kM66, kM67, kM68, kM69, kM70, kM71] : List KMeth) ++ (([kM72, kM73, kM74, kM75, kM76, kM77, kM78, kM79, kM80, kM81, kM82, kM83, kM84, kM85, kM86, kM87, kM88, kM89, kM90, kM91, kM92, kM93, kM94, kM95] : List KMeth) ++ (([kM96, kM97, kM98, kM99, kM100, kM101, kM102, kM103, kM104, kM105, kM106, kM107, kM108, kM109, kM110, kM111, kM112, kM113, kM114, kM115, kM116, kM117, kM118, kM119] : List KMeth) ++ (([kM120, kM121, kM122, kM123, kM124, kM125, kM126, kM127, kM128, kM129, kM130, kM131, kM132, kM133, kM134, kM135, kM136, kM137, kM138, kM139, kM140, kM141, kM142, kM143] : List KMeth) ++ (([kM144, kM145, kM146, kM147, kM148, kM149, kM150, kM151, kM152, kM153, kM154, kM155, kM156, kM157, kM158, kM159, kM160, kM161, kM162, kM163, kM164, kM165, kM166, kM167] : List KMeth) ++ (([kM168, kM169] : List KMeth)))))))) := List.mem_of_getElem? h
  have key := List.forall_mem_append.mpr ⟨kOc0, List.forall_mem_append.mpr ⟨kOc1, List.forall_mem_append.mpr ⟨kOc2, List.forall_mem_append.mpr ⟨kOc3, List.forall_mem_append.mpr ⟨kOc4, List.forall_mem_append.mpr ⟨kOc5, List.forall_mem_append.mpr ⟨kOc6, kOc7⟩⟩⟩⟩⟩⟩⟩
  exact key r hm
end
section
set_option maxRecDepth 100000 in
theorem kPL0_ok : ∀ x ∈ kPL0, kEntOK kmeths kStats "TriplicateFormsLaw" "law" code x := kchk_ok (gs := [135, 11, 13, 0, 0, 0, 0, 99, 265, 0, 0, 0, 931, 5, 0, 0, 0]) (ps := [2, 3, 0, 4, 5, 0, 6, 13, 12, 1, 14, 15, 1, 16, 7, 8, 9, 10, 0, 11]) (by decide +kernel)
set_option maxRecDepth 100000 in
theorem kPL1_ok : ∀ x ∈ kPL1, kEntOK kmeths kStats "TriplicateFormsLaw" "law" code x := kchk_ok (gs := [135, 11, 391, 0, 0, 0, 0, 0, 0, 0, 155, 0, 0, 0, 753, 0, 0, 0, 5, 0, 0, 0, 150, 0, 0, 0, 107, 0, 0, 0]) (ps := [14, 15, 16, 1, 17, 2, 3, 4, 0, 5, 18, 19, 20, 1, 21, 6, 7, 8, 0, 9, 22, 23, 24, 1, 25, 10, 11, 12, 0, 13, 26, 27, 28, 1, 29]) (by decide +kernel)
set_option maxRecDepth 100000 in
theorem kPL2_ok : ∀ x ∈ kPL2, kEntOK kmeths kStats "TriplicateFormsLaw" "law" code x := kchk_ok (gs := [147, 1307, 0, 0, 0, 278, 0, 0, 0, 24, 0, 0, 0]) (ps := [5, 6, 7, 0, 8, 1, 2, 3, 0, 4, 9, 10, 11, 0, 12, 1, 2, 3, 0, 4]) (by decide +kernel)
set_option maxRecDepth 100000 in
theorem kPL3_ok : ∀ x ∈ kPL3, kEntOK kmeths kStats "TriplicateFormsLaw" "law" code x := kchk_ok (gs := [135, 11, 558, 0, 0, 0, 2, 0, 0, 0, 40, 0, 0, 0, 1021, 0, 0, 0, 0, 0, 0, 0, 8, 0, 0, 0]) (ps := [2, 3, 4, 0, 5, 14, 15, 16, 1, 17, 6, 7, 8, 0, 9, 18, 19, 20, 1, 21, 10, 11, 12, 0, 13, 22, 23, 24, 1, 25]) (by decide +kernel)
set_option maxRecDepth 100000 in
theorem kPL4_ok : ∀ x ∈ kPL4, kEntOK kmeths kStats "TriplicateFormsLaw" "law" code x := kchk_ok (gs := [135, 11, 688, 0, 0, 0, 0, 0, 0, 0, 0, 0, 0, 0, 985, 0, 0, 0, 0, 0, 0, 0, 0, 0, 0, 0]) (ps := [2, 3, 4, 0, 5, 14, 15, 16, 1, 17, 6, 7, 8, 0, 9, 18, 19, 20, 1, 21, 10, 11, 12, 0, 13, 22, 23, 24, 1, 25]) (by decide +kernel)
set_option maxRecDepth 100000 in
theorem kPL5_ok : ∀ x ∈ kPL5, kEntOK kmeths kStats "TriplicateFormsLaw" "law" code x := kchk_ok (gs := [135, 11, 700, 0, 0, 0, 0, 0, 0, 0, 0, 0, 0, 0, 0, 0, 0, 0, 981, 0, 0, 0, 0, 0, 0, 0, 0, 0, 0, 0, 4, 0, 0, 0]) (ps := [2, 3, 4, 0, 5, 18, 19, 20, 1, 21, 6, 7, 8, 0, 9, 22, 23, 24, 1, 25, 10, 11, 12, 0, 13, 26, 27, 28, 1, 29, 14, 15, 16, 0, 17, 30, 31, 32, 1, 33]) (by decide +kernel)
set_option maxRecDepth 100000 in
theorem kPL6_ok : ∀ x ∈ kPL6, kEntOK kmeths kStats "TriplicateFormsLaw" "law" code x := kchk_ok (gs := [135, 11, 717, 0, 0, 0, 4, 0, 0, 0, 1, 0, 0, 0, 4, 0, 0, 0, 967, 0, 0, 0, 15, 0, 0, 0, 0, 0, 0, 0, 4, 0, 0, 0]) (ps := [2, 3, 4, 0, 5, 18, 19, 20, 1, 21, 6, 7, 8, 0, 9, 22, 23, 24, 1, 25, 10, 11, 12, 0, 13, 26, 27, 28, 1, 29, 14, 15, 16, 0, 17, 30, 31, 32, 1, 33]) (by decide +kernel)
set_option maxRecDepth 100000 in
theorem kPL7_ok : ∀ x ∈ kPL7, kEntOK kmeths kStats "TriplicateFormsLaw" "law" code x := kchk_ok (gs := [135, 11, 754, 0, 0, 0, 29, 0, 0, 0, 4, 0, 0, 0, 19, 0, 0, 0, 0, 0, 0, 0, 23, 0, 0, 0, 0, 0, 0, 0, 891, 0, 0, 0, 16, 0, 0, 0, 0, 0, 0, 0, 10, 0, 0, 0, 0, 0, 0, 0, 8, 0, 0, 0]) (ps := [2, 3, 4, 0, 5, 30, 31, 32, 1, 33, 6, 7, 8, 0, 9, 34, 35, 36, 1, 37, 10, 11, 12, 0, 13, 38, 39, 40, 1, 41, 14, 15, 16, 0, 17, 42, 43, 44, 1, 45, 18, 19, 20, 0, 21, 46, 47, 48, 1, 49, 22, 23, 24, 0, 25, 50, 51, 52, 1, 53, 26, 27, 28, 0, 29]) (by decide +kernel)
set_option maxRecDepth 100000 in
theorem kPL8_ok : ∀ x ∈ kPL8, kEntOK kmeths kStats "TriplicateFormsLaw" "law" code x := kchk_ok (gs := [135, 11, 864, 0, 0, 0, 2, 0, 0, 0, 4, 0, 0, 0, 84, 0, 0, 0, 836, 0, 0, 0, 0, 0, 0, 0, 0, 0, 0, 0, 0, 0, 0, 0, 16, 0, 0, 0]) (ps := [18, 19, 20, 1, 21, 2, 3, 4, 0, 5, 22, 23, 24, 1, 25, 6, 7, 8, 0, 9, 26, 27, 28, 1, 29, 10, 11, 12, 0, 13, 30, 31, 32, 1, 33, 14, 15, 16, 0, 17, 34, 35, 36, 1, 37]) (by decide +kernel)
set_option maxRecDepth 100000 in
theorem kPL9_ok : ∀ x ∈ kPL9, kEntOK kmeths kStats "TriplicateFormsLaw" "law" code x := kchk_ok (gs := [135, 11, 974, 0, 0, 0, 15, 0, 0, 0, 845, 0, 0, 0, 13, 0, 0, 0]) (ps := [2, 3, 4, 0, 5, 10, 11, 12, 1, 13, 6, 7, 8, 0, 9, 14, 15, 16, 1, 17]) (by decide +kernel)
set_option maxRecDepth 100000 in
theorem kPL10_ok : ∀ x ∈ kPL10, kEntOK kmeths kStats "TriplicateFormsLaw" "law" code x := kchk_ok (gs := [135, 11, 998, 0, 0, 0, 74, 0, 0, 0, 4, 0, 0, 0, 70, 0, 0, 0, 26, 0, 0, 0, 679, 0, 0, 0, 32, 0, 0, 0, 0, 0, 0, 0, 32, 0, 0, 0, 12, 0, 0, 0]) (ps := [2, 3, 4, 0, 5, 22, 23, 24, 1, 25, 6, 7, 8, 0, 9, 26, 27, 28, 1, 29, 10, 11, 12, 0, 13, 30, 31, 32, 1, 33, 14, 15, 16, 0, 17, 34, 35, 36, 1, 37, 18, 19, 20, 0, 21, 38, 39, 40, 1, 41]) (by decide +kernel)
set_option maxRecDepth 100000 in
theorem kPL11_ok : ∀ x ∈ kPL11, kEntOK kmeths kStats "TriplicateFormsLaw" "law" code x := kchk_ok (gs := [135, 11, 1203, 0, 0, 0, 1, 0, 0, 0, 755, 0, 0, 0, 0, 0, 0, 0]) (ps := [2, 3, 4, 0, 5, 10, 11, 12, 1, 13, 6, 7, 8, 0, 9, 14, 15, 16, 1, 17]) (by decide +kernel)
theorem kPL_ok : ∀ x ∈ kPL, kEntOK kmeths kStats "TriplicateFormsLaw" "law" code x := List.forall_mem_append.mpr ⟨kPL0_ok, List.forall_mem_append.mpr ⟨kPL1_ok, List.forall_mem_append.mpr ⟨kPL2_ok, List.forall_mem_append.mpr ⟨kPL3_ok, List.forall_mem_append.mpr ⟨kPL4_ok, List.forall_mem_append.mpr ⟨kPL5_ok, List.forall_mem_append.mpr ⟨kPL6_ok, List.forall_mem_append.mpr ⟨kPL7_ok, List.forall_mem_append.mpr ⟨kPL8_ok, List.forall_mem_append.mpr ⟨kPL9_ok, List.forall_mem_append.mpr ⟨kPL10_ok, kPL11_ok⟩⟩⟩⟩⟩⟩⟩⟩⟩⟩⟩
end
section
/-! the runs, by the kernel -/
def kRc : Nat := 600002
def kRs : Nat := 7302232
def kS0 : KF := (0, [(0, .inl (.ref 1000000))], [], [], 0, 0)
def kFin (o : Option (Instr × KF)) : Bool := match o with
  | some (ig, _, _, st, _, c, s) => (match ig with
    | .ireturn => (match st with
      | [.inl (.int v)] => decide (v = 1)
      | _ => false)
    | _ => false) && (Nat.ble c kRc && Nat.ble s kRs)
  | none => false
def kleaf (ks : Int32) (rg : List (Int × Int)) : Bool := kFin (krun (kcall kmeths rg (some ks) 12) rg (some ks) 7 7 kRc kRs kPL kfuel [] kS1)
def kleafL (L : Nat) : Bool := kFin (krun (kcall kmeths [] none 12) [] none L 7 kRc kRs kPL kfuel [] kS1)
set_option maxRecDepth 1000000 in
theorem kprefix : keO (kgoTo (kcall kmeths [] none 12) [] none 0 7 kRc kRs kPL 23 kfuel kS0) kS1 = true := by decide +kernel
set_option maxRecDepth 1000000 in
theorem kshort0 : kleafL 1 = true := by decide +kernel
set_option maxRecDepth 1000000 in
theorem kshort1 : kleafL 2 = true := by decide +kernel
set_option maxRecDepth 1000000 in
theorem kshort2 : kleafL 3 = true := by decide +kernel
set_option maxRecDepth 1000000 in
theorem kshort3 : kleafL 4 = true := by decide +kernel
set_option maxRecDepth 1000000 in
theorem kshort4 : kleafL 5 = true := by decide +kernel
set_option maxRecDepth 1000000 in
theorem kshort5 : kleafL 6 = true := by decide +kernel
end
section
set_option maxRecDepth 1000000 in
theorem kl_0_0 : kleaf (Int32.ofNat 0) [(-2147483648, 2147483647), (-2147483648, 2147483647), (-2147483648, 2147483647), (-2147483648, 2147483647), (-2147483648, 2147483647), (-2147483648, 2147483647)] = true := by decide +kernel
set_option maxRecDepth 1000000 in
theorem kl_1_0 : kleaf (Int32.ofNat 1) [(-2147483648, 2147483647), (-2147483648, -1), (-2147483648, 2147483647), (-2147483648, 2147483647), (-2147483648, 2147483647), (-2147483648, 2147483647)] = true := by decide +kernel
set_option maxRecDepth 1000000 in
theorem kl_1_1 : kleaf (Int32.ofNat 1) [(-2147483648, 2147483647), (0, 0), (-2147483648, 2147483647), (-2147483648, 2147483647), (-2147483648, 2147483647), (-2147483648, 2147483647)] = true := by decide +kernel
set_option maxRecDepth 1000000 in
theorem kl_1_2 : kleaf (Int32.ofNat 1) [(-2147483648, 2147483647), (1, 2147483647), (-2147483648, 2147483647), (-2147483648, 2147483647), (-2147483648, 2147483647), (-2147483648, 2147483647)] = true := by decide +kernel
set_option maxRecDepth 1000000 in
theorem kl_2_0 : kleaf (Int32.ofNat 2) [(-2147483648, 2147483647), (-2147483648, 2147483647), (-2147483648, 2147483647), (-2147483648, 2147483647), (-2147483648, 2147483647), (-2147483648, 2147483647)] = true := by decide +kernel
set_option maxRecDepth 1000000 in
theorem kl_3_0 : kleaf (Int32.ofNat 3) [(-2147483648, 2147483647), (-2147483648, 2147483647), (-2147483648, 2147483647), (-2147483648, 2147483647), (-2147483648, 2147483647), (-2147483648, 2147483647)] = true := by decide +kernel
set_option maxRecDepth 1000000 in
theorem kl_6_0 : kleaf (Int32.ofNat 6) [(-2147483648, 2147483647), (-2147483648, -1), (-2147483648, 2147483647), (-2147483648, 2147483647), (-2147483648, 2147483647), (-2147483648, 2147483647)] = true := by decide +kernel
set_option maxRecDepth 1000000 in
theorem kl_6_1 : kleaf (Int32.ofNat 6) [(-2147483648, 2147483647), (0, 2147483647), (-2147483648, 2147483647), (-2147483648, 2147483647), (-2147483648, 2147483647), (-2147483648, 2147483647)] = true := by decide +kernel
set_option maxRecDepth 1000000 in
theorem kl_7_0 : kleaf (Int32.ofNat 7) [(-2147483648, 2147483647), (-2147483648, -1), (-2147483648, 2147483647), (-2147483648, 2147483647), (-2147483648, 2147483647), (-2147483648, 2147483647)] = true := by decide +kernel
set_option maxRecDepth 1000000 in
theorem kl_7_1 : kleaf (Int32.ofNat 7) [(-2147483648, 2147483647), (0, 0), (-2147483648, 2147483647), (-2147483648, 2147483647), (-2147483648, 2147483647), (-2147483648, 2147483647)] = true := by decide +kernel
set_option maxRecDepth 1000000 in
theorem kl_7_2 : kleaf (Int32.ofNat 7) [(-2147483648, 2147483647), (1, 1), (-2147483648, 2147483647), (-2147483648, 2147483647), (-2147483648, 2147483647), (-2147483648, 2147483647)] = true := by decide +kernel
set_option maxRecDepth 1000000 in
theorem kl_7_3 : kleaf (Int32.ofNat 7) [(-2147483648, 2147483647), (2, 2), (-2147483648, 2147483647), (-2147483648, 2147483647), (-2147483648, 2147483647), (-2147483648, 2147483647)] = true := by decide +kernel
set_option maxRecDepth 1000000 in
theorem kl_7_4 : kleaf (Int32.ofNat 7) [(-2147483648, 2147483647), (3, 3), (-2147483648, 2147483647), (-2147483648, 2147483647), (-2147483648, 2147483647), (-2147483648, 2147483647)] = true := by decide +kernel
set_option maxRecDepth 1000000 in
theorem kl_7_5 : kleaf (Int32.ofNat 7) [(-2147483648, 2147483647), (4, 4), (-2147483648, 2147483647), (-2147483648, 2147483647), (-2147483648, 2147483647), (-2147483648, 2147483647)] = true := by decide +kernel
set_option maxRecDepth 1000000 in
theorem kl_7_6 : kleaf (Int32.ofNat 7) [(-2147483648, 2147483647), (5, 5), (-2147483648, 2147483647), (-2147483648, 2147483647), (-2147483648, 2147483647), (-2147483648, 2147483647)] = true := by decide +kernel
set_option maxRecDepth 1000000 in
theorem kl_7_7 : kleaf (Int32.ofNat 7) [(-2147483648, 2147483647), (6, 6), (-2147483648, 2147483647), (-2147483648, 2147483647), (-2147483648, 2147483647), (-2147483648, 2147483647)] = true := by decide +kernel
set_option maxRecDepth 1000000 in
theorem kl_7_8 : kleaf (Int32.ofNat 7) [(-2147483648, 2147483647), (7, 7), (-2147483648, 2147483647), (-2147483648, 2147483647), (-2147483648, 2147483647), (-2147483648, 2147483647)] = true := by decide +kernel
set_option maxRecDepth 1000000 in
theorem kl_7_9 : kleaf (Int32.ofNat 7) [(-2147483648, 2147483647), (8, 2147483647), (-2147483648, 2147483647), (-2147483648, 2147483647), (-2147483648, 2147483647), (-2147483648, 2147483647)] = true := by decide +kernel
set_option maxRecDepth 1000000 in
theorem kl_8_0 : kleaf (Int32.ofNat 8) [(-2147483648, 2147483647), (-2147483648, -1), (-2147483648, 2147483647), (-2147483648, 2147483647), (-2147483648, 2147483647), (-2147483648, 2147483647)] = true := by decide +kernel
set_option maxRecDepth 1000000 in
theorem kl_8_1 : kleaf (Int32.ofNat 8) [(-2147483648, 2147483647), (0, 2147483647), (-2147483648, 2147483647), (-2147483648, 2147483647), (-2147483648, 2147483647), (-2147483648, 2147483647)] = true := by decide +kernel
set_option maxRecDepth 1000000 in
theorem kl_9_0 : kleaf (Int32.ofNat 9) [(-2147483648, 2147483647), (-2147483648, -1), (-2147483648, 2147483647), (-2147483648, 2147483647), (-2147483648, 2147483647), (-2147483648, 2147483647)] = true := by decide +kernel
set_option maxRecDepth 1000000 in
theorem kl_9_1 : kleaf (Int32.ofNat 9) [(-2147483648, 2147483647), (0, 2147483647), (-2147483648, 2147483647), (-2147483648, 2147483647), (-2147483648, 2147483647), (-2147483648, 2147483647)] = true := by decide +kernel
set_option maxRecDepth 1000000 in
theorem kl_10_0 : kleaf (Int32.ofNat 10) [(-2147483648, 2147483647), (-2147483648, -1), (-2147483648, 2147483647), (-2147483648, 2147483647), (-2147483648, 2147483647), (-2147483648, 2147483647)] = true := by decide +kernel
set_option maxRecDepth 1000000 in
theorem kl_10_1 : kleaf (Int32.ofNat 10) [(-2147483648, 2147483647), (0, 2147483647), (-2147483648, 2147483647), (-2147483648, 2147483647), (-2147483648, 2147483647), (-2147483648, 2147483647)] = true := by decide +kernel
set_option maxRecDepth 1000000 in
theorem kl_11_0 : kleaf (Int32.ofNat 11) [(-2147483648, 2147483647), (-2147483648, -1), (-2147483648, 2147483647), (-2147483648, 2147483647), (-2147483648, 2147483647), (-2147483648, 2147483647)] = true := by decide +kernel
set_option maxRecDepth 1000000 in
theorem kl_11_1 : kleaf (Int32.ofNat 11) [(-2147483648, 2147483647), (0, 2147483647), (-2147483648, 2147483647), (-2147483648, 2147483647), (-2147483648, 2147483647), (-2147483648, 2147483647)] = true := by decide +kernel
set_option maxRecDepth 1000000 in
theorem kl_12_0 : kleaf (Int32.ofNat 12) [(-2147483648, 2147483647), (-2147483648, -1), (-2147483648, 2147483647), (-2147483648, 2147483647), (-2147483648, 2147483647), (-2147483648, 2147483647)] = true := by decide +kernel
set_option maxRecDepth 1000000 in
theorem kl_12_1 : kleaf (Int32.ofNat 12) [(-2147483648, 2147483647), (0, 2147483647), (-2147483648, 2147483647), (-2147483648, 2147483647), (-2147483648, 2147483647), (-2147483648, 2147483647)] = true := by decide +kernel
set_option maxRecDepth 1000000 in
theorem kl_13_0 : kleaf (Int32.ofNat 13) [(-2147483648, 2147483647), (-2147483648, -1), (-2147483648, 2147483647), (-2147483648, 2147483647), (-2147483648, 2147483647), (-2147483648, 2147483647)] = true := by decide +kernel
set_option maxRecDepth 1000000 in
theorem kl_13_1 : kleaf (Int32.ofNat 13) [(-2147483648, 2147483647), (0, 2147483647), (-2147483648, 2147483647), (-2147483648, 2147483647), (-2147483648, 2147483647), (-2147483648, 2147483647)] = true := by decide +kernel
set_option maxRecDepth 1000000 in
theorem kl_14_0 : kleaf (Int32.ofNat 14) [(-2147483648, 2147483647), (-2147483648, -1), (-2147483648, 2147483647), (-2147483648, 2147483647), (-2147483648, 2147483647), (-2147483648, 2147483647)] = true := by decide +kernel
set_option maxRecDepth 1000000 in
theorem kl_14_1 : kleaf (Int32.ofNat 14) [(-2147483648, 2147483647), (0, 2147483647), (-2147483648, 2147483647), (-2147483648, 2147483647), (-2147483648, 2147483647), (-2147483648, 2147483647)] = true := by decide +kernel
set_option maxRecDepth 1000000 in
theorem kl_16_0 : kleaf (Int32.ofNat 16) [(-2147483648, 2147483647), (-2147483648, 2147483647), (-2147483648, 2147483647), (-2147483648, 2147483647), (-2147483648, 2147483647), (-2147483648, 2147483647)] = true := by decide +kernel
set_option maxRecDepth 1000000 in
theorem kl_17_0 : kleaf (Int32.ofNat 17) [(-2147483648, 2147483647), (-2147483648, -1), (-2147483648, -1), (-2147483648, 2147483647), (-2147483648, 2147483647), (-2147483648, 2147483647)] = true := by decide +kernel
set_option maxRecDepth 1000000 in
theorem kl_17_1 : kleaf (Int32.ofNat 17) [(-2147483648, 2147483647), (0, 2147483647), (-2147483648, -1), (-2147483648, 2147483647), (-2147483648, 2147483647), (-2147483648, 2147483647)] = true := by decide +kernel
set_option maxRecDepth 1000000 in
theorem kl_17_2 : kleaf (Int32.ofNat 17) [(-2147483648, 2147483647), (-2147483648, -1), (0, 2147483647), (-2147483648, 2147483647), (-2147483648, 2147483647), (-2147483648, 2147483647)] = true := by decide +kernel
set_option maxRecDepth 1000000 in
theorem kl_17_3 : kleaf (Int32.ofNat 17) [(-2147483648, 2147483647), (0, 2147483647), (0, 2147483647), (-2147483648, 2147483647), (-2147483648, 2147483647), (-2147483648, 2147483647)] = true := by decide +kernel
set_option maxRecDepth 1000000 in
theorem kl_18_0 : kleaf (Int32.ofNat 18) [(-2147483648, 2147483647), (-2147483648, -1), (-2147483648, 2147483647), (-2147483648, 2147483647), (-2147483648, 2147483647), (-2147483648, 2147483647)] = true := by decide +kernel
set_option maxRecDepth 1000000 in
theorem kl_18_1 : kleaf (Int32.ofNat 18) [(-2147483648, 2147483647), (0, 2147483647), (-2147483648, 2147483647), (-2147483648, 2147483647), (-2147483648, 2147483647), (-2147483648, 2147483647)] = true := by decide +kernel
set_option maxRecDepth 1000000 in
theorem kl_19_0 : kleaf (Int32.ofNat 19) [(-2147483648, 2147483647), (-2147483648, -1), (-2147483648, 2147483647), (-2147483648, 2147483647), (-2147483648, 2147483647), (-2147483648, 2147483647)] = true := by decide +kernel
set_option maxRecDepth 1000000 in
theorem kl_19_1 : kleaf (Int32.ofNat 19) [(-2147483648, 2147483647), (0, 2147483647), (-2147483648, 2147483647), (-2147483648, 2147483647), (-2147483648, 2147483647), (-2147483648, 2147483647)] = true := by decide +kernel
set_option maxRecDepth 1000000 in
theorem kl_20_0 : kleaf (Int32.ofNat 20) [(-2147483648, 2147483647), (-2147483648, 2147483647), (-2147483648, 2147483647), (-2147483648, 2147483647), (-2147483648, 2147483647), (-2147483648, 2147483647)] = true := by decide +kernel
set_option maxRecDepth 1000000 in
theorem kl_21_0 : kleaf (Int32.ofNat 21) [(-2147483648, 2147483647), (-2147483648, -1), (-2147483648, 2147483647), (-2147483648, 2147483647), (-2147483648, 2147483647), (-2147483648, 2147483647)] = true := by decide +kernel
set_option maxRecDepth 1000000 in
theorem kl_21_1 : kleaf (Int32.ofNat 21) [(-2147483648, 2147483647), (0, 0), (-2147483648, 2147483647), (-2147483648, 2147483647), (-2147483648, 2147483647), (-2147483648, 2147483647)] = true := by decide +kernel
set_option maxRecDepth 1000000 in
theorem kl_21_2 : kleaf (Int32.ofNat 21) [(-2147483648, 2147483647), (1, 1), (-2147483648, 2147483647), (-2147483648, 2147483647), (-2147483648, 2147483647), (-2147483648, 2147483647)] = true := by decide +kernel
set_option maxRecDepth 1000000 in
theorem kl_21_3 : kleaf (Int32.ofNat 21) [(-2147483648, 2147483647), (2, 2), (-2147483648, 2147483647), (-2147483648, 2147483647), (-2147483648, 2147483647), (-2147483648, 2147483647)] = true := by decide +kernel
set_option maxRecDepth 1000000 in
theorem kl_21_4 : kleaf (Int32.ofNat 21) [(-2147483648, 2147483647), (3, 3), (-2147483648, 2147483647), (-2147483648, 2147483647), (-2147483648, 2147483647), (-2147483648, 2147483647)] = true := by decide +kernel
set_option maxRecDepth 1000000 in
theorem kl_21_5 : kleaf (Int32.ofNat 21) [(-2147483648, 2147483647), (4, 4), (-2147483648, 2147483647), (-2147483648, 2147483647), (-2147483648, 2147483647), (-2147483648, 2147483647)] = true := by decide +kernel
set_option maxRecDepth 1000000 in
theorem kl_21_6 : kleaf (Int32.ofNat 21) [(-2147483648, 2147483647), (5, 5), (-2147483648, 2147483647), (-2147483648, 2147483647), (-2147483648, 2147483647), (-2147483648, 2147483647)] = true := by decide +kernel
set_option maxRecDepth 1000000 in
theorem kl_21_7 : kleaf (Int32.ofNat 21) [(-2147483648, 2147483647), (6, 6), (-2147483648, 2147483647), (-2147483648, 2147483647), (-2147483648, 2147483647), (-2147483648, 2147483647)] = true := by decide +kernel
set_option maxRecDepth 1000000 in
theorem kl_21_8 : kleaf (Int32.ofNat 21) [(-2147483648, 2147483647), (7, 7), (-2147483648, 2147483647), (-2147483648, 2147483647), (-2147483648, 2147483647), (-2147483648, 2147483647)] = true := by decide +kernel
set_option maxRecDepth 1000000 in
theorem kl_21_9 : kleaf (Int32.ofNat 21) [(-2147483648, 2147483647), (8, 2147483647), (-2147483648, 2147483647), (-2147483648, 2147483647), (-2147483648, 2147483647), (-2147483648, 2147483647)] = true := by decide +kernel
set_option maxRecDepth 1000000 in
theorem kl_22_0 : kleaf (Int32.ofNat 22) [(-2147483648, 2147483647), (-2147483648, 2147483647), (-2147483648, 2147483647), (-2147483648, 2147483647), (-2147483648, 2147483647), (-2147483648, 2147483647)] = true := by decide +kernel
set_option maxRecDepth 1000000 in
theorem kl_23_0 : kleaf (Int32.ofNat 23) [(-2147483648, 2147483647), (-2147483648, 2147483647), (-2147483648, 2147483647), (-2147483648, 2147483647), (-2147483648, 2147483647), (-2147483648, 2147483647)] = true := by decide +kernel
set_option maxRecDepth 1000000 in
theorem kl_24_0 : kleaf (Int32.ofNat 24) [(-2147483648, 2147483647), (-2147483648, 2147483647), (-2147483648, 2147483647), (-2147483648, 2147483647), (-2147483648, 2147483647), (-2147483648, 2147483647)] = true := by decide +kernel
set_option maxRecDepth 1000000 in
theorem kl_25_0 : kleaf (Int32.ofNat 25) [(-2147483648, 2147483647), (-2147483648, 2147483647), (-2147483648, 2147483647), (-2147483648, 2147483647), (-2147483648, 2147483647), (-2147483648, 2147483647)] = true := by decide +kernel
set_option maxRecDepth 1000000 in
theorem kl_26_0 : kleaf (Int32.ofNat 26) [(-2147483648, 2147483647), (-2147483648, -1), (-2147483648, 2147483647), (-2147483648, 2147483647), (-2147483648, 2147483647), (-2147483648, 2147483647)] = true := by decide +kernel
set_option maxRecDepth 1000000 in
theorem kl_26_1 : kleaf (Int32.ofNat 26) [(-2147483648, 2147483647), (0, 2147483647), (-2147483648, 2147483647), (-2147483648, 2147483647), (-2147483648, 2147483647), (-2147483648, 2147483647)] = true := by decide +kernel
set_option maxRecDepth 1000000 in
theorem kl_27_0 : kleaf (Int32.ofNat 27) [(-2147483648, 2147483647), (-2147483648, -1), (-2147483648, 2147483647), (-2147483648, 2147483647), (-2147483648, 2147483647), (-2147483648, 2147483647)] = true := by decide +kernel
set_option maxRecDepth 1000000 in
theorem kl_27_1 : kleaf (Int32.ofNat 27) [(-2147483648, 2147483647), (0, 0), (-2147483648, 2147483647), (-2147483648, 2147483647), (-2147483648, 2147483647), (-2147483648, 2147483647)] = true := by decide +kernel
set_option maxRecDepth 1000000 in
theorem kl_27_2 : kleaf (Int32.ofNat 27) [(-2147483648, 2147483647), (1, 1), (-2147483648, 2147483647), (-2147483648, 2147483647), (-2147483648, 2147483647), (-2147483648, 2147483647)] = true := by decide +kernel
set_option maxRecDepth 1000000 in
theorem kl_27_3 : kleaf (Int32.ofNat 27) [(-2147483648, 2147483647), (2, 2147483647), (-2147483648, 2147483647), (-2147483648, 2147483647), (-2147483648, 2147483647), (-2147483648, 2147483647)] = true := by decide +kernel
set_option maxRecDepth 1000000 in
theorem kl_28_0 : kleaf (Int32.ofNat 28) [(-2147483648, 2147483647), (-2147483648, 2147483647), (-2147483648, 2147483647), (-2147483648, 2147483647), (-2147483648, 2147483647), (-2147483648, 2147483647)] = true := by decide +kernel
set_option maxRecDepth 1000000 in
theorem kl_29_0 : kleaf (Int32.ofNat 29) [(-2147483648, 2147483647), (-2147483648, -1), (-2147483648, 2147483647), (-2147483648, 2147483647), (-2147483648, 2147483647), (-2147483648, 2147483647)] = true := by decide +kernel
set_option maxRecDepth 1000000 in
theorem kl_29_1 : kleaf (Int32.ofNat 29) [(-2147483648, 2147483647), (0, 2147483647), (-2147483648, 2147483647), (-2147483648, 2147483647), (-2147483648, 2147483647), (-2147483648, 2147483647)] = true := by decide +kernel
set_option maxRecDepth 1000000 in
theorem kl_30_0 : kleaf (Int32.ofNat 30) [(-2147483648, 2147483647), (-2147483648, -1), (-2147483648, 2147483647), (-2147483648, 2147483647), (-2147483648, 2147483647), (-2147483648, 2147483647)] = true := by decide +kernel
set_option maxRecDepth 1000000 in
theorem kl_30_1 : kleaf (Int32.ofNat 30) [(-2147483648, 2147483647), (0, 2147483647), (-2147483648, 2147483647), (-2147483648, 2147483647), (-2147483648, 2147483647), (-2147483648, 2147483647)] = true := by decide +kernel
set_option maxRecDepth 1000000 in
theorem kl_31_0 : kleaf (Int32.ofNat 31) [(-2147483648, 2147483647), (-2147483648, 0), (-2147483648, 2147483647), (-2147483648, 2147483647), (-2147483648, 2147483647), (-2147483648, 2147483647)] = true := by decide +kernel
set_option maxRecDepth 1000000 in
theorem kl_31_1 : kleaf (Int32.ofNat 31) [(-2147483648, 2147483647), (1, 60), (-2147483648, 2147483647), (-2147483648, 2147483647), (-2147483648, 2147483647), (-2147483648, 2147483647)] = true := by decide +kernel
set_option maxRecDepth 1000000 in
theorem kl_31_2 : kleaf (Int32.ofNat 31) [(-2147483648, 2147483647), (61, 2147483647), (-2147483648, 2147483647), (-2147483648, 2147483647), (-2147483648, 2147483647), (-2147483648, 2147483647)] = true := by decide +kernel
set_option maxRecDepth 1000000 in
theorem kl_32_0 : kleaf (Int32.ofNat 32) [(-2147483648, 2147483647), (-2147483648, -1), (-2147483648, 2147483647), (-2147483648, 2147483647), (-2147483648, 2147483647), (-2147483648, 2147483647)] = true := by decide +kernel
set_option maxRecDepth 1000000 in
theorem kl_32_1 : kleaf (Int32.ofNat 32) [(-2147483648, 2147483647), (0, 2147483647), (-2147483648, 2147483647), (-2147483648, 2147483647), (-2147483648, 2147483647), (-2147483648, 2147483647)] = true := by decide +kernel
set_option maxRecDepth 1000000 in
theorem kl_33_0 : kleaf (Int32.ofNat 33) [(-2147483648, 2147483647), (-2147483648, -1), (-2147483648, 2147483647), (-2147483648, 2147483647), (-2147483648, 2147483647), (-2147483648, 2147483647)] = true := by decide +kernel
set_option maxRecDepth 1000000 in
theorem kl_33_1 : kleaf (Int32.ofNat 33) [(-2147483648, 2147483647), (0, 0), (-2147483648, 2147483647), (-2147483648, 2147483647), (-2147483648, 2147483647), (-2147483648, 2147483647)] = true := by decide +kernel
set_option maxRecDepth 1000000 in
theorem kl_33_2 : kleaf (Int32.ofNat 33) [(-2147483648, 2147483647), (1, 1), (-2147483648, 2147483647), (-2147483648, 2147483647), (-2147483648, 2147483647), (-2147483648, 2147483647)] = true := by decide +kernel
set_option maxRecDepth 1000000 in
theorem kl_33_3 : kleaf (Int32.ofNat 33) [(-2147483648, 2147483647), (2, 2147483647), (-2147483648, 2147483647), (-2147483648, 2147483647), (-2147483648, 2147483647), (-2147483648, 2147483647)] = true := by decide +kernel
set_option maxRecDepth 1000000 in
theorem kl_34_0 : kleaf (Int32.ofNat 34) [(-2147483648, 2147483647), (-2147483648, 2147483647), (-2147483648, 2147483647), (-2147483648, 2147483647), (-2147483648, 2147483647), (-2147483648, 2147483647)] = true := by decide +kernel
set_option maxRecDepth 1000000 in
theorem kl_35_0 : kleaf (Int32.ofNat 35) [(-2147483648, 2147483647), (-2147483648, 2147483647), (-2147483648, 2147483647), (-2147483648, 2147483647), (-2147483648, 2147483647), (-2147483648, 2147483647)] = true := by decide +kernel
set_option maxRecDepth 1000000 in
theorem kl_36_0 : kleaf (Int32.ofNat 36) [(-2147483648, 2147483647), (-2147483648, 2147483647), (-2147483648, 2147483647), (-2147483648, 2147483647), (-2147483648, 2147483647), (-2147483648, 2147483647)] = true := by decide +kernel
set_option maxRecDepth 1000000 in
theorem kl_37_0 : kleaf (Int32.ofNat 37) [(-2147483648, 2147483647), (-2147483648, -1), (-2147483648, 2147483647), (-2147483648, 2147483647), (-2147483648, 2147483647), (-2147483648, 2147483647)] = true := by decide +kernel
set_option maxRecDepth 1000000 in
theorem kl_37_1 : kleaf (Int32.ofNat 37) [(-2147483648, 2147483647), (0, 0), (-2147483648, 2147483647), (-2147483648, 2147483647), (-2147483648, 2147483647), (-2147483648, 2147483647)] = true := by decide +kernel
set_option maxRecDepth 1000000 in
theorem kl_37_2 : kleaf (Int32.ofNat 37) [(-2147483648, 2147483647), (1, 1), (-2147483648, 2147483647), (-2147483648, 2147483647), (-2147483648, 2147483647), (-2147483648, 2147483647)] = true := by decide +kernel
set_option maxRecDepth 1000000 in
theorem kl_37_3 : kleaf (Int32.ofNat 37) [(-2147483648, 2147483647), (2, 2147483647), (-2147483648, 2147483647), (-2147483648, 2147483647), (-2147483648, 2147483647), (-2147483648, 2147483647)] = true := by decide +kernel
set_option maxRecDepth 1000000 in
theorem kl_38_0 : kleaf (Int32.ofNat 38) [(-2147483648, 2147483647), (-2147483648, -1), (-2147483648, 2147483647), (-2147483648, 2147483647), (-2147483648, 2147483647), (-2147483648, 2147483647)] = true := by decide +kernel
set_option maxRecDepth 1000000 in
theorem kl_38_1 : kleaf (Int32.ofNat 38) [(-2147483648, 2147483647), (0, 0), (-2147483648, 2147483647), (-2147483648, 2147483647), (-2147483648, 2147483647), (-2147483648, 2147483647)] = true := by decide +kernel
set_option maxRecDepth 1000000 in
theorem kl_38_2 : kleaf (Int32.ofNat 38) [(-2147483648, 2147483647), (1, 1), (-2147483648, 2147483647), (-2147483648, 2147483647), (-2147483648, 2147483647), (-2147483648, 2147483647)] = true := by decide +kernel
set_option maxRecDepth 1000000 in
theorem kl_38_3 : kleaf (Int32.ofNat 38) [(-2147483648, 2147483647), (2, 2147483647), (-2147483648, 2147483647), (-2147483648, 2147483647), (-2147483648, 2147483647), (-2147483648, 2147483647)] = true := by decide +kernel
set_option maxRecDepth 1000000 in
theorem kl_39_0 : kleaf (Int32.ofNat 39) [(-2147483648, 2147483647), (-2147483648, -1), (-2147483648, 2147483647), (-2147483648, 2147483647), (-2147483648, 2147483647), (-2147483648, 2147483647)] = true := by decide +kernel
set_option maxRecDepth 1000000 in
theorem kl_39_1 : kleaf (Int32.ofNat 39) [(-2147483648, 2147483647), (0, 0), (-2147483648, 2147483647), (-2147483648, 2147483647), (-2147483648, 2147483647), (-2147483648, 2147483647)] = true := by decide +kernel
set_option maxRecDepth 1000000 in
theorem kl_39_2 : kleaf (Int32.ofNat 39) [(-2147483648, 2147483647), (1, 1), (-2147483648, 2147483647), (-2147483648, 2147483647), (-2147483648, 2147483647), (-2147483648, 2147483647)] = true := by decide +kernel
set_option maxRecDepth 1000000 in
theorem kl_39_3 : kleaf (Int32.ofNat 39) [(-2147483648, 2147483647), (2, 2), (-2147483648, 2147483647), (-2147483648, 2147483647), (-2147483648, 2147483647), (-2147483648, 2147483647)] = true := by decide +kernel
set_option maxRecDepth 1000000 in
theorem kl_39_4 : kleaf (Int32.ofNat 39) [(-2147483648, 2147483647), (3, 3), (-2147483648, 2147483647), (-2147483648, 2147483647), (-2147483648, 2147483647), (-2147483648, 2147483647)] = true := by decide +kernel
set_option maxRecDepth 1000000 in
theorem kl_39_5 : kleaf (Int32.ofNat 39) [(-2147483648, 2147483647), (4, 2147483647), (-2147483648, 2147483647), (-2147483648, 2147483647), (-2147483648, 2147483647), (-2147483648, 2147483647)] = true := by decide +kernel
set_option maxRecDepth 1000000 in
theorem kl_40_0 : kleaf (Int32.ofNat 40) [(-2147483648, 2147483647), (-2147483648, 2147483647), (-2147483648, 2147483647), (-2147483648, 2147483647), (-2147483648, 2147483647), (-2147483648, 2147483647)] = true := by decide +kernel
set_option maxRecDepth 1000000 in
theorem kl_41_0 : kleaf (Int32.ofNat 41) [(-2147483648, 2147483647), (-2147483648, 2147483647), (-2147483648, 2147483647), (-2147483648, 2147483647), (-2147483648, 2147483647), (-2147483648, 2147483647)] = true := by decide +kernel
set_option maxRecDepth 1000000 in
theorem kl_42_0 : kleaf (Int32.ofNat 42) [(-2147483648, 2147483647), (-2147483648, 2147483647), (-2147483648, 2147483647), (-2147483648, 2147483647), (-2147483648, 2147483647), (-2147483648, 2147483647)] = true := by decide +kernel
set_option maxRecDepth 1000000 in
theorem kl_43_0 : kleaf (Int32.ofNat 43) [(-2147483648, 2147483647), (-2147483648, 2147483647), (-2147483648, 2147483647), (-2147483648, 2147483647), (-2147483648, 2147483647), (-2147483648, 2147483647)] = true := by decide +kernel
set_option maxRecDepth 1000000 in
theorem kl_44_0 : kleaf (Int32.ofNat 44) [(-2147483648, 2147483647), (-2147483648, 2147483647), (-2147483648, 2147483647), (-2147483648, 2147483647), (-2147483648, 2147483647), (-2147483648, 2147483647)] = true := by decide +kernel
set_option maxRecDepth 1000000 in
theorem kl_45_0 : kleaf (Int32.ofNat 45) [(-2147483648, 2147483647), (-2147483648, 2147483647), (-2147483648, 2147483647), (-2147483648, 2147483647), (-2147483648, 2147483647), (-2147483648, 2147483647)] = true := by decide +kernel
set_option maxRecDepth 1000000 in
theorem kl_46_0 : kleaf (Int32.ofNat 46) [(-2147483648, 2147483647), (-2147483648, 2147483647), (-2147483648, 2147483647), (-2147483648, 2147483647), (-2147483648, 2147483647), (-2147483648, 2147483647)] = true := by decide +kernel
set_option maxRecDepth 1000000 in
theorem kl_47_0 : kleaf (Int32.ofNat 47) [(-2147483648, 2147483647), (-2147483648, 2147483647), (-2147483648, 2147483647), (-2147483648, 2147483647), (-2147483648, 2147483647), (-2147483648, 2147483647)] = true := by decide +kernel
set_option maxRecDepth 1000000 in
theorem kl_48_0 : kleaf (Int32.ofNat 48) [(-2147483648, 2147483647), (-2147483648, 2147483647), (-2147483648, 2147483647), (-2147483648, 2147483647), (-2147483648, 2147483647), (-2147483648, 2147483647)] = true := by decide +kernel
set_option maxRecDepth 1000000 in
theorem kl_49_0 : kleaf (Int32.ofNat 49) [(-2147483648, 2147483647), (-2147483648, 2147483647), (-2147483648, 2147483647), (-2147483648, 2147483647), (-2147483648, 2147483647), (-2147483648, 2147483647)] = true := by decide +kernel
set_option maxRecDepth 1000000 in
theorem kl_50_0 : kleaf (Int32.ofNat 50) [(-2147483648, 2147483647), (-2147483648, 2147483647), (-2147483648, 2147483647), (-2147483648, 2147483647), (-2147483648, 2147483647), (-2147483648, 2147483647)] = true := by decide +kernel
set_option maxRecDepth 1000000 in
theorem kl_51_0 : kleaf (Int32.ofNat 51) [(-2147483648, 2147483647), (-2147483648, 2147483647), (-2147483648, 2147483647), (-2147483648, 2147483647), (-2147483648, 2147483647), (-2147483648, 2147483647)] = true := by decide +kernel
set_option maxRecDepth 1000000 in
theorem kl_52_0 : kleaf (Int32.ofNat 52) [(-2147483648, 2147483647), (-2147483648, 2147483647), (-2147483648, 2147483647), (-2147483648, 2147483647), (-2147483648, 2147483647), (-2147483648, 2147483647)] = true := by decide +kernel
set_option maxRecDepth 1000000 in
theorem kl_53_0 : kleaf (Int32.ofNat 53) [(-2147483648, 2147483647), (-2147483648, 2147483647), (-2147483648, 2147483647), (-2147483648, 2147483647), (-2147483648, 2147483647), (-2147483648, 2147483647)] = true := by decide +kernel
set_option maxRecDepth 1000000 in
theorem kl_54_0 : kleaf (Int32.ofNat 54) [(-2147483648, 2147483647), (-2147483648, 2147483647), (-2147483648, 2147483647), (-2147483648, 2147483647), (-2147483648, 2147483647), (-2147483648, 2147483647)] = true := by decide +kernel
set_option maxRecDepth 1000000 in
theorem kl_55_0 : kleaf (Int32.ofNat 55) [(-2147483648, 2147483647), (-2147483648, 2147483647), (-2147483648, 2147483647), (-2147483648, 2147483647), (-2147483648, 2147483647), (-2147483648, 2147483647)] = true := by decide +kernel
set_option maxRecDepth 1000000 in
theorem kl_56_0 : kleaf (Int32.ofNat 56) [(-2147483648, 2147483647), (-2147483648, 2147483647), (-2147483648, 2147483647), (-2147483648, 2147483647), (-2147483648, 2147483647), (-2147483648, 2147483647)] = true := by decide +kernel
set_option maxRecDepth 1000000 in
theorem kl_57_0 : kleaf (Int32.ofNat 57) [(-2147483648, 2147483647), (-2147483648, 2147483647), (-2147483648, 2147483647), (-2147483648, 2147483647), (-2147483648, 2147483647), (-2147483648, 2147483647)] = true := by decide +kernel
set_option maxRecDepth 1000000 in
theorem kl_58_0 : kleaf (Int32.ofNat 58) [(-2147483648, 2147483647), (-2147483648, 2147483647), (-2147483648, 2147483647), (-2147483648, 2147483647), (-2147483648, 2147483647), (-2147483648, 2147483647)] = true := by decide +kernel
set_option maxRecDepth 1000000 in
theorem kl_59_0 : kleaf (Int32.ofNat 59) [(-2147483648, 2147483647), (-2147483648, 2147483647), (-2147483648, 2147483647), (-2147483648, 2147483647), (-2147483648, 2147483647), (-2147483648, 2147483647)] = true := by decide +kernel
set_option maxRecDepth 1000000 in
theorem kl_60_0 : kleaf (Int32.ofNat 60) [(-2147483648, 2147483647), (-2147483648, 2147483647), (-2147483648, 2147483647), (-2147483648, 2147483647), (-2147483648, 2147483647), (-2147483648, 2147483647)] = true := by decide +kernel
set_option maxRecDepth 1000000 in
theorem kl_61_0 : kleaf (Int32.ofNat 61) [(-2147483648, 2147483647), (-2147483648, 2147483647), (-2147483648, 2147483647), (-2147483648, 2147483647), (-2147483648, 2147483647), (-2147483648, 2147483647)] = true := by decide +kernel
set_option maxRecDepth 1000000 in
theorem kl_62_0 : kleaf (Int32.ofNat 62) [(-2147483648, 2147483647), (-2147483648, 2147483647), (-2147483648, 2147483647), (-2147483648, 2147483647), (-2147483648, 2147483647), (-2147483648, 2147483647)] = true := by decide +kernel
set_option maxRecDepth 1000000 in
theorem kl_63_0 : kleaf (Int32.ofNat 63) [(-2147483648, 2147483647), (-2147483648, 2147483647), (-2147483648, 2147483647), (-2147483648, 2147483647), (-2147483648, 2147483647), (-2147483648, 2147483647)] = true := by decide +kernel
end
section
set_option maxRecDepth 1000000 in
theorem kl_15_0 : kleaf (Int32.ofNat 15) [(-2147483648, 2147483647), (-2147483648, 0), (-2147483648, 2147483647), (-2147483648, 2147483647), (-2147483648, 2147483647), (-2147483648, 2147483647)] = true := by decide +kernel
set_option maxRecDepth 1000000 in
theorem kl_15_1 : kleaf (Int32.ofNat 15) [(-2147483648, 2147483647), (1, 1), (-2147483648, 2147483647), (-2147483648, 2147483647), (-2147483648, 2147483647), (-2147483648, 2147483647)] = true := by decide +kernel
set_option maxRecDepth 1000000 in
theorem kl_15_2 : kleaf (Int32.ofNat 15) [(-2147483648, 2147483647), (2, 2), (-2147483648, 2147483647), (-2147483648, 2147483647), (-2147483648, 2147483647), (-2147483648, 2147483647)] = true := by decide +kernel
set_option maxRecDepth 1000000 in
theorem kl_15_3 : kleaf (Int32.ofNat 15) [(-2147483648, 2147483647), (3, 3), (-2147483648, 2147483647), (-2147483648, 2147483647), (-2147483648, 2147483647), (-2147483648, 2147483647)] = true := by decide +kernel
set_option maxRecDepth 1000000 in
theorem kl_15_4 : kleaf (Int32.ofNat 15) [(-2147483648, 2147483647), (4, 4), (-2147483648, 2147483647), (-2147483648, 2147483647), (-2147483648, 2147483647), (-2147483648, 2147483647)] = true := by decide +kernel
set_option maxRecDepth 1000000 in
theorem kl_15_5 : kleaf (Int32.ofNat 15) [(-2147483648, 2147483647), (5, 5), (-2147483648, 2147483647), (-2147483648, 2147483647), (-2147483648, 2147483647), (-2147483648, 2147483647)] = true := by decide +kernel
set_option maxRecDepth 1000000 in
theorem kl_15_6 : kleaf (Int32.ofNat 15) [(-2147483648, 2147483647), (6, 6), (-2147483648, 2147483647), (-2147483648, 2147483647), (-2147483648, 2147483647), (-2147483648, 2147483647)] = true := by decide +kernel
set_option maxRecDepth 1000000 in
theorem kl_15_7 : kleaf (Int32.ofNat 15) [(-2147483648, 2147483647), (7, 7), (-2147483648, 2147483647), (-2147483648, 2147483647), (-2147483648, 2147483647), (-2147483648, 2147483647)] = true := by decide +kernel
set_option maxRecDepth 1000000 in
theorem kl_15_8 : kleaf (Int32.ofNat 15) [(-2147483648, 2147483647), (8, 8), (-2147483648, 2147483647), (-2147483648, 2147483647), (-2147483648, 2147483647), (-2147483648, 2147483647)] = true := by decide +kernel
set_option maxRecDepth 1000000 in
theorem kl_15_9 : kleaf (Int32.ofNat 15) [(-2147483648, 2147483647), (9, 9), (-2147483648, 2147483647), (-2147483648, 2147483647), (-2147483648, 2147483647), (-2147483648, 2147483647)] = true := by decide +kernel
set_option maxRecDepth 1000000 in
theorem kl_15_10 : kleaf (Int32.ofNat 15) [(-2147483648, 2147483647), (10, 10), (-2147483648, 2147483647), (-2147483648, 2147483647), (-2147483648, 2147483647), (-2147483648, 2147483647)] = true := by decide +kernel
set_option maxRecDepth 1000000 in
theorem kl_15_11 : kleaf (Int32.ofNat 15) [(-2147483648, 2147483647), (11, 11), (-2147483648, 2147483647), (-2147483648, 2147483647), (-2147483648, 2147483647), (-2147483648, 2147483647)] = true := by decide +kernel
set_option maxRecDepth 1000000 in
theorem kl_15_12 : kleaf (Int32.ofNat 15) [(-2147483648, 2147483647), (12, 12), (-2147483648, 2147483647), (-2147483648, 2147483647), (-2147483648, 2147483647), (-2147483648, 2147483647)] = true := by decide +kernel
set_option maxRecDepth 1000000 in
theorem kl_15_13 : kleaf (Int32.ofNat 15) [(-2147483648, 2147483647), (13, 13), (-2147483648, 2147483647), (-2147483648, 2147483647), (-2147483648, 2147483647), (-2147483648, 2147483647)] = true := by decide +kernel
set_option maxRecDepth 1000000 in
theorem kl_15_14 : kleaf (Int32.ofNat 15) [(-2147483648, 2147483647), (14, 14), (-2147483648, 2147483647), (-2147483648, 2147483647), (-2147483648, 2147483647), (-2147483648, 2147483647)] = true := by decide +kernel
set_option maxRecDepth 1000000 in
theorem kl_15_15 : kleaf (Int32.ofNat 15) [(-2147483648, 2147483647), (15, 15), (-2147483648, 2147483647), (-2147483648, 2147483647), (-2147483648, 2147483647), (-2147483648, 2147483647)] = true := by decide +kernel
set_option maxRecDepth 1000000 in
theorem kl_15_16 : kleaf (Int32.ofNat 15) [(-2147483648, 2147483647), (16, 16), (-2147483648, 2147483647), (-2147483648, 2147483647), (-2147483648, 2147483647), (-2147483648, 2147483647)] = true := by decide +kernel
set_option maxRecDepth 1000000 in
theorem kl_15_17 : kleaf (Int32.ofNat 15) [(-2147483648, 2147483647), (17, 17), (-2147483648, 2147483647), (-2147483648, 2147483647), (-2147483648, 2147483647), (-2147483648, 2147483647)] = true := by decide +kernel
set_option maxRecDepth 1000000 in
theorem kl_15_18 : kleaf (Int32.ofNat 15) [(-2147483648, 2147483647), (18, 18), (-2147483648, 2147483647), (-2147483648, 2147483647), (-2147483648, 2147483647), (-2147483648, 2147483647)] = true := by decide +kernel
set_option maxRecDepth 1000000 in
theorem kl_15_19 : kleaf (Int32.ofNat 15) [(-2147483648, 2147483647), (19, 19), (-2147483648, 2147483647), (-2147483648, 2147483647), (-2147483648, 2147483647), (-2147483648, 2147483647)] = true := by decide +kernel
set_option maxRecDepth 1000000 in
theorem kl_15_20 : kleaf (Int32.ofNat 15) [(-2147483648, 2147483647), (20, 20), (-2147483648, 2147483647), (-2147483648, 2147483647), (-2147483648, 2147483647), (-2147483648, 2147483647)] = true := by decide +kernel
set_option maxRecDepth 1000000 in
theorem kl_15_21 : kleaf (Int32.ofNat 15) [(-2147483648, 2147483647), (21, 21), (-2147483648, 2147483647), (-2147483648, 2147483647), (-2147483648, 2147483647), (-2147483648, 2147483647)] = true := by decide +kernel
set_option maxRecDepth 1000000 in
theorem kl_15_22 : kleaf (Int32.ofNat 15) [(-2147483648, 2147483647), (22, 22), (-2147483648, 2147483647), (-2147483648, 2147483647), (-2147483648, 2147483647), (-2147483648, 2147483647)] = true := by decide +kernel
set_option maxRecDepth 1000000 in
theorem kl_15_23 : kleaf (Int32.ofNat 15) [(-2147483648, 2147483647), (23, 23), (-2147483648, 2147483647), (-2147483648, 2147483647), (-2147483648, 2147483647), (-2147483648, 2147483647)] = true := by decide +kernel
set_option maxRecDepth 1000000 in
theorem kl_15_24 : kleaf (Int32.ofNat 15) [(-2147483648, 2147483647), (24, 24), (-2147483648, 2147483647), (-2147483648, 2147483647), (-2147483648, 2147483647), (-2147483648, 2147483647)] = true := by decide +kernel
set_option maxRecDepth 1000000 in
theorem kl_15_25 : kleaf (Int32.ofNat 15) [(-2147483648, 2147483647), (25, 25), (-2147483648, 2147483647), (-2147483648, 2147483647), (-2147483648, 2147483647), (-2147483648, 2147483647)] = true := by decide +kernel
set_option maxRecDepth 1000000 in
theorem kl_15_26 : kleaf (Int32.ofNat 15) [(-2147483648, 2147483647), (26, 26), (-2147483648, 2147483647), (-2147483648, 2147483647), (-2147483648, 2147483647), (-2147483648, 2147483647)] = true := by decide +kernel
set_option maxRecDepth 1000000 in
theorem kl_15_27 : kleaf (Int32.ofNat 15) [(-2147483648, 2147483647), (27, 27), (-2147483648, 2147483647), (-2147483648, 2147483647), (-2147483648, 2147483647), (-2147483648, 2147483647)] = true := by decide +kernel
set_option maxRecDepth 1000000 in
theorem kl_15_28 : kleaf (Int32.ofNat 15) [(-2147483648, 2147483647), (28, 28), (-2147483648, 2147483647), (-2147483648, 2147483647), (-2147483648, 2147483647), (-2147483648, 2147483647)] = true := by decide +kernel
set_option maxRecDepth 1000000 in
theorem kl_15_29 : kleaf (Int32.ofNat 15) [(-2147483648, 2147483647), (29, 29), (-2147483648, 2147483647), (-2147483648, 2147483647), (-2147483648, 2147483647), (-2147483648, 2147483647)] = true := by decide +kernel
set_option maxRecDepth 1000000 in
theorem kl_15_30 : kleaf (Int32.ofNat 15) [(-2147483648, 2147483647), (30, 30), (-2147483648, 2147483647), (-2147483648, 2147483647), (-2147483648, 2147483647), (-2147483648, 2147483647)] = true := by decide +kernel
set_option maxRecDepth 1000000 in
theorem kl_15_61 : kleaf (Int32.ofNat 15) [(-2147483648, 2147483647), (61, 2147483647), (-2147483648, 2147483647), (-2147483648, 2147483647), (-2147483648, 2147483647), (-2147483648, 2147483647)] = true := by decide +kernel
end
section
set_option maxRecDepth 1000000 in
theorem kl_15_31 : kleaf (Int32.ofNat 15) [(-2147483648, 2147483647), (31, 31), (-2147483648, 2147483647), (-2147483648, 2147483647), (-2147483648, 2147483647), (-2147483648, 2147483647)] = true := by decide +kernel
set_option maxRecDepth 1000000 in
theorem kl_15_32 : kleaf (Int32.ofNat 15) [(-2147483648, 2147483647), (32, 32), (-2147483648, 2147483647), (-2147483648, 2147483647), (-2147483648, 2147483647), (-2147483648, 2147483647)] = true := by decide +kernel
set_option maxRecDepth 1000000 in
theorem kl_15_33 : kleaf (Int32.ofNat 15) [(-2147483648, 2147483647), (33, 33), (-2147483648, 2147483647), (-2147483648, 2147483647), (-2147483648, 2147483647), (-2147483648, 2147483647)] = true := by decide +kernel
set_option maxRecDepth 1000000 in
theorem kl_15_34 : kleaf (Int32.ofNat 15) [(-2147483648, 2147483647), (34, 34), (-2147483648, 2147483647), (-2147483648, 2147483647), (-2147483648, 2147483647), (-2147483648, 2147483647)] = true := by decide +kernel
set_option maxRecDepth 1000000 in
theorem kl_15_35 : kleaf (Int32.ofNat 15) [(-2147483648, 2147483647), (35, 35), (-2147483648, 2147483647), (-2147483648, 2147483647), (-2147483648, 2147483647), (-2147483648, 2147483647)] = true := by decide +kernel
set_option maxRecDepth 1000000 in
theorem kl_15_36 : kleaf (Int32.ofNat 15) [(-2147483648, 2147483647), (36, 36), (-2147483648, 2147483647), (-2147483648, 2147483647), (-2147483648, 2147483647), (-2147483648, 2147483647)] = true := by decide +kernel
set_option maxRecDepth 1000000 in
theorem kl_15_37 : kleaf (Int32.ofNat 15) [(-2147483648, 2147483647), (37, 37), (-2147483648, 2147483647), (-2147483648, 2147483647), (-2147483648, 2147483647), (-2147483648, 2147483647)] = true := by decide +kernel
set_option maxRecDepth 1000000 in
theorem kl_15_38 : kleaf (Int32.ofNat 15) [(-2147483648, 2147483647), (38, 38), (-2147483648, 2147483647), (-2147483648, 2147483647), (-2147483648, 2147483647), (-2147483648, 2147483647)] = true := by decide +kernel
set_option maxRecDepth 1000000 in
theorem kl_15_39 : kleaf (Int32.ofNat 15) [(-2147483648, 2147483647), (39, 39), (-2147483648, 2147483647), (-2147483648, 2147483647), (-2147483648, 2147483647), (-2147483648, 2147483647)] = true := by decide +kernel
set_option maxRecDepth 1000000 in
theorem kl_15_40 : kleaf (Int32.ofNat 15) [(-2147483648, 2147483647), (40, 40), (-2147483648, 2147483647), (-2147483648, 2147483647), (-2147483648, 2147483647), (-2147483648, 2147483647)] = true := by decide +kernel
set_option maxRecDepth 1000000 in
theorem kl_15_41 : kleaf (Int32.ofNat 15) [(-2147483648, 2147483647), (41, 41), (-2147483648, 2147483647), (-2147483648, 2147483647), (-2147483648, 2147483647), (-2147483648, 2147483647)] = true := by decide +kernel
set_option maxRecDepth 1000000 in
theorem kl_15_42 : kleaf (Int32.ofNat 15) [(-2147483648, 2147483647), (42, 42), (-2147483648, 2147483647), (-2147483648, 2147483647), (-2147483648, 2147483647), (-2147483648, 2147483647)] = true := by decide +kernel
end
section
set_option maxRecDepth 1000000 in
theorem kl_15_43 : kleaf (Int32.ofNat 15) [(-2147483648, 2147483647), (43, 43), (-2147483648, 2147483647), (-2147483648, 2147483647), (-2147483648, 2147483647), (-2147483648, 2147483647)] = true := by decide +kernel
set_option maxRecDepth 1000000 in
theorem kl_15_44 : kleaf (Int32.ofNat 15) [(-2147483648, 2147483647), (44, 44), (-2147483648, 2147483647), (-2147483648, 2147483647), (-2147483648, 2147483647), (-2147483648, 2147483647)] = true := by decide +kernel
set_option maxRecDepth 1000000 in
theorem kl_15_45 : kleaf (Int32.ofNat 15) [(-2147483648, 2147483647), (45, 45), (-2147483648, 2147483647), (-2147483648, 2147483647), (-2147483648, 2147483647), (-2147483648, 2147483647)] = true := by decide +kernel
set_option maxRecDepth 1000000 in
theorem kl_15_46 : kleaf (Int32.ofNat 15) [(-2147483648, 2147483647), (46, 46), (-2147483648, 2147483647), (-2147483648, 2147483647), (-2147483648, 2147483647), (-2147483648, 2147483647)] = true := by decide +kernel
set_option maxRecDepth 1000000 in
theorem kl_15_47 : kleaf (Int32.ofNat 15) [(-2147483648, 2147483647), (47, 47), (-2147483648, 2147483647), (-2147483648, 2147483647), (-2147483648, 2147483647), (-2147483648, 2147483647)] = true := by decide +kernel
set_option maxRecDepth 1000000 in
theorem kl_15_48 : kleaf (Int32.ofNat 15) [(-2147483648, 2147483647), (48, 48), (-2147483648, 2147483647), (-2147483648, 2147483647), (-2147483648, 2147483647), (-2147483648, 2147483647)] = true := by decide +kernel
set_option maxRecDepth 1000000 in
theorem kl_15_49 : kleaf (Int32.ofNat 15) [(-2147483648, 2147483647), (49, 49), (-2147483648, 2147483647), (-2147483648, 2147483647), (-2147483648, 2147483647), (-2147483648, 2147483647)] = true := by decide +kernel
set_option maxRecDepth 1000000 in
theorem kl_15_50 : kleaf (Int32.ofNat 15) [(-2147483648, 2147483647), (50, 50), (-2147483648, 2147483647), (-2147483648, 2147483647), (-2147483648, 2147483647), (-2147483648, 2147483647)] = true := by decide +kernel
set_option maxRecDepth 1000000 in
theorem kl_15_51 : kleaf (Int32.ofNat 15) [(-2147483648, 2147483647), (51, 51), (-2147483648, 2147483647), (-2147483648, 2147483647), (-2147483648, 2147483647), (-2147483648, 2147483647)] = true := by decide +kernel
set_option maxRecDepth 1000000 in
theorem kl_15_52 : kleaf (Int32.ofNat 15) [(-2147483648, 2147483647), (52, 52), (-2147483648, 2147483647), (-2147483648, 2147483647), (-2147483648, 2147483647), (-2147483648, 2147483647)] = true := by decide +kernel
end
section
set_option maxRecDepth 1000000 in
theorem kl_15_53 : kleaf (Int32.ofNat 15) [(-2147483648, 2147483647), (53, 53), (-2147483648, 2147483647), (-2147483648, 2147483647), (-2147483648, 2147483647), (-2147483648, 2147483647)] = true := by decide +kernel
set_option maxRecDepth 1000000 in
theorem kl_15_54 : kleaf (Int32.ofNat 15) [(-2147483648, 2147483647), (54, 54), (-2147483648, 2147483647), (-2147483648, 2147483647), (-2147483648, 2147483647), (-2147483648, 2147483647)] = true := by decide +kernel
set_option maxRecDepth 1000000 in
theorem kl_15_55 : kleaf (Int32.ofNat 15) [(-2147483648, 2147483647), (55, 55), (-2147483648, 2147483647), (-2147483648, 2147483647), (-2147483648, 2147483647), (-2147483648, 2147483647)] = true := by decide +kernel
set_option maxRecDepth 1000000 in
theorem kl_15_56 : kleaf (Int32.ofNat 15) [(-2147483648, 2147483647), (56, 56), (-2147483648, 2147483647), (-2147483648, 2147483647), (-2147483648, 2147483647), (-2147483648, 2147483647)] = true := by decide +kernel
set_option maxRecDepth 1000000 in
theorem kl_15_57 : kleaf (Int32.ofNat 15) [(-2147483648, 2147483647), (57, 57), (-2147483648, 2147483647), (-2147483648, 2147483647), (-2147483648, 2147483647), (-2147483648, 2147483647)] = true := by decide +kernel
set_option maxRecDepth 1000000 in
theorem kl_15_58 : kleaf (Int32.ofNat 15) [(-2147483648, 2147483647), (58, 58), (-2147483648, 2147483647), (-2147483648, 2147483647), (-2147483648, 2147483647), (-2147483648, 2147483647)] = true := by decide +kernel
set_option maxRecDepth 1000000 in
theorem kl_15_59 : kleaf (Int32.ofNat 15) [(-2147483648, 2147483647), (59, 59), (-2147483648, 2147483647), (-2147483648, 2147483647), (-2147483648, 2147483647), (-2147483648, 2147483647)] = true := by decide +kernel
set_option maxRecDepth 1000000 in
theorem kl_15_60 : kleaf (Int32.ofNat 15) [(-2147483648, 2147483647), (60, 60), (-2147483648, 2147483647), (-2147483648, 2147483647), (-2147483648, 2147483647), (-2147483648, 2147483647)] = true := by decide +kernel
end
section
theorem kbd (x : Int32) : -2147483648 ≤ x.toInt ∧ x.toInt ≤ 2147483647 := by
  have h1 := Int32.le_toInt x
  have h2 := Int32.toInt_lt x
  omega
theorem kRg6 {ρ : Nat → Int32} {a0 b0 a1 b1 a2 b2 a3 b3 a4 b4 a5 b5 : Int} (h0 : a0 ≤ (ρ 0).toInt ∧ (ρ 0).toInt ≤ b0) (h1 : a1 ≤ (ρ 1).toInt ∧ (ρ 1).toInt ≤ b1) (h2 : a2 ≤ (ρ 2).toInt ∧ (ρ 2).toInt ≤ b2) (h3 : a3 ≤ (ρ 3).toInt ∧ (ρ 3).toInt ≤ b3) (h4 : a4 ≤ (ρ 4).toInt ∧ (ρ 4).toInt ≤ b4) (h5 : a5 ≤ (ρ 5).toInt ∧ (ρ 5).toInt ≤ b5) : kRg [(a0, b0), (a1, b1), (a2, b2), (a3, b3), (a4, b4), (a5, b5)] ρ := by
  intro i lo hi h
  match i, h with
  | 0, h => cases h; exact h0
  | 1, h => cases h; exact h1
  | 2, h => cases h; exact h2
  | 3, h => cases h; exact h3
  | 4, h => cases h; exact h4
  | 5, h => cases h; exact h5
  | n + 6, h => simp at h
def kCase (j : Nat) : Prop := ∀ ρ : Nat → Int32, ∃ rg, kleaf (Int32.ofNat j) rg = true ∧ kRg rg ρ
theorem kc_0 : kCase 0 := by
  intro ρ
  have b1 := kbd (ρ 1)
  have b2 := kbd (ρ 2)
  have b3 := kbd (ρ 3)
  exact ⟨_, kl_0_0, kRg6 (kbd _) (kbd _) (kbd _) (kbd _) (kbd _) (kbd _)⟩
theorem kc_1 : kCase 1 := by
  intro ρ
  have b1 := kbd (ρ 1)
  have b2 := kbd (ρ 2)
  have b3 := kbd (ρ 3)
  by_cases h1 : (ρ 1).toInt < 0
  · exact ⟨_, kl_1_0, kRg6 (kbd _) (by omega) (kbd _) (kbd _) (kbd _) (kbd _)⟩
  · by_cases h2 : (ρ 1).toInt < 1
    · exact ⟨_, kl_1_1, kRg6 (kbd _) (by omega) (kbd _) (kbd _) (kbd _) (kbd _)⟩
    · exact ⟨_, kl_1_2, kRg6 (kbd _) (by omega) (kbd _) (kbd _) (kbd _) (kbd _)⟩
theorem kc_2 : kCase 2 := by
  intro ρ
  have b1 := kbd (ρ 1)
  have b2 := kbd (ρ 2)
  have b3 := kbd (ρ 3)
  exact ⟨_, kl_2_0, kRg6 (kbd _) (kbd _) (kbd _) (kbd _) (kbd _) (kbd _)⟩
theorem kc_3 : kCase 3 := by
  intro ρ
  have b1 := kbd (ρ 1)
  have b2 := kbd (ρ 2)
  have b3 := kbd (ρ 3)
  exact ⟨_, kl_3_0, kRg6 (kbd _) (kbd _) (kbd _) (kbd _) (kbd _) (kbd _)⟩
theorem kc_6 : kCase 6 := by
  intro ρ
  have b1 := kbd (ρ 1)
  have b2 := kbd (ρ 2)
  have b3 := kbd (ρ 3)
  by_cases h1 : (ρ 1).toInt < 0
  · exact ⟨_, kl_6_0, kRg6 (kbd _) (by omega) (kbd _) (kbd _) (kbd _) (kbd _)⟩
  · exact ⟨_, kl_6_1, kRg6 (kbd _) (by omega) (kbd _) (kbd _) (kbd _) (kbd _)⟩
theorem kc_7 : kCase 7 := by
  intro ρ
  have b1 := kbd (ρ 1)
  have b2 := kbd (ρ 2)
  have b3 := kbd (ρ 3)
  by_cases h1 : (ρ 1).toInt < 0
  · exact ⟨_, kl_7_0, kRg6 (kbd _) (by omega) (kbd _) (kbd _) (kbd _) (kbd _)⟩
  · by_cases h2 : (ρ 1).toInt < 1
    · exact ⟨_, kl_7_1, kRg6 (kbd _) (by omega) (kbd _) (kbd _) (kbd _) (kbd _)⟩
    · by_cases h3 : (ρ 1).toInt < 2
      · exact ⟨_, kl_7_2, kRg6 (kbd _) (by omega) (kbd _) (kbd _) (kbd _) (kbd _)⟩
      · by_cases h4 : (ρ 1).toInt < 3
        · exact ⟨_, kl_7_3, kRg6 (kbd _) (by omega) (kbd _) (kbd _) (kbd _) (kbd _)⟩
        · by_cases h5 : (ρ 1).toInt < 4
          · exact ⟨_, kl_7_4, kRg6 (kbd _) (by omega) (kbd _) (kbd _) (kbd _) (kbd _)⟩
          · by_cases h6 : (ρ 1).toInt < 5
            · exact ⟨_, kl_7_5, kRg6 (kbd _) (by omega) (kbd _) (kbd _) (kbd _) (kbd _)⟩
            · by_cases h7 : (ρ 1).toInt < 6
              · exact ⟨_, kl_7_6, kRg6 (kbd _) (by omega) (kbd _) (kbd _) (kbd _) (kbd _)⟩
              · by_cases h8 : (ρ 1).toInt < 7
                · exact ⟨_, kl_7_7, kRg6 (kbd _) (by omega) (kbd _) (kbd _) (kbd _) (kbd _)⟩
                · by_cases h9 : (ρ 1).toInt < 8
                  · exact ⟨_, kl_7_8, kRg6 (kbd _) (by omega) (kbd _) (kbd _) (kbd _) (kbd _)⟩
                  · exact ⟨_, kl_7_9, kRg6 (kbd _) (by omega) (kbd _) (kbd _) (kbd _) (kbd _)⟩
theorem kc_8 : kCase 8 := by
  intro ρ
  have b1 := kbd (ρ 1)
  have b2 := kbd (ρ 2)
  have b3 := kbd (ρ 3)
  by_cases h1 : (ρ 1).toInt < 0
  · exact ⟨_, kl_8_0, kRg6 (kbd _) (by omega) (kbd _) (kbd _) (kbd _) (kbd _)⟩
  · exact ⟨_, kl_8_1, kRg6 (kbd _) (by omega) (kbd _) (kbd _) (kbd _) (kbd _)⟩
theorem kc_9 : kCase 9 := by
  intro ρ
  have b1 := kbd (ρ 1)
  have b2 := kbd (ρ 2)
  have b3 := kbd (ρ 3)
  by_cases h1 : (ρ 1).toInt < 0
  · exact ⟨_, kl_9_0, kRg6 (kbd _) (by omega) (kbd _) (kbd _) (kbd _) (kbd _)⟩
  · exact ⟨_, kl_9_1, kRg6 (kbd _) (by omega) (kbd _) (kbd _) (kbd _) (kbd _)⟩
theorem kc_10 : kCase 10 := by
  intro ρ
  have b1 := kbd (ρ 1)
  have b2 := kbd (ρ 2)
  have b3 := kbd (ρ 3)
  by_cases h1 : (ρ 1).toInt < 0
  · exact ⟨_, kl_10_0, kRg6 (kbd _) (by omega) (kbd _) (kbd _) (kbd _) (kbd _)⟩
  · exact ⟨_, kl_10_1, kRg6 (kbd _) (by omega) (kbd _) (kbd _) (kbd _) (kbd _)⟩
theorem kc_11 : kCase 11 := by
  intro ρ
  have b1 := kbd (ρ 1)
  have b2 := kbd (ρ 2)
  have b3 := kbd (ρ 3)
  by_cases h1 : (ρ 1).toInt < 0
  · exact ⟨_, kl_11_0, kRg6 (kbd _) (by omega) (kbd _) (kbd _) (kbd _) (kbd _)⟩
  · exact ⟨_, kl_11_1, kRg6 (kbd _) (by omega) (kbd _) (kbd _) (kbd _) (kbd _)⟩
theorem kc_12 : kCase 12 := by
  intro ρ
  have b1 := kbd (ρ 1)
  have b2 := kbd (ρ 2)
  have b3 := kbd (ρ 3)
  by_cases h1 : (ρ 1).toInt < 0
  · exact ⟨_, kl_12_0, kRg6 (kbd _) (by omega) (kbd _) (kbd _) (kbd _) (kbd _)⟩
  · exact ⟨_, kl_12_1, kRg6 (kbd _) (by omega) (kbd _) (kbd _) (kbd _) (kbd _)⟩
theorem kc_13 : kCase 13 := by
  intro ρ
  have b1 := kbd (ρ 1)
  have b2 := kbd (ρ 2)
  have b3 := kbd (ρ 3)
  by_cases h1 : (ρ 1).toInt < 0
  · exact ⟨_, kl_13_0, kRg6 (kbd _) (by omega) (kbd _) (kbd _) (kbd _) (kbd _)⟩
  · exact ⟨_, kl_13_1, kRg6 (kbd _) (by omega) (kbd _) (kbd _) (kbd _) (kbd _)⟩
theorem kc_14 : kCase 14 := by
  intro ρ
  have b1 := kbd (ρ 1)
  have b2 := kbd (ρ 2)
  have b3 := kbd (ρ 3)
  by_cases h1 : (ρ 1).toInt < 0
  · exact ⟨_, kl_14_0, kRg6 (kbd _) (by omega) (kbd _) (kbd _) (kbd _) (kbd _)⟩
  · exact ⟨_, kl_14_1, kRg6 (kbd _) (by omega) (kbd _) (kbd _) (kbd _) (kbd _)⟩
theorem kc_15 : kCase 15 := by
  intro ρ
  have b1 := kbd (ρ 1)
  have b2 := kbd (ρ 2)
  have b3 := kbd (ρ 3)
  by_cases h1 : (ρ 1).toInt < 1
  · exact ⟨_, kl_15_0, kRg6 (kbd _) (by omega) (kbd _) (kbd _) (kbd _) (kbd _)⟩
  · by_cases h2 : (ρ 1).toInt < 61
    · by_cases h3 : (ρ 1).toInt < 2
      · exact ⟨_, kl_15_1, kRg6 (kbd _) (by omega) (kbd _) (kbd _) (kbd _) (kbd _)⟩
      · by_cases h4 : (ρ 1).toInt < 3
        · exact ⟨_, kl_15_2, kRg6 (kbd _) (by omega) (kbd _) (kbd _) (kbd _) (kbd _)⟩
        · by_cases h5 : (ρ 1).toInt < 4
          · exact ⟨_, kl_15_3, kRg6 (kbd _) (by omega) (kbd _) (kbd _) (kbd _) (kbd _)⟩
          · by_cases h6 : (ρ 1).toInt < 5
            · exact ⟨_, kl_15_4, kRg6 (kbd _) (by omega) (kbd _) (kbd _) (kbd _) (kbd _)⟩
            · by_cases h7 : (ρ 1).toInt < 6
              · exact ⟨_, kl_15_5, kRg6 (kbd _) (by omega) (kbd _) (kbd _) (kbd _) (kbd _)⟩
              · by_cases h8 : (ρ 1).toInt < 7
                · exact ⟨_, kl_15_6, kRg6 (kbd _) (by omega) (kbd _) (kbd _) (kbd _) (kbd _)⟩
                · by_cases h9 : (ρ 1).toInt < 8
                  · exact ⟨_, kl_15_7, kRg6 (kbd _) (by omega) (kbd _) (kbd _) (kbd _) (kbd _)⟩
                  · by_cases h10 : (ρ 1).toInt < 9
                    · exact ⟨_, kl_15_8, kRg6 (kbd _) (by omega) (kbd _) (kbd _) (kbd _) (kbd _)⟩
                    · by_cases h11 : (ρ 1).toInt < 10
                      · exact ⟨_, kl_15_9, kRg6 (kbd _) (by omega) (kbd _) (kbd _) (kbd _) (kbd _)⟩
                      · by_cases h12 : (ρ 1).toInt < 11
                        · exact ⟨_, kl_15_10, kRg6 (kbd _) (by omega) (kbd _) (kbd _) (kbd _) (kbd _)⟩
                        · by_cases h13 : (ρ 1).toInt < 12
                          · exact ⟨_, kl_15_11, kRg6 (kbd _) (by omega) (kbd _) (kbd _) (kbd _) (kbd _)⟩
                          · by_cases h14 : (ρ 1).toInt < 13
                            · exact ⟨_, kl_15_12, kRg6 (kbd _) (by omega) (kbd _) (kbd _) (kbd _) (kbd _)⟩
                            · by_cases h15 : (ρ 1).toInt < 14
                              · exact ⟨_, kl_15_13, kRg6 (kbd _) (by omega) (kbd _) (kbd _) (kbd _) (kbd _)⟩
                              · by_cases h16 : (ρ 1).toInt < 15
                                · exact ⟨_, kl_15_14, kRg6 (kbd _) (by omega) (kbd _) (kbd _) (kbd _) (kbd _)⟩
                                · by_cases h17 : (ρ 1).toInt < 16
                                  · exact ⟨_, kl_15_15, kRg6 (kbd _) (by omega) (kbd _) (kbd _) (kbd _) (kbd _)⟩
                                  · by_cases h18 : (ρ 1).toInt < 17
                                    · exact ⟨_, kl_15_16, kRg6 (kbd _) (by omega) (kbd _) (kbd _) (kbd _) (kbd _)⟩
                                    · by_cases h19 : (ρ 1).toInt < 18
                                      · exact ⟨_, kl_15_17, kRg6 (kbd _) (by omega) (kbd _) (kbd _) (kbd _) (kbd _)⟩
                                      · by_cases h20 : (ρ 1).toInt < 19
                                        · exact ⟨_, kl_15_18, kRg6 (kbd _) (by omega) (kbd _) (kbd _) (kbd _) (kbd _)⟩
                                        · by_cases h21 : (ρ 1).toInt < 20
                                          · exact ⟨_, kl_15_19, kRg6 (kbd _) (by omega) (kbd _) (kbd _) (kbd _) (kbd _)⟩
                                          · by_cases h22 : (ρ 1).toInt < 21
                                            · exact ⟨_, kl_15_20, kRg6 (kbd _) (by omega) (kbd _) (kbd _) (kbd _) (kbd _)⟩
                                            · by_cases h23 : (ρ 1).toInt < 22
                                              · exact ⟨_, kl_15_21, kRg6 (kbd _) (by omega) (kbd _) (kbd _) (kbd _) (kbd _)⟩
                                              · by_cases h24 : (ρ 1).toInt < 23
                                                · exact ⟨_, kl_15_22, kRg6 (kbd _) (by omega) (kbd _) (kbd _) (kbd _) (kbd _)⟩
                                                · by_cases h25 : (ρ 1).toInt < 24
                                                  · exact ⟨_, kl_15_23, kRg6 (kbd _) (by omega) (kbd _) (kbd _) (kbd _) (kbd _)⟩
                                                  · by_cases h26 : (ρ 1).toInt < 25
                                                    · exact ⟨_, kl_15_24, kRg6 (kbd _) (by omega) (kbd _) (kbd _) (kbd _) (kbd _)⟩
                                                    · by_cases h27 : (ρ 1).toInt < 26
                                                      · exact ⟨_, kl_15_25, kRg6 (kbd _) (by omega) (kbd _) (kbd _) (kbd _) (kbd _)⟩
                                                      · by_cases h28 : (ρ 1).toInt < 27
                                                        · exact ⟨_, kl_15_26, kRg6 (kbd _) (by omega) (kbd _) (kbd _) (kbd _) (kbd _)⟩
                                                        · by_cases h29 : (ρ 1).toInt < 28
                                                          · exact ⟨_, kl_15_27, kRg6 (kbd _) (by omega) (kbd _) (kbd _) (kbd _) (kbd _)⟩
                                                          · by_cases h30 : (ρ 1).toInt < 29
                                                            · exact ⟨_, kl_15_28, kRg6 (kbd _) (by omega) (kbd _) (kbd _) (kbd _) (kbd _)⟩
                                                            · by_cases h31 : (ρ 1).toInt < 30
                                                              · exact ⟨_, kl_15_29, kRg6 (kbd _) (by omega) (kbd _) (kbd _) (kbd _) (kbd _)⟩
                                                              · by_cases h32 : (ρ 1).toInt < 31
                                                                · exact ⟨_, kl_15_30, kRg6 (kbd _) (by omega) (kbd _) (kbd _) (kbd _) (kbd _)⟩
                                                                · by_cases h33 : (ρ 1).toInt < 32
                                                                  · exact ⟨_, kl_15_31, kRg6 (kbd _) (by omega) (kbd _) (kbd _) (kbd _) (kbd _)⟩
                                                                  · by_cases h34 : (ρ 1).toInt < 33
                                                                    · exact ⟨_, kl_15_32, kRg6 (kbd _) (by omega) (kbd _) (kbd _) (kbd _) (kbd _)⟩
                                                                    · by_cases h35 : (ρ 1).toInt < 34
                                                                      · exact ⟨_, kl_15_33, kRg6 (kbd _) (by omega) (kbd _) (kbd _) (kbd _) (kbd _)⟩
                                                                      · by_cases h36 : (ρ 1).toInt < 35
                                                                        · exact ⟨_, kl_15_34, kRg6 (kbd _) (by omega) (kbd _) (kbd _) (kbd _) (kbd _)⟩
                                                                        · by_cases h37 : (ρ 1).toInt < 36
                                                                          · exact ⟨_, kl_15_35, kRg6 (kbd _) (by omega) (kbd _) (kbd _) (kbd _) (kbd _)⟩
                                                                          · by_cases h38 : (ρ 1).toInt < 37
                                                                            · exact ⟨_, kl_15_36, kRg6 (kbd _) (by omega) (kbd _) (kbd _) (kbd _) (kbd _)⟩
                                                                            · by_cases h39 : (ρ 1).toInt < 38
                                                                              · exact ⟨_, kl_15_37, kRg6 (kbd _) (by omega) (kbd _) (kbd _) (kbd _) (kbd _)⟩
                                                                              · by_cases h40 : (ρ 1).toInt < 39
                                                                                · exact ⟨_, kl_15_38, kRg6 (kbd _) (by omega) (kbd _) (kbd _) (kbd _) (kbd _)⟩
                                                                                · by_cases h41 : (ρ 1).toInt < 40
                                                                                  · exact ⟨_, kl_15_39, kRg6 (kbd _) (by omega) (kbd _) (kbd _) (kbd _) (kbd _)⟩
                                                                                  · by_cases h42 : (ρ 1).toInt < 41
                                                                                    · exact ⟨_, kl_15_40, kRg6 (kbd _) (by omega) (kbd _) (kbd _) (kbd _) (kbd _)⟩
                                                                                    · by_cases h43 : (ρ 1).toInt < 42
                                                                                      · exact ⟨_, kl_15_41, kRg6 (kbd _) (by omega) (kbd _) (kbd _) (kbd _) (kbd _)⟩
                                                                                      · by_cases h44 : (ρ 1).toInt < 43
                                                                                        · exact ⟨_, kl_15_42, kRg6 (kbd _) (by omega) (kbd _) (kbd _) (kbd _) (kbd _)⟩
                                                                                        · by_cases h45 : (ρ 1).toInt < 44
                                                                                          · exact ⟨_, kl_15_43, kRg6 (kbd _) (by omega) (kbd _) (kbd _) (kbd _) (kbd _)⟩
                                                                                          · by_cases h46 : (ρ 1).toInt < 45
                                                                                            · exact ⟨_, kl_15_44, kRg6 (kbd _) (by omega) (kbd _) (kbd _) (kbd _) (kbd _)⟩
                                                                                            · by_cases h47 : (ρ 1).toInt < 46
                                                                                              · exact ⟨_, kl_15_45, kRg6 (kbd _) (by omega) (kbd _) (kbd _) (kbd _) (kbd _)⟩
                                                                                              · by_cases h48 : (ρ 1).toInt < 47
                                                                                                · exact ⟨_, kl_15_46, kRg6 (kbd _) (by omega) (kbd _) (kbd _) (kbd _) (kbd _)⟩
                                                                                                · by_cases h49 : (ρ 1).toInt < 48
                                                                                                  · exact ⟨_, kl_15_47, kRg6 (kbd _) (by omega) (kbd _) (kbd _) (kbd _) (kbd _)⟩
                                                                                                  · by_cases h50 : (ρ 1).toInt < 49
                                                                                                    · exact ⟨_, kl_15_48, kRg6 (kbd _) (by omega) (kbd _) (kbd _) (kbd _) (kbd _)⟩
                                                                                                    · by_cases h51 : (ρ 1).toInt < 50
                                                                                                      · exact ⟨_, kl_15_49, kRg6 (kbd _) (by omega) (kbd _) (kbd _) (kbd _) (kbd _)⟩
                                                                                                      · by_cases h52 : (ρ 1).toInt < 51
                                                                                                        · exact ⟨_, kl_15_50, kRg6 (kbd _) (by omega) (kbd _) (kbd _) (kbd _) (kbd _)⟩
                                                                                                        · by_cases h53 : (ρ 1).toInt < 52
                                                                                                          · exact ⟨_, kl_15_51, kRg6 (kbd _) (by omega) (kbd _) (kbd _) (kbd _) (kbd _)⟩
                                                                                                          · by_cases h54 : (ρ 1).toInt < 53
                                                                                                            · exact ⟨_, kl_15_52, kRg6 (kbd _) (by omega) (kbd _) (kbd _) (kbd _) (kbd _)⟩
                                                                                                            · by_cases h55 : (ρ 1).toInt < 54
                                                                                                              · exact ⟨_, kl_15_53, kRg6 (kbd _) (by omega) (kbd _) (kbd _) (kbd _) (kbd _)⟩
                                                                                                              · by_cases h56 : (ρ 1).toInt < 55
                                                                                                                · exact ⟨_, kl_15_54, kRg6 (kbd _) (by omega) (kbd _) (kbd _) (kbd _) (kbd _)⟩
                                                                                                                · by_cases h57 : (ρ 1).toInt < 56
                                                                                                                  · exact ⟨_, kl_15_55, kRg6 (kbd _) (by omega) (kbd _) (kbd _) (kbd _) (kbd _)⟩
                                                                                                                  · by_cases h58 : (ρ 1).toInt < 57
                                                                                                                    · exact ⟨_, kl_15_56, kRg6 (kbd _) (by omega) (kbd _) (kbd _) (kbd _) (kbd _)⟩
                                                                                                                    · by_cases h59 : (ρ 1).toInt < 58
                                                                                                                      · exact ⟨_, kl_15_57, kRg6 (kbd _) (by omega) (kbd _) (kbd _) (kbd _) (kbd _)⟩
                                                                                                                      · by_cases h60 : (ρ 1).toInt < 59
                                                                                                                        · exact ⟨_, kl_15_58, kRg6 (kbd _) (by omega) (kbd _) (kbd _) (kbd _) (kbd _)⟩
                                                                                                                        · by_cases h61 : (ρ 1).toInt < 60
                                                                                                                          · exact ⟨_, kl_15_59, kRg6 (kbd _) (by omega) (kbd _) (kbd _) (kbd _) (kbd _)⟩
                                                                                                                          · exact ⟨_, kl_15_60, kRg6 (kbd _) (by omega) (kbd _) (kbd _) (kbd _) (kbd _)⟩
    · exact ⟨_, kl_15_61, kRg6 (kbd _) (by omega) (kbd _) (kbd _) (kbd _) (kbd _)⟩
theorem kc_16 : kCase 16 := by
  intro ρ
  have b1 := kbd (ρ 1)
  have b2 := kbd (ρ 2)
  have b3 := kbd (ρ 3)
  exact ⟨_, kl_16_0, kRg6 (kbd _) (kbd _) (kbd _) (kbd _) (kbd _) (kbd _)⟩
theorem kc_17 : kCase 17 := by
  intro ρ
  have b1 := kbd (ρ 1)
  have b2 := kbd (ρ 2)
  have b3 := kbd (ρ 3)
  by_cases h1 : (ρ 2).toInt < 0
  · by_cases h2 : (ρ 1).toInt < 0
    · exact ⟨_, kl_17_0, kRg6 (kbd _) (by omega) (by omega) (kbd _) (kbd _) (kbd _)⟩
    · exact ⟨_, kl_17_1, kRg6 (kbd _) (by omega) (by omega) (kbd _) (kbd _) (kbd _)⟩
  · by_cases h2 : (ρ 1).toInt < 0
    · exact ⟨_, kl_17_2, kRg6 (kbd _) (by omega) (by omega) (kbd _) (kbd _) (kbd _)⟩
    · exact ⟨_, kl_17_3, kRg6 (kbd _) (by omega) (by omega) (kbd _) (kbd _) (kbd _)⟩
theorem kc_18 : kCase 18 := by
  intro ρ
  have b1 := kbd (ρ 1)
  have b2 := kbd (ρ 2)
  have b3 := kbd (ρ 3)
  by_cases h1 : (ρ 1).toInt < 0
  · exact ⟨_, kl_18_0, kRg6 (kbd _) (by omega) (kbd _) (kbd _) (kbd _) (kbd _)⟩
  · exact ⟨_, kl_18_1, kRg6 (kbd _) (by omega) (kbd _) (kbd _) (kbd _) (kbd _)⟩
theorem kc_19 : kCase 19 := by
  intro ρ
  have b1 := kbd (ρ 1)
  have b2 := kbd (ρ 2)
  have b3 := kbd (ρ 3)
  by_cases h1 : (ρ 1).toInt < 0
  · exact ⟨_, kl_19_0, kRg6 (kbd _) (by omega) (kbd _) (kbd _) (kbd _) (kbd _)⟩
  · exact ⟨_, kl_19_1, kRg6 (kbd _) (by omega) (kbd _) (kbd _) (kbd _) (kbd _)⟩
theorem kc_20 : kCase 20 := by
  intro ρ
  have b1 := kbd (ρ 1)
  have b2 := kbd (ρ 2)
  have b3 := kbd (ρ 3)
  exact ⟨_, kl_20_0, kRg6 (kbd _) (kbd _) (kbd _) (kbd _) (kbd _) (kbd _)⟩
theorem kc_21 : kCase 21 := by
  intro ρ
  have b1 := kbd (ρ 1)
  have b2 := kbd (ρ 2)
  have b3 := kbd (ρ 3)
  by_cases h1 : (ρ 1).toInt < 0
  · exact ⟨_, kl_21_0, kRg6 (kbd _) (by omega) (kbd _) (kbd _) (kbd _) (kbd _)⟩
  · by_cases h2 : (ρ 1).toInt < 8
    · by_cases h3 : (ρ 1).toInt < 1
      · exact ⟨_, kl_21_1, kRg6 (kbd _) (by omega) (kbd _) (kbd _) (kbd _) (kbd _)⟩
      · by_cases h4 : (ρ 1).toInt < 2
        · exact ⟨_, kl_21_2, kRg6 (kbd _) (by omega) (kbd _) (kbd _) (kbd _) (kbd _)⟩
        · by_cases h5 : (ρ 1).toInt < 3
          · exact ⟨_, kl_21_3, kRg6 (kbd _) (by omega) (kbd _) (kbd _) (kbd _) (kbd _)⟩
          · by_cases h6 : (ρ 1).toInt < 4
            · exact ⟨_, kl_21_4, kRg6 (kbd _) (by omega) (kbd _) (kbd _) (kbd _) (kbd _)⟩
            · by_cases h7 : (ρ 1).toInt < 5
              · exact ⟨_, kl_21_5, kRg6 (kbd _) (by omega) (kbd _) (kbd _) (kbd _) (kbd _)⟩
              · by_cases h8 : (ρ 1).toInt < 6
                · exact ⟨_, kl_21_6, kRg6 (kbd _) (by omega) (kbd _) (kbd _) (kbd _) (kbd _)⟩
                · by_cases h9 : (ρ 1).toInt < 7
                  · exact ⟨_, kl_21_7, kRg6 (kbd _) (by omega) (kbd _) (kbd _) (kbd _) (kbd _)⟩
                  · exact ⟨_, kl_21_8, kRg6 (kbd _) (by omega) (kbd _) (kbd _) (kbd _) (kbd _)⟩
    · exact ⟨_, kl_21_9, kRg6 (kbd _) (by omega) (kbd _) (kbd _) (kbd _) (kbd _)⟩
theorem kc_22 : kCase 22 := by
  intro ρ
  have b1 := kbd (ρ 1)
  have b2 := kbd (ρ 2)
  have b3 := kbd (ρ 3)
  exact ⟨_, kl_22_0, kRg6 (kbd _) (kbd _) (kbd _) (kbd _) (kbd _) (kbd _)⟩
theorem kc_23 : kCase 23 := by
  intro ρ
  have b1 := kbd (ρ 1)
  have b2 := kbd (ρ 2)
  have b3 := kbd (ρ 3)
  exact ⟨_, kl_23_0, kRg6 (kbd _) (kbd _) (kbd _) (kbd _) (kbd _) (kbd _)⟩
theorem kc_24 : kCase 24 := by
  intro ρ
  have b1 := kbd (ρ 1)
  have b2 := kbd (ρ 2)
  have b3 := kbd (ρ 3)
  exact ⟨_, kl_24_0, kRg6 (kbd _) (kbd _) (kbd _) (kbd _) (kbd _) (kbd _)⟩
theorem kc_25 : kCase 25 := by
  intro ρ
  have b1 := kbd (ρ 1)
  have b2 := kbd (ρ 2)
  have b3 := kbd (ρ 3)
  exact ⟨_, kl_25_0, kRg6 (kbd _) (kbd _) (kbd _) (kbd _) (kbd _) (kbd _)⟩
theorem kc_26 : kCase 26 := by
  intro ρ
  have b1 := kbd (ρ 1)
  have b2 := kbd (ρ 2)
  have b3 := kbd (ρ 3)
  by_cases h1 : (ρ 1).toInt < 0
  · exact ⟨_, kl_26_0, kRg6 (kbd _) (by omega) (kbd _) (kbd _) (kbd _) (kbd _)⟩
  · exact ⟨_, kl_26_1, kRg6 (kbd _) (by omega) (kbd _) (kbd _) (kbd _) (kbd _)⟩
theorem kc_27 : kCase 27 := by
  intro ρ
  have b1 := kbd (ρ 1)
  have b2 := kbd (ρ 2)
  have b3 := kbd (ρ 3)
  by_cases h1 : (ρ 1).toInt < 0
  · exact ⟨_, kl_27_0, kRg6 (kbd _) (by omega) (kbd _) (kbd _) (kbd _) (kbd _)⟩
  · by_cases h2 : (ρ 1).toInt < 1
    · exact ⟨_, kl_27_1, kRg6 (kbd _) (by omega) (kbd _) (kbd _) (kbd _) (kbd _)⟩
    · by_cases h3 : (ρ 1).toInt < 2
      · exact ⟨_, kl_27_2, kRg6 (kbd _) (by omega) (kbd _) (kbd _) (kbd _) (kbd _)⟩
      · exact ⟨_, kl_27_3, kRg6 (kbd _) (by omega) (kbd _) (kbd _) (kbd _) (kbd _)⟩
theorem kc_28 : kCase 28 := by
  intro ρ
  have b1 := kbd (ρ 1)
  have b2 := kbd (ρ 2)
  have b3 := kbd (ρ 3)
  exact ⟨_, kl_28_0, kRg6 (kbd _) (kbd _) (kbd _) (kbd _) (kbd _) (kbd _)⟩
theorem kc_29 : kCase 29 := by
  intro ρ
  have b1 := kbd (ρ 1)
  have b2 := kbd (ρ 2)
  have b3 := kbd (ρ 3)
  by_cases h1 : (ρ 1).toInt < 0
  · exact ⟨_, kl_29_0, kRg6 (kbd _) (by omega) (kbd _) (kbd _) (kbd _) (kbd _)⟩
  · exact ⟨_, kl_29_1, kRg6 (kbd _) (by omega) (kbd _) (kbd _) (kbd _) (kbd _)⟩
theorem kc_30 : kCase 30 := by
  intro ρ
  have b1 := kbd (ρ 1)
  have b2 := kbd (ρ 2)
  have b3 := kbd (ρ 3)
  by_cases h1 : (ρ 1).toInt < 0
  · exact ⟨_, kl_30_0, kRg6 (kbd _) (by omega) (kbd _) (kbd _) (kbd _) (kbd _)⟩
  · exact ⟨_, kl_30_1, kRg6 (kbd _) (by omega) (kbd _) (kbd _) (kbd _) (kbd _)⟩
theorem kc_31 : kCase 31 := by
  intro ρ
  have b1 := kbd (ρ 1)
  have b2 := kbd (ρ 2)
  have b3 := kbd (ρ 3)
  by_cases h1 : (ρ 1).toInt < 1
  · exact ⟨_, kl_31_0, kRg6 (kbd _) (by omega) (kbd _) (kbd _) (kbd _) (kbd _)⟩
  · by_cases h2 : (ρ 1).toInt < 61
    · exact ⟨_, kl_31_1, kRg6 (kbd _) (by omega) (kbd _) (kbd _) (kbd _) (kbd _)⟩
    · exact ⟨_, kl_31_2, kRg6 (kbd _) (by omega) (kbd _) (kbd _) (kbd _) (kbd _)⟩
theorem kc_32 : kCase 32 := by
  intro ρ
  have b1 := kbd (ρ 1)
  have b2 := kbd (ρ 2)
  have b3 := kbd (ρ 3)
  by_cases h1 : (ρ 1).toInt < 0
  · exact ⟨_, kl_32_0, kRg6 (kbd _) (by omega) (kbd _) (kbd _) (kbd _) (kbd _)⟩
  · exact ⟨_, kl_32_1, kRg6 (kbd _) (by omega) (kbd _) (kbd _) (kbd _) (kbd _)⟩
theorem kc_33 : kCase 33 := by
  intro ρ
  have b1 := kbd (ρ 1)
  have b2 := kbd (ρ 2)
  have b3 := kbd (ρ 3)
  by_cases h1 : (ρ 1).toInt < 0
  · exact ⟨_, kl_33_0, kRg6 (kbd _) (by omega) (kbd _) (kbd _) (kbd _) (kbd _)⟩
  · by_cases h2 : (ρ 1).toInt < 1
    · exact ⟨_, kl_33_1, kRg6 (kbd _) (by omega) (kbd _) (kbd _) (kbd _) (kbd _)⟩
    · by_cases h3 : (ρ 1).toInt < 2
      · exact ⟨_, kl_33_2, kRg6 (kbd _) (by omega) (kbd _) (kbd _) (kbd _) (kbd _)⟩
      · exact ⟨_, kl_33_3, kRg6 (kbd _) (by omega) (kbd _) (kbd _) (kbd _) (kbd _)⟩
theorem kc_34 : kCase 34 := by
  intro ρ
  have b1 := kbd (ρ 1)
  have b2 := kbd (ρ 2)
  have b3 := kbd (ρ 3)
  exact ⟨_, kl_34_0, kRg6 (kbd _) (kbd _) (kbd _) (kbd _) (kbd _) (kbd _)⟩
theorem kc_35 : kCase 35 := by
  intro ρ
  have b1 := kbd (ρ 1)
  have b2 := kbd (ρ 2)
  have b3 := kbd (ρ 3)
  exact ⟨_, kl_35_0, kRg6 (kbd _) (kbd _) (kbd _) (kbd _) (kbd _) (kbd _)⟩
theorem kc_36 : kCase 36 := by
  intro ρ
  have b1 := kbd (ρ 1)
  have b2 := kbd (ρ 2)
  have b3 := kbd (ρ 3)
  exact ⟨_, kl_36_0, kRg6 (kbd _) (kbd _) (kbd _) (kbd _) (kbd _) (kbd _)⟩
theorem kc_37 : kCase 37 := by
  intro ρ
  have b1 := kbd (ρ 1)
  have b2 := kbd (ρ 2)
  have b3 := kbd (ρ 3)
  by_cases h1 : (ρ 1).toInt < 0
  · exact ⟨_, kl_37_0, kRg6 (kbd _) (by omega) (kbd _) (kbd _) (kbd _) (kbd _)⟩
  · by_cases h2 : (ρ 1).toInt < 2
    · by_cases h3 : (ρ 1).toInt < 1
      · exact ⟨_, kl_37_1, kRg6 (kbd _) (by omega) (kbd _) (kbd _) (kbd _) (kbd _)⟩
      · exact ⟨_, kl_37_2, kRg6 (kbd _) (by omega) (kbd _) (kbd _) (kbd _) (kbd _)⟩
    · exact ⟨_, kl_37_3, kRg6 (kbd _) (by omega) (kbd _) (kbd _) (kbd _) (kbd _)⟩
theorem kc_38 : kCase 38 := by
  intro ρ
  have b1 := kbd (ρ 1)
  have b2 := kbd (ρ 2)
  have b3 := kbd (ρ 3)
  by_cases h1 : (ρ 1).toInt < 0
  · exact ⟨_, kl_38_0, kRg6 (kbd _) (by omega) (kbd _) (kbd _) (kbd _) (kbd _)⟩
  · by_cases h2 : (ρ 1).toInt < 2
    · by_cases h3 : (ρ 1).toInt < 1
      · exact ⟨_, kl_38_1, kRg6 (kbd _) (by omega) (kbd _) (kbd _) (kbd _) (kbd _)⟩
      · exact ⟨_, kl_38_2, kRg6 (kbd _) (by omega) (kbd _) (kbd _) (kbd _) (kbd _)⟩
    · exact ⟨_, kl_38_3, kRg6 (kbd _) (by omega) (kbd _) (kbd _) (kbd _) (kbd _)⟩
theorem kc_39 : kCase 39 := by
  intro ρ
  have b1 := kbd (ρ 1)
  have b2 := kbd (ρ 2)
  have b3 := kbd (ρ 3)
  by_cases h1 : (ρ 1).toInt < 0
  · exact ⟨_, kl_39_0, kRg6 (kbd _) (by omega) (kbd _) (kbd _) (kbd _) (kbd _)⟩
  · by_cases h2 : (ρ 1).toInt < 1
    · exact ⟨_, kl_39_1, kRg6 (kbd _) (by omega) (kbd _) (kbd _) (kbd _) (kbd _)⟩
    · by_cases h3 : (ρ 1).toInt < 2
      · exact ⟨_, kl_39_2, kRg6 (kbd _) (by omega) (kbd _) (kbd _) (kbd _) (kbd _)⟩
      · by_cases h4 : (ρ 1).toInt < 3
        · exact ⟨_, kl_39_3, kRg6 (kbd _) (by omega) (kbd _) (kbd _) (kbd _) (kbd _)⟩
        · by_cases h5 : (ρ 1).toInt < 4
          · exact ⟨_, kl_39_4, kRg6 (kbd _) (by omega) (kbd _) (kbd _) (kbd _) (kbd _)⟩
          · exact ⟨_, kl_39_5, kRg6 (kbd _) (by omega) (kbd _) (kbd _) (kbd _) (kbd _)⟩
theorem kc_40 : kCase 40 := by
  intro ρ
  have b1 := kbd (ρ 1)
  have b2 := kbd (ρ 2)
  have b3 := kbd (ρ 3)
  exact ⟨_, kl_40_0, kRg6 (kbd _) (kbd _) (kbd _) (kbd _) (kbd _) (kbd _)⟩
theorem kc_41 : kCase 41 := by
  intro ρ
  have b1 := kbd (ρ 1)
  have b2 := kbd (ρ 2)
  have b3 := kbd (ρ 3)
  exact ⟨_, kl_41_0, kRg6 (kbd _) (kbd _) (kbd _) (kbd _) (kbd _) (kbd _)⟩
theorem kc_42 : kCase 42 := by
  intro ρ
  have b1 := kbd (ρ 1)
  have b2 := kbd (ρ 2)
  have b3 := kbd (ρ 3)
  exact ⟨_, kl_42_0, kRg6 (kbd _) (kbd _) (kbd _) (kbd _) (kbd _) (kbd _)⟩
theorem kc_43 : kCase 43 := by
  intro ρ
  have b1 := kbd (ρ 1)
  have b2 := kbd (ρ 2)
  have b3 := kbd (ρ 3)
  exact ⟨_, kl_43_0, kRg6 (kbd _) (kbd _) (kbd _) (kbd _) (kbd _) (kbd _)⟩
theorem kc_44 : kCase 44 := by
  intro ρ
  have b1 := kbd (ρ 1)
  have b2 := kbd (ρ 2)
  have b3 := kbd (ρ 3)
  exact ⟨_, kl_44_0, kRg6 (kbd _) (kbd _) (kbd _) (kbd _) (kbd _) (kbd _)⟩
theorem kc_45 : kCase 45 := by
  intro ρ
  have b1 := kbd (ρ 1)
  have b2 := kbd (ρ 2)
  have b3 := kbd (ρ 3)
  exact ⟨_, kl_45_0, kRg6 (kbd _) (kbd _) (kbd _) (kbd _) (kbd _) (kbd _)⟩
theorem kc_46 : kCase 46 := by
  intro ρ
  have b1 := kbd (ρ 1)
  have b2 := kbd (ρ 2)
  have b3 := kbd (ρ 3)
  exact ⟨_, kl_46_0, kRg6 (kbd _) (kbd _) (kbd _) (kbd _) (kbd _) (kbd _)⟩
theorem kc_47 : kCase 47 := by
  intro ρ
  have b1 := kbd (ρ 1)
  have b2 := kbd (ρ 2)
  have b3 := kbd (ρ 3)
  exact ⟨_, kl_47_0, kRg6 (kbd _) (kbd _) (kbd _) (kbd _) (kbd _) (kbd _)⟩
theorem kc_48 : kCase 48 := by
  intro ρ
  have b1 := kbd (ρ 1)
  have b2 := kbd (ρ 2)
  have b3 := kbd (ρ 3)
  exact ⟨_, kl_48_0, kRg6 (kbd _) (kbd _) (kbd _) (kbd _) (kbd _) (kbd _)⟩
theorem kc_49 : kCase 49 := by
  intro ρ
  have b1 := kbd (ρ 1)
  have b2 := kbd (ρ 2)
  have b3 := kbd (ρ 3)
  exact ⟨_, kl_49_0, kRg6 (kbd _) (kbd _) (kbd _) (kbd _) (kbd _) (kbd _)⟩
theorem kc_50 : kCase 50 := by
  intro ρ
  have b1 := kbd (ρ 1)
  have b2 := kbd (ρ 2)
  have b3 := kbd (ρ 3)
  exact ⟨_, kl_50_0, kRg6 (kbd _) (kbd _) (kbd _) (kbd _) (kbd _) (kbd _)⟩
theorem kc_51 : kCase 51 := by
  intro ρ
  have b1 := kbd (ρ 1)
  have b2 := kbd (ρ 2)
  have b3 := kbd (ρ 3)
  exact ⟨_, kl_51_0, kRg6 (kbd _) (kbd _) (kbd _) (kbd _) (kbd _) (kbd _)⟩
theorem kc_52 : kCase 52 := by
  intro ρ
  have b1 := kbd (ρ 1)
  have b2 := kbd (ρ 2)
  have b3 := kbd (ρ 3)
  exact ⟨_, kl_52_0, kRg6 (kbd _) (kbd _) (kbd _) (kbd _) (kbd _) (kbd _)⟩
theorem kc_53 : kCase 53 := by
  intro ρ
  have b1 := kbd (ρ 1)
  have b2 := kbd (ρ 2)
  have b3 := kbd (ρ 3)
  exact ⟨_, kl_53_0, kRg6 (kbd _) (kbd _) (kbd _) (kbd _) (kbd _) (kbd _)⟩
theorem kc_54 : kCase 54 := by
  intro ρ
  have b1 := kbd (ρ 1)
  have b2 := kbd (ρ 2)
  have b3 := kbd (ρ 3)
  exact ⟨_, kl_54_0, kRg6 (kbd _) (kbd _) (kbd _) (kbd _) (kbd _) (kbd _)⟩
theorem kc_55 : kCase 55 := by
  intro ρ
  have b1 := kbd (ρ 1)
  have b2 := kbd (ρ 2)
  have b3 := kbd (ρ 3)
  exact ⟨_, kl_55_0, kRg6 (kbd _) (kbd _) (kbd _) (kbd _) (kbd _) (kbd _)⟩
theorem kc_56 : kCase 56 := by
  intro ρ
  have b1 := kbd (ρ 1)
  have b2 := kbd (ρ 2)
  have b3 := kbd (ρ 3)
  exact ⟨_, kl_56_0, kRg6 (kbd _) (kbd _) (kbd _) (kbd _) (kbd _) (kbd _)⟩
theorem kc_57 : kCase 57 := by
  intro ρ
  have b1 := kbd (ρ 1)
  have b2 := kbd (ρ 2)
  have b3 := kbd (ρ 3)
  exact ⟨_, kl_57_0, kRg6 (kbd _) (kbd _) (kbd _) (kbd _) (kbd _) (kbd _)⟩
theorem kc_58 : kCase 58 := by
  intro ρ
  have b1 := kbd (ρ 1)
  have b2 := kbd (ρ 2)
  have b3 := kbd (ρ 3)
  exact ⟨_, kl_58_0, kRg6 (kbd _) (kbd _) (kbd _) (kbd _) (kbd _) (kbd _)⟩
theorem kc_59 : kCase 59 := by
  intro ρ
  have b1 := kbd (ρ 1)
  have b2 := kbd (ρ 2)
  have b3 := kbd (ρ 3)
  exact ⟨_, kl_59_0, kRg6 (kbd _) (kbd _) (kbd _) (kbd _) (kbd _) (kbd _)⟩
theorem kc_60 : kCase 60 := by
  intro ρ
  have b1 := kbd (ρ 1)
  have b2 := kbd (ρ 2)
  have b3 := kbd (ρ 3)
  exact ⟨_, kl_60_0, kRg6 (kbd _) (kbd _) (kbd _) (kbd _) (kbd _) (kbd _)⟩
theorem kc_61 : kCase 61 := by
  intro ρ
  have b1 := kbd (ρ 1)
  have b2 := kbd (ρ 2)
  have b3 := kbd (ρ 3)
  exact ⟨_, kl_61_0, kRg6 (kbd _) (kbd _) (kbd _) (kbd _) (kbd _) (kbd _)⟩
theorem kc_62 : kCase 62 := by
  intro ρ
  have b1 := kbd (ρ 1)
  have b2 := kbd (ρ 2)
  have b3 := kbd (ρ 3)
  exact ⟨_, kl_62_0, kRg6 (kbd _) (kbd _) (kbd _) (kbd _) (kbd _) (kbd _)⟩
theorem kc_63 : kCase 63 := by
  intro ρ
  have b1 := kbd (ρ 1)
  have b2 := kbd (ρ 2)
  have b3 := kbd (ρ 3)
  exact ⟨_, kl_63_0, kRg6 (kbd _) (kbd _) (kbd _) (kbd _) (kbd _) (kbd _)⟩
end
section
/-! THE CLAIM OUT OF ONE WALK OF THE LAW'S BODY. Your part is whole_start (and what it stands on); all else here is the same for every law, but numbers. -/
def R_law : String := "TriplicateFormsLaw"
def lw_P (b : Addr) (xs : List Int32) (args : Array Value) (s : State) : Prop := args = #[.ref b] ∧ s.IntsAt b xs ∧ xs.length ≤ 6 ∧ (Jvm.Cond.and given_1 narrow_1).before args s = true
def lw_Q (_ : Array Value) (s : State) (o : Outcome) (t : State) : Prop := o = .returned (some (.int 1)) ∧ Framed s o t [] 600002 7302232
def lw_Z (below : List Frame) (a : Array Value) (s : State) : State → Prop := fun t => ∃ o, t.status = .running ∧ Ended t below o ∧ lw_Q a s o t
/-- the law's own end, with 1 on the stack, nothing written that was there before, its room as the claim has it -/
theorem lw_ret {p : Program} {l : Launch} {e : Env} {s : State} {m : MethodId} {below : List Frame} {meth : Method} {c : Code} {b : Nat} (hx : p.tables.exec = Jvm.exec) (hb : c.code = code) (hr : meth.sig.returnType = ret) (hlocks : meth.locks = false) {pc : Nat} {H : Heap} {ls : Array Slot} (hdg : decode code pc = .ok (.ireturn, 1)) : W p l e room_1 s m #[Value.ref b] below meth c H [] 600002 7302232 (lw_Z below #[Value.ref b] s) (F0 m pc ls [.int 1]) := by
  intro T hT X
  obtain ⟨fs, hret, hrun, hended, hW, hframe⟩ := X.leave (v := some (.int 1)) (hlocks := hlocks) (fun h => by rw [hr] at h; cases h)
  have hmeth' : T.vm.method? m = some meth := X.method'
  refine ⟨T.setFrames fs, ?_, .returned (some (.int 1)), hrun, hended, rfl, ⟨_, rfl⟩, hW, hframe⟩
  jvm_step X.here [X.here.top, hx, hb, hdg, hmeth', hr, ret, narrow_b1]
  (try refine ⟨rfl, ?_⟩); (try refine ⟨rfl, ?_⟩)
  first | (intro acts; rw [hret _ acts rfl rfl rfl]) | rw [hret _ _ rfl rfl rfl]
  exact Steps.refl _
/-- what holds at the law's entry: the machine, the code, the tables' words (any of lw_tbl by 'hts w (by decide +kernel)'), the script of L ints xs at the cell b, what the Statement gives of the start (any of its parts by flat_of_before) -/
def lw_At (p : Program) (s : State) (m : MethodId) (meth : Method) (c : Code) (b L : Nat) (xs : Nat → Int32) : Prop :=
  p.tables.exec = Jvm.exec ∧ c.code = code ∧ meth.sig.returnType = ret ∧ c.maxLocals = 7 ∧ s.vm.findClass R_law = some m.cls ∧ (∀ w ∈ lw_tbl, w.before #[Value.ref b] s = true) ∧ va_X b L xs s s.heap ∧ b < s.heap.size ∧ meth.locks = false ∧ (Jvm.Cond.and given_1 narrow_1).before #[Value.ref b] s = true
end
section
theorem LT_hts {args : Array Value} {s : State} (h : ∀ w ∈ lw_tbl, w.before args s = true) : ∀ w ∈ LT, w.before args s = true := fun w hw => h w (LT_tbl hw)
theorem kPrim {args : Array Value} {s : State} {ty : FieldType} (h : (Cond.arrayClass ty).before args s = true) (hp : ∀ C, ty ≠ .object C) : ∃ cA : ClassId, ArrOfT s cA ty ∧ va_RA s cA ty := by
  obtain ⟨c, k, comp, h1, h2, h3⟩ := Cond.arrayClass_spec h
  refine ⟨c, fun n z => ⟨fun k h => (by cases h), k, h2, comp, h3⟩, ?_⟩
  cases ty with
  | object C => exact absurd rfl (hp C)
  | _ => exact h1
theorem kRefs {args : Array Value} {s : State} {C : String} (h : (Cond.arrayOver (.object C)).before args s = true) : ∃ cA : ClassId, ArrOfT s cA (.object C) ∧ va_RA s cA (.object C) := by
  obtain ⟨comp, c, k, h1, -, h3, h4, h5⟩ := Cond.arrayOver_spec h
  exact ⟨c, fun n z => ⟨fun k h => (by cases h), k, h3, comp, h4⟩, k, comp, h3, h4, h1, h5⟩
set_option maxRecDepth 100000 in
theorem kInst : ∀ (ci : Nat) (q : vw_C), kCl[ci]? = some q → Cond.instantiable q.1 q.2.2 ∈ lw_tbl := by
  intro ci q h
  match ci, h with
  | 0, h => cases h; exact List.mem_of_getElem? (i := 367) (by decide +kernel)
  | 1, h => cases h; exact List.mem_of_getElem? (i := 400) (by decide +kernel)
  | 2, h => cases h; exact List.mem_of_getElem? (i := 460) (by decide +kernel)
  | 3, h => cases h; exact List.mem_of_getElem? (i := 341) (by decide +kernel)
  | 4, h => cases h; exact List.mem_of_getElem? (i := 221) (by decide +kernel)
  | 5, h => cases h; exact List.mem_of_getElem? (i := 435) (by decide +kernel)
  | 6, h => cases h; exact List.mem_of_getElem? (i := 385) (by decide +kernel)
  | 7, h => cases h; exact List.mem_of_getElem? (i := 268) (by decide +kernel)
  | 8, h => cases h; exact List.mem_of_getElem? (i := 170) (by decide +kernel)
  | 9, h => cases h; exact List.mem_of_getElem? (i := 320) (by decide +kernel)
  | 10, h => cases h; exact List.mem_of_getElem? (i := 162) (by decide +kernel)
  | 11, h => cases h; exact List.mem_of_getElem? (i := 1466) (by decide +kernel)
  | n + 12, h => simp [kCl] at h
set_option maxRecDepth 100000 in
theorem kStatW : ∀ z ∈ kStats, Cond.laysStatic z.1 z.2.1 z.2.2 ∈ lw_tbl ∧ z.1 = "TriplicateForms$Word" := by
  have h : kStats.map (fun z => some (Cond.laysStatic z.1 z.2.1 z.2.2)) = ([1255, 1257, 1270, 1272, 1274, 1276, 1278, 1280, 1262, 1264, 1266, 1268] : List Nat).map (fun i => lw_tbl[i]?) := by decide +kernel
  have h2 : ∀ z ∈ kStats, z.1 = "TriplicateForms$Word" := by decide +kernel
  intro q hq
  have h1 : some (Cond.laysStatic q.1 q.2.1 q.2.2) ∈ ([1255, 1257, 1270, 1272, 1274, 1276, 1278, 1280, 1262, 1264, 1266, 1268] : List Nat).map (fun i => lw_tbl[i]?) := by rw [← h]; exact List.mem_map.mpr ⟨q, hq, rfl⟩
  obtain ⟨i, -, hi⟩ := List.mem_map.mp h1
  exact ⟨List.mem_of_getElem? hi, h2 q hq⟩
set_option maxRecDepth 100000 in
theorem kStatX {args : Array Value} {s : State} (h : (Jvm.Cond.and given_1 narrow_1).before args s = true) : ∀ z ∈ kStats, (Cond.exactly (.static z.1 z.2.1 z.2.2) "TriplicateForms$Word").before args s = true := by
  have hs := flat_of_before _ h
  intro z hz
  refine hs _ ?_
  revert z
  decide +kernel
set_option maxRecDepth 100000 in
theorem kWordsL : ∀ w ∈ ([.arrayClass .int, .arrayClass .long, .arrayClass .byte, .arrayClass .char, .arrayClass .boolean, .arrayOver (.object "TriplicateForms$Standing"), .arrayOver (.object "TriplicateForms$Image"), .initialized "TriplicateForms$Word"] : List Cond), w ∈ lw_tbl := by
  have h : ([.arrayClass .int, .arrayClass .long, .arrayClass .byte, .arrayClass .char, .arrayClass .boolean, .arrayOver (.object "TriplicateForms$Standing"), .arrayOver (.object "TriplicateForms$Image"), .initialized "TriplicateForms$Word"] : List Cond).map some = ([266, 265, 219, 398, 1621, 326, 339, 149] : List Nat).map (fun i => lw_tbl[i]?) := by decide +kernel
  intro w hw
  have h1 : some w ∈ ([266, 265, 219, 398, 1621, 326, 339, 149] : List Nat).map (fun i => lw_tbl[i]?) := by rw [← h]; exact List.mem_map.mpr ⟨w, hw, rfl⟩
  obtain ⟨i, -, hi⟩ := List.mem_map.mp h1
  exact List.mem_of_getElem? hi
/-- the law's frame, as the small machine wants it -/
theorem law_fix {p : Program} {s : State} {m : MethodId} {meth : Method} {c : Code} {b L : Nat} {xs : Nat → Int32} (C0 : lw_At p s m meth c b L xs) : ∃ (D : va_G) (dA : Nat → ClassId) (ad0 : Nat → Nat), ad0 1000000 = b ∧ kFix p s m #[Value.ref b] meth c code 7 "TriplicateFormsLaw" "law" D dA (fun q => s.heap.size ≤ q) kStats ad0 := by
  obtain ⟨hx, hb, hr, hml, hown, hts, hX, hbl, hlocks, hgv⟩ := C0
  have hwl := fun w hw => hts w (kWordsL w hw)
  have hall : ∀ k : Nat, ∃ (cC : ClassId) (iS : Nat → Nat), ∀ q : vw_C, kCl[k]? = some q → u_Kn s q.1 q.2.1 q.2.2 cC iS := by
    intro k
    cases hk : kCl[k]? with
    | none => exact ⟨0, fun _ => 0, fun q h => by cases h⟩
    | some q =>
      obtain ⟨cC, iS, h⟩ := u_known (C := q.1) (T := q.2.1) (N := q.2.2) (n := q.2.2) hts (fun w hw => LT_tbl ((kCl_ok k q hk).1 w hw)) (hts _ (kInst k q hk))
      exact ⟨cC, iS, fun q' h' => by cases h'; exact h⟩
  obtain ⟨dC, hC⟩ := Classical.axiomOfChoice hall
  obtain ⟨dI, hI⟩ := Classical.axiomOfChoice hC
  obtain ⟨a0, q0⟩ := kPrim (ty := .int) (hwl (.arrayClass .int) (by simp)) (fun C h => by cases h)
  obtain ⟨a1, q1⟩ := kPrim (ty := .long) (hwl (.arrayClass .long) (by simp)) (fun C h => by cases h)
  obtain ⟨a2, q2⟩ := kPrim (ty := .byte) (hwl (.arrayClass .byte) (by simp)) (fun C h => by cases h)
  obtain ⟨a3, q3⟩ := kPrim (ty := .char) (hwl (.arrayClass .char) (by simp)) (fun C h => by cases h)
  obtain ⟨a4, q4⟩ := kPrim (ty := .boolean) (hwl (.arrayClass .boolean) (by simp)) (fun C h => by cases h)
  obtain ⟨a5, q5⟩ := kRefs (C := "TriplicateForms$Standing") (hwl (.arrayOver (.object "TriplicateForms$Standing")) (by simp))
  obtain ⟨a6, q6⟩ := kRefs (C := "TriplicateForms$Image") (hwl (.arrayOver (.object "TriplicateForms$Image")) (by simp))
  have hst : ∀ i : Nat, ∃ t : Nat, ∀ z, kStats[i]? = some z → (Term.static z.1 z.2.1 z.2.2).eval #[Value.ref b] s none [] s = some (.ref t) := by
    intro i
    cases hi : kStats[i]? with
    | none => exact ⟨0, fun z h => by cases h⟩
    | some z =>
      obtain ⟨a, c2, cell, k, r1, -⟩ := Cond.exactly_spec (kStatX hgv z (List.mem_of_getElem? hi))
      exact ⟨a, fun z' h' => by cases h'; exact r1⟩
  obtain ⟨tt, htt⟩ := Classical.axiomOfChoice hst
  refine ⟨(dC, dI), fun t => [a0, a1, a2, a3, a4, a5, a6].getD t 0, fun j => if j = 1000000 then b else tt (j - 1000001), if_pos rfl, hx, hb, hml, hown, LT_hts hts, ⟨fun k q hq => hI k q hq, ?_⟩, fun q h => h, fun h => absurd h (by decide), fun i z hz => ?_, fun q hq => va_Nw.of rfl (hts _ (kNW_ok q hq)), va_AO.of (hwl (.arrayOver (.object "TriplicateForms$Standing")) (by simp)), va_AO.of (hwl (.arrayOver (.object "TriplicateForms$Image")) (by simp))⟩
  · intro k q hk
    match k, hk with
    | 0, hk => cases hk; exact q0
    | 1, hk => cases hk; exact q1
    | 2, hk => cases hk; exact q2
    | 3, hk => cases hk; exact q3
    | 4, hk => cases hk; exact q4
    | 5, hk => cases hk; exact q5
    | 6, hk => cases hk; exact q6
    | n + 7, hk => simp [kTyL] at hk
  · have hm := List.mem_of_getElem? hz
    obtain ⟨h1, h2⟩ := kStatW z hm
    have e1 : (if 1000001 + i = 1000000 then b else tt (1000001 + i - 1000001)) = tt i := by
      rw [if_neg (by omega), Nat.add_sub_cancel_left]
    show va_Z z.1 z.2.1 z.2.2 (.ref (if 1000001 + i = 1000000 then b else tt (1000001 + i - 1000001))) _ s s.heap
    rw [e1]
    exact va_Zref (hts _ h1) (by rw [h2]; exact hwl (.initialized "TriplicateForms$Word") (by simp)) (htt i z hz) (fun a ha => Nat.not_le.mpr ha)
/-- where the law's run ends -/
theorem law_end {p : Program} {l : Launch} {e : Env} {s : State} {m : MethodId} {below : List Frame} {meth : Method} {c : Code} {b L : Nat} {xs : Nat → Int32} (C0 : lw_At p s m meth c b L xs) {D : va_G} {dA : Nat → ClassId} {ad0 : Nat → Nat} {ρ : Nat → Int32} {ig : Instr} {k : KF} (hm : ∃ x, (k.1, ig, x) ∈ kPL) (h : kFin (some (ig, k)) = true) : kGo p l e room_1 s m #[Value.ref b] below meth c (lw_Z below #[Value.ref b] s) D dA ρ (fun q => s.heap.size ≤ q) 7 ad0 0 k := by
  obtain ⟨hx, hb, hr, hml, hown, hts, hX, hbl, hlocks, hgv⟩ := C0
  obtain ⟨x, hm⟩ := hm
  obtain ⟨len, hd, hlen⟩ := kdec_ok (kPL_ok _ hm).1
  obtain ⟨pc, lo, st, w, c1, s1⟩ := k
  unfold kFin at h
  simp only [Bool.and_eq_true] at h
  obtain ⟨h1, h2, h3⟩ := h
  split at h1
  · split at h1
    · rename_i v
      have e := of_decide_eq_true h1
      subst e
      rcases hlen with q | q
      · exact absurd q (Nat.succ_ne_zero _)
      · subst q
        intro ad H locs ls hat
        refine va_forget (fun q hq => hat.2.2.2.1.2.2 q hq) ?_
        refine W.widen (k := 600002) (n := 7302232) (Nat.ble_eq.mp h2) (Nat.ble_eq.mp h3) ?_
        exact lw_ret hx hb hr hlocks hd
    · cases h1
  · cases h1
section LAWRUN
variable {p : Program} {l : Launch} {e : Env} {s : State} {m : MethodId} {below : List Frame} {meth : Method} {c : Code} {b L : Nat} {xs : Nat → Int32} {D : va_G} {dA : Nat → ClassId} {ad0 : Nat → Nat} {ρ : Nat → Int32}
abbrev lGo (p : Program) (l : Launch) (e : Env) (s : State) (m : MethodId) (b : Nat) (below : List Frame) (meth : Method) (c : Code) (D : va_G) (dA : Nat → ClassId) (ρ : Nat → Int32) (ad0 : Nat → Nat) (k : KF) : Prop := kGo p l e room_1 s m #[Value.ref b] below meth c (lw_Z below #[Value.ref b] s) D dA ρ (fun q => s.heap.size ≤ q) 7 ad0 0 k
theorem law_run (C0 : lw_At p s m meth c b L xs) (F : kFix p s m #[Value.ref b] meth c code 7 "TriplicateFormsLaw" "law" D dA (fun q => s.heap.size ≤ q) kStats ad0) (hb0 : ad0 1000000 = b) {rg : List (Int × Int)} {ks : Option Int32} {L' : Nat} {cur : List KEnt} (hcur : ∀ x ∈ cur, x ∈ kPL) (hr : kRg rg ρ) (hks : ∀ v, ks = some v → ρ 0 &&& 63 = v) (hL : L' = L + 1) (hρ : ∀ j, j < L → ρ j = xs j) {k : KF} (h : kFin (krun (kcall kmeths rg ks 12) rg ks L' 7 kRc kRs kPL kfuel cur k) = true) : lGo p l e s m b below meth c D dA ρ ad0 k := by
  cases hk : krun (kcall kmeths rg ks 12) rg ks L' 7 kRc kRs kPL kfuel cur k with
  | none => rw [hk] at h; cases h
  | some r =>
    obtain ⟨ig, k'⟩ := r
    rw [hk] at h
    obtain ⟨h1, h2, h3⟩ := k_run (p := p) (l := l) (e := e) (R := room_1) (below := below) (n0 := 0) (Q := lw_Z below #[Value.ref b] s) F hr hks (L := L') (fun _ => ⟨b, xs, by subst hL; exact C0.2.2.2.2.2.2.1, C0.2.2.2.2.2.2.2.1, fun q => absurd C0.2.2.2.2.2.2.2.1 (Nat.not_lt.mpr q), hb0, by subst hL; exact hρ⟩) (k_met kOall hr hks 12) (Nat.le_refl _) (Nat.le_refl _) (Nat.le_of_ble_eq_true rfl) (Nat.le_of_ble_eq_true rfl) kPL_ok kfuel cur k ig k' hcur hk
    exact h3 (law_end C0 h1 h)
theorem law_prefix (C0 : lw_At p s m meth c b L xs) (F : kFix p s m #[Value.ref b] meth c code 7 "TriplicateFormsLaw" "law" D dA (fun q => s.heap.size ≤ q) kStats ad0) (hg : lGo p l e s m b below meth c D dA ρ ad0 kS1) : lGo p l e s m b below meth c D dA ρ ad0 kS0 :=
  k_goTo (p := p) (l := l) (e := e) (R := room_1) (below := below) (n0 := 0) (rg := []) (ks := none) (L := 0) (Q := lw_Z below #[Value.ref b] s) F (fun i lo hi h => by simp at h) (fun v h => by cases h) (fun q => absurd q (Nat.lt_irrefl 0)) (k_met kOall (fun i lo hi h => by simp at h) (fun v h => by cases h) 12) (Nat.le_refl _) (Nat.le_refl _) (Nat.le_of_ble_eq_true rfl) (Nat.le_of_ble_eq_true rfl) kPL_ok kfuel kS0 kS1 (keO_ok kprefix) hg
end LAWRUN
theorem kCases : ∀ j : Nat, j < 64 → ¬ (j = 4 ∨ j = 5) → kCase j := by
  intro j hj h4
  match j, hj, h4 with
  | 0, _, _ => exact kc_0
  | 1, _, _ => exact kc_1
  | 2, _, _ => exact kc_2
  | 3, _, _ => exact kc_3
  | 4, _, h4 => exact absurd (Or.inl rfl) h4
  | 5, _, h4 => exact absurd (Or.inr rfl) h4
  | 6, _, _ => exact kc_6
  | 7, _, _ => exact kc_7
  | 8, _, _ => exact kc_8
  | 9, _, _ => exact kc_9
  | 10, _, _ => exact kc_10
  | 11, _, _ => exact kc_11
  | 12, _, _ => exact kc_12
  | 13, _, _ => exact kc_13
  | 14, _, _ => exact kc_14
  | 15, _, _ => exact kc_15
  | 16, _, _ => exact kc_16
  | 17, _, _ => exact kc_17
  | 18, _, _ => exact kc_18
  | 19, _, _ => exact kc_19
  | 20, _, _ => exact kc_20
  | 21, _, _ => exact kc_21
  | 22, _, _ => exact kc_22
  | 23, _, _ => exact kc_23
  | 24, _, _ => exact kc_24
  | 25, _, _ => exact kc_25
  | 26, _, _ => exact kc_26
  | 27, _, _ => exact kc_27
  | 28, _, _ => exact kc_28
  | 29, _, _ => exact kc_29
  | 30, _, _ => exact kc_30
  | 31, _, _ => exact kc_31
  | 32, _, _ => exact kc_32
  | 33, _, _ => exact kc_33
  | 34, _, _ => exact kc_34
  | 35, _, _ => exact kc_35
  | 36, _, _ => exact kc_36
  | 37, _, _ => exact kc_37
  | 38, _, _ => exact kc_38
  | 39, _, _ => exact kc_39
  | 40, _, _ => exact kc_40
  | 41, _, _ => exact kc_41
  | 42, _, _ => exact kc_42
  | 43, _, _ => exact kc_43
  | 44, _, _ => exact kc_44
  | 45, _, _ => exact kc_45
  | 46, _, _ => exact kc_46
  | 47, _, _ => exact kc_47
  | 48, _, _ => exact kc_48
  | 49, _, _ => exact kc_49
  | 50, _, _ => exact kc_50
  | 51, _, _ => exact kc_51
  | 52, _, _ => exact kc_52
  | 53, _, _ => exact kc_53
  | 54, _, _ => exact kc_54
  | 55, _, _ => exact kc_55
  | 56, _, _ => exact kc_56
  | 57, _, _ => exact kc_57
  | 58, _, _ => exact kc_58
  | 59, _, _ => exact kc_59
  | 60, _, _ => exact kc_60
  | 61, _, _ => exact kc_61
  | 62, _, _ => exact kc_62
  | 63, _, _ => exact kc_63
  | n + 64, hj, _ => omega
theorem law_short (j : Nat) (hj : j < 6) : kleafL (j + 1) = true := by
  match j, hj with
  | 0, _ => exact kshort0
  | 1, _ => exact kshort1
  | 2, _ => exact kshort2
  | 3, _ => exact kshort3
  | 4, _ => exact kshort4
  | 5, _ => exact kshort5
/-- the law's body from its entry, but the two calls that throw -/
theorem law_start_open {p : Program} {e : Env} {s : State} {m : MethodId} {below : List Frame} {meth : Method} {c : Code} (l : Launch) {b L : Nat} {xs : Nat → Int32} (hL : L ≤ 6) (C0 : lw_At p s m meth c b L xs)
    (hthrow : ∀ (D : va_G) (dA : Nat → ClassId) (ad0 : Nat → Nat), L = 6 → ad0 1000000 = b → kFix p s m #[Value.ref b] meth c code 7 "TriplicateFormsLaw" "law" D dA (fun q => s.heap.size ≤ q) kStats ad0 → (xs 0 &&& 63 = Int32.ofNat 4 ∨ xs 0 &&& 63 = Int32.ofNat 5) → lGo p l e s m b below meth c D dA xs ad0 kS1) :
    W p l e room_1 s m #[Value.ref b] below meth c s.heap [] 0 0 (lw_Z below #[Value.ref b] s) (entryFrame m ([Value.ref b] : List Value).toArray 7) := by
  obtain ⟨D, dA, ad0, hb0, F⟩ := law_fix C0
  have hl := lv_entry ([.ref b]) (n := 7) (Nat.le_of_ble_eq_true rfl)
  rw [lg_entry_eq]
  generalize (lg_sl ([.ref b]) ++ List.replicate (7 - (lg_sl ([.ref b])).length) Slot.unset).toArray = ls at hl ⊢
  have key : lGo p l e s m b below meth c D dA xs ad0 kS0 := by
    refine law_prefix C0 F ?_
    rcases Nat.lt_or_ge L 6 with h6 | h6
    · exact law_run C0 F hb0 (rg := []) (ks := none) (cur := []) (fun x hx => by cases hx) (fun i lo hi h => by simp at h) (fun v h => by cases h) rfl (fun _ _ => rfl) (law_short L h6)
    · have hL6 : L = 6 := by omega
      subst hL6
      obtain ⟨j, hj, hv⟩ := pk_andE (xs 0) (m := 63) 6 (by decide)
      by_cases h4 : j = 4 ∨ j = 5
      · refine hthrow D dA ad0 rfl hb0 F ?_
        rcases h4 with q | q
        · subst q; exact Or.inl hv
        · subst q; exact Or.inr hv
      · obtain ⟨rg, h1, h2⟩ := kCases j hj h4 xs
        exact law_run C0 F hb0 (rg := rg) (ks := some (Int32.ofNat j)) (L' := 7) (cur := []) (fun x hx => by cases hx) h2 (fun v h => by cases h; exact hv) rfl (fun _ _ => rfl) h1
  have hl2 : lv_has ls 7 (kL ad0 xs [(0, .inl (.ref 1000000))]) := by
    have e1 : kL ad0 xs [(0, .inl (.ref 1000000))] = [(0, .ref b)] := by
      show [(0, Value.ref (ad0 1000000))] = _
      rw [hb0]
    rw [e1]
    exact hl
  exact key ad0 s.heap [] ls ⟨hl2, fun k q h => by simp [kS0, kW, kWf] at h, ⟨fun i j p q h => by simp [kS0, kW, kWf] at h, fun k q h => by simp [kS0, kW, kWf] at h⟩, va_S.rf, Nat.zero_le _, kExt.rf _ _⟩
end
section
/-! the throw of java.util.NoSuchElementException: its constructor links at entry 13, not 7: kx_ctor, kx_throwS follow proofs of the library and of the kit (BundleOwnThrow.lean: ctorThrowS; EXCEPTIONS: vx_throwS) with another first link -/
def kThir : ByteArray := ⟨#[0x2a, 0x2b, 0xb7, 0x00, 0x0d, 0xb1]⟩
theorem kThir_0 : decode kThir 0 = .ok (.aload_n 0, 1) := by decide +kernel
theorem kThir_1 : decode kThir 1 = .ok (.aload_n 1, 1) := by decide +kernel
theorem kThir_2 : decode kThir 2 = .ok (.invokespecial 13, 3) := by decide +kernel
theorem kThir_5 : decode kThir 5 = .ok (.return_, 1) := by decide +kernel
def kXat (own : String) (ic : Nat) (X Y : String) (r : List String) : List Cond :=
  Bundle.throwableAtoms ++ Bundle.throwableSAtoms ++ (Bundle.passSAtoms X Y 13 kThir ++ Bundle.chainSAtoms Y r) ++
  [.methodLink own ic (Bundle.initS X), .instantiable X 6, .castable X X, .selects X Bundle.tFill0 Bundle.tFill0, .selects X Bundle.tFill Bundle.tFill,
   .lays X Bundle.tN "cause" "Ljava/lang/Throwable;", .lays X Bundle.tN "stackTrace" Bundle.steD, .lays X Bundle.tN "suppressedExceptions" Bundle.listD, .lays X Bundle.tN "detailMessage" "Ljava/lang/String;",
   .isRef (.static Bundle.tN "UNASSIGNED_STACK" Bundle.steD), .isRef (.static Bundle.tN "SUPPRESSED_SENTINEL" Bundle.listD),
   .fieldLink Bundle.tN 198 Bundle.tN "backtrace" "Ljava/lang/Object;", .lays Bundle.tN Bundle.tN "backtrace" "Ljava/lang/Object;", .lays X Bundle.tN "backtrace" "Ljava/lang/Object;"]
section KXC
variable {p : Program} {l : Launch} {e : Env} {R : Room} {s : State} {m₀ : MethodId} {args : Array Value} {below : List Frame} {meth : Method} {c : Code} {W : State} {locs : List Loc} {cells slots : Nat}
set_option maxHeartbeats 4000000 in
theorem kx_ctor (X : Stand p l e R s m₀ args below meth c W locs cells slots) (hexec : p.tables.exec = Jvm.exec) (htr : e.platform.stackTraces = false) {own cls Y0 : String} {r0 : List String} {ic : Nat}
    (hown : s.vm.findClass own = some m₀.cls) (hcls : Bundle.fit cls = true) (hY0 : Bundle.fit Y0 = true) (hnames : ∀ n ∈ r0, Bundle.fit n = true)
    (h : ∀ a ∈ kXat own ic cls Y0 r0, a.before args s = true)
    (hlocs : ∀ x ∈ locs, ∀ cell, s.heap[x.base]? = some cell → cell.vm.isStatics = false)
    {a : Addr} {cX : ClassId} {kX : Class} (hfoundX : s.vm.findClass cls = some cX) (hkX : s.vm.classes[cX]? = some kX) (hcell : W.heap[a]? = some (freshCell cX kX)) (hnew : s.heap.size ≤ a)
    {msg : Value} (hmsg : msg.isRef = true)
    {g : JFrame} (hg : g.method = m₀) (hsize : g.locals.size = c.maxLocals) (hlocked : g.locked = none) (hentered : g.entered = []) {rest : List Value} (hstack : g.stack = msg :: .ref a :: .ref a :: rest)
    (hd6 : decode c.code g.pc = .ok (.invokespecial ic, 3)) (hd9 : decode c.code (g.pc + 3) = .ok (.athrow, 1)) (hout : ∀ x ∈ c.exceptionTable.toList, covers x (g.pc + 3) = false)
    (hRframes : (Y0 :: r0).length + 3 < R.frames) (hRlocals : 2 * g.monitorRoom + ((Value.ref a :: rest).map fun v => v.category).sum + (13 * ((Y0 :: r0).length + 1) + 42) ≤ R.locals) (hlocks : meth.locks = false := by first | assumption | exact BodyLoose.notSynchronized (by assumption) | exact Body.notSynchronized (by assumption)) :
    ∃ U : State, Steps p.tables e below (W.setTop g) U ∧ U.status = .running ∧ Ended U below (.threw a) ∧ s.WarmedH U.vm ∧ s.sameButNew ({ U with vm := s.vm } : State) locs cells slots ∧
      ∃ ce, U.heap[a]? = some ce ∧ s.vm.findClass cls = some ce.cls ∧ ce.vm = .none := by
  have howns : e.platform.frameOwnsMonitors = true := by rw [X.admits.platform]
  have hfin : e.platform.finalization = false := by rw [X.admits.platform]
  have hpl : e.platform.magicAccessors = ({} : Platform).magicAccessors := by rw [X.admits.platform]
  have a' : ∀ x, x ∈ kXat own ic cls Y0 r0 → x.holds args s none s [] = true := fun x hx => h x hx
  obtain ⟨T, Z0, L, -, Y⟩ := ThrowableC.of_atoms (args := args) howns hfin hpl (fun x hx => h x (by simp [kXat, hx]))
  obtain ⟨Z, M, LZ, LM, hnZ⟩ := Init0T.ofS_atoms (args := args) hpl L Y (fun x hx => h x (by simp [kXat, hx]))
  obtain ⟨P1, L1, hP1m, hs1⟩ := PassC.ofS_atoms (args := args) (s := s) hpl (X := cls) (Y := Y0) (Bundle.fit_spec hcls).1 (Bundle.fit_spec hY0).2 kThir_0 kThir_1 kThir_2 kThir_5 (fun x hx => h x (by simp [kXat, hx]))
  obtain ⟨P2, Ps2, hlen2, L2, hL2, hm2, hsup2, hpass2⟩ := Bundle.chainS (args := args) hpl hnZ r0 Y0 hY0 hnames (fun x hx => h x (by simp [kXat, hx]))
  obtain ⟨Ps, hPs⟩ : ∃ Ps, Ps = P2 :: Ps2 := ⟨_, rfl⟩
  have hlen : Ps.length = (Y0 :: r0).length := by rw [hPs, List.length_cons, List.length_cons, hlen2]
  have hL : ∀ P, P ∈ Ps → P.LinksS e.platform s := fun P hP => by
    rw [hPs] at hP
    rcases List.mem_cons.mp hP with rfl | hP
    · exact L2
    · exact hL2 P hP
  have hlink1 := Option.some.inj (hs1.symm.trans hm2)
  have hfound : s.vm.findClass cls = some P1.m.cls := findClass_of_methodNamed hP1m
  cases Option.some.inj (hfoundX.symm.trans hfound)
  obtain ⟨c1, kX', hc1, hk, hord, -, -, hn6⟩ := Cond.instantiable_spec (a' (.instantiable cls 6) (by simp [kXat]))
  cases Option.some.inj (hc1.symm.trans hfound)
  cases Option.some.inj (hkX.symm.trans hk)
  have hsel0 : selectMethod e.platform s.vm P1.m.cls T.fill0 = .method T.fill0 := by
    obtain ⟨c2, r2, m2, q1, q2, q3, q4, -⟩ := Cond.selects_spec (a' (.selects cls Bundle.tFill0 Bundle.tFill0) (by simp [kXat]))
    cases Option.some.inj (q1.symm.trans hfound)
    cases Option.some.inj (q2.symm.trans (State.methodFound?_of_named Y.fill0 (by decide)))
    cases Option.some.inj (q3.symm.trans Y.fill0)
    rw [Launch.admits_selectMethod X.admits]; exact q4
  have hselF : selectMethod e.platform s.vm P1.m.cls T.fill = .method T.fill := by
    obtain ⟨c2, r2, m2, q1, q2, q3, q4, -⟩ := Cond.selects_spec (a' (.selects cls Bundle.tFill Bundle.tFill) (by simp [kXat]))
    cases Option.some.inj (q1.symm.trans hfound)
    cases Option.some.inj (q2.symm.trans (State.methodFound?_of_named Y.fill (by decide)))
    cases Option.some.inj (q3.symm.trans Y.fill)
    rw [Launch.admits_selectMethod X.admits]; exact q4
  obtain ⟨cellS0, hcS0, hiss⟩ := Y.statics
  obtain ⟨u0, hu0⟩ := Cond.staticRefV Y.unassigned L.unassignedStatic L.statics hcS0 hiss (a' (.isRef (.static Bundle.tN "UNASSIGNED_STACK" Bundle.steD)) (by simp [kXat]))
  obtain ⟨sen, hsen⟩ := Cond.staticRefV Y.sentinel L.sentinelStatic L.statics hcS0 hiss (a' (.isRef (.static Bundle.tN "SUPPRESSED_SENTINEL" Bundle.listD)) (by simp [kXat]))
  obtain ⟨ci198, i198, fB, hk198, hg198, ha198, hsB, -, hnB, htB, hffB⟩ := Cond.ownField (t := .object "java/lang/Object") Y.found L.cls (by decide +kernel) (a' (.fieldLink Bundle.tN 198 Bundle.tN "backtrace" "Ljava/lang/Object;") (by simp [kXat])) (a' (.lays Bundle.tN Bundle.tN "backtrace" "Ljava/lang/Object;") (by simp [kXat])) e.platform hpl
  obtain ⟨cellS, hcS', heS, -, hkeep⟩ := X.same.2.2.2.2.2 T.aS cellS0 hcS0
  have hcellS : W.heap[T.aS]? = some cellS := hcS'
  have hout' : ∀ i, (⟨T.aS, i⟩ : Loc) ∉ locs := fun i hmem => by
    have := hlocs _ hmem cellS0 hcS0
    rw [hiss] at this; cases this
  have hknownS : cellS.vm ≠ .unknown := by
    rw [heS]; intro hu
    rw [show cellS0.vm = .unknown from hu] at hiss
    cases hiss
  have hneS : T.aS ≠ a := Nat.ne_of_lt (Nat.lt_of_lt_of_le (Array.getElem?_eq_some_iff.mp hcS0).1 hnew)
  obtain ⟨iM, hffM⟩ := Y.msg
  obtain ⟨tyC, dC, hdC, hdnC⟩ := Cond.laysAt hfound hk Y.cause (a' (.lays cls Bundle.tN "cause" "Ljava/lang/Throwable;") (by simp [kXat]))
  obtain ⟨tyS, dS, hdS, hdnS⟩ := Cond.laysAt hfound hk Y.stack (a' (.lays cls Bundle.tN "stackTrace" Bundle.steD) (by simp [kXat]))
  obtain ⟨tyP, dP, hdP, hdnP⟩ := Cond.laysAt hfound hk Y.supp (a' (.lays cls Bundle.tN "suppressedExceptions" Bundle.listD) (by simp [kXat]))
  obtain ⟨tyM, dM, hdM, hdnM⟩ := Cond.laysAt hfound hk hffM (a' (.lays cls Bundle.tN "detailMessage" "Ljava/lang/String;") (by simp [kXat]))
  obtain ⟨tyB, dB, hdB, hdnB⟩ := Cond.laysAt hfound hk hffB (a' (.lays cls Bundle.tN "backtrace" "Ljava/lang/Object;") (by simp [kXat]))
  have bC := Cond.laysApart hdB hdC hdnB hdnC (by rw [hnB, Y.causeName]; decide)
  have bS := Cond.laysApart hdB hdS hdnB hdnS (by rw [hnB, Y.stackName]; decide)
  have bP := Cond.laysApart hdB hdP hdnB hdnP (by rw [hnB, Y.suppName]; decide)
  have hskip : SkipFacts T e.platform s (fun u => u) u0 ((preparedCellV T.toThrowableT (freshCell P1.m.cls kX) a u0 sen).withEntry W.cur) :=
    ⟨{ ci198 := ci198, i198 := i198, fBack := fB }, ⟨hk198, hg198, ha198, hsB⟩, by
      have := fresh_default (c := P1.m.cls) tyB
      rw [htB] at this
      simpa [preparedCellV, Cell.setSlot, Cell.withEntry, Array.getElem?_setIfInBounds, bC, bS, bP, bC.symm, bS.symm, bP.symm, defaultValue] using this, fun _ _ => rfl⟩
  obtain ⟨tm, methC, cdC, kC, vm₁, hnC, -, -, -, -, -, -, -, hW₁, st1⟩ := Steps.initColdS (tb := p.tables) (e := e) (below := below) (s := s) (U := W) X.here hexec X.warmed hpl hown (t := Bundle.initS cls) rfl rfl (Bundle.fit_spec hcls).2
    (a' (.methodLink own ic (Bundle.initS cls)) (by simp [kXat])) (h (.instanceMethod (Bundle.initS cls)) (by simp [kXat, Bundle.passSAtoms])) (bytes := kThir) (maxL := 2) (h (.code (Bundle.initS cls) kThir 2 none) (by simp [kXat, Bundle.passSAtoms]))
    (f := g) hg (a := a) (msg := msg) (rest := .ref a :: rest) hstack hd6
  cases Option.some.inj (hnC.symm.trans hP1m)
  have X₁ := X.noted hW₁
  obtain ⟨vm₂, X₂, st2⟩ := X₁.ctorMessageOffV hexec (g := { g with stack := .ref a :: rest }) hg hsize T L Z LZ M LM (P1 :: Ps)
    (fun P hP => by rcases List.mem_cons.mp hP with rfl | hP; exact L1; exact hL P hP) (by rw [hPs]; exact ⟨hlink1, hsup2, hpass2⟩) (u0 := u0) (sen := sen) (self := a) hmsg (cell := freshCell P1.m.cls kX) (cellS := cellS)
    hcell (fun _ => by simp) (by simp) rfl rfl hsel0 hselF hcellS hneS hknownS (by rw [hkeep _ (hout' _)]; exact hu0) (by rw [hkeep _ (hout' _)]; exact hsen)
    (Takes.of_laid hk hord tyC (by rw [Y.causeType]; rfl)) (Takes.of_laid hk hord tyS (by rw [Y.stackType]; exact fits_refV_array _ u0)) (Takes.of_laid hk hord tyP (by rw [Y.suppType]; exact fits_refV_object _ sen))
    (Takes.of_laid hk hord tyM (by rw [Y.msgType]; exact fits_refV_object _ ⟨msg, hmsg⟩)) Y.objLocals hskip htr [] hd6
    (by simp only [List.length_cons, hlen]; omega) (by simp only [List.length_cons, hlen]; exact hRlocals)
  obtain ⟨hwalk, hrun, hended, hWU, hsame⟩ := X₂.athrowLeaves hexec (g := { g with stack := .ref a :: rest, pc := g.pc + 3 }) hg hlocked hentered hout (a := a) (rest := rest) rfl hd9
  obtain ⟨c3, c4, hc3, hc4, hasg⟩ := Cond.castable_spec (a' (.castable cls cls) (by simp [kXat]))
  cases Option.some.inj (hc3.symm.trans hfound)
  cases Option.some.inj (hc4.symm.trans hfound)
  have hlt : a < ((W.setVm vm₁).setVm vm₂).heap.size := (Array.getElem?_eq_some_iff.mp hcell).1
  have hU := heapAt_setCell_self (s := (W.setVm vm₁).setVm vm₂) (plainBareV T.toThrowableT (freshCell P1.m.cls kX) a u0 sen msg) hlt
  have hnM : T.fMsg.name = "detailMessage" := (State.fieldFound?_type hffM (t := .object "java/lang/String") (by decide +kernel)).1
  have nCS := Cond.laysApart hdC hdS hdnC hdnS (by rw [Y.causeName, Y.stackName]; decide)
  have nCP := Cond.laysApart hdC hdP hdnC hdnP (by rw [Y.causeName, Y.suppName]; decide)
  have nCM := Cond.laysApart hdC hdM hdnC hdnM (by rw [Y.causeName, hnM]; decide)
  have nSP := Cond.laysApart hdS hdP hdnS hdnP (by rw [Y.stackName, Y.suppName]; decide)
  have nSM := Cond.laysApart hdS hdM hdnS hdnM (by rw [Y.stackName, hnM]; decide)
  have nPM := Cond.laysApart hdP hdM hdnP hdnM (by rw [Y.suppName, hnM]; decide)
  have lC : T.fCause.slot < kX.instanceTypes.size := (Array.getElem?_eq_some_iff.mp tyC).1
  have lS : T.fStack.slot < kX.instanceTypes.size := (Array.getElem?_eq_some_iff.mp tyS).1
  have lP : T.fSupp.slot < kX.instanceTypes.size := (Array.getElem?_eq_some_iff.mp tyP).1
  have lM : T.fMsg.slot < kX.instanceTypes.size := (Array.getElem?_eq_some_iff.mp tyM).1
  have evU : ∀ o, (Term.static Bundle.tN "UNASSIGNED_STACK" Bundle.steD).eval args s o [] s = some u0.v := by
    intro o
    simp [Term.eval, State.fieldNamed?, Y.unassigned, L.unassignedStatic, L.statics, hcS0, hiss, hu0]
  have evS : ∀ o, (Term.static Bundle.tN "SUPPRESSED_SENTINEL" Bundle.listD).eval args s o [] s = some sen.v := by
    intro o
    simp [Term.eval, State.fieldNamed?, Y.sentinel, L.sentinelStatic, L.statics, hcS0, hiss, hsen]
  refine ⟨_, st1 _ (fun acts => ?_), hrun, hended, hWU, hsame.weaken (fun y hy hlt' => ?_) (Nat.le_refl _) (Nat.le_refl _), _, hU, ?_⟩
  · rw [doInvoke_state]
    exact st2 _ hwalk
  · rcases List.mem_append.mp hy with h1 | h1
    · exact h1
    · exfalso
      have hb : y.base = a := by
        simp only [List.mem_cons, List.not_mem_nil, or_false] at h1
        rcases h1 with rfl | rfl | rfl | rfl | rfl <;> rfl
      rw [hb] at hlt'
      exact Nat.not_lt.mpr hnew hlt'
  · exact ⟨hfound, rfl⟩
end KXC
section KXT
variable {p : Program} {l : Launch} {e : Env} {R : Room} {s : State} {m : MethodId} {args : Array Value} {below : List Frame} {meth : Method} {c : Code} {H : Heap} {locs : List Loc} {cells slots : Nat} {Q : State → Prop}
variable {free : Addr → Prop} {a : Array Value} {ls : Array Slot} {rest : List Value} {Qc : Array Value → State → Outcome → State → Prop} {XC : String → State → State → Prop}
theorem kx_throwS {cc : ByteArray} {pc : Nat} (hexec : p.tables.exec = Jvm.exec) (hb : c.code = cc) (hl : l.stackTraces = false) {own cls text Y0 : String} {r0 : List String} {ik is ic mc ms sa : Nat} {A : Nat → Prop}
    (hown : s.vm.findClass own = some m.cls) (hcls : Bundle.fit cls = true) (hY0 : Bundle.fit Y0 = true) (hnames : ∀ n ∈ r0, Bundle.fit n = true)
    (hk : (Cond.classLink own ik cls).before args s = true) (hini : (Cond.initialized cls).before args s = true) (hstr : vk_R own is text sa s) (hat : ∀ w ∈ (kXat own ic cls Y0 r0).filter vx_no, w.before args s = true)
    (hgood : ∀ w ∈ Cond.classLink own ik cls :: Cond.initialized cls :: (kXat own ic cls Y0 r0).filter vx_no, vx_ot w = true)
    (hU : vx_Zq Bundle.tN "UNASSIGNED_STACK" Bundle.steD A s s.heap) (hN : vx_Zq Bundle.tN "SUPPRESSED_SENTINEL" Bundle.listD A s s.heap) (hS : va_S A s.heap H locs) (hsize : ls.size = c.maxLocals)
    (d0 : decode cc pc = .ok (.new ik, 3)) (d3 : decode cc (pc + 3) = .ok (.dup, 1)) (d4 : decode cc (pc + 4) = .ok (.ldc is, 2)) (d6 : decode cc (pc + 6) = .ok (.invokespecial ic, 3)) (d9 : decode cc (pc + 9) = .ok (.athrow, 1))
    (hout : ∀ x ∈ c.exceptionTable.toList, covers x (pc + 9) = false)
    (hRframes : (Y0 :: r0).length + 3 < R.frames) (hRlocals : (rest.map fun v => v.category).sum + (13 * ((Y0 :: r0).length + 1) + 43) ≤ R.locals) (hRcells : cells + 1 ≤ R.cells) (hRslots : slots + 6 ≤ R.slots) (hlocks : meth.locks = false)
    (hx : ∀ t : State, s.vm.Alike t.vm → H.size ≤ t.heap.size → (∀ q : Nat, q < H.size → t.heap[q]? = H[q]?) → XC cls s t)
    (hf : ∀ z ∈ locs, free z.base) (hc : cells + 1 ≤ mc) (hs : slots + 6 ≤ ms) :
    W p l e R s m args below meth c H locs cells slots (vx_MQ below Qc XC args s mc ms free) (F0 m pc ls rest) := by
  intro T hT X
  have htr : e.platform.stackTraces = false := (show e.platform.stackTraces = l.stackTraces by rw [X.admits.platform]).trans hl
  have Y := vx_rebase X (R' := { frames := R.frames, locals := R.locals, cells := 1, slots := 6 }) (Nat.le_refl _) (Nat.le_refl _) hRcells hRslots
  obtain ⟨s', hA⟩ : ∃ z, z = (T.setVm s.vm).setFrames (.invoking m args :: below) := ⟨_, rfl⟩
  rw [← hA] at Y
  have hvm : s'.vm = s.vm := by rw [hA]; rfl
  have hhp : s'.heap = H := by rw [hA]; exact hT
  have hW0 : s.WarmedH s'.vm := by rw [hvm]; exact State.WarmedH.refl s
  have hat' : ∀ w ∈ (kXat own ic cls Y0 r0).filter vx_no, w.before args s' = true := fun w hw => vx_ot_at hW0 hvm.symm (hgood w (List.mem_cons_of_mem _ (List.mem_cons_of_mem _ hw))) (hat w hw)
  have hk' : (Cond.classLink own ik cls).before args s' = true := vx_ot_at hW0 hvm.symm (hgood _ List.mem_cons_self) hk
  have hini' : (Cond.initialized cls).before args s' = true := vx_ot_at hW0 hvm.symm (hgood _ (List.mem_cons_of_mem _ List.mem_cons_self)) hini
  have hU' : vx_Zq Bundle.tN "UNASSIGNED_STACK" Bundle.steD A s' s'.heap := by rw [hhp]; exact vx_Zq.moved hW0.alike (hU.kept hS.2.1)
  have hN' : vx_Zq Bundle.tN "SUPPRESSED_SENTINEL" Bundle.listD A s' s'.heap := by rw [hhp]; exact vx_Zq.moved hW0.alike (hN.kept hS.2.1)
  have h : ∀ w ∈ kXat own ic cls Y0 r0, w.before args s' = true := vx_own hat' (vx_isRefq hU'.1) (vx_isRefq hN'.1) hU'.2.word hN'.2.word
  have hown' : s'.vm.findClass own = some m.cls := by rw [hvm]; exact hown
  have hins : (Cond.instantiable cls 6).before args s' = true := h _ (by simp [kXat])
  obtain ⟨vm₁, cX, kX, hfX, hkX, -, -, X₁, st1⟩ := Y.newCold hexec (own := own) (C := cls) (index := ik) (n := 6) hown' hk' hins hini'
    (g := F0 m pc ls rest) rfl (by rw [hb]; exact d0) (Nat.le_refl _) (Nat.le_refl _)
  generalize hT1 : (T.setVm vm₁).pushCell { cls := cX, slots := kX.instanceTypes.map defaultValue, vm := .none } = T1 at X₁ st1
  have hcat : (Value.ref T.heap.size).category = 1 := rfl
  have hcellA : T1.heap[T.heap.size]? = some (freshCell cX kX) := by rw [← hT1]; exact State.heap_pushCell_size _ _
  have d3' : decode c.code (pc + 3) = .ok (.dup, 1) := by rw [hb]; exact d3
  have d4' : decode c.code (pc + 4) = .ok (.ldc is, 2) := by rw [hb]; exact d4
  have hstr' : vk_R own is text sa s' := vk_R.warm hW0 hstr
  obtain ⟨U, hsteps, hrun, hend, hW, hsame, ce, hce, hO1, hO2⟩ := kx_ctor X₁ hexec htr (own := own) (cls := cls) (Y0 := Y0) (r0 := r0) (ic := ic) hown' hcls hY0 hnames h (fun x hx => nomatch hx) hfX hkX hcellA (by rw [hhp, hT]; exact Nat.le_refl _) (msg := .ref sa) rfl
    (g := { method := m, pc := pc + 6, locals := ls, stack := .ref sa :: .ref T.heap.size :: .ref T.heap.size :: rest, locked := none }) rfl hsize rfl rfl (rest := rest) rfl
    (by rw [hb]; exact d6) (by rw [hb]; exact d9) hout hRframes (by simp only [List.map_cons, List.sum_cons, hcat]; omega) hlocks
  obtain ⟨f1, f2⟩ := vx_frame hsame
  rw [hhp] at f1 f2
  have hWs : s.WarmedH U.vm := State.WarmedH.trans hW0 hW
  have hcl : s.vm.findClass cls = some ce.cls := by
    have h9 := hO1
    rw [hvm] at h9
    exact h9
  have hall : s.sameButNew ({ U with vm := s.vm } : State) locs mc ms := by
    subst hA
    obtain ⟨e1, e2⟩ := hsame
    rw [State.setFrames_setFrames] at e1
    have h2 : (T.setVm s.vm).sameButNew ({ U with vm := s.vm } : State) [] (0 + 1) (0 + 6) := ⟨e1, e2⟩
    have h3 := X.same.trans h2
    rw [List.append_nil] at h3
    exact h3.mono hc hs
  refine ⟨U, ?_, .threw T.heap.size, hrun, hend, Or.inr ⟨T.heap.size, rfl, cls, ce, locs, hx U hWs.alike f1 (fun q hq => f2 q hq (fun z hz => nomatch hz)), hce, hO2, hcl, hWs, hall, hf⟩⟩
  refine st1 _ ?_
  show Steps p.tables e below (T1.setTop { method := m, pc := pc + 3, locals := ls, stack := .ref T.heap.size :: rest, locked := none }) _
  jvm_step X₁.here [X₁.here.top, hexec, d3', Value.category]
  exact X₁.ldcString hexec (own := own) (text := text) (index := is) (a := sa) hown' hstr'.1 hstr'.2
    (g := { method := m, pc := pc + 4, locals := ls, stack := .ref T.heap.size :: .ref T.heap.size :: rest, locked := none }) rfl d4' _ hsteps
end KXT
end
section
/-! the two calls that throw, and the law's helpers that catch -/
abbrev kXn : String := "java/util/NoSuchElementException"
def kXl : List Cond := (kXat "TriplicateForms" 129 kXn "java/lang/RuntimeException" ["java/lang/Exception"]).filter vx_no
def kXb : List Cond := kXl.filter (fun w => !goodWord w)
def kDC : Cond → Bool
  | .declares _ => true
  | .castable _ _ => true
  | _ => false
set_option maxRecDepth 100000 in
theorem kXb_dc : kXb.all kDC = true := by decide +kernel
set_option maxRecDepth 100000 in
theorem kXl_good : ∀ w ∈ kXl.filter goodWord, w ∈ LT := by
  have h : ∀ w ∈ kXl.filter goodWord, w ∈ lw_tbl := by decide +kernel
  exact fun w hw => List.mem_filter.mpr ⟨h w hw, (List.mem_filter.mp hw).2⟩
set_option maxRecDepth 100000 in
theorem kXb_tbl : ∀ w ∈ kXb, w ∈ lw_tbl := by decide +kernel
set_option maxRecDepth 100000 in
theorem kX_ot : ∀ w ∈ Cond.classLink "TriplicateForms" 125 kXn :: Cond.initialized kXn :: kXl, vx_ot w = true := by decide +kernel
theorem kDC_warm {w : Cond} {s U : State} (h : kDC w = true) (hW : s.WarmedH U.vm) (hn : va_Nw w s) : va_Nw w U := by
  cases w <;> first | cases h | skip
  · exact va_Nw.warmD hW hn
  · exact va_Nw.warmC hW hn
theorem kDC_on {w : Cond} (h : kDC w = true) : w.onTables = true := by
  cases w <;> first | (cases h; done) | rfl
/-- what a throw wants of the state, beside words -/
def kXS (A : Nat → Prop) (U : State) : Prop := vx_Zq Bundle.tN "UNASSIGNED_STACK" Bundle.steD A U U.heap ∧ vx_Zq Bundle.tN "SUPPRESSED_SENTINEL" Bundle.listD A U U.heap ∧ (∃ sa, vk_R "TriplicateForms" 127 "no such form or no such what" sa U) ∧ (∃ sa, vk_R "TriplicateForms" 152 "no such person or no such what" sa U) ∧ ∀ w ∈ kXb, va_Nw w U
theorem kXS.go {A B : Nat → Prop} {s U : State} {H : Heap} {locs : List Loc} (h : kXS A s) (hW : s.WarmedH U.vm) (hU : U.heap = H) (hS : va_S A s.heap H locs) (hAB : ∀ q, B q → A q) : kXS B U := by
  obtain ⟨h1, h2, ⟨a, h3⟩, ⟨b, h4⟩, h5⟩ := h
  refine ⟨?_, ?_, ⟨a, h3.warm hW⟩, ⟨b, h4.warm hW⟩, fun w hw => kDC_warm (List.all_eq_true.mp kXb_dc w hw) hW (h5 w hw)⟩
  · rw [hU]; exact ((h1.moved hW.alike).kept hS.2.1).narrow hAB
  · rw [hU]; exact ((h2.moved hW.alike).kept hS.2.1).narrow hAB
theorem kXS.calling {A : Nat → Prop} {U : State} {g : JFrame} {mk : MethodId} {a : Array Value} (h : kXS A U) : kXS A (U.calling g mk a) := by
  obtain ⟨h1, h2, ⟨a1, h3⟩, ⟨b1, h4⟩, h5⟩ := h
  exact ⟨vx_Zq.moved (u := U) (U := U.calling g mk a) (Vm.Alike.refl U.vm) h1, vx_Zq.moved (u := U) (U := U.calling g mk a) (Vm.Alike.refl U.vm) h2, ⟨a1, vk_R.same rfl h3⟩, ⟨b1, vk_R.same rfl h4⟩, fun w hw => va_Nw.same (u := U) (U := U.calling g mk a) (kDC_on (List.all_eq_true.mp kXb_dc w hw)) rfl (h5 w hw)⟩
def kPcX (D : va_G) (dA : Nat → ClassId) (ρ : Nat → Int32) (ad : Nat → Nat) (w : KW) (as : List KV) (sz : Nat) : Array Value → State → Prop := fun a U => kPc D dA ρ kStats ad w as sz a U ∧ kXS (va_A (kW dA ad ρ w) sz) U
theorem kPcX_blind {D : va_G} {dA : Nat → ClassId} {ρ : Nat → Int32} {ad : Nat → Nat} {w : KW} {as : List KV} {sz : Nat} : FrameBlind (kPcX D dA ρ ad w as sz) := fun a U g mk q => ⟨kPc_blind a U g mk q.1, q.2.calling⟩
def kQx (A : Nat → Prop) : Array Value → State → Outcome → State → Prop := va_Qi (S := Unit) (fun _ _ => False) (fun _ _ => True) A
def kXC (D : va_G) (dA : Nat → ClassId) (ρ : Nat → Int32) (ad : Nat → Nat) (w w' : KW) (sz : Nat) : String → State → State → Prop := vx_X (S := Nat → Nat) (fun u => kExt (kfr 0 w) ad u) (fun E u t => E = kXn ∧ va_P D kCl (kW dA u ρ w') t.heap ∧ va_D (va_A (kW dA ad ρ w) sz) (kW dA u ρ w')) (va_A (kW dA ad ρ w) sz)
def krmX : Room := { frames := 13, cells := 1, slots := 6, locals := 520 }
def krmH : Room := { frames := 14, cells := 1, slots := 6, locals := 560 }
/-- a method of the class that comes to 'throw new NoSuchElementException(text)' -/
theorem kx_met {l : Launch} (hl : l.flags = flags0) {ρ : Nat → Int32} {rg : List (Int × Int)} {ks : Option Int32} (hr : kRg rg ρ) (hks : ∀ v, ks = some v → ρ 0 &&& 63 = v) {y : MethodName} {cc : ByteArray} {prog : List KEnt} {stop is : Nat} {text : String} (hy : y.cls = "TriplicateForms") (hpl : plainName y.cls = true) (hP : ∀ x ∈ prog, kEntOK kmeths kStats y.cls y.name cc x)
    (d0 : decode cc stop = .ok (.new 125, 3)) (d3 : decode cc (stop + 3) = .ok (.dup, 1)) (d4 : decode cc (stop + 4) = .ok (.ldc is, 2)) (d6 : decode cc (stop + 6) = .ok (.invokespecial 129, 3)) (d9 : decode cc (stop + 9) = .ok (.athrow, 1))
    (ht : ∀ (A : Nat → Prop) (U : State), kXS A U → ∃ sa, vk_R "TriplicateForms" is text sa U) (wX1 : Cond.classLink "TriplicateForms" 125 kXn ∈ LT) (wX2 : Cond.initialized kXn ∈ LT)
    {as : List KV} {w w' : KW} {lo' : List (Nat × KV)} (hcat : kcats as ≤ 3) (hrun : kgoTo (kcall kmeths rg ks 12) rg ks 0 3 1 6 prog stop kfuel (0, kargs 0 as, [], w, 0, 0) = some (stop, lo', [], w', 0, 0)) (D : va_G) (dA : Nat → ClassId) (ad : Nat → Nat) (sz : Nat) :
    vx_Met l y (Cond.code y cc 3 (some .int) :: LT) krmX (kPcX D dA ρ ad w as sz) (kQx (va_A (kW dA ad ρ w) sz)) (kXC D dA ρ ad w w' sz) 1 6 (va_A (kW dA ad ρ w) sz) := by
  refine vx_ofW (cc := cc) (maxL := 3) (ret := some .int) hpl rfl ?_
  intro p e s m args below meth c s₁ B hml hnt hv
  obtain ⟨⟨rfl, hsz, hPw, hK, hD0, hZ, hN⟩, hXS⟩ := hv
  have hts := atoms_spec (ws := Cond.code y cc 3 (some .int) :: LT) B.pre
  have hlocks := B.notSynchronized
  subst hsz
  have F : kFix p s m (as.map (kV ad ρ)).toArray meth c cc 3 y.cls y.name D dA (va_A (kW dA ad ρ w) s.heap.size) kStats ad := ⟨B.exec, B.bytes, hml, findClass_of_methodNamed B.named, fun w hw => hts w (List.mem_cons_of_mem _ hw), hK, fun q h => Or.inr h, fun q => (name_of_methodNamed B.named B.method).1.trans q, hZ, hN⟩
  have hl0 := lv_entry (as.map (kV ad ρ)) (n := 3) (by rw [ksl_len]; exact hcat)
  rw [lg_entry_eq]
  generalize (lg_sl (as.map (kV ad ρ)) ++ List.replicate (3 - (lg_sl (as.map (kV ad ρ))).length) Slot.unset).toArray = ls at hl0 ⊢
  rw [kargs_eq] at hl0
  have hgo := k_goTo (p := p) (l := l) (e := e) (R := (headSpec (Cond.code y cc 3 (some .int) :: LT) krmX).room) (below := below) (n0 := kfr 0 w) (Rc := 1) (Rs := 6) (L := 0)
    (Q := vx_MQ below (kQx (va_A (kW dA ad ρ w) s.heap.size)) (kXC D dA ρ ad w w' s.heap.size) (as.map (kV ad ρ)).toArray s 1 6 (va_A (kW dA ad ρ w) s.heap.size)) F hr hks (fun q => absurd q (Nat.lt_irrefl 0)) (k_met kOall hr hks 12) (Nat.le_refl _) (Nat.le_refl _) (Nat.le_refl _) (Nat.le_refl _) hP kfuel _ _ hrun
  refine hgo ?_ ad s.heap [] ls ⟨hl0, hPw, hD0.self, va_S.rf, Nat.le_refl _, kExt.rf _ _⟩
  intro ad' H locs ls' hat
  obtain ⟨hl', hP', hD', hS', hn', hE'⟩ := hat
  obtain ⟨sa, hsa⟩ := ht _ _ hXS
  have hFts := F.2.2.2.2.1
  refine kx_throwS (A := va_A (kW dA ad ρ w) s.heap.size) (own := "TriplicateForms") (cls := kXn) (text := text) (Y0 := "java/lang/RuntimeException") (r0 := ["java/lang/Exception"]) (sa := sa) F.1 F.2.1 ?_ (by rw [← hy]; exact F.2.2.2.1) (by decide) (by decide) (by decide) (hFts _ wX1) (hFts _ wX2) hsa
    (vx_hat (B := kXb) (fun w hw => hFts w (kXl_good w hw)) (fun w hw => hw) (fun w hw => va_Nw.use (kDC_on (List.all_eq_true.mp kXb_dc w hw)) (hXS.2.2.2.2 w hw))) kX_ot hXS.1 hXS.2.1 hS' (hl'.1.trans hml.symm) d0 d3 d4 d6 d9 (fun x hx => absurd hx (fun h => hnt x h)) (by show 2 + 3 < 13; decide) (by show (0 : Nat) + (13 * 3 + 43) ≤ 520; decide) (Nat.le_refl _) (Nat.le_refl _) hlocks ?_ hS'.2.2 (Nat.le_refl _) (Nat.le_refl _)
  · unfold Launch.stackTraces; rw [hl]; decide
  · intro t ha h1 h2
    refine ⟨ad', hE', ⟨rfl, hP'.kept (fun k q hk => h2 q.1 ((hP' k q hk).lt)), hD'⟩, Nat.le_trans hS'.1 h1, fun q q1 q2 => ?_⟩
    rw [h2 q (Nat.lt_of_lt_of_le q1 hS'.1)]
    exact hS'.2.1 q q1 q2

abbrev kTb : List (Nat × Nat × Nat × Nat) := [(0, 10, 13, 13)]
def kPH : List KEnt := [(0, .aload_n 3, (0, 0, 0, 0, 0)), (1, .iconst 0, (0, 0, 0, 0, 0)), (2, .aload_n 0, (0, 0, 0, 0, 0)), (3, .iload_n 1, (0, 0, 0, 0, 0)), (4, .iload_n 2, (0, 0, 0, 0, 0))]
/-- the law's helper: it catches, and answers 1 -/
theorem kh_met {l : Launch} {ρ : Nat → Int32} {rg : List (Int × Int)} {ks : Option Int32} (hr : kRg rg ρ) (hks : ∀ v, ks = some v → ρ 0 &&& 63 = v) {y yF : MethodName} {cc ccF : ByteArray} {idx : Nat} (hyc : y.cls = "TriplicateFormsLaw") (hpl : plainName y.cls = true) (hP : ∀ x ∈ kPH, kEntOK kmeths kStats y.cls y.name cc x) (d5 : decode cc 5 = .ok (.invokevirtual idx, 3)) (d13 : decode cc 13 = .ok (.astore 4, 2)) (d15 : decode cc 15 = .ok (.iconst 1, 1)) (d16 : decode cc 16 = .ok (.ireturn, 1))
    (hyF : yF.cls = "TriplicateForms") (hnF : (parseMethodDescriptor yF.desc).map (fun d => d.parameters.length) = some 2) (w1 : Cond.methodLink "TriplicateFormsLaw" idx yF ∈ LT) (w2 : Cond.instanceMethod yF ∈ LT) (w3 : Cond.selects "TriplicateForms" yF yF ∈ LT) (w4 : Cond.initialized "TriplicateForms" ∈ LT) (w5 : Cond.code yF ccF 3 (some .int) ∈ LT) (w6 : Cond.classLink "TriplicateFormsLaw" 13 kXn ∈ LT) (w7 : Cond.castable kXn kXn ∈ kXb)
    {w w' : KW} {p0 p1 : KV} {lo' : List (Nat × KV)} {fs : List KV} (hcat : kcats [.inl (.ref 0), p0, p1, .inl (.ref 167)] ≤ 5) (hw0 : kwg w 0 = some (.inr (10, fs))) (hn2 : kfr 0 w ≤ kfr 0 w')
    (hM : ∀ (D : va_G) (dA : Nat → ClassId) (ad : Nat → Nat) (sz : Nat), vx_Met l yF (Cond.code yF ccF 3 (some .int) :: LT) krmX (kPcX D dA ρ ad w [.inl (.ref 0), p0, p1] sz) (kQx (va_A (kW dA ad ρ w) sz)) (kXC D dA ρ ad w w' sz) 1 6 (va_A (kW dA ad ρ w) sz))
    (hrun : kgoTo (kcall kmeths rg ks 12) rg ks 0 5 1 6 kPH 5 kfuel (0, kargs 0 [.inl (.ref 0), p0, p1, .inl (.ref 167)], [], w, 0, 0) = some (5, lo', [p1, p0, .inl (.ref 0), .inl (.int 0), .inl (.ref 167)], w, 0, 0)) (D : va_G) (dA : Nat → ClassId) (ad : Nat → Nat) (sz : Nat) :
    Met l y (Cond.codeWith y cc 5 (some .int) kTb :: LT) krmH (kPcX D dA ρ ad w [.inl (.ref 0), p0, p1, .inl (.ref 167)] sz) (kQc D dA ρ ad w (some (.inl (.int 1))) w' sz) 1 6 (va_A (kW dA ad ρ w) sz) := by
  generalize hase : ([.inl (.ref 0), p0, p1, .inl (.ref 167)] : List KV) = as at *
  refine va_MetW (cc := cc) (maxL := 5) (ret := some .int) (hh := kTb) hpl rfl ?_
  intro p e s m args below meth c s₁ B hml hv
  obtain ⟨⟨rfl, hsz, hPw, hK, hD0, hZ, hN⟩, hXS⟩ := hv
  have hts := atoms_spec (ws := Cond.codeWith y cc 5 (some .int) kTb :: LT) B.pre
  have hlocks := B.notSynchronized
  have htab := vx_table (x := y) B (hts _ List.mem_cons_self)
  subst hsz
  have F : kFix p s m (as.map (kV ad ρ)).toArray meth c cc 5 y.cls y.name D dA (va_A (kW dA ad ρ w) s.heap.size) kStats ad := ⟨B.exec, B.bytes, hml, findClass_of_methodNamed B.named, fun w hw => hts w (List.mem_cons_of_mem _ hw), hK, fun q h => Or.inr h, fun q => (name_of_methodNamed B.named B.method).1.trans q, hZ, hN⟩
  have hl0 := lv_entry (as.map (kV ad ρ)) (n := 5) (by rw [ksl_len]; exact hcat)
  rw [lg_entry_eq]
  generalize (lg_sl (as.map (kV ad ρ)) ++ List.replicate (5 - (lg_sl (as.map (kV ad ρ))).length) Slot.unset).toArray = ls at hl0 ⊢
  rw [kargs_eq] at hl0
  have hgo := k_goTo (p := p) (l := l) (e := e) (R := (headSpec (Cond.codeWith y cc 5 (some .int) kTb :: LT) krmH).room) (below := below) (n0 := kfr 0 w) (Rc := 1) (Rs := 6) (L := 0)
    (Q := MQ below (kQc D dA ρ ad w (some (.inl (.int 1))) w' s.heap.size) (as.map (kV ad ρ)).toArray s 1 6 (va_A (kW dA ad ρ w) s.heap.size)) F hr hks (fun q => absurd q (Nat.lt_irrefl 0)) (k_met kOall hr hks 12) (Nat.le_refl _) (Nat.le_refl _) (by show 13 ≤ 14; decide) (by show 40 * 12 + 40 ≤ 560; decide) hP kfuel _ _ hrun
  refine hgo ?_ ad s.heap [] ls ⟨hl0, hPw, hD0.self, va_S.rf, Nat.le_refl _, kExt.rf _ _⟩
  intro ad' H locs ls' hat
  obtain ⟨hl', hP', hD', hS', hn', hE'⟩ := id hat
  have hFts := F.2.2.2.2.1
  have hown : s.vm.findClass "TriplicateFormsLaw" = some m.cls := by rw [← hyc]; exact F.2.2.2.1
  have hf : ∀ q, va_A (kW dA ad' ρ w) H.size q → va_A (kW dA ad ρ w) s.heap.size q := fun q hq => by
    rcases hq with ⟨j, x, hj⟩ | hq
    · exact hD'.2 j (q, x) hj
    · exact Or.inr (Nat.le_trans hS'.1 hq)
  have hgood : GoodIn LT (wsV "TriplicateFormsLaw" idx "TriplicateForms" yF (Cond.code yF ccF 3 (some .int) :: LT)) := goodLT (fun w hw => by
    rcases List.mem_append.mp hw with hw | hw
    · simp only [List.mem_cons, List.not_mem_nil, or_false] at hw
      rcases hw with e | e | e | e <;> rw [e] <;> assumption
    · rcases List.mem_cons.mp hw with e | hw
      · rw [e]; exact w5
      · exact hw)
  obtain ⟨q0, h1, -⟩ := kW_get (dA := dA) (ad := ad') (ρ := ρ) hw0
  simp only [List.map_cons, List.map_nil]
  refine vx_calli (S := Unit) (SX := Nat → Nat) (A1 := va_A (kW dA ad' ρ w) H.size) (AX := va_A (kW dA ad' ρ w) H.size) (vx_runV (As := [kV ad' ρ p0, kV ad' ρ p1]) (rest := [.int 0, .ref (ad' 167)]) (b := ad' 0) ⟨F.1, F.2.1, F.2.2.1, hown, hFts⟩ (hM D dA ad' H.size) (cwV 2 hFts hgood rfl rfl rfl ⟨hyF, by rw [hyF]; decide, by rw [hyF]; decide, hnF⟩ ⟨by show 13 + 1 ≤ 14; decide, by show 8 + (3 + 11) + 520 ≤ 560; decide⟩) ⟨kPcX_blind, va_recv F.2.2.2.2.2.1 hP' (ci := 10) rfl h1, fun U hU hW => ⟨k_pre F hat [.inl (.ref 0), p0, p1] hU hW, hXS.go hW hU hS' hf⟩⟩ rfl rfl hl'.1 rfl (lv_room (Nat.le_of_ble_eq_true rfl)) d5 ⟨Nat.le_refl _, Nat.le_refl _⟩) hS' (fun q _ h => hf q h) hf (fun q _ h => hf q h) ?_ ?_
  · intro E ce q9 u t H1 locs1 ht halike hu hB hz hk hS1 hce hcv hcl
    obtain ⟨rfl, hP1, hD1⟩ := hB
    rw [ht] at hP1
    refine vx_catch (own := "TriplicateFormsLaw") (name := kXn) hown [] { startPc := 0, endPc := 10, handlerPc := 13, catchType := 13 } [] (by rw [htab]; rfl) (fun z hz => nomatch hz) (by decide) (by decide) (hFts _ w6) (va_Nw.use rfl (hXS.2.2.2.2 _ w7)) hce hcv hcl ?_
    refine lv_astore F.1 F.2.1 d13 hl' (by decide) rfl (fun ls2 hl2 => ?_)
    refine lv_iconst (v := 1) F.1 F.2.1 d15 (by decide) ?_
    exact W.iret B.exec B.bytes B.returns (fun t2 ht2 hW2 => ⟨⟨u, rfl, hE'.tr hu (Nat.le_refl _), hn2, by rw [ht2]; exact hP1, hD1.weaken (fun _ q _ hq => hf _ hq)⟩, hS1.F ht2⟩) hS1.2.2 d16
  · intro r u t H1 locs1 ht halike hpost
    exact absurd hpost id
/-- what a throw wants, at the law's entry -/
theorem law_xs {p : Program} {s : State} {m : MethodId} {meth : Method} {c : Code} {b L : Nat} {xs : Nat → Int32} (C0 : lw_At p s m meth c b L xs) : kXS (fun q => s.heap.size ≤ q) s := by
  obtain ⟨hx, hb, hr, hml, hown, hts, hX, hbl, hlocks, hgv⟩ := C0
  have hs := flat_of_before _ hgv
  have hA : ∀ a : Nat, a < s.heap.size → ¬ (s.heap.size ≤ a) := fun a ha => Nat.not_le.mpr ha
  have hini : (Cond.initialized "java/lang/Throwable").before #[Value.ref b] s = true := hts _ (List.mem_of_getElem? (i := 151) (by decide +kernel))
  refine ⟨vx_Zqof (hts _ (List.mem_of_getElem? (i := 1395) (by decide +kernel))) hini (hs _ (by decide +kernel)) hA, vx_Zqof (hts _ (List.mem_of_getElem? (i := 1397) (by decide +kernel))) hini (hs _ (by decide +kernel)) hA, ?_, ?_, fun w hw => va_Nw.of (kDC_on (List.all_eq_true.mp kXb_dc w hw)) (hts _ (kXb_tbl w hw))⟩
  · have he : (Cond.exactly (.string "TriplicateForms" 127) "java/lang/String").before #[Value.ref b] s = true := hs _ (by decide +kernel)
    obtain ⟨a, c2, cell, k, r1, -⟩ := Cond.exactly_spec he
    exact ⟨a, vk_R.of (A := #[Value.ref b]) (hts _ (List.mem_of_getElem? (i := 1407) (by decide +kernel))) r1⟩
  · have he : (Cond.exactly (.string "TriplicateForms" 152) "java/lang/String").before #[Value.ref b] s = true := hs _ (by decide +kernel)
    obtain ⟨a, c2, cell, k, r1, -⟩ := Cond.exactly_spec he
    exact ⟨a, vk_R.of (A := #[Value.ref b]) (hts _ (List.mem_of_getElem? (i := 1443) (by decide +kernel))) r1⟩
/-- the law's call of a helper -/
theorem law_throw {p : Program} {l : Launch} {e : Env} {s : State} {m : MethodId} {below : List Frame} {meth : Method} {c : Code} {b L : Nat} {xs : Nat → Int32} {D : va_G} {dA : Nat → ClassId} {ad0 : Nat → Nat} (C0 : lw_At p s m meth c b L xs) (hL6 : L = 6) (F : kFix p s m #[Value.ref b] meth c code 7 "TriplicateFormsLaw" "law" D dA (fun q => s.heap.size ≤ q) kStats ad0) (hb0 : ad0 1000000 = b) {rg : List (Int × Int)} {ks : Option Int32} (hr : kRg rg xs) (hks : ∀ v, ks = some v → xs 0 &&& 63 = v)
    {pcF idxF : Nat} {y : MethodName} {cc : ByteArray} {p0 p1 : KV} {w' : KW} {lo : List (Nat × KV)} {c1 s1 : Nat} (hyc : y.cls = "TriplicateFormsLaw") (hnF : (parseMethodDescriptor y.desc).map (fun d => d.parameters.length) = some 4) (w1 : Cond.methodLink "TriplicateFormsLaw" idxF y ∈ LT) (w2 : Cond.static y ∈ LT) (w3 : Cond.initialized "TriplicateFormsLaw" ∈ LT) (w4 : Cond.codeWith y cc 5 (some .int) kTb ∈ LT) (dF : decode code pcF = .ok (.invokestatic idxF, 3))
    (hH : ∀ (D : va_G) (dA : Nat → ClassId) (ad : Nat → Nat) (sz : Nat), Met l y (Cond.codeWith y cc 5 (some .int) kTb :: LT) krmH (kPcX D dA xs ad kW1 [.inl (.ref 0), p0, p1, .inl (.ref 167)] sz) (kQc D dA xs ad kW1 (some (.inl (.int 1))) w' sz) 1 6 (va_A (kW dA ad xs kW1) sz))
    (hA : kgoTo (kcall kmeths rg ks 12) rg ks 7 7 kRc kRs kPL pcF kfuel kS1 = some (pcF, lo, [.inl (.ref 167), p1, p0, .inl (.ref 0)], kW1, c1, s1)) (hlo : kokL (kfr 0 kW1) lo = true) (hc1 : c1 + 1 ≤ kRc) (hs1 : s1 + 6 ≤ kRs)
    (hB : kFin (krun (kcall kmeths rg ks 12) rg ks 7 7 kRc kRs kPL kfuel [] (pcF + 3, lo, [.inl (.int 1)], w', c1 + 1, s1 + 6)) = true) : lGo p l e s m b below meth c D dA xs ad0 kS1 := by
  have hts := F.2.2.2.2.1
  have hX : kSc s (fun q => s.heap.size ≤ q) ad0 xs 7 := fun _ => ⟨b, xs, by subst hL6; exact C0.2.2.2.2.2.2.1, C0.2.2.2.2.2.2.2.1, fun q => absurd C0.2.2.2.2.2.2.2.1 (Nat.not_lt.mpr q), hb0, fun _ _ => rfl⟩
  refine k_goTo (p := p) (l := l) (e := e) (R := room_1) (below := below) (n0 := 0) (Q := lw_Z below #[Value.ref b] s) F hr hks (L := 7) hX (k_met kOall hr hks 12) (Nat.le_refl _) (Nat.le_refl _) (Nat.le_of_ble_eq_true rfl) (Nat.le_of_ble_eq_true rfl) kPL_ok kfuel kS1 _ hA ?_
  intro ad H locs ls hat
  have hf : ∀ q, va_A (kW dA ad xs kW1) H.size q → s.heap.size ≤ q := fun q hq => by
    rcases hq with ⟨j, x, hj⟩ | hq
    · exact hat.2.2.1.2 j (q, x) hj
    · exact Nat.le_trans hat.2.2.2.1.1 hq
  have hgood : GoodIn LT (va_wsS "TriplicateFormsLaw" idxF y (Cond.codeWith y cc 5 (some .int) kTb :: LT)) := goodLT (fun w hw => by
    rcases List.mem_append.mp hw with hw | hw
    · simp only [List.mem_cons, List.not_mem_nil, or_false] at hw
      rcases hw with e | e | e
      · rw [e]; exact w1
      · rw [e]; exact w2
      · rw [e, hyc]; exact w3
    · rcases List.mem_cons.mp hw with e | hw
      · rw [e]; exact w4
      · exact hw)
  refine k_after (mc := 1) (msl := 6) (rest := []) (ret := some (.inl (.int 1))) (w' := w') F hat hlo rfl (a := (([.inl (.ref 0), p0, p1, .inl (.ref 167)] : List KV).map (kV ad xs)).toArray) (vx_runSW (As := ([.inl (.ref 0), p0, p1, .inl (.ref 167)] : List KV).map (kV ad xs)) ⟨F.1, F.2.1, F.2.2.1, F.2.2.2.1, hts⟩ (hH D dA ad H.size) (vx_cwSW 4 hts hgood rfl rfl rfl ⟨by rw [hyc]; decide, by rw [hyc]; decide, hnF⟩ ⟨Nat.le_of_ble_eq_true rfl, Nat.le_of_ble_eq_true rfl⟩) ⟨kPcX_blind, fun U hU hW => ⟨k_pre F hat [.inl (.ref 0), p0, p1, .inl (.ref 167)] hU hW, (law_xs C0).go hW hU hat.2.2.2.1 hf⟩⟩ rfl rfl hat.1.1 rfl (lv_room (Nat.le_of_ble_eq_true rfl)) dF ⟨hc1, hs1⟩) ?_
  exact law_run C0 F hb0 (cur := []) (fun x hx => by cases hx) hr hks (by rw [hL6]) (fun _ _ => rfl) hB
def kSA (pc : Nat) : KF := (pc, kS1.2.1, [.inl (.ref 167), .inr (.inl 2), .inr (.inl 1), .inl (.ref 0)], kW1, kS1.2.2.2.2.1, kS1.2.2.2.2.2)
/-- inputs compared, too -/
def keV2 : KV → KV → Bool
  | .inl a, .inl b => decide (a = b)
  | .inr (.inl i), .inr (.inl j) => Nat.beq i j
  | _, _ => false
theorem keV2_ok {a b : KV} (h : keV2 a b = true) : a = b := by
  rcases a with a | (a | a) <;> rcases b with b | (b | b) <;> first | (rw [of_decide_eq_true h]; done) | (rw [show a = b from kb_t h]; done) | cases h
def keF2 (a b : KF) : Bool := Nat.beq a.1 b.1 && (keL (keP keV2) a.2.1 b.2.1 && (keL keV2 a.2.2.1 b.2.2.1 && (keL (keL keE) a.2.2.2.1 b.2.2.2.1 && (Nat.beq a.2.2.2.2.1 b.2.2.2.2.1 && Nat.beq a.2.2.2.2.2 b.2.2.2.2.2))))
theorem keF2_ok (a b : KF) (h : keF2 a b = true) : a = b := by
  obtain ⟨p1, l1, s1, w1, c1, n1⟩ := a
  obtain ⟨p2, l2, s2, w2, c2, n2⟩ := b
  unfold keF2 at h
  simp only [Bool.and_eq_true] at h
  obtain ⟨h1, h2, h3, h4, h5, h6⟩ := h
  rw [show p1 = p2 from kb_t h1, show l1 = l2 from keL_ok (keP_ok (fun a b => keV2_ok)) _ _ h2, show s1 = s2 from keL_ok (fun a b => keV2_ok) _ _ h3, show w1 = w2 from keL_ok (keL_ok keE_ok) _ _ h4, show c1 = c2 from kb_t h5, show n1 = n2 from kb_t h6]
def keO2 (a : Option KF) (b : KF) : Bool := match a with
  | some x => keF2 x b
  | none => false
theorem keO2_ok {a : Option KF} {b : KF} (h : keO2 a b = true) : a = some b := by
  unfold keO2 at h
  split at h
  · rw [keF2_ok _ _ h]
  · cases h
end
section
abbrev kyH4 : MethodName := (⟨"TriplicateFormsLaw", "form", "(LTriplicateForms;II[J)I"⟩ : MethodName)
abbrev kyF4 : MethodName := (⟨"TriplicateForms", "form", "(II)I"⟩ : MethodName)
def krg4neg : List (Int × Int) := [(-2147483648, 2147483647), (-2147483648, -1), (-2147483648, 2147483647), (-2147483648, 2147483647), (-2147483648, 2147483647), (-2147483648, 2147483647)]
set_option maxRecDepth 1000000 in
theorem kA4neg : keO2 (kgoTo (kcall kmeths krg4neg (some (Int32.ofNat 4)) 12) krg4neg (some (Int32.ofNat 4)) 7 7 kRc kRs kPL 354 kfuel kS1) (kSA 354) = true := by decide +kernel
set_option maxRecDepth 1000000 in
theorem kB4neg : kFin (krun (kcall kmeths krg4neg (some (Int32.ofNat 4)) 12) krg4neg (some (Int32.ofNat 4)) 7 7 kRc kRs kPL kfuel [] (354 + 3, kS1.2.1, [.inl (.int 1)], kW1, kS1.2.2.2.2.1 + 1, kS1.2.2.2.2.2 + 6)) = true := by decide +kernel
set_option maxRecDepth 1000000 in
theorem kT4neg : keO2 (kgoTo (kcall kmeths krg4neg (some (Int32.ofNat 4)) 12) krg4neg (some (Int32.ofNat 4)) 0 3 1 6 kP18 21 kfuel (0, kargs 0 [.inl (.ref 0), .inr (.inl 1), .inr (.inl 2)], [], kW1, 0, 0)) (21, kargs 0 [.inl (.ref 0), .inr (.inl 1), .inr (.inl 2)], [], kW1, 0, 0) = true := by decide +kernel
set_option maxRecDepth 1000000 in
theorem kU4neg : keO2 (kgoTo (kcall kmeths krg4neg (some (Int32.ofNat 4)) 12) krg4neg (some (Int32.ofNat 4)) 0 5 1 6 kPH 5 kfuel (0, kargs 0 [.inl (.ref 0), .inr (.inl 1), .inr (.inl 2), .inl (.ref 167)], [], kW1, 0, 0)) (5, kargs 0 [.inl (.ref 0), .inr (.inl 1), .inr (.inl 2), .inl (.ref 167)], [.inr (.inl 2), .inr (.inl 1), .inl (.ref 0), .inl (.int 0), .inl (.ref 167)], kW1, 0, 0) = true := by decide +kernel
def krg4pos : List (Int × Int) := [(-2147483648, 2147483647), (0, 2147483647), (-2147483648, 2147483647), (-2147483648, 2147483647), (-2147483648, 2147483647), (-2147483648, 2147483647)]
set_option maxRecDepth 1000000 in
theorem kA4pos : keO2 (kgoTo (kcall kmeths krg4pos (some (Int32.ofNat 4)) 12) krg4pos (some (Int32.ofNat 4)) 7 7 kRc kRs kPL 354 kfuel kS1) (kSA 354) = true := by decide +kernel
set_option maxRecDepth 1000000 in
theorem kB4pos : kFin (krun (kcall kmeths krg4pos (some (Int32.ofNat 4)) 12) krg4pos (some (Int32.ofNat 4)) 7 7 kRc kRs kPL kfuel [] (354 + 3, kS1.2.1, [.inl (.int 1)], kW1, kS1.2.2.2.2.1 + 1, kS1.2.2.2.2.2 + 6)) = true := by decide +kernel
set_option maxRecDepth 1000000 in
theorem kT4pos : keO2 (kgoTo (kcall kmeths krg4pos (some (Int32.ofNat 4)) 12) krg4pos (some (Int32.ofNat 4)) 0 3 1 6 kP18 21 kfuel (0, kargs 0 [.inl (.ref 0), .inr (.inl 1), .inr (.inl 2)], [], kW1, 0, 0)) (21, kargs 0 [.inl (.ref 0), .inr (.inl 1), .inr (.inl 2)], [], kW1, 0, 0) = true := by decide +kernel
set_option maxRecDepth 1000000 in
theorem kU4pos : keO2 (kgoTo (kcall kmeths krg4pos (some (Int32.ofNat 4)) 12) krg4pos (some (Int32.ofNat 4)) 0 5 1 6 kPH 5 kfuel (0, kargs 0 [.inl (.ref 0), .inr (.inl 1), .inr (.inl 2), .inl (.ref 167)], [], kW1, 0, 0)) (5, kargs 0 [.inl (.ref 0), .inr (.inl 1), .inr (.inl 2), .inl (.ref 167)], [.inr (.inl 2), .inr (.inl 1), .inl (.ref 0), .inl (.int 0), .inl (.ref 167)], kW1, 0, 0) = true := by decide +kernel
theorem kPH_ok4 : ∀ x ∈ kPH, kEntOK kmeths kStats kyH4.cls kyH4.name method_3_code x := kchk_ok (gs := []) (ps := []) (by decide +kernel)
theorem law_t4 {p : Program} {l : Launch} {e : Env} {s : State} {m : MethodId} {below : List Frame} {meth : Method} {c : Code} {b L : Nat} {xs : Nat → Int32} {D : va_G} {dA : Nat → ClassId} {ad0 : Nat → Nat} (hl : l.flags = flags0) (C0 : lw_At p s m meth c b L xs) (hL6 : L = 6) (F : kFix p s m #[Value.ref b] meth c code 7 "TriplicateFormsLaw" "law" D dA (fun q => s.heap.size ≤ q) kStats ad0) (hb0 : ad0 1000000 = b) (hv : xs 0 &&& 63 = Int32.ofNat 4) : lGo p l e s m b below meth c D dA xs ad0 kS1 := by
  have b1 := kbd (xs 1)
  have key : ∀ (rg : List (Int × Int)), kRg rg xs → keO2 (kgoTo (kcall kmeths rg (some (Int32.ofNat 4)) 12) rg (some (Int32.ofNat 4)) 7 7 kRc kRs kPL 354 kfuel kS1) (kSA 354) = true → kFin (krun (kcall kmeths rg (some (Int32.ofNat 4)) 12) rg (some (Int32.ofNat 4)) 7 7 kRc kRs kPL kfuel [] (354 + 3, kS1.2.1, [.inl (.int 1)], kW1, kS1.2.2.2.2.1 + 1, kS1.2.2.2.2.2 + 6)) = true → keO2 (kgoTo (kcall kmeths rg (some (Int32.ofNat 4)) 12) rg (some (Int32.ofNat 4)) 0 3 1 6 kP18 21 kfuel (0, kargs 0 [.inl (.ref 0), .inr (.inl 1), .inr (.inl 2)], [], kW1, 0, 0)) (21, kargs 0 [.inl (.ref 0), .inr (.inl 1), .inr (.inl 2)], [], kW1, 0, 0) = true → keO2 (kgoTo (kcall kmeths rg (some (Int32.ofNat 4)) 12) rg (some (Int32.ofNat 4)) 0 5 1 6 kPH 5 kfuel (0, kargs 0 [.inl (.ref 0), .inr (.inl 1), .inr (.inl 2), .inl (.ref 167)], [], kW1, 0, 0)) (5, kargs 0 [.inl (.ref 0), .inr (.inl 1), .inr (.inl 2), .inl (.ref 167)], [.inr (.inl 2), .inr (.inl 1), .inl (.ref 0), .inl (.int 0), .inl (.ref 167)], kW1, 0, 0) = true → lGo p l e s m b below meth c D dA xs ad0 kS1 := by
    intro rg hr hA hB hT hU
    have hks : ∀ v, some (Int32.ofNat 4) = some v → xs 0 &&& 63 = v := fun v h => by cases h; exact hv
    refine law_throw (y := kyH4) (cc := method_3_code) (pcF := 354) (idxF := 41) C0 hL6 F hb0 hr hks rfl (by decide +kernel) (List.mem_filter.mpr ⟨List.mem_of_getElem? (i := 1360) (by decide +kernel), by decide +kernel⟩) (List.mem_filter.mpr ⟨List.mem_of_getElem? (i := 1361) (by decide +kernel), by decide +kernel⟩) (List.mem_filter.mpr ⟨List.mem_of_getElem? (i := 134) (by decide +kernel), by decide +kernel⟩) (List.mem_filter.mpr ⟨List.mem_of_getElem? (i := 1362) (by decide +kernel), by decide +kernel⟩) (by decide +kernel) ?_ (keO2_ok hA) (by decide +kernel) (by decide +kernel) (by decide +kernel) hB
    refine kh_met (y := kyH4) (yF := kyF4) (ccF := prog_1_method_6_code) (idx := 7) hr hks rfl (by decide +kernel) kPH_ok4 (by decide +kernel) (by decide +kernel) (by decide +kernel) (by decide +kernel) rfl (by decide +kernel) (List.mem_filter.mpr ⟨List.mem_of_getElem? (i := 1364) (by decide +kernel), by decide +kernel⟩) (List.mem_filter.mpr ⟨List.mem_of_getElem? (i := 1365) (by decide +kernel), by decide +kernel⟩) (List.mem_filter.mpr ⟨List.mem_of_getElem? (i := 1366) (by decide +kernel), by decide +kernel⟩) (List.mem_filter.mpr ⟨List.mem_of_getElem? (i := 135) (by decide +kernel), by decide +kernel⟩) (List.mem_filter.mpr ⟨List.mem_of_getElem? (i := 1367) (by decide +kernel), by decide +kernel⟩) (List.mem_filter.mpr ⟨List.mem_of_getElem? (i := 1363) (by decide +kernel), by decide +kernel⟩) (by decide +kernel) (by decide) (fs := _) (rfl : kwg kW1 0 = some _) (Nat.le_refl _) ?_ (keO2_ok hU)
    exact kx_met (y := kyF4) (cc := prog_1_method_6_code) (prog := kP18) (stop := 21) (is := 127) (text := "no such form or no such what") hl hr hks rfl (by decide +kernel) kO18.1 (by decide +kernel) (by decide +kernel) (by decide +kernel) (by decide +kernel) (by decide +kernel) (fun A U h => h.2.2.1) (List.mem_filter.mpr ⟨List.mem_of_getElem? (i := 1368) (by decide +kernel), by decide +kernel⟩) (List.mem_filter.mpr ⟨List.mem_of_getElem? (i := 154) (by decide +kernel), by decide +kernel⟩) (by decide) (keO2_ok hT)
  by_cases h : (xs 1).toInt < 0
  · exact key krg4neg (kRg6 (kbd _) (by omega) (kbd _) (kbd _) (kbd _) (kbd _)) kA4neg kB4neg kT4neg kU4neg
  · exact key krg4pos (kRg6 (kbd _) (by omega) (kbd _) (kbd _) (kbd _) (kbd _)) kA4pos kB4pos kT4pos kU4pos
abbrev kyH5 : MethodName := (⟨"TriplicateFormsLaw", "person", "(LTriplicateForms;II[J)I"⟩ : MethodName)
abbrev kyF5 : MethodName := (⟨"TriplicateForms", "person", "(II)I"⟩ : MethodName)
def krg5neg : List (Int × Int) := [(-2147483648, 2147483647), (-2147483648, -1), (-2147483648, 2147483647), (-2147483648, 2147483647), (-2147483648, 2147483647), (-2147483648, 2147483647)]
set_option maxRecDepth 1000000 in
theorem kA5neg : keO2 (kgoTo (kcall kmeths krg5neg (some (Int32.ofNat 5)) 12) krg5neg (some (Int32.ofNat 5)) 7 7 kRc kRs kPL 422 kfuel kS1) (kSA 422) = true := by decide +kernel
set_option maxRecDepth 1000000 in
theorem kB5neg : kFin (krun (kcall kmeths krg5neg (some (Int32.ofNat 5)) 12) krg5neg (some (Int32.ofNat 5)) 7 7 kRc kRs kPL kfuel [] (422 + 3, kS1.2.1, [.inl (.int 1)], kW1, kS1.2.2.2.2.1 + 1, kS1.2.2.2.2.2 + 6)) = true := by decide +kernel
set_option maxRecDepth 1000000 in
theorem kT5neg : keO2 (kgoTo (kcall kmeths krg5neg (some (Int32.ofNat 5)) 12) krg5neg (some (Int32.ofNat 5)) 0 3 1 6 kP29 20 kfuel (0, kargs 0 [.inl (.ref 0), .inr (.inl 1), .inr (.inl 2)], [], kW1, 0, 0)) (20, kargs 0 [.inl (.ref 0), .inr (.inl 1), .inr (.inl 2)], [], kW1, 0, 0) = true := by decide +kernel
set_option maxRecDepth 1000000 in
theorem kU5neg : keO2 (kgoTo (kcall kmeths krg5neg (some (Int32.ofNat 5)) 12) krg5neg (some (Int32.ofNat 5)) 0 5 1 6 kPH 5 kfuel (0, kargs 0 [.inl (.ref 0), .inr (.inl 1), .inr (.inl 2), .inl (.ref 167)], [], kW1, 0, 0)) (5, kargs 0 [.inl (.ref 0), .inr (.inl 1), .inr (.inl 2), .inl (.ref 167)], [.inr (.inl 2), .inr (.inl 1), .inl (.ref 0), .inl (.int 0), .inl (.ref 167)], kW1, 0, 0) = true := by decide +kernel
def krg5pos : List (Int × Int) := [(-2147483648, 2147483647), (0, 2147483647), (-2147483648, 2147483647), (-2147483648, 2147483647), (-2147483648, 2147483647), (-2147483648, 2147483647)]
set_option maxRecDepth 1000000 in
theorem kA5pos : keO2 (kgoTo (kcall kmeths krg5pos (some (Int32.ofNat 5)) 12) krg5pos (some (Int32.ofNat 5)) 7 7 kRc kRs kPL 422 kfuel kS1) (kSA 422) = true := by decide +kernel
set_option maxRecDepth 1000000 in
theorem kB5pos : kFin (krun (kcall kmeths krg5pos (some (Int32.ofNat 5)) 12) krg5pos (some (Int32.ofNat 5)) 7 7 kRc kRs kPL kfuel [] (422 + 3, kS1.2.1, [.inl (.int 1)], kW1, kS1.2.2.2.2.1 + 1, kS1.2.2.2.2.2 + 6)) = true := by decide +kernel
set_option maxRecDepth 1000000 in
theorem kT5pos : keO2 (kgoTo (kcall kmeths krg5pos (some (Int32.ofNat 5)) 12) krg5pos (some (Int32.ofNat 5)) 0 3 1 6 kP29 20 kfuel (0, kargs 0 [.inl (.ref 0), .inr (.inl 1), .inr (.inl 2)], [], kW1, 0, 0)) (20, kargs 0 [.inl (.ref 0), .inr (.inl 1), .inr (.inl 2)], [], kW1, 0, 0) = true := by decide +kernel
set_option maxRecDepth 1000000 in
theorem kU5pos : keO2 (kgoTo (kcall kmeths krg5pos (some (Int32.ofNat 5)) 12) krg5pos (some (Int32.ofNat 5)) 0 5 1 6 kPH 5 kfuel (0, kargs 0 [.inl (.ref 0), .inr (.inl 1), .inr (.inl 2), .inl (.ref 167)], [], kW1, 0, 0)) (5, kargs 0 [.inl (.ref 0), .inr (.inl 1), .inr (.inl 2), .inl (.ref 167)], [.inr (.inl 2), .inr (.inl 1), .inl (.ref 0), .inl (.int 0), .inl (.ref 167)], kW1, 0, 0) = true := by decide +kernel
theorem kPH_ok5 : ∀ x ∈ kPH, kEntOK kmeths kStats kyH5.cls kyH5.name method_4_code x := kchk_ok (gs := []) (ps := []) (by decide +kernel)
theorem law_t5 {p : Program} {l : Launch} {e : Env} {s : State} {m : MethodId} {below : List Frame} {meth : Method} {c : Code} {b L : Nat} {xs : Nat → Int32} {D : va_G} {dA : Nat → ClassId} {ad0 : Nat → Nat} (hl : l.flags = flags0) (C0 : lw_At p s m meth c b L xs) (hL6 : L = 6) (F : kFix p s m #[Value.ref b] meth c code 7 "TriplicateFormsLaw" "law" D dA (fun q => s.heap.size ≤ q) kStats ad0) (hb0 : ad0 1000000 = b) (hv : xs 0 &&& 63 = Int32.ofNat 5) : lGo p l e s m b below meth c D dA xs ad0 kS1 := by
  have b1 := kbd (xs 1)
  have key : ∀ (rg : List (Int × Int)), kRg rg xs → keO2 (kgoTo (kcall kmeths rg (some (Int32.ofNat 5)) 12) rg (some (Int32.ofNat 5)) 7 7 kRc kRs kPL 422 kfuel kS1) (kSA 422) = true → kFin (krun (kcall kmeths rg (some (Int32.ofNat 5)) 12) rg (some (Int32.ofNat 5)) 7 7 kRc kRs kPL kfuel [] (422 + 3, kS1.2.1, [.inl (.int 1)], kW1, kS1.2.2.2.2.1 + 1, kS1.2.2.2.2.2 + 6)) = true → keO2 (kgoTo (kcall kmeths rg (some (Int32.ofNat 5)) 12) rg (some (Int32.ofNat 5)) 0 3 1 6 kP29 20 kfuel (0, kargs 0 [.inl (.ref 0), .inr (.inl 1), .inr (.inl 2)], [], kW1, 0, 0)) (20, kargs 0 [.inl (.ref 0), .inr (.inl 1), .inr (.inl 2)], [], kW1, 0, 0) = true → keO2 (kgoTo (kcall kmeths rg (some (Int32.ofNat 5)) 12) rg (some (Int32.ofNat 5)) 0 5 1 6 kPH 5 kfuel (0, kargs 0 [.inl (.ref 0), .inr (.inl 1), .inr (.inl 2), .inl (.ref 167)], [], kW1, 0, 0)) (5, kargs 0 [.inl (.ref 0), .inr (.inl 1), .inr (.inl 2), .inl (.ref 167)], [.inr (.inl 2), .inr (.inl 1), .inl (.ref 0), .inl (.int 0), .inl (.ref 167)], kW1, 0, 0) = true → lGo p l e s m b below meth c D dA xs ad0 kS1 := by
    intro rg hr hA hB hT hU
    have hks : ∀ v, some (Int32.ofNat 5) = some v → xs 0 &&& 63 = v := fun v h => by cases h; exact hv
    refine law_throw (y := kyH5) (cc := method_4_code) (pcF := 422) (idxF := 50) C0 hL6 F hb0 hr hks rfl (by decide +kernel) (List.mem_filter.mpr ⟨List.mem_of_getElem? (i := 1436) (by decide +kernel), by decide +kernel⟩) (List.mem_filter.mpr ⟨List.mem_of_getElem? (i := 1437) (by decide +kernel), by decide +kernel⟩) (List.mem_filter.mpr ⟨List.mem_of_getElem? (i := 134) (by decide +kernel), by decide +kernel⟩) (List.mem_filter.mpr ⟨List.mem_of_getElem? (i := 1438) (by decide +kernel), by decide +kernel⟩) (by decide +kernel) ?_ (keO2_ok hA) (by decide +kernel) (by decide +kernel) (by decide +kernel) hB
    refine kh_met (y := kyH5) (yF := kyF5) (ccF := prog_1_method_7_code) (idx := 15) hr hks rfl (by decide +kernel) kPH_ok5 (by decide +kernel) (by decide +kernel) (by decide +kernel) (by decide +kernel) rfl (by decide +kernel) (List.mem_filter.mpr ⟨List.mem_of_getElem? (i := 1439) (by decide +kernel), by decide +kernel⟩) (List.mem_filter.mpr ⟨List.mem_of_getElem? (i := 1440) (by decide +kernel), by decide +kernel⟩) (List.mem_filter.mpr ⟨List.mem_of_getElem? (i := 1441) (by decide +kernel), by decide +kernel⟩) (List.mem_filter.mpr ⟨List.mem_of_getElem? (i := 135) (by decide +kernel), by decide +kernel⟩) (List.mem_filter.mpr ⟨List.mem_of_getElem? (i := 1442) (by decide +kernel), by decide +kernel⟩) (List.mem_filter.mpr ⟨List.mem_of_getElem? (i := 1363) (by decide +kernel), by decide +kernel⟩) (by decide +kernel) (by decide) (fs := _) (rfl : kwg kW1 0 = some _) (Nat.le_refl _) ?_ (keO2_ok hU)
    exact kx_met (y := kyF5) (cc := prog_1_method_7_code) (prog := kP29) (stop := 20) (is := 152) (text := "no such person or no such what") hl hr hks rfl (by decide +kernel) kO29.1 (by decide +kernel) (by decide +kernel) (by decide +kernel) (by decide +kernel) (by decide +kernel) (fun A U h => h.2.2.2.1) (List.mem_filter.mpr ⟨List.mem_of_getElem? (i := 1368) (by decide +kernel), by decide +kernel⟩) (List.mem_filter.mpr ⟨List.mem_of_getElem? (i := 154) (by decide +kernel), by decide +kernel⟩) (by decide) (keO2_ok hT)
  by_cases h : (xs 1).toInt < 0
  · exact key krg5neg (kRg6 (kbd _) (by omega) (kbd _) (kbd _) (kbd _) (kbd _)) kA5neg kB5neg kT5neg kU5neg
  · exact key krg5pos (kRg6 (kbd _) (by omega) (kbd _) (kbd _) (kbd _) (kbd _)) kA5pos kB5pos kT5pos kU5pos
theorem whole_start {p : Program} {e : Env} {s : State} {m : MethodId} {below : List Frame} {meth : Method} {c : Code} (l : Launch) (hflags : l.flags = flags0) {b L : Nat} {xs : Nat → Int32} (hL : L ≤ 6) (C0 : lw_At p s m meth c b L xs) : W p l e room_1 s m #[Value.ref b] below meth c s.heap [] 0 0 (lw_Z below #[Value.ref b] s) (entryFrame m ([Value.ref b] : List Value).toArray 7) :=
  law_start_open l hL C0 (fun D dA ad0 hL6 hb0 F h => h.elim (fun hv => law_t4 hflags C0 hL6 F hb0 hv) (fun hv => law_t5 hflags C0 hL6 F hb0 hv))
end
section
set_option maxHeartbeats 4000000 in
theorem lw_walk (l : Launch) (hflags : l.flags = flags0) (b : Addr) (xs : List Int32) : MetFree l x (headSpec (Jvm.Cond.code x code maxLocals ret :: tables_1) room_1) (lw_P b xs) (fun _ _ _ _ _ => True) lw_Q := by
  refine MetFree.of_bodyS (code := code) (maxLocals := maxLocals) (ret := ret) (by decide) ?_ ?_
  · intro args s m h hn
    obtain ⟨meth, c, h1, h2, h3, h4, h5, h6, -, -⟩ := Cond.code_spec hn (atoms_spec (ws := Jvm.Cond.code x code maxLocals ret :: tables_1) h _ List.mem_cons_self)
    exact ⟨meth, c, h1, h2, h3, h4, h5, h6⟩
  · intro p e s m args below meth c s₁ B hml0 hP _
    obtain ⟨rfl, hx, hbd, hgv⟩ := hP
    obtain ⟨scr, harrAt, hlist, hof, hsmall⟩ := hx
    obtain ⟨hcb, hkn, -, -⟩ := State.arrayAt?_spec harrAt
    have hown : s.vm.findClass R_law = some m.cls := findClass_of_methodNamed B.named
    have hts0 : ∀ c ∈ (Jvm.Cond.code x code maxLocals ret :: tables_1), c.before #[Value.ref b] s = true := atoms_spec (ws := Jvm.Cond.code x code maxLocals ret :: tables_1) B.pre
    have hts : ∀ w ∈ lw_tbl, w.before #[Value.ref b] s = true := k2_hts_sels lw_privs (fun w hw => hts0 w (List.mem_cons_of_mem _ hw)) lw_privs_ok
    have hml : c.maxLocals = 7 := B.maxLocals_eq (hts0 _ List.mem_cons_self)
    have X₀ : Stand p l e room_1 s m #[Value.ref b] below meth c s₁ [] 0 0 := Stand.of_body B
    have hh0 : s₁.heap = s.heap := by rw [B.state]; rfl
    have hsz : scr.slots.size = xs.length := by rw [← Array.length_toList, hlist, List.length_map]
    have hval : ∀ j : Nat, j < xs.length → scr.slots[j]? = some (.int (xs.getD j 0)) := fun j hj => by
      rw [← Array.getElem?_toList, hlist]
      simp [hj]
    have hbl : b < s.heap.size := (Array.getElem?_eq_some_iff.mp hcb).1
    have hX : va_X b xs.length (fun j => xs.getD j 0) s s.heap := ⟨scr, hcb, hof, hkn, hsz, hval⟩
    have K : W p l e room_1 s m #[Value.ref b] below meth c s₁.heap [] 0 0 (lw_Z below #[Value.ref b] s) (entryFrame m ([Value.ref b] : List Value).toArray 7) := by
      rw [hh0]
      exact whole_start l hflags hbd ⟨B.exec, B.bytes, B.returns, hml, hown, hts, hX, hbl, B.notSynchronized, hgv⟩
    obtain ⟨t, a1, o, b1, b2, b3⟩ := K s₁ rfl X₀
    exact ⟨t, o, a1, b1, b2, b3⟩
theorem lw_pre_spec {args : Array Value} {s : State} (h : (Jvm.Cond.and given_1 narrow_1).before args s = true) (hr : rest_1_c.before args s = true) : ∃ (b : Addr) (xs : List Int32), lw_P b xs args s := by
  have hs := flat_of_before _ h
  have hq := flat_of_before _ hr
  have hc : (Cond.count 1).before args s = true := hs _ (by decide +kernel)
  have harr : (Cond.arrayOf (.arg 0) .int).before args s = true := hs _ (by decide +kernel)
  have hle : (Cond.le (.length (.arg 0)) (.int 6)).before args s = true := hs _ (by decide +kernel)
  have hlen : (Cond.isInt (.length (.arg 0))).before args s = true := hq _ (by decide +kernel)
  have hall : (Cond.all (.arg 0) (.isInt (.elem (.arg 0) (.index 0)))).before args s = true := hq _ (by decide +kernel)
  obtain ⟨b, xs, hb, hx⟩ := State.ints_of_pre rfl harr hlen hall
  have hsm : xs.length < 2 ^ 31 := hx.choose_spec.2.2.2
  have hev : (Term.length (.arg 0)).eval args s none [] s = some (.int xs.length.toInt32) := hx.length_eval hb
  have hv := Cond.le_ints hev (show (Term.int 6).eval args s none [] s = some (.int 6) from rfl)
  have hd : xs.length.toInt32 ≤ 6 := by
    simpa [Cond.before, Cond.holds, hv] using hle
  have hN : xs.length ≤ 6 := (Int32.ofNat_le_ofNat hsm (by decide)).mp (show Int32.ofNat xs.length ≤ Int32.ofNat 6 from hd)
  exact ⟨b, xs, Cond.one_arg hc (show args[0]? = some (.ref b) from hb), hx, hN, h⟩
theorem lw_comes (l : Launch) (hflags : l.flags = flags0) : Comes l x (Jvm.Cond.code x code maxLocals ret :: tables_1) room_1 (fun tb e args s => Calls_1 tb e args s ∧ rest_1 tb e args s ∧ Pre_1 tb e args s)
    (fun _ _ args s o t => lw_Q args s o t) := by
  intro p e ha hc hk s m args below hf hfit hheap happ hpre
  obtain ⟨b, xs, hP⟩ := lw_pre_spec hpre.2.2 hpre.2.1
  obtain ⟨k, o, h1, h2, h3, hQ⟩ := lw_walk l hflags b xs p e ha hc hk s m args below hf ((Spec.applies_iff_loose hf).mp happ).1 hP trivial
  exact ⟨k, o, h1, h2, h3, hQ⟩
theorem lw_frame {s t : State} {o : Outcome} {args : Array Value} (h : Framed s o t [] 600002 7302232) :
    Framed s o t (fieldLocs frame_1_writes args s ++ arrayLocs frame_1_arrays args s ++ staticLocs frame_1_statics s) 600002 7302232 := h
theorem lw_limb (L : Cond) (hL : ∀ (args : Array Value) (s t : State), L.after args s (.returned (some (.int 1))) t = true) :
    ArmFor flags0 classFile x code maxLocals ret World_1 tables_1 room_1 Calls_1 rest_1 Pre_1
      (fun tb e a s o t => postC L tb e a s o t ∧ Framed s o t (fieldLocs frame_1_writes a s ++ arrayLocs frame_1_arrays a s ++ staticLocs frame_1_statics s) 600002 7302232) := by
  intro l hflags _ _ p e ha hc hk s m args below hf hfit hheap happ hpre
  obtain ⟨k, o, h1, h2, h3, rfl, hF⟩ := lw_comes l hflags p e ha hc hk s m args below hf hfit hheap happ hpre
  exact ⟨k, _, h1, h2, h3, hL args s _, lw_frame hF⟩
theorem i_vc : Claimed_1_1 ∧ Claimed_1_2 := ⟨lw_limb limb_1_1 (fun args s t => by simp [limb_1_1, Cond.after, Cond.holds, Cond.value]), lw_limb limb_1_2 (fun args s t => Cond.after_iff.mpr (by
  first | (rw [show limb_1_2 = Cond.eq .result (.int 1) from rfl, Cond.eq_ints (x := 1) (y := 1) rfl rfl]; simp; done) | (simp [limb_1_2, Cond.value, Term.eval]; done)))⟩
end
