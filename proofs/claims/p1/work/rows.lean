section
-- ===== PART A: goes FIRST, ahead of the names: the tables' words, and 'selects' of the private methods out of them =====
/-- a private method of a class that the tables say can be made, by its rows of tables_1 -/
def lw_okq (q : MethodName × Nat) : Prop := (q.1.cls ≠ "java/lang/invoke/MethodHandle" ∧ q.1.cls ≠ "java/lang/invoke/VarHandle") ∧ Cond.instantiable q.1.cls q.2 ∈ tables_1 ∧ Cond.privateMethod q.1 ∈ tables_1 ∧ Cond.instanceMethod q.1 ∈ tables_1
theorem lw_p0 : lw_okq (⟨"TriplicateForms$Standing", "setToStart", "()V"⟩, 10) := ⟨⟨by decide +kernel, by decide +kernel⟩, List.mem_of_getElem? (i := 134) (by decide +kernel), List.mem_of_getElem? (i := 140) (by decide +kernel), List.mem_of_getElem? (i := 141) (by decide +kernel)⟩
theorem lw_p1 : lw_okq (⟨"TriplicateForms$Roster", "forget", "()V"⟩, 9) := ⟨⟨by decide +kernel, by decide +kernel⟩, List.mem_of_getElem? (i := 87) (by decide +kernel), List.mem_of_getElem? (i := 418) (by decide +kernel), List.mem_of_getElem? (i := 419) (by decide +kernel)⟩
theorem lw_p2 : lw_okq (⟨"TriplicateForms$Tape", "readRun", "()V"⟩, 11) := ⟨⟨by decide +kernel, by decide +kernel⟩, List.mem_of_getElem? (i := 36) (by decide +kernel), List.mem_of_getElem? (i := 444) (by decide +kernel), List.mem_of_getElem? (i := 445) (by decide +kernel)⟩
theorem lw_p3 : lw_okq (⟨"TriplicateForms$Tape", "findMeaning", "()V"⟩, 11) := ⟨⟨by decide +kernel, by decide +kernel⟩, List.mem_of_getElem? (i := 36) (by decide +kernel), List.mem_of_getElem? (i := 449) (by decide +kernel), List.mem_of_getElem? (i := 450) (by decide +kernel)⟩
theorem lw_p4 : lw_okq (⟨"TriplicateForms$Roster", "readLine", "(LTriplicateForms$Tape;LTriplicateForms$Standing;)Z"⟩, 9) := ⟨⟨by decide +kernel, by decide +kernel⟩, List.mem_of_getElem? (i := 87) (by decide +kernel), List.mem_of_getElem? (i := 455) (by decide +kernel), List.mem_of_getElem? (i := 456) (by decide +kernel)⟩
theorem lw_p5 : lw_okq (⟨"TriplicateForms$Roster", "readPersonLine", "(LTriplicateForms$Tape;LTriplicateForms$Standing;)Z"⟩, 9) := ⟨⟨by decide +kernel, by decide +kernel⟩, List.mem_of_getElem? (i := 87) (by decide +kernel), List.mem_of_getElem? (i := 465) (by decide +kernel), List.mem_of_getElem? (i := 466) (by decide +kernel)⟩
theorem lw_p6 : lw_okq (⟨"TriplicateForms$Roster", "newNameRead", "(LTriplicateForms$Tape;)Z"⟩, 9) := ⟨⟨by decide +kernel, by decide +kernel⟩, List.mem_of_getElem? (i := 87) (by decide +kernel), List.mem_of_getElem? (i := 474) (by decide +kernel), List.mem_of_getElem? (i := 475) (by decide +kernel)⟩
theorem lw_p7 : lw_okq (⟨"TriplicateForms$Roster", "personNamed", "(J)I"⟩, 9) := ⟨⟨by decide +kernel, by decide +kernel⟩, List.mem_of_getElem? (i := 87) (by decide +kernel), List.mem_of_getElem? (i := 482) (by decide +kernel), List.mem_of_getElem? (i := 483) (by decide +kernel)⟩
theorem lw_p8 : lw_okq (⟨"TriplicateForms$Roster", "formNamed", "(J)I"⟩, 9) := ⟨⟨by decide +kernel, by decide +kernel⟩, List.mem_of_getElem? (i := 87) (by decide +kernel), List.mem_of_getElem? (i := 486) (by decide +kernel), List.mem_of_getElem? (i := 487) (by decide +kernel)⟩
theorem lw_p9 : lw_okq (⟨"TriplicateForms$Roster", "readGrudgeLine", "(LTriplicateForms$Tape;LTriplicateForms$Standing;)Z"⟩, 9) := ⟨⟨by decide +kernel, by decide +kernel⟩, List.mem_of_getElem? (i := 87) (by decide +kernel), List.mem_of_getElem? (i := 503) (by decide +kernel), List.mem_of_getElem? (i := 504) (by decide +kernel)⟩
theorem lw_p10 : lw_okq (⟨"TriplicateForms$Roster", "readShyLine", "(LTriplicateForms$Tape;)Z"⟩, 9) := ⟨⟨by decide +kernel, by decide +kernel⟩, List.mem_of_getElem? (i := 87) (by decide +kernel), List.mem_of_getElem? (i := 525) (by decide +kernel), List.mem_of_getElem? (i := 526) (by decide +kernel)⟩
theorem lw_p11 : lw_okq (⟨"TriplicateForms$Roster", "readFormLine", "(LTriplicateForms$Tape;)Z"⟩, 9) := ⟨⟨by decide +kernel, by decide +kernel⟩, List.mem_of_getElem? (i := 87) (by decide +kernel), List.mem_of_getElem? (i := 535) (by decide +kernel), List.mem_of_getElem? (i := 536) (by decide +kernel)⟩
theorem lw_p12 : lw_okq (⟨"TriplicateForms$Roster", "readRuleLine", "(LTriplicateForms$Tape;)Z"⟩, 9) := ⟨⟨by decide +kernel, by decide +kernel⟩, List.mem_of_getElem? (i := 87) (by decide +kernel), List.mem_of_getElem? (i := 541) (by decide +kernel), List.mem_of_getElem? (i := 542) (by decide +kernel)⟩
theorem lw_p13 : lw_okq (⟨"TriplicateForms", "attempt", "(III)I"⟩, 14) := ⟨⟨by decide +kernel, by decide +kernel⟩, List.mem_of_getElem? (i := 28) (by decide +kernel), List.mem_of_getElem? (i := 628) (by decide +kernel), List.mem_of_getElem? (i := 629) (by decide +kernel)⟩
theorem lw_p14 : lw_okq (⟨"TriplicateForms$Standing", "partWith", "(III)I"⟩, 10) := ⟨⟨by decide +kernel, by decide +kernel⟩, List.mem_of_getElem? (i := 134) (by decide +kernel), List.mem_of_getElem? (i := 649) (by decide +kernel), List.mem_of_getElem? (i := 650) (by decide +kernel)⟩
theorem lw_p15 : lw_okq (⟨"TriplicateForms$Standing", "putSignature", "(III)V"⟩, 10) := ⟨⟨by decide +kernel, by decide +kernel⟩, List.mem_of_getElem? (i := 134) (by decide +kernel), List.mem_of_getElem? (i := 673) (by decide +kernel), List.mem_of_getElem? (i := 674) (by decide +kernel)⟩
def lw_privs_1 : List (MethodName × Nat) := [(⟨"TriplicateForms$Standing", "setToStart", "()V"⟩, 10), (⟨"TriplicateForms$Roster", "forget", "()V"⟩, 9), (⟨"TriplicateForms$Tape", "readRun", "()V"⟩, 11), (⟨"TriplicateForms$Tape", "findMeaning", "()V"⟩, 11), (⟨"TriplicateForms$Roster", "readLine", "(LTriplicateForms$Tape;LTriplicateForms$Standing;)Z"⟩, 9), (⟨"TriplicateForms$Roster", "readPersonLine", "(LTriplicateForms$Tape;LTriplicateForms$Standing;)Z"⟩, 9), (⟨"TriplicateForms$Roster", "newNameRead", "(LTriplicateForms$Tape;)Z"⟩, 9), (⟨"TriplicateForms$Roster", "personNamed", "(J)I"⟩, 9), (⟨"TriplicateForms$Roster", "formNamed", "(J)I"⟩, 9), (⟨"TriplicateForms$Roster", "readGrudgeLine", "(LTriplicateForms$Tape;LTriplicateForms$Standing;)Z"⟩, 9), (⟨"TriplicateForms$Roster", "readShyLine", "(LTriplicateForms$Tape;)Z"⟩, 9), (⟨"TriplicateForms$Roster", "readFormLine", "(LTriplicateForms$Tape;)Z"⟩, 9), (⟨"TriplicateForms$Roster", "readRuleLine", "(LTriplicateForms$Tape;)Z"⟩, 9), (⟨"TriplicateForms", "attempt", "(III)I"⟩, 14), (⟨"TriplicateForms$Standing", "partWith", "(III)I"⟩, 10), (⟨"TriplicateForms$Standing", "putSignature", "(III)V"⟩, 10)]
theorem lw_r1 : ∀ q ∈ lw_privs_1, lw_okq q := List.forall_mem_cons.mpr ⟨lw_p0, List.forall_mem_cons.mpr ⟨lw_p1, List.forall_mem_cons.mpr ⟨lw_p2, List.forall_mem_cons.mpr ⟨lw_p3, List.forall_mem_cons.mpr ⟨lw_p4, List.forall_mem_cons.mpr ⟨lw_p5, List.forall_mem_cons.mpr ⟨lw_p6, List.forall_mem_cons.mpr ⟨lw_p7, List.forall_mem_cons.mpr ⟨lw_p8, List.forall_mem_cons.mpr ⟨lw_p9, List.forall_mem_cons.mpr ⟨lw_p10, List.forall_mem_cons.mpr ⟨lw_p11, List.forall_mem_cons.mpr ⟨lw_p12, List.forall_mem_cons.mpr ⟨lw_p13, List.forall_mem_cons.mpr ⟨lw_p14, List.forall_mem_cons.mpr ⟨lw_p15, fun _ h => absurd h List.not_mem_nil⟩⟩⟩⟩⟩⟩⟩⟩⟩⟩⟩⟩⟩⟩⟩⟩
theorem lw_p16 : lw_okq (⟨"TriplicateForms$Standing", "setHow", "(II)V"⟩, 10) := ⟨⟨by decide +kernel, by decide +kernel⟩, List.mem_of_getElem? (i := 134) (by decide +kernel), List.mem_of_getElem? (i := 687) (by decide +kernel), List.mem_of_getElem? (i := 688) (by decide +kernel)⟩
theorem lw_p17 : lw_okq (⟨"TriplicateForms$Standing", "openAnew", "(I)V"⟩, 10) := ⟨⟨by decide +kernel, by decide +kernel⟩, List.mem_of_getElem? (i := 134) (by decide +kernel), List.mem_of_getElem? (i := 691) (by decide +kernel), List.mem_of_getElem? (i := 692) (by decide +kernel)⟩
theorem lw_p18 : lw_okq (⟨"TriplicateForms$Standing", "goOneDay", "()V"⟩, 10) := ⟨⟨by decide +kernel, by decide +kernel⟩, List.mem_of_getElem? (i := 134) (by decide +kernel), List.mem_of_getElem? (i := 695) (by decide +kernel), List.mem_of_getElem? (i := 696) (by decide +kernel)⟩
theorem lw_p19 : lw_okq (⟨"TriplicateForms$Standing", "grant", "(I)V"⟩, 10) := ⟨⟨by decide +kernel, by decide +kernel⟩, List.mem_of_getElem? (i := 134) (by decide +kernel), List.mem_of_getElem? (i := 699) (by decide +kernel), List.mem_of_getElem? (i := 700) (by decide +kernel)⟩
theorem lw_p20 : lw_okq (⟨"TriplicateForms$Standing", "daysToSign", "(I)I"⟩, 10) := ⟨⟨by decide +kernel, by decide +kernel⟩, List.mem_of_getElem? (i := 134) (by decide +kernel), List.mem_of_getElem? (i := 761) (by decide +kernel), List.mem_of_getElem? (i := 762) (by decide +kernel)⟩
theorem lw_p21 : lw_okq (⟨"TriplicateForms$Matcher", "readSlots", "(LTriplicateForms$Standing;)V"⟩, 6) := ⟨⟨by decide +kernel, by decide +kernel⟩, List.mem_of_getElem? (i := 207) (by decide +kernel), List.mem_of_getElem? (i := 777) (by decide +kernel), List.mem_of_getElem? (i := 778) (by decide +kernel)⟩
theorem lw_p22 : lw_okq (⟨"TriplicateForms$Matcher", "mostFrom", "(II)I"⟩, 6) := ⟨⟨by decide +kernel, by decide +kernel⟩, List.mem_of_getElem? (i := 207) (by decide +kernel), List.mem_of_getElem? (i := 783) (by decide +kernel), List.mem_of_getElem? (i := 784) (by decide +kernel)⟩
theorem lw_p23 : lw_okq (⟨"TriplicateForms$Matcher", "findSlot", "(II)Z"⟩, 6) := ⟨⟨by decide +kernel, by decide +kernel⟩, List.mem_of_getElem? (i := 207) (by decide +kernel), List.mem_of_getElem? (i := 787) (by decide +kernel), List.mem_of_getElem? (i := 788) (by decide +kernel)⟩
theorem lw_p24 : lw_okq (⟨"TriplicateForms$Matcher", "slotOf", "(II)I"⟩, 6) := ⟨⟨by decide +kernel, by decide +kernel⟩, List.mem_of_getElem? (i := 207) (by decide +kernel), List.mem_of_getElem? (i := 791) (by decide +kernel), List.mem_of_getElem? (i := 792) (by decide +kernel)⟩
theorem lw_p25 : lw_okq (⟨"TriplicateForms$Matcher", "canBeLeft", "(II)Z"⟩, 6) := ⟨⟨by decide +kernel, by decide +kernel⟩, List.mem_of_getElem? (i := 207) (by decide +kernel), List.mem_of_getElem? (i := 798) (by decide +kernel), List.mem_of_getElem? (i := 799) (by decide +kernel)⟩
theorem lw_p26 : lw_okq (⟨"TriplicateForms$Adviser", "readThirds", "(LTriplicateForms$Standing;)I"⟩, 3) := ⟨⟨by decide +kernel, by decide +kernel⟩, List.mem_of_getElem? (i := 233) (by decide +kernel), List.mem_of_getElem? (i := 845) (by decide +kernel), List.mem_of_getElem? (i := 846) (by decide +kernel)⟩
theorem lw_p27 : lw_okq (⟨"TriplicateForms$Adviser", "coversAll", "(II)Z"⟩, 3) := ⟨⟨by decide +kernel, by decide +kernel⟩, List.mem_of_getElem? (i := 233) (by decide +kernel), List.mem_of_getElem? (i := 860) (by decide +kernel), List.mem_of_getElem? (i := 861) (by decide +kernel)⟩
theorem lw_p28 : lw_okq (⟨"TriplicateForms$Stamp", "putName", "(J)V"⟩, 2) := ⟨⟨by decide +kernel, by decide +kernel⟩, List.mem_of_getElem? (i := 251) (by decide +kernel), List.mem_of_getElem? (i := 905) (by decide +kernel), List.mem_of_getElem? (i := 906) (by decide +kernel)⟩
theorem lw_p29 : lw_okq (⟨"TriplicateForms$Stamp", "putSign", "(C)V"⟩, 2) := ⟨⟨by decide +kernel, by decide +kernel⟩, List.mem_of_getElem? (i := 251) (by decide +kernel), List.mem_of_getElem? (i := 909) (by decide +kernel), List.mem_of_getElem? (i := 910) (by decide +kernel)⟩
theorem lw_p30 : lw_okq (⟨"TriplicateForms$Stamp", "putText", "(Ljava/lang/String;)V"⟩, 2) := ⟨⟨by decide +kernel, by decide +kernel⟩, List.mem_of_getElem? (i := 251) (by decide +kernel), List.mem_of_getElem? (i := 915) (by decide +kernel), List.mem_of_getElem? (i := 916) (by decide +kernel)⟩
theorem lw_p31 : lw_okq (⟨"TriplicateForms$Stamp", "putWants", "(LTriplicateForms$Standing;I)V"⟩, 2) := ⟨⟨by decide +kernel, by decide +kernel⟩, List.mem_of_getElem? (i := 251) (by decide +kernel), List.mem_of_getElem? (i := 969) (by decide +kernel), List.mem_of_getElem? (i := 970) (by decide +kernel)⟩
def lw_privs_2 : List (MethodName × Nat) := [(⟨"TriplicateForms$Standing", "setHow", "(II)V"⟩, 10), (⟨"TriplicateForms$Standing", "openAnew", "(I)V"⟩, 10), (⟨"TriplicateForms$Standing", "goOneDay", "()V"⟩, 10), (⟨"TriplicateForms$Standing", "grant", "(I)V"⟩, 10), (⟨"TriplicateForms$Standing", "daysToSign", "(I)I"⟩, 10), (⟨"TriplicateForms$Matcher", "readSlots", "(LTriplicateForms$Standing;)V"⟩, 6), (⟨"TriplicateForms$Matcher", "mostFrom", "(II)I"⟩, 6), (⟨"TriplicateForms$Matcher", "findSlot", "(II)Z"⟩, 6), (⟨"TriplicateForms$Matcher", "slotOf", "(II)I"⟩, 6), (⟨"TriplicateForms$Matcher", "canBeLeft", "(II)Z"⟩, 6), (⟨"TriplicateForms$Adviser", "readThirds", "(LTriplicateForms$Standing;)I"⟩, 3), (⟨"TriplicateForms$Adviser", "coversAll", "(II)Z"⟩, 3), (⟨"TriplicateForms$Stamp", "putName", "(J)V"⟩, 2), (⟨"TriplicateForms$Stamp", "putSign", "(C)V"⟩, 2), (⟨"TriplicateForms$Stamp", "putText", "(Ljava/lang/String;)V"⟩, 2), (⟨"TriplicateForms$Stamp", "putWants", "(LTriplicateForms$Standing;I)V"⟩, 2)]
theorem lw_r2 : ∀ q ∈ lw_privs_2, lw_okq q := List.forall_mem_cons.mpr ⟨lw_p16, List.forall_mem_cons.mpr ⟨lw_p17, List.forall_mem_cons.mpr ⟨lw_p18, List.forall_mem_cons.mpr ⟨lw_p19, List.forall_mem_cons.mpr ⟨lw_p20, List.forall_mem_cons.mpr ⟨lw_p21, List.forall_mem_cons.mpr ⟨lw_p22, List.forall_mem_cons.mpr ⟨lw_p23, List.forall_mem_cons.mpr ⟨lw_p24, List.forall_mem_cons.mpr ⟨lw_p25, List.forall_mem_cons.mpr ⟨lw_p26, List.forall_mem_cons.mpr ⟨lw_p27, List.forall_mem_cons.mpr ⟨lw_p28, List.forall_mem_cons.mpr ⟨lw_p29, List.forall_mem_cons.mpr ⟨lw_p30, List.forall_mem_cons.mpr ⟨lw_p31, fun _ h => absurd h List.not_mem_nil⟩⟩⟩⟩⟩⟩⟩⟩⟩⟩⟩⟩⟩⟩⟩⟩
theorem lw_p32 : lw_okq (⟨"TriplicateForms$Standing", "draw", "(I)I"⟩, 10) := ⟨⟨by decide +kernel, by decide +kernel⟩, List.mem_of_getElem? (i := 134) (by decide +kernel), List.mem_of_getElem? (i := 997) (by decide +kernel), List.mem_of_getElem? (i := 998) (by decide +kernel)⟩
theorem lw_p33 : lw_okq (⟨"TriplicateForms$Standing", "performIfPossible", "(III)V"⟩, 10) := ⟨⟨by decide +kernel, by decide +kernel⟩, List.mem_of_getElem? (i := 134) (by decide +kernel), List.mem_of_getElem? (i := 1002) (by decide +kernel), List.mem_of_getElem? (i := 1003) (by decide +kernel)⟩
theorem lw_p34 : lw_okq (⟨"TriplicateForms$Book", "readLine", "(LTriplicateForms$Tape;LTriplicateForms$Roster;)Z"⟩, 9) := ⟨⟨by decide +kernel, by decide +kernel⟩, List.mem_of_getElem? (i := 266) (by decide +kernel), List.mem_of_getElem? (i := 1022) (by decide +kernel), List.mem_of_getElem? (i := 1023) (by decide +kernel)⟩
theorem lw_p35 : lw_okq (⟨"TriplicateForms$Book", "begin", "(LTriplicateForms$Tape;I)Z"⟩, 9) := ⟨⟨by decide +kernel, by decide +kernel⟩, List.mem_of_getElem? (i := 266) (by decide +kernel), List.mem_of_getElem? (i := 1029) (by decide +kernel), List.mem_of_getElem? (i := 1030) (by decide +kernel)⟩
theorem lw_p36 : lw_okq (⟨"TriplicateForms$Book", "readForm", "(LTriplicateForms$Tape;LTriplicateForms$Roster;[I)Z"⟩, 9) := ⟨⟨by decide +kernel, by decide +kernel⟩, List.mem_of_getElem? (i := 266) (by decide +kernel), List.mem_of_getElem? (i := 1035) (by decide +kernel), List.mem_of_getElem? (i := 1036) (by decide +kernel)⟩
theorem lw_p37 : lw_okq (⟨"TriplicateForms$Book", "keep", "([II)V"⟩, 9) := ⟨⟨by decide +kernel, by decide +kernel⟩, List.mem_of_getElem? (i := 266) (by decide +kernel), List.mem_of_getElem? (i := 1043) (by decide +kernel), List.mem_of_getElem? (i := 1044) (by decide +kernel)⟩
theorem lw_p38 : lw_okq (⟨"TriplicateForms$Book", "endLine", "(LTriplicateForms$Tape;)Z"⟩, 9) := ⟨⟨by decide +kernel, by decide +kernel⟩, List.mem_of_getElem? (i := 266) (by decide +kernel), List.mem_of_getElem? (i := 1047) (by decide +kernel), List.mem_of_getElem? (i := 1048) (by decide +kernel)⟩
theorem lw_p39 : lw_okq (⟨"TriplicateForms$Book", "readDays", "(LTriplicateForms$Tape;)Z"⟩, 9) := ⟨⟨by decide +kernel, by decide +kernel⟩, List.mem_of_getElem? (i := 266) (by decide +kernel), List.mem_of_getElem? (i := 1056) (by decide +kernel), List.mem_of_getElem? (i := 1057) (by decide +kernel)⟩
theorem lw_p40 : lw_okq (⟨"TriplicateForms$Book", "readDeed", "(LTriplicateForms$Tape;LTriplicateForms$Roster;)Z"⟩, 9) := ⟨⟨by decide +kernel, by decide +kernel⟩, List.mem_of_getElem? (i := 266) (by decide +kernel), List.mem_of_getElem? (i := 1062) (by decide +kernel), List.mem_of_getElem? (i := 1063) (by decide +kernel)⟩
theorem lw_p41 : lw_okq (⟨"TriplicateForms$Book", "setAct", "(LTriplicateForms$Tape;I)Z"⟩, 9) := ⟨⟨by decide +kernel, by decide +kernel⟩, List.mem_of_getElem? (i := 266) (by decide +kernel), List.mem_of_getElem? (i := 1068) (by decide +kernel), List.mem_of_getElem? (i := 1069) (by decide +kernel)⟩
theorem lw_p42 : lw_okq (⟨"TriplicateForms$Book", "readPerson", "(LTriplicateForms$Tape;LTriplicateForms$Roster;[I)Z"⟩, 9) := ⟨⟨by decide +kernel, by decide +kernel⟩, List.mem_of_getElem? (i := 266) (by decide +kernel), List.mem_of_getElem? (i := 1074) (by decide +kernel), List.mem_of_getElem? (i := 1075) (by decide +kernel)⟩
theorem lw_p43 : lw_okq (⟨"TriplicateForms$Sentence", "readCond", "(LTriplicateForms$Tape;LTriplicateForms$Roster;I)Z"⟩, 6) := ⟨⟨by decide +kernel, by decide +kernel⟩, List.mem_of_getElem? (i := 301) (by decide +kernel), List.mem_of_getElem? (i := 1109) (by decide +kernel), List.mem_of_getElem? (i := 1110) (by decide +kernel)⟩
theorem lw_p44 : lw_okq (⟨"TriplicateForms$Sentence", "readOne", "(LTriplicateForms$Tape;LTriplicateForms$Roster;I)Z"⟩, 6) := ⟨⟨by decide +kernel, by decide +kernel⟩, List.mem_of_getElem? (i := 301) (by decide +kernel), List.mem_of_getElem? (i := 1113) (by decide +kernel), List.mem_of_getElem? (i := 1114) (by decide +kernel)⟩
theorem lw_p45 : lw_okq (⟨"TriplicateForms$Sentence", "readOuterOne", "(LTriplicateForms$Tape;LTriplicateForms$Roster;I)Z"⟩, 6) := ⟨⟨by decide +kernel, by decide +kernel⟩, List.mem_of_getElem? (i := 301) (by decide +kernel), List.mem_of_getElem? (i := 1150) (by decide +kernel), List.mem_of_getElem? (i := 1151) (by decide +kernel)⟩
theorem lw_p46 : lw_okq (⟨"TriplicateForms$Sentence", "write", "(III)Z"⟩, 6) := ⟨⟨by decide +kernel, by decide +kernel⟩, List.mem_of_getElem? (i := 301) (by decide +kernel), List.mem_of_getElem? (i := 1155) (by decide +kernel), List.mem_of_getElem? (i := 1156) (by decide +kernel)⟩
theorem lw_p47 : lw_okq (⟨"TriplicateForms$Sentence", "readPersonsOne", "(LTriplicateForms$Tape;LTriplicateForms$Roster;LTriplicateForms$Word;)Z"⟩, 6) := ⟨⟨by decide +kernel, by decide +kernel⟩, List.mem_of_getElem? (i := 301) (by decide +kernel), List.mem_of_getElem? (i := 1159) (by decide +kernel), List.mem_of_getElem? (i := 1160) (by decide +kernel)⟩
def lw_privs_3 : List (MethodName × Nat) := [(⟨"TriplicateForms$Standing", "draw", "(I)I"⟩, 10), (⟨"TriplicateForms$Standing", "performIfPossible", "(III)V"⟩, 10), (⟨"TriplicateForms$Book", "readLine", "(LTriplicateForms$Tape;LTriplicateForms$Roster;)Z"⟩, 9), (⟨"TriplicateForms$Book", "begin", "(LTriplicateForms$Tape;I)Z"⟩, 9), (⟨"TriplicateForms$Book", "readForm", "(LTriplicateForms$Tape;LTriplicateForms$Roster;[I)Z"⟩, 9), (⟨"TriplicateForms$Book", "keep", "([II)V"⟩, 9), (⟨"TriplicateForms$Book", "endLine", "(LTriplicateForms$Tape;)Z"⟩, 9), (⟨"TriplicateForms$Book", "readDays", "(LTriplicateForms$Tape;)Z"⟩, 9), (⟨"TriplicateForms$Book", "readDeed", "(LTriplicateForms$Tape;LTriplicateForms$Roster;)Z"⟩, 9), (⟨"TriplicateForms$Book", "setAct", "(LTriplicateForms$Tape;I)Z"⟩, 9), (⟨"TriplicateForms$Book", "readPerson", "(LTriplicateForms$Tape;LTriplicateForms$Roster;[I)Z"⟩, 9), (⟨"TriplicateForms$Sentence", "readCond", "(LTriplicateForms$Tape;LTriplicateForms$Roster;I)Z"⟩, 6), (⟨"TriplicateForms$Sentence", "readOne", "(LTriplicateForms$Tape;LTriplicateForms$Roster;I)Z"⟩, 6), (⟨"TriplicateForms$Sentence", "readOuterOne", "(LTriplicateForms$Tape;LTriplicateForms$Roster;I)Z"⟩, 6), (⟨"TriplicateForms$Sentence", "write", "(III)Z"⟩, 6), (⟨"TriplicateForms$Sentence", "readPersonsOne", "(LTriplicateForms$Tape;LTriplicateForms$Roster;LTriplicateForms$Word;)Z"⟩, 6)]
theorem lw_r3 : ∀ q ∈ lw_privs_3, lw_okq q := List.forall_mem_cons.mpr ⟨lw_p32, List.forall_mem_cons.mpr ⟨lw_p33, List.forall_mem_cons.mpr ⟨lw_p34, List.forall_mem_cons.mpr ⟨lw_p35, List.forall_mem_cons.mpr ⟨lw_p36, List.forall_mem_cons.mpr ⟨lw_p37, List.forall_mem_cons.mpr ⟨lw_p38, List.forall_mem_cons.mpr ⟨lw_p39, List.forall_mem_cons.mpr ⟨lw_p40, List.forall_mem_cons.mpr ⟨lw_p41, List.forall_mem_cons.mpr ⟨lw_p42, List.forall_mem_cons.mpr ⟨lw_p43, List.forall_mem_cons.mpr ⟨lw_p44, List.forall_mem_cons.mpr ⟨lw_p45, List.forall_mem_cons.mpr ⟨lw_p46, List.forall_mem_cons.mpr ⟨lw_p47, fun _ h => absurd h List.not_mem_nil⟩⟩⟩⟩⟩⟩⟩⟩⟩⟩⟩⟩⟩⟩⟩⟩
theorem lw_p48 : lw_okq (⟨"TriplicateForms$Sentence", "readNumbersOne", "(LTriplicateForms$Tape;LTriplicateForms$Word;)Z"⟩, 6) := ⟨⟨by decide +kernel, by decide +kernel⟩, List.mem_of_getElem? (i := 301) (by decide +kernel), List.mem_of_getElem? (i := 1164) (by decide +kernel), List.mem_of_getElem? (i := 1165) (by decide +kernel)⟩
theorem lw_p49 : lw_okq (⟨"TriplicateForms$Sentence", "formsWith", "(LTriplicateForms$Standing;I)I"⟩, 6) := ⟨⟨by decide +kernel, by decide +kernel⟩, List.mem_of_getElem? (i := 301) (by decide +kernel), List.mem_of_getElem? (i := 1185) (by decide +kernel), List.mem_of_getElem? (i := 1186) (by decide +kernel)⟩
theorem lw_p50 : lw_okq (⟨"TriplicateForms$Sentence", "isSo", "(LTriplicateForms$Standing;II)Z"⟩, 6) := ⟨⟨by decide +kernel, by decide +kernel⟩, List.mem_of_getElem? (i := 301) (by decide +kernel), List.mem_of_getElem? (i := 1189) (by decide +kernel), List.mem_of_getElem? (i := 1190) (by decide +kernel)⟩
theorem lw_p51 : lw_okq (⟨"java/lang/Throwable", "fillInStackTrace", "(I)Ljava/lang/Throwable;"⟩, 6) := ⟨⟨by decide +kernel, by decide +kernel⟩, List.mem_of_getElem? (i := 1271) (by decide +kernel), List.mem_of_getElem? (i := 1269) (by decide +kernel), List.mem_of_getElem? (i := 1270) (by decide +kernel)⟩
theorem lw_p52 : lw_okq (⟨"TriplicateFormsModel", "come", "(I)V"⟩, 45) := ⟨⟨by decide +kernel, by decide +kernel⟩, List.mem_of_getElem? (i := 1332) (by decide +kernel), List.mem_of_getElem? (i := 1330) (by decide +kernel), List.mem_of_getElem? (i := 1331) (by decide +kernel)⟩
theorem lw_p53 : lw_okq (⟨"TriplicateFormsModel", "startSo", "()V"⟩, 45) := ⟨⟨by decide +kernel, by decide +kernel⟩, List.mem_of_getElem? (i := 1332) (by decide +kernel), List.mem_of_getElem? (i := 1344) (by decide +kernel), List.mem_of_getElem? (i := 1345) (by decide +kernel)⟩
theorem lw_p54 : lw_okq (⟨"TriplicateFormsModel", "openForm", "(I)V"⟩, 45) := ⟨⟨by decide +kernel, by decide +kernel⟩, List.mem_of_getElem? (i := 1332) (by decide +kernel), List.mem_of_getElem? (i := 1348) (by decide +kernel), List.mem_of_getElem? (i := 1349) (by decide +kernel)⟩
theorem lw_p55 : lw_okq (⟨"TriplicateFormsModel", "begin", "(I)V"⟩, 45) := ⟨⟨by decide +kernel, by decide +kernel⟩, List.mem_of_getElem? (i := 1332) (by decide +kernel), List.mem_of_getElem? (i := 1493) (by decide +kernel), List.mem_of_getElem? (i := 1494) (by decide +kernel)⟩
theorem lw_p56 : lw_okq (⟨"TriplicateFormsModel", "take", "()I"⟩, 45) := ⟨⟨by decide +kernel, by decide +kernel⟩, List.mem_of_getElem? (i := 1332) (by decide +kernel), List.mem_of_getElem? (i := 1497) (by decide +kernel), List.mem_of_getElem? (i := 1498) (by decide +kernel)⟩
theorem lw_p57 : lw_okq (⟨"TriplicateFormsModel", "go", "()V"⟩, 45) := ⟨⟨by decide +kernel, by decide +kernel⟩, List.mem_of_getElem? (i := 1332) (by decide +kernel), List.mem_of_getElem? (i := 1501) (by decide +kernel), List.mem_of_getElem? (i := 1502) (by decide +kernel)⟩
theorem lw_p58 : lw_okq (⟨"TriplicateFormsModel", "tapeAt", "(I)I"⟩, 45) := ⟨⟨by decide +kernel, by decide +kernel⟩, List.mem_of_getElem? (i := 1332) (by decide +kernel), List.mem_of_getElem? (i := 1511) (by decide +kernel), List.mem_of_getElem? (i := 1512) (by decide +kernel)⟩
theorem lw_p59 : lw_okq (⟨"TriplicateFormsModel", "readLine", "()Z"⟩, 45) := ⟨⟨by decide +kernel, by decide +kernel⟩, List.mem_of_getElem? (i := 1332) (by decide +kernel), List.mem_of_getElem? (i := 1517) (by decide +kernel), List.mem_of_getElem? (i := 1518) (by decide +kernel)⟩
theorem lw_p60 : lw_okq (⟨"TriplicateFormsModel", "isWord", "(I)Z"⟩, 45) := ⟨⟨by decide +kernel, by decide +kernel⟩, List.mem_of_getElem? (i := 1332) (by decide +kernel), List.mem_of_getElem? (i := 1521) (by decide +kernel), List.mem_of_getElem? (i := 1522) (by decide +kernel)⟩
theorem lw_p61 : lw_okq (⟨"TriplicateFormsModel", "readPerson", "()Z"⟩, 45) := ⟨⟨by decide +kernel, by decide +kernel⟩, List.mem_of_getElem? (i := 1332) (by decide +kernel), List.mem_of_getElem? (i := 1531) (by decide +kernel), List.mem_of_getElem? (i := 1532) (by decide +kernel)⟩
theorem lw_p62 : lw_okq (⟨"TriplicateFormsModel", "readFirst", "(II)Z"⟩, 45) := ⟨⟨by decide +kernel, by decide +kernel⟩, List.mem_of_getElem? (i := 1332) (by decide +kernel), List.mem_of_getElem? (i := 1535) (by decide +kernel), List.mem_of_getElem? (i := 1536) (by decide +kernel)⟩
theorem lw_p63 : lw_okq (⟨"TriplicateFormsModel", "bad", "(I)Z"⟩, 45) := ⟨⟨by decide +kernel, by decide +kernel⟩, List.mem_of_getElem? (i := 1332) (by decide +kernel), List.mem_of_getElem? (i := 1539) (by decide +kernel), List.mem_of_getElem? (i := 1540) (by decide +kernel)⟩
def lw_privs_4 : List (MethodName × Nat) := [(⟨"TriplicateForms$Sentence", "readNumbersOne", "(LTriplicateForms$Tape;LTriplicateForms$Word;)Z"⟩, 6), (⟨"TriplicateForms$Sentence", "formsWith", "(LTriplicateForms$Standing;I)I"⟩, 6), (⟨"TriplicateForms$Sentence", "isSo", "(LTriplicateForms$Standing;II)Z"⟩, 6), (⟨"java/lang/Throwable", "fillInStackTrace", "(I)Ljava/lang/Throwable;"⟩, 6), (⟨"TriplicateFormsModel", "come", "(I)V"⟩, 45), (⟨"TriplicateFormsModel", "startSo", "()V"⟩, 45), (⟨"TriplicateFormsModel", "openForm", "(I)V"⟩, 45), (⟨"TriplicateFormsModel", "begin", "(I)V"⟩, 45), (⟨"TriplicateFormsModel", "take", "()I"⟩, 45), (⟨"TriplicateFormsModel", "go", "()V"⟩, 45), (⟨"TriplicateFormsModel", "tapeAt", "(I)I"⟩, 45), (⟨"TriplicateFormsModel", "readLine", "()Z"⟩, 45), (⟨"TriplicateFormsModel", "isWord", "(I)Z"⟩, 45), (⟨"TriplicateFormsModel", "readPerson", "()Z"⟩, 45), (⟨"TriplicateFormsModel", "readFirst", "(II)Z"⟩, 45), (⟨"TriplicateFormsModel", "bad", "(I)Z"⟩, 45)]
theorem lw_r4 : ∀ q ∈ lw_privs_4, lw_okq q := List.forall_mem_cons.mpr ⟨lw_p48, List.forall_mem_cons.mpr ⟨lw_p49, List.forall_mem_cons.mpr ⟨lw_p50, List.forall_mem_cons.mpr ⟨lw_p51, List.forall_mem_cons.mpr ⟨lw_p52, List.forall_mem_cons.mpr ⟨lw_p53, List.forall_mem_cons.mpr ⟨lw_p54, List.forall_mem_cons.mpr ⟨lw_p55, List.forall_mem_cons.mpr ⟨lw_p56, List.forall_mem_cons.mpr ⟨lw_p57, List.forall_mem_cons.mpr ⟨lw_p58, List.forall_mem_cons.mpr ⟨lw_p59, List.forall_mem_cons.mpr ⟨lw_p60, List.forall_mem_cons.mpr ⟨lw_p61, List.forall_mem_cons.mpr ⟨lw_p62, List.forall_mem_cons.mpr ⟨lw_p63, fun _ h => absurd h List.not_mem_nil⟩⟩⟩⟩⟩⟩⟩⟩⟩⟩⟩⟩⟩⟩⟩⟩
theorem lw_p64 : lw_okq (⟨"TriplicateFormsModel", "readNew", "(I)Z"⟩, 45) := ⟨⟨by decide +kernel, by decide +kernel⟩, List.mem_of_getElem? (i := 1332) (by decide +kernel), List.mem_of_getElem? (i := 1543) (by decide +kernel), List.mem_of_getElem? (i := 1544) (by decide +kernel)⟩
theorem lw_p65 : lw_okq (⟨"TriplicateFormsModel", "isName", "()Z"⟩, 45) := ⟨⟨by decide +kernel, by decide +kernel⟩, List.mem_of_getElem? (i := 1332) (by decide +kernel), List.mem_of_getElem? (i := 1547) (by decide +kernel), List.mem_of_getElem? (i := 1548) (by decide +kernel)⟩
theorem lw_p66 : lw_okq (⟨"TriplicateFormsModel", "readGrudge", "()Z"⟩, 45) := ⟨⟨by decide +kernel, by decide +kernel⟩, List.mem_of_getElem? (i := 1332) (by decide +kernel), List.mem_of_getElem? (i := 1554) (by decide +kernel), List.mem_of_getElem? (i := 1555) (by decide +kernel)⟩
theorem lw_p67 : lw_okq (⟨"TriplicateFormsModel", "readPair", "()I"⟩, 45) := ⟨⟨by decide +kernel, by decide +kernel⟩, List.mem_of_getElem? (i := 1332) (by decide +kernel), List.mem_of_getElem? (i := 1558) (by decide +kernel), List.mem_of_getElem? (i := 1559) (by decide +kernel)⟩
theorem lw_p68 : lw_okq (⟨"TriplicateFormsModel", "isOne", "()Z"⟩, 45) := ⟨⟨by decide +kernel, by decide +kernel⟩, List.mem_of_getElem? (i := 1332) (by decide +kernel), List.mem_of_getElem? (i := 1562) (by decide +kernel), List.mem_of_getElem? (i := 1563) (by decide +kernel)⟩
theorem lw_p69 : lw_okq (⟨"TriplicateFormsModel", "readNumber", "(II)Z"⟩, 45) := ⟨⟨by decide +kernel, by decide +kernel⟩, List.mem_of_getElem? (i := 1332) (by decide +kernel), List.mem_of_getElem? (i := 1566) (by decide +kernel), List.mem_of_getElem? (i := 1567) (by decide +kernel)⟩
theorem lw_p70 : lw_okq (⟨"TriplicateFormsModel", "put", "(IZ)Z"⟩, 45) := ⟨⟨by decide +kernel, by decide +kernel⟩, List.mem_of_getElem? (i := 1332) (by decide +kernel), List.mem_of_getElem? (i := 1573) (by decide +kernel), List.mem_of_getElem? (i := 1574) (by decide +kernel)⟩
theorem lw_p71 : lw_okq (⟨"TriplicateFormsModel", "readShy", "()Z"⟩, 45) := ⟨⟨by decide +kernel, by decide +kernel⟩, List.mem_of_getElem? (i := 1332) (by decide +kernel), List.mem_of_getElem? (i := 1577) (by decide +kernel), List.mem_of_getElem? (i := 1578) (by decide +kernel)⟩
theorem lw_p72 : lw_okq (⟨"TriplicateFormsModel", "readForm", "()Z"⟩, 45) := ⟨⟨by decide +kernel, by decide +kernel⟩, List.mem_of_getElem? (i := 1332) (by decide +kernel), List.mem_of_getElem? (i := 1584) (by decide +kernel), List.mem_of_getElem? (i := 1585) (by decide +kernel)⟩
theorem lw_p73 : lw_okq (⟨"TriplicateFormsModel", "readRule", "()Z"⟩, 45) := ⟨⟨by decide +kernel, by decide +kernel⟩, List.mem_of_getElem? (i := 1332) (by decide +kernel), List.mem_of_getElem? (i := 1588) (by decide +kernel), List.mem_of_getElem? (i := 1589) (by decide +kernel)⟩
theorem lw_p74 : lw_okq (⟨"TriplicateFormsModel", "readEnd", "()Z"⟩, 45) := ⟨⟨by decide +kernel, by decide +kernel⟩, List.mem_of_getElem? (i := 1332) (by decide +kernel), List.mem_of_getElem? (i := 1592) (by decide +kernel), List.mem_of_getElem? (i := 1593) (by decide +kernel)⟩
theorem lw_p75 : lw_okq (⟨"TriplicateFormsModel", "isSign", "(I)Z"⟩, 45) := ⟨⟨by decide +kernel, by decide +kernel⟩, List.mem_of_getElem? (i := 1332) (by decide +kernel), List.mem_of_getElem? (i := 1596) (by decide +kernel), List.mem_of_getElem? (i := 1597) (by decide +kernel)⟩
theorem lw_p76 : lw_okq (⟨"TriplicateFormsModel", "isForm", "(I)Z"⟩, 45) := ⟨⟨by decide +kernel, by decide +kernel⟩, List.mem_of_getElem? (i := 1332) (by decide +kernel), List.mem_of_getElem? (i := 1608) (by decide +kernel), List.mem_of_getElem? (i := 1609) (by decide +kernel)⟩
theorem lw_p77 : lw_okq (⟨"TriplicateFormsModel", "refuse", "()I"⟩, 45) := ⟨⟨by decide +kernel, by decide +kernel⟩, List.mem_of_getElem? (i := 1332) (by decide +kernel), List.mem_of_getElem? (i := 1612) (by decide +kernel), List.mem_of_getElem? (i := 1613) (by decide +kernel)⟩
theorem lw_p78 : lw_okq (⟨"TriplicateFormsModel", "hurtOf", "(I)I"⟩, 45) := ⟨⟨by decide +kernel, by decide +kernel⟩, List.mem_of_getElem? (i := 1332) (by decide +kernel), List.mem_of_getElem? (i := 1616) (by decide +kernel), List.mem_of_getElem? (i := 1617) (by decide +kernel)⟩
theorem lw_p79 : lw_okq (⟨"TriplicateFormsModel", "signedOf", "(II)I"⟩, 45) := ⟨⟨by decide +kernel, by decide +kernel⟩, List.mem_of_getElem? (i := 1332) (by decide +kernel), List.mem_of_getElem? (i := 1620) (by decide +kernel), List.mem_of_getElem? (i := 1621) (by decide +kernel)⟩
def lw_privs_5 : List (MethodName × Nat) := [(⟨"TriplicateFormsModel", "readNew", "(I)Z"⟩, 45), (⟨"TriplicateFormsModel", "isName", "()Z"⟩, 45), (⟨"TriplicateFormsModel", "readGrudge", "()Z"⟩, 45), (⟨"TriplicateFormsModel", "readPair", "()I"⟩, 45), (⟨"TriplicateFormsModel", "isOne", "()Z"⟩, 45), (⟨"TriplicateFormsModel", "readNumber", "(II)Z"⟩, 45), (⟨"TriplicateFormsModel", "put", "(IZ)Z"⟩, 45), (⟨"TriplicateFormsModel", "readShy", "()Z"⟩, 45), (⟨"TriplicateFormsModel", "readForm", "()Z"⟩, 45), (⟨"TriplicateFormsModel", "readRule", "()Z"⟩, 45), (⟨"TriplicateFormsModel", "readEnd", "()Z"⟩, 45), (⟨"TriplicateFormsModel", "isSign", "(I)Z"⟩, 45), (⟨"TriplicateFormsModel", "isForm", "(I)Z"⟩, 45), (⟨"TriplicateFormsModel", "refuse", "()I"⟩, 45), (⟨"TriplicateFormsModel", "hurtOf", "(I)I"⟩, 45), (⟨"TriplicateFormsModel", "signedOf", "(II)I"⟩, 45)]
theorem lw_r5 : ∀ q ∈ lw_privs_5, lw_okq q := List.forall_mem_cons.mpr ⟨lw_p64, List.forall_mem_cons.mpr ⟨lw_p65, List.forall_mem_cons.mpr ⟨lw_p66, List.forall_mem_cons.mpr ⟨lw_p67, List.forall_mem_cons.mpr ⟨lw_p68, List.forall_mem_cons.mpr ⟨lw_p69, List.forall_mem_cons.mpr ⟨lw_p70, List.forall_mem_cons.mpr ⟨lw_p71, List.forall_mem_cons.mpr ⟨lw_p72, List.forall_mem_cons.mpr ⟨lw_p73, List.forall_mem_cons.mpr ⟨lw_p74, List.forall_mem_cons.mpr ⟨lw_p75, List.forall_mem_cons.mpr ⟨lw_p76, List.forall_mem_cons.mpr ⟨lw_p77, List.forall_mem_cons.mpr ⟨lw_p78, List.forall_mem_cons.mpr ⟨lw_p79, fun _ h => absurd h List.not_mem_nil⟩⟩⟩⟩⟩⟩⟩⟩⟩⟩⟩⟩⟩⟩⟩⟩
theorem lw_p80 : lw_okq (⟨"TriplicateFormsModel", "hurtFree", "(I)I"⟩, 45) := ⟨⟨by decide +kernel, by decide +kernel⟩, List.mem_of_getElem? (i := 1332) (by decide +kernel), List.mem_of_getElem? (i := 1624) (by decide +kernel), List.mem_of_getElem? (i := 1625) (by decide +kernel)⟩
theorem lw_p81 : lw_okq (⟨"TriplicateFormsModel", "grudgeOf", "(II)I"⟩, 45) := ⟨⟨by decide +kernel, by decide +kernel⟩, List.mem_of_getElem? (i := 1332) (by decide +kernel), List.mem_of_getElem? (i := 1628) (by decide +kernel), List.mem_of_getElem? (i := 1629) (by decide +kernel)⟩
theorem lw_p82 : lw_okq (⟨"TriplicateFormsModel", "isPerson", "(I)Z"⟩, 45) := ⟨⟨by decide +kernel, by decide +kernel⟩, List.mem_of_getElem? (i := 1332) (by decide +kernel), List.mem_of_getElem? (i := 1636) (by decide +kernel), List.mem_of_getElem? (i := 1637) (by decide +kernel)⟩
theorem lw_p83 : lw_okq (⟨"TriplicateFormsModel", "isRetired", "(I)Z"⟩, 45) := ⟨⟨by decide +kernel, by decide +kernel⟩, List.mem_of_getElem? (i := 1332) (by decide +kernel), List.mem_of_getElem? (i := 1640) (by decide +kernel), List.mem_of_getElem? (i := 1641) (by decide +kernel)⟩
theorem lw_p84 : lw_okq (⟨"TriplicateFormsModel", "sum", "(II)I"⟩, 45) := ⟨⟨by decide +kernel, by decide +kernel⟩, List.mem_of_getElem? (i := 1332) (by decide +kernel), List.mem_of_getElem? (i := 1644) (by decide +kernel), List.mem_of_getElem? (i := 1645) (by decide +kernel)⟩
theorem lw_p85 : lw_okq (⟨"TriplicateFormsModel", "those", "(I)I"⟩, 45) := ⟨⟨by decide +kernel, by decide +kernel⟩, List.mem_of_getElem? (i := 1332) (by decide +kernel), List.mem_of_getElem? (i := 1656) (by decide +kernel), List.mem_of_getElem? (i := 1657) (by decide +kernel)⟩
theorem lw_p86 : lw_okq (⟨"TriplicateFormsModel", "isClear", "(I)Z"⟩, 45) := ⟨⟨by decide +kernel, by decide +kernel⟩, List.mem_of_getElem? (i := 1332) (by decide +kernel), List.mem_of_getElem? (i := 1660) (by decide +kernel), List.mem_of_getElem? (i := 1661) (by decide +kernel)⟩
theorem lw_p87 : lw_okq (⟨"TriplicateFormsModel", "act", "(IIIZ)I"⟩, 45) := ⟨⟨by decide +kernel, by decide +kernel⟩, List.mem_of_getElem? (i := 1332) (by decide +kernel), List.mem_of_getElem? (i := 1668) (by decide +kernel), List.mem_of_getElem? (i := 1669) (by decide +kernel)⟩
theorem lw_p88 : lw_okq (⟨"TriplicateFormsModel", "why", "(III)I"⟩, 45) := ⟨⟨by decide +kernel, by decide +kernel⟩, List.mem_of_getElem? (i := 1332) (by decide +kernel), List.mem_of_getElem? (i := 1672) (by decide +kernel), List.mem_of_getElem? (i := 1673) (by decide +kernel)⟩
theorem lw_p89 : lw_okq (⟨"TriplicateFormsModel", "partOf", "(II)I"⟩, 45) := ⟨⟨by decide +kernel, by decide +kernel⟩, List.mem_of_getElem? (i := 1332) (by decide +kernel), List.mem_of_getElem? (i := 1676) (by decide +kernel), List.mem_of_getElem? (i := 1677) (by decide +kernel)⟩
theorem lw_p90 : lw_okq (⟨"TriplicateFormsModel", "partFree", "(III)I"⟩, 45) := ⟨⟨by decide +kernel, by decide +kernel⟩, List.mem_of_getElem? (i := 1332) (by decide +kernel), List.mem_of_getElem? (i := 1680) (by decide +kernel), List.mem_of_getElem? (i := 1681) (by decide +kernel)⟩
theorem lw_p91 : lw_okq (⟨"TriplicateFormsModel", "isThird", "(III)Z"⟩, 45) := ⟨⟨by decide +kernel, by decide +kernel⟩, List.mem_of_getElem? (i := 1332) (by decide +kernel), List.mem_of_getElem? (i := 1684) (by decide +kernel), List.mem_of_getElem? (i := 1685) (by decide +kernel)⟩
theorem lw_p92 : lw_okq (⟨"TriplicateFormsModel", "snap", "()V"⟩, 45) := ⟨⟨by decide +kernel, by decide +kernel⟩, List.mem_of_getElem? (i := 1332) (by decide +kernel), List.mem_of_getElem? (i := 1688) (by decide +kernel), List.mem_of_getElem? (i := 1689) (by decide +kernel)⟩
theorem lw_p93 : lw_okq (⟨"TriplicateFormsModel", "live", "(III)V"⟩, 45) := ⟨⟨by decide +kernel, by decide +kernel⟩, List.mem_of_getElem? (i := 1332) (by decide +kernel), List.mem_of_getElem? (i := 1692) (by decide +kernel), List.mem_of_getElem? (i := 1693) (by decide +kernel)⟩
theorem lw_p94 : lw_okq (⟨"TriplicateFormsModel", "doSign", "(II)V"⟩, 45) := ⟨⟨by decide +kernel, by decide +kernel⟩, List.mem_of_getElem? (i := 1332) (by decide +kernel), List.mem_of_getElem? (i := 1696) (by decide +kernel), List.mem_of_getElem? (i := 1697) (by decide +kernel)⟩
theorem lw_p95 : lw_okq (⟨"TriplicateFormsModel", "passDays", "(I)I"⟩, 45) := ⟨⟨by decide +kernel, by decide +kernel⟩, List.mem_of_getElem? (i := 1332) (by decide +kernel), List.mem_of_getElem? (i := 1732) (by decide +kernel), List.mem_of_getElem? (i := 1733) (by decide +kernel)⟩
def lw_privs_6 : List (MethodName × Nat) := [(⟨"TriplicateFormsModel", "hurtFree", "(I)I"⟩, 45), (⟨"TriplicateFormsModel", "grudgeOf", "(II)I"⟩, 45), (⟨"TriplicateFormsModel", "isPerson", "(I)Z"⟩, 45), (⟨"TriplicateFormsModel", "isRetired", "(I)Z"⟩, 45), (⟨"TriplicateFormsModel", "sum", "(II)I"⟩, 45), (⟨"TriplicateFormsModel", "those", "(I)I"⟩, 45), (⟨"TriplicateFormsModel", "isClear", "(I)Z"⟩, 45), (⟨"TriplicateFormsModel", "act", "(IIIZ)I"⟩, 45), (⟨"TriplicateFormsModel", "why", "(III)I"⟩, 45), (⟨"TriplicateFormsModel", "partOf", "(II)I"⟩, 45), (⟨"TriplicateFormsModel", "partFree", "(III)I"⟩, 45), (⟨"TriplicateFormsModel", "isThird", "(III)Z"⟩, 45), (⟨"TriplicateFormsModel", "snap", "()V"⟩, 45), (⟨"TriplicateFormsModel", "live", "(III)V"⟩, 45), (⟨"TriplicateFormsModel", "doSign", "(II)V"⟩, 45), (⟨"TriplicateFormsModel", "passDays", "(I)I"⟩, 45)]
theorem lw_r6 : ∀ q ∈ lw_privs_6, lw_okq q := List.forall_mem_cons.mpr ⟨lw_p80, List.forall_mem_cons.mpr ⟨lw_p81, List.forall_mem_cons.mpr ⟨lw_p82, List.forall_mem_cons.mpr ⟨lw_p83, List.forall_mem_cons.mpr ⟨lw_p84, List.forall_mem_cons.mpr ⟨lw_p85, List.forall_mem_cons.mpr ⟨lw_p86, List.forall_mem_cons.mpr ⟨lw_p87, List.forall_mem_cons.mpr ⟨lw_p88, List.forall_mem_cons.mpr ⟨lw_p89, List.forall_mem_cons.mpr ⟨lw_p90, List.forall_mem_cons.mpr ⟨lw_p91, List.forall_mem_cons.mpr ⟨lw_p92, List.forall_mem_cons.mpr ⟨lw_p93, List.forall_mem_cons.mpr ⟨lw_p94, List.forall_mem_cons.mpr ⟨lw_p95, fun _ h => absurd h List.not_mem_nil⟩⟩⟩⟩⟩⟩⟩⟩⟩⟩⟩⟩⟩⟩⟩⟩
theorem lw_p96 : lw_okq (⟨"TriplicateFormsModel", "oneDay", "()V"⟩, 45) := ⟨⟨by decide +kernel, by decide +kernel⟩, List.mem_of_getElem? (i := 1332) (by decide +kernel), List.mem_of_getElem? (i := 1739) (by decide +kernel), List.mem_of_getElem? (i := 1740) (by decide +kernel)⟩
theorem lw_p97 : lw_okq (⟨"TriplicateFormsModel", "canOf", "(I)I"⟩, 45) := ⟨⟨by decide +kernel, by decide +kernel⟩, List.mem_of_getElem? (i := 1332) (by decide +kernel), List.mem_of_getElem? (i := 1751) (by decide +kernel), List.mem_of_getElem? (i := 1752) (by decide +kernel)⟩
theorem lw_p98 : lw_okq (⟨"TriplicateFormsModel", "allCan", "(IZ)Z"⟩, 45) := ⟨⟨by decide +kernel, by decide +kernel⟩, List.mem_of_getElem? (i := 1332) (by decide +kernel), List.mem_of_getElem? (i := 1759) (by decide +kernel), List.mem_of_getElem? (i := 1760) (by decide +kernel)⟩
theorem lw_p99 : lw_okq (⟨"TriplicateFormsModel", "mostFrom", "(I)I"⟩, 45) := ⟨⟨by decide +kernel, by decide +kernel⟩, List.mem_of_getElem? (i := 1332) (by decide +kernel), List.mem_of_getElem? (i := 1767) (by decide +kernel), List.mem_of_getElem? (i := 1768) (by decide +kernel)⟩
theorem lw_p100 : lw_okq (⟨"TriplicateFormsModel", "findsSlot", "(I)Z"⟩, 45) := ⟨⟨by decide +kernel, by decide +kernel⟩, List.mem_of_getElem? (i := 1332) (by decide +kernel), List.mem_of_getElem? (i := 1771) (by decide +kernel), List.mem_of_getElem? (i := 1772) (by decide +kernel)⟩
theorem lw_p101 : lw_okq (⟨"TriplicateFormsModel", "slotOf", "(II)I"⟩, 45) := ⟨⟨by decide +kernel, by decide +kernel⟩, List.mem_of_getElem? (i := 1332) (by decide +kernel), List.mem_of_getElem? (i := 1775) (by decide +kernel), List.mem_of_getElem? (i := 1776) (by decide +kernel)⟩
theorem lw_p102 : lw_okq (⟨"TriplicateFormsModel", "leastForm", "(II)I"⟩, 45) := ⟨⟨by decide +kernel, by decide +kernel⟩, List.mem_of_getElem? (i := 1332) (by decide +kernel), List.mem_of_getElem? (i := 1779) (by decide +kernel), List.mem_of_getElem? (i := 1780) (by decide +kernel)⟩
theorem lw_p103 : lw_okq (⟨"TriplicateFormsModel", "fitsForm", "(II)Z"⟩, 45) := ⟨⟨by decide +kernel, by decide +kernel⟩, List.mem_of_getElem? (i := 1332) (by decide +kernel), List.mem_of_getElem? (i := 1791) (by decide +kernel), List.mem_of_getElem? (i := 1792) (by decide +kernel)⟩
theorem lw_p104 : lw_okq (⟨"TriplicateFormsModel", "servedBy", "(I)I"⟩, 45) := ⟨⟨by decide +kernel, by decide +kernel⟩, List.mem_of_getElem? (i := 1332) (by decide +kernel), List.mem_of_getElem? (i := 1809) (by decide +kernel), List.mem_of_getElem? (i := 1810) (by decide +kernel)⟩
theorem lw_p105 : lw_okq (⟨"TriplicateFormsModel", "hasThird", "(II)Z"⟩, 45) := ⟨⟨by decide +kernel, by decide +kernel⟩, List.mem_of_getElem? (i := 1332) (by decide +kernel), List.mem_of_getElem? (i := 1813) (by decide +kernel), List.mem_of_getElem? (i := 1814) (by decide +kernel)⟩
theorem lw_p106 : lw_okq (⟨"TriplicateFormsModel", "writeWord", "(J)V"⟩, 45) := ⟨⟨by decide +kernel, by decide +kernel⟩, List.mem_of_getElem? (i := 1332) (by decide +kernel), List.mem_of_getElem? (i := 1837) (by decide +kernel), List.mem_of_getElem? (i := 1838) (by decide +kernel)⟩
theorem lw_p107 : lw_okq (⟨"TriplicateFormsModel", "write", "(I)V"⟩, 45) := ⟨⟨by decide +kernel, by decide +kernel⟩, List.mem_of_getElem? (i := 1332) (by decide +kernel), List.mem_of_getElem? (i := 1841) (by decide +kernel), List.mem_of_getElem? (i := 1842) (by decide +kernel)⟩
theorem lw_p108 : lw_okq (⟨"TriplicateFormsModel", "writeState", "(I)V"⟩, 45) := ⟨⟨by decide +kernel, by decide +kernel⟩, List.mem_of_getElem? (i := 1332) (by decide +kernel), List.mem_of_getElem? (i := 1845) (by decide +kernel), List.mem_of_getElem? (i := 1846) (by decide +kernel)⟩
theorem lw_p109 : lw_okq (⟨"TriplicateFormsModel", "writeNext", "(J)V"⟩, 45) := ⟨⟨by decide +kernel, by decide +kernel⟩, List.mem_of_getElem? (i := 1332) (by decide +kernel), List.mem_of_getElem? (i := 1849) (by decide +kernel), List.mem_of_getElem? (i := 1850) (by decide +kernel)⟩
theorem lw_p110 : lw_okq (⟨"TriplicateFormsModel", "drawDays", "(II)I"⟩, 45) := ⟨⟨by decide +kernel, by decide +kernel⟩, List.mem_of_getElem? (i := 1332) (by decide +kernel), List.mem_of_getElem? (i := 1861) (by decide +kernel), List.mem_of_getElem? (i := 1862) (by decide +kernel)⟩
theorem lw_p111 : lw_okq (⟨"TriplicateFormsModel", "drawsFor", "(I)V"⟩, 45) := ⟨⟨by decide +kernel, by decide +kernel⟩, List.mem_of_getElem? (i := 1332) (by decide +kernel), List.mem_of_getElem? (i := 1865) (by decide +kernel), List.mem_of_getElem? (i := 1866) (by decide +kernel)⟩
def lw_privs_7 : List (MethodName × Nat) := [(⟨"TriplicateFormsModel", "oneDay", "()V"⟩, 45), (⟨"TriplicateFormsModel", "canOf", "(I)I"⟩, 45), (⟨"TriplicateFormsModel", "allCan", "(IZ)Z"⟩, 45), (⟨"TriplicateFormsModel", "mostFrom", "(I)I"⟩, 45), (⟨"TriplicateFormsModel", "findsSlot", "(I)Z"⟩, 45), (⟨"TriplicateFormsModel", "slotOf", "(II)I"⟩, 45), (⟨"TriplicateFormsModel", "leastForm", "(II)I"⟩, 45), (⟨"TriplicateFormsModel", "fitsForm", "(II)Z"⟩, 45), (⟨"TriplicateFormsModel", "servedBy", "(I)I"⟩, 45), (⟨"TriplicateFormsModel", "hasThird", "(II)Z"⟩, 45), (⟨"TriplicateFormsModel", "writeWord", "(J)V"⟩, 45), (⟨"TriplicateFormsModel", "write", "(I)V"⟩, 45), (⟨"TriplicateFormsModel", "writeState", "(I)V"⟩, 45), (⟨"TriplicateFormsModel", "writeNext", "(J)V"⟩, 45), (⟨"TriplicateFormsModel", "drawDays", "(II)I"⟩, 45), (⟨"TriplicateFormsModel", "drawsFor", "(I)V"⟩, 45)]
theorem lw_r7 : ∀ q ∈ lw_privs_7, lw_okq q := List.forall_mem_cons.mpr ⟨lw_p96, List.forall_mem_cons.mpr ⟨lw_p97, List.forall_mem_cons.mpr ⟨lw_p98, List.forall_mem_cons.mpr ⟨lw_p99, List.forall_mem_cons.mpr ⟨lw_p100, List.forall_mem_cons.mpr ⟨lw_p101, List.forall_mem_cons.mpr ⟨lw_p102, List.forall_mem_cons.mpr ⟨lw_p103, List.forall_mem_cons.mpr ⟨lw_p104, List.forall_mem_cons.mpr ⟨lw_p105, List.forall_mem_cons.mpr ⟨lw_p106, List.forall_mem_cons.mpr ⟨lw_p107, List.forall_mem_cons.mpr ⟨lw_p108, List.forall_mem_cons.mpr ⟨lw_p109, List.forall_mem_cons.mpr ⟨lw_p110, List.forall_mem_cons.mpr ⟨lw_p111, fun _ h => absurd h List.not_mem_nil⟩⟩⟩⟩⟩⟩⟩⟩⟩⟩⟩⟩⟩⟩⟩⟩
theorem lw_p112 : lw_okq (⟨"TriplicateFormsModel", "draw", "(I)I"⟩, 45) := ⟨⟨by decide +kernel, by decide +kernel⟩, List.mem_of_getElem? (i := 1332) (by decide +kernel), List.mem_of_getElem? (i := 1869) (by decide +kernel), List.mem_of_getElem? (i := 1870) (by decide +kernel)⟩
theorem lw_p113 : lw_okq (⟨"TriplicateFormsModel", "layAside", "()V"⟩, 45) := ⟨⟨by decide +kernel, by decide +kernel⟩, List.mem_of_getElem? (i := 1332) (by decide +kernel), List.mem_of_getElem? (i := 1878) (by decide +kernel), List.mem_of_getElem? (i := 1879) (by decide +kernel)⟩
theorem lw_p114 : lw_okq (⟨"TriplicateFormsModel", "takeBack", "()V"⟩, 45) := ⟨⟨by decide +kernel, by decide +kernel⟩, List.mem_of_getElem? (i := 1332) (by decide +kernel), List.mem_of_getElem? (i := 1882) (by decide +kernel), List.mem_of_getElem? (i := 1883) (by decide +kernel)⟩
theorem lw_p115 : lw_okq (⟨"TriplicateFormsModel", "readBookLine", "()Z"⟩, 45) := ⟨⟨by decide +kernel, by decide +kernel⟩, List.mem_of_getElem? (i := 1332) (by decide +kernel), List.mem_of_getElem? (i := 1890) (by decide +kernel), List.mem_of_getElem? (i := 1891) (by decide +kernel)⟩
theorem lw_p116 : lw_okq (⟨"TriplicateFormsModel", "readDoes", "(I)Z"⟩, 45) := ⟨⟨by decide +kernel, by decide +kernel⟩, List.mem_of_getElem? (i := 1332) (by decide +kernel), List.mem_of_getElem? (i := 1894) (by decide +kernel), List.mem_of_getElem? (i := 1895) (by decide +kernel)⟩
theorem lw_p117 : lw_okq (⟨"TriplicateFormsModel", "readFormName", "()Z"⟩, 45) := ⟨⟨by decide +kernel, by decide +kernel⟩, List.mem_of_getElem? (i := 1332) (by decide +kernel), List.mem_of_getElem? (i := 1898) (by decide +kernel), List.mem_of_getElem? (i := 1899) (by decide +kernel)⟩
theorem lw_p118 : lw_okq (⟨"TriplicateFormsModel", "readNamed", "(II)Z"⟩, 45) := ⟨⟨by decide +kernel, by decide +kernel⟩, List.mem_of_getElem? (i := 1332) (by decide +kernel), List.mem_of_getElem? (i := 1902) (by decide +kernel), List.mem_of_getElem? (i := 1903) (by decide +kernel)⟩
theorem lw_p119 : lw_okq (⟨"TriplicateFormsModel", "keep", "(IZ)Z"⟩, 45) := ⟨⟨by decide +kernel, by decide +kernel⟩, List.mem_of_getElem? (i := 1332) (by decide +kernel), List.mem_of_getElem? (i := 1906) (by decide +kernel), List.mem_of_getElem? (i := 1907) (by decide +kernel)⟩
theorem lw_p120 : lw_okq (⟨"TriplicateFormsModel", "readPersonName", "()Z"⟩, 45) := ⟨⟨by decide +kernel, by decide +kernel⟩, List.mem_of_getElem? (i := 1332) (by decide +kernel), List.mem_of_getElem? (i := 1910) (by decide +kernel), List.mem_of_getElem? (i := 1911) (by decide +kernel)⟩
theorem lw_p121 : lw_okq (⟨"TriplicateFormsModel", "goBy", "(I)I"⟩, 45) := ⟨⟨by decide +kernel, by decide +kernel⟩, List.mem_of_getElem? (i := 1332) (by decide +kernel), List.mem_of_getElem? (i := 1914) (by decide +kernel), List.mem_of_getElem? (i := 1915) (by decide +kernel)⟩
theorem lw_p122 : lw_okq (⟨"TriplicateFormsModel", "stay", "(Z)V"⟩, 45) := ⟨⟨by decide +kernel, by decide +kernel⟩, List.mem_of_getElem? (i := 1332) (by decide +kernel), List.mem_of_getElem? (i := 1918) (by decide +kernel), List.mem_of_getElem? (i := 1919) (by decide +kernel)⟩
theorem lw_p123 : lw_okq (⟨"TriplicateFormsModel", "readOr", "()Z"⟩, 45) := ⟨⟨by decide +kernel, by decide +kernel⟩, List.mem_of_getElem? (i := 1332) (by decide +kernel), List.mem_of_getElem? (i := 1930) (by decide +kernel), List.mem_of_getElem? (i := 1931) (by decide +kernel)⟩
theorem lw_p124 : lw_okq (⟨"TriplicateFormsModel", "readAnd", "()Z"⟩, 45) := ⟨⟨by decide +kernel, by decide +kernel⟩, List.mem_of_getElem? (i := 1332) (by decide +kernel), List.mem_of_getElem? (i := 1934) (by decide +kernel), List.mem_of_getElem? (i := 1935) (by decide +kernel)⟩
theorem lw_p125 : lw_okq (⟨"TriplicateFormsModel", "readSaid", "()Z"⟩, 45) := ⟨⟨by decide +kernel, by decide +kernel⟩, List.mem_of_getElem? (i := 1332) (by decide +kernel), List.mem_of_getElem? (i := 1938) (by decide +kernel), List.mem_of_getElem? (i := 1939) (by decide +kernel)⟩
theorem lw_p126 : lw_okq (⟨"TriplicateFormsModel", "readBracket", "()Z"⟩, 45) := ⟨⟨by decide +kernel, by decide +kernel⟩, List.mem_of_getElem? (i := 1332) (by decide +kernel), List.mem_of_getElem? (i := 1942) (by decide +kernel), List.mem_of_getElem? (i := 1943) (by decide +kernel)⟩
theorem lw_p127 : lw_okq (⟨"TriplicateFormsModel", "readNot", "()Z"⟩, 45) := ⟨⟨by decide +kernel, by decide +kernel⟩, List.mem_of_getElem? (i := 1332) (by decide +kernel), List.mem_of_getElem? (i := 1946) (by decide +kernel), List.mem_of_getElem? (i := 1947) (by decide +kernel)⟩
def lw_privs_8 : List (MethodName × Nat) := [(⟨"TriplicateFormsModel", "draw", "(I)I"⟩, 45), (⟨"TriplicateFormsModel", "layAside", "()V"⟩, 45), (⟨"TriplicateFormsModel", "takeBack", "()V"⟩, 45), (⟨"TriplicateFormsModel", "readBookLine", "()Z"⟩, 45), (⟨"TriplicateFormsModel", "readDoes", "(I)Z"⟩, 45), (⟨"TriplicateFormsModel", "readFormName", "()Z"⟩, 45), (⟨"TriplicateFormsModel", "readNamed", "(II)Z"⟩, 45), (⟨"TriplicateFormsModel", "keep", "(IZ)Z"⟩, 45), (⟨"TriplicateFormsModel", "readPersonName", "()Z"⟩, 45), (⟨"TriplicateFormsModel", "goBy", "(I)I"⟩, 45), (⟨"TriplicateFormsModel", "stay", "(Z)V"⟩, 45), (⟨"TriplicateFormsModel", "readOr", "()Z"⟩, 45), (⟨"TriplicateFormsModel", "readAnd", "()Z"⟩, 45), (⟨"TriplicateFormsModel", "readSaid", "()Z"⟩, 45), (⟨"TriplicateFormsModel", "readBracket", "()Z"⟩, 45), (⟨"TriplicateFormsModel", "readNot", "()Z"⟩, 45)]
theorem lw_r8 : ∀ q ∈ lw_privs_8, lw_okq q := List.forall_mem_cons.mpr ⟨lw_p112, List.forall_mem_cons.mpr ⟨lw_p113, List.forall_mem_cons.mpr ⟨lw_p114, List.forall_mem_cons.mpr ⟨lw_p115, List.forall_mem_cons.mpr ⟨lw_p116, List.forall_mem_cons.mpr ⟨lw_p117, List.forall_mem_cons.mpr ⟨lw_p118, List.forall_mem_cons.mpr ⟨lw_p119, List.forall_mem_cons.mpr ⟨lw_p120, List.forall_mem_cons.mpr ⟨lw_p121, List.forall_mem_cons.mpr ⟨lw_p122, List.forall_mem_cons.mpr ⟨lw_p123, List.forall_mem_cons.mpr ⟨lw_p124, List.forall_mem_cons.mpr ⟨lw_p125, List.forall_mem_cons.mpr ⟨lw_p126, List.forall_mem_cons.mpr ⟨lw_p127, fun _ h => absurd h List.not_mem_nil⟩⟩⟩⟩⟩⟩⟩⟩⟩⟩⟩⟩⟩⟩⟩⟩
theorem lw_p128 : lw_okq (⟨"TriplicateFormsModel", "saysOne", "(IIII)I"⟩, 45) := ⟨⟨by decide +kernel, by decide +kernel⟩, List.mem_of_getElem? (i := 1332) (by decide +kernel), List.mem_of_getElem? (i := 1950) (by decide +kernel), List.mem_of_getElem? (i := 1951) (by decide +kernel)⟩
theorem lw_p129 : lw_okq (⟨"TriplicateFormsModel", "readOf", "(I)Z"⟩, 45) := ⟨⟨by decide +kernel, by decide +kernel⟩, List.mem_of_getElem? (i := 1332) (by decide +kernel), List.mem_of_getElem? (i := 1954) (by decide +kernel), List.mem_of_getElem? (i := 1955) (by decide +kernel)⟩
theorem lw_p130 : lw_okq (⟨"TriplicateFormsModel", "readCompare", "(I)Z"⟩, 45) := ⟨⟨by decide +kernel, by decide +kernel⟩, List.mem_of_getElem? (i := 1332) (by decide +kernel), List.mem_of_getElem? (i := 1958) (by decide +kernel), List.mem_of_getElem? (i := 1959) (by decide +kernel)⟩
theorem lw_p131 : lw_okq (⟨"TriplicateFormsModel", "holds", "(II)Z"⟩, 45) := ⟨⟨by decide +kernel, by decide +kernel⟩, List.mem_of_getElem? (i := 1332) (by decide +kernel), List.mem_of_getElem? (i := 1966) (by decide +kernel), List.mem_of_getElem? (i := 1967) (by decide +kernel)⟩
theorem lw_p132 : lw_okq (⟨"TriplicateFormsModel", "hasSigned", "(II)Z"⟩, 45) := ⟨⟨by decide +kernel, by decide +kernel⟩, List.mem_of_getElem? (i := 1332) (by decide +kernel), List.mem_of_getElem? (i := 1970) (by decide +kernel), List.mem_of_getElem? (i := 1971) (by decide +kernel)⟩
theorem lw_p133 : lw_okq (⟨"TriplicateFormsModel", "partsOf", "(I)I"⟩, 45) := ⟨⟨by decide +kernel, by decide +kernel⟩, List.mem_of_getElem? (i := 1332) (by decide +kernel), List.mem_of_getElem? (i := 1974) (by decide +kernel), List.mem_of_getElem? (i := 1975) (by decide +kernel)⟩
def lw_privs_9 : List (MethodName × Nat) := [(⟨"TriplicateFormsModel", "saysOne", "(IIII)I"⟩, 45), (⟨"TriplicateFormsModel", "readOf", "(I)Z"⟩, 45), (⟨"TriplicateFormsModel", "readCompare", "(I)Z"⟩, 45), (⟨"TriplicateFormsModel", "holds", "(II)Z"⟩, 45), (⟨"TriplicateFormsModel", "hasSigned", "(II)Z"⟩, 45), (⟨"TriplicateFormsModel", "partsOf", "(I)I"⟩, 45)]
theorem lw_r9 : ∀ q ∈ lw_privs_9, lw_okq q := List.forall_mem_cons.mpr ⟨lw_p128, List.forall_mem_cons.mpr ⟨lw_p129, List.forall_mem_cons.mpr ⟨lw_p130, List.forall_mem_cons.mpr ⟨lw_p131, List.forall_mem_cons.mpr ⟨lw_p132, List.forall_mem_cons.mpr ⟨lw_p133, fun _ h => absurd h List.not_mem_nil⟩⟩⟩⟩⟩⟩
def lw_privs : List (MethodName × Nat) := lw_privs_1 ++ (lw_privs_2 ++ (lw_privs_3 ++ (lw_privs_4 ++ (lw_privs_5 ++ (lw_privs_6 ++ (lw_privs_7 ++ (lw_privs_8 ++ (lw_privs_9))))))))
def lw_tbl : List Cond := k2_sels lw_privs ++ tables_1
theorem lw_privs_ok : ∀ q ∈ lw_privs, lw_okq q := by
  show ∀ q ∈ lw_privs_1 ++ (lw_privs_2 ++ (lw_privs_3 ++ (lw_privs_4 ++ (lw_privs_5 ++ (lw_privs_6 ++ (lw_privs_7 ++ (lw_privs_8 ++ (lw_privs_9)))))))), lw_okq q
  exact List.forall_mem_append.mpr ⟨lw_r1, List.forall_mem_append.mpr ⟨lw_r2, List.forall_mem_append.mpr ⟨lw_r3, List.forall_mem_append.mpr ⟨lw_r4, List.forall_mem_append.mpr ⟨lw_r5, List.forall_mem_append.mpr ⟨lw_r6, List.forall_mem_append.mpr ⟨lw_r7, List.forall_mem_append.mpr ⟨lw_r8, lw_r9⟩⟩⟩⟩⟩⟩⟩⟩
-- ===== end of PART A; then your names; then what follows =====
end
section
/-! the classes: their fields in the order of the slots, and their types (written by a program) -/
def kT (l : List (String × String × String × Bool)) : u_T := fun k => l.getD k ("", "", "", false)
def kF0 : List (String × String × String × Bool) := [("TriplicateForms$Adviser", "thirds", "[I", true), ("TriplicateForms$Adviser", "toAsk", "I", false), ("TriplicateForms$Adviser", "covering", "I", false)]
def kY0 : List FieldType := [.array .int, .int, .int]
def kF1 : List (String × String × String × Bool) := [("TriplicateForms$Book", "acts", "[I", true), ("TriplicateForms$Book", "firsts", "[I", true), ("TriplicateForms$Book", "seconds", "[I", true), ("TriplicateForms$Book", "lines", "I", false), ("TriplicateForms$Book", "gone", "Z", false), ("TriplicateForms$Book", "why", "I", false), ("TriplicateForms$Book", "ahead", "I", false), ("TriplicateForms$Book", "dayThen", "I", false), ("TriplicateForms$Book", "grantedThen", "I", false)]
def kY1 : List FieldType := [.array .int, .array .int, .array .int, .int, .boolean, .int, .int, .int, .int]
def kF2 : List (String × String × String × Bool) := [("TriplicateForms$Image", "rosterThen", "LTriplicateForms$Roster;", true), ("TriplicateForms$Image", "standingThen", "LTriplicateForms$Standing;", true), ("TriplicateForms$Image", "sentenceThen", "LTriplicateForms$Sentence;", true), ("TriplicateForms$Image", "kept", "Z", false)]
def kY2 : List FieldType := [.object "TriplicateForms$Roster", .object "TriplicateForms$Standing", .object "TriplicateForms$Sentence", .boolean]
def kF3 : List (String × String × String × Bool) := [("TriplicateForms$Matcher", "slots", "[I", true), ("TriplicateForms$Matcher", "holders", "[I", true), ("TriplicateForms$Matcher", "chosen", "[I", true), ("TriplicateForms$Matcher", "persons", "I", false), ("TriplicateForms$Matcher", "forms", "I", false), ("TriplicateForms$Matcher", "tried", "I", false)]
def kY3 : List FieldType := [.array .int, .array .int, .array .int, .int, .int, .int]
def kF4 : List (String × String × String × Bool) := [("TriplicateForms$Roster", "personNames", "[J", true), ("TriplicateForms$Roster", "formNames", "[J", true), ("TriplicateForms$Roster", "about", "[I", true), ("TriplicateForms$Roster", "span", "[I", true), ("TriplicateForms$Roster", "shy", "[I", true), ("TriplicateForms$Roster", "ruleTold", "Z", false), ("TriplicateForms$Roster", "persons", "I", false), ("TriplicateForms$Roster", "forms", "I", false), ("TriplicateForms$Roster", "anyThird", "Z", false)]
def kY4 : List FieldType := [.array .long, .array .long, .array .int, .array .int, .array .int, .boolean, .int, .int, .boolean]
def kF5 : List (String × String × String × Bool) := [("TriplicateForms$Sentence", "kinds", "[I", true), ("TriplicateForms$Sentence", "whats", "[I", true), ("TriplicateForms$Sentence", "numbers", "[I", true), ("TriplicateForms$Sentence", "answers", "[I", true), ("TriplicateForms$Sentence", "length", "I", false), ("TriplicateForms$Sentence", "ones", "I", false)]
def kY5 : List FieldType := [.array .int, .array .int, .array .int, .array .int, .int, .int]
def kF6 : List (String × String × String × Bool) := [("TriplicateForms$Stamp", "signs", "[C", true), ("TriplicateForms$Stamp", "length", "I", false)]
def kY6 : List FieldType := [.array .char, .int]
def kF7 : List (String × String × String × Bool) := [("TriplicateForms$Standing", "roster", "LTriplicateForms$Roster;", true), ("TriplicateForms$Standing", "grudges", "[I", true), ("TriplicateForms$Standing", "signedToday", "[I", true), ("TriplicateForms$Standing", "timesSigned", "[I", true), ("TriplicateForms$Standing", "how", "[I", true), ("TriplicateForms$Standing", "daysToGo", "[I", true), ("TriplicateForms$Standing", "signers", "[I", true), ("TriplicateForms$Standing", "retired", "I", false), ("TriplicateForms$Standing", "day", "I", false), ("TriplicateForms$Standing", "drawState", "I", false)]
def kY7 : List FieldType := [.object "TriplicateForms$Roster", .array .int, .array .int, .array .int, .array .int, .array .int, .array .int, .int, .int, .int]
def kF8 : List (String × String × String × Bool) := [("TriplicateForms$Tape", "bytes", "[B", true), ("TriplicateForms$Tape", "length", "I", false), ("TriplicateForms$Tape", "most", "I", false), ("TriplicateForms$Tape", "at", "I", false), ("TriplicateForms$Tape", "kind", "I", false), ("TriplicateForms$Tape", "place", "I", false), ("TriplicateForms$Tape", "value", "I", false), ("TriplicateForms$Tape", "letters", "J", false), ("TriplicateForms$Tape", "meaning", "LTriplicateForms$Word;", false), ("TriplicateForms$Tape", "faultKind", "I", false), ("TriplicateForms$Tape", "faultPlace", "I", false)]
def kY8 : List FieldType := [.array .byte, .int, .int, .int, .int, .int, .int, .long, .object "TriplicateForms$Word", .int, .int]
def kF9 : List (String × String × String × Bool) := [("TriplicateForms$Undos", "kept", "[LTriplicateForms$Standing;", true), ("TriplicateForms$Undos", "next", "I", false), ("TriplicateForms$Undos", "count", "I", false)]
def kY9 : List FieldType := [.array (.object "TriplicateForms$Standing"), .int, .int]
def kF10 : List (String × String × String × Bool) := [("TriplicateForms", "tape", "LTriplicateForms$Tape;", true), ("TriplicateForms", "roster", "LTriplicateForms$Roster;", true), ("TriplicateForms", "nextRoster", "LTriplicateForms$Roster;", true), ("TriplicateForms", "standing", "LTriplicateForms$Standing;", true), ("TriplicateForms", "trial", "LTriplicateForms$Standing;", true), ("TriplicateForms", "undos", "LTriplicateForms$Undos;", true), ("TriplicateForms", "images", "[LTriplicateForms$Image;", true), ("TriplicateForms", "matcher", "LTriplicateForms$Matcher;", true), ("TriplicateForms", "adviser", "LTriplicateForms$Adviser;", true), ("TriplicateForms", "stamp", "LTriplicateForms$Stamp;", true), ("TriplicateForms", "book", "LTriplicateForms$Book;", true), ("TriplicateForms", "sentence", "LTriplicateForms$Sentence;", false), ("TriplicateForms", "nextSentence", "LTriplicateForms$Sentence;", false), ("TriplicateForms", "latestFault", "I", false)]
def kY10 : List FieldType := [.object "TriplicateForms$Tape", .object "TriplicateForms$Roster", .object "TriplicateForms$Roster", .object "TriplicateForms$Standing", .object "TriplicateForms$Standing", .object "TriplicateForms$Undos", .array (.object "TriplicateForms$Image"), .object "TriplicateForms$Matcher", .object "TriplicateForms$Adviser", .object "TriplicateForms$Stamp", .object "TriplicateForms$Book", .object "TriplicateForms$Sentence", .object "TriplicateForms$Sentence", .int]
def kF11 : List (String × String × String × Bool) := [("TriplicateFormsModel", "thrown", "I", false), ("TriplicateFormsModel", "tape", "[I", true), ("TriplicateFormsModel", "taped", "I", false), ("TriplicateFormsModel", "size", "I", false), ("TriplicateFormsModel", "limit", "I", false), ("TriplicateFormsModel", "to", "I", false), ("TriplicateFormsModel", "from", "I", false), ("TriplicateFormsModel", "kind", "I", false), ("TriplicateFormsModel", "number", "I", false), ("TriplicateFormsModel", "sign", "I", false), ("TriplicateFormsModel", "fault", "I", false), ("TriplicateFormsModel", "place", "I", false), ("TriplicateFormsModel", "word", "J", false), ("TriplicateFormsModel", "told", "I", false), ("TriplicateFormsModel", "now", "[I", true), ("TriplicateFormsModel", "read", "[I", true), ("TriplicateFormsModel", "kept", "[I", true), ("TriplicateFormsModel", "snaps", "[I", true), ("TriplicateFormsModel", "aside", "[I", true), ("TriplicateFormsModel", "name", "[J", true), ("TriplicateFormsModel", "readName", "[J", true), ("TriplicateFormsModel", "keptName", "[J", true), ("TriplicateFormsModel", "isKept", "[Z", true), ("TriplicateFormsModel", "snapMany", "I", false), ("TriplicateFormsModel", "hasRule", "Z", false), ("TriplicateFormsModel", "slot", "[I", true), ("TriplicateFormsModel", "matched", "[I", true), ("TriplicateFormsModel", "seen", "[Z", true), ("TriplicateFormsModel", "closed", "[Z", true), ("TriplicateFormsModel", "matchedMany", "I", false), ("TriplicateFormsModel", "hasMatched", "Z", false), ("TriplicateFormsModel", "asking", "I", false), ("TriplicateFormsModel", "covering", "I", false), ("TriplicateFormsModel", "text", "[I", true), ("TriplicateFormsModel", "texts", "I", false), ("TriplicateFormsModel", "seed", "I", false), ("TriplicateFormsModel", "line", "[I", true), ("TriplicateFormsModel", "written", "[I", true), ("TriplicateFormsModel", "lineMany", "I", false), ("TriplicateFormsModel", "hasWritten", "Z", false), ("TriplicateFormsModel", "node", "[I", true), ("TriplicateFormsModel", "nodes", "I", false), ("TriplicateFormsModel", "onesMany", "I", false), ("TriplicateFormsModel", "within", "I", false), ("TriplicateFormsModel", "top", "I", false)]
def kY11 : List FieldType := [.int, .array .int, .int, .int, .int, .int, .int, .int, .int, .int, .int, .int, .long, .int, .array .int, .array .int, .array .int, .array .int, .array .int, .array .long, .array .long, .array .long, .array .boolean, .int, .boolean, .array .int, .array .int, .array .boolean, .array .boolean, .int, .boolean, .int, .int, .array .int, .int, .int, .array .int, .array .int, .int, .boolean, .array .int, .int, .int, .int, .int]
def kCl : List vw_C := [("TriplicateForms$Adviser", kT kF0, 3), ("TriplicateForms$Book", kT kF1, 9), ("TriplicateForms$Image", kT kF2, 4), ("TriplicateForms$Matcher", kT kF3, 6), ("TriplicateForms$Roster", kT kF4, 9), ("TriplicateForms$Sentence", kT kF5, 6), ("TriplicateForms$Stamp", kT kF6, 2), ("TriplicateForms$Standing", kT kF7, 10), ("TriplicateForms$Tape", kT kF8, 11), ("TriplicateForms$Undos", kT kF9, 3), ("TriplicateForms", kT kF10, 14), ("TriplicateFormsModel", kT kF11, 45)]
def kTys : List (List FieldType) := [kY0, kY1, kY2, kY3, kY4, kY5, kY6, kY7, kY8, kY9, kY10, kY11]
def kTy (ci : Nat) (k : Nat) : FieldType := (kTys.getD ci []).getD k .int
def LT : List Cond := lw_tbl.filter goodWord
/-- words among the tables', by their places -/
def kin (ws : List Cond) (ps : List Nat) : Bool := decide (ws.map some = ps.map (fun i => lw_tbl[i]?)) && ws.all goodWord
theorem kin_ok {ws : List Cond} {ps : List Nat} (h : kin ws ps = true) : ∀ w ∈ ws, w ∈ LT := by
  intro w hw
  have h1 := Bool.and_eq_true_iff.mp h
  have h2 := of_decide_eq_true h1.1
  have h3 : some w ∈ ps.map (fun i => lw_tbl[i]?) := by rw [← h2]; exact List.mem_map.mpr ⟨w, hw, rfl⟩
  obtain ⟨i, -, hi⟩ := List.mem_map.mp h3
  exact List.mem_filter.mpr ⟨List.mem_of_getElem? hi, List.all_eq_true.mp h1.2 w hw⟩
theorem LT_good {w : Cond} (h : w ∈ LT) : (w.onTables && w.keeps) = true ∨ ∃ ty, w = .arrayClass ty := good_of_word (List.mem_filter.mp h).2
theorem LT_tbl {w : Cond} (h : w ∈ LT) : w ∈ lw_tbl := (List.mem_filter.mp h).1
def kClGood (ci : Nat) (q : vw_C) : Prop := (∀ w ∈ u_ws q.1 q.2.1 q.2.2, w ∈ LT) ∧ (∀ k, k < q.2.2 → parseFieldDescriptor (q.2.1 k).2.2.1 = some (kTy ci k)) ∧ (∀ a, a < q.2.2 → ∀ b, b < q.2.2 → a ≠ b → (q.2.1 a).2.1 ≠ (q.2.1 b).2.1)
set_option maxRecDepth 100000 in
theorem kClGood0 : kClGood 0 ("TriplicateForms$Adviser", kT kF0, 3) := ⟨kin_ok (ps := [377, 379, 381]) (by decide +kernel), by decide +kernel, by decide +kernel⟩
set_option maxRecDepth 100000 in
theorem kClGood1 : kClGood 1 ("TriplicateForms$Book", kT kF1, 9) := ⟨kin_ok (ps := [415, 417, 419, 421, 423, 425, 427, 429, 431]) (by decide +kernel), by decide +kernel, by decide +kernel⟩
set_option maxRecDepth 100000 in
theorem kClGood2 : kClGood 2 ("TriplicateForms$Image", kT kF2, 4) := ⟨kin_ok (ps := [479, 481, 483, 485]) (by decide +kernel), by decide +kernel, by decide +kernel⟩
set_option maxRecDepth 100000 in
theorem kClGood3 : kClGood 3 ("TriplicateForms$Matcher", kT kF3, 6) := ⟨kin_ok (ps := [353, 355, 357, 359, 361, 363]) (by decide +kernel), by decide +kernel, by decide +kernel⟩
set_option maxRecDepth 100000 in
theorem kClGood4 : kClGood 4 ("TriplicateForms$Roster", kT kF4, 9) := ⟨kin_ok (ps := [246, 248, 250, 252, 254, 256, 258, 260, 262]) (by decide +kernel), by decide +kernel, by decide +kernel⟩
set_option maxRecDepth 100000 in
theorem kClGood5 : kClGood 5 ("TriplicateForms$Sentence", kT kF5, 6) := ⟨kin_ok (ps := [447, 449, 451, 453, 455, 457]) (by decide +kernel), by decide +kernel, by decide +kernel⟩
set_option maxRecDepth 100000 in
theorem kClGood6 : kClGood 6 ("TriplicateForms$Stamp", kT kF6, 2) := ⟨kin_ok (ps := [393, 395]) (by decide +kernel), by decide +kernel, by decide +kernel⟩
set_option maxRecDepth 100000 in
theorem kClGood7 : kClGood 7 ("TriplicateForms$Standing", kT kF7, 10) := ⟨kin_ok (ps := [298, 300, 302, 304, 306, 308, 310, 312, 314, 316]) (by decide +kernel), by decide +kernel, by decide +kernel⟩
set_option maxRecDepth 100000 in
theorem kClGood8 : kClGood 8 ("TriplicateForms$Tape", kT kF8, 11) := ⟨kin_ok (ps := [196, 198, 200, 202, 204, 206, 208, 210, 212, 214, 216]) (by decide +kernel), by decide +kernel, by decide +kernel⟩
set_option maxRecDepth 100000 in
theorem kClGood9 : kClGood 9 ("TriplicateForms$Undos", kT kF9, 3) := ⟨kin_ok (ps := [331, 333, 335]) (by decide +kernel), by decide +kernel, by decide +kernel⟩
set_option maxRecDepth 100000 in
theorem kClGood10 : kClGood 10 ("TriplicateForms", kT kF10, 14) := ⟨kin_ok (ps := [502, 504, 506, 508, 510, 512, 514, 516, 518, 520, 522, 524, 526, 528]) (by decide +kernel), by decide +kernel, by decide +kernel⟩
set_option maxRecDepth 100000 in
theorem kClGood11 : kClGood 11 ("TriplicateFormsModel", kT kF11, 45) := ⟨kin_ok (ps := [1530, 1532, 1534, 1536, 1538, 1540, 1542, 1544, 1546, 1548, 1550, 1552, 1554, 1556, 1558, 1560, 1562, 1564, 1566, 1568, 1570, 1572, 1574, 1576, 1578, 1580, 1582, 1584, 1586, 1588, 1590, 1592, 1594, 1596, 1598, 1600, 1602, 1604, 1606, 1608, 1610, 1612, 1614, 1616, 1618]) (by decide +kernel), by decide +kernel, by decide +kernel⟩
theorem kCl_ok : ∀ (ci : Nat) (q : vw_C), kCl[ci]? = some q → kClGood ci q := by
  intro ci q h
  match ci, h with
  | 0, h => cases h; exact kClGood0
  | 1, h => cases h; exact kClGood1
  | 2, h => cases h; exact kClGood2
  | 3, h => cases h; exact kClGood3
  | 4, h => cases h; exact kClGood4
  | 5, h => cases h; exact kClGood5
  | 6, h => cases h; exact kClGood6
  | 7, h => cases h; exact kClGood7
  | 8, h => cases h; exact kClGood8
  | 9, h => cases h; exact kClGood9
  | 10, h => cases h; exact kClGood10
  | 11, h => cases h; exact kClGood11
  | n + 12, h => simp [kCl] at h
end
section
/-! A small machine of the writer's own: values whose references are labels, cells as lists, ints that are known or an input with a range. -/
abbrev KS : Type := Nat ⊕ ((Nat → Int32) → Int32)
abbrev KI : Type := Int32 ⊕ KS
abbrev KV : Type := Value ⊕ KS
/-- an array: the kind of its elements, its length, what it holds -/
abbrev KA : Type := Nat × Nat × ((List (Nat × KI) × KI) ⊕ (List (Nat × Int64) × Int64) ⊕ List (Nat × Option Nat))
abbrev KE : Type := KA ⊕ (Nat × List KV)
/-- the cells, sixteen to a row; a cell's label is its place -/
abbrev KW : Type := List (List KE)
/-- place, locals, stack, cells, how many cells and slots were made -/
abbrev KF : Type := Nat × List (Nat × KV) × List KV × KW × Nat × Nat
/-- an instruction's resolved operands -/
abbrev KX : Type := Nat × Nat × Nat × Nat × Nat
abbrev KEnt : Type := Nat × Instr × KX
/-- a method: name, code, locals, answer's type, the cells and slots that it may make, its instructions -/
abbrev KMeth : Type := MethodName × ByteArray × Nat × Option FieldType × Nat × Nat × List KEnt
def kS (ρ : Nat → Int32) : KS → Int32
  | .inl i => ρ i
  | .inr f => f ρ
def kI (ρ : Nat → Int32) : KI → Int32
  | .inl x => x
  | .inr z => kS ρ z
def kV (ad : Nat → Nat) (ρ : Nat → Int32) : KV → Value
  | .inl v => match v with
    | .ref i => .ref (ad i)
    | w => w
  | .inr z => .int (kS ρ z)
def kcat : KV → Nat
  | .inl v => v.category
  | .inr _ => 1
theorem kV_cat (ad : Nat → Nat) (ρ : Nat → Int32) (v : KV) : (kV ad ρ v).category = kcat v := by
  rcases v with v | z
  · cases v <;> rfl
  · rfl
def kisI : KV → Bool
  | .inl v => match v with
    | .int _ => true
    | _ => false
  | .inr _ => true
def kiv (ρ : Nat → Int32) : KV → Int32
  | .inl v => match v with
    | .int x => x
    | _ => 0
  | .inr z => kS ρ z
theorem kisI_eq {ad : Nat → Nat} {ρ : Nat → Int32} {v : KV} (h : kisI v = true) : kV ad ρ v = .int (kiv ρ v) := by
  rcases v with v | z
  · cases v <;> first | rfl | cases h
  · rfl
/-- lists by key -/
def kget {α : Type} : List (Nat × α) → α → Nat → α
  | [], d, _ => d
  | q :: l, d, j => bif Nat.beq q.1 j then q.2 else kget l d j
def kdel {α : Type} : List (Nat × α) → Nat → List (Nat × α)
  | [], _ => []
  | q :: l, j => bif Nat.beq q.1 j then l else q :: kdel l j
def kset {α : Type} (l : List (Nat × α)) (j : Nat) (v : α) : List (Nat × α) := (j, v) :: kdel l j
theorem kb_t {i j : Nat} (h : Nat.beq i j = true) : i = j := Nat.eq_of_beq_eq_true h
theorem kb_f {i j : Nat} (h : Nat.beq i j = false) : ¬ i = j := Nat.ne_of_beq_eq_false h
theorem kb_r {i j : Nat} (h : i = j) : Nat.beq i j = true := by subst h; exact Nat.beq_refl i
theorem kb_n {i j : Nat} (h : ¬ i = j) : Nat.beq i j = false := by
  cases q : Nat.beq i j with
  | false => rfl
  | true => exact absurd (kb_t q) h
theorem kget_del {α : Type} (l : List (Nat × α)) (d : α) {j k : Nat} (h : ¬ k = j) : kget (kdel l j) d k = kget l d k := by
  induction l with
  | nil => rfl
  | cons q l ih =>
    unfold kdel
    cases e : Nat.beq q.1 j with
    | true =>
      have e1 := kb_t e
      show kget l d k = (bif Nat.beq q.1 k then q.2 else kget l d k)
      rw [kb_n (i := q.1) (j := k) (by omega)]
      rfl
    | false =>
      show (bif Nat.beq q.1 k then q.2 else kget (kdel l j) d k) = (bif Nat.beq q.1 k then q.2 else kget l d k)
      rw [ih]
theorem kget_set {α : Type} (l : List (Nat × α)) (d : α) (j k : Nat) (v : α) : kget (kset l j v) d k = if k = j then v else kget l d k := by
  show (bif Nat.beq j k then v else kget (kdel l j) d k) = _
  by_cases h : k = j
  · rw [if_pos h, kb_r h.symm]
    rfl
  · rw [if_neg h, kb_n (fun q => h q.symm), ← kget_del l d h]
    rfl
def klook : List (Nat × KV) → Nat → Option KV
  | [], _ => none
  | q :: l, j => bif Nat.beq q.1 j then some q.2 else klook l j
theorem klook_mem {l : List (Nat × KV)} {j : Nat} {v : KV} (h : klook l j = some v) : (j, v) ∈ l := by
  induction l with
  | nil => cases h
  | cons q l ih =>
    unfold klook at h
    cases e : Nat.beq q.1 j with
    | true =>
      rw [e] at h
      have e1 := kb_t e
      cases h
      rw [← e1]
      exact List.mem_cons_self
    | false =>
      rw [e] at h
      exact List.mem_cons_of_mem _ (ih h)
/-- what the lists stand for -/
def kL (ad : Nat → Nat) (ρ : Nat → Int32) (lo : List (Nat × KV)) : List (Nat × Value) := lo.map (fun q => (q.1, kV ad ρ q.2))
def kflt : List (Nat × KV) → Nat → List (Nat × KV)
  | [], _ => []
  | q :: l, i => bif Nat.beq q.1 i then kflt l i else bif Nat.beq (q.1 + 1) i && Nat.beq (kcat q.2) 2 then kflt l i else q :: kflt l i
theorem kb_b (i j : Nat) : (i == j) = Nat.beq i j := by
  by_cases h : i = j
  · rw [kb_r h]
    exact beq_iff_eq.mpr h
  · rw [kb_n h]
    exact beq_eq_false_iff_ne.mpr h
theorem kflt_eq (lo : List (Nat × KV)) (i : Nat) : kflt lo i = lo.filter (fun q => !(q.1 == i) && !(q.1 + 1 == i && kcat q.2 == 2)) := by
  induction lo with
  | nil => rfl
  | cons q l ih =>
    rw [List.filter_cons, ← ih]
    show (bif Nat.beq q.1 i then kflt l i else bif Nat.beq (q.1 + 1) i && Nat.beq (kcat q.2) 2 then kflt l i else q :: kflt l i) = _
    rw [kb_b, kb_b, kb_b]
    cases Nat.beq q.1 i <;> cases Nat.beq (q.1 + 1) i <;> cases Nat.beq (kcat q.2) 2 <;> rfl
def klo (lo : List (Nat × KV)) (i : Nat) (v : KV) : List (Nat × KV) := (i, v) :: kflt lo i
def klo2 (lo : List (Nat × KV)) (i : Nat) (v : KV) : List (Nat × KV) := (i, v) :: lo.filter (fun q => !(q.1 == i) && (!(q.1 == i + 1) && !(q.1 + 1 == i && kcat q.2 == 2)))
theorem klo_c (ad : Nat → Nat) (ρ : Nat → Int32) (lo : List (Nat × KV)) (i : Nat) (v : KV) : (i, kV ad ρ v) :: (kL ad ρ lo).filter (fun q => !(q.1 == i) && !(q.1 + 1 == i && q.2.category == 2)) = kL ad ρ (klo lo i v) := by
  unfold kL klo
  rw [kflt_eq, List.map_cons, List.filter_map]
  congr 2
  apply List.filter_congr
  intro q _
  simp only [Function.comp_apply, kV_cat]
theorem klo2_c (ad : Nat → Nat) (ρ : Nat → Int32) (lo : List (Nat × KV)) (i : Nat) (v : KV) : (i, kV ad ρ v) :: (kL ad ρ lo).filter (fun q => !(q.1 == i) && (!(q.1 == i + 1) && !(q.1 + 1 == i && q.2.category == 2))) = kL ad ρ (klo2 lo i v) := by
  unfold kL klo2
  rw [List.map_cons, List.filter_map]
  congr 2
  apply List.filter_congr
  intro q _
  simp only [Function.comp_apply, kV_cat]
theorem kL_get {ad : Nat → Nat} {ρ : Nat → Int32} {lo : List (Nat × KV)} {nL j : Nat} {ls : Array Slot} {v : KV} (h : lv_has ls nL (kL ad ρ lo)) (hk : klook lo j = some v) : ls[j]? = some (.val (kV ad ρ v)) :=
  h.2.2 (j, kV ad ρ v) (List.mem_map.mpr ⟨(j, v), klook_mem hk, rfl⟩)
def kE (dA : Nat → ClassId) (ad : Nat → Nat) (ρ : Nat → Int32) : KE → va_E
  | .inl (t, n, .inl (l, d)) => .inl (dA t, n, .inl (fun j => kI ρ (kget l d j)))
  | .inl (t, n, .inr (.inl (l, d))) => .inl (dA t, n, .inr (.inl (fun j => kget l d j)))
  | .inl (t, n, .inr (.inr l)) => .inl (dA t, n, .inr (.inr (.inr (.inr (fun j => (kget l none j).map ad)))))
  | .inr (ci, fs) => .inr (ci, fs.map (kV ad ρ))
def kWc (dA : Nat → ClassId) (ad : Nat → Nat) (ρ : Nat → Int32) : Nat → List KE → va_W
  | _, [] => []
  | b, e :: t => (ad b, kE dA ad ρ e) :: kWc dA ad ρ (b + 1) t
def kWf (dA : Nat → ClassId) (ad : Nat → Nat) (ρ : Nat → Int32) : Nat → KW → va_W
  | _, [] => []
  | i, ch :: t => kWc dA ad ρ (16 * i) ch ++ kWf dA ad ρ (i + 1) t
def kW (dA : Nat → ClassId) (ad : Nat → Nat) (ρ : Nat → Int32) (w : KW) : va_W := kWf dA ad ρ 0 w
def kwg (w : KW) (n : Nat) : Option KE := match w[n / 16]? with
  | some ch => ch[n % 16]?
  | none => none
def kws (w : KW) (n : Nat) (e : KE) : KW := match w[n / 16]? with
  | some ch => w.set (n / 16) (ch.set (n % 16) e)
  | none => w
/-- the next label -/
def kfr : Nat → KW → Nat
  | i, [] => 16 * i
  | i, ch :: t => match t with
    | [] => bif Nat.blt ch.length 16 then 16 * i + ch.length else 16 * (i + 1)
    | _ => kfr (i + 1) t
def kwp (e : KE) : KW → KW
  | [] => [[e]]
  | ch :: t => match t with
    | [] => bif Nat.blt ch.length 16 then [ch ++ [e]] else [ch, [e]]
    | _ => ch :: kwp e t
theorem kWc_get {dA : Nat → ClassId} {ad : Nat → Nat} {ρ : Nat → Int32} : ∀ (ch : List KE) (b j : Nat) {e : KE}, ch[j]? = some e → (kWc dA ad ρ b ch)[j]? = some (ad (b + j), kE dA ad ρ e) ∧ ∀ e' : KE, (kWc dA ad ρ b ch).set j (ad (b + j), kE dA ad ρ e') = kWc dA ad ρ b (ch.set j e') := by
  intro ch
  induction ch with
  | nil => intro b j e h; simp at h
  | cons x t ih =>
    intro b j e h
    cases j with
    | zero =>
      cases h
      exact ⟨rfl, fun _ => rfl⟩
    | succ j =>
      obtain ⟨h1, h2⟩ := ih (b + 1) j (e := e) h
      have ea : b + 1 + j = b + (j + 1) := by omega
      rw [ea] at h1 h2
      exact ⟨h1, fun e' => by
        show (ad b, kE dA ad ρ x) :: (kWc dA ad ρ (b + 1) t).set j _ = (ad b, kE dA ad ρ x) :: kWc dA ad ρ (b + 1) (t.set j e')
        rw [h2]⟩
theorem kWf_get {dA : Nat → ClassId} {ad : Nat → Nat} {ρ : Nat → Int32} : ∀ (w : KW) (i k j : Nat) {ch : List KE} {e : KE}, w[k]? = some ch → ch[j]? = some e → ∃ q : Nat, (kWf dA ad ρ i w)[q]? = some (ad (16 * (i + k) + j), kE dA ad ρ e) ∧ ∀ e' : KE, (kWf dA ad ρ i w).set q (ad (16 * (i + k) + j), kE dA ad ρ e') = kWf dA ad ρ i (w.set k (ch.set j e')) := by
  intro w
  induction w with
  | nil => intro i k j ch e h; simp at h
  | cons x t ih =>
    intro i k j ch e h he
    cases k with
    | zero =>
      cases h
      obtain ⟨h1, h2⟩ := kWc_get (dA := dA) (ad := ad) (ρ := ρ) x (16 * i) j he
      have hl := (List.getElem?_eq_some_iff.mp h1).1
      refine ⟨j, ?_, fun e' => ?_⟩
      · show (kWc dA ad ρ (16 * i) x ++ kWf dA ad ρ (i + 1) t)[j]? = _
        rw [List.getElem?_append_left hl]
        exact h1
      · show (kWc dA ad ρ (16 * i) x ++ kWf dA ad ρ (i + 1) t).set j _ = kWc dA ad ρ (16 * i) (x.set j e') ++ kWf dA ad ρ (i + 1) t
        rw [List.set_append, if_pos hl, ← h2]
        rfl
    | succ k =>
      obtain ⟨q, h1, h2⟩ := ih (i + 1) k j (ch := ch) (e := e) h he
      have ea : i + 1 + k = i + (k + 1) := by omega
      rw [ea] at h1 h2
      refine ⟨(kWc dA ad ρ (16 * i) x).length + q, ?_, fun e' => ?_⟩
      · show (kWc dA ad ρ (16 * i) x ++ kWf dA ad ρ (i + 1) t)[_]? = _
        rw [List.getElem?_append_right (Nat.le_add_right _ _), Nat.add_sub_cancel_left]
        exact h1
      · show (kWc dA ad ρ (16 * i) x ++ kWf dA ad ρ (i + 1) t).set _ _ = kWc dA ad ρ (16 * i) x ++ kWf dA ad ρ (i + 1) (t.set k (ch.set j e'))
        rw [List.set_append, if_neg (by omega), Nat.add_sub_cancel_left, h2]
theorem kW_get {dA : Nat → ClassId} {ad : Nat → Nat} {ρ : Nat → Int32} {w : KW} {n : Nat} {e : KE} (h : kwg w n = some e) : ∃ q : Nat, (kW dA ad ρ w)[q]? = some (ad n, kE dA ad ρ e) ∧ ∀ e' : KE, (kW dA ad ρ w).set q (ad n, kE dA ad ρ e') = kW dA ad ρ (kws w n e') := by
  unfold kwg at h
  cases hc : w[n / 16]? with
  | none => rw [hc] at h; cases h
  | some ch =>
    rw [hc] at h
    obtain ⟨q, h1, h2⟩ := kWf_get (dA := dA) (ad := ad) (ρ := ρ) w 0 (n / 16) (n % 16) hc h
    have ea : 16 * (0 + n / 16) + n % 16 = n := by omega
    rw [ea] at h1 h2
    refine ⟨q, h1, fun e' => ?_⟩
    unfold kws
    rw [hc]
    exact h2 e'
def kup (ad : Nat → Nat) (n q : Nat) : Nat → Nat := fun j => if j = n then q else ad j
/-- labels that are in use: below n, or those of things outside -/
def kokN (n i : Nat) : Bool := Nat.blt i n || Nat.ble 1000000 i
def kokV (n : Nat) : KV → Bool
  | .inl v => match v with
    | .ref i => kokN n i
    | _ => true
  | .inr _ => true
def kokE (n : Nat) : KE → Bool
  | .inl (_, _, .inl _) => true
  | .inl (_, _, .inr (.inl _)) => true
  | .inl (_, _, .inr (.inr l)) => l.all (fun q => match q.2 with
    | some i => kokN n i
    | none => true)
  | .inr (_, fs) => fs.all (kokV n)
def kokS (n : Nat) (st : List KV) : Bool := st.all (kokV n)
def kokL (n : Nat) (lo : List (Nat × KV)) : Bool := lo.all (fun q => kokV n q.2)
def kokW (n : Nat) (w : KW) : Bool := w.all (fun ch => Nat.ble ch.length 16 && ch.all (kokE n))
/-- two ways to read labels that agree on those in use -/
def kExt (n : Nat) (ad ad' : Nat → Nat) : Prop := ∀ i, i < n ∨ 1000000 ≤ i → ad' i = ad i
theorem kExt.rf (n : Nat) (ad : Nat → Nat) : kExt n ad ad := fun _ _ => rfl
theorem kExt.tr {n m : Nat} {a b c : Nat → Nat} (h : kExt n a b) (h2 : kExt m b c) (hm : n ≤ m) : kExt n a c := fun i hi => (h2 i (hi.imp (fun q => Nat.lt_of_lt_of_le q hm) id)).trans (h i hi)
theorem kExt.up {n : Nat} {ad : Nat → Nat} (q : Nat) (hn : n < 1000000) : kExt n ad (kup ad n q) := fun i hi => by
  unfold kup
  rw [if_neg (by omega)]
theorem kokN_p {n i : Nat} (h : kokN n i = true) : i < n ∨ 1000000 ≤ i := by
  unfold kokN at h
  rcases Bool.or_eq_true_iff.mp h with h | h
  · exact Or.inl (Nat.ble_eq.mp h)
  · exact Or.inr (Nat.ble_eq.mp h)
theorem kV_ext {n : Nat} {ad ad' : Nat → Nat} {ρ : Nat → Int32} {v : KV} (h : kExt n ad ad') (hv : kokV n v = true) : kV ad' ρ v = kV ad ρ v := by
  rcases v with v | z
  · cases v <;> first | rfl | skip
    rename_i i
    show Value.ref (ad' i) = Value.ref (ad i)
    rw [h i (kokN_p hv)]
  · rfl
theorem kS_ext {n : Nat} {ad ad' : Nat → Nat} {ρ : Nat → Int32} {st : List KV} (h : kExt n ad ad') (hv : kokS n st = true) : st.map (kV ad' ρ) = st.map (kV ad ρ) :=
  List.map_congr_left fun v hm => kV_ext h (List.all_eq_true.mp hv v hm)
theorem kL_ext {n : Nat} {ad ad' : Nat → Nat} {ρ : Nat → Int32} {lo : List (Nat × KV)} (h : kExt n ad ad') (hv : kokL n lo = true) : kL ad' ρ lo = kL ad ρ lo :=
  List.map_congr_left fun q hm => by rw [kV_ext h (List.all_eq_true.mp hv q hm)]
theorem kget_ext {n : Nat} {ad ad' : Nat → Nat} (h : kExt n ad ad') (l : List (Nat × Option Nat)) (hl : l.all (fun q => match q.2 with
    | some i => kokN n i
    | none => true) = true) (j : Nat) : (kget l none j).map ad' = (kget l none j).map ad := by
  induction l with
  | nil => rfl
  | cons q l ih =>
    rw [List.all_cons, Bool.and_eq_true] at hl
    show (bif Nat.beq q.1 j then q.2 else kget l none j).map ad' = (bif Nat.beq q.1 j then q.2 else kget l none j).map ad
    cases Nat.beq q.1 j with
    | false => exact ih hl.2
    | true =>
      obtain ⟨k, o⟩ := q
      cases o with
      | none => rfl
      | some i =>
        show some (ad' i) = some (ad i)
        rw [h i (kokN_p hl.1)]
theorem kE_ext {dA : Nat → ClassId} {n : Nat} {ad ad' : Nat → Nat} {ρ : Nat → Int32} {e : KE} (h : kExt n ad ad') (hv : kokE n e = true) : kE dA ad' ρ e = kE dA ad ρ e := by
  rcases e with ⟨t, k, (⟨l, d⟩ | ⟨l, d⟩ | l)⟩ | ⟨ci, fs⟩
  · rfl
  · rfl
  · show (Sum.inl (dA t, k, .inr (.inr (.inr (.inr (fun j => (kget l none j).map ad'))))) : va_E) = .inl (dA t, k, .inr (.inr (.inr (.inr (fun j => (kget l none j).map ad)))))
    rw [show (fun j => (kget l none j).map ad') = (fun j => (kget l none j).map ad) from funext fun j => kget_ext h l hv j]
  · show (Sum.inr (ci, fs.map (kV ad' ρ)) : va_E) = .inr (ci, fs.map (kV ad ρ))
    rw [kS_ext h hv]
theorem kfr_ge : ∀ (w : KW) (i : Nat), 16 * i ≤ kfr i w := by
  intro w
  induction w with
  | nil => intro i; exact Nat.le_refl _
  | cons ch t ih =>
    intro i
    cases t with
    | nil =>
      show 16 * i ≤ (bif Nat.blt ch.length 16 then 16 * i + ch.length else 16 * (i + 1))
      cases Nat.blt ch.length 16
      · show 16 * i ≤ 16 * (i + 1)
        omega
      · show 16 * i ≤ 16 * i + ch.length
        omega
    | cons c2 t =>
      have := ih (i + 1)
      show 16 * i ≤ kfr (i + 1) (c2 :: t)
      omega
theorem kWc_ext {dA : Nat → ClassId} {n : Nat} {ad ad' : Nat → Nat} {ρ : Nat → Int32} (h : kExt n ad ad') : ∀ (ch : List KE) (b : Nat), b + ch.length ≤ n → ch.all (kokE n) = true → kWc dA ad' ρ b ch = kWc dA ad ρ b ch := by
  intro ch
  induction ch with
  | nil => intro b _ _; rfl
  | cons e t ih =>
    intro b hb hk
    rw [List.all_cons, Bool.and_eq_true] at hk
    rw [List.length_cons] at hb
    show (ad' b, kE dA ad' ρ e) :: kWc dA ad' ρ (b + 1) t = (ad b, kE dA ad ρ e) :: kWc dA ad ρ (b + 1) t
    rw [ih (b + 1) (by omega) hk.2, h b (Or.inl (by omega)), kE_ext h hk.1]
theorem kWf_ext {dA : Nat → ClassId} {n : Nat} {ad ad' : Nat → Nat} {ρ : Nat → Int32} (h : kExt n ad ad') : ∀ (w : KW) (i : Nat), kfr i w ≤ n → kokW n w = true → kWf dA ad' ρ i w = kWf dA ad ρ i w := by
  intro w
  induction w with
  | nil => intro i _ _; rfl
  | cons ch t ih =>
    intro i hn hk
    unfold kokW at hk
    rw [List.all_cons, Bool.and_eq_true, Bool.and_eq_true] at hk
    obtain ⟨⟨k1, k2⟩, k3⟩ := hk
    have k1 := Nat.ble_eq.mp k1
    show kWc dA ad' ρ (16 * i) ch ++ kWf dA ad' ρ (i + 1) t = kWc dA ad ρ (16 * i) ch ++ kWf dA ad ρ (i + 1) t
    cases t with
    | nil =>
      rw [kWc_ext h ch (16 * i) ?_ k2]
      · rfl
      · revert hn
        show (bif Nat.blt ch.length 16 then 16 * i + ch.length else 16 * (i + 1)) ≤ n → _
        cases Nat.blt ch.length 16
        · show 16 * (i + 1) ≤ n → _
          omega
        · show 16 * i + ch.length ≤ n → _
          omega
    | cons c2 t =>
      have hn2 : kfr (i + 1) (c2 :: t) ≤ n := hn
      have hg := kfr_ge (c2 :: t) (i + 1)
      rw [kWc_ext h ch (16 * i) (by omega) k2, ih (i + 1) hn2 k3]
theorem kW_ext {dA : Nat → ClassId} {n : Nat} {ad ad' : Nat → Nat} {ρ : Nat → Int32} {w : KW} (h : kExt n ad ad') (hn : kfr 0 w ≤ n) (hv : kokW n w = true) : kW dA ad' ρ w = kW dA ad ρ w := kWf_ext h w 0 hn hv
theorem kWc_push (dA : Nat → ClassId) (ad : Nat → Nat) (ρ : Nat → Int32) (e : KE) : ∀ (ch : List KE) (b : Nat), kWc dA ad ρ b (ch ++ [e]) = kWc dA ad ρ b ch ++ [(ad (b + ch.length), kE dA ad ρ e)] := by
  intro ch
  induction ch with
  | nil => intro b; rfl
  | cons x t ih =>
    intro b
    show (ad b, kE dA ad ρ x) :: kWc dA ad ρ (b + 1) (t ++ [e]) = (ad b, kE dA ad ρ x) :: (kWc dA ad ρ (b + 1) t ++ [(ad (b + (x :: t).length), kE dA ad ρ e)])
    rw [ih, List.length_cons]
    rw [show b + 1 + t.length = b + (t.length + 1) by omega]
theorem kWf_push (dA : Nat → ClassId) (ad : Nat → Nat) (ρ : Nat → Int32) (e : KE) : ∀ (w : KW) (i : Nat), kWf dA ad ρ i (kwp e w) = kWf dA ad ρ i w ++ [(ad (kfr i w), kE dA ad ρ e)] := by
  intro w
  induction w with
  | nil => intro i; rfl
  | cons ch t ih =>
    intro i
    cases t with
    | nil =>
      show kWf dA ad ρ i (bif Nat.blt ch.length 16 then [ch ++ [e]] else [ch, [e]]) = kWc dA ad ρ (16 * i) ch ++ [] ++ [(ad (bif Nat.blt ch.length 16 then 16 * i + ch.length else 16 * (i + 1)), kE dA ad ρ e)]
      cases Nat.blt ch.length 16
      · show kWc dA ad ρ (16 * i) ch ++ ((ad (16 * (i + 1)), kE dA ad ρ e) :: []) = _
        rw [List.append_nil]
        rfl
      · show kWc dA ad ρ (16 * i) (ch ++ [e]) ++ [] = _
        rw [kWc_push, List.append_nil, List.append_nil]
        rfl
    | cons c2 t =>
      show kWc dA ad ρ (16 * i) ch ++ kWf dA ad ρ (i + 1) (kwp e (c2 :: t)) = kWc dA ad ρ (16 * i) ch ++ kWf dA ad ρ (i + 1) (c2 :: t) ++ [(ad (kfr (i + 1) (c2 :: t)), kE dA ad ρ e)]
      rw [ih, List.append_assoc]
theorem kfr_push (e : KE) : ∀ (w : KW) (i : Nat), kfr i (kwp e w) = kfr i w + 1 := by
  intro w
  induction w with
  | nil => intro i; rfl
  | cons ch t ih =>
    intro i
    cases t with
    | nil =>
      cases q : Nat.blt ch.length 16 with
      | false =>
        have e1 : kwp e [ch] = [ch, [e]] := by show (bif Nat.blt ch.length 16 then [ch ++ [e]] else [ch, [e]]) = _; rw [q]; rfl
        have e2 : kfr i [ch] = 16 * (i + 1) := by show (bif Nat.blt ch.length 16 then 16 * i + ch.length else 16 * (i + 1)) = _; rw [q]; rfl
        rw [e1, e2]
        rfl
      | true =>
        have hl : ch.length + 1 ≤ 16 := Nat.ble_eq.mp q
        have e1 : kwp e [ch] = [ch ++ [e]] := by show (bif Nat.blt ch.length 16 then [ch ++ [e]] else [ch, [e]]) = _; rw [q]; rfl
        have e2 : kfr i [ch] = 16 * i + ch.length := by show (bif Nat.blt ch.length 16 then 16 * i + ch.length else 16 * (i + 1)) = _; rw [q]; rfl
        rw [e1, e2]
        show (bif Nat.blt (ch ++ [e]).length 16 then 16 * i + (ch ++ [e]).length else 16 * (i + 1)) = _
        rw [List.length_append, List.length_singleton]
        cases q2 : Nat.blt (ch.length + 1) 16 with
        | true => show 16 * i + (ch.length + 1) = _; omega
        | false =>
          have : ¬ (ch.length + 1 + 1 ≤ 16) := fun h => by
            have := Nat.ble_eq.mpr h
            exact absurd (this.symm.trans q2) (by decide)
          show 16 * (i + 1) = _
          omega
    | cons c2 t =>
      have h := ih (i + 1)
      have e0 : ∃ a b, kwp e (c2 :: t) = a :: b := by
        cases t with
        | nil =>
          show ∃ a b, (bif Nat.blt c2.length 16 then [c2 ++ [e]] else [c2, [e]]) = a :: b
          cases Nat.blt c2.length 16
          · exact ⟨_, _, rfl⟩
          · exact ⟨_, _, rfl⟩
        | cons c3 t => exact ⟨_, _, rfl⟩
      obtain ⟨a, b, e0⟩ := e0
      show kfr i (ch :: kwp e (c2 :: t)) = kfr (i + 1) (c2 :: t) + 1
      rw [← h, e0]
      rfl
theorem kW_push {dA : Nat → ClassId} {ad : Nat → Nat} {ρ : Nat → Int32} {w : KW} (q : Nat) (e : KE) (hn : kfr 0 w < 1000000) (hw : kokW (kfr 0 w) w = true) (he : kE dA (kup ad (kfr 0 w) q) ρ e = kE dA ad ρ e) : kW dA ad ρ w ++ [(q, kE dA ad ρ e)] = kW dA (kup ad (kfr 0 w) q) ρ (kwp e w) := by
  have h1 := kW_ext (dA := dA) (ρ := ρ) (kExt.up (ad := ad) q hn) (Nat.le_refl _) hw
  show _ = kWf dA (kup ad (kfr 0 w) q) ρ 0 (kwp e w)
  rw [kWf_push, he]
  have h2 : kWf dA (kup ad (kfr 0 w) q) ρ 0 w = kW dA ad ρ w := h1
  rw [h2]
  congr 2
  unfold kup
  rw [if_pos rfl]
/-- ranges of the inputs, and what compares within them -/
def krg (rg : List (Int × Int)) : KV → Option (Int × Int)
  | .inl v => match v with
    | .int x => some (x.toInt, x.toInt)
    | _ => none
  | .inr z => match z with
    | .inl i => rg[i]?
    | .inr _ => none
def kRg (rg : List (Int × Int)) (ρ : Nat → Int32) : Prop := ∀ i lo hi, rg[i]? = some (lo, hi) → lo ≤ (ρ i).toInt ∧ (ρ i).toInt ≤ hi
theorem krg_ok {rg : List (Int × Int)} {ρ : Nat → Int32} (hr : kRg rg ρ) {v : KV} {lo hi : Int} (h : krg rg v = some (lo, hi)) : lo ≤ (kiv ρ v).toInt ∧ (kiv ρ v).toInt ≤ hi := by
  rcases v with v | (i | f)
  · cases v <;> first | cases h | skip
    exact ⟨Int.le_refl _, Int.le_refl _⟩
  · exact hr i lo hi h
  · cases h
def klt (rg : List (Int × Int)) (a b : KV) : Option Bool := match krg rg a, krg rg b with
  | some (al, ah), some (bl, bh) => bif decide (ah < bl) then some true else bif decide (bh ≤ al) then some false else none
  | _, _ => none
def keq (rg : List (Int × Int)) (a b : KV) : Option Bool := match krg rg a, krg rg b with
  | some (al, ah), some (bl, bh) => bif decide (ah < bl) || decide (bh < al) then some false else bif decide (al = ah) && (decide (bl = bh) && decide (al = bl)) then some true else none
  | _, _ => none
theorem klt_ok {rg : List (Int × Int)} {ρ : Nat → Int32} (hr : kRg rg ρ) {a b : KV} {r : Bool} (h : klt rg a b = some r) : (r = true ↔ kiv ρ a < kiv ρ b) := by
  unfold klt at h
  cases ha : krg rg a with
  | none => rw [ha] at h; cases h
  | some x =>
    cases hb : krg rg b with
    | none => rw [ha, hb] at h; cases h
    | some y =>
      obtain ⟨al, ah⟩ := x
      obtain ⟨bl, bh⟩ := y
      rw [ha, hb] at h
      dsimp only at h
      have h1 := krg_ok hr ha
      have h2 := krg_ok hr hb
      rw [Int32.lt_iff_toInt_lt]
      by_cases c1 : ah < bl
      · rw [decide_eq_true c1] at h
        cases h
        exact ⟨fun _ => by omega, fun _ => rfl⟩
      · rw [decide_eq_false c1] at h
        by_cases c2 : bh ≤ al
        · rw [decide_eq_true c2] at h
          cases h
          exact ⟨fun q => absurd q Bool.false_ne_true, fun _ => by omega⟩
        · rw [decide_eq_false c2] at h
          cases h
theorem keq_ok {rg : List (Int × Int)} {ρ : Nat → Int32} (hr : kRg rg ρ) {a b : KV} {r : Bool} (h : keq rg a b = some r) : (r = true ↔ kiv ρ a = kiv ρ b) := by
  unfold keq at h
  cases ha : krg rg a with
  | none => rw [ha] at h; cases h
  | some x =>
    cases hb : krg rg b with
    | none => rw [ha, hb] at h; cases h
    | some y =>
      obtain ⟨al, ah⟩ := x
      obtain ⟨bl, bh⟩ := y
      rw [ha, hb] at h
      dsimp only at h
      have h1 := krg_ok hr ha
      have h2 := krg_ok hr hb
      rw [← Int32.toInt_inj]
      by_cases c1 : ah < bl ∨ bh < al
      · have e : (decide (ah < bl) || decide (bh < al)) = true := by
          rcases c1 with c | c
          · rw [decide_eq_true c]; rfl
          · rw [decide_eq_true c, Bool.or_true]
        rw [e] at h
        cases h
        exact ⟨fun q => absurd q Bool.false_ne_true, fun _ => by omega⟩
      · have e : (decide (ah < bl) || decide (bh < al)) = false := by
          rw [decide_eq_false (fun q => c1 (Or.inl q)), decide_eq_false (fun q => c1 (Or.inr q))]; rfl
        rw [e] at h
        by_cases c2 : al = ah ∧ bl = bh ∧ al = bl
        · have e2 : (decide (al = ah) && (decide (bl = bh) && decide (al = bl))) = true := by
            rw [decide_eq_true c2.1, decide_eq_true c2.2.1, decide_eq_true c2.2.2]; rfl
          rw [e2] at h
          cases h
          exact ⟨fun _ => by omega, fun _ => rfl⟩
        · have e2 : (decide (al = ah) && (decide (bl = bh) && decide (al = bl))) = false := by
            cases q1 : decide (al = ah) <;> cases q2 : decide (bl = bh) <;> cases q3 : decide (al = bl) <;> first | rfl | exact absurd ⟨of_decide_eq_true q1, of_decide_eq_true q2, of_decide_eq_true q3⟩ c2
          rw [e2] at h
          cases h
end
section
/-! One step of the small machine. -/
/-- an instruction's length; 0: any -/
def klen : Instr → Nat
  | .bipush _ => 2 | .sipush _ => 3 | .iload _ => 2 | .aload _ => 2 | .istore _ => 2 | .astore _ => 2 | .lload _ => 2 | .lstore _ => 2
  | .iinc _ _ => 3 | .goto _ => 3 | .ifCond _ _ => 3 | .if_icmp _ _ => 3 | .if_acmp _ _ => 3 | .getfield _ => 3 | .putfield _ => 3 | .getstatic _ => 3
  | .new _ => 3 | .anewarray _ => 3 | .newarray _ => 2 | .invokevirtual _ => 3 | .invokespecial _ => 3 | .invokestatic _ => 3 | .ldc _ => 2 | .ldc2_w _ => 3 | .ldc_w _ => 3
  | .tableswitch _ _ _ _ => 0 | .lookupswitch _ _ => 0 | .ifnull _ => 3 | .ifnonnull _ => 3
  | _ => 1
def kdec (cc : ByteArray) (e : KEnt) : Bool := match decode cc e.1 with
  | .ok r => decide (r.1 = e.2.1) && (Nat.beq (klen e.2.1) 0 || Nat.beq r.2 (klen e.2.1))
  | _ => false
theorem kdec_ok {cc : ByteArray} {e : KEnt} (h : kdec cc e = true) : ∃ len, decode cc e.1 = .ok (e.2.1, len) ∧ (klen e.2.1 = 0 ∨ len = klen e.2.1) := by
  unfold kdec at h
  split at h
  · rename_i r hr
    have h1 := Bool.and_eq_true_iff.mp h
    have h2 := of_decide_eq_true h1.1
    refine ⟨r.2, by rw [hr, ← h2], ?_⟩
    rcases Bool.or_eq_true_iff.mp h1.2 with q | q
    · exact Or.inl (kb_t q)
    · exact Or.inr (kb_t q)
  · cases h
/-- a jump's target -/
def ktg (pc : Nat) (off : Int) : Option Nat := match (pc : Int) + off with
  | .ofNat t => some t
  | .negSucc _ => none
theorem ktg_ok {pc t : Nat} {off : Int} (h : ktg pc off = some t) : (pc : Int) + off = (t : Int) := by
  unfold ktg at h
  split at h
  · rename_i t' ht
    cases h
    exact ht
  · cases h
def kisR : KV → Bool
  | .inl v => match v with
    | .ref _ => true
    | _ => false
  | .inr _ => false
theorem kisR_eq {v : KV} (h : kisR v = true) : ∃ a, v = .inl (.ref a) := by
  rcases v with v | z
  · cases v <;> first | exact ⟨_, rfl⟩ | cases h
  · cases h
def kld (ok : KV → Bool) (i len : Nat) (pc : Nat) (lo : List (Nat × KV)) (st : List KV) (w : KW) (c s : Nat) : Option KF := match klook lo i with
  | some v => bif ok v then some (pc + len, lo, v :: st, w, c, s) else none
  | none => none
def kst (ok : KV → Bool) (i len nL : Nat) (pc : Nat) (lo : List (Nat × KV)) (st : List KV) (w : KW) (c s : Nat) : Option KF := match st with
  | v :: rest => bif ok v && Nat.blt i nL then some (pc + len, klo lo i v, rest, w, c, s) else none
  | [] => none
def kinc (i : Nat) (n : Int) (nL : Nat) (pc : Nat) (lo : List (Nat × KV)) (st : List KV) (w : KW) (c s : Nat) : Option KF := match klook lo i with
  | some (.inl (.int x)) => bif Nat.blt i nL then some (pc + 3, klo lo i (.inl (.int (x + Int32.ofInt n))), st, w, c, s) else none
  | _ => none
def kop2 (f : Int32 → Int32 → Int32) (a b : KV) : KV := match a with
  | .inl va => match va with
    | .int x => match b with
      | .inl vb => match vb with
        | .int y => .inl (.int (f x y))
        | _ => .inr (.inr (fun ρ => f (kiv ρ a) (kiv ρ b)))
      | .inr _ => .inr (.inr (fun ρ => f (kiv ρ a) (kiv ρ b)))
    | _ => .inr (.inr (fun ρ => f (kiv ρ a) (kiv ρ b)))
  | .inr _ => .inr (.inr (fun ρ => f (kiv ρ a) (kiv ρ b)))
theorem kop2_ok (f : Int32 → Int32 → Int32) (a b : KV) (ad : Nat → Nat) (ρ : Nat → Int32) : kV ad ρ (kop2 f a b) = .int (f (kiv ρ a) (kiv ρ b)) := by
  rcases a with va | za
  · cases va <;> first | rfl | skip
    rcases b with vb | zb
    · cases vb <;> rfl
    · rfl
  · rfl
def kop1 (f : Int32 → Int32) (a : KV) : KV := match a with
  | .inl va => match va with
    | .int x => .inl (.int (f x))
    | _ => .inr (.inr (fun ρ => f (kiv ρ a)))
  | .inr _ => .inr (.inr (fun ρ => f (kiv ρ a)))
theorem kop1_ok (f : Int32 → Int32) (a : KV) (ad : Nat → Nat) (ρ : Nat → Int32) : kV ad ρ (kop1 f a) = .int (f (kiv ρ a)) := by
  rcases a with va | za
  · cases va <;> rfl
  · rfl
def kbin (f : Int32 → Int32 → Int32) (pc : Nat) (lo : List (Nat × KV)) (st : List KV) (w : KW) (c s : Nat) : Option KF := match st with
  | y :: x :: rest => bif kisI x && kisI y then some (pc + 1, lo, kop2 f x y :: rest, w, c, s) else none
  | _ => none
def kun (f : Int32 → Int32) (pc : Nat) (lo : List (Nat × KV)) (st : List KV) (w : KW) (c s : Nat) : Option KF := match st with
  | x :: rest => bif kisI x then some (pc + 1, lo, kop1 f x :: rest, w, c, s) else none
  | _ => none
/-- iand: the first input and 63 is known -/
def kisO : KV → Bool
  | .inr (.inl i) => Nat.beq i 0
  | _ => false
def kis63 : KV → Bool
  | .inl (.int y) => decide (y = 63)
  | _ => false
def kand (ks : Int32) (pc : Nat) (lo : List (Nat × KV)) (st : List KV) (w : KW) (c s : Nat) : Option KF := match st with
  | y :: x :: rest => bif kisO x && kis63 y then some (pc + 1, lo, .inl (.int ks) :: rest, w, c, s) else kbin (fun a b => a &&& b) pc lo st w c s
  | _ => none
def kbr (o : Option Nat) (r : Option Bool) (pc : Nat) (lo : List (Nat × KV)) (st : List KV) (w : KW) (c s : Nat) : Option KF := match r with
  | some b => match b with
    | true => match o with
      | some t => some (t, lo, st, w, c, s)
      | none => none
    | false => some (pc + 3, lo, st, w, c, s)
  | none => none
def kcond (rg : List (Int × Int)) (cnd : Jvm.ClassFile.Cond) (a b : KV) : Option Bool := match cnd with
  | .eq => keq rg a b
  | .ne => (keq rg a b).map not
  | .lt => klt rg a b
  | .ge => (klt rg a b).map not
  | .gt => klt rg b a
  | .le => (klt rg b a).map not
def kif (rg : List (Int × Int)) (cnd : Jvm.ClassFile.Cond) (off : Int) (pc : Nat) (lo : List (Nat × KV)) (st : List KV) (w : KW) (c s : Nat) : Option KF := match st with
  | x :: rest => bif kisI x then kbr (ktg pc off) (kcond rg cnd x (.inl (.int 0))) pc lo rest w c s else none
  | _ => none
def kicmp (rg : List (Int × Int)) (cnd : Jvm.ClassFile.Cond) (off : Int) (pc : Nat) (lo : List (Nat × KV)) (st : List KV) (w : KW) (c s : Nat) : Option KF := match st with
  | y :: x :: rest => bif kisI x && kisI y then kbr (ktg pc off) (kcond rg cnd x y) pc lo rest w c s else none
  | _ => none
def krf : KV → Option (Option Nat)
  | .inl v => match v with
    | .null => some none
    | .ref i => some (some i)
    | _ => none
  | .inr _ => none
def kreq (a b : KV) : Option Bool := match krf a, krf b with
  | some none, some none => some true
  | some none, some (some _) => some false
  | some (some _), some none => some false
  | some (some i), some (some j) => bif Nat.beq i j then some true else none
  | _, _ => none
def kacmp (cnd : Jvm.ClassFile.ACond) (off : Int) (pc : Nat) (lo : List (Nat × KV)) (st : List KV) (w : KW) (c s : Nat) : Option KF := match st with
  | y :: x :: rest => kbr (ktg pc off) (match cnd with
    | .eq => kreq x y
    | .ne => (kreq x y).map not) pc lo rest w c s
  | _ => none
def ksw (rg : List (Int × Int)) (dflt lw hg : Int) (offs : Array Int) (pc : Nat) (lo : List (Nat × KV)) (st : List KV) (w : KW) (c s : Nat) : Option KF := match st with
  | v :: rest => match krg rg v with
    | some (a, b) => bif decide (b < lw) || decide (hg < a) then (match ktg pc dflt with
        | some t => some (t, lo, rest, w, c, s)
        | none => none)
      else bif decide (a = b) then (match offs.toList[(a - lw).toNat]? with
        | some off => match ktg pc off with
          | some t => some (t, lo, rest, w, c, s)
          | none => none
        | none => none) else none
    | none => none
  | _ => none
def kgetf (ci k : Nat) (pc : Nat) (lo : List (Nat × KV)) (st : List KV) (w : KW) (c s : Nat) : Option KF := match st with
  | .inl (.ref a) :: rest => match kwg w a with
    | some (.inr (cj, fs)) => bif Nat.beq cj ci then (match fs[k]? with
      | some v => some (pc + 3, lo, v :: rest, w, c, s)
      | none => none) else none
    | _ => none
  | _ => none
def kfit (ty : FieldType) (v : KV) : Bool := match ty with
  | .int => kisI v
  | .boolean => match v with
    | .inl (.int x) => decide (x = 0) || decide (x = 1)
    | _ => false
  | .long => match v with
    | .inl (.long _) => true
    | _ => false
  | .object _ => match v with
    | .inl (.ref _) => true
    | .inl .null => true
    | _ => false
  | .array _ => match v with
    | .inl (.ref _) => true
    | .inl .null => true
    | _ => false
  | _ => false
def kputf (ci k : Nat) (pc : Nat) (lo : List (Nat × KV)) (st : List KV) (w : KW) (c s : Nat) : Option KF := match st with
  | v :: .inl (.ref a) :: rest => match kwg w a with
    | some (.inr (cj, fs)) => bif Nat.beq cj ci && (Nat.blt k fs.length && kfit (kTy ci k) v) then some (pc + 3, lo, rest, kws w a (.inr (cj, fs.set k v)), c, s) else none
    | _ => none
  | _ => none
def kfresh (c s n Rc Rs : Nat) (lo : List (Nat × KV)) (st : List KV) (w : KW) : Bool := Nat.ble (c + 1) Rc && (Nat.ble (s + n) Rs && (Nat.blt (kfr 0 w) 1000000 && (kokW (kfr 0 w) w && (kokS (kfr 0 w) st && kokL (kfr 0 w) lo))))
def knew (ci Rc Rs : Nat) (pc : Nat) (lo : List (Nat × KV)) (st : List KV) (w : KW) (c s : Nat) : Option KF := match kTys[ci]? with
  | some tys => bif kfresh c s tys.length Rc Rs lo st w then some (pc + 3, lo, .inl (.ref (kfr 0 w)) :: st, kwp (.inr (ci, tys.map (fun t => (.inl (defaultValue t) : KV)))) w, c + 1, s + tys.length) else none
  | none => none
/-- the kinds of arrays -/
def kEl : List FieldType := [.int, .long, .byte, .char, .boolean, .object "TriplicateForms$Standing", .object "TriplicateForms$Image"]
def kElc : List Nat := [99, 99, 99, 99, 99, 7, 2]
def karr0 (t n : Nat) : KA := (t, n, match t with
  | 1 => .inr (.inl ([], 0))
  | 5 => .inr (.inr [])
  | 6 => .inr (.inr [])
  | _ => .inl ([], .inl 0))
def knewa (ref : Bool) (t len Rc Rs : Nat) (pc : Nat) (lo : List (Nat × KV)) (st : List KV) (w : KW) (c s : Nat) : Option KF := match st with
  | .inl (.int n) :: rest => bif !decide (n < 0) && (Nat.blt n.toNatClampNeg 100000 && (kfresh c s n.toNatClampNeg Rc Rs lo rest w && (Nat.blt t 7 && (Nat.ble 5 t == ref)))) then some (pc + len, lo, .inl (.ref (kfr 0 w)) :: rest, kwp (.inl (karr0 t n.toNatClampNeg)) w, c + 1, s + n.toNatClampNeg) else none
  | _ => none
def kscr : KV → Bool
  | .inl (.ref a) => Nat.beq a 1000000
  | _ => false
def kalen (L : Nat) (pc : Nat) (lo : List (Nat × KV)) (st : List KV) (w : KW) (c s : Nat) : Option KF := match st with
  | v :: rest => bif kscr v && Nat.blt 0 L then some (pc + 1, lo, .inl (.int (Int32.ofNat L)) :: rest, w, c, s) else (match v with
    | .inl (.ref a) => match kwg w a with
      | some (.inl (t, n, _)) => bif Nat.blt t 7 then some (pc + 1, lo, .inl (.int (Int32.ofNat n)) :: rest, w, c, s) else none
      | _ => none
    | _ => none)
  | _ => none
def kinB (i : Int32) (n : Nat) : Bool := !decide (i < 0) && Nat.blt i.toNatClampNeg n
def kofI : KI → KV
  | .inl x => .inl (.int x)
  | .inr z => .inr z
def ktoI : KV → KI
  | .inl v => match v with
    | .int x => .inl x
    | _ => .inl 0
  | .inr z => .inr z
theorem kofI_ok (ad : Nat → Nat) (ρ : Nat → Int32) (x : KI) : kV ad ρ (kofI x) = .int (kI ρ x) := by
  cases x <;> rfl
theorem ktoI_ok (ρ : Nat → Int32) (v : KV) : kI ρ (ktoI v) = kiv ρ v := by
  rcases v with v | z
  · cases v <;> rfl
  · rfl
def kscl (rg : List (Int × Int)) (j : Nat) : Option KV := match rg[j]? with
  | some (a, b) => bif decide (a = b) then some (.inl (.int (Int32.ofInt a))) else some (.inr (.inl j))
  | none => none
def kald (rg : List (Int × Int)) (L : Nat) (ok : Nat → Bool) (pc : Nat) (lo : List (Nat × KV)) (st : List KV) (w : KW) (c s : Nat) : Option KF := match st with
  | .inl (.int i) :: v :: rest => bif kscr v && kinB i L then (match kscl rg i.toNatClampNeg with
      | some x => some (pc + 1, lo, x :: rest, w, c, s)
      | none => none) else (match v with
    | .inl (.ref a) => match kwg w a with
      | some (.inl (t, n, .inl (l, d))) => bif ok t && kinB i n then some (pc + 1, lo, kofI (kget l d i.toNatClampNeg) :: rest, w, c, s) else none
      | _ => none
    | _ => none)
  | _ => none
def klald (pc : Nat) (lo : List (Nat × KV)) (st : List KV) (w : KW) (c s : Nat) : Option KF := match st with
  | .inl (.int i) :: .inl (.ref a) :: rest => match kwg w a with
    | some (.inl (t, n, .inr (.inl (l, d)))) => bif Nat.beq t 1 && kinB i n then some (pc + 1, lo, .inl (.long (kget l d i.toNatClampNeg)) :: rest, w, c, s) else none
    | _ => none
  | _ => none
def kofR : Option Nat → KV
  | none => .inl .null
  | some a => .inl (.ref a)
theorem kofR_ok (ad : Nat → Nat) (ρ : Nat → Int32) (o : Option Nat) : kV ad ρ (kofR o) = va_rf (o.map ad) := by
  cases o <;> rfl
def kaald (pc : Nat) (lo : List (Nat × KV)) (st : List KV) (w : KW) (c s : Nat) : Option KF := match st with
  | .inl (.int i) :: .inl (.ref a) :: rest => match kwg w a with
    | some (.inl (t, n, .inr (.inr l))) => bif (Nat.beq t 5 || Nat.beq t 6) && kinB i n then some (pc + 1, lo, kofR (kget l none i.toNatClampNeg) :: rest, w, c, s) else none
    | _ => none
  | _ => none
def kop1I (f : Int32 → Int32) : KI → KI
  | .inl x => .inl (f x)
  | .inr z => .inr (.inr (fun ρ => f (kS ρ z)))
theorem kop1I_ok (f : Int32 → Int32) (ρ : Nat → Int32) (x : KI) : kI ρ (kop1I f x) = f (kI ρ x) := by
  cases x <;> rfl
def kast (ok : Nat → Bool) (f : Nat → Int32 → Int32) (pc : Nat) (lo : List (Nat × KV)) (st : List KV) (w : KW) (c s : Nat) : Option KF := match st with
  | x :: .inl (.int i) :: .inl (.ref a) :: rest => match kwg w a with
    | some (.inl (t, n, .inl (l, d))) => bif ok t && (kinB i n && kisI x) then some (pc + 1, lo, rest, kws w a (.inl (t, n, .inl (kset l i.toNatClampNeg (kop1I (f t) (ktoI x)), d))), c, s) else none
    | _ => none
  | _ => none
def klast (pc : Nat) (lo : List (Nat × KV)) (st : List KV) (w : KW) (c s : Nat) : Option KF := match st with
  | .inl (.long x) :: .inl (.int i) :: .inl (.ref a) :: rest => match kwg w a with
    | some (.inl (t, n, .inr (.inl (l, d)))) => bif Nat.beq t 1 && kinB i n then some (pc + 1, lo, rest, kws w a (.inl (t, n, .inr (.inl (kset l i.toNatClampNeg x, d)))), c, s) else none
    | _ => none
  | _ => none
def kaast (pc : Nat) (lo : List (Nat × KV)) (st : List KV) (w : KW) (c s : Nat) : Option KF := match st with
  | .inl (.ref r) :: .inl (.int i) :: .inl (.ref a) :: rest => match kwg w a, kwg w r with
    | some (.inl (t, n, .inr (.inr l))), some (.inr (cj, _)) => bif (Nat.beq t 5 && Nat.beq cj 7 || Nat.beq t 6 && Nat.beq cj 2) && kinB i n then some (pc + 1, lo, rest, kws w a (.inl (t, n, .inr (.inr (kset l i.toNatClampNeg (some r))))), c, s) else none
    | _, _ => none
  | _ => none
def kdup (pc : Nat) (lo : List (Nat × KV)) (st : List KV) (w : KW) (c s : Nat) : Option KF := match st with
  | v :: rest => bif Nat.beq (kcat v) 1 then some (pc + 1, lo, v :: v :: rest, w, c, s) else none
  | _ => none
def kdup2 (pc : Nat) (lo : List (Nat × KV)) (st : List KV) (w : KW) (c s : Nat) : Option KF := match st with
  | a :: b :: rest => bif Nat.beq (kcat a) 1 && Nat.beq (kcat b) 1 then some (pc + 1, lo, a :: b :: a :: b :: rest, w, c, s) else none
  | _ => none
def kpop (pc : Nat) (lo : List (Nat × KV)) (st : List KV) (w : KW) (c s : Nat) : Option KF := match st with
  | v :: rest => bif Nat.beq (kcat v) 1 then some (pc + 1, lo, rest, w, c, s) else none
  | _ => none
def kcats (st : List KV) : Nat := (st.map kcat).sum
/-- calls: the method's number, how many arguments, the cells and slots that it may make, the receiver's class -/
def kcallV (call : Nat → List KV → KW → Option (Option KV × KW)) (Rc Rs : Nat) (x : KX) (pc : Nat) (lo : List (Nat × KV)) (st : List KV) (w : KW) (c s : Nat) : Option KF := match st.drop x.2.1 with
  | .inl (.ref b) :: rest => match kwg w b with
    | some (.inr (cj, _)) => bif Nat.beq cj x.2.2.2.2 && (kokL (kfr 0 w) lo && (kokS (kfr 0 w) rest && (Nat.ble (c + x.2.2.1) Rc && (Nat.ble (s + x.2.2.2.1) Rs && Nat.ble (kcats rest) 8)))) then
        (match call x.1 (.inl (.ref b) :: (st.take x.2.1).reverse) w with
        | some (r, w') => some (pc + 3, lo, r.toList ++ rest, w', c + x.2.2.1, s + x.2.2.2.1)
        | none => none) else none
    | _ => none
  | _ => none
def kcallS (call : Nat → List KV → KW → Option (Option KV × KW)) (Rc Rs : Nat) (x : KX) (pc : Nat) (lo : List (Nat × KV)) (st : List KV) (w : KW) (c s : Nat) : Option KF :=
  bif Nat.ble x.2.1 st.length && (kokL (kfr 0 w) lo && (kokS (kfr 0 w) (st.drop x.2.1) && (Nat.ble (c + x.2.2.1) Rc && (Nat.ble (s + x.2.2.2.1) Rs && Nat.ble (kcats (st.drop x.2.1)) 8)))) then
        (match call x.1 (st.take x.2.1).reverse w with
        | some (r, w') => some (pc + 3, lo, r.toList ++ st.drop x.2.1, w', c + x.2.2.1, s + x.2.2.2.1)
        | none => none) else none
def kobj (pc : Nat) (lo : List (Nat × KV)) (st : List KV) (w : KW) (c s : Nat) : Option KF := match st with
  | .inl (.ref _) :: rest => bif Nat.ble (kcats rest) 8 then some (pc + 3, lo, rest, w, c, s) else none
  | _ => none
def kmin (rg : List (Int × Int)) (Rc Rs : Nat) (pc : Nat) (lo : List (Nat × KV)) (st : List KV) (w : KW) (c s : Nat) : Option KF := match st with
  | y :: x :: rest => bif kisI x && (kisI y && (Nat.ble c Rc && (Nat.ble s Rs && Nat.ble (kcats rest) 8))) then (match klt rg y x with
      | some b => some (pc + 3, lo, (bif b then y else x) :: rest, w, c, s)
      | none => none) else none
  | _ => none
def kcopy (pc : Nat) (lo : List (Nat × KV)) (st : List KV) (w : KW) (c s : Nat) : Option KF := match st with
  | .inl (.int n) :: .inl (.int dp) :: .inl (.ref a1) :: .inl (.int sp) :: .inl (.ref a0) :: rest => match kwg w a0, kwg w a1 with
    | some (.inl (t0, n0, e0)), some (.inl (t1, n1, e1)) => bif decide (sp = 0) && (decide (dp = 0) && (!decide (n < 0) && (Nat.beq n.toNatClampNeg n0 && (Nat.beq n0 n1 && (Nat.beq t0 t1 && Nat.ble (kcats rest) 8))))) then
        (match e0, e1 with
        | .inl _, .inl _ => bif Nat.beq t0 0 then some (pc + 3, lo, rest, kws w a1 (.inl (t1, n1, e0)), c, s) else none
        | .inr (.inl _), .inr (.inl _) => bif Nat.beq t0 1 then some (pc + 3, lo, rest, kws w a1 (.inl (t1, n1, e0)), c, s) else none
        | _, _ => none) else none
    | _, _ => none
  | _ => none
def kdo (ig : Instr) : (Nat → List KV → KW → Option (Option KV × KW)) → List (Int × Int) → Int32 → Nat → Nat → Nat → Nat → KX → Nat → List (Nat × KV) → List KV → KW → Nat → Nat → Option KF := match ig with
  | .iconst n => fun call rg ks L nL Rc Rs x pc lo st w c s => some (pc + 1, lo, .inl (.int (Int32.ofInt n)) :: st, w, c, s)
  | .bipush n => fun call rg ks L nL Rc Rs x pc lo st w c s => some (pc + 2, lo, .inl (.int (Int8.ofInt n).toInt32) :: st, w, c, s)
  | .sipush n => fun call rg ks L nL Rc Rs x pc lo st w c s => some (pc + 3, lo, .inl (.int (Int16.ofInt n).toInt32) :: st, w, c, s)
  | .lconst n => fun call rg ks L nL Rc Rs x pc lo st w c s => some (pc + 1, lo, .inl (.long (Int64.ofNat n.val)) :: st, w, c, s)
  | .aconst_null => fun call rg ks L nL Rc Rs x pc lo st w c s => some (pc + 1, lo, .inl .null :: st, w, c, s)
  | .iload_n n => fun call rg ks L nL Rc Rs x pc lo st w c s => kld kisI n.val 1 pc lo st w c s
  | .iload n => fun call rg ks L nL Rc Rs x pc lo st w c s => kld kisI n 2 pc lo st w c s
  | .aload_n n => fun call rg ks L nL Rc Rs x pc lo st w c s => kld kisR n.val 1 pc lo st w c s
  | .aload n => fun call rg ks L nL Rc Rs x pc lo st w c s => kld kisR n 2 pc lo st w c s
  | .istore_n n => fun call rg ks L nL Rc Rs x pc lo st w c s => kst kisI n.val 1 nL pc lo st w c s
  | .istore n => fun call rg ks L nL Rc Rs x pc lo st w c s => kst kisI n 2 nL pc lo st w c s
  | .astore_n n => fun call rg ks L nL Rc Rs x pc lo st w c s => kst kisR n.val 1 nL pc lo st w c s
  | .astore n => fun call rg ks L nL Rc Rs x pc lo st w c s => kst kisR n 2 nL pc lo st w c s
  | .iinc i n => fun call rg ks L nL Rc Rs x pc lo st w c s => kinc i n nL pc lo st w c s
  | .iadd => fun call rg ks L nL Rc Rs x pc lo st w c s => kbin (fun a b => a + b) pc lo st w c s
  | .isub => fun call rg ks L nL Rc Rs x pc lo st w c s => kbin (fun a b => a - b) pc lo st w c s
  | .imul => fun call rg ks L nL Rc Rs x pc lo st w c s => kbin (fun a b => a * b) pc lo st w c s
  | .ishl => fun call rg ks L nL Rc Rs x pc lo st w c s => kbin (fun a b => a <<< (b &&& 31)) pc lo st w c s
  | .iushr => fun call rg ks L nL Rc Rs x pc lo st w c s => kbin (fun a b => (a.toUInt32 >>> (b.toUInt32 &&& Int32.toUInt32 31)).toInt32) pc lo st w c s
  | .iand => fun call rg ks L nL Rc Rs x pc lo st w c s => kand ks pc lo st w c s
  | .i2b => fun call rg ks L nL Rc Rs x pc lo st w c s => kun (fun a => a.toInt8.toInt32) pc lo st w c s
  | .dup => fun call rg ks L nL Rc Rs x pc lo st w c s => kdup pc lo st w c s
  | .dup2 => fun call rg ks L nL Rc Rs x pc lo st w c s => kdup2 pc lo st w c s
  | .pop => fun call rg ks L nL Rc Rs x pc lo st w c s => kpop pc lo st w c s
  | .goto off => fun call rg ks L nL Rc Rs x pc lo st w c s => (match ktg pc off with
    | some t => some (t, lo, st, w, c, s)
    | none => none)
  | .ifCond cnd off => fun call rg ks L nL Rc Rs x pc lo st w c s => kif rg cnd off pc lo st w c s
  | .if_icmp cnd off => fun call rg ks L nL Rc Rs x pc lo st w c s => kicmp rg cnd off pc lo st w c s
  | .if_acmp cnd off => fun call rg ks L nL Rc Rs x pc lo st w c s => kacmp cnd off pc lo st w c s
  | .tableswitch dflt lw hg offs => fun call rg ks L nL Rc Rs x pc lo st w c s => ksw rg dflt lw hg offs pc lo st w c s
  | .getfield _ => fun call rg ks L nL Rc Rs x pc lo st w c s => kgetf x.1 x.2.1 pc lo st w c s
  | .putfield _ => fun call rg ks L nL Rc Rs x pc lo st w c s => kputf x.1 x.2.1 pc lo st w c s
  | .getstatic _ => fun call rg ks L nL Rc Rs x pc lo st w c s => some (pc + 3, lo, .inl (.ref (1000001 + x.1)) :: st, w, c, s)
  | .new _ => fun call rg ks L nL Rc Rs x pc lo st w c s => knew x.1 Rc Rs pc lo st w c s
  | .newarray _ => fun call rg ks L nL Rc Rs x pc lo st w c s => knewa false x.1 2 Rc Rs pc lo st w c s
  | .anewarray _ => fun call rg ks L nL Rc Rs x pc lo st w c s => knewa true x.1 3 Rc Rs pc lo st w c s
  | .arraylength => fun call rg ks L nL Rc Rs x pc lo st w c s => kalen L pc lo st w c s
  | .iaload => fun call rg ks L nL Rc Rs x pc lo st w c s => kald rg L (fun t => Nat.beq t 0) pc lo st w c s
  | .baload => fun call rg ks L nL Rc Rs x pc lo st w c s => kald rg 0 (fun t => Nat.beq t 2 || Nat.beq t 4) pc lo st w c s
  | .laload => fun call rg ks L nL Rc Rs x pc lo st w c s => klald pc lo st w c s
  | .aaload => fun call rg ks L nL Rc Rs x pc lo st w c s => kaald pc lo st w c s
  | .iastore => fun call rg ks L nL Rc Rs x pc lo st w c s => kast (fun t => Nat.beq t 0) (fun _ a => a) pc lo st w c s
  | .bastore => fun call rg ks L nL Rc Rs x pc lo st w c s => kast (fun t => Nat.beq t 2 || Nat.beq t 4) (fun t a => bif Nat.beq t 2 then vp_nar .byte a else vp_nar .boolean a) pc lo st w c s
  | .lastore => fun call rg ks L nL Rc Rs x pc lo st w c s => klast pc lo st w c s
  | .aastore => fun call rg ks L nL Rc Rs x pc lo st w c s => kaast pc lo st w c s
  | .invokevirtual _ => fun call rg ks L nL Rc Rs x pc lo st w c s => kcallV call Rc Rs x pc lo st w c s
  | .invokespecial _ => fun call rg ks L nL Rc Rs x pc lo st w c s => bif Nat.beq x.1 999999 then kobj pc lo st w c s else kcallV call Rc Rs (x.1, x.2.1, x.2.2.1, x.2.2.2.1, x.2.2.2.2 % 100) pc lo st w c s
  | .ldc _ => fun call rg ks L nL Rc Rs x pc lo st w c s => some (pc + 2, lo, .inl (.int (Int32.ofNat x.1)) :: st, w, c, s)
  | .ldc_w _ => fun call rg ks L nL Rc Rs x pc lo st w c s => some (pc + 3, lo, .inl (.int (Int32.ofNat x.1)) :: st, w, c, s)
  | .invokestatic _ => fun call rg ks L nL Rc Rs x pc lo st w c s => bif Nat.beq x.1 999998 then kmin rg Rc Rs pc lo st w c s else bif Nat.beq x.1 999997 then kcopy pc lo st w c s else kcallS call Rc Rs x pc lo st w c s
  | _ => fun _ _ _ _ _ _ _ _ _ _ _ _ _ _ => none
def kend : Instr → Bool
  | .ireturn => true
  | .return_ => true
  | .lreturn => true
  | .areturn => true
  | _ => false
/-- what stands from a place on -/
def kfrom : List KEnt → Nat → List KEnt
  | [], _ => []
  | e :: l, pc => bif Nat.beq e.1 pc then e :: l else kfrom l pc
theorem kfrom_sub {l : List KEnt} {pc : Nat} : ∀ e ∈ kfrom l pc, e ∈ l := by
  induction l with
  | nil => intro e h; cases h
  | cons q l ih =>
    intro e h
    unfold kfrom at h
    cases q1 : Nat.beq q.1 pc with
    | true => rw [q1] at h; exact h
    | false => rw [q1] at h; exact List.mem_cons_of_mem _ (ih e h)
def krun (call : Nat → List KV → KW → Option (Option KV × KW)) (rg : List (Int × Int)) (ks : Int32) (L nL Rc Rs : Nat) (prog : List KEnt) : Nat → List KEnt → KF → Option (Instr × KF)
  | 0, _, _ => none
  | n + 1, cur, (pc, lo, st, w, c, s) => match cur with
    | [] => (match kfrom prog pc with
      | [] => none
      | e :: l => krun call rg ks L nL Rc Rs prog n (e :: l) (pc, lo, st, w, c, s))
    | e :: l => bif Nat.beq e.1 pc then
        (bif kend e.2.1 then some (e.2.1, pc, lo, st, w, c, s) else match kdo e.2.1 call rg ks L nL Rc Rs e.2.2 pc lo st w c s with
        | none => none
        | some k => krun call rg ks L nL Rc Rs prog n l k)
      else krun call rg ks L nL Rc Rs prog n [] (pc, lo, st, w, c, s)
def kargs : Nat → List KV → List (Nat × KV)
  | _, [] => []
  | i, v :: vs => (i, v) :: kargs (if kcat v = 2 then i + 2 else i + 1) vs
/-- an answer: none for void -/
def kret (ret : Option FieldType) (ig : Instr) (st : List KV) : Option (Option KV) := match ig with
  | .return_ => match ret, st with
    | none, [] => some none
    | _, _ => none
  | .ireturn => match ret, st with
    | some .int, [v] => bif kisI v then some (some v) else none
    | some .boolean, [.inl (.int x)] => bif decide (x = 0) || decide (x = 1) then some (some (.inl (.int x))) else none
    | _, _ => none
  | _ => none
def kfuel : Nat := 1000000
def kcall (ms : List KMeth) (rg : List (Int × Int)) : Nat → Nat → List KV → KW → Option (Option KV × KW)
  | 0, _, _, _ => none
  | d + 1, mid, args, w => match ms[mid]? with
    | none => none
    | some (_, _, maxL, ret, mc, mslots, prog) => bif Nat.ble (kcats args) maxL && Nat.blt (kfr 0 w) 1000000 then
        (match krun (kcall ms rg d) rg 0 0 maxL mc mslots prog kfuel prog (0, kargs 0 args, [], w, 0, 0) with
        | some (ig, _, _, st, w', _, _) => match kret ret ig st with
          | some r => some (r, w')
          | none => none
        | none => none) else none
end
section
/-! the methods that are reached, their instructions with resolved operands (written by a program) -/
def kStats : List (String × String × String) := [("TriplicateForms$Word", "NOT", "LTriplicateForms$Word;"), ("TriplicateForms$Word", "CLEAR", "LTriplicateForms$Word;"), ("TriplicateForms$Word", "ABOUT", "LTriplicateForms$Word;"), ("TriplicateForms$Word", "HURTS", "LTriplicateForms$Word;"), ("TriplicateForms$Word", "SIGNED", "LTriplicateForms$Word;"), ("TriplicateForms$Word", "PARTS", "LTriplicateForms$Word;"), ("TriplicateForms$Word", "DAYS", "LTriplicateForms$Word;"), ("TriplicateForms$Word", "NUMBER", "LTriplicateForms$Word;"), ("TriplicateForms$Word", "OPEN", "LTriplicateForms$Word;"), ("TriplicateForms$Word", "FILED", "LTriplicateForms$Word;"), ("TriplicateForms$Word", "GRANTED", "LTriplicateForms$Word;"), ("TriplicateForms$Word", "VOIDED", "LTriplicateForms$Word;")]
def kP0 : List KEnt := [(0, .aload_n 0, (0, 0, 0, 0, 0)), (1, .invokespecial 1, (999999, 0, 0, 0, 0)), (4, .aload_n 0, (0, 0, 0, 0, 0)), (5, .new 7, (8, 0, 0, 0, 0)), (8, .dup, (0, 0, 0, 0, 0)), (9, .invokespecial 9, (87, 0, 1, 940, 108)), (12, .putfield 10, (10, 0, 0, 0, 0)), (15, .aload_n 0, (0, 0, 0, 0, 0)), (16, .new 16, (4, 0, 0, 0, 0)), (19, .dup, (0, 0, 0, 0, 0)), (20, .invokespecial 18, (58, 0, 5, 40, 104)), (23, .putfield 19, (10, 1, 0, 0, 0)), (26, .aload_n 0, (0, 0, 0, 0, 0)), (27, .new 16, (4, 0, 0, 0, 0)), (30, .dup, (0, 0, 0, 0, 0)), (31, .invokespecial 18, (58, 0, 5, 40, 104)), (34, .putfield 23, (10, 2, 0, 0, 0)), (37, .aload_n 0, (0, 0, 0, 0, 0)), (38, .new 26, (7, 0, 0, 0, 0)), (41, .dup, (0, 0, 0, 0, 0)), (42, .aload_n 0, (0, 0, 0, 0, 0)), (43, .getfield 19, (10, 1, 0, 0, 0)), (46, .invokespecial 28, (75, 1, 6, 120, 7)), (49, .putfield 31, (10, 3, 0, 0, 0)), (52, .aload_n 0, (0, 0, 0, 0, 0)), (53, .new 26, (7, 0, 0, 0, 0)), (56, .dup, (0, 0, 0, 0, 0)), (57, .aload_n 0, (0, 0, 0, 0, 0)), (58, .getfield 19, (10, 1, 0, 0, 0)), (61, .invokespecial 28, (75, 1, 6, 120, 7)), (64, .putfield 35, (10, 4, 0, 0, 0)), (67, .aload_n 0, (0, 0, 0, 0, 0)), (68, .new 38, (9, 0, 0, 0, 0)), (71, .dup, (0, 0, 0, 0, 0)), (72, .aload_n 0, (0, 0, 0, 0, 0)), (73, .getfield 19, (10, 1, 0, 0, 0)), (76, .invokespecial 40, (94, 1, 57, 1048, 9)), (79, .putfield 41, (10, 5, 0, 0, 0)), (82, .aload_n 0, (0, 0, 0, 0, 0)), (83, .iconst 2, (0, 0, 0, 0, 0)), (84, .anewarray 45, (6, 0, 0, 0, 0)), (87, .putfield 47, (10, 6, 0, 0, 0)), (90, .aload_n 0, (0, 0, 0, 0, 0)), (91, .new 51, (3, 0, 0, 0, 0)), (94, .dup, (0, 0, 0, 0, 0)), (95, .invokespecial 53, (53, 0, 3, 96, 3)), (98, .putfield 54, (10, 7, 0, 0, 0)), (101, .aload_n 0, (0, 0, 0, 0, 0)), (102, .new 58, (0, 0, 0, 0, 0)), (105, .dup, (0, 0, 0, 0, 0)), (106, .invokespecial 60, (42, 0, 1, 8, 100)), (109, .putfield 61, (10, 8, 0, 0, 0)), (112, .aload_n 0, (0, 0, 0, 0, 0)), (113, .new 65, (6, 0, 0, 0, 0)), (116, .dup, (0, 0, 0, 0, 0)), (117, .invokespecial 67, (73, 0, 1, 40, 106)), (120, .putfield 68, (10, 9, 0, 0, 0)), (123, .aload_n 0, (0, 0, 0, 0, 0)), (124, .new 72, (1, 0, 0, 0, 0)), (127, .dup, (0, 0, 0, 0, 0)), (128, .invokespecial 74, (47, 0, 3, 120, 101)), (131, .putfield 75, (10, 10, 0, 0, 0)), (134, .aload_n 0, (0, 0, 0, 0, 0)), (135, .new 79, (5, 0, 0, 0, 0)), (138, .dup, (0, 0, 0, 0, 0)), (139, .invokespecial 81, (64, 0, 4, 140, 105)), (142, .putfield 82, (10, 11, 0, 0, 0)), (145, .aload_n 0, (0, 0, 0, 0, 0)), (146, .new 79, (5, 0, 0, 0, 0)), (149, .dup, (0, 0, 0, 0, 0)), (150, .invokespecial 81, (64, 0, 4, 140, 105)), (153, .putfield 86, (10, 12, 0, 0, 0)), (156, .aload_n 0, (0, 0, 0, 0, 0)), (157, .iconst 0, (0, 0, 0, 0, 0)), (158, .putfield 89, (10, 13, 0, 0, 0)), (161, .iconst 0, (0, 0, 0, 0, 0)), (162, .istore_n 1, (0, 0, 0, 0, 0)), (163, .iload_n 1, (0, 0, 0, 0, 0)), (164, .aload_n 0, (0, 0, 0, 0, 0)), (165, .getfield 47, (10, 6, 0, 0, 0)), (168, .arraylength, (0, 0, 0, 0, 0)), (169, .if_icmp .ge 26, (0, 0, 0, 0, 0)), (172, .aload_n 0, (0, 0, 0, 0, 0)), (173, .getfield 47, (10, 6, 0, 0, 0)), (176, .iload_n 1, (0, 0, 0, 0, 0)), (177, .new 45, (2, 0, 0, 0, 0)), (180, .dup, (0, 0, 0, 0, 0)), (181, .aload_n 0, (0, 0, 0, 0, 0)), (182, .getfield 19, (10, 1, 0, 0, 0)), (185, .invokespecial 93, (51, 1, 18, 325, 2)), (188, .aastore, (0, 0, 0, 0, 0)), (189, .iinc 1 1, (0, 0, 0, 0, 0)), (192, .goto (-29), (0, 0, 0, 0, 0)), (195, .return_, (0, 0, 0, 0, 0))]
def kP1 : List KEnt := [(0, .aload_n 0, (0, 0, 0, 0, 0)), (1, .getfield 61, (10, 8, 0, 0, 0)), (4, .getfield 219, (0, 1, 0, 0, 0)), (7, .ireturn, (0, 0, 0, 0, 0))]
def kP2 : List KEnt := [(0, .aload_n 0, (0, 0, 0, 0, 0)), (1, .getfield 31, (10, 3, 0, 0, 0)), (4, .iload_n 1, (0, 0, 0, 0, 0)), (5, .iload_n 2, (0, 0, 0, 0, 0)), (6, .iload_n 3, (0, 0, 0, 0, 0)), (7, .invokevirtual 307, (86, 3, 0, 0, 7)), (10, .istore 4, (0, 0, 0, 0, 0)), (12, .iload 4, (0, 0, 0, 0, 0)), (14, .ifCond .ne 24, (0, 0, 0, 0, 0)), (17, .aload_n 0, (0, 0, 0, 0, 0)), (18, .getfield 41, (10, 5, 0, 0, 0)), (21, .aload_n 0, (0, 0, 0, 0, 0)), (22, .getfield 31, (10, 3, 0, 0, 0)), (25, .invokevirtual 251, (96, 1, 0, 0, 9)), (28, .aload_n 0, (0, 0, 0, 0, 0)), (29, .getfield 31, (10, 3, 0, 0, 0)), (32, .iload_n 1, (0, 0, 0, 0, 0)), (33, .iload_n 2, (0, 0, 0, 0, 0)), (34, .iload_n 3, (0, 0, 0, 0, 0)), (35, .invokevirtual 310, (84, 3, 0, 0, 7)), (38, .iload 4, (0, 0, 0, 0, 0)), (40, .ireturn, (0, 0, 0, 0, 0))]
def kP3 : List KEnt := [(0, .aload_n 0, (0, 0, 0, 0, 0)), (1, .getfield 19, (10, 1, 0, 0, 0)), (4, .iload_n 1, (0, 0, 0, 0, 0)), (5, .invokevirtual 149, (62, 1, 0, 0, 4)), (8, .ifCond .eq 13, (0, 0, 0, 0, 0)), (21, .iconst (-1), (0, 0, 0, 0, 0)), (22, .ireturn, (0, 0, 0, 0, 0))]
def kP4 : List KEnt := [(0, .iload_n 1, (0, 0, 0, 0, 0)), (1, .ifCond .eq 12, (0, 0, 0, 0, 0)), (4, .iload_n 1, (0, 0, 0, 0, 0)), (5, .iconst 1, (0, 0, 0, 0, 0)), (6, .if_icmp .eq 7, (0, 0, 0, 0, 0)), (9, .sipush (-1000), (0, 0, 0, 0, 0)), (12, .ireturn, (0, 0, 0, 0, 0)), (13, .aload_n 0, (0, 0, 0, 0, 0)), (14, .getfield 75, (10, 10, 0, 0, 0)), (17, .aload_n 0, (0, 0, 0, 0, 0)), (18, .getfield 10, (10, 0, 0, 0, 0)), (21, .aload_n 0, (0, 0, 0, 0, 0)), (22, .getfield 19, (10, 1, 0, 0, 0)), (25, .invokevirtual 257, (50, 2, 0, 0, 1)), (28, .aload_n 0, (0, 0, 0, 0, 0)), (29, .aload_n 0, (0, 0, 0, 0, 0)), (30, .getfield 10, (10, 0, 0, 0, 0)), (33, .getfield 105, (8, 9, 0, 0, 0)), (36, .putfield 89, (10, 13, 0, 0, 0)), (39, .aload_n 0, (0, 0, 0, 0, 0)), (40, .getfield 10, (10, 0, 0, 0, 0)), (43, .iconst 0, (0, 0, 0, 0, 0)), (44, .putfield 94, (8, 1, 0, 0, 0)), (47, .aload_n 0, (0, 0, 0, 0, 0)), (48, .getfield 89, (10, 13, 0, 0, 0)), (51, .ifCond .eq 14, (0, 0, 0, 0, 0)), (65, .aload_n 0, (0, 0, 0, 0, 0)), (66, .getfield 35, (10, 4, 0, 0, 0)), (69, .aload_n 0, (0, 0, 0, 0, 0)), (70, .getfield 31, (10, 3, 0, 0, 0)), (73, .invokevirtual 114, (79, 1, 0, 0, 7)), (76, .iload_n 1, (0, 0, 0, 0, 0)), (77, .ifCond .ne 15, (0, 0, 0, 0, 0)), (80, .aload_n 0, (0, 0, 0, 0, 0)), (81, .getfield 75, (10, 10, 0, 0, 0)), (84, .aload_n 0, (0, 0, 0, 0, 0)), (85, .getfield 35, (10, 4, 0, 0, 0)), (88, .invokevirtual 260, (48, 1, 0, 0, 1)), (91, .ireturn, (0, 0, 0, 0, 0)), (92, .aload_n 0, (0, 0, 0, 0, 0)), (93, .getfield 75, (10, 10, 0, 0, 0)), (96, .aload_n 0, (0, 0, 0, 0, 0)), (97, .getfield 31, (10, 3, 0, 0, 0)), (100, .invokevirtual 260, (48, 1, 0, 0, 1)), (103, .istore_n 2, (0, 0, 0, 0, 0)), (104, .aload_n 0, (0, 0, 0, 0, 0)), (105, .getfield 75, (10, 10, 0, 0, 0)), (108, .getfield 263, (1, 6, 0, 0, 0)), (111, .ifCond .le 14, (0, 0, 0, 0, 0)), (125, .iload_n 2, (0, 0, 0, 0, 0)), (126, .ireturn, (0, 0, 0, 0, 0))]
def kP5 : List KEnt := [(0, .aload_n 0, (0, 0, 0, 0, 0)), (1, .getfield 68, (10, 9, 0, 0, 0)), (4, .iload_n 1, (0, 0, 0, 0, 0)), (5, .invokevirtual 248, (74, 1, 0, 0, 6)), (8, .ireturn, (0, 0, 0, 0, 0))]
def kP6 : List KEnt := [(0, .aload_n 0, (0, 0, 0, 0, 0)), (1, .getfield 19, (10, 1, 0, 0, 0)), (4, .iload_n 1, (0, 0, 0, 0, 0)), (5, .invokevirtual 121, (61, 1, 0, 0, 4)), (8, .ifCond .eq 14, (0, 0, 0, 0, 0)), (22, .iconst (-1), (0, 0, 0, 0, 0)), (23, .ireturn, (0, 0, 0, 0, 0))]
def kP7 : List KEnt := [(0, .aload_n 0, (0, 0, 0, 0, 0)), (1, .getfield 19, (10, 1, 0, 0, 0)), (4, .iload_n 1, (0, 0, 0, 0, 0)), (5, .invokevirtual 121, (61, 1, 0, 0, 4)), (8, .ifCond .eq 13, (0, 0, 0, 0, 0)), (21, .iconst (-1), (0, 0, 0, 0, 0)), (22, .ireturn, (0, 0, 0, 0, 0))]
def kP8 : List KEnt := [(0, .iload_n 1, (0, 0, 0, 0, 0)), (1, .tableswitch 71 0 3 #[31, 39, 47, 63], (0, 0, 0, 0, 0)), (32, .aload_n 0, (0, 0, 0, 0, 0)), (33, .getfield 19, (10, 1, 0, 0, 0)), (36, .getfield 237, (4, 6, 0, 0, 0)), (39, .ireturn, (0, 0, 0, 0, 0)), (40, .aload_n 0, (0, 0, 0, 0, 0)), (41, .getfield 19, (10, 1, 0, 0, 0)), (44, .getfield 231, (4, 7, 0, 0, 0)), (47, .ireturn, (0, 0, 0, 0, 0)), (48, .aload_n 0, (0, 0, 0, 0, 0)), (49, .getfield 19, (10, 1, 0, 0, 0)), (52, .getfield 304, (4, 8, 0, 0, 0)), (55, .ifCond .eq 7, (0, 0, 0, 0, 0)), (62, .iconst 0, (0, 0, 0, 0, 0)), (63, .ireturn, (0, 0, 0, 0, 0)), (64, .aload_n 0, (0, 0, 0, 0, 0)), (65, .getfield 10, (10, 0, 0, 0, 0)), (68, .getfield 94, (8, 1, 0, 0, 0)), (71, .ireturn, (0, 0, 0, 0, 0)), (72, .iconst (-1), (0, 0, 0, 0, 0)), (73, .ireturn, (0, 0, 0, 0, 0))]
def kP9 : List KEnt := [(0, .aload_n 0, (0, 0, 0, 0, 0)), (1, .getfield 61, (10, 8, 0, 0, 0)), (4, .aload_n 0, (0, 0, 0, 0, 0)), (5, .getfield 31, (10, 3, 0, 0, 0)), (8, .invokevirtual 222, (44, 1, 0, 0, 0)), (11, .ireturn, (0, 0, 0, 0, 0))]
def kP10 : List KEnt := [(0, .aload_n 0, (0, 0, 0, 0, 0)), (1, .getfield 61, (10, 8, 0, 0, 0)), (4, .getfield 225, (0, 2, 0, 0, 0)), (7, .ireturn, (0, 0, 0, 0, 0))]
def kP11 : List KEnt := [(0, .iload_n 1, (0, 0, 0, 0, 0)), (1, .iconst 1, (0, 0, 0, 0, 0)), (2, .if_icmp .lt 9, (0, 0, 0, 0, 0)), (5, .iload_n 1, (0, 0, 0, 0, 0)), (6, .bipush 60, (0, 0, 0, 0, 0)), (8, .if_icmp .le 5, (0, 0, 0, 0, 0)), (11, .iconst (-1), (0, 0, 0, 0, 0)), (12, .ireturn, (0, 0, 0, 0, 0)), (13, .iload_n 1, (0, 0, 0, 0, 0)), (14, .sipush 400, (0, 0, 0, 0, 0)), (17, .aload_n 0, (0, 0, 0, 0, 0)), (18, .getfield 31, (10, 3, 0, 0, 0)), (21, .getfield 172, (7, 8, 0, 0, 0)), (24, .isub, (0, 0, 0, 0, 0)), (25, .invokestatic 192, (999998, 0, 0, 0, 0)), (28, .istore_n 2, (0, 0, 0, 0, 0)), (29, .iload_n 2, (0, 0, 0, 0, 0)), (30, .ifCond .le 12, (0, 0, 0, 0, 0)), (33, .aload_n 0, (0, 0, 0, 0, 0)), (34, .bipush 7, (0, 0, 0, 0, 0)), (36, .iload_n 2, (0, 0, 0, 0, 0)), (37, .iconst 0, (0, 0, 0, 0, 0)), (38, .invokevirtual 188, (2, 3, 0, 0, 10)), (41, .pop, (0, 0, 0, 0, 0)), (42, .iload_n 2, (0, 0, 0, 0, 0)), (43, .ireturn, (0, 0, 0, 0, 0))]
def kP12 : List KEnt := [(0, .iload_n 1, (0, 0, 0, 0, 0)), (1, .iconst 1, (0, 0, 0, 0, 0)), (2, .if_icmp .lt 19, (0, 0, 0, 0, 0)), (5, .iload_n 1, (0, 0, 0, 0, 0)), (6, .bipush 60, (0, 0, 0, 0, 0)), (8, .if_icmp .gt 13, (0, 0, 0, 0, 0)), (11, .aload_n 0, (0, 0, 0, 0, 0)), (12, .getfield 19, (10, 1, 0, 0, 0)), (15, .getfield 237, (4, 6, 0, 0, 0)), (18, .ifCond .ne 5, (0, 0, 0, 0, 0)), (21, .iconst (-1), (0, 0, 0, 0, 0)), (22, .ireturn, (0, 0, 0, 0, 0))]
def kP13 : List KEnt := [(0, .aload_n 0, (0, 0, 0, 0, 0)), (1, .getfield 19, (10, 1, 0, 0, 0)), (4, .iload_n 1, (0, 0, 0, 0, 0)), (5, .invokevirtual 121, (61, 1, 0, 0, 4)), (8, .ifCond .eq 26, (0, 0, 0, 0, 0)), (34, .iconst (-1), (0, 0, 0, 0, 0)), (35, .ireturn, (0, 0, 0, 0, 0))]
def kP14 : List KEnt := [(0, .iload_n 1, (0, 0, 0, 0, 0)), (1, .ifCond .lt 14, (0, 0, 0, 0, 0)), (4, .iload_n 1, (0, 0, 0, 0, 0)), (5, .aload_n 0, (0, 0, 0, 0, 0)), (6, .getfield 10, (10, 0, 0, 0, 0)), (9, .getfield 94, (8, 1, 0, 0, 0)), (12, .if_icmp .le 5, (0, 0, 0, 0, 0)), (15, .iconst 0, (0, 0, 0, 0, 0)), (16, .ireturn, (0, 0, 0, 0, 0)), (17, .aload_n 0, (0, 0, 0, 0, 0)), (18, .getfield 10, (10, 0, 0, 0, 0)), (21, .iload_n 1, (0, 0, 0, 0, 0)), (22, .putfield 94, (8, 1, 0, 0, 0)), (25, .iconst 1, (0, 0, 0, 0, 0)), (26, .ireturn, (0, 0, 0, 0, 0))]
def kP15 : List KEnt := [(0, .aload_n 0, (0, 0, 0, 0, 0)), (1, .getfield 89, (10, 13, 0, 0, 0)), (4, .ireturn, (0, 0, 0, 0, 0))]
def kP16 : List KEnt := [(0, .aload_n 0, (0, 0, 0, 0, 0)), (1, .getfield 10, (10, 0, 0, 0, 0)), (4, .getfield 94, (8, 1, 0, 0, 0)), (7, .bipush 20, (0, 0, 0, 0, 0)), (9, .iadd, (0, 0, 0, 0, 0)), (10, .sipush 940, (0, 0, 0, 0, 0)), (13, .if_icmp .le 5, (0, 0, 0, 0, 0)), (18, .aload_n 0, (0, 0, 0, 0, 0)), (19, .getfield 10, (10, 0, 0, 0, 0)), (22, .iload_n 1, (0, 0, 0, 0, 0)), (23, .invokevirtual 97, (88, 1, 0, 0, 8)), (26, .aload_n 0, (0, 0, 0, 0, 0)), (27, .getfield 10, (10, 0, 0, 0, 0)), (30, .iload_n 2, (0, 0, 0, 0, 0)), (31, .invokevirtual 97, (88, 1, 0, 0, 8)), (34, .aload_n 0, (0, 0, 0, 0, 0)), (35, .getfield 10, (10, 0, 0, 0, 0)), (38, .iload_n 3, (0, 0, 0, 0, 0)), (39, .invokevirtual 97, (88, 1, 0, 0, 8)), (42, .aload_n 0, (0, 0, 0, 0, 0)), (43, .getfield 10, (10, 0, 0, 0, 0)), (46, .iload 4, (0, 0, 0, 0, 0)), (48, .invokevirtual 97, (88, 1, 0, 0, 8)), (51, .aload_n 0, (0, 0, 0, 0, 0)), (52, .getfield 10, (10, 0, 0, 0, 0)), (55, .iload 5, (0, 0, 0, 0, 0)), (57, .invokevirtual 97, (88, 1, 0, 0, 8)), (60, .aload_n 0, (0, 0, 0, 0, 0)), (61, .getfield 10, (10, 0, 0, 0, 0)), (64, .getfield 94, (8, 1, 0, 0, 0)), (67, .ireturn, (0, 0, 0, 0, 0))]
def kP17 : List KEnt := [(0, .aload_n 0, (0, 0, 0, 0, 0)), (1, .getfield 61, (10, 8, 0, 0, 0)), (4, .aload_n 0, (0, 0, 0, 0, 0)), (5, .getfield 10, (10, 0, 0, 0, 0)), (8, .aload_n 0, (0, 0, 0, 0, 0)), (9, .getfield 31, (10, 3, 0, 0, 0)), (12, .invokevirtual 216, (45, 2, 0, 0, 0)), (15, .istore_n 1, (0, 0, 0, 0, 0)), (16, .aload_n 0, (0, 0, 0, 0, 0)), (17, .getfield 10, (10, 0, 0, 0, 0)), (20, .iconst 0, (0, 0, 0, 0, 0)), (21, .putfield 94, (8, 1, 0, 0, 0)), (24, .iload_n 1, (0, 0, 0, 0, 0)), (25, .ireturn, (0, 0, 0, 0, 0))]
def kP18 : List KEnt := [(0, .aload_n 0, (0, 0, 0, 0, 0)), (1, .getfield 19, (10, 1, 0, 0, 0)), (4, .iload_n 1, (0, 0, 0, 0, 0)), (5, .invokevirtual 121, (61, 1, 0, 0, 4)), (8, .ifCond .eq 13, (0, 0, 0, 0, 0)), (24, .dup, (0, 0, 0, 0, 0))]
def kP19 : List KEnt := [(0, .aload_n 0, (0, 0, 0, 0, 0)), (1, .getfield 19, (10, 1, 0, 0, 0)), (4, .iload_n 1, (0, 0, 0, 0, 0)), (5, .invokevirtual 149, (62, 1, 0, 0, 4)), (8, .ifCond .eq 31, (0, 0, 0, 0, 0)), (39, .iconst (-1), (0, 0, 0, 0, 0)), (40, .ireturn, (0, 0, 0, 0, 0))]
def kP20 : List KEnt := [(0, .iload_n 1, (0, 0, 0, 0, 0)), (1, .ifCond .lt 12, (0, 0, 0, 0, 0)), (4, .iload_n 1, (0, 0, 0, 0, 0)), (5, .aload_n 0, (0, 0, 0, 0, 0)), (6, .getfield 47, (10, 6, 0, 0, 0)), (9, .arraylength, (0, 0, 0, 0, 0)), (10, .if_icmp .lt 5, (0, 0, 0, 0, 0)), (13, .iconst 0, (0, 0, 0, 0, 0)), (14, .ireturn, (0, 0, 0, 0, 0)), (15, .aload_n 0, (0, 0, 0, 0, 0)), (16, .getfield 47, (10, 6, 0, 0, 0)), (19, .iload_n 1, (0, 0, 0, 0, 0)), (20, .aaload, (0, 0, 0, 0, 0)), (21, .aload_n 0, (0, 0, 0, 0, 0)), (22, .getfield 19, (10, 1, 0, 0, 0)), (25, .aload_n 0, (0, 0, 0, 0, 0)), (26, .getfield 31, (10, 3, 0, 0, 0)), (29, .aload_n 0, (0, 0, 0, 0, 0)), (30, .getfield 82, (10, 11, 0, 0, 0)), (33, .invokevirtual 285, (52, 3, 0, 0, 2)), (36, .iconst 1, (0, 0, 0, 0, 0)), (37, .ireturn, (0, 0, 0, 0, 0))]
def kP21 : List KEnt := [(0, .aload_n 0, (0, 0, 0, 0, 0)), (1, .getfield 19, (10, 1, 0, 0, 0)), (4, .iload_n 1, (0, 0, 0, 0, 0)), (5, .invokevirtual 121, (61, 1, 0, 0, 4)), (8, .ifCond .eq 14, (0, 0, 0, 0, 0)), (22, .iconst (-1), (0, 0, 0, 0, 0)), (23, .ireturn, (0, 0, 0, 0, 0))]
def kP22 : List KEnt := [(0, .iconst (-1), (0, 0, 0, 0, 0)), (1, .istore_n 1, (0, 0, 0, 0, 0)), (2, .iconst 0, (0, 0, 0, 0, 0)), (3, .istore_n 2, (0, 0, 0, 0, 0)), (4, .iconst 0, (0, 0, 0, 0, 0)), (5, .istore_n 3, (0, 0, 0, 0, 0)), (6, .iload_n 3, (0, 0, 0, 0, 0)), (7, .aload_n 0, (0, 0, 0, 0, 0)), (8, .getfield 19, (10, 1, 0, 0, 0)), (11, .getfield 237, (4, 6, 0, 0, 0)), (14, .if_icmp .ge 30, (0, 0, 0, 0, 0)), (44, .iload_n 1, (0, 0, 0, 0, 0)), (45, .ireturn, (0, 0, 0, 0, 0))]
def kP23 : List KEnt := [(0, .aload_n 0, (0, 0, 0, 0, 0)), (1, .getfield 54, (10, 7, 0, 0, 0)), (4, .aload_n 0, (0, 0, 0, 0, 0)), (5, .getfield 31, (10, 3, 0, 0, 0)), (8, .invokevirtual 210, (54, 1, 0, 0, 3)), (11, .ireturn, (0, 0, 0, 0, 0))]
def kP24 : List KEnt := [(0, .aload_n 0, (0, 0, 0, 0, 0)), (1, .getfield 54, (10, 7, 0, 0, 0)), (4, .iload_n 1, (0, 0, 0, 0, 0)), (5, .invokevirtual 213, (55, 1, 0, 0, 3)), (8, .ireturn, (0, 0, 0, 0, 0))]
def kP25 : List KEnt := [(0, .iload_n 1, (0, 0, 0, 0, 0)), (1, .tableswitch 115 0 7 #[47, 55, 64, 73, 82, 91, 99, 107], (0, 0, 0, 0, 0)), (48, .aload_n 0, (0, 0, 0, 0, 0)), (49, .getfield 31, (10, 3, 0, 0, 0)), (52, .getfield 172, (7, 8, 0, 0, 0)), (55, .ireturn, (0, 0, 0, 0, 0)), (56, .aload_n 0, (0, 0, 0, 0, 0)), (57, .getfield 31, (10, 3, 0, 0, 0)), (60, .iconst 0, (0, 0, 0, 0, 0)), (61, .invokevirtual 175, (80, 1, 0, 0, 7)), (64, .ireturn, (0, 0, 0, 0, 0)), (65, .aload_n 0, (0, 0, 0, 0, 0)), (66, .getfield 31, (10, 3, 0, 0, 0)), (69, .iconst 1, (0, 0, 0, 0, 0)), (70, .invokevirtual 175, (80, 1, 0, 0, 7)), (73, .ireturn, (0, 0, 0, 0, 0)), (74, .aload_n 0, (0, 0, 0, 0, 0)), (75, .getfield 31, (10, 3, 0, 0, 0)), (78, .iconst 2, (0, 0, 0, 0, 0)), (79, .invokevirtual 175, (80, 1, 0, 0, 7)), (82, .ireturn, (0, 0, 0, 0, 0)), (83, .aload_n 0, (0, 0, 0, 0, 0)), (84, .getfield 31, (10, 3, 0, 0, 0)), (87, .iconst 3, (0, 0, 0, 0, 0)), (88, .invokevirtual 175, (80, 1, 0, 0, 7)), (91, .ireturn, (0, 0, 0, 0, 0)), (92, .aload_n 0, (0, 0, 0, 0, 0)), (93, .getfield 31, (10, 3, 0, 0, 0)), (96, .invokevirtual 178, (78, 0, 0, 0, 7)), (99, .ireturn, (0, 0, 0, 0, 0)), (100, .aload_n 0, (0, 0, 0, 0, 0)), (101, .getfield 31, (10, 3, 0, 0, 0)), (104, .getfield 182, (7, 7, 0, 0, 0)), (107, .ireturn, (0, 0, 0, 0, 0)), (108, .aload_n 0, (0, 0, 0, 0, 0)), (109, .getfield 31, (10, 3, 0, 0, 0)), (112, .invokevirtual 185, (76, 0, 0, 0, 7)), (115, .ireturn, (0, 0, 0, 0, 0)), (116, .iconst (-1), (0, 0, 0, 0, 0)), (117, .ireturn, (0, 0, 0, 0, 0))]
def kP26 : List KEnt := [(0, .aload_n 0, (0, 0, 0, 0, 0)), (1, .getfield 19, (10, 1, 0, 0, 0)), (4, .iload_n 1, (0, 0, 0, 0, 0)), (5, .invokevirtual 121, (61, 1, 0, 0, 4)), (8, .ifCond .eq 14, (0, 0, 0, 0, 0)), (22, .iconst (-1), (0, 0, 0, 0, 0)), (23, .ireturn, (0, 0, 0, 0, 0))]
def kP27 : List KEnt := [(0, .aload_n 0, (0, 0, 0, 0, 0)), (1, .getfield 23, (10, 2, 0, 0, 0)), (4, .aload_n 0, (0, 0, 0, 0, 0)), (5, .getfield 10, (10, 0, 0, 0, 0)), (8, .aload_n 0, (0, 0, 0, 0, 0)), (9, .getfield 35, (10, 4, 0, 0, 0)), (12, .invokevirtual 101, (63, 2, 0, 0, 4)), (15, .istore_n 1, (0, 0, 0, 0, 0)), (16, .aload_n 0, (0, 0, 0, 0, 0)), (17, .aload_n 0, (0, 0, 0, 0, 0)), (18, .getfield 10, (10, 0, 0, 0, 0)), (21, .getfield 105, (8, 9, 0, 0, 0)), (24, .putfield 89, (10, 13, 0, 0, 0)), (27, .aload_n 0, (0, 0, 0, 0, 0)), (28, .getfield 10, (10, 0, 0, 0, 0)), (31, .iconst 0, (0, 0, 0, 0, 0)), (32, .putfield 94, (8, 1, 0, 0, 0)), (35, .aload_n 0, (0, 0, 0, 0, 0)), (36, .getfield 89, (10, 13, 0, 0, 0)), (39, .ifCond .eq 13, (0, 0, 0, 0, 0)), (52, .aload_n 0, (0, 0, 0, 0, 0)), (53, .getfield 19, (10, 1, 0, 0, 0)), (56, .aload_n 0, (0, 0, 0, 0, 0)), (57, .getfield 23, (10, 2, 0, 0, 0)), (60, .invokevirtual 111, (59, 1, 0, 0, 4)), (63, .aload_n 0, (0, 0, 0, 0, 0)), (64, .getfield 31, (10, 3, 0, 0, 0)), (67, .aload_n 0, (0, 0, 0, 0, 0)), (68, .getfield 35, (10, 4, 0, 0, 0)), (71, .invokevirtual 114, (79, 1, 0, 0, 7)), (74, .aload_n 0, (0, 0, 0, 0, 0)), (75, .getfield 82, (10, 11, 0, 0, 0)), (78, .invokevirtual 117, (67, 0, 0, 0, 5)), (81, .aload_n 0, (0, 0, 0, 0, 0)), (82, .getfield 41, (10, 5, 0, 0, 0)), (85, .invokevirtual 120, (95, 0, 0, 0, 9)), (88, .iload_n 1, (0, 0, 0, 0, 0)), (89, .ireturn, (0, 0, 0, 0, 0))]
def kP28 : List KEnt := [(0, .aload_n 0, (0, 0, 0, 0, 0)), (1, .getfield 31, (10, 3, 0, 0, 0)), (4, .iload_n 1, (0, 0, 0, 0, 0)), (5, .iload_n 2, (0, 0, 0, 0, 0)), (6, .invokevirtual 201, (83, 2, 0, 0, 7)), (9, .ireturn, (0, 0, 0, 0, 0))]
def kP29 : List KEnt := [(0, .aload_n 0, (0, 0, 0, 0, 0)), (1, .getfield 19, (10, 1, 0, 0, 0)), (4, .iload_n 1, (0, 0, 0, 0, 0)), (5, .invokevirtual 149, (62, 1, 0, 0, 4)), (8, .ifCond .eq 12, (0, 0, 0, 0, 0)), (23, .dup, (0, 0, 0, 0, 0))]
def kP30 : List KEnt := [(0, .aload_n 0, (0, 0, 0, 0, 0)), (1, .getfield 19, (10, 1, 0, 0, 0)), (4, .iload_n 1, (0, 0, 0, 0, 0)), (5, .invokevirtual 149, (62, 1, 0, 0, 4)), (8, .ifCond .eq 24, (0, 0, 0, 0, 0)), (32, .iconst (-1), (0, 0, 0, 0, 0)), (33, .ireturn, (0, 0, 0, 0, 0))]
def kP31 : List KEnt := [(0, .iload_n 1, (0, 0, 0, 0, 0)), (1, .ifCond .lt 24, (0, 0, 0, 0, 0)), (4, .iload_n 1, (0, 0, 0, 0, 0)), (5, .aload_n 0, (0, 0, 0, 0, 0)), (6, .getfield 47, (10, 6, 0, 0, 0)), (9, .arraylength, (0, 0, 0, 0, 0)), (10, .if_icmp .ge 15, (0, 0, 0, 0, 0)), (13, .aload_n 0, (0, 0, 0, 0, 0)), (14, .getfield 47, (10, 6, 0, 0, 0)), (17, .iload_n 1, (0, 0, 0, 0, 0)), (18, .aaload, (0, 0, 0, 0, 0)), (19, .getfield 288, (2, 3, 0, 0, 0)), (22, .ifCond .ne 5, (0, 0, 0, 0, 0)), (25, .iconst 0, (0, 0, 0, 0, 0)), (26, .ireturn, (0, 0, 0, 0, 0))]
def kP32 : List KEnt := [(0, .aload_n 0, (0, 0, 0, 0, 0)), (1, .getfield 19, (10, 1, 0, 0, 0)), (4, .iload_n 1, (0, 0, 0, 0, 0)), (5, .invokevirtual 149, (62, 1, 0, 0, 4)), (8, .ifCond .eq 13, (0, 0, 0, 0, 0)), (21, .iconst (-1), (0, 0, 0, 0, 0)), (22, .ireturn, (0, 0, 0, 0, 0))]
def kP33 : List KEnt := [(0, .aload_n 0, (0, 0, 0, 0, 0)), (1, .getfield 82, (10, 11, 0, 0, 0)), (4, .invokevirtual 273, (69, 0, 0, 0, 5)), (7, .ifCond .eq 5, (0, 0, 0, 0, 0)), (10, .iconst (-1), (0, 0, 0, 0, 0)), (11, .ireturn, (0, 0, 0, 0, 0))]
def kP34 : List KEnt := [(0, .aload_n 0, (0, 0, 0, 0, 0)), (1, .getfield 86, (10, 12, 0, 0, 0)), (4, .aload_n 0, (0, 0, 0, 0, 0)), (5, .getfield 10, (10, 0, 0, 0, 0)), (8, .aload_n 0, (0, 0, 0, 0, 0)), (9, .getfield 19, (10, 1, 0, 0, 0)), (12, .invokevirtual 269, (72, 2, 0, 0, 5)), (15, .aload_n 0, (0, 0, 0, 0, 0)), (16, .aload_n 0, (0, 0, 0, 0, 0)), (17, .getfield 10, (10, 0, 0, 0, 0)), (20, .getfield 105, (8, 9, 0, 0, 0)), (23, .putfield 89, (10, 13, 0, 0, 0)), (26, .aload_n 0, (0, 0, 0, 0, 0)), (27, .getfield 10, (10, 0, 0, 0, 0)), (30, .iconst 0, (0, 0, 0, 0, 0)), (31, .putfield 94, (8, 1, 0, 0, 0)), (34, .aload_n 0, (0, 0, 0, 0, 0)), (35, .getfield 89, (10, 13, 0, 0, 0)), (38, .ifCond .eq 13, (0, 0, 0, 0, 0)), (41, .iconst (-1), (0, 0, 0, 0, 0)), (42, .aload_n 0, (0, 0, 0, 0, 0)), (43, .getfield 10, (10, 0, 0, 0, 0)), (46, .getfield 108, (8, 10, 0, 0, 0)), (49, .isub, (0, 0, 0, 0, 0)), (50, .ireturn, (0, 0, 0, 0, 0))]
def kP35 : List KEnt := [(0, .iload_n 1, (0, 0, 0, 0, 0)), (1, .ifCond .eq 10, (0, 0, 0, 0, 0)), (4, .iload_n 1, (0, 0, 0, 0, 0)), (5, .iconst 1, (0, 0, 0, 0, 0)), (6, .if_icmp .eq 5, (0, 0, 0, 0, 0)), (9, .iconst (-1), (0, 0, 0, 0, 0)), (10, .ireturn, (0, 0, 0, 0, 0)), (11, .iconst 0, (0, 0, 0, 0, 0)), (12, .istore_n 2, (0, 0, 0, 0, 0)), (13, .iconst 0, (0, 0, 0, 0, 0)), (14, .istore_n 3, (0, 0, 0, 0, 0)), (15, .iload_n 3, (0, 0, 0, 0, 0)), (16, .aload_n 0, (0, 0, 0, 0, 0)), (17, .getfield 19, (10, 1, 0, 0, 0)), (20, .getfield 231, (4, 7, 0, 0, 0)), (23, .if_icmp .ge 55, (0, 0, 0, 0, 0)), (78, .iload_n 2, (0, 0, 0, 0, 0)), (79, .ireturn, (0, 0, 0, 0, 0))]
def kP36 : List KEnt := [(0, .aload_n 0, (0, 0, 0, 0, 0)), (1, .getfield 19, (10, 1, 0, 0, 0)), (4, .iload_n 1, (0, 0, 0, 0, 0)), (5, .invokevirtual 149, (62, 1, 0, 0, 4)), (8, .ifCond .eq 24, (0, 0, 0, 0, 0)), (32, .iconst (-1), (0, 0, 0, 0, 0)), (33, .ireturn, (0, 0, 0, 0, 0))]
def kP37 : List KEnt := [(0, .aload_n 0, (0, 0, 0, 0, 0)), (1, .getfield 19, (10, 1, 0, 0, 0)), (4, .iload_n 1, (0, 0, 0, 0, 0)), (5, .invokevirtual 149, (62, 1, 0, 0, 4)), (8, .ifCond .eq 24, (0, 0, 0, 0, 0)), (32, .iconst (-1), (0, 0, 0, 0, 0)), (33, .ireturn, (0, 0, 0, 0, 0))]
def kP38 : List KEnt := [(0, .aload_n 0, (0, 0, 0, 0, 0)), (1, .getfield 19, (10, 1, 0, 0, 0)), (4, .iload_n 1, (0, 0, 0, 0, 0)), (5, .invokevirtual 121, (61, 1, 0, 0, 4)), (8, .ifCond .ne 5, (0, 0, 0, 0, 0)), (11, .iconst (-1), (0, 0, 0, 0, 0)), (12, .ireturn, (0, 0, 0, 0, 0))]
def kP39 : List KEnt := [(0, .aload_n 0, (0, 0, 0, 0, 0)), (1, .getfield 75, (10, 10, 0, 0, 0)), (4, .iload_n 1, (0, 0, 0, 0, 0)), (5, .invokevirtual 266, (49, 1, 0, 0, 1)), (8, .ireturn, (0, 0, 0, 0, 0))]
def kP40 : List KEnt := [(0, .aload_n 0, (0, 0, 0, 0, 0)), (1, .getfield 41, (10, 5, 0, 0, 0)), (4, .aload_n 0, (0, 0, 0, 0, 0)), (5, .getfield 31, (10, 3, 0, 0, 0)), (8, .invokevirtual 197, (97, 1, 0, 0, 9)), (11, .ireturn, (0, 0, 0, 0, 0))]
def kP41 : List KEnt := [(0, .aload_n 0, (0, 0, 0, 0, 0)), (1, .getfield 19, (10, 1, 0, 0, 0)), (4, .iload_n 1, (0, 0, 0, 0, 0)), (5, .invokevirtual 121, (61, 1, 0, 0, 4)), (8, .ifCond .eq 14, (0, 0, 0, 0, 0)), (22, .iconst (-1), (0, 0, 0, 0, 0)), (23, .ireturn, (0, 0, 0, 0, 0))]
def kP42 : List KEnt := [(0, .aload_n 0, (0, 0, 0, 0, 0)), (1, .invokespecial 3, (999999, 0, 0, 0, 0)), (4, .aload_n 0, (0, 0, 0, 0, 0)), (5, .bipush 8, (0, 0, 0, 0, 0)), (7, .newarray .int, (0, 0, 0, 0, 0)), (9, .putfield 9, (0, 0, 0, 0, 0)), (12, .aload_n 0, (0, 0, 0, 0, 0)), (13, .iconst (-1), (0, 0, 0, 0, 0)), (14, .putfield 15, (0, 1, 0, 0, 0)), (17, .aload_n 0, (0, 0, 0, 0, 0)), (18, .iconst (-1), (0, 0, 0, 0, 0)), (19, .putfield 19, (0, 2, 0, 0, 0)), (22, .return_, (0, 0, 0, 0, 0))]
def kP43 : List KEnt := [(0, .iconst 0, (0, 0, 0, 0, 0)), (1, .istore_n 3, (0, 0, 0, 0, 0)), (2, .iload_n 3, (0, 0, 0, 0, 0)), (3, .bipush 8, (0, 0, 0, 0, 0)), (5, .if_icmp .ge 30, (0, 0, 0, 0, 0)), (8, .iload_n 2, (0, 0, 0, 0, 0)), (9, .iconst 1, (0, 0, 0, 0, 0)), (10, .iload_n 3, (0, 0, 0, 0, 0)), (11, .ishl, (0, 0, 0, 0, 0)), (12, .iand, (0, 0, 0, 0, 0)), (13, .ifCond .eq 16, (0, 0, 0, 0, 0)), (29, .iinc 3 1, (0, 0, 0, 0, 0)), (32, .goto (-30), (0, 0, 0, 0, 0)), (35, .iconst 1, (0, 0, 0, 0, 0)), (36, .ireturn, (0, 0, 0, 0, 0))]
def kP44 : List KEnt := [(0, .aload_n 0, (0, 0, 0, 0, 0)), (1, .aload_n 1, (0, 0, 0, 0, 0)), (2, .invokevirtual 66, (46, 1, 0, 0, 0)), (5, .istore_n 2, (0, 0, 0, 0, 0)), (6, .iconst (-1), (0, 0, 0, 0, 0)), (7, .istore_n 3, (0, 0, 0, 0, 0)), (8, .iconst (-1), (0, 0, 0, 0, 0)), (9, .istore 4, (0, 0, 0, 0, 0)), (11, .iconst 0, (0, 0, 0, 0, 0)), (12, .istore 5, (0, 0, 0, 0, 0)), (14, .iload 5, (0, 0, 0, 0, 0)), (16, .iconst 1, (0, 0, 0, 0, 0)), (17, .aload_n 1, (0, 0, 0, 0, 0)), (18, .getfield 31, (7, 0, 0, 0, 0)), (21, .getfield 58, (4, 6, 0, 0, 0)), (24, .ishl, (0, 0, 0, 0, 0)), (25, .if_icmp .ge 46, (0, 0, 0, 0, 0)), (28, .iload 5, (0, 0, 0, 0, 0)), (30, .invokestatic 70, (167, 1, 0, 0, 0)), (33, .istore 6, (0, 0, 0, 0, 0)), (35, .iload 4, (0, 0, 0, 0, 0)), (37, .iconst (-1), (0, 0, 0, 0, 0)), (38, .if_icmp .eq 10, (0, 0, 0, 0, 0)), (48, .aload_n 0, (0, 0, 0, 0, 0)), (49, .iload 5, (0, 0, 0, 0, 0)), (51, .iload_n 2, (0, 0, 0, 0, 0)), (52, .invokevirtual 75, (43, 2, 0, 0, 0)), (55, .ifCond .eq 10, (0, 0, 0, 0, 0)), (58, .iload 6, (0, 0, 0, 0, 0)), (60, .istore 4, (0, 0, 0, 0, 0)), (62, .iload 5, (0, 0, 0, 0, 0)), (64, .istore_n 3, (0, 0, 0, 0, 0)), (65, .iinc 5 1, (0, 0, 0, 0, 0)), (68, .goto (-54), (0, 0, 0, 0, 0)), (71, .iload 4, (0, 0, 0, 0, 0)), (73, .iconst (-1), (0, 0, 0, 0, 0)), (74, .if_icmp .eq 8, (0, 0, 0, 0, 0)), (77, .aload_n 0, (0, 0, 0, 0, 0)), (78, .iload_n 3, (0, 0, 0, 0, 0)), (79, .putfield 19, (0, 2, 0, 0, 0)), (82, .iload 4, (0, 0, 0, 0, 0)), (84, .ireturn, (0, 0, 0, 0, 0))]
def kP45 : List KEnt := [(0, .aload_n 1, (0, 0, 0, 0, 0)), (1, .getfield 22, (8, 1, 0, 0, 0)), (4, .iconst 1, (0, 0, 0, 0, 0)), (5, .if_icmp .lt 11, (0, 0, 0, 0, 0)), (16, .iconst (-1), (0, 0, 0, 0, 0)), (17, .ireturn, (0, 0, 0, 0, 0))]
def kP46 : List KEnt := [(0, .iconst 0, (0, 0, 0, 0, 0)), (1, .istore_n 2, (0, 0, 0, 0, 0)), (2, .iconst 0, (0, 0, 0, 0, 0)), (3, .istore_n 3, (0, 0, 0, 0, 0)), (4, .iload_n 3, (0, 0, 0, 0, 0)), (5, .aload_n 1, (0, 0, 0, 0, 0)), (6, .getfield 31, (7, 0, 0, 0, 0)), (9, .getfield 43, (4, 7, 0, 0, 0)), (12, .if_icmp .ge 41, (0, 0, 0, 0, 0)), (53, .iload_n 2, (0, 0, 0, 0, 0)), (54, .ireturn, (0, 0, 0, 0, 0))]
def kP47 : List KEnt := [(0, .aload_n 0, (0, 0, 0, 0, 0)), (1, .invokespecial 3, (999999, 0, 0, 0, 0)), (4, .aload_n 0, (0, 0, 0, 0, 0)), (5, .bipush 40, (0, 0, 0, 0, 0)), (7, .newarray .int, (0, 0, 0, 0, 0)), (9, .putfield 9, (1, 0, 0, 0, 0)), (12, .aload_n 0, (0, 0, 0, 0, 0)), (13, .bipush 40, (0, 0, 0, 0, 0)), (15, .newarray .int, (0, 0, 0, 0, 0)), (17, .putfield 15, (1, 1, 0, 0, 0)), (20, .aload_n 0, (0, 0, 0, 0, 0)), (21, .bipush 40, (0, 0, 0, 0, 0)), (23, .newarray .int, (0, 0, 0, 0, 0)), (25, .putfield 18, (1, 2, 0, 0, 0)), (28, .aload_n 0, (0, 0, 0, 0, 0)), (29, .iconst 0, (0, 0, 0, 0, 0)), (30, .putfield 21, (1, 3, 0, 0, 0)), (33, .aload_n 0, (0, 0, 0, 0, 0)), (34, .iconst 0, (0, 0, 0, 0, 0)), (35, .putfield 25, (1, 4, 0, 0, 0)), (38, .aload_n 0, (0, 0, 0, 0, 0)), (39, .iconst 0, (0, 0, 0, 0, 0)), (40, .putfield 29, (1, 5, 0, 0, 0)), (43, .aload_n 0, (0, 0, 0, 0, 0)), (44, .iconst 0, (0, 0, 0, 0, 0)), (45, .putfield 32, (1, 6, 0, 0, 0)), (48, .aload_n 0, (0, 0, 0, 0, 0)), (49, .iconst 0, (0, 0, 0, 0, 0)), (50, .putfield 35, (1, 7, 0, 0, 0)), (53, .aload_n 0, (0, 0, 0, 0, 0)), (54, .iconst 0, (0, 0, 0, 0, 0)), (55, .putfield 38, (1, 8, 0, 0, 0)), (58, .return_, (0, 0, 0, 0, 0))]
def kP48 : List KEnt := [(0, .aload_n 0, (0, 0, 0, 0, 0)), (1, .iconst 1, (0, 0, 0, 0, 0)), (2, .putfield 25, (1, 4, 0, 0, 0)), (5, .aload_n 0, (0, 0, 0, 0, 0)), (6, .iconst 0, (0, 0, 0, 0, 0)), (7, .putfield 29, (1, 5, 0, 0, 0)), (10, .aload_n 0, (0, 0, 0, 0, 0)), (11, .iconst 0, (0, 0, 0, 0, 0)), (12, .putfield 32, (1, 6, 0, 0, 0)), (15, .iconst (-1), (0, 0, 0, 0, 0)), (16, .istore_n 2, (0, 0, 0, 0, 0)), (17, .iconst 0, (0, 0, 0, 0, 0)), (18, .istore_n 3, (0, 0, 0, 0, 0)), (19, .iload_n 3, (0, 0, 0, 0, 0)), (20, .aload_n 0, (0, 0, 0, 0, 0)), (21, .getfield 21, (1, 3, 0, 0, 0)), (24, .if_icmp .ge 102, (0, 0, 0, 0, 0)), (126, .aload_n 0, (0, 0, 0, 0, 0)), (127, .aload_n 1, (0, 0, 0, 0, 0)), (128, .getfield 51, (7, 8, 0, 0, 0)), (131, .putfield 35, (1, 7, 0, 0, 0)), (134, .aload_n 0, (0, 0, 0, 0, 0)), (135, .aload_n 1, (0, 0, 0, 0, 0)), (136, .iconst 2, (0, 0, 0, 0, 0)), (137, .invokevirtual 54, (80, 1, 0, 0, 7)), (140, .putfield 38, (1, 8, 0, 0, 0)), (143, .iload_n 2, (0, 0, 0, 0, 0)), (144, .ireturn, (0, 0, 0, 0, 0))]
def kP49 : List KEnt := [(0, .aload_n 0, (0, 0, 0, 0, 0)), (1, .getfield 25, (1, 4, 0, 0, 0)), (4, .ifCond .ne 5, (0, 0, 0, 0, 0)), (7, .iconst (-1), (0, 0, 0, 0, 0)), (8, .ireturn, (0, 0, 0, 0, 0))]
def kP50 : List KEnt := [(0, .aload_n 0, (0, 0, 0, 0, 0)), (1, .iconst 0, (0, 0, 0, 0, 0)), (2, .putfield 21, (1, 3, 0, 0, 0)), (5, .aload_n 1, (0, 0, 0, 0, 0)), (6, .sipush 400, (0, 0, 0, 0, 0)), (9, .invokevirtual 58, (90, 1, 0, 0, 8)), (12, .iconst 1, (0, 0, 0, 0, 0)), (13, .istore_n 3, (0, 0, 0, 0, 0)), (14, .iconst 0, (0, 0, 0, 0, 0)), (15, .istore 4, (0, 0, 0, 0, 0)), (17, .iload 4, (0, 0, 0, 0, 0)), (19, .bipush 40, (0, 0, 0, 0, 0)), (21, .if_icmp .gt 27, (0, 0, 0, 0, 0)), (24, .iload_n 3, (0, 0, 0, 0, 0)), (25, .ifCond .eq 23, (0, 0, 0, 0, 0)), (28, .aload_n 1, (0, 0, 0, 0, 0)), (29, .getfield 64, (8, 4, 0, 0, 0)), (32, .ifCond .eq 16, (0, 0, 0, 0, 0)), (48, .return_, (0, 0, 0, 0, 0))]
def kP51 : List KEnt := [(0, .aload_n 0, (0, 0, 0, 0, 0)), (1, .invokespecial 1, (999999, 0, 0, 0, 0)), (4, .aload_n 0, (0, 0, 0, 0, 0)), (5, .new 7, (4, 0, 0, 0, 0)), (8, .dup, (0, 0, 0, 0, 0)), (9, .invokespecial 9, (58, 0, 5, 40, 104)), (12, .putfield 10, (2, 0, 0, 0, 0)), (15, .aload_n 0, (0, 0, 0, 0, 0)), (16, .new 16, (5, 0, 0, 0, 0)), (19, .dup, (0, 0, 0, 0, 0)), (20, .invokespecial 18, (64, 0, 4, 140, 105)), (23, .putfield 19, (2, 2, 0, 0, 0)), (26, .aload_n 0, (0, 0, 0, 0, 0)), (27, .iconst 0, (0, 0, 0, 0, 0)), (28, .putfield 23, (2, 3, 0, 0, 0)), (31, .aload_n 0, (0, 0, 0, 0, 0)), (32, .new 27, (7, 0, 0, 0, 0)), (35, .dup, (0, 0, 0, 0, 0)), (36, .aload_n 1, (0, 0, 0, 0, 0)), (37, .invokespecial 29, (75, 1, 6, 120, 7)), (40, .putfield 32, (2, 1, 0, 0, 0)), (43, .return_, (0, 0, 0, 0, 0))]
def kP52 : List KEnt := [(0, .aload_n 0, (0, 0, 0, 0, 0)), (1, .getfield 10, (2, 0, 0, 0, 0)), (4, .aload_n 1, (0, 0, 0, 0, 0)), (5, .invokevirtual 36, (59, 1, 0, 0, 4)), (8, .aload_n 0, (0, 0, 0, 0, 0)), (9, .getfield 32, (2, 1, 0, 0, 0)), (12, .aload_n 2, (0, 0, 0, 0, 0)), (13, .invokevirtual 39, (79, 1, 0, 0, 7)), (16, .aload_n 0, (0, 0, 0, 0, 0)), (17, .getfield 19, (2, 2, 0, 0, 0)), (20, .aload_n 3, (0, 0, 0, 0, 0)), (21, .invokevirtual 42, (66, 1, 0, 0, 5)), (24, .aload_n 0, (0, 0, 0, 0, 0)), (25, .iconst 1, (0, 0, 0, 0, 0)), (26, .putfield 23, (2, 3, 0, 0, 0)), (29, .return_, (0, 0, 0, 0, 0))]
def kP53 : List KEnt := [(0, .aload_n 0, (0, 0, 0, 0, 0)), (1, .invokespecial 3, (999999, 0, 0, 0, 0)), (4, .aload_n 0, (0, 0, 0, 0, 0)), (5, .bipush 64, (0, 0, 0, 0, 0)), (7, .newarray .int, (0, 0, 0, 0, 0)), (9, .putfield 9, (3, 0, 0, 0, 0)), (12, .aload_n 0, (0, 0, 0, 0, 0)), (13, .bipush 24, (0, 0, 0, 0, 0)), (15, .newarray .int, (0, 0, 0, 0, 0)), (17, .putfield 15, (3, 1, 0, 0, 0)), (20, .aload_n 0, (0, 0, 0, 0, 0)), (21, .bipush 8, (0, 0, 0, 0, 0)), (23, .newarray .int, (0, 0, 0, 0, 0)), (25, .putfield 18, (3, 2, 0, 0, 0)), (28, .aload_n 0, (0, 0, 0, 0, 0)), (29, .iconst 0, (0, 0, 0, 0, 0)), (30, .putfield 21, (3, 3, 0, 0, 0)), (33, .aload_n 0, (0, 0, 0, 0, 0)), (34, .iconst 0, (0, 0, 0, 0, 0)), (35, .putfield 25, (3, 4, 0, 0, 0)), (38, .aload_n 0, (0, 0, 0, 0, 0)), (39, .iconst 0, (0, 0, 0, 0, 0)), (40, .putfield 28, (3, 5, 0, 0, 0)), (43, .aload_n 0, (0, 0, 0, 0, 0)), (44, .getfield 18, (3, 2, 0, 0, 0)), (47, .iconst (-1), (0, 0, 0, 0, 0)), (48, .invokestatic 31, (168, 2, 0, 0, 0)), (51, .return_, (0, 0, 0, 0, 0))]
def kP54 : List KEnt := [(0, .aload_n 0, (0, 0, 0, 0, 0)), (1, .aload_n 1, (0, 0, 0, 0, 0)), (2, .invokevirtual 37, (57, 1, 0, 0, 3)), (5, .aload_n 0, (0, 0, 0, 0, 0)), (6, .getfield 18, (3, 2, 0, 0, 0)), (9, .iconst (-1), (0, 0, 0, 0, 0)), (10, .invokestatic 31, (168, 2, 0, 0, 0)), (13, .aload_n 0, (0, 0, 0, 0, 0)), (14, .iconst 0, (0, 0, 0, 0, 0)), (15, .iconst 0, (0, 0, 0, 0, 0)), (16, .invokevirtual 41, (56, 2, 0, 0, 3)), (19, .istore_n 2, (0, 0, 0, 0, 0)), (20, .iconst 0, (0, 0, 0, 0, 0)), (21, .istore_n 3, (0, 0, 0, 0, 0)), (22, .iconst 0, (0, 0, 0, 0, 0)), (23, .istore 4, (0, 0, 0, 0, 0)), (25, .iconst 0, (0, 0, 0, 0, 0)), (26, .istore 5, (0, 0, 0, 0, 0)), (28, .iload 5, (0, 0, 0, 0, 0)), (30, .aload_n 0, (0, 0, 0, 0, 0)), (31, .getfield 21, (3, 3, 0, 0, 0)), (34, .if_icmp .ge 106, (0, 0, 0, 0, 0)), (140, .iload_n 2, (0, 0, 0, 0, 0)), (141, .ireturn, (0, 0, 0, 0, 0))]
def kP55 : List KEnt := [(0, .iload_n 1, (0, 0, 0, 0, 0)), (1, .ifCond .lt 21, (0, 0, 0, 0, 0)), (4, .iload_n 1, (0, 0, 0, 0, 0)), (5, .aload_n 0, (0, 0, 0, 0, 0)), (6, .getfield 18, (3, 2, 0, 0, 0)), (9, .arraylength, (0, 0, 0, 0, 0)), (10, .if_icmp .ge 12, (0, 0, 0, 0, 0)), (13, .aload_n 0, (0, 0, 0, 0, 0)), (14, .getfield 18, (3, 2, 0, 0, 0)), (17, .iload_n 1, (0, 0, 0, 0, 0)), (18, .iaload, (0, 0, 0, 0, 0)), (19, .goto 4, (0, 0, 0, 0, 0)), (22, .iconst (-1), (0, 0, 0, 0, 0)), (23, .ireturn, (0, 0, 0, 0, 0))]
def kP56 : List KEnt := [(0, .aload_n 0, (0, 0, 0, 0, 0)), (1, .getfield 15, (3, 1, 0, 0, 0)), (4, .iconst (-1), (0, 0, 0, 0, 0)), (5, .invokestatic 31, (168, 2, 0, 0, 0)), (8, .iconst 0, (0, 0, 0, 0, 0)), (9, .istore_n 3, (0, 0, 0, 0, 0)), (10, .iload_n 1, (0, 0, 0, 0, 0)), (11, .istore 4, (0, 0, 0, 0, 0)), (13, .iload 4, (0, 0, 0, 0, 0)), (15, .aload_n 0, (0, 0, 0, 0, 0)), (16, .getfield 21, (3, 3, 0, 0, 0)), (19, .if_icmp .ge 27, (0, 0, 0, 0, 0)), (46, .iload_n 3, (0, 0, 0, 0, 0)), (47, .ireturn, (0, 0, 0, 0, 0))]
def kP57 : List KEnt := [(0, .aload_n 0, (0, 0, 0, 0, 0)), (1, .aload_n 1, (0, 0, 0, 0, 0)), (2, .getfield 52, (7, 0, 0, 0, 0)), (5, .getfield 58, (4, 6, 0, 0, 0)), (8, .putfield 21, (3, 3, 0, 0, 0)), (11, .aload_n 0, (0, 0, 0, 0, 0)), (12, .aload_n 1, (0, 0, 0, 0, 0)), (13, .getfield 52, (7, 0, 0, 0, 0)), (16, .getfield 61, (4, 7, 0, 0, 0)), (19, .putfield 25, (3, 4, 0, 0, 0)), (22, .aload_n 0, (0, 0, 0, 0, 0)), (23, .getfield 9, (3, 0, 0, 0, 0)), (26, .iconst (-1), (0, 0, 0, 0, 0)), (27, .invokestatic 31, (168, 2, 0, 0, 0)), (30, .iconst 0, (0, 0, 0, 0, 0)), (31, .istore_n 2, (0, 0, 0, 0, 0)), (32, .iload_n 2, (0, 0, 0, 0, 0)), (33, .aload_n 0, (0, 0, 0, 0, 0)), (34, .getfield 21, (3, 3, 0, 0, 0)), (37, .if_icmp .ge 81, (0, 0, 0, 0, 0)), (118, .return_, (0, 0, 0, 0, 0))]
def kP58 : List KEnt := [(0, .aload_n 0, (0, 0, 0, 0, 0)), (1, .invokespecial 3, (999999, 0, 0, 0, 0)), (4, .aload_n 0, (0, 0, 0, 0, 0)), (5, .bipush 8, (0, 0, 0, 0, 0)), (7, .newarray .long, (1, 0, 0, 0, 0)), (9, .putfield 9, (4, 0, 0, 0, 0)), (12, .aload_n 0, (0, 0, 0, 0, 0)), (13, .bipush 8, (0, 0, 0, 0, 0)), (15, .newarray .long, (1, 0, 0, 0, 0)), (17, .putfield 15, (4, 1, 0, 0, 0)), (20, .aload_n 0, (0, 0, 0, 0, 0)), (21, .bipush 8, (0, 0, 0, 0, 0)), (23, .newarray .int, (0, 0, 0, 0, 0)), (25, .putfield 18, (4, 2, 0, 0, 0)), (28, .aload_n 0, (0, 0, 0, 0, 0)), (29, .bipush 8, (0, 0, 0, 0, 0)), (31, .newarray .int, (0, 0, 0, 0, 0)), (33, .putfield 22, (4, 3, 0, 0, 0)), (36, .aload_n 0, (0, 0, 0, 0, 0)), (37, .bipush 8, (0, 0, 0, 0, 0)), (39, .newarray .int, (0, 0, 0, 0, 0)), (41, .putfield 25, (4, 4, 0, 0, 0)), (44, .aload_n 0, (0, 0, 0, 0, 0)), (45, .iconst 0, (0, 0, 0, 0, 0)), (46, .putfield 28, (4, 5, 0, 0, 0)), (49, .aload_n 0, (0, 0, 0, 0, 0)), (50, .iconst 0, (0, 0, 0, 0, 0)), (51, .putfield 32, (4, 6, 0, 0, 0)), (54, .aload_n 0, (0, 0, 0, 0, 0)), (55, .iconst 0, (0, 0, 0, 0, 0)), (56, .putfield 36, (4, 7, 0, 0, 0)), (59, .aload_n 0, (0, 0, 0, 0, 0)), (60, .iconst 0, (0, 0, 0, 0, 0)), (61, .putfield 39, (4, 8, 0, 0, 0)), (64, .return_, (0, 0, 0, 0, 0))]
def kP59 : List KEnt := [(0, .aload_n 1, (0, 0, 0, 0, 0)), (1, .getfield 9, (4, 0, 0, 0, 0)), (4, .iconst 0, (0, 0, 0, 0, 0)), (5, .aload_n 0, (0, 0, 0, 0, 0)), (6, .getfield 9, (4, 0, 0, 0, 0)), (9, .iconst 0, (0, 0, 0, 0, 0)), (10, .bipush 8, (0, 0, 0, 0, 0)), (12, .invokestatic 42, (999997, 0, 0, 0, 0)), (15, .aload_n 1, (0, 0, 0, 0, 0)), (16, .getfield 15, (4, 1, 0, 0, 0)), (19, .iconst 0, (0, 0, 0, 0, 0)), (20, .aload_n 0, (0, 0, 0, 0, 0)), (21, .getfield 15, (4, 1, 0, 0, 0)), (24, .iconst 0, (0, 0, 0, 0, 0)), (25, .bipush 8, (0, 0, 0, 0, 0)), (27, .invokestatic 42, (999997, 0, 0, 0, 0)), (30, .aload_n 1, (0, 0, 0, 0, 0)), (31, .getfield 18, (4, 2, 0, 0, 0)), (34, .iconst 0, (0, 0, 0, 0, 0)), (35, .aload_n 0, (0, 0, 0, 0, 0)), (36, .getfield 18, (4, 2, 0, 0, 0)), (39, .iconst 0, (0, 0, 0, 0, 0)), (40, .bipush 8, (0, 0, 0, 0, 0)), (42, .invokestatic 42, (999997, 0, 0, 0, 0)), (45, .aload_n 1, (0, 0, 0, 0, 0)), (46, .getfield 22, (4, 3, 0, 0, 0)), (49, .iconst 0, (0, 0, 0, 0, 0)), (50, .aload_n 0, (0, 0, 0, 0, 0)), (51, .getfield 22, (4, 3, 0, 0, 0)), (54, .iconst 0, (0, 0, 0, 0, 0)), (55, .bipush 8, (0, 0, 0, 0, 0)), (57, .invokestatic 42, (999997, 0, 0, 0, 0)), (60, .aload_n 1, (0, 0, 0, 0, 0)), (61, .getfield 25, (4, 4, 0, 0, 0)), (64, .iconst 0, (0, 0, 0, 0, 0)), (65, .aload_n 0, (0, 0, 0, 0, 0)), (66, .getfield 25, (4, 4, 0, 0, 0)), (69, .iconst 0, (0, 0, 0, 0, 0)), (70, .bipush 8, (0, 0, 0, 0, 0)), (72, .invokestatic 42, (999997, 0, 0, 0, 0)), (75, .aload_n 0, (0, 0, 0, 0, 0)), (76, .aload_n 1, (0, 0, 0, 0, 0)), (77, .getfield 28, (4, 5, 0, 0, 0)), (80, .putfield 28, (4, 5, 0, 0, 0)), (83, .aload_n 0, (0, 0, 0, 0, 0)), (84, .aload_n 1, (0, 0, 0, 0, 0)), (85, .getfield 32, (4, 6, 0, 0, 0)), (88, .putfield 32, (4, 6, 0, 0, 0)), (91, .aload_n 0, (0, 0, 0, 0, 0)), (92, .aload_n 1, (0, 0, 0, 0, 0)), (93, .getfield 36, (4, 7, 0, 0, 0)), (96, .putfield 36, (4, 7, 0, 0, 0)), (99, .aload_n 0, (0, 0, 0, 0, 0)), (100, .aload_n 1, (0, 0, 0, 0, 0)), (101, .getfield 39, (4, 8, 0, 0, 0)), (104, .putfield 39, (4, 8, 0, 0, 0)), (107, .return_, (0, 0, 0, 0, 0))]
def kP60 : List KEnt := [(0, .iconst 0, (0, 0, 0, 0, 0)), (1, .istore_n 1, (0, 0, 0, 0, 0)), (2, .iload_n 1, (0, 0, 0, 0, 0)), (3, .bipush 8, (0, 0, 0, 0, 0)), (5, .if_icmp .ge 16, (0, 0, 0, 0, 0)), (8, .aload_n 0, (0, 0, 0, 0, 0)), (9, .getfield 25, (4, 4, 0, 0, 0)), (12, .iload_n 1, (0, 0, 0, 0, 0)), (13, .iconst 0, (0, 0, 0, 0, 0)), (14, .iastore, (0, 0, 0, 0, 0)), (15, .iinc 1 1, (0, 0, 0, 0, 0)), (18, .goto (-16), (0, 0, 0, 0, 0)), (21, .aload_n 0, (0, 0, 0, 0, 0)), (22, .iconst 0, (0, 0, 0, 0, 0)), (23, .putfield 28, (4, 5, 0, 0, 0)), (26, .aload_n 0, (0, 0, 0, 0, 0)), (27, .iconst 0, (0, 0, 0, 0, 0)), (28, .putfield 32, (4, 6, 0, 0, 0)), (31, .aload_n 0, (0, 0, 0, 0, 0)), (32, .iconst 0, (0, 0, 0, 0, 0)), (33, .putfield 36, (4, 7, 0, 0, 0)), (36, .aload_n 0, (0, 0, 0, 0, 0)), (37, .iconst 0, (0, 0, 0, 0, 0)), (38, .putfield 39, (4, 8, 0, 0, 0)), (41, .return_, (0, 0, 0, 0, 0))]
def kP61 : List KEnt := [(0, .iload_n 1, (0, 0, 0, 0, 0)), (1, .ifCond .lt 21, (0, 0, 0, 0, 0)), (4, .iload_n 1, (0, 0, 0, 0, 0)), (5, .aload_n 0, (0, 0, 0, 0, 0)), (6, .getfield 36, (4, 7, 0, 0, 0)), (9, .if_icmp .ge 13, (0, 0, 0, 0, 0)), (22, .iconst 0, (0, 0, 0, 0, 0)), (23, .ireturn, (0, 0, 0, 0, 0))]
def kP62 : List KEnt := [(0, .iload_n 1, (0, 0, 0, 0, 0)), (1, .ifCond .lt 21, (0, 0, 0, 0, 0)), (4, .iload_n 1, (0, 0, 0, 0, 0)), (5, .aload_n 0, (0, 0, 0, 0, 0)), (6, .getfield 32, (4, 6, 0, 0, 0)), (9, .if_icmp .ge 13, (0, 0, 0, 0, 0)), (22, .iconst 0, (0, 0, 0, 0, 0)), (23, .ireturn, (0, 0, 0, 0, 0))]
def kP63 : List KEnt := [(0, .aload_n 0, (0, 0, 0, 0, 0)), (1, .invokevirtual 75, (60, 0, 0, 0, 4)), (4, .aload_n 2, (0, 0, 0, 0, 0)), (5, .invokevirtual 78, (77, 0, 0, 0, 7)), (8, .aload_n 1, (0, 0, 0, 0, 0)), (9, .sipush 900, (0, 0, 0, 0, 0)), (12, .invokevirtual 83, (90, 1, 0, 0, 8)), (15, .iconst 0, (0, 0, 0, 0, 0)), (16, .istore_n 3, (0, 0, 0, 0, 0)), (17, .iload_n 3, (0, 0, 0, 0, 0)), (18, .sipush 900, (0, 0, 0, 0, 0)), (21, .if_icmp .ge 27, (0, 0, 0, 0, 0)), (24, .aload_n 1, (0, 0, 0, 0, 0)), (25, .getfield 87, (8, 4, 0, 0, 0)), (28, .ifCond .eq 20, (0, 0, 0, 0, 0)), (48, .iload_n 3, (0, 0, 0, 0, 0)), (49, .ireturn, (0, 0, 0, 0, 0))]
def kP64 : List KEnt := [(0, .aload_n 0, (0, 0, 0, 0, 0)), (1, .invokespecial 3, (999999, 0, 0, 0, 0)), (4, .aload_n 0, (0, 0, 0, 0, 0)), (5, .bipush 40, (0, 0, 0, 0, 0)), (7, .newarray .int, (0, 0, 0, 0, 0)), (9, .putfield 9, (5, 0, 0, 0, 0)), (12, .aload_n 0, (0, 0, 0, 0, 0)), (13, .bipush 40, (0, 0, 0, 0, 0)), (15, .newarray .int, (0, 0, 0, 0, 0)), (17, .putfield 15, (5, 1, 0, 0, 0)), (20, .aload_n 0, (0, 0, 0, 0, 0)), (21, .bipush 40, (0, 0, 0, 0, 0)), (23, .newarray .int, (0, 0, 0, 0, 0)), (25, .putfield 18, (5, 2, 0, 0, 0)), (28, .aload_n 0, (0, 0, 0, 0, 0)), (29, .bipush 20, (0, 0, 0, 0, 0)), (31, .newarray .int, (0, 0, 0, 0, 0)), (33, .putfield 21, (5, 3, 0, 0, 0)), (36, .aload_n 0, (0, 0, 0, 0, 0)), (37, .iconst 0, (0, 0, 0, 0, 0)), (38, .putfield 24, (5, 4, 0, 0, 0)), (41, .aload_n 0, (0, 0, 0, 0, 0)), (42, .iconst 0, (0, 0, 0, 0, 0)), (43, .putfield 28, (5, 5, 0, 0, 0)), (46, .return_, (0, 0, 0, 0, 0))]
def kP65 : List KEnt := [(0, .aload_n 0, (0, 0, 0, 0, 0)), (1, .getstatic 89, (0, 0, 0, 0, 0)), (4, .if_acmp .eq 60, (0, 0, 0, 0, 0)), (7, .aload_n 0, (0, 0, 0, 0, 0)), (8, .getstatic 121, (1, 0, 0, 0, 0)), (11, .if_acmp .eq 53, (0, 0, 0, 0, 0)), (14, .aload_n 0, (0, 0, 0, 0, 0)), (15, .invokestatic 124, (68, 1, 0, 0, 5)), (18, .iconst (-1), (0, 0, 0, 0, 0)), (19, .if_icmp .ne 45, (0, 0, 0, 0, 0)), (22, .aload_n 0, (0, 0, 0, 0, 0)), (23, .getstatic 95, (2, 0, 0, 0, 0)), (26, .if_acmp .eq 38, (0, 0, 0, 0, 0)), (29, .aload_n 0, (0, 0, 0, 0, 0)), (30, .getstatic 98, (3, 0, 0, 0, 0)), (33, .if_acmp .eq 31, (0, 0, 0, 0, 0)), (36, .aload_n 0, (0, 0, 0, 0, 0)), (37, .getstatic 101, (4, 0, 0, 0, 0)), (40, .if_acmp .eq 24, (0, 0, 0, 0, 0)), (43, .aload_n 0, (0, 0, 0, 0, 0)), (44, .getstatic 108, (5, 0, 0, 0, 0)), (47, .if_acmp .eq 17, (0, 0, 0, 0, 0)), (50, .aload_n 0, (0, 0, 0, 0, 0)), (51, .getstatic 111, (6, 0, 0, 0, 0)), (54, .if_acmp .eq 10, (0, 0, 0, 0, 0)), (57, .aload_n 0, (0, 0, 0, 0, 0)), (58, .getstatic 114, (7, 0, 0, 0, 0)), (61, .if_acmp .ne 7, (0, 0, 0, 0, 0)), (68, .iconst 0, (0, 0, 0, 0, 0)), (69, .ireturn, (0, 0, 0, 0, 0))]
def kP66 : List KEnt := [(0, .aload_n 1, (0, 0, 0, 0, 0)), (1, .getfield 9, (5, 0, 0, 0, 0)), (4, .iconst 0, (0, 0, 0, 0, 0)), (5, .aload_n 0, (0, 0, 0, 0, 0)), (6, .getfield 9, (5, 0, 0, 0, 0)), (9, .iconst 0, (0, 0, 0, 0, 0)), (10, .bipush 40, (0, 0, 0, 0, 0)), (12, .invokestatic 31, (999997, 0, 0, 0, 0)), (15, .aload_n 1, (0, 0, 0, 0, 0)), (16, .getfield 15, (5, 1, 0, 0, 0)), (19, .iconst 0, (0, 0, 0, 0, 0)), (20, .aload_n 0, (0, 0, 0, 0, 0)), (21, .getfield 15, (5, 1, 0, 0, 0)), (24, .iconst 0, (0, 0, 0, 0, 0)), (25, .bipush 40, (0, 0, 0, 0, 0)), (27, .invokestatic 31, (999997, 0, 0, 0, 0)), (30, .aload_n 1, (0, 0, 0, 0, 0)), (31, .getfield 18, (5, 2, 0, 0, 0)), (34, .iconst 0, (0, 0, 0, 0, 0)), (35, .aload_n 0, (0, 0, 0, 0, 0)), (36, .getfield 18, (5, 2, 0, 0, 0)), (39, .iconst 0, (0, 0, 0, 0, 0)), (40, .bipush 40, (0, 0, 0, 0, 0)), (42, .invokestatic 31, (999997, 0, 0, 0, 0)), (45, .aload_n 0, (0, 0, 0, 0, 0)), (46, .aload_n 1, (0, 0, 0, 0, 0)), (47, .getfield 24, (5, 4, 0, 0, 0)), (50, .putfield 24, (5, 4, 0, 0, 0)), (53, .aload_n 0, (0, 0, 0, 0, 0)), (54, .aload_n 1, (0, 0, 0, 0, 0)), (55, .getfield 28, (5, 5, 0, 0, 0)), (58, .putfield 28, (5, 5, 0, 0, 0)), (61, .return_, (0, 0, 0, 0, 0))]
def kP67 : List KEnt := [(0, .aload_n 0, (0, 0, 0, 0, 0)), (1, .iconst 0, (0, 0, 0, 0, 0)), (2, .putfield 24, (5, 4, 0, 0, 0)), (5, .aload_n 0, (0, 0, 0, 0, 0)), (6, .iconst 0, (0, 0, 0, 0, 0)), (7, .putfield 28, (5, 5, 0, 0, 0)), (10, .return_, (0, 0, 0, 0, 0))]
def kP68 : List KEnt := [(0, .aload_n 0, (0, 0, 0, 0, 0)), (1, .getstatic 128, (8, 0, 0, 0, 0)), (4, .if_acmp .ne 5, (0, 0, 0, 0, 0)), (9, .aload_n 0, (0, 0, 0, 0, 0)), (10, .getstatic 131, (9, 0, 0, 0, 0)), (13, .if_acmp .ne 5, (0, 0, 0, 0, 0)), (18, .aload_n 0, (0, 0, 0, 0, 0)), (19, .getstatic 134, (10, 0, 0, 0, 0)), (22, .if_acmp .ne 5, (0, 0, 0, 0, 0)), (27, .aload_n 0, (0, 0, 0, 0, 0)), (28, .getstatic 137, (11, 0, 0, 0, 0)), (31, .if_acmp .ne 7, (0, 0, 0, 0, 0)), (38, .iconst (-1), (0, 0, 0, 0, 0)), (39, .ireturn, (0, 0, 0, 0, 0))]
def kP69 : List KEnt := [(0, .aload_n 0, (0, 0, 0, 0, 0)), (1, .getfield 28, (5, 5, 0, 0, 0)), (4, .ifCond .ne 7, (0, 0, 0, 0, 0)), (7, .iconst 1, (0, 0, 0, 0, 0)), (8, .goto 4, (0, 0, 0, 0, 0)), (12, .ireturn, (0, 0, 0, 0, 0))]
def kP70 : List KEnt := [(0, .aload_n 0, (0, 0, 0, 0, 0)), (1, .aload_n 1, (0, 0, 0, 0, 0)), (2, .aload_n 2, (0, 0, 0, 0, 0)), (3, .iload_n 3, (0, 0, 0, 0, 0)), (4, .invokevirtual 57, (71, 3, 0, 0, 5)), (7, .istore 4, (0, 0, 0, 0, 0)), (9, .iconst 0, (0, 0, 0, 0, 0)), (10, .istore 5, (0, 0, 0, 0, 0)), (12, .iconst 0, (0, 0, 0, 0, 0)), (13, .istore 6, (0, 0, 0, 0, 0)), (15, .iload 6, (0, 0, 0, 0, 0)), (17, .bipush 20, (0, 0, 0, 0, 0)), (19, .if_icmp .gt 114, (0, 0, 0, 0, 0)), (22, .iload 4, (0, 0, 0, 0, 0)), (24, .ifCond .eq 109, (0, 0, 0, 0, 0)), (133, .iload 4, (0, 0, 0, 0, 0)), (135, .ifCond .eq 22, (0, 0, 0, 0, 0)), (157, .iconst 0, (0, 0, 0, 0, 0)), (158, .ireturn, (0, 0, 0, 0, 0))]
def kP71 : List KEnt := [(0, .aload_n 1, (0, 0, 0, 0, 0)), (1, .bipush 40, (0, 0, 0, 0, 0)), (3, .invokevirtual 80, (91, 1, 0, 0, 8)), (6, .ifCond .ne 31, (0, 0, 0, 0, 0)), (9, .aload_n 1, (0, 0, 0, 0, 0)), (10, .getfield 50, (8, 4, 0, 0, 0)), (13, .iconst 1, (0, 0, 0, 0, 0)), (14, .if_icmp .ne 10, (0, 0, 0, 0, 0)), (24, .aconst_null, (0, 0, 0, 0, 0)), (25, .invokestatic 86, (65, 1, 0, 0, 5)), (28, .ifCond .ne 9, (0, 0, 0, 0, 0)), (31, .aload_n 1, (0, 0, 0, 0, 0)), (32, .iconst 1, (0, 0, 0, 0, 0)), (33, .invokevirtual 53, (92, 1, 0, 0, 8)), (36, .ireturn, (0, 0, 0, 0, 0))]
def kP72 : List KEnt := [(0, .aload_n 0, (0, 0, 0, 0, 0)), (1, .invokevirtual 37, (67, 0, 0, 0, 5)), (4, .aload_n 1, (0, 0, 0, 0, 0)), (5, .sipush 200, (0, 0, 0, 0, 0)), (8, .invokevirtual 40, (90, 1, 0, 0, 8)), (11, .aload_n 0, (0, 0, 0, 0, 0)), (12, .aload_n 1, (0, 0, 0, 0, 0)), (13, .aload_n 2, (0, 0, 0, 0, 0)), (14, .iconst 1, (0, 0, 0, 0, 0)), (15, .invokevirtual 46, (70, 3, 0, 0, 5)), (18, .ifCond .eq 16, (0, 0, 0, 0, 0)), (34, .return_, (0, 0, 0, 0, 0))]
def kP73 : List KEnt := [(0, .aload_n 0, (0, 0, 0, 0, 0)), (1, .invokespecial 3, (999999, 0, 0, 0, 0)), (4, .aload_n 0, (0, 0, 0, 0, 0)), (5, .bipush 40, (0, 0, 0, 0, 0)), (7, .newarray .char, (3, 0, 0, 0, 0)), (9, .putfield 9, (6, 0, 0, 0, 0)), (12, .aload_n 0, (0, 0, 0, 0, 0)), (13, .iconst 0, (0, 0, 0, 0, 0)), (14, .putfield 15, (6, 1, 0, 0, 0)), (17, .return_, (0, 0, 0, 0, 0))]
def kP74 : List KEnt := [(0, .iload_n 1, (0, 0, 0, 0, 0)), (1, .ifCond .lt 29, (0, 0, 0, 0, 0)), (4, .iload_n 1, (0, 0, 0, 0, 0)), (5, .aload_n 0, (0, 0, 0, 0, 0)), (6, .getfield 15, (6, 1, 0, 0, 0)), (9, .if_icmp .ge 21, (0, 0, 0, 0, 0)), (30, .iconst (-1), (0, 0, 0, 0, 0)), (31, .ireturn, (0, 0, 0, 0, 0))]
def kP75 : List KEnt := [(0, .aload_n 0, (0, 0, 0, 0, 0)), (1, .invokespecial 3, (999999, 0, 0, 0, 0)), (4, .aload_n 0, (0, 0, 0, 0, 0)), (5, .bipush 64, (0, 0, 0, 0, 0)), (7, .newarray .int, (0, 0, 0, 0, 0)), (9, .putfield 9, (7, 1, 0, 0, 0)), (12, .aload_n 0, (0, 0, 0, 0, 0)), (13, .bipush 8, (0, 0, 0, 0, 0)), (15, .newarray .int, (0, 0, 0, 0, 0)), (17, .putfield 15, (7, 2, 0, 0, 0)), (20, .aload_n 0, (0, 0, 0, 0, 0)), (21, .bipush 8, (0, 0, 0, 0, 0)), (23, .newarray .int, (0, 0, 0, 0, 0)), (25, .putfield 18, (7, 3, 0, 0, 0)), (28, .aload_n 0, (0, 0, 0, 0, 0)), (29, .bipush 8, (0, 0, 0, 0, 0)), (31, .newarray .int, (0, 0, 0, 0, 0)), (33, .putfield 21, (7, 4, 0, 0, 0)), (36, .aload_n 0, (0, 0, 0, 0, 0)), (37, .bipush 8, (0, 0, 0, 0, 0)), (39, .newarray .int, (0, 0, 0, 0, 0)), (41, .putfield 24, (7, 5, 0, 0, 0)), (44, .aload_n 0, (0, 0, 0, 0, 0)), (45, .bipush 24, (0, 0, 0, 0, 0)), (47, .newarray .int, (0, 0, 0, 0, 0)), (49, .putfield 27, (7, 6, 0, 0, 0)), (52, .aload_n 0, (0, 0, 0, 0, 0)), (53, .iconst 0, (0, 0, 0, 0, 0)), (54, .putfield 30, (7, 7, 0, 0, 0)), (57, .aload_n 0, (0, 0, 0, 0, 0)), (58, .iconst 0, (0, 0, 0, 0, 0)), (59, .putfield 34, (7, 8, 0, 0, 0)), (62, .aload_n 0, (0, 0, 0, 0, 0)), (63, .iconst 0, (0, 0, 0, 0, 0)), (64, .putfield 37, (7, 9, 0, 0, 0)), (67, .aload_n 0, (0, 0, 0, 0, 0)), (68, .aload_n 1, (0, 0, 0, 0, 0)), (69, .putfield 40, (7, 0, 0, 0, 0)), (72, .aload_n 0, (0, 0, 0, 0, 0)), (73, .invokevirtual 44, (85, 0, 0, 0, 7)), (76, .return_, (0, 0, 0, 0, 0))]
def kP76 : List KEnt := [(0, .iconst 0, (0, 0, 0, 0, 0)), (1, .istore_n 1, (0, 0, 0, 0, 0)), (2, .iconst 0, (0, 0, 0, 0, 0)), (3, .istore_n 2, (0, 0, 0, 0, 0)), (4, .iload_n 2, (0, 0, 0, 0, 0)), (5, .aload_n 0, (0, 0, 0, 0, 0)), (6, .getfield 9, (7, 1, 0, 0, 0)), (9, .arraylength, (0, 0, 0, 0, 0)), (10, .if_icmp .ge 18, (0, 0, 0, 0, 0)), (13, .iload_n 1, (0, 0, 0, 0, 0)), (14, .aload_n 0, (0, 0, 0, 0, 0)), (15, .getfield 9, (7, 1, 0, 0, 0)), (18, .iload_n 2, (0, 0, 0, 0, 0)), (19, .iaload, (0, 0, 0, 0, 0)), (20, .iadd, (0, 0, 0, 0, 0)), (21, .istore_n 1, (0, 0, 0, 0, 0)), (22, .iinc 2 1, (0, 0, 0, 0, 0)), (25, .goto (-21), (0, 0, 0, 0, 0)), (28, .iload_n 1, (0, 0, 0, 0, 0)), (29, .ireturn, (0, 0, 0, 0, 0))]
def kP77 : List KEnt := [(0, .aload_n 0, (0, 0, 0, 0, 0)), (1, .invokevirtual 44, (85, 0, 0, 0, 7)), (4, .return_, (0, 0, 0, 0, 0))]
def kP78 : List KEnt := [(0, .iconst 0, (0, 0, 0, 0, 0)), (1, .istore_n 1, (0, 0, 0, 0, 0)), (2, .iconst 0, (0, 0, 0, 0, 0)), (3, .istore_n 2, (0, 0, 0, 0, 0)), (4, .iload_n 2, (0, 0, 0, 0, 0)), (5, .aload_n 0, (0, 0, 0, 0, 0)), (6, .getfield 40, (7, 0, 0, 0, 0)), (9, .getfield 94, (4, 7, 0, 0, 0)), (12, .if_icmp .ge 24, (0, 0, 0, 0, 0)), (36, .iload_n 1, (0, 0, 0, 0, 0)), (37, .ireturn, (0, 0, 0, 0, 0))]
def kP79 : List KEnt := [(0, .aload_n 1, (0, 0, 0, 0, 0)), (1, .getfield 9, (7, 1, 0, 0, 0)), (4, .iconst 0, (0, 0, 0, 0, 0)), (5, .aload_n 0, (0, 0, 0, 0, 0)), (6, .getfield 9, (7, 1, 0, 0, 0)), (9, .iconst 0, (0, 0, 0, 0, 0)), (10, .bipush 64, (0, 0, 0, 0, 0)), (12, .invokestatic 53, (999997, 0, 0, 0, 0)), (15, .aload_n 1, (0, 0, 0, 0, 0)), (16, .getfield 15, (7, 2, 0, 0, 0)), (19, .iconst 0, (0, 0, 0, 0, 0)), (20, .aload_n 0, (0, 0, 0, 0, 0)), (21, .getfield 15, (7, 2, 0, 0, 0)), (24, .iconst 0, (0, 0, 0, 0, 0)), (25, .bipush 8, (0, 0, 0, 0, 0)), (27, .invokestatic 53, (999997, 0, 0, 0, 0)), (30, .aload_n 1, (0, 0, 0, 0, 0)), (31, .getfield 18, (7, 3, 0, 0, 0)), (34, .iconst 0, (0, 0, 0, 0, 0)), (35, .aload_n 0, (0, 0, 0, 0, 0)), (36, .getfield 18, (7, 3, 0, 0, 0)), (39, .iconst 0, (0, 0, 0, 0, 0)), (40, .bipush 8, (0, 0, 0, 0, 0)), (42, .invokestatic 53, (999997, 0, 0, 0, 0)), (45, .aload_n 1, (0, 0, 0, 0, 0)), (46, .getfield 21, (7, 4, 0, 0, 0)), (49, .iconst 0, (0, 0, 0, 0, 0)), (50, .aload_n 0, (0, 0, 0, 0, 0)), (51, .getfield 21, (7, 4, 0, 0, 0)), (54, .iconst 0, (0, 0, 0, 0, 0)), (55, .bipush 8, (0, 0, 0, 0, 0)), (57, .invokestatic 53, (999997, 0, 0, 0, 0)), (60, .aload_n 1, (0, 0, 0, 0, 0)), (61, .getfield 24, (7, 5, 0, 0, 0)), (64, .iconst 0, (0, 0, 0, 0, 0)), (65, .aload_n 0, (0, 0, 0, 0, 0)), (66, .getfield 24, (7, 5, 0, 0, 0)), (69, .iconst 0, (0, 0, 0, 0, 0)), (70, .bipush 8, (0, 0, 0, 0, 0)), (72, .invokestatic 53, (999997, 0, 0, 0, 0)), (75, .aload_n 1, (0, 0, 0, 0, 0)), (76, .getfield 27, (7, 6, 0, 0, 0)), (79, .iconst 0, (0, 0, 0, 0, 0)), (80, .aload_n 0, (0, 0, 0, 0, 0)), (81, .getfield 27, (7, 6, 0, 0, 0)), (84, .iconst 0, (0, 0, 0, 0, 0)), (85, .bipush 24, (0, 0, 0, 0, 0)), (87, .invokestatic 53, (999997, 0, 0, 0, 0)), (90, .aload_n 0, (0, 0, 0, 0, 0)), (91, .aload_n 1, (0, 0, 0, 0, 0)), (92, .getfield 30, (7, 7, 0, 0, 0)), (95, .putfield 30, (7, 7, 0, 0, 0)), (98, .aload_n 0, (0, 0, 0, 0, 0)), (99, .aload_n 1, (0, 0, 0, 0, 0)), (100, .getfield 34, (7, 8, 0, 0, 0)), (103, .putfield 34, (7, 8, 0, 0, 0)), (106, .return_, (0, 0, 0, 0, 0))]
def kP80 : List KEnt := [(0, .iconst 0, (0, 0, 0, 0, 0)), (1, .istore_n 2, (0, 0, 0, 0, 0)), (2, .iconst 0, (0, 0, 0, 0, 0)), (3, .istore_n 3, (0, 0, 0, 0, 0)), (4, .iload_n 3, (0, 0, 0, 0, 0)), (5, .aload_n 0, (0, 0, 0, 0, 0)), (6, .getfield 40, (7, 0, 0, 0, 0)), (9, .getfield 94, (4, 7, 0, 0, 0)), (12, .if_icmp .ge 24, (0, 0, 0, 0, 0)), (36, .iload_n 2, (0, 0, 0, 0, 0)), (37, .ireturn, (0, 0, 0, 0, 0))]
def kP81 : List KEnt := [(0, .iconst 0, (0, 0, 0, 0, 0)), (1, .istore_n 1, (0, 0, 0, 0, 0)), (2, .iload_n 1, (0, 0, 0, 0, 0)), (3, .aload_n 0, (0, 0, 0, 0, 0)), (4, .getfield 40, (7, 0, 0, 0, 0)), (7, .getfield 94, (4, 7, 0, 0, 0)), (10, .if_icmp .ge 49, (0, 0, 0, 0, 0)), (59, .aload_n 0, (0, 0, 0, 0, 0)), (60, .getfield 15, (7, 2, 0, 0, 0)), (63, .iconst (-1), (0, 0, 0, 0, 0)), (64, .invokestatic 47, (168, 2, 0, 0, 0)), (67, .aload_n 0, (0, 0, 0, 0, 0)), (68, .dup, (0, 0, 0, 0, 0)), (69, .getfield 34, (7, 8, 0, 0, 0)), (72, .iconst 1, (0, 0, 0, 0, 0)), (73, .iadd, (0, 0, 0, 0, 0)), (74, .putfield 34, (7, 8, 0, 0, 0)), (77, .return_, (0, 0, 0, 0, 0))]
def kP82 : List KEnt := [(0, .aload_n 0, (0, 0, 0, 0, 0)), (1, .getfield 40, (7, 0, 0, 0, 0)), (4, .iload_n 1, (0, 0, 0, 0, 0)), (5, .invokevirtual 69, (61, 1, 0, 0, 4)), (8, .ifCond .eq 12, (0, 0, 0, 0, 0)), (20, .iconst (-1), (0, 0, 0, 0, 0)), (21, .ireturn, (0, 0, 0, 0, 0))]
def kP83 : List KEnt := [(0, .aload_n 0, (0, 0, 0, 0, 0)), (1, .iload_n 2, (0, 0, 0, 0, 0)), (2, .invokevirtual 78, (82, 1, 0, 0, 7)), (5, .ifCond .ne 12, (0, 0, 0, 0, 0)), (17, .iconst (-1), (0, 0, 0, 0, 0)), (18, .ireturn, (0, 0, 0, 0, 0))]
def kP84 : List KEnt := [(0, .iload_n 1, (0, 0, 0, 0, 0)), (1, .tableswitch 127 0 6 #[43, 58, 68, 78, 93, 110, 119], (0, 0, 0, 0, 0)), (128, .iconst 0, (0, 0, 0, 0, 0)), (129, .istore 4, (0, 0, 0, 0, 0)), (131, .iload 4, (0, 0, 0, 0, 0)), (133, .iload_n 2, (0, 0, 0, 0, 0)), (134, .if_icmp .ge 13, (0, 0, 0, 0, 0)), (137, .aload_n 0, (0, 0, 0, 0, 0)), (138, .invokevirtual 149, (81, 0, 0, 0, 7)), (141, .iinc 4 1, (0, 0, 0, 0, 0)), (144, .goto (-13), (0, 0, 0, 0, 0)), (147, .return_, (0, 0, 0, 0, 0))]
def kP85 : List KEnt := [(0, .aload_n 0, (0, 0, 0, 0, 0)), (1, .getfield 9, (7, 1, 0, 0, 0)), (4, .iconst 0, (0, 0, 0, 0, 0)), (5, .invokestatic 47, (168, 2, 0, 0, 0)), (8, .aload_n 0, (0, 0, 0, 0, 0)), (9, .getfield 15, (7, 2, 0, 0, 0)), (12, .iconst (-1), (0, 0, 0, 0, 0)), (13, .invokestatic 47, (168, 2, 0, 0, 0)), (16, .aload_n 0, (0, 0, 0, 0, 0)), (17, .getfield 18, (7, 3, 0, 0, 0)), (20, .iconst 0, (0, 0, 0, 0, 0)), (21, .invokestatic 47, (168, 2, 0, 0, 0)), (24, .aload_n 0, (0, 0, 0, 0, 0)), (25, .getfield 21, (7, 4, 0, 0, 0)), (28, .iconst 0, (0, 0, 0, 0, 0)), (29, .invokestatic 47, (168, 2, 0, 0, 0)), (32, .aload_n 0, (0, 0, 0, 0, 0)), (33, .getfield 24, (7, 5, 0, 0, 0)), (36, .iconst 0, (0, 0, 0, 0, 0)), (37, .invokestatic 47, (168, 2, 0, 0, 0)), (40, .aload_n 0, (0, 0, 0, 0, 0)), (41, .getfield 27, (7, 6, 0, 0, 0)), (44, .iconst (-1), (0, 0, 0, 0, 0)), (45, .invokestatic 47, (168, 2, 0, 0, 0)), (48, .aload_n 0, (0, 0, 0, 0, 0)), (49, .iconst 0, (0, 0, 0, 0, 0)), (50, .putfield 30, (7, 7, 0, 0, 0)), (53, .aload_n 0, (0, 0, 0, 0, 0)), (54, .iconst 0, (0, 0, 0, 0, 0)), (55, .putfield 34, (7, 8, 0, 0, 0)), (58, .return_, (0, 0, 0, 0, 0))]
def kP86 : List KEnt := [(0, .iload_n 1, (0, 0, 0, 0, 0)), (1, .tableswitch 191 0 6 #[43, 80, 100, 124, 138, 152, 176], (0, 0, 0, 0, 0)), (192, .iload_n 2, (0, 0, 0, 0, 0)), (193, .sipush 400, (0, 0, 0, 0, 0)), (196, .aload_n 0, (0, 0, 0, 0, 0)), (197, .getfield 34, (7, 8, 0, 0, 0)), (200, .isub, (0, 0, 0, 0, 0)), (201, .if_icmp .le 7, (0, 0, 0, 0, 0)), (208, .iconst 0, (0, 0, 0, 0, 0)), (209, .ireturn, (0, 0, 0, 0, 0))]
def kP87 : List KEnt := [(0, .aload_n 0, (0, 0, 0, 0, 0)), (1, .invokespecial 3, (999999, 0, 0, 0, 0)), (4, .aload_n 0, (0, 0, 0, 0, 0)), (5, .sipush 940, (0, 0, 0, 0, 0)), (8, .newarray .byte, (2, 0, 0, 0, 0)), (10, .putfield 9, (8, 0, 0, 0, 0)), (13, .aload_n 0, (0, 0, 0, 0, 0)), (14, .iconst 0, (0, 0, 0, 0, 0)), (15, .putfield 15, (8, 1, 0, 0, 0)), (18, .aload_n 0, (0, 0, 0, 0, 0)), (19, .iconst 0, (0, 0, 0, 0, 0)), (20, .putfield 19, (8, 2, 0, 0, 0)), (23, .aload_n 0, (0, 0, 0, 0, 0)), (24, .iconst 0, (0, 0, 0, 0, 0)), (25, .putfield 22, (8, 3, 0, 0, 0)), (28, .aload_n 0, (0, 0, 0, 0, 0)), (29, .iconst 0, (0, 0, 0, 0, 0)), (30, .putfield 25, (8, 4, 0, 0, 0)), (33, .aload_n 0, (0, 0, 0, 0, 0)), (34, .iconst 0, (0, 0, 0, 0, 0)), (35, .putfield 28, (8, 5, 0, 0, 0)), (38, .aload_n 0, (0, 0, 0, 0, 0)), (39, .iconst 0, (0, 0, 0, 0, 0)), (40, .putfield 31, (8, 6, 0, 0, 0)), (43, .aload_n 0, (0, 0, 0, 0, 0)), (44, .lconst 0, (0, 0, 0, 0, 0)), (45, .putfield 34, (8, 7, 0, 0, 0)), (48, .aload_n 0, (0, 0, 0, 0, 0)), (49, .aconst_null, (0, 0, 0, 0, 0)), (50, .putfield 38, (8, 8, 0, 0, 0)), (53, .aload_n 0, (0, 0, 0, 0, 0)), (54, .iconst 0, (0, 0, 0, 0, 0)), (55, .putfield 42, (8, 9, 0, 0, 0)), (58, .aload_n 0, (0, 0, 0, 0, 0)), (59, .iconst 0, (0, 0, 0, 0, 0)), (60, .putfield 45, (8, 10, 0, 0, 0)), (63, .return_, (0, 0, 0, 0, 0))]
def kP88 : List KEnt := [(0, .bipush 24, (0, 0, 0, 0, 0)), (2, .istore_n 2, (0, 0, 0, 0, 0)), (3, .iload_n 2, (0, 0, 0, 0, 0)), (4, .ifCond .lt 51, (0, 0, 0, 0, 0)), (7, .aload_n 0, (0, 0, 0, 0, 0)), (8, .getfield 15, (8, 1, 0, 0, 0)), (11, .ifCond .lt 38, (0, 0, 0, 0, 0)), (14, .aload_n 0, (0, 0, 0, 0, 0)), (15, .getfield 15, (8, 1, 0, 0, 0)), (18, .aload_n 0, (0, 0, 0, 0, 0)), (19, .getfield 9, (8, 0, 0, 0, 0)), (22, .arraylength, (0, 0, 0, 0, 0)), (23, .if_icmp .ge 26, (0, 0, 0, 0, 0)), (26, .aload_n 0, (0, 0, 0, 0, 0)), (27, .getfield 9, (8, 0, 0, 0, 0)), (30, .aload_n 0, (0, 0, 0, 0, 0)), (31, .getfield 15, (8, 1, 0, 0, 0)), (34, .iload_n 1, (0, 0, 0, 0, 0)), (35, .iload_n 2, (0, 0, 0, 0, 0)), (36, .iushr, (0, 0, 0, 0, 0)), (37, .i2b, (0, 0, 0, 0, 0)), (38, .bastore, (0, 0, 0, 0, 0)), (39, .aload_n 0, (0, 0, 0, 0, 0)), (40, .dup, (0, 0, 0, 0, 0)), (41, .getfield 15, (8, 1, 0, 0, 0)), (44, .iconst 1, (0, 0, 0, 0, 0)), (45, .iadd, (0, 0, 0, 0, 0)), (46, .putfield 15, (8, 1, 0, 0, 0)), (49, .iinc 2 (-8), (0, 0, 0, 0, 0)), (52, .goto (-49), (0, 0, 0, 0, 0)), (55, .return_, (0, 0, 0, 0, 0))]
def kP89 : List KEnt := [(0, .aload_n 0, (0, 0, 0, 0, 0)), (1, .aload_n 0, (0, 0, 0, 0, 0)), (2, .getfield 22, (8, 3, 0, 0, 0)), (5, .invokevirtual 51, (93, 1, 0, 0, 8)), (8, .istore_n 1, (0, 0, 0, 0, 0)), (9, .aload_n 0, (0, 0, 0, 0, 0)), (10, .getfield 22, (8, 3, 0, 0, 0)), (13, .aload_n 0, (0, 0, 0, 0, 0)), (14, .getfield 15, (8, 1, 0, 0, 0)), (17, .if_icmp .ge 37, (0, 0, 0, 0, 0)), (54, .aload_n 0, (0, 0, 0, 0, 0)), (55, .aload_n 0, (0, 0, 0, 0, 0)), (56, .getfield 22, (8, 3, 0, 0, 0)), (59, .putfield 28, (8, 5, 0, 0, 0)), (62, .aload_n 0, (0, 0, 0, 0, 0)), (63, .aconst_null, (0, 0, 0, 0, 0)), (64, .putfield 38, (8, 8, 0, 0, 0)), (67, .aload_n 0, (0, 0, 0, 0, 0)), (68, .getfield 15, (8, 1, 0, 0, 0)), (71, .aload_n 0, (0, 0, 0, 0, 0)), (72, .getfield 19, (8, 2, 0, 0, 0)), (75, .if_icmp .le 30, (0, 0, 0, 0, 0)), (105, .aload_n 0, (0, 0, 0, 0, 0)), (106, .getfield 22, (8, 3, 0, 0, 0)), (109, .aload_n 0, (0, 0, 0, 0, 0)), (110, .getfield 15, (8, 1, 0, 0, 0)), (113, .if_icmp .lt 11, (0, 0, 0, 0, 0)), (116, .aload_n 0, (0, 0, 0, 0, 0)), (117, .iconst 0, (0, 0, 0, 0, 0)), (118, .putfield 25, (8, 4, 0, 0, 0)), (121, .goto 94, (0, 0, 0, 0, 0)), (215, .return_, (0, 0, 0, 0, 0))]
def kP90 : List KEnt := [(0, .aload_n 0, (0, 0, 0, 0, 0)), (1, .iload_n 1, (0, 0, 0, 0, 0)), (2, .putfield 19, (8, 2, 0, 0, 0)), (5, .aload_n 0, (0, 0, 0, 0, 0)), (6, .iconst 0, (0, 0, 0, 0, 0)), (7, .putfield 22, (8, 3, 0, 0, 0)), (10, .aload_n 0, (0, 0, 0, 0, 0)), (11, .iconst 0, (0, 0, 0, 0, 0)), (12, .putfield 42, (8, 9, 0, 0, 0)), (15, .aload_n 0, (0, 0, 0, 0, 0)), (16, .iconst 0, (0, 0, 0, 0, 0)), (17, .putfield 45, (8, 10, 0, 0, 0)), (20, .aload_n 0, (0, 0, 0, 0, 0)), (21, .invokevirtual 48, (89, 0, 0, 0, 8)), (24, .return_, (0, 0, 0, 0, 0))]
def kP91 : List KEnt := [(0, .aload_n 0, (0, 0, 0, 0, 0)), (1, .getfield 25, (8, 4, 0, 0, 0)), (4, .iconst 3, (0, 0, 0, 0, 0)), (5, .if_icmp .ne 15, (0, 0, 0, 0, 0)), (20, .iconst 0, (0, 0, 0, 0, 0)), (21, .ireturn, (0, 0, 0, 0, 0))]
def kP92 : List KEnt := [(0, .aload_n 0, (0, 0, 0, 0, 0)), (1, .iload_n 1, (0, 0, 0, 0, 0)), (2, .putfield 42, (8, 9, 0, 0, 0)), (5, .aload_n 0, (0, 0, 0, 0, 0)), (6, .aload_n 0, (0, 0, 0, 0, 0)), (7, .getfield 28, (8, 5, 0, 0, 0)), (10, .putfield 45, (8, 10, 0, 0, 0)), (13, .iconst 0, (0, 0, 0, 0, 0)), (14, .ireturn, (0, 0, 0, 0, 0))]
def kP93 : List KEnt := [(0, .iload_n 1, (0, 0, 0, 0, 0)), (1, .ifCond .lt 33, (0, 0, 0, 0, 0)), (4, .iload_n 1, (0, 0, 0, 0, 0)), (5, .aload_n 0, (0, 0, 0, 0, 0)), (6, .getfield 15, (8, 1, 0, 0, 0)), (9, .if_icmp .ge 25, (0, 0, 0, 0, 0)), (34, .iconst (-1), (0, 0, 0, 0, 0)), (35, .ireturn, (0, 0, 0, 0, 0))]
def kP94 : List KEnt := [(0, .aload_n 0, (0, 0, 0, 0, 0)), (1, .invokespecial 3, (999999, 0, 0, 0, 0)), (4, .aload_n 0, (0, 0, 0, 0, 0)), (5, .bipush 8, (0, 0, 0, 0, 0)), (7, .anewarray 9, (5, 0, 0, 0, 0)), (10, .putfield 11, (9, 0, 0, 0, 0)), (13, .aload_n 0, (0, 0, 0, 0, 0)), (14, .iconst 0, (0, 0, 0, 0, 0)), (15, .putfield 17, (9, 1, 0, 0, 0)), (18, .aload_n 0, (0, 0, 0, 0, 0)), (19, .iconst 0, (0, 0, 0, 0, 0)), (20, .putfield 21, (9, 2, 0, 0, 0)), (23, .iconst 0, (0, 0, 0, 0, 0)), (24, .istore_n 2, (0, 0, 0, 0, 0)), (25, .iload_n 2, (0, 0, 0, 0, 0)), (26, .aload_n 0, (0, 0, 0, 0, 0)), (27, .getfield 11, (9, 0, 0, 0, 0)), (30, .arraylength, (0, 0, 0, 0, 0)), (31, .if_icmp .ge 23, (0, 0, 0, 0, 0)), (34, .aload_n 0, (0, 0, 0, 0, 0)), (35, .getfield 11, (9, 0, 0, 0, 0)), (38, .iload_n 2, (0, 0, 0, 0, 0)), (39, .new 9, (7, 0, 0, 0, 0)), (42, .dup, (0, 0, 0, 0, 0)), (43, .aload_n 1, (0, 0, 0, 0, 0)), (44, .invokespecial 24, (75, 1, 6, 120, 7)), (47, .aastore, (0, 0, 0, 0, 0)), (48, .iinc 2 1, (0, 0, 0, 0, 0)), (51, .goto (-26), (0, 0, 0, 0, 0)), (54, .return_, (0, 0, 0, 0, 0))]
def kP95 : List KEnt := [(0, .aload_n 0, (0, 0, 0, 0, 0)), (1, .iconst 0, (0, 0, 0, 0, 0)), (2, .putfield 21, (9, 2, 0, 0, 0)), (5, .return_, (0, 0, 0, 0, 0))]
def kP96 : List KEnt := [(0, .aload_n 0, (0, 0, 0, 0, 0)), (1, .getfield 17, (9, 1, 0, 0, 0)), (4, .ifCond .lt 15, (0, 0, 0, 0, 0)), (7, .aload_n 0, (0, 0, 0, 0, 0)), (8, .getfield 17, (9, 1, 0, 0, 0)), (11, .aload_n 0, (0, 0, 0, 0, 0)), (12, .getfield 11, (9, 0, 0, 0, 0)), (15, .arraylength, (0, 0, 0, 0, 0)), (16, .if_icmp .lt 4, (0, 0, 0, 0, 0)), (20, .aload_n 0, (0, 0, 0, 0, 0)), (21, .getfield 11, (9, 0, 0, 0, 0)), (24, .aload_n 0, (0, 0, 0, 0, 0)), (25, .getfield 17, (9, 1, 0, 0, 0)), (28, .aaload, (0, 0, 0, 0, 0)), (29, .aload_n 1, (0, 0, 0, 0, 0)), (30, .invokevirtual 27, (79, 1, 0, 0, 7)), (33, .aload_n 0, (0, 0, 0, 0, 0)), (34, .aload_n 0, (0, 0, 0, 0, 0)), (35, .getfield 17, (9, 1, 0, 0, 0)), (38, .iconst 1, (0, 0, 0, 0, 0)), (39, .iadd, (0, 0, 0, 0, 0)), (40, .aload_n 0, (0, 0, 0, 0, 0)), (41, .getfield 11, (9, 0, 0, 0, 0)), (44, .arraylength, (0, 0, 0, 0, 0)), (45, .if_icmp .ge 12, (0, 0, 0, 0, 0)), (48, .aload_n 0, (0, 0, 0, 0, 0)), (49, .getfield 17, (9, 1, 0, 0, 0)), (52, .iconst 1, (0, 0, 0, 0, 0)), (53, .iadd, (0, 0, 0, 0, 0)), (54, .goto 4, (0, 0, 0, 0, 0)), (58, .putfield 17, (9, 1, 0, 0, 0)), (61, .aload_n 0, (0, 0, 0, 0, 0)), (62, .aload_n 0, (0, 0, 0, 0, 0)), (63, .getfield 21, (9, 2, 0, 0, 0)), (66, .iconst 1, (0, 0, 0, 0, 0)), (67, .iadd, (0, 0, 0, 0, 0)), (68, .aload_n 0, (0, 0, 0, 0, 0)), (69, .getfield 11, (9, 0, 0, 0, 0)), (72, .arraylength, (0, 0, 0, 0, 0)), (73, .invokestatic 31, (999998, 0, 0, 0, 0)), (76, .putfield 21, (9, 2, 0, 0, 0)), (79, .return_, (0, 0, 0, 0, 0))]
def kP97 : List KEnt := [(0, .aload_n 0, (0, 0, 0, 0, 0)), (1, .getfield 17, (9, 1, 0, 0, 0)), (4, .ifCond .le 12, (0, 0, 0, 0, 0)), (16, .aload_n 0, (0, 0, 0, 0, 0)), (17, .getfield 11, (9, 0, 0, 0, 0)), (20, .arraylength, (0, 0, 0, 0, 0)), (21, .iconst 1, (0, 0, 0, 0, 0)), (22, .isub, (0, 0, 0, 0, 0)), (23, .istore_n 2, (0, 0, 0, 0, 0)), (24, .aload_n 0, (0, 0, 0, 0, 0)), (25, .getfield 21, (9, 2, 0, 0, 0)), (28, .ifCond .le 16, (0, 0, 0, 0, 0)), (44, .iconst (-1), (0, 0, 0, 0, 0)), (45, .ireturn, (0, 0, 0, 0, 0))]
def kP98 : List KEnt := [(0, .aload_n 0, (0, 0, 0, 0, 0)), (1, .invokespecial 93, (999999, 0, 0, 0, 0)), (4, .aload_n 0, (0, 0, 0, 0, 0)), (5, .sipush 940, (0, 0, 0, 0, 0)), (8, .newarray .int, (0, 0, 0, 0, 0)), (10, .putfield 7, (11, 1, 0, 0, 0)), (13, .aload_n 0, (0, 0, 0, 0, 0)), (14, .sipush 456, (0, 0, 0, 0, 0)), (17, .newarray .int, (0, 0, 0, 0, 0)), (19, .putfield 98, (11, 14, 0, 0, 0)), (22, .aload_n 0, (0, 0, 0, 0, 0)), (23, .bipush 92, (0, 0, 0, 0, 0)), (25, .newarray .int, (0, 0, 0, 0, 0)), (27, .putfield 101, (11, 15, 0, 0, 0)), (30, .aload_n 0, (0, 0, 0, 0, 0)), (31, .sipush 912, (0, 0, 0, 0, 0)), (34, .newarray .int, (0, 0, 0, 0, 0)), (36, .putfield 104, (11, 16, 0, 0, 0)), (39, .aload_n 0, (0, 0, 0, 0, 0)), (40, .sipush 976, (0, 0, 0, 0, 0)), (43, .newarray .int, (0, 0, 0, 0, 0)), (45, .putfield 107, (11, 17, 0, 0, 0)), (48, .aload_n 0, (0, 0, 0, 0, 0)), (49, .bipush 122, (0, 0, 0, 0, 0)), (51, .newarray .int, (0, 0, 0, 0, 0)), (53, .putfield 110, (11, 18, 0, 0, 0)), (56, .aload_n 0, (0, 0, 0, 0, 0)), (57, .bipush 16, (0, 0, 0, 0, 0)), (59, .newarray .long, (1, 0, 0, 0, 0)), (61, .putfield 113, (11, 19, 0, 0, 0)), (64, .aload_n 0, (0, 0, 0, 0, 0)), (65, .bipush 16, (0, 0, 0, 0, 0)), (67, .newarray .long, (1, 0, 0, 0, 0)), (69, .putfield 117, (11, 20, 0, 0, 0)), (72, .aload_n 0, (0, 0, 0, 0, 0)), (73, .bipush 32, (0, 0, 0, 0, 0)), (75, .newarray .long, (1, 0, 0, 0, 0)), (77, .putfield 120, (11, 21, 0, 0, 0)), (80, .aload_n 0, (0, 0, 0, 0, 0)), (81, .iconst 2, (0, 0, 0, 0, 0)), (82, .newarray .boolean, (4, 0, 0, 0, 0)), (84, .putfield 123, (11, 22, 0, 0, 0)), (87, .aload_n 0, (0, 0, 0, 0, 0)), (88, .bipush 24, (0, 0, 0, 0, 0)), (90, .newarray .int, (0, 0, 0, 0, 0)), (92, .putfield 127, (11, 25, 0, 0, 0)), (95, .aload_n 0, (0, 0, 0, 0, 0)), (96, .bipush 8, (0, 0, 0, 0, 0)), (98, .newarray .int, (0, 0, 0, 0, 0)), (100, .putfield 130, (11, 26, 0, 0, 0)), (103, .aload_n 0, (0, 0, 0, 0, 0)), (104, .bipush 24, (0, 0, 0, 0, 0)), (106, .newarray .boolean, (4, 0, 0, 0, 0)), (108, .putfield 133, (11, 27, 0, 0, 0)), (111, .aload_n 0, (0, 0, 0, 0, 0)), (112, .bipush 24, (0, 0, 0, 0, 0)), (114, .newarray .boolean, (4, 0, 0, 0, 0)), (116, .putfield 136, (11, 28, 0, 0, 0)), (119, .aload_n 0, (0, 0, 0, 0, 0)), (120, .iconst (-1), (0, 0, 0, 0, 0)), (121, .putfield 139, (11, 31, 0, 0, 0)), (124, .aload_n 0, (0, 0, 0, 0, 0)), (125, .iconst (-1), (0, 0, 0, 0, 0)), (126, .putfield 142, (11, 32, 0, 0, 0)), (129, .aload_n 0, (0, 0, 0, 0, 0)), (130, .bipush 64, (0, 0, 0, 0, 0)), (132, .newarray .int, (0, 0, 0, 0, 0)), (134, .putfield 145, (11, 33, 0, 0, 0)), (137, .aload_n 0, (0, 0, 0, 0, 0)), (138, .bipush 120, (0, 0, 0, 0, 0)), (140, .newarray .int, (0, 0, 0, 0, 0)), (142, .putfield 148, (11, 36, 0, 0, 0)), (145, .aload_n 0, (0, 0, 0, 0, 0)), (146, .iconst 4, (0, 0, 0, 0, 0)), (147, .newarray .int, (0, 0, 0, 0, 0)), (149, .putfield 151, (11, 37, 0, 0, 0)), (152, .aload_n 0, (0, 0, 0, 0, 0)), (153, .sipush 240, (0, 0, 0, 0, 0)), (156, .newarray .int, (0, 0, 0, 0, 0)), (158, .putfield 154, (11, 40, 0, 0, 0)), (161, .aload_n 0, (0, 0, 0, 0, 0)), (162, .invokevirtual 157, (159, 0, 0, 0, 11)), (165, .return_, (0, 0, 0, 0, 0))]
def kP99 : List KEnt := [(0, .iload 4, (0, 0, 0, 0, 0)), (2, .ifCond .ne 5, (0, 0, 0, 0, 0)), (5, .iconst (-1), (0, 0, 0, 0, 0)), (6, .ireturn, (0, 0, 0, 0, 0))]
def kP100 : List KEnt := [(0, .aload_n 0, (0, 0, 0, 0, 0)), (1, .iconst 0, (0, 0, 0, 0, 0)), (2, .putfield 1, (11, 0, 0, 0, 0)), (5, .aload_n 0, (0, 0, 0, 0, 0)), (6, .getfield 139, (11, 31, 0, 0, 0)), (9, .ireturn, (0, 0, 0, 0, 0))]
def kP101 : List KEnt := [(0, .aload_n 0, (0, 0, 0, 0, 0)), (1, .iconst 0, (0, 0, 0, 0, 0)), (2, .putfield 1, (11, 0, 0, 0, 0)), (5, .aload_n 0, (0, 0, 0, 0, 0)), (6, .iconst 4, (0, 0, 0, 0, 0)), (7, .iload_n 1, (0, 0, 0, 0, 0)), (8, .iconst 0, (0, 0, 0, 0, 0)), (9, .aload_n 0, (0, 0, 0, 0, 0)), (10, .iload_n 1, (0, 0, 0, 0, 0)), (11, .invokevirtual 257, (126, 1, 0, 0, 11)), (14, .invokevirtual 286, (99, 4, 0, 0, 11)), (17, .ireturn, (0, 0, 0, 0, 0))]
def kP102 : List KEnt := [(0, .aload_n 0, (0, 0, 0, 0, 0)), (1, .aload_n 0, (0, 0, 0, 0, 0)), (2, .getfield 30, (11, 7, 0, 0, 0)), (5, .iconst 1, (0, 0, 0, 0, 0)), (6, .if_icmp .ne 7, (0, 0, 0, 0, 0)), (13, .iload_n 1, (0, 0, 0, 0, 0)), (14, .putfield 66, (11, 10, 0, 0, 0)), (17, .aload_n 0, (0, 0, 0, 0, 0)), (18, .aload_n 0, (0, 0, 0, 0, 0)), (19, .getfield 24, (11, 6, 0, 0, 0)), (22, .putfield 69, (11, 11, 0, 0, 0)), (25, .iconst 0, (0, 0, 0, 0, 0)), (26, .ireturn, (0, 0, 0, 0, 0))]
def kP103 : List KEnt := [(0, .aload_n 0, (0, 0, 0, 0, 0)), (1, .iconst 0, (0, 0, 0, 0, 0)), (2, .putfield 1, (11, 0, 0, 0, 0)), (5, .aload_n 0, (0, 0, 0, 0, 0)), (6, .aload_n 0, (0, 0, 0, 0, 0)), (7, .invokevirtual 89, (162, 0, 0, 0, 11)), (10, .putfield 18, (11, 3, 0, 0, 0)), (13, .aload_n 0, (0, 0, 0, 0, 0)), (14, .iload_n 1, (0, 0, 0, 0, 0)), (15, .putfield 27, (11, 4, 0, 0, 0)), (18, .aload_n 0, (0, 0, 0, 0, 0)), (19, .iconst 0, (0, 0, 0, 0, 0)), (20, .putfield 66, (11, 10, 0, 0, 0)), (23, .aload_n 0, (0, 0, 0, 0, 0)), (24, .iconst 0, (0, 0, 0, 0, 0)), (25, .putfield 21, (11, 5, 0, 0, 0)), (28, .aload_n 0, (0, 0, 0, 0, 0)), (29, .invokevirtual 82, (121, 0, 0, 0, 11)), (32, .return_, (0, 0, 0, 0, 0))]
def kP104 : List KEnt := [(0, .iconst 0, (0, 0, 0, 0, 0)), (1, .istore_n 1, (0, 0, 0, 0, 0)), (2, .iload_n 0, (0, 0, 0, 0, 0)), (3, .istore_n 2, (0, 0, 0, 0, 0)), (4, .iload_n 2, (0, 0, 0, 0, 0)), (5, .ifCond .eq 15, (0, 0, 0, 0, 0)), (20, .iload_n 1, (0, 0, 0, 0, 0)), (21, .ireturn, (0, 0, 0, 0, 0))]
def kP105 : List KEnt := [(0, .aload_n 0, (0, 0, 0, 0, 0)), (1, .iconst 0, (0, 0, 0, 0, 0)), (2, .putfield 1, (11, 0, 0, 0, 0)), (5, .iload_n 1, (0, 0, 0, 0, 0)), (6, .iconst 0, (0, 0, 0, 0, 0)), (7, .iconst 1, (0, 0, 0, 0, 0)), (8, .invokestatic 75, (125, 3, 0, 0, 11)), (11, .ifCond .ne 7, (0, 0, 0, 0, 0)), (14, .sipush (-1000), (0, 0, 0, 0, 0)), (17, .ireturn, (0, 0, 0, 0, 0)), (18, .aload_n 0, (0, 0, 0, 0, 0)), (19, .sipush 400, (0, 0, 0, 0, 0)), (22, .invokevirtual 216, (103, 1, 0, 0, 11)), (25, .aload_n 0, (0, 0, 0, 0, 0)), (26, .iconst 0, (0, 0, 0, 0, 0)), (27, .putfield 384, (11, 38, 0, 0, 0)), (30, .aload_n 0, (0, 0, 0, 0, 0)), (31, .getfield 30, (11, 7, 0, 0, 0)), (34, .ifCond .eq 31, (0, 0, 0, 0, 0)), (65, .aload_n 0, (0, 0, 0, 0, 0)), (66, .invokevirtual 366, (129, 0, 0, 0, 11)), (69, .iconst 0, (0, 0, 0, 0, 0)), (70, .istore_n 2, (0, 0, 0, 0, 0)), (71, .iconst 0, (0, 0, 0, 0, 0)), (72, .istore_n 3, (0, 0, 0, 0, 0)), (73, .iload_n 2, (0, 0, 0, 0, 0)), (74, .aload_n 0, (0, 0, 0, 0, 0)), (75, .getfield 384, (11, 38, 0, 0, 0)), (78, .if_icmp .ge 25, (0, 0, 0, 0, 0)), (103, .aload_n 0, (0, 0, 0, 0, 0)), (104, .getfield 151, (11, 37, 0, 0, 0)), (107, .iconst 0, (0, 0, 0, 0, 0)), (108, .iload_n 3, (0, 0, 0, 0, 0)), (109, .iastore, (0, 0, 0, 0, 0)), (110, .aload_n 0, (0, 0, 0, 0, 0)), (111, .getfield 151, (11, 37, 0, 0, 0)), (114, .iconst 1, (0, 0, 0, 0, 0)), (115, .iload_n 2, (0, 0, 0, 0, 0)), (116, .iastore, (0, 0, 0, 0, 0)), (117, .aload_n 0, (0, 0, 0, 0, 0)), (118, .getfield 151, (11, 37, 0, 0, 0)), (121, .iconst 2, (0, 0, 0, 0, 0)), (122, .aload_n 0, (0, 0, 0, 0, 0)), (123, .getfield 98, (11, 14, 0, 0, 0)), (126, .bipush 92, (0, 0, 0, 0, 0)), (128, .iaload, (0, 0, 0, 0, 0)), (129, .iastore, (0, 0, 0, 0, 0)), (130, .aload_n 0, (0, 0, 0, 0, 0)), (131, .getfield 151, (11, 37, 0, 0, 0)), (134, .iconst 3, (0, 0, 0, 0, 0)), (135, .aload_n 0, (0, 0, 0, 0, 0)), (136, .iconst 2, (0, 0, 0, 0, 0)), (137, .invokevirtual 263, (163, 1, 0, 0, 11)), (140, .iastore, (0, 0, 0, 0, 0)), (141, .aload_n 0, (0, 0, 0, 0, 0)), (142, .iconst 1, (0, 0, 0, 0, 0)), (143, .putfield 396, (11, 39, 0, 0, 0)), (146, .aload_n 0, (0, 0, 0, 0, 0)), (147, .iload_n 1, (0, 0, 0, 0, 0)), (148, .iconst 1, (0, 0, 0, 0, 0)), (149, .if_icmp .ne 11, (0, 0, 0, 0, 0)), (152, .iload_n 2, (0, 0, 0, 0, 0)), (153, .ifCond .le 7, (0, 0, 0, 0, 0)), (160, .iconst 0, (0, 0, 0, 0, 0)), (161, .invokevirtual 399, (160, 1, 0, 0, 11)), (164, .iload_n 3, (0, 0, 0, 0, 0)), (165, .ifCond .ne 7, (0, 0, 0, 0, 0)), (168, .iconst (-1), (0, 0, 0, 0, 0)), (169, .goto 4, (0, 0, 0, 0, 0)), (173, .ireturn, (0, 0, 0, 0, 0))]
def kP106 : List KEnt := [(0, .aload_n 0, (0, 0, 0, 0, 0)), (1, .iconst 0, (0, 0, 0, 0, 0)), (2, .putfield 1, (11, 0, 0, 0, 0)), (5, .iload_n 1, (0, 0, 0, 0, 0)), (6, .iconst 0, (0, 0, 0, 0, 0)), (7, .aload_n 0, (0, 0, 0, 0, 0)), (8, .getfield 337, (11, 34, 0, 0, 0)), (11, .iconst 1, (0, 0, 0, 0, 0)), (12, .isub, (0, 0, 0, 0, 0)), (13, .invokestatic 75, (125, 3, 0, 0, 11)), (16, .ifCond .eq 12, (0, 0, 0, 0, 0)), (28, .iconst (-1), (0, 0, 0, 0, 0)), (29, .ireturn, (0, 0, 0, 0, 0))]
def kP107 : List KEnt := [(0, .aload_n 0, (0, 0, 0, 0, 0)), (1, .iconst 0, (0, 0, 0, 0, 0)), (2, .putfield 1, (11, 0, 0, 0, 0)), (5, .aload_n 0, (0, 0, 0, 0, 0)), (6, .iload_n 1, (0, 0, 0, 0, 0)), (7, .invokevirtual 251, (124, 1, 0, 0, 11)), (10, .ifCond .eq 11, (0, 0, 0, 0, 0)), (21, .iconst (-1), (0, 0, 0, 0, 0)), (22, .ireturn, (0, 0, 0, 0, 0))]
def kP108 : List KEnt := [(0, .aload_n 0, (0, 0, 0, 0, 0)), (1, .iconst 0, (0, 0, 0, 0, 0)), (2, .putfield 1, (11, 0, 0, 0, 0)), (5, .aload_n 0, (0, 0, 0, 0, 0)), (6, .iconst 5, (0, 0, 0, 0, 0)), (7, .iload_n 1, (0, 0, 0, 0, 0)), (8, .iconst 0, (0, 0, 0, 0, 0)), (9, .aload_n 0, (0, 0, 0, 0, 0)), (10, .iload_n 1, (0, 0, 0, 0, 0)), (11, .invokevirtual 251, (124, 1, 0, 0, 11)), (14, .invokevirtual 286, (99, 4, 0, 0, 11)), (17, .ireturn, (0, 0, 0, 0, 0))]
def kP109 : List KEnt := [(0, .bipush 24, (0, 0, 0, 0, 0)), (2, .istore_n 2, (0, 0, 0, 0, 0)), (3, .iload_n 2, (0, 0, 0, 0, 0)), (4, .ifCond .lt 35, (0, 0, 0, 0, 0)), (7, .aload_n 0, (0, 0, 0, 0, 0)), (8, .getfield 7, (11, 1, 0, 0, 0)), (11, .aload_n 0, (0, 0, 0, 0, 0)), (12, .getfield 11, (11, 2, 0, 0, 0)), (15, .iload_n 1, (0, 0, 0, 0, 0)), (16, .iload_n 2, (0, 0, 0, 0, 0)), (17, .iushr, (0, 0, 0, 0, 0)), (18, .sipush 255, (0, 0, 0, 0, 0)), (21, .iand, (0, 0, 0, 0, 0)), (22, .iastore, (0, 0, 0, 0, 0)), (23, .aload_n 0, (0, 0, 0, 0, 0)), (24, .dup, (0, 0, 0, 0, 0)), (25, .getfield 11, (11, 2, 0, 0, 0)), (28, .iconst 1, (0, 0, 0, 0, 0)), (29, .iadd, (0, 0, 0, 0, 0)), (30, .putfield 11, (11, 2, 0, 0, 0)), (33, .iinc 2 (-8), (0, 0, 0, 0, 0)), (36, .goto (-33), (0, 0, 0, 0, 0)), (39, .return_, (0, 0, 0, 0, 0))]
def kP110 : List KEnt := [(0, .aload_n 0, (0, 0, 0, 0, 0)), (1, .iconst 0, (0, 0, 0, 0, 0)), (2, .putfield 1, (11, 0, 0, 0, 0)), (5, .iload_n 1, (0, 0, 0, 0, 0)), (6, .tableswitch 56 0 3 #[30, 37, 44, 51], (0, 0, 0, 0, 0)), (36, .aload_n 0, (0, 0, 0, 0, 0)), (37, .getfield 98, (11, 14, 0, 0, 0)), (40, .iconst 0, (0, 0, 0, 0, 0)), (41, .iaload, (0, 0, 0, 0, 0)), (42, .ireturn, (0, 0, 0, 0, 0)), (43, .aload_n 0, (0, 0, 0, 0, 0)), (44, .getfield 98, (11, 14, 0, 0, 0)), (47, .iconst 1, (0, 0, 0, 0, 0)), (48, .iaload, (0, 0, 0, 0, 0)), (49, .ireturn, (0, 0, 0, 0, 0)), (50, .aload_n 0, (0, 0, 0, 0, 0)), (51, .getfield 98, (11, 14, 0, 0, 0)), (54, .iconst 2, (0, 0, 0, 0, 0)), (55, .iaload, (0, 0, 0, 0, 0)), (56, .ireturn, (0, 0, 0, 0, 0)), (57, .aload_n 0, (0, 0, 0, 0, 0)), (58, .getfield 11, (11, 2, 0, 0, 0)), (61, .ireturn, (0, 0, 0, 0, 0)), (62, .iconst (-1), (0, 0, 0, 0, 0)), (63, .ireturn, (0, 0, 0, 0, 0))]
def kP111 : List KEnt := [(0, .aload_n 0, (0, 0, 0, 0, 0)), (1, .iconst 0, (0, 0, 0, 0, 0)), (2, .putfield 1, (11, 0, 0, 0, 0)), (5, .iconst 0, (0, 0, 0, 0, 0)), (6, .istore_n 1, (0, 0, 0, 0, 0)), (7, .iconst 0, (0, 0, 0, 0, 0)), (8, .istore_n 2, (0, 0, 0, 0, 0)), (9, .iload_n 2, (0, 0, 0, 0, 0)), (10, .aload_n 0, (0, 0, 0, 0, 0)), (11, .getfield 98, (11, 14, 0, 0, 0)), (14, .iconst 1, (0, 0, 0, 0, 0)), (15, .iaload, (0, 0, 0, 0, 0)), (16, .if_icmp .ge 20, (0, 0, 0, 0, 0)), (36, .iconst (-1), (0, 0, 0, 0, 0)), (37, .istore_n 2, (0, 0, 0, 0, 0)), (38, .iconst 0, (0, 0, 0, 0, 0)), (39, .istore_n 3, (0, 0, 0, 0, 0)), (40, .iload_n 3, (0, 0, 0, 0, 0)), (41, .iconst 1, (0, 0, 0, 0, 0)), (42, .aload_n 0, (0, 0, 0, 0, 0)), (43, .getfield 98, (11, 14, 0, 0, 0)), (46, .iconst 0, (0, 0, 0, 0, 0)), (47, .iaload, (0, 0, 0, 0, 0)), (48, .ishl, (0, 0, 0, 0, 0)), (49, .if_icmp .ge 36, (0, 0, 0, 0, 0)), (52, .iload_n 2, (0, 0, 0, 0, 0)), (53, .iconst (-1), (0, 0, 0, 0, 0)), (54, .if_icmp .eq 14, (0, 0, 0, 0, 0)), (68, .aload_n 0, (0, 0, 0, 0, 0)), (69, .iload_n 3, (0, 0, 0, 0, 0)), (70, .invokevirtual 334, (154, 1, 0, 0, 11)), (73, .iload_n 1, (0, 0, 0, 0, 0)), (74, .if_icmp .ne 5, (0, 0, 0, 0, 0)), (77, .iload_n 3, (0, 0, 0, 0, 0)), (78, .istore_n 2, (0, 0, 0, 0, 0)), (79, .iinc 3 1, (0, 0, 0, 0, 0)), (82, .goto (-42), (0, 0, 0, 0, 0)), (85, .iload_n 2, (0, 0, 0, 0, 0)), (86, .iconst (-1), (0, 0, 0, 0, 0)), (87, .if_icmp .ne 5, (0, 0, 0, 0, 0)), (92, .aload_n 0, (0, 0, 0, 0, 0)), (93, .iload_n 2, (0, 0, 0, 0, 0)), (94, .putfield 142, (11, 32, 0, 0, 0)), (97, .iload_n 2, (0, 0, 0, 0, 0)), (98, .invokestatic 326, (104, 1, 0, 0, 11)), (101, .ireturn, (0, 0, 0, 0, 0))]
def kP112 : List KEnt := [(0, .aload_n 0, (0, 0, 0, 0, 0)), (1, .iconst 0, (0, 0, 0, 0, 0)), (2, .putfield 1, (11, 0, 0, 0, 0)), (5, .aload_n 0, (0, 0, 0, 0, 0)), (6, .getfield 142, (11, 32, 0, 0, 0)), (9, .ireturn, (0, 0, 0, 0, 0))]
def kP113 : List KEnt := [(0, .aload_n 0, (0, 0, 0, 0, 0)), (1, .iconst 0, (0, 0, 0, 0, 0)), (2, .putfield 1, (11, 0, 0, 0, 0)), (5, .iload_n 1, (0, 0, 0, 0, 0)), (6, .iconst 1, (0, 0, 0, 0, 0)), (7, .bipush 60, (0, 0, 0, 0, 0)), (9, .invokestatic 75, (125, 3, 0, 0, 11)), (12, .ifCond .ne 5, (0, 0, 0, 0, 0)), (15, .iconst (-1), (0, 0, 0, 0, 0)), (16, .ireturn, (0, 0, 0, 0, 0)), (17, .aload_n 0, (0, 0, 0, 0, 0)), (18, .getfield 98, (11, 14, 0, 0, 0)), (21, .bipush 92, (0, 0, 0, 0, 0)), (23, .iaload, (0, 0, 0, 0, 0)), (24, .sipush 400, (0, 0, 0, 0, 0)), (27, .if_icmp .ne 5, (0, 0, 0, 0, 0)), (32, .aload_n 0, (0, 0, 0, 0, 0)), (33, .invokevirtual 279, (156, 0, 0, 0, 11)), (36, .aload_n 0, (0, 0, 0, 0, 0)), (37, .iload_n 1, (0, 0, 0, 0, 0)), (38, .invokevirtual 296, (142, 1, 0, 0, 11)), (41, .ireturn, (0, 0, 0, 0, 0))]
def kP114 : List KEnt := [(0, .aload_n 0, (0, 0, 0, 0, 0)), (1, .iconst 0, (0, 0, 0, 0, 0)), (2, .putfield 1, (11, 0, 0, 0, 0)), (5, .iload_n 1, (0, 0, 0, 0, 0)), (6, .iconst 1, (0, 0, 0, 0, 0)), (7, .bipush 60, (0, 0, 0, 0, 0)), (9, .invokestatic 75, (125, 3, 0, 0, 11)), (12, .ifCond .eq 12, (0, 0, 0, 0, 0)), (15, .aload_n 0, (0, 0, 0, 0, 0)), (16, .getfield 98, (11, 14, 0, 0, 0)), (19, .iconst 0, (0, 0, 0, 0, 0)), (20, .iaload, (0, 0, 0, 0, 0)), (21, .ifCond .ne 5, (0, 0, 0, 0, 0)), (24, .iconst (-1), (0, 0, 0, 0, 0)), (25, .ireturn, (0, 0, 0, 0, 0))]
def kP115 : List KEnt := [(0, .aload_n 0, (0, 0, 0, 0, 0)), (1, .iconst 0, (0, 0, 0, 0, 0)), (2, .putfield 1, (11, 0, 0, 0, 0)), (5, .aload_n 0, (0, 0, 0, 0, 0)), (6, .iload_n 1, (0, 0, 0, 0, 0)), (7, .invokevirtual 251, (124, 1, 0, 0, 11)), (10, .ifCond .eq 28, (0, 0, 0, 0, 0)), (38, .iconst (-1), (0, 0, 0, 0, 0)), (39, .ireturn, (0, 0, 0, 0, 0))]
def kP116 : List KEnt := [(0, .aload_n 0, (0, 0, 0, 0, 0)), (1, .iconst 0, (0, 0, 0, 0, 0)), (2, .putfield 1, (11, 0, 0, 0, 0)), (5, .iload_n 1, (0, 0, 0, 0, 0)), (6, .ifCond .lt 11, (0, 0, 0, 0, 0)), (9, .iload_n 1, (0, 0, 0, 0, 0)), (10, .aload_n 0, (0, 0, 0, 0, 0)), (11, .getfield 11, (11, 2, 0, 0, 0)), (14, .if_icmp .le 5, (0, 0, 0, 0, 0)), (17, .iconst 0, (0, 0, 0, 0, 0)), (18, .ireturn, (0, 0, 0, 0, 0)), (19, .aload_n 0, (0, 0, 0, 0, 0)), (20, .iload_n 1, (0, 0, 0, 0, 0)), (21, .putfield 11, (11, 2, 0, 0, 0)), (24, .iconst 1, (0, 0, 0, 0, 0)), (25, .ireturn, (0, 0, 0, 0, 0))]
def kP117 : List KEnt := [(0, .aload_n 0, (0, 0, 0, 0, 0)), (1, .iconst 0, (0, 0, 0, 0, 0)), (2, .putfield 1, (11, 0, 0, 0, 0)), (5, .aload_n 0, (0, 0, 0, 0, 0)), (6, .getfield 66, (11, 10, 0, 0, 0)), (9, .ireturn, (0, 0, 0, 0, 0))]
def kP118 : List KEnt := [(0, .aload_n 0, (0, 0, 0, 0, 0)), (1, .iconst 0, (0, 0, 0, 0, 0)), (2, .putfield 1, (11, 0, 0, 0, 0)), (5, .aload_n 0, (0, 0, 0, 0, 0)), (6, .getfield 11, (11, 2, 0, 0, 0)), (9, .bipush 20, (0, 0, 0, 0, 0)), (11, .iadd, (0, 0, 0, 0, 0)), (12, .sipush 940, (0, 0, 0, 0, 0)), (15, .if_icmp .le 5, (0, 0, 0, 0, 0)), (20, .aload_n 0, (0, 0, 0, 0, 0)), (21, .iload_n 1, (0, 0, 0, 0, 0)), (22, .invokevirtual 14, (109, 1, 0, 0, 11)), (25, .aload_n 0, (0, 0, 0, 0, 0)), (26, .iload_n 2, (0, 0, 0, 0, 0)), (27, .invokevirtual 14, (109, 1, 0, 0, 11)), (30, .aload_n 0, (0, 0, 0, 0, 0)), (31, .iload_n 3, (0, 0, 0, 0, 0)), (32, .invokevirtual 14, (109, 1, 0, 0, 11)), (35, .aload_n 0, (0, 0, 0, 0, 0)), (36, .iload 4, (0, 0, 0, 0, 0)), (38, .invokevirtual 14, (109, 1, 0, 0, 11)), (41, .aload_n 0, (0, 0, 0, 0, 0)), (42, .iload 5, (0, 0, 0, 0, 0)), (44, .invokevirtual 14, (109, 1, 0, 0, 11)), (47, .aload_n 0, (0, 0, 0, 0, 0)), (48, .getfield 11, (11, 2, 0, 0, 0)), (51, .ireturn, (0, 0, 0, 0, 0))]
def kP119 : List KEnt := [(0, .aload_n 0, (0, 0, 0, 0, 0)), (1, .iconst 0, (0, 0, 0, 0, 0)), (2, .putfield 1, (11, 0, 0, 0, 0)), (5, .aload_n 0, (0, 0, 0, 0, 0)), (6, .invokevirtual 89, (162, 0, 0, 0, 11)), (9, .istore_n 1, (0, 0, 0, 0, 0)), (10, .iload_n 1, (0, 0, 0, 0, 0)), (11, .iconst 1, (0, 0, 0, 0, 0)), (12, .iconst 3, (0, 0, 0, 0, 0)), (13, .invokestatic 75, (125, 3, 0, 0, 11)), (16, .ifCond .ne 5, (0, 0, 0, 0, 0)), (19, .iconst (-1), (0, 0, 0, 0, 0)), (20, .ireturn, (0, 0, 0, 0, 0))]
def kP120 : List KEnt := [(0, .aload_n 0, (0, 0, 0, 0, 0)), (1, .iconst 0, (0, 0, 0, 0, 0)), (2, .putfield 1, (11, 0, 0, 0, 0)), (5, .aload_n 0, (0, 0, 0, 0, 0)), (6, .iload_n 1, (0, 0, 0, 0, 0)), (7, .invokevirtual 251, (124, 1, 0, 0, 11)), (10, .ifCond .ne 8, (0, 0, 0, 0, 0)), (13, .aload_n 0, (0, 0, 0, 0, 0)), (14, .invokevirtual 254, (147, 0, 0, 0, 11)), (17, .ireturn, (0, 0, 0, 0, 0))]
def kP121 : List KEnt := [(0, .aload_n 0, (0, 0, 0, 0, 0)), (1, .getfield 21, (11, 5, 0, 0, 0)), (4, .aload_n 0, (0, 0, 0, 0, 0)), (5, .getfield 18, (11, 3, 0, 0, 0)), (8, .if_icmp .ge 44, (0, 0, 0, 0, 0)), (52, .aload_n 0, (0, 0, 0, 0, 0)), (53, .aload_n 0, (0, 0, 0, 0, 0)), (54, .getfield 21, (11, 5, 0, 0, 0)), (57, .putfield 24, (11, 6, 0, 0, 0)), (60, .aload_n 0, (0, 0, 0, 0, 0)), (61, .getfield 18, (11, 3, 0, 0, 0)), (64, .aload_n 0, (0, 0, 0, 0, 0)), (65, .getfield 27, (11, 4, 0, 0, 0)), (68, .if_icmp .le 28, (0, 0, 0, 0, 0)), (96, .aload_n 0, (0, 0, 0, 0, 0)), (97, .getfield 21, (11, 5, 0, 0, 0)), (100, .aload_n 0, (0, 0, 0, 0, 0)), (101, .getfield 18, (11, 3, 0, 0, 0)), (104, .if_icmp .lt 9, (0, 0, 0, 0, 0)), (107, .aload_n 0, (0, 0, 0, 0, 0)), (108, .iconst 0, (0, 0, 0, 0, 0)), (109, .putfield 30, (11, 7, 0, 0, 0)), (112, .return_, (0, 0, 0, 0, 0))]
def kP122 : List KEnt := [(0, .aload_n 0, (0, 0, 0, 0, 0)), (1, .iconst 0, (0, 0, 0, 0, 0)), (2, .putfield 1, (11, 0, 0, 0, 0)), (5, .aload_n 0, (0, 0, 0, 0, 0)), (6, .iload_n 1, (0, 0, 0, 0, 0)), (7, .invokevirtual 257, (126, 1, 0, 0, 11)), (10, .ifCond .eq 20, (0, 0, 0, 0, 0)), (30, .iconst (-1), (0, 0, 0, 0, 0)), (31, .ireturn, (0, 0, 0, 0, 0))]
def kP123 : List KEnt := [(0, .aload_n 0, (0, 0, 0, 0, 0)), (1, .iconst 0, (0, 0, 0, 0, 0)), (2, .putfield 1, (11, 0, 0, 0, 0)), (5, .iload_n 1, (0, 0, 0, 0, 0)), (6, .iconst 0, (0, 0, 0, 0, 0)), (7, .iconst 1, (0, 0, 0, 0, 0)), (8, .invokestatic 75, (125, 3, 0, 0, 11)), (11, .ifCond .ne 5, (0, 0, 0, 0, 0)), (14, .iconst 0, (0, 0, 0, 0, 0)), (15, .ireturn, (0, 0, 0, 0, 0)), (16, .iconst 0, (0, 0, 0, 0, 0)), (17, .istore_n 2, (0, 0, 0, 0, 0)), (18, .iload_n 2, (0, 0, 0, 0, 0)), (19, .sipush 456, (0, 0, 0, 0, 0)), (22, .if_icmp .ge 27, (0, 0, 0, 0, 0)), (25, .aload_n 0, (0, 0, 0, 0, 0)), (26, .getfield 104, (11, 16, 0, 0, 0)), (29, .sipush 456, (0, 0, 0, 0, 0)), (32, .iload_n 1, (0, 0, 0, 0, 0)), (33, .imul, (0, 0, 0, 0, 0)), (34, .iload_n 2, (0, 0, 0, 0, 0)), (35, .iadd, (0, 0, 0, 0, 0)), (36, .aload_n 0, (0, 0, 0, 0, 0)), (37, .getfield 98, (11, 14, 0, 0, 0)), (40, .iload_n 2, (0, 0, 0, 0, 0)), (41, .iaload, (0, 0, 0, 0, 0)), (42, .iastore, (0, 0, 0, 0, 0)), (43, .iinc 2 1, (0, 0, 0, 0, 0)), (46, .goto (-28), (0, 0, 0, 0, 0)), (49, .iconst 0, (0, 0, 0, 0, 0)), (50, .istore_n 2, (0, 0, 0, 0, 0)), (51, .iload_n 2, (0, 0, 0, 0, 0)), (52, .bipush 16, (0, 0, 0, 0, 0)), (54, .if_icmp .ge 26, (0, 0, 0, 0, 0)), (57, .aload_n 0, (0, 0, 0, 0, 0)), (58, .getfield 120, (11, 21, 0, 0, 0)), (61, .bipush 16, (0, 0, 0, 0, 0)), (63, .iload_n 1, (0, 0, 0, 0, 0)), (64, .imul, (0, 0, 0, 0, 0)), (65, .iload_n 2, (0, 0, 0, 0, 0)), (66, .iadd, (0, 0, 0, 0, 0)), (67, .aload_n 0, (0, 0, 0, 0, 0)), (68, .getfield 113, (11, 19, 0, 0, 0)), (71, .iload_n 2, (0, 0, 0, 0, 0)), (72, .laload, (0, 0, 0, 0, 0)), (73, .lastore, (0, 0, 0, 0, 0)), (74, .iinc 2 1, (0, 0, 0, 0, 0)), (77, .goto (-26), (0, 0, 0, 0, 0)), (80, .aload_n 0, (0, 0, 0, 0, 0)), (81, .getfield 123, (11, 22, 0, 0, 0)), (84, .iload_n 1, (0, 0, 0, 0, 0)), (85, .iconst 1, (0, 0, 0, 0, 0)), (86, .bastore, (0, 0, 0, 0, 0)), (87, .iconst 1, (0, 0, 0, 0, 0)), (88, .ireturn, (0, 0, 0, 0, 0))]
def kP124 : List KEnt := [(0, .iload_n 1, (0, 0, 0, 0, 0)), (1, .iconst 0, (0, 0, 0, 0, 0)), (2, .aload_n 0, (0, 0, 0, 0, 0)), (3, .getfield 98, (11, 14, 0, 0, 0)), (6, .iconst 1, (0, 0, 0, 0, 0)), (7, .iaload, (0, 0, 0, 0, 0)), (8, .iconst 1, (0, 0, 0, 0, 0)), (9, .isub, (0, 0, 0, 0, 0)), (10, .invokestatic 75, (125, 3, 0, 0, 11)), (13, .ireturn, (0, 0, 0, 0, 0))]
def kP125 : List KEnt := [(0, .iload_n 0, (0, 0, 0, 0, 0)), (1, .iload_n 1, (0, 0, 0, 0, 0)), (2, .if_icmp .lt 12, (0, 0, 0, 0, 0)), (5, .iload_n 0, (0, 0, 0, 0, 0)), (6, .iload_n 2, (0, 0, 0, 0, 0)), (7, .if_icmp .gt 7, (0, 0, 0, 0, 0)), (10, .iconst 1, (0, 0, 0, 0, 0)), (11, .goto 4, (0, 0, 0, 0, 0)), (14, .iconst 0, (0, 0, 0, 0, 0)), (15, .ireturn, (0, 0, 0, 0, 0))]
def kP126 : List KEnt := [(0, .iload_n 1, (0, 0, 0, 0, 0)), (1, .iconst 0, (0, 0, 0, 0, 0)), (2, .aload_n 0, (0, 0, 0, 0, 0)), (3, .getfield 98, (11, 14, 0, 0, 0)), (6, .iconst 0, (0, 0, 0, 0, 0)), (7, .iaload, (0, 0, 0, 0, 0)), (8, .iconst 1, (0, 0, 0, 0, 0)), (9, .isub, (0, 0, 0, 0, 0)), (10, .invokestatic 75, (125, 3, 0, 0, 11)), (13, .ireturn, (0, 0, 0, 0, 0))]
def kP127 : List KEnt := [(0, .aload_n 0, (0, 0, 0, 0, 0)), (1, .getfield 30, (11, 7, 0, 0, 0)), (4, .iconst 4, (0, 0, 0, 0, 0)), (5, .if_icmp .ne 15, (0, 0, 0, 0, 0)), (20, .iconst 0, (0, 0, 0, 0, 0)), (21, .ireturn, (0, 0, 0, 0, 0))]
def kP128 : List KEnt := [(0, .aload_n 0, (0, 0, 0, 0, 0)), (1, .getfield 30, (11, 7, 0, 0, 0)), (4, .iconst 2, (0, 0, 0, 0, 0)), (5, .if_icmp .ne 19, (0, 0, 0, 0, 0)), (24, .iconst 0, (0, 0, 0, 0, 0)), (25, .ireturn, (0, 0, 0, 0, 0))]
def kP129 : List KEnt := [(0, .iconst 0, (0, 0, 0, 0, 0)), (1, .istore_n 1, (0, 0, 0, 0, 0)), (2, .iload_n 1, (0, 0, 0, 0, 0)), (3, .bipush 122, (0, 0, 0, 0, 0)), (5, .if_icmp .ge 24, (0, 0, 0, 0, 0)), (8, .aload_n 0, (0, 0, 0, 0, 0)), (9, .getfield 110, (11, 18, 0, 0, 0)), (12, .iload_n 1, (0, 0, 0, 0, 0)), (13, .aload_n 0, (0, 0, 0, 0, 0)), (14, .getfield 98, (11, 14, 0, 0, 0)), (17, .bipush 92, (0, 0, 0, 0, 0)), (19, .iload_n 1, (0, 0, 0, 0, 0)), (20, .iadd, (0, 0, 0, 0, 0)), (21, .iaload, (0, 0, 0, 0, 0)), (22, .iastore, (0, 0, 0, 0, 0)), (23, .iinc 1 1, (0, 0, 0, 0, 0)), (26, .goto (-24), (0, 0, 0, 0, 0)), (29, .return_, (0, 0, 0, 0, 0))]
def kP130 : List KEnt := [(0, .iload_n 0, (0, 0, 0, 0, 0)), (1, .iload_n 1, (0, 0, 0, 0, 0)), (2, .if_icmp .ge 7, (0, 0, 0, 0, 0)), (5, .iload_n 0, (0, 0, 0, 0, 0)), (6, .goto 4, (0, 0, 0, 0, 0)), (10, .ireturn, (0, 0, 0, 0, 0))]
def kP131 : List KEnt := [(0, .aload_n 0, (0, 0, 0, 0, 0)), (1, .iconst 0, (0, 0, 0, 0, 0)), (2, .putfield 1, (11, 0, 0, 0, 0)), (5, .aload_n 0, (0, 0, 0, 0, 0)), (6, .bipush 6, (0, 0, 0, 0, 0)), (8, .iload_n 1, (0, 0, 0, 0, 0)), (9, .iconst 0, (0, 0, 0, 0, 0)), (10, .aload_n 0, (0, 0, 0, 0, 0)), (11, .iload_n 1, (0, 0, 0, 0, 0)), (12, .invokevirtual 251, (124, 1, 0, 0, 11)), (15, .invokevirtual 286, (99, 4, 0, 0, 11)), (18, .ireturn, (0, 0, 0, 0, 0))]
def kP132 : List KEnt := [(0, .aload_n 0, (0, 0, 0, 0, 0)), (1, .iconst 0, (0, 0, 0, 0, 0)), (2, .putfield 1, (11, 0, 0, 0, 0)), (5, .iconst (-1), (0, 0, 0, 0, 0)), (6, .istore_n 1, (0, 0, 0, 0, 0)), (7, .iconst 0, (0, 0, 0, 0, 0)), (8, .istore_n 2, (0, 0, 0, 0, 0)), (9, .iconst 0, (0, 0, 0, 0, 0)), (10, .istore_n 3, (0, 0, 0, 0, 0)), (11, .iload_n 3, (0, 0, 0, 0, 0)), (12, .aload_n 0, (0, 0, 0, 0, 0)), (13, .getfield 98, (11, 14, 0, 0, 0)), (16, .iconst 0, (0, 0, 0, 0, 0)), (17, .iaload, (0, 0, 0, 0, 0)), (18, .if_icmp .ge 59, (0, 0, 0, 0, 0)), (77, .iload_n 1, (0, 0, 0, 0, 0)), (78, .ireturn, (0, 0, 0, 0, 0))]
def kP133 : List KEnt := [(0, .aload_n 0, (0, 0, 0, 0, 0)), (1, .iconst 0, (0, 0, 0, 0, 0)), (2, .putfield 1, (11, 0, 0, 0, 0)), (5, .iconst 0, (0, 0, 0, 0, 0)), (6, .istore_n 1, (0, 0, 0, 0, 0)), (7, .iload_n 1, (0, 0, 0, 0, 0)), (8, .bipush 24, (0, 0, 0, 0, 0)), (10, .if_icmp .ge 16, (0, 0, 0, 0, 0)), (13, .aload_n 0, (0, 0, 0, 0, 0)), (14, .getfield 136, (11, 28, 0, 0, 0)), (17, .iload_n 1, (0, 0, 0, 0, 0)), (18, .iconst 0, (0, 0, 0, 0, 0)), (19, .bastore, (0, 0, 0, 0, 0)), (20, .iinc 1 1, (0, 0, 0, 0, 0)), (23, .goto (-16), (0, 0, 0, 0, 0)), (26, .aload_n 0, (0, 0, 0, 0, 0)), (27, .iconst 0, (0, 0, 0, 0, 0)), (28, .invokevirtual 311, (135, 1, 0, 0, 11)), (31, .istore_n 1, (0, 0, 0, 0, 0)), (32, .iload_n 1, (0, 0, 0, 0, 0)), (33, .istore_n 2, (0, 0, 0, 0, 0)), (34, .iconst 0, (0, 0, 0, 0, 0)), (35, .istore_n 3, (0, 0, 0, 0, 0)), (36, .iload_n 3, (0, 0, 0, 0, 0)), (37, .aload_n 0, (0, 0, 0, 0, 0)), (38, .getfield 98, (11, 14, 0, 0, 0)), (41, .iconst 0, (0, 0, 0, 0, 0)), (42, .iaload, (0, 0, 0, 0, 0)), (43, .if_icmp .ge 34, (0, 0, 0, 0, 0)), (77, .aload_n 0, (0, 0, 0, 0, 0)), (78, .aload_n 0, (0, 0, 0, 0, 0)), (79, .getfield 98, (11, 14, 0, 0, 0)), (82, .iconst 0, (0, 0, 0, 0, 0)), (83, .iaload, (0, 0, 0, 0, 0)), (84, .putfield 317, (11, 29, 0, 0, 0)), (87, .aload_n 0, (0, 0, 0, 0, 0)), (88, .iconst 1, (0, 0, 0, 0, 0)), (89, .putfield 320, (11, 30, 0, 0, 0)), (92, .iload_n 1, (0, 0, 0, 0, 0)), (93, .ireturn, (0, 0, 0, 0, 0))]
def kP134 : List KEnt := [(0, .aload_n 0, (0, 0, 0, 0, 0)), (1, .iconst 0, (0, 0, 0, 0, 0)), (2, .putfield 1, (11, 0, 0, 0, 0)), (5, .aload_n 0, (0, 0, 0, 0, 0)), (6, .getfield 320, (11, 30, 0, 0, 0)), (9, .ifCond .eq 26, (0, 0, 0, 0, 0)), (35, .iconst (-1), (0, 0, 0, 0, 0)), (36, .ireturn, (0, 0, 0, 0, 0))]
def kP135 : List KEnt := [(0, .iconst 0, (0, 0, 0, 0, 0)), (1, .istore_n 2, (0, 0, 0, 0, 0)), (2, .iload_n 2, (0, 0, 0, 0, 0)), (3, .bipush 24, (0, 0, 0, 0, 0)), (5, .if_icmp .ge 16, (0, 0, 0, 0, 0)), (8, .aload_n 0, (0, 0, 0, 0, 0)), (9, .getfield 127, (11, 25, 0, 0, 0)), (12, .iload_n 2, (0, 0, 0, 0, 0)), (13, .iconst (-1), (0, 0, 0, 0, 0)), (14, .iastore, (0, 0, 0, 0, 0)), (15, .iinc 2 1, (0, 0, 0, 0, 0)), (18, .goto (-16), (0, 0, 0, 0, 0)), (21, .iconst 0, (0, 0, 0, 0, 0)), (22, .istore_n 2, (0, 0, 0, 0, 0)), (23, .iload_n 1, (0, 0, 0, 0, 0)), (24, .istore_n 3, (0, 0, 0, 0, 0)), (25, .iload_n 3, (0, 0, 0, 0, 0)), (26, .aload_n 0, (0, 0, 0, 0, 0)), (27, .getfield 98, (11, 14, 0, 0, 0)), (30, .iconst 0, (0, 0, 0, 0, 0)), (31, .iaload, (0, 0, 0, 0, 0)), (32, .if_icmp .ge 61, (0, 0, 0, 0, 0)), (93, .iload_n 2, (0, 0, 0, 0, 0)), (94, .ireturn, (0, 0, 0, 0, 0))]
def kP136 : List KEnt := [(0, .aload_n 0, (0, 0, 0, 0, 0)), (1, .iconst 0, (0, 0, 0, 0, 0)), (2, .putfield 1, (11, 0, 0, 0, 0)), (5, .iconst 0, (0, 0, 0, 0, 0)), (6, .istore_n 2, (0, 0, 0, 0, 0)), (7, .iload_n 1, (0, 0, 0, 0, 0)), (8, .tableswitch 115 0 7 #[48, 56, 56, 56, 56, 64, 98, 106], (0, 0, 0, 0, 0)), (56, .aload_n 0, (0, 0, 0, 0, 0)), (57, .getfield 98, (11, 14, 0, 0, 0)), (60, .bipush 92, (0, 0, 0, 0, 0)), (62, .iaload, (0, 0, 0, 0, 0)), (63, .ireturn, (0, 0, 0, 0, 0)), (64, .aload_n 0, (0, 0, 0, 0, 0)), (65, .iload_n 1, (0, 0, 0, 0, 0)), (66, .iconst 1, (0, 0, 0, 0, 0)), (67, .isub, (0, 0, 0, 0, 0)), (68, .invokevirtual 263, (163, 1, 0, 0, 11)), (71, .ireturn, (0, 0, 0, 0, 0)), (72, .iconst 0, (0, 0, 0, 0, 0)), (73, .istore_n 3, (0, 0, 0, 0, 0)), (74, .iload_n 3, (0, 0, 0, 0, 0)), (75, .aload_n 0, (0, 0, 0, 0, 0)), (76, .getfield 98, (11, 14, 0, 0, 0)), (79, .iconst 1, (0, 0, 0, 0, 0)), (80, .iaload, (0, 0, 0, 0, 0)), (81, .if_icmp .ge 23, (0, 0, 0, 0, 0)), (104, .iload_n 2, (0, 0, 0, 0, 0)), (105, .ireturn, (0, 0, 0, 0, 0)), (106, .aload_n 0, (0, 0, 0, 0, 0)), (107, .getfield 98, (11, 14, 0, 0, 0)), (110, .bipush 93, (0, 0, 0, 0, 0)), (112, .iaload, (0, 0, 0, 0, 0)), (113, .ireturn, (0, 0, 0, 0, 0)), (114, .aload_n 0, (0, 0, 0, 0, 0)), (115, .bipush 94, (0, 0, 0, 0, 0)), (117, .bipush 64, (0, 0, 0, 0, 0)), (119, .invokevirtual 260, (161, 2, 0, 0, 11)), (122, .ireturn, (0, 0, 0, 0, 0)), (123, .iconst (-1), (0, 0, 0, 0, 0)), (124, .ireturn, (0, 0, 0, 0, 0))]
def kP137 : List KEnt := [(0, .aload_n 0, (0, 0, 0, 0, 0)), (1, .iconst 0, (0, 0, 0, 0, 0)), (2, .putfield 1, (11, 0, 0, 0, 0)), (5, .aload_n 0, (0, 0, 0, 0, 0)), (6, .iload_n 1, (0, 0, 0, 0, 0)), (7, .invokevirtual 251, (124, 1, 0, 0, 11)), (10, .ifCond .eq 13, (0, 0, 0, 0, 0)), (23, .iconst (-1), (0, 0, 0, 0, 0)), (24, .ireturn, (0, 0, 0, 0, 0))]
def kP138 : List KEnt := [(0, .aload_n 0, (0, 0, 0, 0, 0)), (1, .sipush 900, (0, 0, 0, 0, 0)), (4, .invokevirtual 216, (103, 1, 0, 0, 11)), (7, .iconst 0, (0, 0, 0, 0, 0)), (8, .istore_n 1, (0, 0, 0, 0, 0)), (9, .iload_n 1, (0, 0, 0, 0, 0)), (10, .bipush 92, (0, 0, 0, 0, 0)), (12, .if_icmp .ge 16, (0, 0, 0, 0, 0)), (15, .aload_n 0, (0, 0, 0, 0, 0)), (16, .getfield 101, (11, 15, 0, 0, 0)), (19, .iload_n 1, (0, 0, 0, 0, 0)), (20, .iconst 0, (0, 0, 0, 0, 0)), (21, .iastore, (0, 0, 0, 0, 0)), (22, .iinc 1 1, (0, 0, 0, 0, 0)), (25, .goto (-16), (0, 0, 0, 0, 0)), (28, .aload_n 0, (0, 0, 0, 0, 0)), (29, .iconst 0, (0, 0, 0, 0, 0)), (30, .putfield 197, (11, 24, 0, 0, 0)), (33, .iconst 0, (0, 0, 0, 0, 0)), (34, .istore_n 1, (0, 0, 0, 0, 0)), (35, .aload_n 0, (0, 0, 0, 0, 0)), (36, .getfield 30, (11, 7, 0, 0, 0)), (39, .ifCond .eq 30, (0, 0, 0, 0, 0)), (69, .iconst 0, (0, 0, 0, 0, 0)), (70, .istore_n 2, (0, 0, 0, 0, 0)), (71, .iload_n 2, (0, 0, 0, 0, 0)), (72, .bipush 92, (0, 0, 0, 0, 0)), (74, .if_icmp .ge 21, (0, 0, 0, 0, 0)), (77, .aload_n 0, (0, 0, 0, 0, 0)), (78, .getfield 98, (11, 14, 0, 0, 0)), (81, .iload_n 2, (0, 0, 0, 0, 0)), (82, .aload_n 0, (0, 0, 0, 0, 0)), (83, .getfield 101, (11, 15, 0, 0, 0)), (86, .iload_n 2, (0, 0, 0, 0, 0)), (87, .iaload, (0, 0, 0, 0, 0)), (88, .iastore, (0, 0, 0, 0, 0)), (89, .iinc 2 1, (0, 0, 0, 0, 0)), (92, .goto (-21), (0, 0, 0, 0, 0)), (95, .iconst 0, (0, 0, 0, 0, 0)), (96, .istore_n 2, (0, 0, 0, 0, 0)), (97, .iload_n 2, (0, 0, 0, 0, 0)), (98, .bipush 16, (0, 0, 0, 0, 0)), (100, .if_icmp .ge 21, (0, 0, 0, 0, 0)), (103, .aload_n 0, (0, 0, 0, 0, 0)), (104, .getfield 113, (11, 19, 0, 0, 0)), (107, .iload_n 2, (0, 0, 0, 0, 0)), (108, .aload_n 0, (0, 0, 0, 0, 0)), (109, .getfield 117, (11, 20, 0, 0, 0)), (112, .iload_n 2, (0, 0, 0, 0, 0)), (113, .laload, (0, 0, 0, 0, 0)), (114, .lastore, (0, 0, 0, 0, 0)), (115, .iinc 2 1, (0, 0, 0, 0, 0)), (118, .goto (-21), (0, 0, 0, 0, 0)), (121, .aload_n 0, (0, 0, 0, 0, 0)), (122, .invokevirtual 157, (159, 0, 0, 0, 11)), (125, .aload_n 0, (0, 0, 0, 0, 0)), (126, .iconst 0, (0, 0, 0, 0, 0)), (127, .putfield 225, (11, 23, 0, 0, 0)), (130, .iload_n 1, (0, 0, 0, 0, 0)), (131, .ireturn, (0, 0, 0, 0, 0))]
def kP139 : List KEnt := [(0, .iconst 0, (0, 0, 0, 0, 0)), (1, .istore_n 1, (0, 0, 0, 0, 0)), (2, .iload_n 1, (0, 0, 0, 0, 0)), (3, .aload_n 0, (0, 0, 0, 0, 0)), (4, .getfield 98, (11, 14, 0, 0, 0)), (7, .iconst 1, (0, 0, 0, 0, 0)), (8, .iaload, (0, 0, 0, 0, 0)), (9, .if_icmp .ge 109, (0, 0, 0, 0, 0)), (118, .iconst 0, (0, 0, 0, 0, 0)), (119, .istore_n 1, (0, 0, 0, 0, 0)), (120, .iload_n 1, (0, 0, 0, 0, 0)), (121, .bipush 8, (0, 0, 0, 0, 0)), (123, .if_icmp .ge 20, (0, 0, 0, 0, 0)), (126, .aload_n 0, (0, 0, 0, 0, 0)), (127, .getfield 98, (11, 14, 0, 0, 0)), (130, .sipush 198, (0, 0, 0, 0, 0)), (133, .iload_n 1, (0, 0, 0, 0, 0)), (134, .iadd, (0, 0, 0, 0, 0)), (135, .iconst (-1), (0, 0, 0, 0, 0)), (136, .iastore, (0, 0, 0, 0, 0)), (137, .iinc 1 1, (0, 0, 0, 0, 0)), (140, .goto (-20), (0, 0, 0, 0, 0)), (143, .aload_n 0, (0, 0, 0, 0, 0)), (144, .getfield 98, (11, 14, 0, 0, 0)), (147, .bipush 92, (0, 0, 0, 0, 0)), (149, .dup2, (0, 0, 0, 0, 0)), (150, .iaload, (0, 0, 0, 0, 0)), (151, .iconst 1, (0, 0, 0, 0, 0)), (152, .iadd, (0, 0, 0, 0, 0)), (153, .iastore, (0, 0, 0, 0, 0)), (154, .return_, (0, 0, 0, 0, 0))]
def kP140 : List KEnt := [(0, .iconst 0, (0, 0, 0, 0, 0)), (1, .istore_n 2, (0, 0, 0, 0, 0)), (2, .iload_n 2, (0, 0, 0, 0, 0)), (3, .iconst 3, (0, 0, 0, 0, 0)), (4, .if_icmp .ge 24, (0, 0, 0, 0, 0)), (7, .aload_n 0, (0, 0, 0, 0, 0)), (8, .getfield 98, (11, 14, 0, 0, 0)), (11, .sipush 158, (0, 0, 0, 0, 0)), (14, .iconst 3, (0, 0, 0, 0, 0)), (15, .iload_n 1, (0, 0, 0, 0, 0)), (16, .imul, (0, 0, 0, 0, 0)), (17, .iadd, (0, 0, 0, 0, 0)), (18, .iload_n 2, (0, 0, 0, 0, 0)), (19, .iadd, (0, 0, 0, 0, 0)), (20, .iconst (-1), (0, 0, 0, 0, 0)), (21, .iastore, (0, 0, 0, 0, 0)), (22, .iinc 2 1, (0, 0, 0, 0, 0)), (25, .goto (-23), (0, 0, 0, 0, 0)), (28, .aload_n 0, (0, 0, 0, 0, 0)), (29, .getfield 98, (11, 14, 0, 0, 0)), (32, .sipush 182, (0, 0, 0, 0, 0)), (35, .iload_n 1, (0, 0, 0, 0, 0)), (36, .iadd, (0, 0, 0, 0, 0)), (37, .iconst 0, (0, 0, 0, 0, 0)), (38, .iastore, (0, 0, 0, 0, 0)), (39, .aload_n 0, (0, 0, 0, 0, 0)), (40, .getfield 98, (11, 14, 0, 0, 0)), (43, .sipush 190, (0, 0, 0, 0, 0)), (46, .iload_n 1, (0, 0, 0, 0, 0)), (47, .iadd, (0, 0, 0, 0, 0)), (48, .aload_n 0, (0, 0, 0, 0, 0)), (49, .getfield 98, (11, 14, 0, 0, 0)), (52, .bipush 84, (0, 0, 0, 0, 0)), (54, .iload_n 1, (0, 0, 0, 0, 0)), (55, .iadd, (0, 0, 0, 0, 0)), (56, .iaload, (0, 0, 0, 0, 0)), (57, .iastore, (0, 0, 0, 0, 0)), (58, .return_, (0, 0, 0, 0, 0))]
def kP141 : List KEnt := [(0, .aload_n 0, (0, 0, 0, 0, 0)), (1, .iconst 0, (0, 0, 0, 0, 0)), (2, .putfield 1, (11, 0, 0, 0, 0)), (5, .aload_n 0, (0, 0, 0, 0, 0)), (6, .iload_n 1, (0, 0, 0, 0, 0)), (7, .invokevirtual 257, (126, 1, 0, 0, 11)), (10, .ifCond .eq 20, (0, 0, 0, 0, 0)), (30, .iconst (-1), (0, 0, 0, 0, 0)), (31, .ireturn, (0, 0, 0, 0, 0))]
def kP142 : List KEnt := [(0, .iload_n 1, (0, 0, 0, 0, 0)), (1, .sipush 400, (0, 0, 0, 0, 0)), (4, .aload_n 0, (0, 0, 0, 0, 0)), (5, .getfield 98, (11, 14, 0, 0, 0)), (8, .bipush 92, (0, 0, 0, 0, 0)), (10, .iaload, (0, 0, 0, 0, 0)), (11, .isub, (0, 0, 0, 0, 0)), (12, .invokestatic 290, (130, 2, 0, 0, 11)), (15, .istore_n 2, (0, 0, 0, 0, 0)), (16, .iconst 0, (0, 0, 0, 0, 0)), (17, .istore_n 3, (0, 0, 0, 0, 0)), (18, .iload_n 3, (0, 0, 0, 0, 0)), (19, .iload_n 2, (0, 0, 0, 0, 0)), (20, .if_icmp .ge 13, (0, 0, 0, 0, 0)), (23, .aload_n 0, (0, 0, 0, 0, 0)), (24, .invokevirtual 293, (139, 0, 0, 0, 11)), (27, .iinc 3 1, (0, 0, 0, 0, 0)), (30, .goto (-12), (0, 0, 0, 0, 0)), (33, .iload_n 2, (0, 0, 0, 0, 0)), (34, .ireturn, (0, 0, 0, 0, 0))]
def kP143 : List KEnt := [(0, .aload_n 0, (0, 0, 0, 0, 0)), (1, .iconst 0, (0, 0, 0, 0, 0)), (2, .putfield 1, (11, 0, 0, 0, 0)), (5, .aload_n 0, (0, 0, 0, 0, 0)), (6, .iload_n 1, (0, 0, 0, 0, 0)), (7, .invokevirtual 257, (126, 1, 0, 0, 11)), (10, .ifCond .ne 8, (0, 0, 0, 0, 0)), (13, .aload_n 0, (0, 0, 0, 0, 0)), (14, .invokevirtual 254, (147, 0, 0, 0, 11)), (17, .ireturn, (0, 0, 0, 0, 0))]
def kP144 : List KEnt := [(0, .aload_n 0, (0, 0, 0, 0, 0)), (1, .invokevirtual 416, (146, 0, 0, 0, 11)), (4, .ifCond .ne 5, (0, 0, 0, 0, 0)), (7, .iconst 0, (0, 0, 0, 0, 0)), (8, .ireturn, (0, 0, 0, 0, 0))]
def kP145 : List KEnt := [(0, .aload_n 0, (0, 0, 0, 0, 0)), (1, .invokevirtual 406, (144, 0, 0, 0, 11)), (4, .ifCond .ne 5, (0, 0, 0, 0, 0)), (7, .iconst 0, (0, 0, 0, 0, 0)), (8, .ireturn, (0, 0, 0, 0, 0))]
def kP146 : List KEnt := [(0, .aload_n 0, (0, 0, 0, 0, 0)), (1, .bipush 40, (0, 0, 0, 0, 0)), (3, .invokevirtual 86, (127, 1, 0, 0, 11)), (6, .istore_n 1, (0, 0, 0, 0, 0)), (7, .bipush 18, (0, 0, 0, 0, 0)), (9, .istore_n 2, (0, 0, 0, 0, 0)), (10, .iload_n 2, (0, 0, 0, 0, 0)), (11, .bipush 29, (0, 0, 0, 0, 0)), (13, .if_icmp .gt 17, (0, 0, 0, 0, 0)), (16, .aload_n 0, (0, 0, 0, 0, 0)), (17, .iload_n 2, (0, 0, 0, 0, 0)), (18, .invokevirtual 178, (128, 1, 0, 0, 11)), (21, .ifCond .ne 9, (0, 0, 0, 0, 0)), (24, .iinc 2 1, (0, 0, 0, 0, 0)), (27, .goto (-17), (0, 0, 0, 0, 0)), (30, .iload_n 1, (0, 0, 0, 0, 0)), (31, .ifCond .ne 15, (0, 0, 0, 0, 0)), (34, .iload_n 2, (0, 0, 0, 0, 0)), (35, .bipush 29, (0, 0, 0, 0, 0)), (37, .if_icmp .le 9, (0, 0, 0, 0, 0)), (40, .aload_n 0, (0, 0, 0, 0, 0)), (41, .iconst 1, (0, 0, 0, 0, 0)), (42, .invokevirtual 72, (102, 1, 0, 0, 11)), (45, .ireturn, (0, 0, 0, 0, 0))]
def kP147 : List KEnt := [(0, .aload_n 0, (0, 0, 0, 0, 0)), (1, .iconst 1, (0, 0, 0, 0, 0)), (2, .putfield 1, (11, 0, 0, 0, 0)), (5, .iconst 0, (0, 0, 0, 0, 0)), (6, .ireturn, (0, 0, 0, 0, 0))]
def kP148 : List KEnt := [(0, .aload_n 0, (0, 0, 0, 0, 0)), (1, .iconst 0, (0, 0, 0, 0, 0)), (2, .putfield 1, (11, 0, 0, 0, 0)), (5, .aload_n 0, (0, 0, 0, 0, 0)), (6, .iconst 2, (0, 0, 0, 0, 0)), (7, .iload_n 1, (0, 0, 0, 0, 0)), (8, .iload_n 2, (0, 0, 0, 0, 0)), (9, .aload_n 0, (0, 0, 0, 0, 0)), (10, .iload_n 1, (0, 0, 0, 0, 0)), (11, .invokevirtual 257, (126, 1, 0, 0, 11)), (14, .ifCond .eq 15, (0, 0, 0, 0, 0)), (29, .iconst 0, (0, 0, 0, 0, 0)), (30, .invokevirtual 286, (99, 4, 0, 0, 11)), (33, .ireturn, (0, 0, 0, 0, 0))]
def kP149 : List KEnt := [(0, .aload_n 0, (0, 0, 0, 0, 0)), (1, .iconst 0, (0, 0, 0, 0, 0)), (2, .putfield 1, (11, 0, 0, 0, 0)), (5, .iload_n 1, (0, 0, 0, 0, 0)), (6, .iconst 0, (0, 0, 0, 0, 0)), (7, .iconst 1, (0, 0, 0, 0, 0)), (8, .invokestatic 75, (125, 3, 0, 0, 11)), (11, .ifCond .eq 12, (0, 0, 0, 0, 0)), (14, .aload_n 0, (0, 0, 0, 0, 0)), (15, .getfield 123, (11, 22, 0, 0, 0)), (18, .iload_n 1, (0, 0, 0, 0, 0)), (19, .baload, (0, 0, 0, 0, 0)), (20, .ifCond .ne 5, (0, 0, 0, 0, 0)), (23, .iconst 0, (0, 0, 0, 0, 0)), (24, .ireturn, (0, 0, 0, 0, 0))]
def kP150 : List KEnt := [(0, .aload_n 0, (0, 0, 0, 0, 0)), (1, .iconst 0, (0, 0, 0, 0, 0)), (2, .putfield 1, (11, 0, 0, 0, 0)), (5, .aload_n 0, (0, 0, 0, 0, 0)), (6, .iconst 3, (0, 0, 0, 0, 0)), (7, .iload_n 1, (0, 0, 0, 0, 0)), (8, .iconst 0, (0, 0, 0, 0, 0)), (9, .aload_n 0, (0, 0, 0, 0, 0)), (10, .iload_n 1, (0, 0, 0, 0, 0)), (11, .invokevirtual 257, (126, 1, 0, 0, 11)), (14, .invokevirtual 286, (99, 4, 0, 0, 11)), (17, .ireturn, (0, 0, 0, 0, 0))]
def kP151 : List KEnt := [(0, .aload_n 0, (0, 0, 0, 0, 0)), (1, .iconst 0, (0, 0, 0, 0, 0)), (2, .putfield 1, (11, 0, 0, 0, 0)), (5, .aload_n 0, (0, 0, 0, 0, 0)), (6, .getfield 98, (11, 14, 0, 0, 0)), (9, .sipush 214, (0, 0, 0, 0, 0)), (12, .iaload, (0, 0, 0, 0, 0)), (13, .ifCond .ne 5, (0, 0, 0, 0, 0)), (16, .iconst (-1), (0, 0, 0, 0, 0)), (17, .ireturn, (0, 0, 0, 0, 0))]
def kP152 : List KEnt := [(0, .aload_n 0, (0, 0, 0, 0, 0)), (1, .sipush 200, (0, 0, 0, 0, 0)), (4, .invokevirtual 216, (103, 1, 0, 0, 11)), (7, .aload_n 0, (0, 0, 0, 0, 0)), (8, .iconst 0, (0, 0, 0, 0, 0)), (9, .putfield 403, (11, 41, 0, 0, 0)), (12, .aload_n 0, (0, 0, 0, 0, 0)), (13, .iconst 0, (0, 0, 0, 0, 0)), (14, .putfield 419, (11, 42, 0, 0, 0)), (17, .aload_n 0, (0, 0, 0, 0, 0)), (18, .iconst 0, (0, 0, 0, 0, 0)), (19, .putfield 422, (11, 43, 0, 0, 0)), (22, .aload_n 0, (0, 0, 0, 0, 0)), (23, .invokevirtual 437, (145, 0, 0, 0, 11)), (26, .ifCond .ne 10, (0, 0, 0, 0, 0)), (29, .iconst (-1), (0, 0, 0, 0, 0)), (30, .aload_n 0, (0, 0, 0, 0, 0)), (31, .getfield 69, (11, 11, 0, 0, 0)), (34, .isub, (0, 0, 0, 0, 0)), (35, .ireturn, (0, 0, 0, 0, 0))]
def kP153 : List KEnt := [(0, .aload_n 0, (0, 0, 0, 0, 0)), (1, .iconst 0, (0, 0, 0, 0, 0)), (2, .putfield 1, (11, 0, 0, 0, 0)), (5, .iload_n 1, (0, 0, 0, 0, 0)), (6, .ifCond .ne 17, (0, 0, 0, 0, 0)), (9, .aload_n 0, (0, 0, 0, 0, 0)), (10, .aload_n 0, (0, 0, 0, 0, 0)), (11, .getfield 98, (11, 14, 0, 0, 0)), (14, .bipush 93, (0, 0, 0, 0, 0)), (16, .iaload, (0, 0, 0, 0, 0)), (17, .invokevirtual 334, (154, 1, 0, 0, 11)), (20, .goto 26, (0, 0, 0, 0, 0)), (23, .iload_n 1, (0, 0, 0, 0, 0)), (24, .iconst 1, (0, 0, 0, 0, 0)), (25, .if_icmp .ne 20, (0, 0, 0, 0, 0)), (28, .aload_n 0, (0, 0, 0, 0, 0)), (29, .iconst 1, (0, 0, 0, 0, 0)), (30, .aload_n 0, (0, 0, 0, 0, 0)), (31, .getfield 98, (11, 14, 0, 0, 0)), (34, .iconst 0, (0, 0, 0, 0, 0)), (35, .iaload, (0, 0, 0, 0, 0)), (36, .ishl, (0, 0, 0, 0, 0)), (37, .iconst 1, (0, 0, 0, 0, 0)), (38, .isub, (0, 0, 0, 0, 0)), (39, .invokevirtual 334, (154, 1, 0, 0, 11)), (42, .goto 4, (0, 0, 0, 0, 0)), (45, .iconst (-1), (0, 0, 0, 0, 0)), (46, .ireturn, (0, 0, 0, 0, 0))]
def kP154 : List KEnt := [(0, .iconst 0, (0, 0, 0, 0, 0)), (1, .istore_n 2, (0, 0, 0, 0, 0)), (2, .iconst 0, (0, 0, 0, 0, 0)), (3, .istore_n 3, (0, 0, 0, 0, 0)), (4, .iload_n 3, (0, 0, 0, 0, 0)), (5, .aload_n 0, (0, 0, 0, 0, 0)), (6, .getfield 98, (11, 14, 0, 0, 0)), (9, .iconst 1, (0, 0, 0, 0, 0)), (10, .iaload, (0, 0, 0, 0, 0)), (11, .if_icmp .ge 29, (0, 0, 0, 0, 0)), (40, .iload_n 2, (0, 0, 0, 0, 0)), (41, .ireturn, (0, 0, 0, 0, 0))]
def kP155 : List KEnt := [(0, .aload_n 0, (0, 0, 0, 0, 0)), (1, .iconst 0, (0, 0, 0, 0, 0)), (2, .putfield 1, (11, 0, 0, 0, 0)), (5, .aload_n 0, (0, 0, 0, 0, 0)), (6, .iconst 0, (0, 0, 0, 0, 0)), (7, .iload_n 1, (0, 0, 0, 0, 0)), (8, .iload_n 2, (0, 0, 0, 0, 0)), (9, .aload_n 0, (0, 0, 0, 0, 0)), (10, .iload_n 1, (0, 0, 0, 0, 0)), (11, .invokevirtual 257, (126, 1, 0, 0, 11)), (14, .ifCond .eq 15, (0, 0, 0, 0, 0)), (29, .iconst 0, (0, 0, 0, 0, 0)), (30, .invokevirtual 286, (99, 4, 0, 0, 11)), (33, .ireturn, (0, 0, 0, 0, 0))]
def kP156 : List KEnt := [(0, .aload_n 0, (0, 0, 0, 0, 0)), (1, .getfield 225, (11, 23, 0, 0, 0)), (4, .bipush 8, (0, 0, 0, 0, 0)), (6, .if_icmp .ne 43, (0, 0, 0, 0, 0)), (49, .iconst 0, (0, 0, 0, 0, 0)), (50, .istore_n 1, (0, 0, 0, 0, 0)), (51, .iload_n 1, (0, 0, 0, 0, 0)), (52, .bipush 122, (0, 0, 0, 0, 0)), (54, .if_icmp .ge 32, (0, 0, 0, 0, 0)), (57, .aload_n 0, (0, 0, 0, 0, 0)), (58, .getfield 107, (11, 17, 0, 0, 0)), (61, .bipush 122, (0, 0, 0, 0, 0)), (63, .aload_n 0, (0, 0, 0, 0, 0)), (64, .getfield 225, (11, 23, 0, 0, 0)), (67, .imul, (0, 0, 0, 0, 0)), (68, .iload_n 1, (0, 0, 0, 0, 0)), (69, .iadd, (0, 0, 0, 0, 0)), (70, .aload_n 0, (0, 0, 0, 0, 0)), (71, .getfield 98, (11, 14, 0, 0, 0)), (74, .bipush 92, (0, 0, 0, 0, 0)), (76, .iload_n 1, (0, 0, 0, 0, 0)), (77, .iadd, (0, 0, 0, 0, 0)), (78, .iaload, (0, 0, 0, 0, 0)), (79, .iastore, (0, 0, 0, 0, 0)), (80, .iinc 1 1, (0, 0, 0, 0, 0)), (83, .goto (-32), (0, 0, 0, 0, 0)), (86, .aload_n 0, (0, 0, 0, 0, 0)), (87, .dup, (0, 0, 0, 0, 0)), (88, .getfield 225, (11, 23, 0, 0, 0)), (91, .iconst 1, (0, 0, 0, 0, 0)), (92, .iadd, (0, 0, 0, 0, 0)), (93, .putfield 225, (11, 23, 0, 0, 0)), (96, .return_, (0, 0, 0, 0, 0))]
def kP157 : List KEnt := [(0, .aload_n 0, (0, 0, 0, 0, 0)), (1, .iconst 0, (0, 0, 0, 0, 0)), (2, .putfield 1, (11, 0, 0, 0, 0)), (5, .aload_n 0, (0, 0, 0, 0, 0)), (6, .iconst 1, (0, 0, 0, 0, 0)), (7, .iload_n 1, (0, 0, 0, 0, 0)), (8, .iload_n 2, (0, 0, 0, 0, 0)), (9, .aload_n 0, (0, 0, 0, 0, 0)), (10, .iload_n 1, (0, 0, 0, 0, 0)), (11, .invokevirtual 257, (126, 1, 0, 0, 11)), (14, .ifCond .eq 15, (0, 0, 0, 0, 0)), (29, .iconst 0, (0, 0, 0, 0, 0)), (30, .invokevirtual 286, (99, 4, 0, 0, 11)), (33, .ireturn, (0, 0, 0, 0, 0))]
def kP158 : List KEnt := [(0, .aload_n 0, (0, 0, 0, 0, 0)), (1, .iconst 0, (0, 0, 0, 0, 0)), (2, .putfield 1, (11, 0, 0, 0, 0)), (5, .aload_n 0, (0, 0, 0, 0, 0)), (6, .iload_n 1, (0, 0, 0, 0, 0)), (7, .invokevirtual 251, (124, 1, 0, 0, 11)), (10, .ifCond .ne 5, (0, 0, 0, 0, 0)), (13, .iconst (-1), (0, 0, 0, 0, 0)), (14, .ireturn, (0, 0, 0, 0, 0))]
def kP159 : List KEnt := [(0, .bipush 92, (0, 0, 0, 0, 0)), (2, .istore_n 1, (0, 0, 0, 0, 0)), (3, .iload_n 1, (0, 0, 0, 0, 0)), (4, .sipush 456, (0, 0, 0, 0, 0)), (7, .if_icmp .ge 16, (0, 0, 0, 0, 0)), (10, .aload_n 0, (0, 0, 0, 0, 0)), (11, .getfield 98, (11, 14, 0, 0, 0)), (14, .iload_n 1, (0, 0, 0, 0, 0)), (15, .iconst 0, (0, 0, 0, 0, 0)), (16, .iastore, (0, 0, 0, 0, 0)), (17, .iinc 1 1, (0, 0, 0, 0, 0)), (20, .goto (-17), (0, 0, 0, 0, 0)), (23, .aload_n 0, (0, 0, 0, 0, 0)), (24, .getfield 98, (11, 14, 0, 0, 0)), (27, .bipush 93, (0, 0, 0, 0, 0)), (29, .aload_n 0, (0, 0, 0, 0, 0)), (30, .getfield 98, (11, 14, 0, 0, 0)), (33, .iconst 3, (0, 0, 0, 0, 0)), (34, .iaload, (0, 0, 0, 0, 0)), (35, .iastore, (0, 0, 0, 0, 0)), (36, .iconst 0, (0, 0, 0, 0, 0)), (37, .istore_n 1, (0, 0, 0, 0, 0)), (38, .iload_n 1, (0, 0, 0, 0, 0)), (39, .bipush 64, (0, 0, 0, 0, 0)), (41, .if_icmp .ge 27, (0, 0, 0, 0, 0)), (44, .aload_n 0, (0, 0, 0, 0, 0)), (45, .getfield 98, (11, 14, 0, 0, 0)), (48, .bipush 94, (0, 0, 0, 0, 0)), (50, .iload_n 1, (0, 0, 0, 0, 0)), (51, .iadd, (0, 0, 0, 0, 0)), (52, .aload_n 0, (0, 0, 0, 0, 0)), (53, .getfield 98, (11, 14, 0, 0, 0)), (56, .bipush 12, (0, 0, 0, 0, 0)), (58, .iload_n 1, (0, 0, 0, 0, 0)), (59, .iadd, (0, 0, 0, 0, 0)), (60, .iaload, (0, 0, 0, 0, 0)), (61, .iastore, (0, 0, 0, 0, 0)), (62, .iinc 1 1, (0, 0, 0, 0, 0)), (65, .goto (-27), (0, 0, 0, 0, 0)), (68, .iconst 0, (0, 0, 0, 0, 0)), (69, .istore_n 1, (0, 0, 0, 0, 0)), (70, .iload_n 1, (0, 0, 0, 0, 0)), (71, .bipush 8, (0, 0, 0, 0, 0)), (73, .if_icmp .ge 14, (0, 0, 0, 0, 0)), (76, .aload_n 0, (0, 0, 0, 0, 0)), (77, .iload_n 1, (0, 0, 0, 0, 0)), (78, .invokevirtual 160, (140, 1, 0, 0, 11)), (81, .iinc 1 1, (0, 0, 0, 0, 0)), (84, .goto (-14), (0, 0, 0, 0, 0)), (87, .iconst 0, (0, 0, 0, 0, 0)), (88, .istore_n 1, (0, 0, 0, 0, 0)), (89, .iload_n 1, (0, 0, 0, 0, 0)), (90, .bipush 8, (0, 0, 0, 0, 0)), (92, .if_icmp .ge 20, (0, 0, 0, 0, 0)), (95, .aload_n 0, (0, 0, 0, 0, 0)), (96, .getfield 98, (11, 14, 0, 0, 0)), (99, .sipush 198, (0, 0, 0, 0, 0)), (102, .iload_n 1, (0, 0, 0, 0, 0)), (103, .iadd, (0, 0, 0, 0, 0)), (104, .iconst (-1), (0, 0, 0, 0, 0)), (105, .iastore, (0, 0, 0, 0, 0)), (106, .iinc 1 1, (0, 0, 0, 0, 0)), (109, .goto (-20), (0, 0, 0, 0, 0)), (112, .return_, (0, 0, 0, 0, 0))]
def kP160 : List KEnt := [(0, .iconst 0, (0, 0, 0, 0, 0)), (1, .istore_n 2, (0, 0, 0, 0, 0)), (2, .iload_n 2, (0, 0, 0, 0, 0)), (3, .bipush 122, (0, 0, 0, 0, 0)), (5, .if_icmp .ge 41, (0, 0, 0, 0, 0)), (8, .aload_n 0, (0, 0, 0, 0, 0)), (9, .getfield 98, (11, 14, 0, 0, 0)), (12, .bipush 92, (0, 0, 0, 0, 0)), (14, .iload_n 2, (0, 0, 0, 0, 0)), (15, .iadd, (0, 0, 0, 0, 0)), (16, .iaload, (0, 0, 0, 0, 0)), (17, .istore_n 3, (0, 0, 0, 0, 0)), (18, .aload_n 0, (0, 0, 0, 0, 0)), (19, .getfield 98, (11, 14, 0, 0, 0)), (22, .bipush 92, (0, 0, 0, 0, 0)), (24, .iload_n 2, (0, 0, 0, 0, 0)), (25, .iadd, (0, 0, 0, 0, 0)), (26, .aload_n 0, (0, 0, 0, 0, 0)), (27, .getfield 110, (11, 18, 0, 0, 0)), (30, .iload_n 2, (0, 0, 0, 0, 0)), (31, .iaload, (0, 0, 0, 0, 0)), (32, .iastore, (0, 0, 0, 0, 0)), (33, .aload_n 0, (0, 0, 0, 0, 0)), (34, .getfield 110, (11, 18, 0, 0, 0)), (37, .iload_n 2, (0, 0, 0, 0, 0)), (38, .iload_n 3, (0, 0, 0, 0, 0)), (39, .iastore, (0, 0, 0, 0, 0)), (40, .iinc 2 1, (0, 0, 0, 0, 0)), (43, .goto (-41), (0, 0, 0, 0, 0)), (46, .iload_n 1, (0, 0, 0, 0, 0)), (47, .ifCond .ne 4, (0, 0, 0, 0, 0)), (50, .return_, (0, 0, 0, 0, 0))]
def kP161 : List KEnt := [(0, .iconst 0, (0, 0, 0, 0, 0)), (1, .istore_n 3, (0, 0, 0, 0, 0)), (2, .iconst 0, (0, 0, 0, 0, 0)), (3, .istore 4, (0, 0, 0, 0, 0)), (5, .iload 4, (0, 0, 0, 0, 0)), (7, .iload_n 2, (0, 0, 0, 0, 0)), (8, .if_icmp .ge 21, (0, 0, 0, 0, 0)), (11, .iload_n 3, (0, 0, 0, 0, 0)), (12, .aload_n 0, (0, 0, 0, 0, 0)), (13, .getfield 98, (11, 14, 0, 0, 0)), (16, .iload_n 1, (0, 0, 0, 0, 0)), (17, .iload 4, (0, 0, 0, 0, 0)), (19, .iadd, (0, 0, 0, 0, 0)), (20, .iaload, (0, 0, 0, 0, 0)), (21, .iadd, (0, 0, 0, 0, 0)), (22, .istore_n 3, (0, 0, 0, 0, 0)), (23, .iinc 4 1, (0, 0, 0, 0, 0)), (26, .goto (-21), (0, 0, 0, 0, 0)), (29, .iload_n 3, (0, 0, 0, 0, 0)), (30, .ireturn, (0, 0, 0, 0, 0))]
def kP162 : List KEnt := [(0, .aload_n 0, (0, 0, 0, 0, 0)), (1, .getfield 11, (11, 2, 0, 0, 0)), (4, .istore_n 1, (0, 0, 0, 0, 0)), (5, .aload_n 0, (0, 0, 0, 0, 0)), (6, .iconst 0, (0, 0, 0, 0, 0)), (7, .putfield 11, (11, 2, 0, 0, 0)), (10, .iload_n 1, (0, 0, 0, 0, 0)), (11, .ireturn, (0, 0, 0, 0, 0))]
def kP163 : List KEnt := [(0, .iconst 0, (0, 0, 0, 0, 0)), (1, .istore_n 2, (0, 0, 0, 0, 0)), (2, .iconst 0, (0, 0, 0, 0, 0)), (3, .istore_n 3, (0, 0, 0, 0, 0)), (4, .iload_n 3, (0, 0, 0, 0, 0)), (5, .aload_n 0, (0, 0, 0, 0, 0)), (6, .getfield 98, (11, 14, 0, 0, 0)), (9, .iconst 1, (0, 0, 0, 0, 0)), (10, .iaload, (0, 0, 0, 0, 0)), (11, .if_icmp .ge 29, (0, 0, 0, 0, 0)), (40, .iload_n 2, (0, 0, 0, 0, 0)), (41, .ireturn, (0, 0, 0, 0, 0))]
def kP164 : List KEnt := [(0, .aload_n 0, (0, 0, 0, 0, 0)), (1, .iconst 0, (0, 0, 0, 0, 0)), (2, .putfield 1, (11, 0, 0, 0, 0)), (5, .aload_n 0, (0, 0, 0, 0, 0)), (6, .getfield 396, (11, 39, 0, 0, 0)), (9, .ifCond .eq 21, (0, 0, 0, 0, 0)), (30, .iconst (-1), (0, 0, 0, 0, 0)), (31, .ireturn, (0, 0, 0, 0, 0))]
def kP165 : List KEnt := [(0, .aload_n 0, (0, 0, 0, 0, 0)), (1, .iconst 0, (0, 0, 0, 0, 0)), (2, .putfield 1, (11, 0, 0, 0, 0)), (5, .aload_n 0, (0, 0, 0, 0, 0)), (6, .getfield 225, (11, 23, 0, 0, 0)), (9, .ifCond .ne 5, (0, 0, 0, 0, 0)), (12, .iconst (-1), (0, 0, 0, 0, 0)), (13, .ireturn, (0, 0, 0, 0, 0))]
def kP166 : List KEnt := [(0, .aload_n 0, (0, 0, 0, 0, 0)), (1, .iconst 0, (0, 0, 0, 0, 0)), (2, .putfield 1, (11, 0, 0, 0, 0)), (5, .aload_n 0, (0, 0, 0, 0, 0)), (6, .iload_n 1, (0, 0, 0, 0, 0)), (7, .invokevirtual 251, (124, 1, 0, 0, 11)), (10, .ifCond .eq 17, (0, 0, 0, 0, 0)), (27, .iconst (-1), (0, 0, 0, 0, 0)), (28, .ireturn, (0, 0, 0, 0, 0))]
def kP167 : List KEnt := [(0, .iload_n 0, (0, 0, 0, 0, 0)), (1, .iload_n 0, (0, 0, 0, 0, 0)), (2, .iconst 1, (0, 0, 0, 0, 0)), (3, .iushr, (0, 0, 0, 0, 0)), (4, .ldc_w 265, (1431655765, 0, 0, 0, 0)), (7, .iand, (0, 0, 0, 0, 0)), (8, .isub, (0, 0, 0, 0, 0)), (9, .istore_n 0, (0, 0, 0, 0, 0)), (10, .iload_n 0, (0, 0, 0, 0, 0)), (11, .ldc_w 266, (858993459, 0, 0, 0, 0)), (14, .iand, (0, 0, 0, 0, 0)), (15, .iload_n 0, (0, 0, 0, 0, 0)), (16, .iconst 2, (0, 0, 0, 0, 0)), (17, .iushr, (0, 0, 0, 0, 0)), (18, .ldc_w 266, (858993459, 0, 0, 0, 0)), (21, .iand, (0, 0, 0, 0, 0)), (22, .iadd, (0, 0, 0, 0, 0)), (23, .istore_n 0, (0, 0, 0, 0, 0)), (24, .iload_n 0, (0, 0, 0, 0, 0)), (25, .iload_n 0, (0, 0, 0, 0, 0)), (26, .iconst 4, (0, 0, 0, 0, 0)), (27, .iushr, (0, 0, 0, 0, 0)), (28, .iadd, (0, 0, 0, 0, 0)), (29, .ldc_w 267, (252645135, 0, 0, 0, 0)), (32, .iand, (0, 0, 0, 0, 0)), (33, .istore_n 0, (0, 0, 0, 0, 0)), (34, .iload_n 0, (0, 0, 0, 0, 0)), (35, .iload_n 0, (0, 0, 0, 0, 0)), (36, .bipush 8, (0, 0, 0, 0, 0)), (38, .iushr, (0, 0, 0, 0, 0)), (39, .iadd, (0, 0, 0, 0, 0)), (40, .istore_n 0, (0, 0, 0, 0, 0)), (41, .iload_n 0, (0, 0, 0, 0, 0)), (42, .iload_n 0, (0, 0, 0, 0, 0)), (43, .bipush 16, (0, 0, 0, 0, 0)), (45, .iushr, (0, 0, 0, 0, 0)), (46, .iadd, (0, 0, 0, 0, 0)), (47, .istore_n 0, (0, 0, 0, 0, 0)), (48, .iload_n 0, (0, 0, 0, 0, 0)), (49, .bipush 63, (0, 0, 0, 0, 0)), (51, .iand, (0, 0, 0, 0, 0)), (52, .ireturn, (0, 0, 0, 0, 0))]
def kP168 : List KEnt := [(0, .iconst 0, (0, 0, 0, 0, 0)), (1, .istore_n 2, (0, 0, 0, 0, 0)), (2, .aload_n 0, (0, 0, 0, 0, 0)), (3, .arraylength, (0, 0, 0, 0, 0)), (4, .istore_n 3, (0, 0, 0, 0, 0)), (5, .iload_n 2, (0, 0, 0, 0, 0)), (6, .iload_n 3, (0, 0, 0, 0, 0)), (7, .if_icmp .ge 13, (0, 0, 0, 0, 0)), (10, .aload_n 0, (0, 0, 0, 0, 0)), (11, .iload_n 2, (0, 0, 0, 0, 0)), (12, .iload_n 1, (0, 0, 0, 0, 0)), (13, .iastore, (0, 0, 0, 0, 0)), (14, .iinc 2 1, (0, 0, 0, 0, 0)), (17, .goto (-12), (0, 0, 0, 0, 0)), (20, .return_, (0, 0, 0, 0, 0))]
def kM0 : KMeth := (⟨"TriplicateForms", "<init>", "()V"⟩, prog_1_method_1_code, 2, none, 147, 3596, kP0)
def kM1 : KMeth := (⟨"TriplicateForms", "ask", "()I"⟩, prog_1_method_25_code, 1, some .int, 0, 0, kP1)
def kM2 : KMeth := (⟨"TriplicateForms", "attempt", "(III)I"⟩, prog_1_method_42_code, 5, some .int, 0, 0, kP2)
def kM3 : KMeth := (⟨"TriplicateForms", "back", "(I)I"⟩, prog_1_method_14_code, 2, some .int, 0, 0, kP3)
def kM4 : KMeth := (⟨"TriplicateForms", "book", "(I)I"⟩, prog_1_method_35_code, 3, some .int, 0, 0, kP4)
def kM5 : KMeth := (⟨"TriplicateForms", "byteAt", "(I)I"⟩, prog_1_method_32_code, 2, some .int, 0, 0, kP5)
def kM6 : KMeth := (⟨"TriplicateForms", "can", "(I)I"⟩, prog_1_method_20_code, 2, some .int, 0, 0, kP6)
def kM7 : KMeth := (⟨"TriplicateForms", "cancel", "(I)I"⟩, prog_1_method_15_code, 2, some .int, 0, 0, kP7)
def kM8 : KMeth := (⟨"TriplicateForms", "count", "(I)I"⟩, prog_1_method_41_code, 2, some .int, 0, 0, kP8)
def kM9 : KMeth := (⟨"TriplicateForms", "cover", "()I"⟩, prog_1_method_26_code, 1, some .int, 0, 0, kP9)
def kM10 : KMeth := (⟨"TriplicateForms", "covering", "()I"⟩, prog_1_method_27_code, 1, some .int, 0, 0, kP10)
def kM11 : KMeth := (⟨"TriplicateForms", "days", "(I)I"⟩, prog_1_method_17_code, 3, some .int, 0, 0, kP11)
def kM12 : KMeth := (⟨"TriplicateForms", "drawn", "(II)I"⟩, prog_1_method_33_code, 3, some .int, 0, 0, kP12)
def kM13 : KMeth := (⟨"TriplicateForms", "eased", "(II)I"⟩, prog_1_method_28_code, 3, some .int, 0, 0, kP13)
def kM14 : KMeth := (⟨"TriplicateForms", "end", "(I)Z"⟩, prog_1_method_3_code, 2, some .boolean, 0, 0, kP14)
def kM15 : KMeth := (⟨"TriplicateForms", "fault", "()I"⟩, prog_1_method_5_code, 1, some .int, 0, 0, kP15)
def kM16 : KMeth := (⟨"TriplicateForms", "feed", "(IIIII)I"⟩, prog_1_method_2_code, 6, some .int, 0, 0, kP16)
def kM17 : KMeth := (⟨"TriplicateForms", "fits", "()I"⟩, prog_1_method_24_code, 2, some .int, 0, 0, kP17)
def kM18 : KMeth := (⟨"TriplicateForms", "form", "(II)I"⟩, prog_1_method_6_code, 3, some .int, 0, 0, kP18)
def kM19 : KMeth := (⟨"TriplicateForms", "grudge", "(II)I"⟩, prog_1_method_8_code, 3, some .int, 0, 0, kP19)
def kM20 : KMeth := (⟨"TriplicateForms", "image", "(I)Z"⟩, prog_1_method_39_code, 2, some .boolean, 0, 0, kP20)
def kM21 : KMeth := (⟨"TriplicateForms", "lodge", "(I)I"⟩, prog_1_method_16_code, 2, some .int, 0, 0, kP21)
def kM22 : KMeth := (⟨"TriplicateForms", "martyr", "()I"⟩, prog_1_method_30_code, 5, some .int, 0, 0, kP22)
def kM23 : KMeth := (⟨"TriplicateForms", "match", "()I"⟩, prog_1_method_22_code, 1, some .int, 0, 0, kP23)
def kM24 : KMeth := (⟨"TriplicateForms", "matched", "(I)I"⟩, prog_1_method_23_code, 2, some .int, 0, 0, kP24)
def kM25 : KMeth := (⟨"TriplicateForms", "now", "(I)I"⟩, prog_1_method_9_code, 2, some .int, 0, 0, kP25)
def kM26 : KMeth := (⟨"TriplicateForms", "odds", "(III)I"⟩, prog_1_method_34_code, 6, some .int, 0, 0, kP26)
def kM27 : KMeth := (⟨"TriplicateForms", "office", "()I"⟩, prog_1_method_4_code, 2, some .int, 0, 0, kP27)
def kM28 : KMeth := (⟨"TriplicateForms", "part", "(II)I"⟩, prog_1_method_19_code, 3, some .int, 0, 0, kP28)
def kM29 : KMeth := (⟨"TriplicateForms", "person", "(II)I"⟩, prog_1_method_7_code, 3, some .int, 0, 0, kP29)
def kM30 : KMeth := (⟨"TriplicateForms", "resent", "(II)I"⟩, prog_1_method_12_code, 3, some .int, 0, 0, kP30)
def kM31 : KMeth := (⟨"TriplicateForms", "restore", "(I)Z"⟩, prog_1_method_40_code, 2, some .boolean, 0, 0, kP31)
def kM32 : KMeth := (⟨"TriplicateForms", "retire", "(I)I"⟩, prog_1_method_13_code, 2, some .int, 0, 0, kP32)
def kM33 : KMeth := (⟨"TriplicateForms", "said", "(I)I"⟩, prog_1_method_38_code, 5, some .int, 0, 0, kP33)
def kM34 : KMeth := (⟨"TriplicateForms", "sentence", "()I"⟩, prog_1_method_37_code, 2, some .int, 0, 0, kP34)
def kM35 : KMeth := (⟨"TriplicateForms", "served", "(I)I"⟩, prog_1_method_29_code, 5, some .int, 0, 0, kP35)
def kM36 : KMeth := (⟨"TriplicateForms", "sign", "(II)I"⟩, prog_1_method_10_code, 3, some .int, 0, 0, kP36)
def kM37 : KMeth := (⟨"TriplicateForms", "soften", "(II)I"⟩, prog_1_method_11_code, 3, some .int, 0, 0, kP37)
def kM38 : KMeth := (⟨"TriplicateForms", "stamp", "(I)I"⟩, prog_1_method_31_code, 2, some .int, 0, 0, kP38)
def kM39 : KMeth := (⟨"TriplicateForms", "told", "(I)I"⟩, prog_1_method_36_code, 2, some .int, 0, 0, kP39)
def kM40 : KMeth := (⟨"TriplicateForms", "undo", "()I"⟩, prog_1_method_18_code, 1, some .int, 0, 0, kP40)
def kM41 : KMeth := (⟨"TriplicateForms", "when", "(I)I"⟩, prog_1_method_21_code, 2, some .int, 0, 0, kP41)
def kM42 : KMeth := (⟨"TriplicateForms$Adviser", "<init>", "()V"⟩, prog_2_method_1_code, 1, none, 1, 8, kP42)
def kM43 : KMeth := (⟨"TriplicateForms$Adviser", "coversAll", "(II)Z"⟩, prog_2_method_7_code, 4, some .boolean, 0, 0, kP43)
def kM44 : KMeth := (⟨"TriplicateForms$Adviser", "fewestToCover", "(LTriplicateForms$Standing;)I"⟩, prog_2_method_5_code, 7, some .int, 0, 0, kP44)
def kM45 : KMeth := (⟨"TriplicateForms$Adviser", "formsThatFit", "(LTriplicateForms$Tape;LTriplicateForms$Standing;)I"⟩, prog_2_method_2_code, 6, some .int, 0, 0, kP45)
def kM46 : KMeth := (⟨"TriplicateForms$Adviser", "readThirds", "(LTriplicateForms$Standing;)I"⟩, prog_2_method_6_code, 4, some .int, 0, 0, kP46)
def kM47 : KMeth := (⟨"TriplicateForms$Book", "<init>", "()V"⟩, prog_3_method_1_code, 1, none, 3, 120, kP47)
def kM48 : KMeth := (⟨"TriplicateForms$Book", "goThrough", "(LTriplicateForms$Standing;)I"⟩, prog_3_method_3_code, 5, some .int, 0, 0, kP48)
def kM49 : KMeth := (⟨"TriplicateForms$Book", "latest", "(I)I"⟩, prog_3_method_2_code, 2, some .int, 0, 0, kP49)
def kM50 : KMeth := (⟨"TriplicateForms$Book", "readText", "(LTriplicateForms$Tape;LTriplicateForms$Roster;)V"⟩, prog_3_method_4_code, 5, none, 0, 0, kP50)
def kM51 : KMeth := (⟨"TriplicateForms$Image", "<init>", "(LTriplicateForms$Roster;)V"⟩, prog_4_method_1_code, 2, none, 18, 325, kP51)
def kM52 : KMeth := (⟨"TriplicateForms$Image", "keep", "(LTriplicateForms$Roster;LTriplicateForms$Standing;LTriplicateForms$Sentence;)V"⟩, prog_4_method_2_code, 4, none, 0, 0, kP52)
def kM53 : KMeth := (⟨"TriplicateForms$Matcher", "<init>", "()V"⟩, prog_5_method_1_code, 1, none, 3, 96, kP53)
def kM54 : KMeth := (⟨"TriplicateForms$Matcher", "assign", "(LTriplicateForms$Standing;)I"⟩, prog_5_method_3_code, 8, some .int, 0, 0, kP54)
def kM55 : KMeth := (⟨"TriplicateForms$Matcher", "formOf", "(I)I"⟩, prog_5_method_2_code, 2, some .int, 0, 0, kP55)
def kM56 : KMeth := (⟨"TriplicateForms$Matcher", "mostFrom", "(II)I"⟩, prog_5_method_7_code, 5, some .int, 0, 0, kP56)
def kM57 : KMeth := (⟨"TriplicateForms$Matcher", "readSlots", "(LTriplicateForms$Standing;)V"⟩, prog_5_method_4_code, 5, none, 0, 0, kP57)
def kM58 : KMeth := (⟨"TriplicateForms$Roster", "<init>", "()V"⟩, prog_6_method_1_code, 1, none, 5, 40, kP58)
def kM59 : KMeth := (⟨"TriplicateForms$Roster", "copyFrom", "(LTriplicateForms$Roster;)V"⟩, prog_6_method_2_code, 2, none, 0, 0, kP59)
def kM60 : KMeth := (⟨"TriplicateForms$Roster", "forget", "()V"⟩, prog_6_method_3_code, 2, none, 0, 0, kP60)
def kM61 : KMeth := (⟨"TriplicateForms$Roster", "hasForm", "(I)Z"⟩, prog_6_method_5_code, 2, some .boolean, 0, 0, kP61)
def kM62 : KMeth := (⟨"TriplicateForms$Roster", "hasPerson", "(I)Z"⟩, prog_6_method_4_code, 2, some .boolean, 0, 0, kP62)
def kM63 : KMeth := (⟨"TriplicateForms$Roster", "readText", "(LTriplicateForms$Tape;LTriplicateForms$Standing;)I"⟩, prog_6_method_14_code, 4, some .int, 0, 0, kP63)
def kM64 : KMeth := (⟨"TriplicateForms$Sentence", "<init>", "()V"⟩, prog_7_method_1_code, 1, none, 4, 140, kP64)
def kM65 : KMeth := (⟨"TriplicateForms$Sentence", "beginsOne", "(LTriplicateForms$Word;)Z"⟩, prog_7_method_9_code, 1, some .boolean, 0, 0, kP65)
def kM66 : KMeth := (⟨"TriplicateForms$Sentence", "copyFrom", "(LTriplicateForms$Sentence;)V"⟩, prog_7_method_4_code, 2, none, 0, 0, kP66)
def kM67 : KMeth := (⟨"TriplicateForms$Sentence", "forget", "()V"⟩, prog_7_method_2_code, 1, none, 0, 0, kP67)
def kM68 : KMeth := (⟨"TriplicateForms$Sentence", "howNamed", "(LTriplicateForms$Word;)I"⟩, prog_7_method_10_code, 1, some .int, 0, 0, kP68)
def kM69 : KMeth := (⟨"TriplicateForms$Sentence", "isNone", "()Z"⟩, prog_7_method_3_code, 1, some .boolean, 0, 0, kP69)
def kM70 : KMeth := (⟨"TriplicateForms$Sentence", "readCond", "(LTriplicateForms$Tape;LTriplicateForms$Roster;I)Z"⟩, prog_7_method_6_code, 8, some .boolean, 0, 0, kP70)
def kM71 : KMeth := (⟨"TriplicateForms$Sentence", "readOne", "(LTriplicateForms$Tape;LTriplicateForms$Roster;I)Z"⟩, prog_7_method_7_code, 5, some .boolean, 0, 0, kP71)
def kM72 : KMeth := (⟨"TriplicateForms$Sentence", "readText", "(LTriplicateForms$Tape;LTriplicateForms$Roster;)V"⟩, prog_7_method_5_code, 3, none, 0, 0, kP72)
def kM73 : KMeth := (⟨"TriplicateForms$Stamp", "<init>", "()V"⟩, prog_8_method_1_code, 1, none, 1, 40, kP73)
def kM74 : KMeth := (⟨"TriplicateForms$Stamp", "signAt", "(I)I"⟩, prog_8_method_2_code, 2, some .int, 0, 0, kP74)
def kM75 : KMeth := (⟨"TriplicateForms$Standing", "<init>", "(LTriplicateForms$Roster;)V"⟩, prog_9_method_1_code, 2, none, 6, 120, kP75)
def kM76 : KMeth := (⟨"TriplicateForms$Standing", "allGrudges", "()I"⟩, prog_9_method_9_code, 3, some .int, 0, 0, kP76)
def kM77 : KMeth := (⟨"TriplicateForms$Standing", "clear", "()V"⟩, prog_9_method_2_code, 1, none, 0, 0, kP77)
def kM78 : KMeth := (⟨"TriplicateForms$Standing", "clearForms", "()I"⟩, prog_9_method_21_code, 3, some .int, 0, 0, kP78)
def kM79 : KMeth := (⟨"TriplicateForms$Standing", "copyFrom", "(LTriplicateForms$Standing;)V"⟩, prog_9_method_4_code, 2, none, 0, 0, kP79)
def kM80 : KMeth := (⟨"TriplicateForms$Standing", "formsThatAre", "(I)I"⟩, prog_9_method_20_code, 4, some .int, 0, 0, kP80)
def kM81 : KMeth := (⟨"TriplicateForms$Standing", "goOneDay", "()V"⟩, prog_9_method_36_code, 2, none, 0, 0, kP81)
def kM82 : KMeth := (⟨"TriplicateForms$Standing", "howIs", "(I)I"⟩, prog_9_method_13_code, 2, some .int, 0, 0, kP82)
def kM83 : KMeth := (⟨"TriplicateForms$Standing", "partOf", "(II)I"⟩, prog_9_method_26_code, 4, some .int, 0, 0, kP83)
def kM84 : KMeth := (⟨"TriplicateForms$Standing", "perform", "(III)V"⟩, prog_9_method_32_code, 5, none, 0, 0, kP84)
def kM85 : KMeth := (⟨"TriplicateForms$Standing", "setToStart", "()V"⟩, prog_9_method_3_code, 1, none, 0, 0, kP85)
def kM86 : KMeth := (⟨"TriplicateForms$Standing", "whyNot", "(III)I"⟩, prog_9_method_31_code, 4, some .int, 0, 0, kP86)
def kM87 : KMeth := (⟨"TriplicateForms$Tape", "<init>", "()V"⟩, prog_10_method_1_code, 1, none, 1, 940, kP87)
def kM88 : KMeth := (⟨"TriplicateForms$Tape", "add", "(I)V"⟩, prog_10_method_2_code, 3, none, 0, 0, kP88)
def kM89 : KMeth := (⟨"TriplicateForms$Tape", "advance", "()V"⟩, prog_10_method_5_code, 3, none, 0, 0, kP89)
def kM90 : KMeth := (⟨"TriplicateForms$Tape", "begin", "(I)V"⟩, prog_10_method_4_code, 2, none, 0, 0, kP90)
def kM91 : KMeth := (⟨"TriplicateForms$Tape", "isMark", "(I)Z"⟩, prog_10_method_9_code, 2, some .boolean, 0, 0, kP91)
def kM92 : KMeth := (⟨"TriplicateForms$Tape", "refuse", "(I)Z"⟩, prog_10_method_11_code, 2, some .boolean, 0, 0, kP92)
def kM93 : KMeth := (⟨"TriplicateForms$Tape", "signAt", "(I)I"⟩, prog_10_method_3_code, 2, some .int, 0, 0, kP93)
def kM94 : KMeth := (⟨"TriplicateForms$Undos", "<init>", "(LTriplicateForms$Roster;)V"⟩, prog_11_method_1_code, 3, none, 57, 1048, kP94)
def kM95 : KMeth := (⟨"TriplicateForms$Undos", "forget", "()V"⟩, prog_11_method_2_code, 1, none, 0, 0, kP95)
def kM96 : KMeth := (⟨"TriplicateForms$Undos", "keep", "(LTriplicateForms$Standing;)V"⟩, prog_11_method_3_code, 2, none, 0, 0, kP96)
def kM97 : KMeth := (⟨"TriplicateForms$Undos", "takeBack", "(LTriplicateForms$Standing;)I"⟩, prog_11_method_4_code, 3, some .int, 0, 0, kP97)
def kM98 : KMeth := (⟨"TriplicateFormsModel", "<init>", "()V"⟩, prog_14_method_26_code, 1, none, 18, 4072, kP98)
def kM99 : KMeth := (⟨"TriplicateFormsModel", "act", "(IIIZ)I"⟩, prog_14_method_64_code, 6, some .int, 0, 0, kP99)
def kM100 : KMeth := (⟨"TriplicateFormsModel", "ask", "()I"⟩, prog_14_method_89_code, 1, some .int, 0, 0, kP100)
def kM101 : KMeth := (⟨"TriplicateFormsModel", "back", "(I)I"⟩, prog_14_method_69_code, 2, some .int, 0, 0, kP101)
def kM102 : KMeth := (⟨"TriplicateFormsModel", "bad", "(I)Z"⟩, prog_14_method_22_code, 2, some .boolean, 0, 0, kP102)
def kM103 : KMeth := (⟨"TriplicateFormsModel", "begin", "(I)V"⟩, prog_14_method_25_code, 2, none, 0, 0, kP103)
def kM104 : KMeth := (⟨"TriplicateFormsModel", "bits", "(I)I"⟩, prog_14_method_9_code, 3, some .int, 0, 0, kP104)
def kM105 : KMeth := (⟨"TriplicateFormsModel", "book", "(I)I"⟩, prog_14_method_117_code, 4, some .int, 0, 0, kP105)
def kM106 : KMeth := (⟨"TriplicateFormsModel", "byteAt", "(I)I"⟩, prog_14_method_102_code, 2, some .int, 0, 0, kP106)
def kM107 : KMeth := (⟨"TriplicateFormsModel", "can", "(I)I"⟩, prog_14_method_78_code, 2, some .int, 0, 0, kP107)
def kM108 : KMeth := (⟨"TriplicateFormsModel", "cancel", "(I)I"⟩, prog_14_method_70_code, 2, some .int, 0, 0, kP108)
def kM109 : KMeth := (⟨"TriplicateFormsModel", "come", "(I)V"⟩, prog_14_method_3_code, 3, none, 0, 0, kP109)
def kM110 : KMeth := (⟨"TriplicateFormsModel", "count", "(I)I"⟩, prog_14_method_135_code, 2, some .int, 0, 0, kP110)
def kM111 : KMeth := (⟨"TriplicateFormsModel", "cover", "()I"⟩, prog_14_method_92_code, 4, some .int, 0, 0, kP111)
def kM112 : KMeth := (⟨"TriplicateFormsModel", "covering", "()I"⟩, prog_14_method_93_code, 1, some .int, 0, 0, kP112)
def kM113 : KMeth := (⟨"TriplicateFormsModel", "days", "(I)I"⟩, prog_14_method_75_code, 2, some .int, 0, 0, kP113)
def kM114 : KMeth := (⟨"TriplicateFormsModel", "drawn", "(II)I"⟩, prog_14_method_106_code, 3, some .int, 0, 0, kP114)
def kM115 : KMeth := (⟨"TriplicateFormsModel", "eased", "(II)I"⟩, prog_14_method_94_code, 6, some .int, 0, 0, kP115)
def kM116 : KMeth := (⟨"TriplicateFormsModel", "end", "(I)Z"⟩, prog_14_method_5_code, 2, some .boolean, 0, 0, kP116)
def kM117 : KMeth := (⟨"TriplicateFormsModel", "fault", "()I"⟩, prog_14_method_42_code, 1, some .int, 0, 0, kP117)
def kM118 : KMeth := (⟨"TriplicateFormsModel", "feed", "(IIIII)I"⟩, prog_14_method_4_code, 6, some .int, 0, 0, kP118)
def kM119 : KMeth := (⟨"TriplicateFormsModel", "fits", "()I"⟩, prog_14_method_88_code, 7, some .int, 0, 0, kP119)
def kM120 : KMeth := (⟨"TriplicateFormsModel", "form", "(II)I"⟩, prog_14_method_54_code, 3, some .int, 0, 0, kP120)
def kM121 : KMeth := (⟨"TriplicateFormsModel", "go", "()V"⟩, prog_14_method_16_code, 5, none, 0, 0, kP121)
def kM122 : KMeth := (⟨"TriplicateFormsModel", "grudge", "(II)I"⟩, prog_14_method_57_code, 3, some .int, 0, 0, kP122)
def kM123 : KMeth := (⟨"TriplicateFormsModel", "image", "(I)Z"⟩, prog_14_method_133_code, 3, some .boolean, 0, 0, kP123)
def kM124 : KMeth := (⟨"TriplicateFormsModel", "isForm", "(I)Z"⟩, prog_14_method_44_code, 2, some .boolean, 0, 0, kP124)
def kM125 : KMeth := (⟨"TriplicateFormsModel", "isIn", "(III)Z"⟩, prog_14_method_7_code, 3, some .boolean, 0, 0, kP125)
def kM126 : KMeth := (⟨"TriplicateFormsModel", "isPerson", "(I)Z"⟩, prog_14_method_43_code, 2, some .boolean, 0, 0, kP126)
def kM127 : KMeth := (⟨"TriplicateFormsModel", "isSign", "(I)Z"⟩, prog_14_method_20_code, 2, some .boolean, 0, 0, kP127)
def kM128 : KMeth := (⟨"TriplicateFormsModel", "isWord", "(I)Z"⟩, prog_14_method_19_code, 2, some .boolean, 0, 0, kP128)
def kM129 : KMeth := (⟨"TriplicateFormsModel", "layAside", "()V"⟩, prog_14_method_107_code, 2, none, 0, 0, kP129)
def kM130 : KMeth := (⟨"TriplicateFormsModel", "least", "(II)I"⟩, prog_14_method_10_code, 2, some .int, 0, 0, kP130)
def kM131 : KMeth := (⟨"TriplicateFormsModel", "lodge", "(I)I"⟩, prog_14_method_71_code, 2, some .int, 0, 0, kP131)
def kM132 : KMeth := (⟨"TriplicateFormsModel", "martyr", "()I"⟩, prog_14_method_96_code, 6, some .int, 0, 0, kP132)
def kM133 : KMeth := (⟨"TriplicateFormsModel", "match", "()I"⟩, prog_14_method_85_code, 4, some .int, 0, 0, kP133)
def kM134 : KMeth := (⟨"TriplicateFormsModel", "matched", "(I)I"⟩, prog_14_method_86_code, 2, some .int, 0, 0, kP134)
def kM135 : KMeth := (⟨"TriplicateFormsModel", "mostFrom", "(I)I"⟩, prog_14_method_83_code, 5, some .int, 0, 0, kP135)
def kM136 : KMeth := (⟨"TriplicateFormsModel", "now", "(I)I"⟩, prog_14_method_59_code, 4, some .int, 0, 0, kP136)
def kM137 : KMeth := (⟨"TriplicateFormsModel", "odds", "(III)I"⟩, prog_14_method_109_code, 6, some .int, 0, 0, kP137)
def kM138 : KMeth := (⟨"TriplicateFormsModel", "office", "()I"⟩, prog_14_method_41_code, 3, some .int, 0, 0, kP138)
def kM139 : KMeth := (⟨"TriplicateFormsModel", "oneDay", "()V"⟩, prog_14_method_73_code, 3, none, 0, 0, kP139)
def kM140 : KMeth := (⟨"TriplicateFormsModel", "openForm", "(I)V"⟩, prog_14_method_28_code, 3, none, 0, 0, kP140)
def kM141 : KMeth := (⟨"TriplicateFormsModel", "part", "(II)I"⟩, prog_14_method_76_code, 3, some .int, 0, 0, kP141)
def kM142 : KMeth := (⟨"TriplicateFormsModel", "passDays", "(I)I"⟩, prog_14_method_74_code, 4, some .int, 0, 0, kP142)
def kM143 : KMeth := (⟨"TriplicateFormsModel", "person", "(II)I"⟩, prog_14_method_56_code, 3, some .int, 0, 0, kP143)
def kM144 : KMeth := (⟨"TriplicateFormsModel", "readAnd", "()Z"⟩, prog_14_method_124_code, 2, some .boolean, 0, 0, kP144)
def kM145 : KMeth := (⟨"TriplicateFormsModel", "readOr", "()Z"⟩, prog_14_method_123_code, 2, some .boolean, 0, 0, kP145)
def kM146 : KMeth := (⟨"TriplicateFormsModel", "readSaid", "()Z"⟩, prog_14_method_125_code, 4, some .boolean, 0, 0, kP146)
def kM147 : KMeth := (⟨"TriplicateFormsModel", "refuse", "()I"⟩, prog_14_method_2_code, 1, some .int, 0, 0, kP147)
def kM148 : KMeth := (⟨"TriplicateFormsModel", "resent", "(II)I"⟩, prog_14_method_67_code, 3, some .int, 0, 0, kP148)
def kM149 : KMeth := (⟨"TriplicateFormsModel", "restore", "(I)Z"⟩, prog_14_method_134_code, 3, some .boolean, 0, 0, kP149)
def kM150 : KMeth := (⟨"TriplicateFormsModel", "retire", "(I)I"⟩, prog_14_method_68_code, 2, some .int, 0, 0, kP150)
def kM151 : KMeth := (⟨"TriplicateFormsModel", "said", "(I)I"⟩, prog_14_method_132_code, 4, some .int, 0, 0, kP151)
def kM152 : KMeth := (⟨"TriplicateFormsModel", "sentence", "()I"⟩, prog_14_method_130_code, 2, some .int, 0, 0, kP152)
def kM153 : KMeth := (⟨"TriplicateFormsModel", "served", "(I)I"⟩, prog_14_method_95_code, 2, some .int, 0, 0, kP153)
def kM154 : KMeth := (⟨"TriplicateFormsModel", "servedBy", "(I)I"⟩, prog_14_method_91_code, 4, some .int, 0, 0, kP154)
def kM155 : KMeth := (⟨"TriplicateFormsModel", "sign", "(II)I"⟩, prog_14_method_65_code, 3, some .int, 0, 0, kP155)
def kM156 : KMeth := (⟨"TriplicateFormsModel", "snap", "()V"⟩, prog_14_method_60_code, 2, none, 0, 0, kP156)
def kM157 : KMeth := (⟨"TriplicateFormsModel", "soften", "(II)I"⟩, prog_14_method_66_code, 3, some .int, 0, 0, kP157)
def kM158 : KMeth := (⟨"TriplicateFormsModel", "stamp", "(I)I"⟩, prog_14_method_101_code, 2, some .int, 0, 0, kP158)
def kM159 : KMeth := (⟨"TriplicateFormsModel", "startSo", "()V"⟩, prog_14_method_27_code, 2, none, 0, 0, kP159)
def kM160 : KMeth := (⟨"TriplicateFormsModel", "stay", "(Z)V"⟩, prog_14_method_118_code, 4, none, 0, 0, kP160)
def kM161 : KMeth := (⟨"TriplicateFormsModel", "sum", "(II)I"⟩, prog_14_method_55_code, 5, some .int, 0, 0, kP161)
def kM162 : KMeth := (⟨"TriplicateFormsModel", "take", "()I"⟩, prog_14_method_6_code, 2, some .int, 0, 0, kP162)
def kM163 : KMeth := (⟨"TriplicateFormsModel", "those", "(I)I"⟩, prog_14_method_58_code, 4, some .int, 0, 0, kP163)
def kM164 : KMeth := (⟨"TriplicateFormsModel", "told", "(I)I"⟩, prog_14_method_119_code, 2, some .int, 0, 0, kP164)
def kM165 : KMeth := (⟨"TriplicateFormsModel", "undo", "()I"⟩, prog_14_method_72_code, 2, some .int, 0, 0, kP165)
def kM166 : KMeth := (⟨"TriplicateFormsModel", "when", "(I)I"⟩, prog_14_method_80_code, 3, some .int, 0, 0, kP166)
def kM167 : KMeth := (⟨"java/lang/Integer", "bitCount", "(I)I"⟩, prog_20_method_49_code, 1, some .int, 0, 0, kP167)
def kM168 : KMeth := (⟨"java/util/Arrays", "fill", "([II)V"⟩, prog_30_method_103_code, 4, none, 0, 0, kP168)
def kmeths : List KMeth := [kM0, kM1, kM2, kM3, kM4, kM5, kM6, kM7, kM8, kM9, kM10, kM11, kM12, kM13, kM14, kM15, kM16, kM17, kM18, kM19, kM20, kM21, kM22, kM23, kM24, kM25, kM26, kM27, kM28, kM29, kM30, kM31, kM32, kM33, kM34, kM35, kM36, kM37, kM38, kM39, kM40, kM41, kM42, kM43, kM44, kM45, kM46, kM47, kM48, kM49, kM50, kM51, kM52, kM53, kM54, kM55, kM56, kM57, kM58, kM59, kM60, kM61, kM62, kM63, kM64, kM65, kM66, kM67, kM68, kM69, kM70, kM71, kM72, kM73, kM74, kM75, kM76, kM77, kM78, kM79, kM80, kM81, kM82, kM83, kM84, kM85, kM86, kM87, kM88, kM89, kM90, kM91, kM92, kM93, kM94, kM95, kM96, kM97, kM98, kM99, kM100, kM101, kM102, kM103, kM104, kM105, kM106, kM107, kM108, kM109, kM110, kM111, kM112, kM113, kM114, kM115, kM116, kM117, kM118, kM119, kM120, kM121, kM122, kM123, kM124, kM125, kM126, kM127, kM128, kM129, kM130, kM131, kM132, kM133, kM134, kM135, kM136, kM137, kM138, kM139, kM140, kM141, kM142, kM143, kM144, kM145, kM146, kM147, kM148, kM149, kM150, kM151, kM152, kM153, kM154, kM155, kM156, kM157, kM158, kM159, kM160, kM161, kM162, kM163, kM164, kM165, kM166, kM167, kM168]
end
section
set_option maxRecDepth 1000000 in
theorem ktest1 : (match kcall kmeths [] 12 0 [.inl (.ref 0)] [[.inr (10, kY10.map (fun t => (.inl (defaultValue t) : KV)))]] with
  | some (_, w) => kfr 0 w
  | none => 0) = 148 := by decide +kernel
set_option maxRecDepth 1000000 in
theorem ktest2 : (match kcall kmeths [] 12 98 [.inl (.ref 0)] [[.inr (11, kY11.map (fun t => (.inl (defaultValue t) : KV)))]] with
  | some (_, w) => kfr 0 w
  | none => 0) = 19 := by decide +kernel
end
