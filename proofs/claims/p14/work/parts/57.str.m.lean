section
/-! Texts: String.length() and charAt(), by their own code. -/
set_option maxRecDepth 100000 in
theorem kj_ws : ∀ w ∈ ([.fieldLink "java/lang/String" 38 "java/lang/String" "COMPACT_STRINGS" "Z", .fieldLink "java/lang/String" 9 "java/lang/String" "value" "[B", .fieldLink "java/lang/String" 15 "java/lang/String" "coder" "B", .fieldLink "java/lang/String" 1053 "jdk/internal/util/Preconditions" "SIOOBE_FORMATTER" "Ljava/util/function/BiFunction;", .methodLink "java/lang/String" 335 ⟨"java/lang/String", "coder", "()B"⟩, .instanceMethod ⟨"java/lang/String", "coder", "()B"⟩, .selects "java/lang/String" ⟨"java/lang/String", "coder", "()B"⟩ ⟨"java/lang/String", "coder", "()B"⟩, .methodLink "java/lang/String" 492 ⟨"java/lang/String", "isLatin1", "()Z"⟩, .instanceMethod ⟨"java/lang/String", "isLatin1", "()Z"⟩, .selects "java/lang/String" ⟨"java/lang/String", "isLatin1", "()Z"⟩ ⟨"java/lang/String", "isLatin1", "()Z"⟩, .methodLink "java/lang/String" 495 ⟨"java/lang/StringLatin1", "charAt", "([BI)C"⟩, .static ⟨"java/lang/StringLatin1", "charAt", "([BI)C"⟩, .methodLink "java/lang/StringLatin1" 9 ⟨"java/lang/String", "checkIndex", "(II)V"⟩, .static ⟨"java/lang/String", "checkIndex", "(II)V"⟩, .methodLink "java/lang/String" 1059 ⟨"jdk/internal/util/Preconditions", "checkIndex", "(IILjava/util/function/BiFunction;)I"⟩, .static ⟨"jdk/internal/util/Preconditions", "checkIndex", "(IILjava/util/function/BiFunction;)I"⟩, .initialized "java/lang/String", .initialized "java/lang/StringLatin1", .initialized "jdk/internal/util/Preconditions", .code ⟨"java/lang/String", "coder", "()B"⟩ prog_23_method_152_code 1 (some .byte), .code ⟨"java/lang/String", "length", "()I"⟩ prog_23_method_54_code 1 (some .int), .code ⟨"java/lang/String", "charAt", "(I)C"⟩ prog_23_method_56_code 2 (some .char), .code ⟨"java/lang/String", "isLatin1", "()Z"⟩ prog_23_method_154_code 1 (some .boolean), .code ⟨"java/lang/StringLatin1", "charAt", "([BI)C"⟩ prog_24_method_2_code 2 (some .char), .code ⟨"java/lang/String", "checkIndex", "(II)V"⟩ prog_23_method_155_code 2 none, .code ⟨"jdk/internal/util/Preconditions", "checkIndex", "(IILjava/util/function/BiFunction;)I"⟩ prog_32_method_11_code 3 (some .int)] : List Cond), w ∈ LT := kin_ok (ps := [1060, 2137, 2138, 1076, 1056, 1057, 1058, 1066, 1067, 1068, 1070, 1071, 1073, 1074, 1078, 1079, 157, 158, 159, 1059, 1055, 1065, 1069, 1072, 1075, 1080]) (by decide +kernel)
theorem kj_fl38 : (.fieldLink "java/lang/String" 38 "java/lang/String" "COMPACT_STRINGS" "Z" : Cond) ∈ LT := kj_ws _ (List.mem_of_getElem? (i := 0) rfl)
theorem kj_fl9 : (.fieldLink "java/lang/String" 9 "java/lang/String" "value" "[B" : Cond) ∈ LT := kj_ws _ (List.mem_of_getElem? (i := 1) rfl)
theorem kj_fl15 : (.fieldLink "java/lang/String" 15 "java/lang/String" "coder" "B" : Cond) ∈ LT := kj_ws _ (List.mem_of_getElem? (i := 2) rfl)
theorem kj_fl1053 : (.fieldLink "java/lang/String" 1053 "jdk/internal/util/Preconditions" "SIOOBE_FORMATTER" "Ljava/util/function/BiFunction;" : Cond) ∈ LT := kj_ws _ (List.mem_of_getElem? (i := 3) rfl)
theorem kj_ml335 : (.methodLink "java/lang/String" 335 ⟨"java/lang/String", "coder", "()B"⟩ : Cond) ∈ LT := kj_ws _ (List.mem_of_getElem? (i := 4) rfl)
theorem kj_imCO : (.instanceMethod ⟨"java/lang/String", "coder", "()B"⟩ : Cond) ∈ LT := kj_ws _ (List.mem_of_getElem? (i := 5) rfl)
theorem kj_seCO : (.selects "java/lang/String" ⟨"java/lang/String", "coder", "()B"⟩ ⟨"java/lang/String", "coder", "()B"⟩ : Cond) ∈ LT := kj_ws _ (List.mem_of_getElem? (i := 6) rfl)
theorem kj_ml492 : (.methodLink "java/lang/String" 492 ⟨"java/lang/String", "isLatin1", "()Z"⟩ : Cond) ∈ LT := kj_ws _ (List.mem_of_getElem? (i := 7) rfl)
theorem kj_imIL : (.instanceMethod ⟨"java/lang/String", "isLatin1", "()Z"⟩ : Cond) ∈ LT := kj_ws _ (List.mem_of_getElem? (i := 8) rfl)
theorem kj_seIL : (.selects "java/lang/String" ⟨"java/lang/String", "isLatin1", "()Z"⟩ ⟨"java/lang/String", "isLatin1", "()Z"⟩ : Cond) ∈ LT := kj_ws _ (List.mem_of_getElem? (i := 9) rfl)
theorem kj_ml495 : (.methodLink "java/lang/String" 495 ⟨"java/lang/StringLatin1", "charAt", "([BI)C"⟩ : Cond) ∈ LT := kj_ws _ (List.mem_of_getElem? (i := 10) rfl)
theorem kj_stS1 : (.static ⟨"java/lang/StringLatin1", "charAt", "([BI)C"⟩ : Cond) ∈ LT := kj_ws _ (List.mem_of_getElem? (i := 11) rfl)
theorem kj_ml9 : (.methodLink "java/lang/StringLatin1" 9 ⟨"java/lang/String", "checkIndex", "(II)V"⟩ : Cond) ∈ LT := kj_ws _ (List.mem_of_getElem? (i := 12) rfl)
theorem kj_stSC : (.static ⟨"java/lang/String", "checkIndex", "(II)V"⟩ : Cond) ∈ LT := kj_ws _ (List.mem_of_getElem? (i := 13) rfl)
theorem kj_ml1059 : (.methodLink "java/lang/String" 1059 ⟨"jdk/internal/util/Preconditions", "checkIndex", "(IILjava/util/function/BiFunction;)I"⟩ : Cond) ∈ LT := kj_ws _ (List.mem_of_getElem? (i := 14) rfl)
theorem kj_stPC : (.static ⟨"jdk/internal/util/Preconditions", "checkIndex", "(IILjava/util/function/BiFunction;)I"⟩ : Cond) ∈ LT := kj_ws _ (List.mem_of_getElem? (i := 15) rfl)
theorem kj_inS : (.initialized "java/lang/String" : Cond) ∈ LT := kj_ws _ (List.mem_of_getElem? (i := 16) rfl)
theorem kj_inL : (.initialized "java/lang/StringLatin1" : Cond) ∈ LT := kj_ws _ (List.mem_of_getElem? (i := 17) rfl)
theorem kj_inP : (.initialized "jdk/internal/util/Preconditions" : Cond) ∈ LT := kj_ws _ (List.mem_of_getElem? (i := 18) rfl)
theorem kj_cdCO : (.code ⟨"java/lang/String", "coder", "()B"⟩ prog_23_method_152_code 1 (some .byte) : Cond) ∈ LT := kj_ws _ (List.mem_of_getElem? (i := 19) rfl)
theorem kj_cdLE : (.code ⟨"java/lang/String", "length", "()I"⟩ prog_23_method_54_code 1 (some .int) : Cond) ∈ LT := kj_ws _ (List.mem_of_getElem? (i := 20) rfl)
theorem kj_cdCH : (.code ⟨"java/lang/String", "charAt", "(I)C"⟩ prog_23_method_56_code 2 (some .char) : Cond) ∈ LT := kj_ws _ (List.mem_of_getElem? (i := 21) rfl)
theorem kj_cdIL : (.code ⟨"java/lang/String", "isLatin1", "()Z"⟩ prog_23_method_154_code 1 (some .boolean) : Cond) ∈ LT := kj_ws _ (List.mem_of_getElem? (i := 22) rfl)
theorem kj_cdS1 : (.code ⟨"java/lang/StringLatin1", "charAt", "([BI)C"⟩ prog_24_method_2_code 2 (some .char) : Cond) ∈ LT := kj_ws _ (List.mem_of_getElem? (i := 23) rfl)
theorem kj_cdSC : (.code ⟨"java/lang/String", "checkIndex", "(II)V"⟩ prog_23_method_155_code 2 none : Cond) ∈ LT := kj_ws _ (List.mem_of_getElem? (i := 24) rfl)
theorem kj_cdPC : (.code ⟨"jdk/internal/util/Preconditions", "checkIndex", "(IILjava/util/function/BiFunction;)I"⟩ prog_32_method_11_code 3 (some .int) : Cond) ∈ LT := kj_ws _ (List.mem_of_getElem? (i := 25) rfl)
theorem kd_CO_0 : decode prog_23_method_152_code 0 = .ok (.getstatic 38, 3) := by decide +kernel
theorem kd_CO_3 : decode prog_23_method_152_code 3 = .ok (.ifCond .eq 10, 3) := by decide +kernel
theorem kd_CO_6 : decode prog_23_method_152_code 6 = .ok (.aload_n 0, 1) := by decide +kernel
theorem kd_CO_7 : decode prog_23_method_152_code 7 = .ok (.getfield 15, 3) := by decide +kernel
theorem kd_CO_10 : decode prog_23_method_152_code 10 = .ok (.goto 4, 3) := by decide +kernel
theorem kd_CO_13 : decode prog_23_method_152_code 13 = .ok (.iconst 1, 1) := by decide +kernel
theorem kd_CO_14 : decode prog_23_method_152_code 14 = .ok (.ireturn, 1) := by decide +kernel
theorem kd_LE_0 : decode prog_23_method_54_code 0 = .ok (.aload_n 0, 1) := by decide +kernel
theorem kd_LE_1 : decode prog_23_method_54_code 1 = .ok (.getfield 9, 3) := by decide +kernel
theorem kd_LE_4 : decode prog_23_method_54_code 4 = .ok (.arraylength, 1) := by decide +kernel
theorem kd_LE_5 : decode prog_23_method_54_code 5 = .ok (.aload_n 0, 1) := by decide +kernel
theorem kd_LE_6 : decode prog_23_method_54_code 6 = .ok (.invokevirtual 335, 3) := by decide +kernel
theorem kd_LE_9 : decode prog_23_method_54_code 9 = .ok (.ishr, 1) := by decide +kernel
theorem kd_LE_10 : decode prog_23_method_54_code 10 = .ok (.ireturn, 1) := by decide +kernel
theorem kd_CH_0 : decode prog_23_method_56_code 0 = .ok (.aload_n 0, 1) := by decide +kernel
theorem kd_CH_1 : decode prog_23_method_56_code 1 = .ok (.invokevirtual 492, 3) := by decide +kernel
theorem kd_CH_4 : decode prog_23_method_56_code 4 = .ok (.ifCond .eq 12, 3) := by decide +kernel
theorem kd_CH_7 : decode prog_23_method_56_code 7 = .ok (.aload_n 0, 1) := by decide +kernel
theorem kd_CH_8 : decode prog_23_method_56_code 8 = .ok (.getfield 9, 3) := by decide +kernel
theorem kd_CH_11 : decode prog_23_method_56_code 11 = .ok (.iload_n 1, 1) := by decide +kernel
theorem kd_CH_12 : decode prog_23_method_56_code 12 = .ok (.invokestatic 495, 3) := by decide +kernel
theorem kd_CH_15 : decode prog_23_method_56_code 15 = .ok (.ireturn, 1) := by decide +kernel
theorem kd_IL_0 : decode prog_23_method_154_code 0 = .ok (.getstatic 38, 3) := by decide +kernel
theorem kd_IL_3 : decode prog_23_method_154_code 3 = .ok (.ifCond .eq 14, 3) := by decide +kernel
theorem kd_IL_6 : decode prog_23_method_154_code 6 = .ok (.aload_n 0, 1) := by decide +kernel
theorem kd_IL_7 : decode prog_23_method_154_code 7 = .ok (.getfield 15, 3) := by decide +kernel
theorem kd_IL_10 : decode prog_23_method_154_code 10 = .ok (.ifCond .ne 7, 3) := by decide +kernel
theorem kd_IL_13 : decode prog_23_method_154_code 13 = .ok (.iconst 1, 1) := by decide +kernel
theorem kd_IL_14 : decode prog_23_method_154_code 14 = .ok (.goto 4, 3) := by decide +kernel
theorem kd_IL_17 : decode prog_23_method_154_code 17 = .ok (.iconst 0, 1) := by decide +kernel
theorem kd_IL_18 : decode prog_23_method_154_code 18 = .ok (.ireturn, 1) := by decide +kernel
theorem kd_S1_0 : decode prog_24_method_2_code 0 = .ok (.iload_n 1, 1) := by decide +kernel
theorem kd_S1_1 : decode prog_24_method_2_code 1 = .ok (.aload_n 0, 1) := by decide +kernel
theorem kd_S1_2 : decode prog_24_method_2_code 2 = .ok (.arraylength, 1) := by decide +kernel
theorem kd_S1_3 : decode prog_24_method_2_code 3 = .ok (.invokestatic 9, 3) := by decide +kernel
theorem kd_S1_6 : decode prog_24_method_2_code 6 = .ok (.aload_n 0, 1) := by decide +kernel
theorem kd_S1_7 : decode prog_24_method_2_code 7 = .ok (.iload_n 1, 1) := by decide +kernel
theorem kd_S1_8 : decode prog_24_method_2_code 8 = .ok (.baload, 1) := by decide +kernel
theorem kd_S1_9 : decode prog_24_method_2_code 9 = .ok (.sipush 255, 3) := by decide +kernel
theorem kd_S1_12 : decode prog_24_method_2_code 12 = .ok (.iand, 1) := by decide +kernel
theorem kd_S1_13 : decode prog_24_method_2_code 13 = .ok (.i2c, 1) := by decide +kernel
theorem kd_S1_14 : decode prog_24_method_2_code 14 = .ok (.ireturn, 1) := by decide +kernel
theorem kd_SC_0 : decode prog_23_method_155_code 0 = .ok (.iload_n 0, 1) := by decide +kernel
theorem kd_SC_1 : decode prog_23_method_155_code 1 = .ok (.iload_n 1, 1) := by decide +kernel
theorem kd_SC_2 : decode prog_23_method_155_code 2 = .ok (.getstatic 1053, 3) := by decide +kernel
theorem kd_SC_5 : decode prog_23_method_155_code 5 = .ok (.invokestatic 1059, 3) := by decide +kernel
theorem kd_SC_8 : decode prog_23_method_155_code 8 = .ok (.pop, 1) := by decide +kernel
theorem kd_SC_9 : decode prog_23_method_155_code 9 = .ok (.return_, 1) := by decide +kernel
theorem kd_PC_0 : decode prog_32_method_11_code 0 = .ok (.iload_n 0, 1) := by decide +kernel
theorem kd_PC_1 : decode prog_32_method_11_code 1 = .ok (.ifCond .lt 8, 3) := by decide +kernel
theorem kd_PC_4 : decode prog_32_method_11_code 4 = .ok (.iload_n 0, 1) := by decide +kernel
theorem kd_PC_5 : decode prog_32_method_11_code 5 = .ok (.iload_n 1, 1) := by decide +kernel
theorem kd_PC_6 : decode prog_32_method_11_code 6 = .ok (.if_icmp .lt 10, 3) := by decide +kernel
theorem kd_PC_16 : decode prog_32_method_11_code 16 = .ok (.iload_n 0, 1) := by decide +kernel
theorem kd_PC_17 : decode prog_32_method_11_code 17 = .ok (.ireturn, 1) := by decide +kernel
/-! the contracts' starts and ends: a world that stays, some rows of bytes outside -/
def kPg (D : va_G) (dA : Nat → ClassId) (ρ : Nat → Int32) (zs : KZ) (ad : Nat → Nat) (w : KW) (vs : List Value) (ts : List (Nat × Nat × (Nat → Value))) (sz : Nat) : Array Value → State → Prop := va_Pc vs (fun U => U.heap.size = sz ∧ va_P D kCl (kW dA ad ρ w) U.heap ∧ va_K D kCl (kTyL dA) U ∧ va_D (fun _ => True) (kW dA ad ρ w) ∧ kOuts zs ad (va_A (kW dA ad ρ w) sz) U U.heap ∧ kSt U ∧ ∀ q ∈ ts, va_T .byte q.1 q.2.1 q.2.2 (va_A (kW dA ad ρ w) sz) U U.heap)
def kQj (D : va_G) (dA : Nat → ClassId) (ρ : Nat → Int32) (ad : Nat → Nat) (w : KW) (r : Option Value) (sz : Nat) : Array Value → State → Outcome → State → Prop := fun _ st oc t => (oc = .returned r ∧ va_P D kCl (kW dA ad ρ w) t.heap) ∧ va_F (va_A (kW dA ad ρ w) sz) st t
theorem kPg_blind {D : va_G} {dA : Nat → ClassId} {ρ : Nat → Int32} {zs : KZ} {ad : Nat → Nat} {w : KW} {vs : List Value} {ts : List (Nat × Nat × (Nat → Value))} {sz : Nat} : FrameBlind (kPg D dA ρ zs ad w vs ts sz) := by
  intro a U g mk q
  obtain ⟨q0, q1, qP, qK, qD, qZ, qN, qT⟩ := q
  exact ⟨q0, q1, qP, va_K.moved (u := U) (U := U.calling g mk a) (Vm.Alike.refl U.vm) qK, qD, kOuts.same (u := U) (U := U.calling g mk a) rfl qZ, qN.same (u := U) (U := U.calling g mk a) rfl, fun q hq => va_T.moved (u := U) (U := U.calling g mk a) (Vm.Alike.refl U.vm) (qT q hq)⟩
section KJ
variable {p : Program} {l : Launch} {e : Env} {R : Room} {s : State} {m : MethodId} {args : Array Value} {below : List Frame} {meth : Method} {cd : Code} {Q : State → Prop} {D : va_G} {dA : Nat → ClassId} {ρ : Nat → Int32} {A : Nat → Prop} {nL : Nat} {ad0 : Nat → Nat} {n0 : Nat} {cc : ByteArray} {own mname : String} {zs : KZ} {rg : List (Int × Int)}
variable {pc : Nat} {w : KW} {c sl : Nat}
theorem kj_pre (F : kFix p s m args meth cd cc nL own mname D dA A zs ad0) {ad : Nat → Nat} {H : Heap} {locs : List Loc} (hE : ∀ i, 1000000 ≤ i → ad i = ad0 i) (hP : va_P D kCl (kW dA ad ρ w) H) (hD : va_D A (kW dA ad ρ w)) (hS : va_S A s.heap H locs) (vs : List Value) {ts : List (Nat × Nat × (Nat → Value))} (hT : ∀ q ∈ ts, va_T .byte q.1 q.2.1 q.2.2 A s s.heap) {U : State} (hU : U.heap = H) (hW : s.WarmedH U.vm) : kPg D dA ρ zs ad w vs ts H.size vs.toArray U := by
  have hn : ∀ q, va_A (kW dA ad ρ w) H.size q → A q := fun q hq => by
    rcases hq with ⟨j, x, hj⟩ | hq
    · exact hD.2 j (q, x) hj
    · exact F.2.2.2.2.2.2.1 q (Nat.le_trans hS.1 hq)
  refine ⟨rfl, by rw [hU], by rw [hU]; exact hP, va_K.moved hW.alike F.2.2.2.2.2.1, hD.weaken (fun _ _ _ _ => trivial), ?_, F.2.2.2.2.2.2.2.2.2.warm hW, fun q hq => ?_⟩
  · rw [hU]
    exact (((F.2.2.2.2.2.2.2.2.1.by hE).warm hW).kept hS.2.1).narrow hn
  · rw [hU]
    exact ((va_T.moved hW.alike (hT q hq)).kept hS.2.1).narrow hn
theorem kj_after (F : kFix p s m args meth cd cc nL own mname D dA A zs ad0) {ad : Nat → Nat} {H : Heap} {locs : List Loc} {ls : Array Slot} (hD : va_D A (kW dA ad ρ w)) (hS : va_S A s.heap H locs) {st0 rest : List Value} {r : Option Value} {a : Array Value}
    (hr : va_Run p l e R s m args below meth cd H locs c sl 0 0 (F0 m pc ls st0) rest (kQj D dA ρ ad w r H.size a) (va_A (kW dA ad ρ w) H.size)) (g : ∀ (H' : Heap) (locs' : List Loc), va_P D kCl (kW dA ad ρ w) H' → va_S A s.heap H' locs' → W p l e R s m args below meth cd H' locs' c sl Q (F0 m (pc + 3) ls (r.toList ++ rest))) :
    W p l e R s m args below meth cd H locs c sl Q (F0 m pc ls st0) := by
  have hf : ∀ q, va_A (kW dA ad ρ w) H.size q → A q := fun q hq => by
    rcases hq with ⟨j, x, hj⟩ | hq
    · exact hD.2 j (q, x) hj
    · exact F.2.2.2.2.2.2.1 q (Nat.le_trans hS.1 hq)
  intro T hT X
  obtain ⟨v, st₀, t, T', L, h0, X', hL, e1, e2, ⟨⟨hv, hP'⟩, hz, hk⟩, stp⟩ := hr T hT X
  cases hv
  rw [h0] at hz hk
  have g1 := g T'.heap (locs ++ L) (by rw [e1]; exact hP') ⟨Nat.le_trans hS.1 (by rw [e1]; exact hz), fun q h1 h2 => by rw [e1, hk q (Nat.lt_of_lt_of_le h1 hS.1) (fun z => h2 (hf q z))]; exact hS.2.1 q h1 h2, fun q hq => by
      rcases List.mem_append.mp hq with h | h
      · exact hS.2.2 q h
      · exact hf _ (hL q h)⟩
  obtain ⟨t2, a1, b1⟩ := g1 T' rfl X'
  exact ⟨t2, stp t2 a1, b1⟩
end KJ
theorem kj_gV {own C : String} {i n : Nat} {y : MethodName} {b : ByteArray} {ret : Option FieldType} (h1 : Cond.methodLink own i y ∈ LT) (h2 : Cond.instanceMethod y ∈ LT) (h3 : Cond.selects C y y ∈ LT) (h4 : Cond.initialized C ∈ LT) (h5 : Cond.code y b n ret ∈ LT) : GoodIn LT (wsV own i C y (.code y b n ret :: LT)) := goodLT (fun w hw => by
  rcases List.mem_append.mp hw with hw | hw
  · simp only [List.mem_cons, List.not_mem_nil, or_false] at hw
    rcases hw with e | e | e | e <;> rw [e] <;> assumption
  · rcases List.mem_cons.mp hw with e | hw
    · rw [e]; exact h5
    · exact hw)
theorem kj_gS {own : String} {i n : Nat} {y : MethodName} {b : ByteArray} {ret : Option FieldType} (h1 : Cond.methodLink own i y ∈ LT) (h2 : Cond.static y ∈ LT) (h4 : Cond.initialized y.cls ∈ LT) (h5 : Cond.code y b n ret ∈ LT) : GoodIn LT (va_wsS own i y (.code y b n ret :: LT)) := goodLT (fun w hw => by
  rcases List.mem_append.mp hw with hw | hw
  · simp only [List.mem_cons, List.not_mem_nil, or_false] at hw
    rcases hw with e | e | e <;> rw [e] <;> assumption
  · rcases List.mem_cons.mp hw with e | hw
    · rw [e]; exact h5
    · exact hw)
def kj_rm (d : Nat) : Room := { frames := d, cells := 0, slots := 0, locals := 40 * d }
theorem c_PC {l : Launch} {D : va_G} {dA : Nat → ClassId} {ρ : Nat → Int32} {zs : KZ} {ad : Nat → Nat} {w : KW} {sz : Nat} {k n : Int32} {v : Value} (hv0 : v = .null ∨ ∃ t : Nat, v = .ref t) (h0 : ¬ k < 0) (h1 : k < n) : Met l ⟨"jdk/internal/util/Preconditions", "checkIndex", "(IILjava/util/function/BiFunction;)I"⟩ (.code ⟨"jdk/internal/util/Preconditions", "checkIndex", "(IILjava/util/function/BiFunction;)I"⟩ prog_32_method_11_code 3 (some .int) :: LT) (kj_rm 0) (kPg D dA ρ zs ad w [.int k, .int n, v] [] sz) (kQj D dA ρ ad w (some (.int k)) sz) 0 0 (va_A (kW dA ad ρ w) sz) := by
  refine Met.ofW (cc := prog_32_method_11_code) (maxL := 3) (ret := (some .int)) (by decide) rfl ?_
  intro p e s m args below meth c s₁ B hml hv
  obtain ⟨rfl, hsz, hPw, hK, hD0, hZ, hN, hT⟩ := hv
  have hts := atoms_spec (ws := .code ⟨"jdk/internal/util/Preconditions", "checkIndex", "(IILjava/util/function/BiFunction;)I"⟩ prog_32_method_11_code 3 (some .int) :: LT) B.pre
  have hlocks := B.notSynchronized
  have hrt := B.returns
  subst hsz
  have F : kFix p s m ([.int k, .int n, v] : List Value).toArray meth c prog_32_method_11_code 3 "jdk/internal/util/Preconditions" "checkIndex" D dA (va_A (kW dA ad ρ w) s.heap.size) zs ad := ⟨B.exec, B.bytes, hml, findClass_of_methodNamed B.named, fun w hw => hts w (List.mem_cons_of_mem _ hw), hK, fun q h => Or.inr h, fun q => (name_of_methodNamed B.named B.method).1.trans q, hZ, hN⟩
  have hD := hD0.self (sz := s.heap.size)
  have hx := F.1
  have hb := F.2.1
  have hown := F.2.2.2.1
  have htl := F.2.2.2.2.1
  have hS : va_S (va_A (kW dA ad ρ w) s.heap.size) s.heap s.heap [] := va_S.rf
  have hl := lv_entry ([.int k, .int n, v]) (n := 3) (by rcases hv0 with rfl | ⟨t, rfl⟩ <;> exact Nat.le_of_ble_eq_true rfl)
  rw [lg_entry_eq]
  generalize (lg_sl ([.int k, .int n, v]) ++ List.replicate (3 - (lg_sl ([.int k, .int n, v])).length) Slot.unset).toArray = ls at hl ⊢
  have hl : lv_has ls 3 [(0, .int k), (1, .int n)] := by
    rcases hv0 with rfl | ⟨t, rfl⟩
    · have hl : lv_has ls 3 [(0, .int k), (1, .int n), (2, .null)] := hl
      exact lv_sub hl [0, 1] rfl
    · have hl : lv_has ls 3 [(0, .int k), (1, .int n), (2, .ref t)] := hl
      exact lv_sub hl [0, 1] rfl
  refine lv_iload_n hx hb kd_PC_0 rfl (lv_at hl 0 rfl) ?_
  refine lv_if_lt hx hb kd_PC_1 (tgt := 9) rfl (fun h => absurd h h0) (fun _ => ?_)
  refine lv_iload_n hx hb kd_PC_4 rfl (lv_at hl 0 rfl) ?_
  refine lv_iload_n hx hb kd_PC_5 rfl (lv_at hl 1 rfl) ?_
  refine lv_icmp_lt hx hb kd_PC_6 (tgt := 16) rfl (fun _ => ?_) (fun h => absurd h1 h)
  refine lv_iload_n hx hb kd_PC_16 rfl (lv_at hl 0 rfl) ?_
  exact W.zret hx hb hrt rfl (fun t ht hW => ⟨⟨rfl, by rw [ht]; exact hPw⟩, hS.F ht⟩) hS.2.2 kd_PC_17
theorem c_SC {l : Launch} {D : va_G} {dA : Nat → ClassId} {ρ : Nat → Int32} {zs : KZ} {ad : Nat → Nat} {w : KW} {sz : Nat} {k n : Int32} {X : KO} (hX : zs.2 = some X) (h0 : ¬ k < 0) (h1 : k < n) : Met l ⟨"java/lang/String", "checkIndex", "(II)V"⟩ (.code ⟨"java/lang/String", "checkIndex", "(II)V"⟩ prog_23_method_155_code 2 none :: LT) (kj_rm 1) (kPg D dA ρ zs ad w [.int k, .int n] [] sz) (kQj D dA ρ ad w none sz) 0 0 (va_A (kW dA ad ρ w) sz) := by
  refine Met.ofW (cc := prog_23_method_155_code) (maxL := 2) (ret := none) (by decide) rfl ?_
  intro p e s m args below meth c s₁ B hml hv
  obtain ⟨rfl, hsz, hPw, hK, hD0, hZ, hN, hT⟩ := hv
  have hts := atoms_spec (ws := .code ⟨"java/lang/String", "checkIndex", "(II)V"⟩ prog_23_method_155_code 2 none :: LT) B.pre
  have hlocks := B.notSynchronized
  have hrt := B.returns
  subst hsz
  have F : kFix p s m ([.int k, .int n] : List Value).toArray meth c prog_23_method_155_code 2 "java/lang/String" "checkIndex" D dA (va_A (kW dA ad ρ w) s.heap.size) zs ad := ⟨B.exec, B.bytes, hml, findClass_of_methodNamed B.named, fun w hw => hts w (List.mem_cons_of_mem _ hw), hK, fun q h => Or.inr h, fun q => (name_of_methodNamed B.named B.method).1.trans q, hZ, hN⟩
  have hD := hD0.self (sz := s.heap.size)
  have hx := F.1
  have hb := F.2.1
  have hown := F.2.2.2.1
  have htl := F.2.2.2.2.1
  have hS : va_S (va_A (kW dA ad ρ w) s.heap.size) s.heap s.heap [] := va_S.rf
  have hl := lv_entry ([.int k, .int n]) (n := 2) (Nat.le_of_ble_eq_true rfl)
  rw [lg_entry_eq]
  generalize (lg_sl ([.int k, .int n]) ++ List.replicate (2 - (lg_sl ([.int k, .int n])).length) Slot.unset).toArray = ls at hl ⊢
  have hl : lv_has ls 2 [(0, .int k), (1, .int n)] := hl
  have hO := hZ.2 X hX
  refine lv_iload_n hx hb kd_SC_0 rfl (lv_at hl 0 rfl) ?_
  refine lv_iload_n hx hb kd_SC_1 rfl (lv_at hl 1 rfl) ?_
  obtain ⟨v, hv0, hv1⟩ : ∃ v : Value, (v = .null ∨ ∃ t : Nat, v = .ref t) ∧ va_Z "jdk/internal/util/Preconditions" "SIOOBE_FORMATTER" "Ljava/util/function/BiFunction;" v (va_A (kW dA ad ρ w) s.heap.size) s s.heap := by
    rcases hO.2.2.2.2.2.1 with h | ⟨t, h⟩
    · exact ⟨_, Or.inl rfl, h⟩
    · exact ⟨_, Or.inr ⟨t, rfl⟩, h⟩
  refine va_gets hx hb hv1 hS hown (htl _ kj_fl1053) (fun _ h => h) kd_SC_2 ?_
  refine kj_after F (rest := []) (r := some (.int k)) hD hS (va_runS ⟨hx, hb, hml, hown, htl⟩ (c_PC (D := D) (dA := dA) (ρ := ρ) (zs := zs) (ad := ad) (w := w) (sz := s.heap.size) (k := k) (n := n) (v := v) hv0 h0 h1) (va_cwS 3 htl (kj_gS kj_ml1059 kj_stPC kj_inP kj_cdPC) rfl rfl rfl ⟨by decide, by decide, by decide +kernel⟩ ⟨Nat.le_refl _, Nat.le_of_ble_eq_true rfl⟩) ⟨kPg_blind, fun U hU hW => kj_pre F (fun _ _ => rfl) hPw hD hS _ (fun _ h => absurd h List.not_mem_nil) hU hW⟩ rfl rfl hl.1 rfl (Nat.le_of_ble_eq_true rfl) kd_SC_5 ⟨Nat.zero_le _, Nat.zero_le _⟩) (fun H' locs' hP' hS' => ?_)
  refine lv_pop hx hb kd_SC_8 rfl ?_
  exact W.vret hx hb hrt (fun t ht hW => ⟨⟨rfl, by rw [ht]; exact hP'⟩, hS'.F ht⟩) hS'.2.2 kd_SC_9
theorem kj_c (y : Int32) : ((y &&& 255).toUInt32 % 65536).toInt32 = y &&& 255 := by
  have h : (y &&& 255).toUInt32.toNat ≤ 255 := by
    have e : (y &&& 255).toUInt32 = y.toUInt32 &&& 255 := rfl
    rw [e, UInt32.toNat_and]
    exact Nat.and_le_right
  have e : (y &&& 255).toUInt32 % 65536 = (y &&& 255).toUInt32 := UInt32.toNat_inj.mp (by
    rw [UInt32.toNat_mod]
    exact Nat.mod_eq_of_lt (Nat.lt_of_le_of_lt h (by decide)))
  rw [e]
  rfl
theorem kj_cn (y : Int32) : narrow .char (.int (y &&& 255)) = .int (y &&& 255) := by
  show Value.int _ = _
  congr 1
  exact kj_c y
theorem c_S1 {l : Launch} {D : va_G} {dA : Nat → ClassId} {ρ : Nat → Int32} {zs : KZ} {ad : Nat → Nat} {w : KW} {sz : Nat} {k y : Int32} {v n : Nat} {f : Nat → Value} {X : KO} (hX : zs.2 = some X) (h0 : ¬ k < 0) (h1 : k.toNatClampNeg < n) (hn : n < 1000) (hf : f k.toNatClampNeg = .int y) : Met l ⟨"java/lang/StringLatin1", "charAt", "([BI)C"⟩ (.code ⟨"java/lang/StringLatin1", "charAt", "([BI)C"⟩ prog_24_method_2_code 2 (some .char) :: LT) (kj_rm 2) (kPg D dA ρ zs ad w [.ref v, .int k] [(v, n, f)] sz) (kQj D dA ρ ad w (some (.int (y &&& 255))) sz) 0 0 (va_A (kW dA ad ρ w) sz) := by
  refine Met.ofW (cc := prog_24_method_2_code) (maxL := 2) (ret := (some .char)) (by decide) rfl ?_
  intro p e s m args below meth c s₁ B hml hv
  obtain ⟨rfl, hsz, hPw, hK, hD0, hZ, hN, hT⟩ := hv
  have hts := atoms_spec (ws := .code ⟨"java/lang/StringLatin1", "charAt", "([BI)C"⟩ prog_24_method_2_code 2 (some .char) :: LT) B.pre
  have hlocks := B.notSynchronized
  have hrt := B.returns
  subst hsz
  have F : kFix p s m ([.ref v, .int k] : List Value).toArray meth c prog_24_method_2_code 2 "java/lang/StringLatin1" "charAt" D dA (va_A (kW dA ad ρ w) s.heap.size) zs ad := ⟨B.exec, B.bytes, hml, findClass_of_methodNamed B.named, fun w hw => hts w (List.mem_cons_of_mem _ hw), hK, fun q h => Or.inr h, fun q => (name_of_methodNamed B.named B.method).1.trans q, hZ, hN⟩
  have hD := hD0.self (sz := s.heap.size)
  have hx := F.1
  have hb := F.2.1
  have hown := F.2.2.2.1
  have htl := F.2.2.2.2.1
  have hS : va_S (va_A (kW dA ad ρ w) s.heap.size) s.heap s.heap [] := va_S.rf
  have hl := lv_entry ([.ref v, .int k]) (n := 2) (Nat.le_of_ble_eq_true rfl)
  rw [lg_entry_eq]
  generalize (lg_sl ([.ref v, .int k]) ++ List.replicate (2 - (lg_sl ([.ref v, .int k])).length) Slot.unset).toArray = ls at hl ⊢
  have hl : lv_has ls 2 [(0, .ref v), (1, .int k)] := hl
  have hTv : va_T .byte v n f (va_A (kW dA ad ρ w) s.heap.size) s s.heap := hT (v, n, f) List.mem_cons_self
  have hk : k < Int32.ofNat n := by
    have e1 : (0 : Int) ≤ k.toInt := by
      have := Int32.not_lt.mp h0
      simpa using Int32.le_iff_toInt_le.mp this
    have e2 : (k.toNatClampNeg : Int) = k.toInt := by
      show ((k.toInt.toNat : Nat) : Int) = k.toInt
      omega
    have e3 : (Int32.ofNat n).toInt = (n : Int) := Int32.toInt_ofNat_of_lt (by omega)
    rw [Int32.lt_iff_toInt_lt, e3]
    omega
  refine lv_iload_n hx hb kd_S1_0 rfl (lv_at hl 1 rfl) ?_
  refine lv_aload_n hx hb kd_S1_1 rfl (lv_at hl 0 rfl) ?_
  refine va_tlen hx hb hTv hS rfl kd_S1_2 ?_
  refine kj_after F (rest := []) (r := none) hD hS (va_runS ⟨hx, hb, hml, hown, htl⟩ (c_SC (D := D) (dA := dA) (ρ := ρ) (zs := zs) (ad := ad) (w := w) (sz := s.heap.size) (k := k) (n := Int32.ofNat n) hX h0 hk) (va_cwS 2 htl (kj_gS kj_ml9 kj_stSC kj_inS kj_cdSC) rfl rfl rfl ⟨by decide, by decide, by decide +kernel⟩ ⟨Nat.le_refl _, Nat.le_of_ble_eq_true rfl⟩) ⟨kPg_blind, fun U hU hW => kj_pre F (fun _ _ => rfl) hPw hD hS _ (fun _ h => absurd h List.not_mem_nil) hU hW⟩ rfl rfl hl.1 rfl (Nat.le_of_ble_eq_true rfl) kd_S1_3 ⟨Nat.zero_le _, Nat.zero_le _⟩) (fun H' locs' hP' hS' => ?_)
  refine lv_aload_n hx hb kd_S1_6 rfl (lv_at hl 0 rfl) ?_
  refine lv_iload_n hx hb kd_S1_7 rfl (lv_at hl 1 rfl) ?_
  refine va_tb hx hb hTv hS' (fun q => q.elim h0 (fun q => absurd h1 (Nat.not_lt.mpr q))) hf kd_S1_8 ?_
  refine lv_sipush (v := 255) hx hb kd_S1_9 (by decide) ?_
  refine lv_iand hx hb kd_S1_12 ?_
  refine lv_i2c (v := y &&& 255) hx hb kd_S1_13 (kj_c y) ?_
  exact W.zret hx hb hrt (kj_cn y) (fun t ht hW => ⟨⟨rfl, by rw [ht]; exact hP'⟩, hS'.F ht⟩) hS'.2.2 kd_S1_14
theorem c_CO {l : Launch} {D : va_G} {dA : Nat → ClassId} {ρ : Nat → Int32} {zs : KZ} {ad : Nat → Nat} {w : KW} {sz : Nat} {i : Nat} {tl : List Int32} {X : KO} (hX : zs.2 = some X) (hi : kTxt[i]? = some tl) : Met l ⟨"java/lang/String", "coder", "()B"⟩ (.code ⟨"java/lang/String", "coder", "()B"⟩ prog_23_method_152_code 1 (some .byte) :: LT) (kj_rm 0) (kPg D dA ρ zs ad w [.ref (ad (1000200 + i))] [] sz) (kQj D dA ρ ad w (some (.int 0)) sz) 0 0 (va_A (kW dA ad ρ w) sz) := by
  refine Met.ofW (cc := prog_23_method_152_code) (maxL := 1) (ret := (some .byte)) (by decide) rfl ?_
  intro p e s m args below meth c s₁ B hml hv
  obtain ⟨rfl, hsz, hPw, hK, hD0, hZ, hN, hT⟩ := hv
  have hts := atoms_spec (ws := .code ⟨"java/lang/String", "coder", "()B"⟩ prog_23_method_152_code 1 (some .byte) :: LT) B.pre
  have hlocks := B.notSynchronized
  have hrt := B.returns
  subst hsz
  have F : kFix p s m ([.ref (ad (1000200 + i))] : List Value).toArray meth c prog_23_method_152_code 1 "java/lang/String" "coder" D dA (va_A (kW dA ad ρ w) s.heap.size) zs ad := ⟨B.exec, B.bytes, hml, findClass_of_methodNamed B.named, fun w hw => hts w (List.mem_cons_of_mem _ hw), hK, fun q h => Or.inr h, fun q => (name_of_methodNamed B.named B.method).1.trans q, hZ, hN⟩
  have hD := hD0.self (sz := s.heap.size)
  have hx := F.1
  have hb := F.2.1
  have hown := F.2.2.2.1
  have htl := F.2.2.2.2.1
  have hS : va_S (va_A (kW dA ad ρ w) s.heap.size) s.heap s.heap [] := va_S.rf
  have hl := lv_entry ([.ref (ad (1000200 + i))]) (n := 1) (Nat.le_of_ble_eq_true rfl)
  rw [lg_entry_eq]
  generalize (lg_sl ([.ref (ad (1000200 + i))]) ++ List.replicate (1 - (lg_sl ([.ref (ad (1000200 + i))])).length) Slot.unset).toArray = ls at hl ⊢
  have hl : lv_has ls 1 [(0, .ref (ad (1000200 + i)))] := hl
  have hO := hZ.2 X hX
  obtain ⟨v, g1, g2, g3, g4⟩ := hO.2.2.2.1 i tl hi
  refine va_gets hx hb hO.2.2.2.2.1 hS hown (htl _ kj_fl38) (fun _ h => h) kd_CO_0 ?_
  refine lv_if_eq hx hb kd_CO_3 (tgt := 13) rfl (fun h => absurd h (by decide)) (fun _ => ?_)
  refine lv_aload_n hx hb kd_CO_6 rfl (lv_at hl 0 rfl) ?_
  refine vk_getf hx hb g2 hS hown (htl _ kj_fl15) (fun _ h => h) kd_CO_7 ?_
  refine lv_goto hx hb kd_CO_10 (tgt := 14) rfl ?_
  exact W.zret hx hb hrt rfl (fun t ht hW => ⟨⟨rfl, by rw [ht]; exact hPw⟩, hS.F ht⟩) hS.2.2 kd_CO_14
theorem c_IL {l : Launch} {D : va_G} {dA : Nat → ClassId} {ρ : Nat → Int32} {zs : KZ} {ad : Nat → Nat} {w : KW} {sz : Nat} {i : Nat} {tl : List Int32} {X : KO} (hX : zs.2 = some X) (hi : kTxt[i]? = some tl) : Met l ⟨"java/lang/String", "isLatin1", "()Z"⟩ (.code ⟨"java/lang/String", "isLatin1", "()Z"⟩ prog_23_method_154_code 1 (some .boolean) :: LT) (kj_rm 0) (kPg D dA ρ zs ad w [.ref (ad (1000200 + i))] [] sz) (kQj D dA ρ ad w (some (.int 1)) sz) 0 0 (va_A (kW dA ad ρ w) sz) := by
  refine Met.ofW (cc := prog_23_method_154_code) (maxL := 1) (ret := (some .boolean)) (by decide) rfl ?_
  intro p e s m args below meth c s₁ B hml hv
  obtain ⟨rfl, hsz, hPw, hK, hD0, hZ, hN, hT⟩ := hv
  have hts := atoms_spec (ws := .code ⟨"java/lang/String", "isLatin1", "()Z"⟩ prog_23_method_154_code 1 (some .boolean) :: LT) B.pre
  have hlocks := B.notSynchronized
  have hrt := B.returns
  subst hsz
  have F : kFix p s m ([.ref (ad (1000200 + i))] : List Value).toArray meth c prog_23_method_154_code 1 "java/lang/String" "isLatin1" D dA (va_A (kW dA ad ρ w) s.heap.size) zs ad := ⟨B.exec, B.bytes, hml, findClass_of_methodNamed B.named, fun w hw => hts w (List.mem_cons_of_mem _ hw), hK, fun q h => Or.inr h, fun q => (name_of_methodNamed B.named B.method).1.trans q, hZ, hN⟩
  have hD := hD0.self (sz := s.heap.size)
  have hx := F.1
  have hb := F.2.1
  have hown := F.2.2.2.1
  have htl := F.2.2.2.2.1
  have hS : va_S (va_A (kW dA ad ρ w) s.heap.size) s.heap s.heap [] := va_S.rf
  have hl := lv_entry ([.ref (ad (1000200 + i))]) (n := 1) (Nat.le_of_ble_eq_true rfl)
  rw [lg_entry_eq]
  generalize (lg_sl ([.ref (ad (1000200 + i))]) ++ List.replicate (1 - (lg_sl ([.ref (ad (1000200 + i))])).length) Slot.unset).toArray = ls at hl ⊢
  have hl : lv_has ls 1 [(0, .ref (ad (1000200 + i)))] := hl
  have hO := hZ.2 X hX
  obtain ⟨v, g1, g2, g3, g4⟩ := hO.2.2.2.1 i tl hi
  refine va_gets hx hb hO.2.2.2.2.1 hS hown (htl _ kj_fl38) (fun _ h => h) kd_IL_0 ?_
  refine lv_if_eq hx hb kd_IL_3 (tgt := 17) rfl (fun h => absurd h (by decide)) (fun _ => ?_)
  refine lv_aload_n hx hb kd_IL_6 rfl (lv_at hl 0 rfl) ?_
  refine vk_getf hx hb g2 hS hown (htl _ kj_fl15) (fun _ h => h) kd_IL_7 ?_
  refine lv_if_ne hx hb kd_IL_10 (tgt := 17) rfl (fun h => absurd rfl h) (fun _ => ?_)
  refine lv_iconst (v := 1) hx hb kd_IL_13 (by decide) ?_
  refine lv_goto hx hb kd_IL_14 (tgt := 18) rfl ?_
  exact W.zret hx hb hrt rfl (fun t ht hW => ⟨⟨rfl, by rw [ht]; exact hPw⟩, hS.F ht⟩) hS.2.2 kd_IL_18
theorem kj_sh (x : Int32) : x >>> ((0 : Int32) &&& 31) = x := Int32.shiftRight_zero
theorem c_LE {l : Launch} {D : va_G} {dA : Nat → ClassId} {ρ : Nat → Int32} {zs : KZ} {ad : Nat → Nat} {w : KW} {sz : Nat} {i : Nat} {tl : List Int32} {X : KO} (hX : zs.2 = some X) (hi : kTxt[i]? = some tl) : Met l ⟨"java/lang/String", "length", "()I"⟩ (.code ⟨"java/lang/String", "length", "()I"⟩ prog_23_method_54_code 1 (some .int) :: LT) (kj_rm 1) (kPg D dA ρ zs ad w [.ref (ad (1000200 + i))] [] sz) (kQj D dA ρ ad w (some (.int (Int32.ofNat tl.length))) sz) 0 0 (va_A (kW dA ad ρ w) sz) := by
  refine Met.ofW (cc := prog_23_method_54_code) (maxL := 1) (ret := (some .int)) (by decide) rfl ?_
  intro p e s m args below meth c s₁ B hml hv
  obtain ⟨rfl, hsz, hPw, hK, hD0, hZ, hN, hT⟩ := hv
  have hts := atoms_spec (ws := .code ⟨"java/lang/String", "length", "()I"⟩ prog_23_method_54_code 1 (some .int) :: LT) B.pre
  have hlocks := B.notSynchronized
  have hrt := B.returns
  subst hsz
  have F : kFix p s m ([.ref (ad (1000200 + i))] : List Value).toArray meth c prog_23_method_54_code 1 "java/lang/String" "length" D dA (va_A (kW dA ad ρ w) s.heap.size) zs ad := ⟨B.exec, B.bytes, hml, findClass_of_methodNamed B.named, fun w hw => hts w (List.mem_cons_of_mem _ hw), hK, fun q h => Or.inr h, fun q => (name_of_methodNamed B.named B.method).1.trans q, hZ, hN⟩
  have hD := hD0.self (sz := s.heap.size)
  have hx := F.1
  have hb := F.2.1
  have hown := F.2.2.2.1
  have htl := F.2.2.2.2.1
  have hS : va_S (va_A (kW dA ad ρ w) s.heap.size) s.heap s.heap [] := va_S.rf
  have hl := lv_entry ([.ref (ad (1000200 + i))]) (n := 1) (Nat.le_of_ble_eq_true rfl)
  rw [lg_entry_eq]
  generalize (lg_sl ([.ref (ad (1000200 + i))]) ++ List.replicate (1 - (lg_sl ([.ref (ad (1000200 + i))])).length) Slot.unset).toArray = ls at hl ⊢
  have hl : lv_has ls 1 [(0, .ref (ad (1000200 + i)))] := hl
  have hO := hZ.2 X hX
  obtain ⟨v, g1, g2, g3, g4⟩ := hO.2.2.2.1 i tl hi
  have hrc : ∃ cell : Cell, s.heap[ad (1000200 + i)]? = some cell ∧ cell.vm.isStatics = false ∧ s.vm.findClass "java/lang/String" = some cell.cls := by
    obtain ⟨cell, r1, r2, r3, -⟩ := g1
    exact ⟨cell, r1, r2, r3⟩
  refine lv_aload_n hx hb kd_LE_0 rfl (lv_at hl 0 rfl) ?_
  refine vk_getf hx hb g3 hS hown (htl _ kj_fl9) (fun _ h => h) kd_LE_1 ?_
  refine va_tlen hx hb g4 hS rfl kd_LE_4 ?_
  refine lv_aload_n hx hb kd_LE_5 rfl (lv_at hl 0 rfl) ?_
  refine kj_after F (rest := [.int (Int32.ofNat tl.length)]) (r := some (.int 0)) hD hS (va_runV (As := []) ⟨hx, hb, hml, hown, htl⟩ (c_CO (D := D) (dA := dA) (ρ := ρ) (zs := zs) (ad := ad) (w := w) (sz := s.heap.size) hX hi) (cwV 0 htl (kj_gV kj_ml335 kj_imCO kj_seCO kj_inS kj_cdCO) rfl rfl rfl ⟨rfl, by decide, by decide, by decide +kernel⟩ ⟨Nat.le_refl _, Nat.le_of_ble_eq_true rfl⟩) ⟨kPg_blind, hrc, fun U hU hW => kj_pre F (fun _ _ => rfl) hPw hD hS _ (fun _ h => absurd h List.not_mem_nil) hU hW⟩ rfl rfl hl.1 rfl (Nat.le_of_ble_eq_true rfl) kd_LE_6 ⟨Nat.zero_le _, Nat.zero_le _⟩) (fun H' locs' hP' hS' => ?_)
  refine lv_ishr hx hb kd_LE_9 ?_
  rw [kj_sh]
  exact W.iret hx hb hrt (fun t ht hW => ⟨⟨rfl, by rw [ht]; exact hP'⟩, hS'.F ht⟩) hS'.2.2 kd_LE_10
theorem c_CH {l : Launch} {D : va_G} {dA : Nat → ClassId} {ρ : Nat → Int32} {zs : KZ} {ad : Nat → Nat} {w : KW} {sz : Nat} {i : Nat} {k : Int32} {tl : List Int32} {X : KO} (hX : zs.2 = some X) (hi : kTxt[i]? = some tl) (hlen : tl.length < 1000) (h0 : ¬ k < 0) (h1 : k.toNatClampNeg < tl.length) : Met l ⟨"java/lang/String", "charAt", "(I)C"⟩ (.code ⟨"java/lang/String", "charAt", "(I)C"⟩ prog_23_method_56_code 2 (some .char) :: LT) (kj_rm 3) (kPg D dA ρ zs ad w [.ref (ad (1000200 + i)), .int k] [] sz) (kQj D dA ρ ad w (some (.int (tl.getD k.toNatClampNeg 0 &&& 255))) sz) 0 0 (va_A (kW dA ad ρ w) sz) := by
  refine Met.ofW (cc := prog_23_method_56_code) (maxL := 2) (ret := (some .char)) (by decide) rfl ?_
  intro p e s m args below meth c s₁ B hml hv
  obtain ⟨rfl, hsz, hPw, hK, hD0, hZ, hN, hT⟩ := hv
  have hts := atoms_spec (ws := .code ⟨"java/lang/String", "charAt", "(I)C"⟩ prog_23_method_56_code 2 (some .char) :: LT) B.pre
  have hlocks := B.notSynchronized
  have hrt := B.returns
  subst hsz
  have F : kFix p s m ([.ref (ad (1000200 + i)), .int k] : List Value).toArray meth c prog_23_method_56_code 2 "java/lang/String" "charAt" D dA (va_A (kW dA ad ρ w) s.heap.size) zs ad := ⟨B.exec, B.bytes, hml, findClass_of_methodNamed B.named, fun w hw => hts w (List.mem_cons_of_mem _ hw), hK, fun q h => Or.inr h, fun q => (name_of_methodNamed B.named B.method).1.trans q, hZ, hN⟩
  have hD := hD0.self (sz := s.heap.size)
  have hx := F.1
  have hb := F.2.1
  have hown := F.2.2.2.1
  have htl := F.2.2.2.2.1
  have hS : va_S (va_A (kW dA ad ρ w) s.heap.size) s.heap s.heap [] := va_S.rf
  have hl := lv_entry ([.ref (ad (1000200 + i)), .int k]) (n := 2) (Nat.le_of_ble_eq_true rfl)
  rw [lg_entry_eq]
  generalize (lg_sl ([.ref (ad (1000200 + i)), .int k]) ++ List.replicate (2 - (lg_sl ([.ref (ad (1000200 + i)), .int k])).length) Slot.unset).toArray = ls at hl ⊢
  have hl : lv_has ls 2 [(0, .ref (ad (1000200 + i))), (1, .int k)] := hl
  have hO := hZ.2 X hX
  obtain ⟨v, g1, g2, g3, g4⟩ := hO.2.2.2.1 i tl hi
  have hrc : ∃ cell : Cell, s.heap[ad (1000200 + i)]? = some cell ∧ cell.vm.isStatics = false ∧ s.vm.findClass "java/lang/String" = some cell.cls := by
    obtain ⟨cell, r1, r2, r3, -⟩ := g1
    exact ⟨cell, r1, r2, r3⟩
  refine lv_aload_n hx hb kd_CH_0 rfl (lv_at hl 0 rfl) ?_
  refine kj_after F (rest := []) (r := some (.int 1)) hD hS (va_runV (As := []) ⟨hx, hb, hml, hown, htl⟩ (c_IL (D := D) (dA := dA) (ρ := ρ) (zs := zs) (ad := ad) (w := w) (sz := s.heap.size) hX hi) (cwV 0 htl (kj_gV kj_ml492 kj_imIL kj_seIL kj_inS kj_cdIL) rfl rfl rfl ⟨rfl, by decide, by decide, by decide +kernel⟩ ⟨Nat.le_of_ble_eq_true rfl, Nat.le_of_ble_eq_true rfl⟩) ⟨kPg_blind, hrc, fun U hU hW => kj_pre F (fun _ _ => rfl) hPw hD hS _ (fun _ h => absurd h List.not_mem_nil) hU hW⟩ rfl rfl hl.1 rfl (Nat.le_of_ble_eq_true rfl) kd_CH_1 ⟨Nat.zero_le _, Nat.zero_le _⟩) (fun H1 locs1 hP1 hS1 => ?_)
  refine lv_if_eq hx hb kd_CH_4 (tgt := 16) rfl (fun h => absurd h (by decide)) (fun _ => ?_)
  refine lv_aload_n hx hb kd_CH_7 rfl (lv_at hl 0 rfl) ?_
  refine vk_getf hx hb g3 hS1 hown (htl _ kj_fl9) (fun _ h => h) kd_CH_8 ?_
  refine lv_iload_n hx hb kd_CH_11 rfl (lv_at hl 1 rfl) ?_
  refine kj_after F (rest := []) (r := some (.int (tl.getD k.toNatClampNeg 0 &&& 255))) hD hS1 (va_runS (As := [.ref v, .int k]) ⟨hx, hb, hml, hown, htl⟩ (c_S1 (D := D) (dA := dA) (ρ := ρ) (zs := zs) (ad := ad) (w := w) (sz := H1.size) (k := k) (v := v) (n := tl.length) (f := fun j => .int (tl.getD j 0)) hX h0 h1 hlen rfl) (va_cwS 2 htl (kj_gS kj_ml495 kj_stS1 kj_inL kj_cdS1) rfl rfl rfl ⟨by decide, by decide, by decide +kernel⟩ ⟨Nat.le_refl _, Nat.le_of_ble_eq_true rfl⟩) ⟨kPg_blind, fun U hU hW => kj_pre F (fun _ _ => rfl) hP1 hD hS1 _ (fun q h => by
      rcases List.mem_cons.mp h with e | h
      · rw [e]; exact g4
      · exact absurd h List.not_mem_nil) hU hW⟩ rfl rfl hl.1 rfl (Nat.le_of_ble_eq_true rfl) kd_CH_12 ⟨Nat.zero_le _, Nat.zero_le _⟩) (fun H' locs' hP' hS' => ?_)
  exact W.zret hx hb hrt (kj_cn _) (fun t ht hW => ⟨⟨rfl, by rw [ht]; exact hP'⟩, hS'.F ht⟩) hS'.2.2 kd_CH_15
end
section
/-! Each step of the small machine with all instructions is sound. -/
def kwordsX (ms : List KMeth) (zs : KY) (own : String) (e : KEnt) : List Cond := match e.2.1 with
  | .ldc2_w i => [.constantLong own i (Int64.ofNat e.2.2.1)]
  | .getfield i => bif Nat.beq e.2.2.1 99 then [.fieldLink own i "TriplicateForms$Word" "letters" "J"] else kwords ms zs own (e.1, .getfield i, e.2.2)
  | .getstatic i => bif decide (own = "TriplicateForms$Tape") && Nat.beq i 70 then [] else kwords ms zs own (e.1, .getstatic i, e.2.2)
  | .ldc i => bif Nat.beq e.2.2.2.1 1 then [] else kwords ms zs own (e.1, .ldc i, e.2.2)
  | .invokevirtual i => bif Nat.beq e.2.2.1 999994 then [.methodLink own i ⟨"java/lang/String", "length", "()I"⟩, .instanceMethod ⟨"java/lang/String", "length", "()I"⟩, .selects "java/lang/String" ⟨"java/lang/String", "length", "()I"⟩ ⟨"java/lang/String", "length", "()I"⟩] else bif Nat.beq e.2.2.1 999993 then [.methodLink own i ⟨"java/lang/String", "charAt", "(I)C"⟩, .instanceMethod ⟨"java/lang/String", "charAt", "(I)C"⟩, .selects "java/lang/String" ⟨"java/lang/String", "charAt", "(I)C"⟩ ⟨"java/lang/String", "charAt", "(I)C"⟩] else kwords ms zs own (e.1, .invokevirtual i, e.2.2)
  | .invokestatic i => bif Nat.beq e.2.2.1 999996 then [.methodLink own i Lib.Math.max.name, .static Lib.Math.max.name, .initialized "java/lang/Math", .code Lib.Math.max.name Lib.Math.max.code 2 (some .int)] else bif Nat.beq e.2.2.1 999995 then [.methodLink own i Lib.Math.abs.name, .static Lib.Math.abs.name, .initialized "java/lang/Math", .code Lib.Math.abs.name Lib.Math.abs.code 1 (some .int)] else kwords ms zs own (e.1, .invokestatic i, e.2.2)
  | ig => kwords ms zs own (e.1, ig, e.2.2)
def ksideX (ms : List KMeth) (zs : KY) (own mname : String) (e : KEnt) : Bool := match e.2.1 with
  | .getfield i => Nat.beq e.2.2.1 99 || kside ms zs own mname (e.1, .getfield i, e.2.2)
  | .getstatic i => bif decide (own = "TriplicateForms$Tape") && Nat.beq i 70 then decide (zs[e.2.2.1]? = some ("TriplicateForms", "WORDS", "[LTriplicateForms$Word;")) else kside ms zs own mname (e.1, .getstatic i, e.2.2)
  | .ldc i => bif Nat.beq e.2.2.2.1 1 then kLd.any (fun q => decide (q.1 = own) && (Nat.beq q.2.1 i && Nat.beq q.2.2.2 e.2.2.1)) else kside ms zs own mname (e.1, .ldc i, e.2.2)
  | .invokevirtual i => Nat.beq e.2.2.1 999994 || (Nat.beq e.2.2.1 999993 || kside ms zs own mname (e.1, .invokevirtual i, e.2.2))
  | .invokestatic i => Nat.beq e.2.2.1 999996 || (Nat.beq e.2.2.1 999995 || kside ms zs own mname (e.1, .invokestatic i, e.2.2))
  | .lookupswitch _ ps => (ps.toList.zip (ps.toList.drop 1)).all (fun (a, next) => a.1 < next.1)
  | ig => kside ms zs own mname (e.1, ig, e.2.2)
def kEntX (ms : List KMeth) (zs : KY) (own mname : String) (cc : ByteArray) (x : KEnt) : Prop := kdec cc x = true ∧ (∀ w ∈ kwordsX ms zs own x, w ∈ LT) ∧ ksideX ms zs own mname x = true
theorem kTxt_len : ∀ l ∈ kTxt, l.length < 1000 := by decide
theorem kstr_g {a b : Nat} {l : List Int32} (h : (bif Nat.blt a b then none else kTxt[a - b]?) = some l) : ∃ i, a = b + i ∧ kTxt[i]? = some l := by
  cases hb : Nat.blt a b with
  | true => rw [hb] at h; cases h
  | false =>
    rw [hb] at h
    have h1 : b ≤ a := Nat.not_lt.mp fun q => by
      have h2 : Nat.blt a b = true := by rw [Nat.blt_eq]; exact q
      rw [h2] at hb
      cases hb
    exact ⟨a - b, by omega, h⟩
theorem kstr_ok {a : Nat} {l : List Int32} (h : kstr a = some l) : ∃ i, a = 1000200 + i ∧ kTxt[i]? = some l := kstr_g h
section KROWSX
variable {p : Program} {l : Launch} {e : Env} {R : Room} {s : State} {m : MethodId} {args : Array Value} {below : List Frame} {meth : Method} {cd : Code} {Q : State → Prop} {D : va_G} {dA : Nat → ClassId} {ρ : Nat → Int32} {A : Nat → Prop} {nL : Nat} {ad0 : Nat → Nat} {n0 : Nat} {cc : ByteArray} {own mname : String} {zs : KZ} {rg : List (Int × Int)}
variable {pc : Nat} {lo : List (Nat × KV)} {st : List KV} {w : KW} {c sl : Nat} {k : KF} {Rc Rs : Nat} {ms : List KMeth} {call : Nat → List KV → KW → Option (Option KV × KW)} {d : Nat} {X : KO}
theorem k_wal (F : kFix p s m args meth cd cc nL own mname D dA A zs ad0) (hX1 : zs.2 = some X) {L : Nat} (hX : kSc s A ad0 ρ L) (hd : decode cc pc = .ok (.arraylength, 1)) (h : kwal L pc lo st w c sl = some k) (g : kGo p l e R s m args below meth cd Q D dA ρ A nL ad0 n0 (k)) : kGo p l e R s m args below meth cd Q D dA ρ A nL ad0 n0 ((pc, lo, st, w, c, sl)) := by
  unfold kwal at h
  split at h
  · rename_i a rest
    cases hb : Nat.beq a 1000050 with
    | false =>
      rw [hb] at h
      exact k_alen F hX hd h g
    | true =>
      rw [hb] at h
      cases h
      have e := kb_t hb
      subst e
      intro ad H locs ls hat
      have hO := (F.2.2.2.2.2.2.2.2.1.by (fun i hi => hat.2.2.2.2.2 i (Or.inr hi))).2 X hX1
      exact va_tlen F.1 F.2.1 hO.2.1 hat.2.2.2.1 rfl hd (g ad H locs ls hat)
  · cases h
theorem k_wald (F : kFix p s m args meth cd cc nL own mname D dA A zs ad0) (hX1 : zs.2 = some X) (hd : decode cc pc = .ok (.aaload, 1)) (h : kwald pc lo st w c sl = some k) (g : kGo p l e R s m args below meth cd Q D dA ρ A nL ad0 n0 (k)) : kGo p l e R s m args below meth cd Q D dA ρ A nL ad0 n0 ((pc, lo, st, w, c, sl)) := by
  unfold kwald at h
  split at h
  · rename_i i a rest
    cases hb : Nat.beq a 1000050 with
    | false =>
      rw [hb] at h
      exact k_aald F hd h g
    | true =>
      rw [hb] at h
      obtain ⟨hi, h⟩ := kcond_inv h
      cases h
      have e := kb_t hb
      subst e
      intro ad H locs ls hat
      have hO := (F.2.2.2.2.2.2.2.2.1.by (fun i hi => hat.2.2.2.2.2 i (Or.inr hi))).2 X hX1
      exact vb_tq F.1 F.2.1 hO.2.1 hat.2.2.2.1 (kinB_ok hi) rfl hd (g ad H locs ls hat)
  · cases h
theorem k_slen (F : kFix p s m args meth cd cc nL own mname D dA A zs ad0) (hX1 : zs.2 = some X) (hRc : Rc ≤ R.cells) (hRs : Rs ≤ R.slots) (hRf : d + 6 ≤ R.frames) (hRl : 40 * d + 280 ≤ R.locals) {i : Nat} (h1 : Cond.methodLink own i ⟨"java/lang/String", "length", "()I"⟩ ∈ LT) (h2 : Cond.instanceMethod ⟨"java/lang/String", "length", "()I"⟩ ∈ LT) (h3 : Cond.selects "java/lang/String" ⟨"java/lang/String", "length", "()I"⟩ ⟨"java/lang/String", "length", "()I"⟩ ∈ LT) (hd : decode cc pc = .ok (.invokevirtual i, 3)) (h : kslen Rc Rs pc lo st w c sl = some k) (g : kGo p l e R s m args below meth cd Q D dA ρ A nL ad0 n0 (k)) : kGo p l e R s m args below meth cd Q D dA ρ A nL ad0 n0 ((pc, lo, st, w, c, sl)) := by
  unfold kslen at h
  split at h
  · rename_i a rest
    split at h
    · rename_i tl hs
      obtain ⟨hc, h⟩ := kcond_inv h
      cases h
      simp only [Bool.and_eq_true] at hc
      obtain ⟨c4, c5, c6⟩ := hc
      have c4 := Nat.ble_eq.mp c4
      have c5 := Nat.ble_eq.mp c5
      have c6 := Nat.ble_eq.mp c6
      obtain ⟨j, rfl, hj⟩ := kstr_ok hs
      intro ad H locs ls hat
      have hE : ∀ i, 1000000 ≤ i → ad i = ad0 i := fun i hi => hat.2.2.2.2.2 i (Or.inr hi)
      have hO := (F.2.2.2.2.2.2.2.2.1.by hE).2 X hX1
      obtain ⟨v, g1, -⟩ := hO.2.2.2.1 j tl hj
      have hrc : ∃ cell : Cell, H[ad (1000200 + j)]? = some cell ∧ cell.vm.isStatics = false ∧ s.vm.findClass "java/lang/String" = some cell.cls := by
        obtain ⟨cell, r1, r2, r3, -⟩ := g1.kept hat.2.2.2.1.2.1
        exact ⟨cell, r1, r2, r3⟩
      exact kj_after F (ad := ad) (rest := rest.map (kV ad ρ)) (r := some (.int (Int32.ofNat tl.length))) hat.2.2.1 hat.2.2.2.1 (va_runV (As := []) ⟨F.1, F.2.1, F.2.2.1, F.2.2.2.1, F.2.2.2.2.1⟩ (c_LE (D := D) (dA := dA) (ρ := ρ) (zs := zs) (ad := ad) (w := w) (sz := H.size) hX1 hj) (cwV 0 F.2.2.2.2.1 (kj_gV h1 h2 h3 kj_inS kj_cdLE) rfl rfl rfl ⟨rfl, by decide, by decide, by decide +kernel⟩ ⟨by show 1 + 1 ≤ _; omega, by show 8 + (1 + 11) + 40 * 1 ≤ _; omega⟩) ⟨kPg_blind, hrc, fun U hU hW => kj_pre F hE hat.2.1 hat.2.2.1 hat.2.2.2.1 _ (fun _ h => absurd h List.not_mem_nil) hU hW⟩ rfl rfl hat.1.1 rfl (lv_room (by rw [kcats_eq]; exact c6)) hd ⟨Nat.le_trans c4 hRc, Nat.le_trans c5 hRs⟩) (fun H' locs' hP' hS' => g ad H' locs' ls ⟨hat.1, hP', hat.2.2.1, hS', hat.2.2.2.2⟩)
    · cases h
  · cases h
theorem k_schr (F : kFix p s m args meth cd cc nL own mname D dA A zs ad0) (hX1 : zs.2 = some X) (hRc : Rc ≤ R.cells) (hRs : Rs ≤ R.slots) (hRf : d + 6 ≤ R.frames) (hRl : 40 * d + 280 ≤ R.locals) {i : Nat} (h1 : Cond.methodLink own i ⟨"java/lang/String", "charAt", "(I)C"⟩ ∈ LT) (h2 : Cond.instanceMethod ⟨"java/lang/String", "charAt", "(I)C"⟩ ∈ LT) (h3 : Cond.selects "java/lang/String" ⟨"java/lang/String", "charAt", "(I)C"⟩ ⟨"java/lang/String", "charAt", "(I)C"⟩ ∈ LT) (hd : decode cc pc = .ok (.invokevirtual i, 3)) (h : kschr Rc Rs pc lo st w c sl = some k) (g : kGo p l e R s m args below meth cd Q D dA ρ A nL ad0 n0 (k)) : kGo p l e R s m args below meth cd Q D dA ρ A nL ad0 n0 ((pc, lo, st, w, c, sl)) := by
  unfold kschr at h
  split at h
  · rename_i z a rest
    split at h
    · rename_i tl hs
      obtain ⟨hc, h⟩ := kcond_inv h
      cases h
      simp only [Bool.and_eq_true] at hc
      obtain ⟨c3, c4, c5, c6⟩ := hc
      have c3 := kinB_ok c3
      have c4 := Nat.ble_eq.mp c4
      have c5 := Nat.ble_eq.mp c5
      have c6 := Nat.ble_eq.mp c6
      obtain ⟨j, rfl, hj⟩ := kstr_ok hs
      intro ad H locs ls hat
      have hE : ∀ i, 1000000 ≤ i → ad i = ad0 i := fun i hi => hat.2.2.2.2.2 i (Or.inr hi)
      have hO := (F.2.2.2.2.2.2.2.2.1.by hE).2 X hX1
      obtain ⟨v, g1, -⟩ := hO.2.2.2.1 j tl hj
      have hrc : ∃ cell : Cell, H[ad (1000200 + j)]? = some cell ∧ cell.vm.isStatics = false ∧ s.vm.findClass "java/lang/String" = some cell.cls := by
        obtain ⟨cell, r1, r2, r3, -⟩ := g1.kept hat.2.2.2.1.2.1
        exact ⟨cell, r1, r2, r3⟩
      exact kj_after F (ad := ad) (rest := rest.map (kV ad ρ)) (r := some (.int (tl.getD z.toNatClampNeg 0 &&& 255))) hat.2.2.1 hat.2.2.2.1 (va_runV (As := [.int z]) ⟨F.1, F.2.1, F.2.2.1, F.2.2.2.1, F.2.2.2.2.1⟩ (c_CH (D := D) (dA := dA) (ρ := ρ) (zs := zs) (ad := ad) (w := w) (sz := H.size) hX1 hj (kTxt_len _ (List.mem_of_getElem? hj)) (fun q => c3 (Or.inl q)) (Nat.not_le.mp fun q => c3 (Or.inr q))) (cwV 1 F.2.2.2.2.1 (kj_gV h1 h2 h3 kj_inS kj_cdCH) rfl rfl rfl ⟨rfl, by decide, by decide, by decide +kernel⟩ ⟨by show 3 + 1 ≤ _; omega, by show 8 + (2 + 11) + 40 * 3 ≤ _; omega⟩) ⟨kPg_blind, hrc, fun U hU hW => kj_pre F hE hat.2.1 hat.2.2.1 hat.2.2.2.1 _ (fun _ h => absurd h List.not_mem_nil) hU hW⟩ rfl rfl hat.1.1 rfl (lv_room (by rw [kcats_eq]; exact c6)) hd ⟨Nat.le_trans c4 hRc, Nat.le_trans c5 hRs⟩) (fun H' locs' hP' hS' => g ad H' locs' ls ⟨hat.1, hP', hat.2.2.1, hS', hat.2.2.2.2⟩)
    · cases h
  · cases h
set_option maxHeartbeats 2000000 in
theorem k_onex (F : kFix p s m args meth cd cc nL own mname D dA A zs ad0) (hX1 : zs.2 = some X) (hr : kRg rg ρ) {L : Nat} (hX : kSc s A ad0 ρ L) (hC : kCalls l ms zs ρ call d) (hRc : Rc ≤ R.cells) (hRs : Rs ≤ R.slots) (hRf : d + 6 ≤ R.frames) (hRl : 40 * d + 280 ≤ R.locals) {ig : Instr} {x : KX} (hE : kEntX ms zs.1 own mname cc (pc, ig, x)) (h : kdx ig X call rg L nL Rc Rs x pc lo st w c sl = some k) (g : kGo p l e R s m args below meth cd Q D dA ρ A nL ad0 n0 (k)) : kGo p l e R s m args below meth cd Q D dA ρ A nL ad0 n0 ((pc, lo, st, w, c, sl)) := by
  obtain ⟨hdec, hw, hside⟩ := hE
  obtain ⟨len, hd, hlen⟩ := kdec_ok hdec
  replace hd : decode cc pc = .ok (ig, len) := hd
  replace hlen : klen ig = 0 ∨ len = klen ig := hlen
  have hx := F.1
  have hb := F.2.1
  have hts := F.2.2.2.2.1
  have hd2 : klen ig ≠ 0 → decode cc pc = .ok (ig, klen ig) := fun h0 => by
    rcases hlen with q | q
    · exact absurd q h0
    · rw [q] at hd; exact hd
  cases ig
  case ior => replace hd := hd2 (Nat.succ_ne_zero _); exact k_bin (fun H locs ls x y rest q => lv_ior hx hb hd q) h g
  case ixor => replace hd := hd2 (Nat.succ_ne_zero _); exact k_bin (fun H locs ls x y rest q => lv_ixor hx hb hd q) h g
  case ishr => replace hd := hd2 (Nat.succ_ne_zero _); exact k_bin (fun H locs ls x y rest q => lv_ishr hx hb hd q) h g
  case irem => replace hd := hd2 (Nat.succ_ne_zero _); exact k_rem F hd h g
  case ineg => replace hd := hd2 (Nat.succ_ne_zero _); exact k_un (fun H locs ls x rest q => lv_ineg hx hb hd q) h g
  case i2c => replace hd := hd2 (Nat.succ_ne_zero _); exact k_un (fun H locs ls x rest q => lv_i2c hx hb hd rfl q) h g
  case i2l => replace hd := hd2 (Nat.succ_ne_zero _); exact k_i2l F hd h g
  case l2i => replace hd := hd2 (Nat.succ_ne_zero _); exact k_l2i F hd h g
  case ladd => replace hd := hd2 (Nat.succ_ne_zero _); exact k_binL (fun H locs ls x y rest q => lv_ladd hx hb hd q) h g
  case lsub => replace hd := hd2 (Nat.succ_ne_zero _); exact k_binL (fun H locs ls x y rest q => lv_lsub hx hb hd q) h g
  case lmul => replace hd := hd2 (Nat.succ_ne_zero _); exact k_binL (fun H locs ls x y rest q => lv_lmul hx hb hd q) h g
  case ldiv => replace hd := hd2 (Nat.succ_ne_zero _); exact k_dvL (fun H locs ls x y rest hne q => lv_ldiv hx hb hd hne q) h g
  case lrem => replace hd := hd2 (Nat.succ_ne_zero _); exact k_dvL (fun H locs ls x y rest hne q => lv_lrem hx hb hd hne q) h g
  case lushr => replace hd := hd2 (Nat.succ_ne_zero _); exact k_lsr F hd h g
  case lcmp => replace hd := hd2 (Nat.succ_ne_zero _); exact k_cmpL F hd h g
  case ldc2_w i => replace hd := hd2 (Nat.succ_ne_zero _); exact k_ldc2 F (hw _ List.mem_cons_self) hd h g
  case lload_n n => replace hd := hd2 (Nat.succ_ne_zero _); exact k_lld (fun ad H locs ls x q1 q2 => lv_lload_n hx hb hd rfl q1 q2) h g
  case lload n => replace hd := hd2 (Nat.succ_ne_zero _); exact k_lld (fun ad H locs ls x q1 q2 => lv_lload hx hb hd q1 q2) h g
  case lstore_n n => replace hd := hd2 (Nat.succ_ne_zero _); exact k_lst2 (fun ad H locs ls x rest lv lv' q1 q2 q3 q4 => lv_lstore_n hx hb hd rfl q1 q2 q3 q4) h g
  case lstore n => replace hd := hd2 (Nat.succ_ne_zero _); exact k_lst2 (fun ad H locs ls x rest lv lv' q1 q2 q3 q4 => lv_lstore hx hb hd q1 q2 q3 q4) h g
  case caload => replace hd := hd2 (Nat.succ_ne_zero _); exact k_cald F hd h g
  case castore => replace hd := hd2 (Nat.succ_ne_zero _); exact k_cast F hd h g
  case lookupswitch a b => exact k_lk F hd hside h g
  case ifnonnull off => replace hd := hd2 (Nat.succ_ne_zero _); exact k_ifnn F hd h g
  case if_acmp cnd off => replace hd := hd2 (Nat.succ_ne_zero _); exact k_xacmp F (F.2.2.2.2.2.2.2.2.1.2 X hX1).1 hd h g
  case arraylength => replace hd := hd2 (Nat.succ_ne_zero _); exact k_wal F hX1 hX hd h g
  case aaload => replace hd := hd2 (Nat.succ_ne_zero _); exact k_wald F hX1 hd h g
  case ldc i =>
    replace hd := hd2 (Nat.succ_ne_zero _)
    replace h : (bif Nat.beq x.2.1 1 then some (pc + 2, lo, .inl (.ref (1000200 + x.1)) :: st, w, c, sl) else some (pc + 2, lo, .inl (.int (Int32.ofNat x.1)) :: st, w, c, sl)) = some k := h
    replace hside : (bif Nat.beq x.2.1 1 then kLd.any (fun q => decide (q.1 = own) && (Nat.beq q.2.1 i && Nat.beq q.2.2.2 x.1)) else kside ms zs.1 own mname (pc, .ldc i, x)) = true := hside
    replace hw : ∀ w ∈ (bif Nat.beq x.2.1 1 then [] else kwords ms zs.1 own (pc, .ldc i, x)), w ∈ LT := hw
    cases q1 : Nat.beq x.2.1 1 with
    | false =>
      rw [q1] at h hside hw
      exact k_one F hr (ks := none) (fun v q => by cases q) hX hC hRc hRs hRf hRl ⟨hdec, hw, hside⟩ h g
    | true =>
      rw [q1] at h hside
      cases h
      obtain ⟨q, hq, hq2⟩ := List.any_eq_true.mp hside
      simp only [Bool.and_eq_true] at hq2
      obtain ⟨z1, z2, z3⟩ := hq2
      have z1 := of_decide_eq_true z1
      have z2 := kb_t z2
      have z3 := kb_t z3
      intro ad H locs ls hat
      have hO := (F.2.2.2.2.2.2.2.2.1.by (fun i hi => hat.2.2.2.2.2 i (Or.inr hi))).2 X hX1
      have hv := hO.2.2.2.2.2.2.1 q hq
      rw [z1, z2, z3] at hv
      exact va_ldcS hx hb F.2.2.2.1 hv hd (g ad H locs ls hat)
  case getstatic i =>
    replace hd := hd2 (Nat.succ_ne_zero _)
    replace hside : (bif decide (own = "TriplicateForms$Tape") && Nat.beq i 70 then decide (zs.1[x.1]? = some ("TriplicateForms", "WORDS", "[LTriplicateForms$Word;")) else kside ms zs.1 own mname (pc, .getstatic i, x)) = true := hside
    replace hw : ∀ w ∈ (bif decide (own = "TriplicateForms$Tape") && Nat.beq i 70 then [] else kwords ms zs.1 own (pc, .getstatic i, x)), w ∈ LT := hw
    cases q1 : decide (own = "TriplicateForms$Tape") && Nat.beq i 70 with
    | false =>
      rw [q1] at hw hside
      exact k_one F hr (ks := none) (fun v q => by cases q) hX hC hRc hRs hRf hRl ⟨hdec, hw, hside⟩ h g
    | true =>
      rw [q1] at hside
      have q2 := Bool.and_eq_true_iff.mp q1
      have q3 := of_decide_eq_true q2.1
      have q4 := kb_t q2.2
      have hz : zs.1[x.1]? = some ("TriplicateForms", "WORDS", "[LTriplicateForms$Word;") := of_decide_eq_true hside
      cases h
      intro ad H locs ls hat
      have hOs := F.2.2.2.2.2.2.2.2.1.by (fun i hi => hat.2.2.2.2.2 i (Or.inr hi))
      have hnw := (hOs.2 X hX1).2.2.2.2.2.2.2
      rw [← q3, ← q4] at hnw
      exact va_getsN hx hb (hOs.1 x.1 _ hz) hat.2.2.2.1 F.2.2.2.1 (va_Nw.use rfl hnw) (fun _ h9 => h9) hd (g ad H locs ls hat)
  case getfield i =>
    replace hd := hd2 (Nat.succ_ne_zero _)
    replace h : kwget X.2 x.1 x.2.1 pc lo st w c sl = some k := h
    replace hside : (Nat.beq x.1 99 || kside ms zs.1 own mname (pc, .getfield i, x)) = true := hside
    replace hw : ∀ w ∈ (bif Nat.beq x.1 99 then [.fieldLink own i "TriplicateForms$Word" "letters" "J"] else kwords ms zs.1 own (pc, .getfield i, x)), w ∈ LT := hw
    have key : kgetf x.1 x.2.1 pc lo st w c sl = some k → kGo p l e R s m args below meth cd Q D dA ρ A nL ad0 n0 ((pc, lo, st, w, c, sl)) := fun h => by
      cases q1 : Nat.beq x.1 99 with
      | false =>
        rw [q1] at hw hside
        exact k_one F hr (ks := none) (fun v q => by cases q) hX hC hRc hRs hRf hRl ⟨hdec, hw, hside⟩ h g
      | true =>
        have q1 := kb_t q1
        unfold kgetf at h
        split at h
        · rename_i a rest
          split at h
          · rename_i cj fs hwg
            obtain ⟨hc, h⟩ := kcond_inv h
            have hc := kb_t hc
            intro ad H locs ls hat
            obtain ⟨q0, h1, -⟩ := kW_get (dA := dA) (ad := ad) (ρ := ρ) hwg
            obtain ⟨r, hr1, -⟩ := hat.2.1 q0 _ h1
            rw [hc, q1] at hr1
            cases (show (none : Option vw_C) = some r from hr1)
          · cases h
        · cases h
    unfold kwget at h
    split at h
    · rename_i a rest
      cases q2 : Nat.ble 1000000 a with
      | false =>
        rw [q2] at h
        exact key h
      | true =>
        rw [q2] at h
        simp only [cond_true] at h
        obtain ⟨hc, h⟩ := kcond_inv h
        cases h
        simp only [Bool.and_eq_true] at hc
        obtain ⟨c1, c2, c3⟩ := hc
        have c2 := Nat.ble_eq.mp c2
        have c3 := Nat.ble_eq.mp c3
        rw [c1] at hw
        obtain ⟨j, rfl⟩ : ∃ j, a = 1000100 + j := ⟨a - 1000100, (Nat.add_sub_cancel' c2).symm⟩
        intro ad H locs ls hat
        have hO := (F.2.2.2.2.2.2.2.2.1.by (fun i hi => hat.2.2.2.2.2 i (Or.inr hi))).2 X hX1
        exact vk_getf hx hb (hO.2.2.1 j (Nat.lt_of_add_lt_add_left (show 1000100 + j < 1000100 + 30 from Nat.lt_succ_of_le c3))) hat.2.2.2.1 F.2.2.2.1 (hts _ (hw _ List.mem_cons_self)) (fun _ h9 => h9) hd (g ad H locs ls hat)
    · cases h
  case invokevirtual i =>
    replace hd := hd2 (Nat.succ_ne_zero _)
    replace h : (bif Nat.beq x.1 999994 then kslen Rc Rs pc lo st w c sl else bif Nat.beq x.1 999993 then kschr Rc Rs pc lo st w c sl else kcallV call Rc Rs x pc lo st w c sl) = some k := h
    replace hside : (Nat.beq x.1 999994 || (Nat.beq x.1 999993 || kside ms zs.1 own mname (pc, .invokevirtual i, x))) = true := hside
    replace hw : ∀ w ∈ (bif Nat.beq x.1 999994 then [.methodLink own i ⟨"java/lang/String", "length", "()I"⟩, .instanceMethod ⟨"java/lang/String", "length", "()I"⟩, .selects "java/lang/String" ⟨"java/lang/String", "length", "()I"⟩ ⟨"java/lang/String", "length", "()I"⟩] else bif Nat.beq x.1 999993 then [.methodLink own i ⟨"java/lang/String", "charAt", "(I)C"⟩, .instanceMethod ⟨"java/lang/String", "charAt", "(I)C"⟩, .selects "java/lang/String" ⟨"java/lang/String", "charAt", "(I)C"⟩ ⟨"java/lang/String", "charAt", "(I)C"⟩] else kwords ms zs.1 own (pc, .invokevirtual i, x)), w ∈ LT := hw
    cases q1 : Nat.beq x.1 999994 with
    | true =>
      rw [q1] at h hw
      exact k_slen F hX1 hRc hRs hRf hRl (hw _ (by simp)) (hw _ (by simp)) (hw _ (by simp)) hd h g
    | false =>
      rw [q1] at h hw hside
      cases q2 : Nat.beq x.1 999993 with
      | true =>
        rw [q2] at h hw
        exact k_schr F hX1 hRc hRs hRf hRl (hw _ (by simp)) (hw _ (by simp)) (hw _ (by simp)) hd h g
      | false =>
        rw [q2] at h hw hside
        exact k_one F hr (ks := none) (fun v q => by cases q) hX hC hRc hRs hRf hRl ⟨hdec, hw, hside⟩ h g
  case invokestatic i =>
    replace hd := hd2 (Nat.succ_ne_zero _)
    replace h : (bif Nat.beq x.1 999996 then kmax rg Rc Rs pc lo st w c sl else bif Nat.beq x.1 999995 then kabs Rc Rs pc lo st w c sl else kdo (.invokestatic i) call rg none L nL Rc Rs x pc lo st w c sl) = some k := h
    replace hside : (Nat.beq x.1 999996 || (Nat.beq x.1 999995 || kside ms zs.1 own mname (pc, .invokestatic i, x))) = true := hside
    replace hw : ∀ w ∈ (bif Nat.beq x.1 999996 then [.methodLink own i Lib.Math.max.name, .static Lib.Math.max.name, .initialized "java/lang/Math", .code Lib.Math.max.name Lib.Math.max.code 2 (some .int)] else bif Nat.beq x.1 999995 then [.methodLink own i Lib.Math.abs.name, .static Lib.Math.abs.name, .initialized "java/lang/Math", .code Lib.Math.abs.name Lib.Math.abs.code 1 (some .int)] else kwords ms zs.1 own (pc, .invokestatic i, x)), w ∈ LT := hw
    have hfr : 1 ≤ R.frames := by omega
    have hlo : 40 ≤ R.locals := by omega
    cases q1 : Nat.beq x.1 999996 with
    | true =>
      rw [q1] at h hw
      exact k_max (rg := rg) F hRc hRs hfr hlo (hw _ (by simp)) (hw _ (by simp)) (hw _ (by simp)) (hw _ (by simp)) hd h g
    | false =>
      rw [q1] at h hw hside
      cases q2 : Nat.beq x.1 999995 with
      | true =>
        rw [q2] at h hw
        exact k_abs F hRc hRs hfr hlo (hw _ (by simp)) (hw _ (by simp)) (hw _ (by simp)) (hw _ (by simp)) hd h g
      | false =>
        rw [q2] at h hw hside
        exact k_one F hr (ks := none) (fun v q => by cases q) hX hC hRc hRs hRf hRl ⟨hdec, hw, hside⟩ h g
  all_goals exact k_one F hr (ks := none) (fun v q => by cases q) hX hC hRc hRs hRf hRl ⟨hdec, hw, hside⟩ h g
end KROWSX
end
section
/-! Runs of the machine with all instructions; its calls have contracts. -/
section KRUNX
variable {p : Program} {l : Launch} {e : Env} {R : Room} {s : State} {m : MethodId} {args : Array Value} {below : List Frame} {meth : Method} {cd : Code} {Q : State → Prop} {D : va_G} {dA : Nat → ClassId} {ρ : Nat → Int32} {A : Nat → Prop} {nL : Nat} {ad0 : Nat → Nat} {n0 : Nat} {cc : ByteArray} {own mname : String} {zs : KZ} {rg : List (Int × Int)}
variable {Rc Rs : Nat} {ms : List KMeth} {call : Nat → List KV → KW → Option (Option KV × KW)} {d : Nat} {prog : List KEnt} {L : Nat} {X : KO}
theorem k_runx (F : kFix p s m args meth cd cc nL own mname D dA A zs ad0) (hX1 : zs.2 = some X) (hr : kRg rg ρ) (hX : kSc s A ad0 ρ L) (hC : kCalls l ms zs ρ call d) (hRc : Rc ≤ R.cells) (hRs : Rs ≤ R.slots) (hRf : d + 6 ≤ R.frames) (hRl : 40 * d + 280 ≤ R.locals) (hP : ∀ x ∈ prog, kendx x.2.1 = false → kEntX ms zs.1 own mname cc x) :
    ∀ (n : Nat) (k : KF) (ig : Instr) (k' : KF), krx call X rg L nL Rc Rs prog n k = some (ig, k') → (∃ x, (k'.1, ig, x) ∈ prog) ∧ kendx ig = true ∧ (kGo p l e R s m args below meth cd Q D dA ρ A nL ad0 n0 (k') → kGo p l e R s m args below meth cd Q D dA ρ A nL ad0 n0 (k)) := by
  intro n
  induction n with
  | zero => intro k ig k' h; cases h
  | succ n ih =>
    intro k ig k' h
    obtain ⟨pc, lo, st, w, c, sl⟩ := k
    unfold krx at h
    split at h
    · cases h
    · rename_i x l1 hk
      obtain ⟨hb, h⟩ := kcond_inv h
      have e1 := kb_t hb
      have hm : x ∈ prog := kfrom_sub x (by rw [hk]; exact List.mem_cons_self)
      cases he : kendx x.2.1 with
      | true =>
        rw [he] at h
        simp only [cond_true] at h
        cases h
        refine ⟨⟨x.2.2, ?_⟩, he, id⟩
        rw [← e1]
        exact hm
      | false =>
        rw [he] at h
        simp only [cond_false] at h
        split at h
        · cases h
        · rename_i k1 hk1
          obtain ⟨h1, h2, h3⟩ := ih _ _ _ h
          refine ⟨h1, h2, fun g => ?_⟩
          have hx := hP x hm he
          have ex : x = (pc, x.2.1, x.2.2) := by rw [← e1]
          rw [ex] at hx
          exact k_onex F hX1 hr hX hC hRc hRs hRf hRl hx hk1 (h3 g)
end KRUNX
/-- the tables of the machine with all instructions are as they should be -/
def kOKX (ms : List KMeth) (zs : KY) : Prop := ∀ (mid : Nat) (r : KMeth), ms[mid]? = some r → (∀ x ∈ r.2.2.2.2.2.2, kEntX ms zs r.1.cls r.1.name r.2.1 x) ∧ plainName r.1.cls = true ∧ r.2.2.2.1 ≠ some .byte
set_option maxHeartbeats 4000000 in
theorem k_metx {l : Launch} {ms : List KMeth} {zs : KZ} {ρ : Nat → Int32} {X : KO} (hX1 : zs.2 = some X) (hok : kOKX ms zs.1) (f : Nat) : ∀ d : Nat, kCalls l ms zs ρ (kcallx ms X f d) d := by
  intro d
  induction d with
  | zero => intro mid r as w ret w' _ h; cases h
  | succ d ih =>
    intro mid r as w ret w' hmid h D dA ad sz
    unfold kcallx at h
    rw [hmid] at h
    obtain ⟨y, cc, maxL, rt, mc, msl, prog⟩ := r
    dsimp only at h
    have hq1 := kcond_inv h
    clear h
    obtain ⟨hc, h⟩ := hq1
    have hc := Bool.and_eq_true_iff.mp hc
    split at h
    · rename_i ig pc2 lo2 st2 w2 c2 s2 hrun
      have hq2 := kcond_inv h
      clear h
      obtain ⟨hcs, h⟩ := hq2
      have hcs := Bool.and_eq_true_iff.mp hcs
      split at h
      · rename_i r2 hret
        cases h
        obtain ⟨hP, hpl, hnb⟩ := hok mid _ hmid
        replace hnb : rt ≠ some .byte := hnb
        refine Met.ofW (cc := cc) (maxL := maxL) (ret := rt) hpl rfl ?_
        intro p e s m args below meth c s₁ B hml hv
        obtain ⟨rfl, hsz, hPw, hK, hD0, hZ, hN⟩ := hv
        have hts := atoms_spec (ws := kwsOf (y, cc, maxL, rt, mc, msl, prog)) B.pre
        have hlocks := B.notSynchronized
        have hrt := B.returns
        subst hsz
        have F : kFix p s m (as.map (kV ad ρ)).toArray meth c cc maxL y.cls y.name D dA (va_A (kW dA ad ρ w) s.heap.size) zs ad := ⟨B.exec, B.bytes, hml, findClass_of_methodNamed B.named, fun w hw => hts w (List.mem_cons_of_mem _ hw), hK, fun q h => Or.inr h, fun q => (name_of_methodNamed B.named B.method).1.trans q, hZ, hN⟩
        have hl := lv_entry (as.map (kV ad ρ)) (n := maxL) (by rw [ksl_len]; exact Nat.ble_eq.mp hc.1)
        rw [lg_entry_eq]
        generalize (lg_sl (as.map (kV ad ρ)) ++ List.replicate (maxL - (lg_sl (as.map (kV ad ρ))).length) Slot.unset).toArray = ls at hl ⊢
        rw [kargs_eq] at hl
        obtain ⟨⟨x, hx⟩, hend, hgo⟩ := k_runx (p := p) (e := e) (R := (headSpec (kwsOf (y, cc, maxL, rt, mc, msl, prog)) (krm (d + 1) (y, cc, maxL, rt, mc, msl, prog))).room) (s := s) (m := m) (below := below) (n0 := kfr 0 w)
          (Q := MQ below (kQc D dA ρ ad w ret w' s.heap.size) (as.map (kV ad ρ)).toArray s mc msl (va_A (kW dA ad ρ w) s.heap.size)) F hX1 (fun i lo hi h => by simp at h) (L := 0) (fun q => absurd q (Nat.lt_irrefl 0)) ih (Nat.le_refl _) (Nat.le_refl _) (Nat.le_refl _) (by show 40 * d + 280 ≤ 40 * (d + 1) + 240; omega) (fun x hx _ => hP x hx) f _ _ _ hrun
        refine hgo ?_ ad s.heap [] ls ⟨hl, hPw, hD0.self, va_S.rf, Nat.le_refl _, kExt.rf _ _⟩
        intro ad' H locs ls' hat
        obtain ⟨hl', hP', hD', hS', hn', hE'⟩ := hat
        obtain ⟨len, hd, hlen⟩ := kdec_ok (hP _ hx).1
        have fin : ∀ t : State, t.heap = H → s.WarmedH t.vm → ∀ oc : Outcome, oc = .returned (ret.map (kV ad' ρ)) → kQc D dA ρ ad w ret w' s.heap.size (as.map (kV ad ρ)).toArray s oc t := fun t ht hW oc hoc => ⟨⟨ad', hoc, hE', hn', by rw [ht]; exact hP', hD'⟩, hS'.F ht⟩
        refine W.widen (k := mc) (n := msl) (Nat.ble_eq.mp hcs.1) (Nat.ble_eq.mp hcs.2) ?_
        unfold kretx at hret
        split at hret
        · rcases hlen with q | q
          · exact absurd q (Nat.succ_ne_zero _)
          · subst q
            split at hret
            · cases hret
              exact W.vret B.exec B.bytes hrt (fun t ht hW => fin t ht hW _ rfl) hS'.2.2 hd
            · cases hret
        · rcases hlen with q | q
          · exact absurd q (Nat.succ_ne_zero _)
          · subst q
            split at hret
            · rename_i v
              cases hv : kisI v with
              | false => rw [hv] at hret; cases hret
              | true =>
                rw [hv] at hret; cases hret
                simp only [List.map_cons, List.map_nil]
                rw [kisI_eq hv]
                exact W.iret B.exec B.bytes hrt (fun t ht hW => fin t ht hW _ (by rw [Option.map_some, kisI_eq hv])) hS'.2.2 hd
            · rename_i v
              cases hv : decide (v = 0) || decide (v = 1) with
              | false => rw [hv] at hret; cases hret
              | true =>
                rw [hv] at hret; cases hret
                refine W.zret B.exec B.bytes hrt ?_ (fun t ht hW => fin t ht hW _ rfl) hS'.2.2 hd
                rcases Bool.or_eq_true_iff.mp hv with q | q <;> rw [of_decide_eq_true q] <;> rfl
            · exact absurd rfl hnb
            · cases hret
        · split at hret
          · exact absurd rfl hnb
          · cases hret
        · rcases hlen with q | q
          · exact absurd q (Nat.succ_ne_zero _)
          · subst q
            split at hret
            · cases hret
              exact W.lret B.exec B.bytes hrt (fun t ht hW => fin t ht hW _ rfl) hS'.2.2 hd
            · cases hret
        · cases hret
      · cases h
    · cases h
end
