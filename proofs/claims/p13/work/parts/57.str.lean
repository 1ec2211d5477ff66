/-! Texts: String.length() and charAt(), by their own code. -/
set_option maxRecDepth 100000 in
theorem kj_ws : ∀ w ∈ ([.fieldLink "java/lang/String" 38 "java/lang/String" "COMPACT_STRINGS" "Z", .fieldLink "java/lang/String" 9 "java/lang/String" "value" "[B", .fieldLink "java/lang/String" 15 "java/lang/String" "coder" "B", .fieldLink "java/lang/String" 1053 "jdk/internal/util/Preconditions" "SIOOBE_FORMATTER" "Ljava/util/function/BiFunction;", .methodLink "java/lang/String" 335 ⟨"java/lang/String", "coder", "()B"⟩, .instanceMethod ⟨"java/lang/String", "coder", "()B"⟩, .selects "java/lang/String" ⟨"java/lang/String", "coder", "()B"⟩ ⟨"java/lang/String", "coder", "()B"⟩, .methodLink "java/lang/String" 492 ⟨"java/lang/String", "isLatin1", "()Z"⟩, .instanceMethod ⟨"java/lang/String", "isLatin1", "()Z"⟩, .selects "java/lang/String" ⟨"java/lang/String", "isLatin1", "()Z"⟩ ⟨"java/lang/String", "isLatin1", "()Z"⟩, .methodLink "java/lang/String" 495 ⟨"java/lang/StringLatin1", "charAt", "([BI)C"⟩, .static ⟨"java/lang/StringLatin1", "charAt", "([BI)C"⟩, .methodLink "java/lang/StringLatin1" 9 ⟨"java/lang/String", "checkIndex", "(II)V"⟩, .static ⟨"java/lang/String", "checkIndex", "(II)V"⟩, .methodLink "java/lang/String" 1059 ⟨"jdk/internal/util/Preconditions", "checkIndex", "(IILjava/util/function/BiFunction;)I"⟩, .static ⟨"jdk/internal/util/Preconditions", "checkIndex", "(IILjava/util/function/BiFunction;)I"⟩, .initialized "java/lang/String", .initialized "java/lang/StringLatin1", .initialized "jdk/internal/util/Preconditions", .code ⟨"java/lang/String", "coder", "()B"⟩ prog_23_method_152_code 1 (some .byte), .code ⟨"java/lang/String", "length", "()I"⟩ prog_23_method_54_code 1 (some .int), .code ⟨"java/lang/String", "charAt", "(I)C"⟩ prog_23_method_56_code 2 (some .char), .code ⟨"java/lang/String", "isLatin1", "()Z"⟩ prog_23_method_154_code 1 (some .boolean), .code ⟨"java/lang/StringLatin1", "charAt", "([BI)C"⟩ prog_24_method_2_code 2 (some .char), .code ⟨"java/lang/String", "checkIndex", "(II)V"⟩ prog_23_method_155_code 2 none, .code ⟨"jdk/internal/util/Preconditions", "checkIndex", "(IILjava/util/function/BiFunction;)I"⟩ prog_32_method_11_code 3 (some .int)] : List Cond), w ∈ LT := kin_ok (ps := [1060, 2137, 2138, 1076, 1056, 1057, 1058, 1066, 1067, 1068, 1070, 1071, 1073, 1074, 1078, 1079, 157, 158, 159, 1059, 1055, 1065, 1069, 1072, 1075, 1080]) (by decide +kernel)
theorem kj_fl38 : (.fieldLink "java/lang/String" 38 "java/lang/String" "COMPACT_STRINGS" "Z" : Cond) ∈ LT := kj_ws _ (List.mem_of_getElem? (i := 0) rfl)
theorem kj_fl9 : (.fieldLink "java/lang/String" 9 "java/lang/String" "value" "[B" : Cond) ∈ LT := kj_ws _ (List.mem_of_getElem? (i := 1) rfl)
theorem kj_fl15 : (.fieldLink "java/lang/String" 15 "java/lang/String" "coder" "B" : Cond) ∈ LT := kj_ws _ (List.mem_of_getElem? (i := 2) rfl)
theorem kj_fl1053 : (.fieldLink "java/lang/String" 1053 "jdk/internal/util/Preconditions" "SIOOBE_FORMATTER" "Ljava/util/function/BiFunction;" : Cond) ∈ LT := kj_ws _ (List.mem_of_getElem? (i := 3) rfl)
theorem kj_ml335 : (.methodLink "java/lang/String" 335 ⟨"java/lang/String", "coder", "()B"⟩ : Cond) ∈ LT := kj_ws _ (List.mem_of_getElem? (i := 4) rfl)
theorem kj_imCO : (.instanceMethod ⟨"java/lang/String", "coder", "()B"⟩ : Cond) ∈ LT := kj_ws _ (List.mem_of_getElem? (i := 5) rfl)
theorem kj_seCO : (.selects "java/lang/String" ⟨"java/lang/String", "coder", "()B"⟩ ⟨"java/lang/String", "coder", "()B"⟩ : Cond) ∈ LT := kj_ws _ (List.mem_of_getElem? (i := 6) rfl)
theorem kj_ml492 : (.methodLink "java/lang/String" 492 ⟨"java/lang/String", "isLatin1", "()Z"⟩ : Cond) ∈ LT := kj_ws _ (List.mem_of_getElem? (i := 7) rfl)
theorem kj_imIL : (.instanceMethod ⟨"java/lang/String", "isLatin1", "()Z"⟩ : Cond) ∈ LT := kj_ws _ (List.mem_of_getElem? (i := 8) rfl)
theorem kj_seIL : (.selects "java/lang/String" ⟨"java/lang/String", "isLatin1", "()Z"⟩ ⟨"java/lang/String", "isLatin1", "()Z"⟩ : Cond) ∈ LT := kj_ws _ (List.mem_of_getElem? (i := 9) rfl)
theorem kj_ml495 : (.methodLink "java/lang/String" 495 ⟨"java/lang/StringLatin1", "charAt", "([BI)C"⟩ : Cond) ∈ LT := kj_ws _ (List.mem_of_getElem? (i := 10) rfl)
theorem kj_stS1 : (.static ⟨"java/lang/StringLatin1", "charAt", "([BI)C"⟩ : Cond) ∈ LT := kj_ws _ (List.mem_of_getElem? (i := 11) rfl)
theorem kj_ml9 : (.methodLink "java/lang/StringLatin1" 9 ⟨"java/lang/String", "checkIndex", "(II)V"⟩ : Cond) ∈ LT := kj_ws _ (List.mem_of_getElem? (i := 12) rfl)
theorem kj_stSC : (.static ⟨"java/lang/String", "checkIndex", "(II)V"⟩ : Cond) ∈ LT := kj_ws _ (List.mem_of_getElem? (i := 13) rfl)
theorem kj_ml1059 : (.methodLink "java/lang/String" 1059 ⟨"jdk/internal/util/Preconditions", "checkIndex", "(IILjava/util/function/BiFunction;)I"⟩ : Cond) ∈ LT := kj_ws _ (List.mem_of_getElem? (i := 14) rfl)
theorem kj_stPC : (.static ⟨"jdk/internal/util/Preconditions", "checkIndex", "(IILjava/util/function/BiFunction;)I"⟩ : Cond) ∈ LT := kj_ws _ (List.mem_of_getElem? (i := 15) rfl)
theorem kj_inS : (.initialized "java/lang/String" : Cond) ∈ LT := kj_ws _ (List.mem_of_getElem? (i := 16) rfl)
theorem kj_inL : (.initialized "java/lang/StringLatin1" : Cond) ∈ LT := kj_ws _ (List.mem_of_getElem? (i := 17) rfl)
theorem kj_inP : (.initialized "jdk/internal/util/Preconditions" : Cond) ∈ LT := kj_ws _ (List.mem_of_getElem? (i := 18) rfl)
theorem kj_cdCO : (.code ⟨"java/lang/String", "coder", "()B"⟩ prog_23_method_152_code 1 (some .byte) : Cond) ∈ LT := kj_ws _ (List.mem_of_getElem? (i := 19) rfl)
theorem kj_cdLE : (.code ⟨"java/lang/String", "length", "()I"⟩ prog_23_method_54_code 1 (some .int) : Cond) ∈ LT := kj_ws _ (List.mem_of_getElem? (i := 20) rfl)
theorem kj_cdCH : (.code ⟨"java/lang/String", "charAt", "(I)C"⟩ prog_23_method_56_code 2 (some .char) : Cond) ∈ LT := kj_ws _ (List.mem_of_getElem? (i := 21) rfl)
theorem kj_cdIL : (.code ⟨"java/lang/String", "isLatin1", "()Z"⟩ prog_23_method_154_code 1 (some .boolean) : Cond) ∈ LT := kj_ws _ (List.mem_of_getElem? (i := 22) rfl)
theorem kj_cdS1 : (.code ⟨"java/lang/StringLatin1", "charAt", "([BI)C"⟩ prog_24_method_2_code 2 (some .char) : Cond) ∈ LT := kj_ws _ (List.mem_of_getElem? (i := 23) rfl)
theorem kj_cdSC : (.code ⟨"java/lang/String", "checkIndex", "(II)V"⟩ prog_23_method_155_code 2 none : Cond) ∈ LT := kj_ws _ (List.mem_of_getElem? (i := 24) rfl)
theorem kj_cdPC : (.code ⟨"jdk/internal/util/Preconditions", "checkIndex", "(IILjava/util/function/BiFunction;)I"⟩ prog_32_method_11_code 3 (some .int) : Cond) ∈ LT := kj_ws _ (List.mem_of_getElem? (i := 25) rfl)
theorem kd_CO_0 : decode prog_23_method_152_code 0 = .ok (.getstatic 38, 3) := by decide +kernel
theorem kd_CO_3 : decode prog_23_method_152_code 3 = .ok (.ifCond .eq 10, 3) := by decide +kernel
theorem kd_CO_6 : decode prog_23_method_152_code 6 = .ok (.aload_n 0, 1) := by decide +kernel
theorem kd_CO_7 : decode prog_23_method_152_code 7 = .ok (.getfield 15, 3) := by decide +kernel
theorem kd_CO_10 : decode prog_23_method_152_code 10 = .ok (.goto 4, 3) := by decide +kernel
theorem kd_CO_13 : decode prog_23_method_152_code 13 = .ok (.iconst 1, 1) := by decide +kernel
theorem kd_CO_14 : decode prog_23_method_152_code 14 = .ok (.ireturn, 1) := by decide +kernel
theorem kd_LE_0 : decode prog_23_method_54_code 0 = .ok (.aload_n 0, 1) := by decide +kernel
theorem kd_LE_1 : decode prog_23_method_54_code 1 = .ok (.getfield 9, 3) := by decide +kernel
theorem kd_LE_4 : decode prog_23_method_54_code 4 = .ok (.arraylength, 1) := by decide +kernel
theorem kd_LE_5 : decode prog_23_method_54_code 5 = .ok (.aload_n 0, 1) := by decide +kernel
theorem kd_LE_6 : decode prog_23_method_54_code 6 = .ok (.invokevirtual 335, 3) := by decide +kernel
theorem kd_LE_9 : decode prog_23_method_54_code 9 = .ok (.ishr, 1) := by decide +kernel
theorem kd_LE_10 : decode prog_23_method_54_code 10 = .ok (.ireturn, 1) := by decide +kernel
theorem kd_CH_0 : decode prog_23_method_56_code 0 = .ok (.aload_n 0, 1) := by decide +kernel
theorem kd_CH_1 : decode prog_23_method_56_code 1 = .ok (.invokevirtual 492, 3) := by decide +kernel
theorem kd_CH_4 : decode prog_23_method_56_code 4 = .ok (.ifCond .eq 12, 3) := by decide +kernel
theorem kd_CH_7 : decode prog_23_method_56_code 7 = .ok (.aload_n 0, 1) := by decide +kernel
theorem kd_CH_8 : decode prog_23_method_56_code 8 = .ok (.getfield 9, 3) := by decide +kernel
theorem kd_CH_11 : decode prog_23_method_56_code 11 = .ok (.iload_n 1, 1) := by decide +kernel
theorem kd_CH_12 : decode prog_23_method_56_code 12 = .ok (.invokestatic 495, 3) := by decide +kernel
theorem kd_CH_15 : decode prog_23_method_56_code 15 = .ok (.ireturn, 1) := by decide +kernel
theorem kd_IL_0 : decode prog_23_method_154_code 0 = .ok (.getstatic 38, 3) := by decide +kernel
theorem kd_IL_3 : decode prog_23_method_154_code 3 = .ok (.ifCond .eq 14, 3) := by decide +kernel
theorem kd_IL_6 : decode prog_23_method_154_code 6 = .ok (.aload_n 0, 1) := by decide +kernel
theorem kd_IL_7 : decode prog_23_method_154_code 7 = .ok (.getfield 15, 3) := by decide +kernel
theorem kd_IL_10 : decode prog_23_method_154_code 10 = .ok (.ifCond .ne 7, 3) := by decide +kernel
theorem kd_IL_13 : decode prog_23_method_154_code 13 = .ok (.iconst 1, 1) := by decide +kernel
theorem kd_IL_14 : decode prog_23_method_154_code 14 = .ok (.goto 4, 3) := by decide +kernel
theorem kd_IL_17 : decode prog_23_method_154_code 17 = .ok (.iconst 0, 1) := by decide +kernel
theorem kd_IL_18 : decode prog_23_method_154_code 18 = .ok (.ireturn, 1) := by decide +kernel
theorem kd_S1_0 : decode prog_24_method_2_code 0 = .ok (.iload_n 1, 1) := by decide +kernel
theorem kd_S1_1 : decode prog_24_method_2_code 1 = .ok (.aload_n 0, 1) := by decide +kernel
theorem kd_S1_2 : decode prog_24_method_2_code 2 = .ok (.arraylength, 1) := by decide +kernel
theorem kd_S1_3 : decode prog_24_method_2_code 3 = .ok (.invokestatic 9, 3) := by decide +kernel
theorem kd_S1_6 : decode prog_24_method_2_code 6 = .ok (.aload_n 0, 1) := by decide +kernel
theorem kd_S1_7 : decode prog_24_method_2_code 7 = .ok (.iload_n 1, 1) := by decide +kernel
theorem kd_S1_8 : decode prog_24_method_2_code 8 = .ok (.baload, 1) := by decide +kernel
theorem kd_S1_9 : decode prog_24_method_2_code 9 = .ok (.sipush 255, 3) := by decide +kernel
theorem kd_S1_12 : decode prog_24_method_2_code 12 = .ok (.iand, 1) := by decide +kernel
theorem kd_S1_13 : decode prog_24_method_2_code 13 = .ok (.i2c, 1) := by decide +kernel
theorem kd_S1_14 : decode prog_24_method_2_code 14 = .ok (.ireturn, 1) := by decide +kernel
theorem kd_SC_0 : decode prog_23_method_155_code 0 = .ok (.iload_n 0, 1) := by decide +kernel
theorem kd_SC_1 : decode prog_23_method_155_code 1 = .ok (.iload_n 1, 1) := by decide +kernel
theorem kd_SC_2 : decode prog_23_method_155_code 2 = .ok (.getstatic 1053, 3) := by decide +kernel
theorem kd_SC_5 : decode prog_23_method_155_code 5 = .ok (.invokestatic 1059, 3) := by decide +kernel
theorem kd_SC_8 : decode prog_23_method_155_code 8 = .ok (.pop, 1) := by decide +kernel
theorem kd_SC_9 : decode prog_23_method_155_code 9 = .ok (.return_, 1) := by decide +kernel
theorem kd_PC_0 : decode prog_32_method_11_code 0 = .ok (.iload_n 0, 1) := by decide +kernel
theorem kd_PC_1 : decode prog_32_method_11_code 1 = .ok (.ifCond .lt 8, 3) := by decide +kernel
theorem kd_PC_4 : decode prog_32_method_11_code 4 = .ok (.iload_n 0, 1) := by decide +kernel
theorem kd_PC_5 : decode prog_32_method_11_code 5 = .ok (.iload_n 1, 1) := by decide +kernel
theorem kd_PC_6 : decode prog_32_method_11_code 6 = .ok (.if_icmp .lt 10, 3) := by decide +kernel
theorem kd_PC_16 : decode prog_32_method_11_code 16 = .ok (.iload_n 0, 1) := by decide +kernel
theorem kd_PC_17 : decode prog_32_method_11_code 17 = .ok (.ireturn, 1) := by decide +kernel
/-! the contracts' starts and ends: a world that stays, some rows of bytes outside -/
def kPg (D : va_G) (dA : Nat → ClassId) (ρ : Nat → Int32) (zs : KZ) (ad : Nat → Nat) (w : KW) (vs : List Value) (ts : List (Nat × Nat × (Nat → Value))) (sz : Nat) : Array Value → State → Prop := va_Pc vs (fun U => U.heap.size = sz ∧ va_P D kCl (kW dA ad ρ w) U.heap ∧ va_K D kCl (kTyL dA) U ∧ va_D (fun _ => True) (kW dA ad ρ w) ∧ kOuts zs ad (va_A (kW dA ad ρ w) sz) U U.heap ∧ kSt U ∧ ∀ q ∈ ts, va_T .byte q.1 q.2.1 q.2.2 (va_A (kW dA ad ρ w) sz) U U.heap)
def kQj (D : va_G) (dA : Nat → ClassId) (ρ : Nat → Int32) (ad : Nat → Nat) (w : KW) (r : Option Value) (sz : Nat) : Array Value → State → Outcome → State → Prop := fun _ st oc t => (oc = .returned r ∧ va_P D kCl (kW dA ad ρ w) t.heap) ∧ va_F (va_A (kW dA ad ρ w) sz) st t
theorem kPg_blind {D : va_G} {dA : Nat → ClassId} {ρ : Nat → Int32} {zs : KZ} {ad : Nat → Nat} {w : KW} {vs : List Value} {ts : List (Nat × Nat × (Nat → Value))} {sz : Nat} : FrameBlind (kPg D dA ρ zs ad w vs ts sz) := by
  intro a U g mk q
  obtain ⟨q0, q1, qP, qK, qD, qZ, qN, qT⟩ := q
  exact ⟨q0, q1, qP, va_K.moved (u := U) (U := U.calling g mk a) (Vm.Alike.refl U.vm) qK, qD, kOuts.same (u := U) (U := U.calling g mk a) rfl qZ, qN.same (u := U) (U := U.calling g mk a) rfl, fun q hq => va_T.moved (u := U) (U := U.calling g mk a) (Vm.Alike.refl U.vm) (qT q hq)⟩
section KJ
variable {p : Program} {l : Launch} {e : Env} {R : Room} {s : State} {m : MethodId} {args : Array Value} {below : List Frame} {meth : Method} {cd : Code} {Q : State → Prop} {D : va_G} {dA : Nat → ClassId} {ρ : Nat → Int32} {A : Nat → Prop} {nL : Nat} {ad0 : Nat → Nat} {n0 : Nat} {cc : ByteArray} {own mname : String} {zs : KZ} {rg : List (Int × Int)}
variable {pc : Nat} {w : KW} {c sl : Nat}
theorem kj_pre (F : kFix p s m args meth cd cc nL own mname D dA A zs ad0) {ad : Nat → Nat} {H : Heap} {locs : List Loc} (hE : ∀ i, 1000000 ≤ i → ad i = ad0 i) (hP : va_P D kCl (kW dA ad ρ w) H) (hD : va_D A (kW dA ad ρ w)) (hS : va_S A s.heap H locs) (vs : List Value) {ts : List (Nat × Nat × (Nat → Value))} (hT : ∀ q ∈ ts, va_T .byte q.1 q.2.1 q.2.2 A s s.heap) {U : State} (hU : U.heap = H) (hW : s.WarmedH U.vm) : kPg D dA ρ zs ad w vs ts H.size vs.toArray U := by
  have hn : ∀ q, va_A (kW dA ad ρ w) H.size q → A q := fun q hq => by
    rcases hq with ⟨j, x, hj⟩ | hq
    · exact hD.2 j (q, x) hj
    · exact F.2.2.2.2.2.2.1 q (Nat.le_trans hS.1 hq)
  refine ⟨rfl, by rw [hU], by rw [hU]; exact hP, va_K.moved hW.alike F.2.2.2.2.2.1, hD.weaken (fun _ _ _ _ => trivial), ?_, F.2.2.2.2.2.2.2.2.2.warm hW, fun q hq => ?_⟩
  · rw [hU]
    exact (((F.2.2.2.2.2.2.2.2.1.by hE).warm hW).kept hS.2.1).narrow hn
  · rw [hU]
    exact ((va_T.moved hW.alike (hT q hq)).kept hS.2.1).narrow hn
theorem kj_after (F : kFix p s m args meth cd cc nL own mname D dA A zs ad0) {ad : Nat → Nat} {H : Heap} {locs : List Loc} {ls : Array Slot} (hD : va_D A (kW dA ad ρ w)) (hS : va_S A s.heap H locs) {st0 rest : List Value} {r : Option Value} {a : Array Value}
    (hr : va_Run p l e R s m args below meth cd H locs c sl 0 0 (F0 m pc ls st0) rest (kQj D dA ρ ad w r H.size a) (va_A (kW dA ad ρ w) H.size)) (g : ∀ (H' : Heap) (locs' : List Loc), va_P D kCl (kW dA ad ρ w) H' → va_S A s.heap H' locs' → W p l e R s m args below meth cd H' locs' c sl Q (F0 m (pc + 3) ls (r.toList ++ rest))) :
    W p l e R s m args below meth cd H locs c sl Q (F0 m pc ls st0) := by
  have hf : ∀ q, va_A (kW dA ad ρ w) H.size q → A q := fun q hq => by
    rcases hq with ⟨j, x, hj⟩ | hq
    · exact hD.2 j (q, x) hj
    · exact F.2.2.2.2.2.2.1 q (Nat.le_trans hS.1 hq)
  intro T hT X
  obtain ⟨v, st₀, t, T', L, h0, X', hL, e1, e2, ⟨⟨hv, hP'⟩, hz, hk⟩, stp⟩ := hr T hT X
  cases hv
  rw [h0] at hz hk
  have g1 := g T'.heap (locs ++ L) (by rw [e1]; exact hP') ⟨Nat.le_trans hS.1 (by rw [e1]; exact hz), fun q h1 h2 => by rw [e1, hk q (Nat.lt_of_lt_of_le h1 hS.1) (fun z => h2 (hf q z))]; exact hS.2.1 q h1 h2, fun q hq => by
      rcases List.mem_append.mp hq with h | h
      · exact hS.2.2 q h
      · exact hf _ (hL q h)⟩
  obtain ⟨t2, a1, b1⟩ := g1 T' rfl X'
  exact ⟨t2, stp t2 a1, b1⟩
end KJ
theorem kj_gV {own C : String} {i n : Nat} {y : MethodName} {b : ByteArray} {ret : Option FieldType} (h1 : Cond.methodLink own i y ∈ LT) (h2 : Cond.instanceMethod y ∈ LT) (h3 : Cond.selects C y y ∈ LT) (h4 : Cond.initialized C ∈ LT) (h5 : Cond.code y b n ret ∈ LT) : GoodIn LT (wsV own i C y (.code y b n ret :: LT)) := goodLT (fun w hw => by
  rcases List.mem_append.mp hw with hw | hw
  · simp only [List.mem_cons, List.not_mem_nil, or_false] at hw
    rcases hw with e | e | e | e <;> rw [e] <;> assumption
  · rcases List.mem_cons.mp hw with e | hw
    · rw [e]; exact h5
    · exact hw)
theorem kj_gS {own : String} {i n : Nat} {y : MethodName} {b : ByteArray} {ret : Option FieldType} (h1 : Cond.methodLink own i y ∈ LT) (h2 : Cond.static y ∈ LT) (h4 : Cond.initialized y.cls ∈ LT) (h5 : Cond.code y b n ret ∈ LT) : GoodIn LT (va_wsS own i y (.code y b n ret :: LT)) := goodLT (fun w hw => by
  rcases List.mem_append.mp hw with hw | hw
  · simp only [List.mem_cons, List.not_mem_nil, or_false] at hw
    rcases hw with e | e | e <;> rw [e] <;> assumption
  · rcases List.mem_cons.mp hw with e | hw
    · rw [e]; exact h5
    · exact hw)
def kj_rm (d : Nat) : Room := { frames := d, cells := 0, slots := 0, locals := 40 * d }
theorem c_PC {l : Launch} {D : va_G} {dA : Nat → ClassId} {ρ : Nat → Int32} {zs : KZ} {ad : Nat → Nat} {w : KW} {sz : Nat} {k n : Int32} {v : Value} (hv0 : v = .null ∨ ∃ t : Nat, v = .ref t) (h0 : ¬ k < 0) (h1 : k < n) : Met l ⟨"jdk/internal/util/Preconditions", "checkIndex", "(IILjava/util/function/BiFunction;)I"⟩ (.code ⟨"jdk/internal/util/Preconditions", "checkIndex", "(IILjava/util/function/BiFunction;)I"⟩ prog_32_method_11_code 3 (some .int) :: LT) (kj_rm 0) (kPg D dA ρ zs ad w [.int k, .int n, v] [] sz) (kQj D dA ρ ad w (some (.int k)) sz) 0 0 (va_A (kW dA ad ρ w) sz) := by
  refine Met.ofW (cc := prog_32_method_11_code) (maxL := 3) (ret := (some .int)) (by decide) rfl ?_
  intro p e s m args below meth c s₁ B hml hv
  obtain ⟨rfl, hsz, hPw, hK, hD0, hZ, hN, hT⟩ := hv
  have hts := atoms_spec (ws := .code ⟨"jdk/internal/util/Preconditions", "checkIndex", "(IILjava/util/function/BiFunction;)I"⟩ prog_32_method_11_code 3 (some .int) :: LT) B.pre
  have hlocks := B.notSynchronized
  have hrt := B.returns
  subst hsz
  have F : kFix p s m ([.int k, .int n, v] : List Value).toArray meth c prog_32_method_11_code 3 "jdk/internal/util/Preconditions" "checkIndex" D dA (va_A (kW dA ad ρ w) s.heap.size) zs ad := ⟨B.exec, B.bytes, hml, findClass_of_methodNamed B.named, fun w hw => hts w (List.mem_cons_of_mem _ hw), hK, fun q h => Or.inr h, fun q => (name_of_methodNamed B.named B.method).1.trans q, hZ, hN⟩
  have hD := hD0.self (sz := s.heap.size)
  have hx := F.1
  have hb := F.2.1
  have hown := F.2.2.2.1
  have htl := F.2.2.2.2.1
  have hS : va_S (va_A (kW dA ad ρ w) s.heap.size) s.heap s.heap [] := va_S.rf
  have hl := lv_entry ([.int k, .int n, v]) (n := 3) (by rcases hv0 with rfl | ⟨t, rfl⟩ <;> exact Nat.le_of_ble_eq_true rfl)
  rw [lg_entry_eq]
  generalize (lg_sl ([.int k, .int n, v]) ++ List.replicate (3 - (lg_sl ([.int k, .int n, v])).length) Slot.unset).toArray = ls at hl ⊢
  have hl : lv_has ls 3 [(0, .int k), (1, .int n)] := by
    rcases hv0 with rfl | ⟨t, rfl⟩
    · have hl : lv_has ls 3 [(0, .int k), (1, .int n), (2, .null)] := hl
      exact lv_sub hl [0, 1] rfl
    · have hl : lv_has ls 3 [(0, .int k), (1, .int n), (2, .ref t)] := hl
      exact lv_sub hl [0, 1] rfl
  refine lv_iload_n hx hb kd_PC_0 rfl (lv_at hl 0 rfl) ?_
  refine lv_if_lt hx hb kd_PC_1 (tgt := 9) rfl (fun h => absurd h h0) (fun _ => ?_)
  refine lv_iload_n hx hb kd_PC_4 rfl (lv_at hl 0 rfl) ?_
  refine lv_iload_n hx hb kd_PC_5 rfl (lv_at hl 1 rfl) ?_
  refine lv_icmp_lt hx hb kd_PC_6 (tgt := 16) rfl (fun _ => ?_) (fun h => absurd h1 h)
  refine lv_iload_n hx hb kd_PC_16 rfl (lv_at hl 0 rfl) ?_
  exact W.zret hx hb hrt rfl (fun t ht hW => ⟨⟨rfl, by rw [ht]; exact hPw⟩, hS.F ht⟩) hS.2.2 kd_PC_17
theorem c_SC {l : Launch} {D : va_G} {dA : Nat → ClassId} {ρ : Nat → Int32} {zs : KZ} {ad : Nat → Nat} {w : KW} {sz : Nat} {k n : Int32} {X : KO} (hX : zs.2 = some X) (h0 : ¬ k < 0) (h1 : k < n) : Met l ⟨"java/lang/String", "checkIndex", "(II)V"⟩ (.code ⟨"java/lang/String", "checkIndex", "(II)V"⟩ prog_23_method_155_code 2 none :: LT) (kj_rm 1) (kPg D dA ρ zs ad w [.int k, .int n] [] sz) (kQj D dA ρ ad w none sz) 0 0 (va_A (kW dA ad ρ w) sz) := by
  refine Met.ofW (cc := prog_23_method_155_code) (maxL := 2) (ret := none) (by decide) rfl ?_
  intro p e s m args below meth c s₁ B hml hv
  obtain ⟨rfl, hsz, hPw, hK, hD0, hZ, hN, hT⟩ := hv
  have hts := atoms_spec (ws := .code ⟨"java/lang/String", "checkIndex", "(II)V"⟩ prog_23_method_155_code 2 none :: LT) B.pre
  have hlocks := B.notSynchronized
  have hrt := B.returns
  subst hsz
  have F : kFix p s m ([.int k, .int n] : List Value).toArray meth c prog_23_method_155_code 2 "java/lang/String" "checkIndex" D dA (va_A (kW dA ad ρ w) s.heap.size) zs ad := ⟨B.exec, B.bytes, hml, findClass_of_methodNamed B.named, fun w hw => hts w (List.mem_cons_of_mem _ hw), hK, fun q h => Or.inr h, fun q => (name_of_methodNamed B.named B.method).1.trans q, hZ, hN⟩
  have hD := hD0.self (sz := s.heap.size)
  have hx := F.1
  have hb := F.2.1
  have hown := F.2.2.2.1
  have htl := F.2.2.2.2.1
  have hS : va_S (va_A (kW dA ad ρ w) s.heap.size) s.heap s.heap [] := va_S.rf
  have hl := lv_entry ([.int k, .int n]) (n := 2) (Nat.le_of_ble_eq_true rfl)
  rw [lg_entry_eq]
  generalize (lg_sl ([.int k, .int n]) ++ List.replicate (2 - (lg_sl ([.int k, .int n])).length) Slot.unset).toArray = ls at hl ⊢
  have hl : lv_has ls 2 [(0, .int k), (1, .int n)] := hl
  have hO := hZ.2 X hX
  refine lv_iload_n hx hb kd_SC_0 rfl (lv_at hl 0 rfl) ?_
  refine lv_iload_n hx hb kd_SC_1 rfl (lv_at hl 1 rfl) ?_
  obtain ⟨v, hv0, hv1⟩ : ∃ v : Value, (v = .null ∨ ∃ t : Nat, v = .ref t) ∧ va_Z "jdk/internal/util/Preconditions" "SIOOBE_FORMATTER" "Ljava/util/function/BiFunction;" v (va_A (kW dA ad ρ w) s.heap.size) s s.heap := by
    rcases hO.2.2.2.2.2.1 with h | ⟨t, h⟩
    · exact ⟨_, Or.inl rfl, h⟩
    · exact ⟨_, Or.inr ⟨t, rfl⟩, h⟩
  refine va_gets hx hb hv1 hS hown (htl _ kj_fl1053) (fun _ h => h) kd_SC_2 ?_
  refine kj_after F (rest := []) (r := some (.int k)) hD hS (va_runS ⟨hx, hb, hml, hown, htl⟩ (c_PC (D := D) (dA := dA) (ρ := ρ) (zs := zs) (ad := ad) (w := w) (sz := s.heap.size) (k := k) (n := n) (v := v) hv0 h0 h1) (va_cwS 3 htl (kj_gS kj_ml1059 kj_stPC kj_inP kj_cdPC) rfl rfl rfl ⟨by decide, by decide, by decide +kernel⟩ ⟨Nat.le_refl _, Nat.le_of_ble_eq_true rfl⟩) ⟨kPg_blind, fun U hU hW => kj_pre F (fun _ _ => rfl) hPw hD hS _ (fun _ h => absurd h List.not_mem_nil) hU hW⟩ rfl rfl hl.1 rfl (Nat.le_of_ble_eq_true rfl) kd_SC_5 ⟨Nat.zero_le _, Nat.zero_le _⟩) (fun H' locs' hP' hS' => ?_)
  refine lv_pop hx hb kd_SC_8 rfl ?_
  exact W.vret hx hb hrt (fun t ht hW => ⟨⟨rfl, by rw [ht]; exact hP'⟩, hS'.F ht⟩) hS'.2.2 kd_SC_9
theorem kj_c (y : Int32) : ((y &&& 255).toUInt32 % 65536).toInt32 = y &&& 255 := by
  have h : (y &&& 255).toUInt32.toNat ≤ 255 := by
    have e : (y &&& 255).toUInt32 = y.toUInt32 &&& 255 := rfl
    rw [e, UInt32.toNat_and]
    exact Nat.and_le_right
  have e : (y &&& 255).toUInt32 % 65536 = (y &&& 255).toUInt32 := UInt32.toNat_inj.mp (by
    rw [UInt32.toNat_mod]
    exact Nat.mod_eq_of_lt (Nat.lt_of_le_of_lt h (by decide)))
  rw [e]
  rfl
theorem kj_cn (y : Int32) : narrow .char (.int (y &&& 255)) = .int (y &&& 255) := by
  show Value.int _ = _
  congr 1
  exact kj_c y
theorem c_S1 {l : Launch} {D : va_G} {dA : Nat → ClassId} {ρ : Nat → Int32} {zs : KZ} {ad : Nat → Nat} {w : KW} {sz : Nat} {k y : Int32} {v n : Nat} {f : Nat → Value} {X : KO} (hX : zs.2 = some X) (h0 : ¬ k < 0) (h1 : k.toNatClampNeg < n) (hn : n < 1000) (hf : f k.toNatClampNeg = .int y) : Met l ⟨"java/lang/StringLatin1", "charAt", "([BI)C"⟩ (.code ⟨"java/lang/StringLatin1", "charAt", "([BI)C"⟩ prog_24_method_2_code 2 (some .char) :: LT) (kj_rm 2) (kPg D dA ρ zs ad w [.ref v, .int k] [(v, n, f)] sz) (kQj D dA ρ ad w (some (.int (y &&& 255))) sz) 0 0 (va_A (kW dA ad ρ w) sz) := by
  refine Met.ofW (cc := prog_24_method_2_code) (maxL := 2) (ret := (some .char)) (by decide) rfl ?_
  intro p e s m args below meth c s₁ B hml hv
  obtain ⟨rfl, hsz, hPw, hK, hD0, hZ, hN, hT⟩ := hv
  have hts := atoms_spec (ws := .code ⟨"java/lang/StringLatin1", "charAt", "([BI)C"⟩ prog_24_method_2_code 2 (some .char) :: LT) B.pre
  have hlocks := B.notSynchronized
  have hrt := B.returns
  subst hsz
  have F : kFix p s m ([.ref v, .int k] : List Value).toArray meth c prog_24_method_2_code 2 "java/lang/StringLatin1" "charAt" D dA (va_A (kW dA ad ρ w) s.heap.size) zs ad := ⟨B.exec, B.bytes, hml, findClass_of_methodNamed B.named, fun w hw => hts w (List.mem_cons_of_mem _ hw), hK, fun q h => Or.inr h, fun q => (name_of_methodNamed B.named B.method).1.trans q, hZ, hN⟩
  have hD := hD0.self (sz := s.heap.size)
  have hx := F.1
  have hb := F.2.1
  have hown := F.2.2.2.1
  have htl := F.2.2.2.2.1
  have hS : va_S (va_A (kW dA ad ρ w) s.heap.size) s.heap s.heap [] := va_S.rf
  have hl := lv_entry ([.ref v, .int k]) (n := 2) (Nat.le_of_ble_eq_true rfl)
  rw [lg_entry_eq]
  generalize (lg_sl ([.ref v, .int k]) ++ List.replicate (2 - (lg_sl ([.ref v, .int k])).length) Slot.unset).toArray = ls at hl ⊢
  have hl : lv_has ls 2 [(0, .ref v), (1, .int k)] := hl
  have hTv : va_T .byte v n f (va_A (kW dA ad ρ w) s.heap.size) s s.heap := hT (v, n, f) List.mem_cons_self
  have hk : k < Int32.ofNat n := by
    have e1 : (0 : Int) ≤ k.toInt := by
      have := Int32.not_lt.mp h0
      simpa using Int32.le_iff_toInt_le.mp this
    have e2 : (k.toNatClampNeg : Int) = k.toInt := by
      show ((k.toInt.toNat : Nat) : Int) = k.toInt
      omega
    have e3 : (Int32.ofNat n).toInt = (n : Int) := Int32.toInt_ofNat_of_lt (by omega)
    rw [Int32.lt_iff_toInt_lt, e3]
    omega
  refine lv_iload_n hx hb kd_S1_0 rfl (lv_at hl 1 rfl) ?_
  refine lv_aload_n hx hb kd_S1_1 rfl (lv_at hl 0 rfl) ?_
  refine va_tlen hx hb hTv hS rfl kd_S1_2 ?_
  refine kj_after F (rest := []) (r := none) hD hS (va_runS ⟨hx, hb, hml, hown, htl⟩ (c_SC (D := D) (dA := dA) (ρ := ρ) (zs := zs) (ad := ad) (w := w) (sz := s.heap.size) (k := k) (n := Int32.ofNat n) hX h0 hk) (va_cwS 2 htl (kj_gS kj_ml9 kj_stSC kj_inS kj_cdSC) rfl rfl rfl ⟨by decide, by decide, by decide +kernel⟩ ⟨Nat.le_refl _, Nat.le_of_ble_eq_true rfl⟩) ⟨kPg_blind, fun U hU hW => kj_pre F (fun _ _ => rfl) hPw hD hS _ (fun _ h => absurd h List.not_mem_nil) hU hW⟩ rfl rfl hl.1 rfl (Nat.le_of_ble_eq_true rfl) kd_S1_3 ⟨Nat.zero_le _, Nat.zero_le _⟩) (fun H' locs' hP' hS' => ?_)
  refine lv_aload_n hx hb kd_S1_6 rfl (lv_at hl 0 rfl) ?_
  refine lv_iload_n hx hb kd_S1_7 rfl (lv_at hl 1 rfl) ?_
  refine va_tb hx hb hTv hS' (fun q => q.elim h0 (fun q => absurd h1 (Nat.not_lt.mpr q))) hf kd_S1_8 ?_
  refine lv_sipush (v := 255) hx hb kd_S1_9 (by decide) ?_
  refine lv_iand hx hb kd_S1_12 ?_
  refine lv_i2c (v := y &&& 255) hx hb kd_S1_13 (kj_c y) ?_
  exact W.zret hx hb hrt (kj_cn y) (fun t ht hW => ⟨⟨rfl, by rw [ht]; exact hP'⟩, hS'.F ht⟩) hS'.2.2 kd_S1_14
theorem c_CO {l : Launch} {D : va_G} {dA : Nat → ClassId} {ρ : Nat → Int32} {zs : KZ} {ad : Nat → Nat} {w : KW} {sz : Nat} {i : Nat} {tl : List Int32} {X : KO} (hX : zs.2 = some X) (hi : kTxt[i]? = some tl) : Met l ⟨"java/lang/String", "coder", "()B"⟩ (.code ⟨"java/lang/String", "coder", "()B"⟩ prog_23_method_152_code 1 (some .byte) :: LT) (kj_rm 0) (kPg D dA ρ zs ad w [.ref (ad (1000200 + i))] [] sz) (kQj D dA ρ ad w (some (.int 0)) sz) 0 0 (va_A (kW dA ad ρ w) sz) := by
  refine Met.ofW (cc := prog_23_method_152_code) (maxL := 1) (ret := (some .byte)) (by decide) rfl ?_
  intro p e s m args below meth c s₁ B hml hv
  obtain ⟨rfl, hsz, hPw, hK, hD0, hZ, hN, hT⟩ := hv
  have hts := atoms_spec (ws := .code ⟨"java/lang/String", "coder", "()B"⟩ prog_23_method_152_code 1 (some .byte) :: LT) B.pre
  have hlocks := B.notSynchronized
  have hrt := B.returns
  subst hsz
  have F : kFix p s m ([.ref (ad (1000200 + i))] : List Value).toArray meth c prog_23_method_152_code 1 "java/lang/String" "coder" D dA (va_A (kW dA ad ρ w) s.heap.size) zs ad := ⟨B.exec, B.bytes, hml, findClass_of_methodNamed B.named, fun w hw => hts w (List.mem_cons_of_mem _ hw), hK, fun q h => Or.inr h, fun q => (name_of_methodNamed B.named B.method).1.trans q, hZ, hN⟩
  have hD := hD0.self (sz := s.heap.size)
  have hx := F.1
  have hb := F.2.1
  have hown := F.2.2.2.1
  have htl := F.2.2.2.2.1
  have hS : va_S (va_A (kW dA ad ρ w) s.heap.size) s.heap s.heap [] := va_S.rf
  have hl := lv_entry ([.ref (ad (1000200 + i))]) (n := 1) (Nat.le_of_ble_eq_true rfl)
  rw [lg_entry_eq]
  generalize (lg_sl ([.ref (ad (1000200 + i))]) ++ List.replicate (1 - (lg_sl ([.ref (ad (1000200 + i))])).length) Slot.unset).toArray = ls at hl ⊢
  have hl : lv_has ls 1 [(0, .ref (ad (1000200 + i)))] := hl
  have hO := hZ.2 X hX
  obtain ⟨v, g1, g2, g3, g4⟩ := hO.2.2.2.1 i tl hi
  refine va_gets hx hb hO.2.2.2.2.1 hS hown (htl _ kj_fl38) (fun _ h => h) kd_CO_0 ?_
  refine lv_if_eq hx hb kd_CO_3 (tgt := 13) rfl (fun h => absurd h (by decide)) (fun _ => ?_)
  refine lv_aload_n hx hb kd_CO_6 rfl (lv_at hl 0 rfl) ?_
  refine vk_getf hx hb g2 hS hown (htl _ kj_fl15) (fun _ h => h) kd_CO_7 ?_
  refine lv_goto hx hb kd_CO_10 (tgt := 14) rfl ?_
  exact W.zret hx hb hrt rfl (fun t ht hW => ⟨⟨rfl, by rw [ht]; exact hPw⟩, hS.F ht⟩) hS.2.2 kd_CO_14
theorem c_IL {l : Launch} {D : va_G} {dA : Nat → ClassId} {ρ : Nat → Int32} {zs : KZ} {ad : Nat → Nat} {w : KW} {sz : Nat} {i : Nat} {tl : List Int32} {X : KO} (hX : zs.2 = some X) (hi : kTxt[i]? = some tl) : Met l ⟨"java/lang/String", "isLatin1", "()Z"⟩ (.code ⟨"java/lang/String", "isLatin1", "()Z"⟩ prog_23_method_154_code 1 (some .boolean) :: LT) (kj_rm 0) (kPg D dA ρ zs ad w [.ref (ad (1000200 + i))] [] sz) (kQj D dA ρ ad w (some (.int 1)) sz) 0 0 (va_A (kW dA ad ρ w) sz) := by
  refine Met.ofW (cc := prog_23_method_154_code) (maxL := 1) (ret := (some .boolean)) (by decide) rfl ?_
  intro p e s m args below meth c s₁ B hml hv
  obtain ⟨rfl, hsz, hPw, hK, hD0, hZ, hN, hT⟩ := hv
  have hts := atoms_spec (ws := .code ⟨"java/lang/String", "isLatin1", "()Z"⟩ prog_23_method_154_code 1 (some .boolean) :: LT) B.pre
  have hlocks := B.notSynchronized
  have hrt := B.returns
  subst hsz
  have F : kFix p s m ([.ref (ad (1000200 + i))] : List Value).toArray meth c prog_23_method_154_code 1 "java/lang/String" "isLatin1" D dA (va_A (kW dA ad ρ w) s.heap.size) zs ad := ⟨B.exec, B.bytes, hml, findClass_of_methodNamed B.named, fun w hw => hts w (List.mem_cons_of_mem _ hw), hK, fun q h => Or.inr h, fun q => (name_of_methodNamed B.named B.method).1.trans q, hZ, hN⟩
  have hD := hD0.self (sz := s.heap.size)
  have hx := F.1
  have hb := F.2.1
  have hown := F.2.2.2.1
  have htl := F.2.2.2.2.1
  have hS : va_S (va_A (kW dA ad ρ w) s.heap.size) s.heap s.heap [] := va_S.rf
  have hl := lv_entry ([.ref (ad (1000200 + i))]) (n := 1) (Nat.le_of_ble_eq_true rfl)
  rw [lg_entry_eq]
  generalize (lg_sl ([.ref (ad (1000200 + i))]) ++ List.replicate (1 - (lg_sl ([.ref (ad (1000200 + i))])).length) Slot.unset).toArray = ls at hl ⊢
  have hl : lv_has ls 1 [(0, .ref (ad (1000200 + i)))] := hl
  have hO := hZ.2 X hX
  obtain ⟨v, g1, g2, g3, g4⟩ := hO.2.2.2.1 i tl hi
  refine va_gets hx hb hO.2.2.2.2.1 hS hown (htl _ kj_fl38) (fun _ h => h) kd_IL_0 ?_
  refine lv_if_eq hx hb kd_IL_3 (tgt := 17) rfl (fun h => absurd h (by decide)) (fun _ => ?_)
  refine lv_aload_n hx hb kd_IL_6 rfl (lv_at hl 0 rfl) ?_
  refine vk_getf hx hb g2 hS hown (htl _ kj_fl15) (fun _ h => h) kd_IL_7 ?_
  refine lv_if_ne hx hb kd_IL_10 (tgt := 17) rfl (fun h => absurd rfl h) (fun _ => ?_)
  refine lv_iconst (v := 1) hx hb kd_IL_13 (by decide) ?_
  refine lv_goto hx hb kd_IL_14 (tgt := 18) rfl ?_
  exact W.zret hx hb hrt rfl (fun t ht hW => ⟨⟨rfl, by rw [ht]; exact hPw⟩, hS.F ht⟩) hS.2.2 kd_IL_18
theorem kj_sh (x : Int32) : x >>> ((0 : Int32) &&& 31) = x := Int32.shiftRight_zero
theorem c_LE {l : Launch} {D : va_G} {dA : Nat → ClassId} {ρ : Nat → Int32} {zs : KZ} {ad : Nat → Nat} {w : KW} {sz : Nat} {i : Nat} {tl : List Int32} {X : KO} (hX : zs.2 = some X) (hi : kTxt[i]? = some tl) : Met l ⟨"java/lang/String", "length", "()I"⟩ (.code ⟨"java/lang/String", "length", "()I"⟩ prog_23_method_54_code 1 (some .int) :: LT) (kj_rm 1) (kPg D dA ρ zs ad w [.ref (ad (1000200 + i))] [] sz) (kQj D dA ρ ad w (some (.int (Int32.ofNat tl.length))) sz) 0 0 (va_A (kW dA ad ρ w) sz) := by
  refine Met.ofW (cc := prog_23_method_54_code) (maxL := 1) (ret := (some .int)) (by decide) rfl ?_
  intro p e s m args below meth c s₁ B hml hv
  obtain ⟨rfl, hsz, hPw, hK, hD0, hZ, hN, hT⟩ := hv
  have hts := atoms_spec (ws := .code ⟨"java/lang/String", "length", "()I"⟩ prog_23_method_54_code 1 (some .int) :: LT) B.pre
  have hlocks := B.notSynchronized
  have hrt := B.returns
  subst hsz
  have F : kFix p s m ([.ref (ad (1000200 + i))] : List Value).toArray meth c prog_23_method_54_code 1 "java/lang/String" "length" D dA (va_A (kW dA ad ρ w) s.heap.size) zs ad := ⟨B.exec, B.bytes, hml, findClass_of_methodNamed B.named, fun w hw => hts w (List.mem_cons_of_mem _ hw), hK, fun q h => Or.inr h, fun q => (name_of_methodNamed B.named B.method).1.trans q, hZ, hN⟩
  have hD := hD0.self (sz := s.heap.size)
  have hx := F.1
  have hb := F.2.1
  have hown := F.2.2.2.1
  have htl := F.2.2.2.2.1
  have hS : va_S (va_A (kW dA ad ρ w) s.heap.size) s.heap s.heap [] := va_S.rf
  have hl := lv_entry ([.ref (ad (1000200 + i))]) (n := 1) (Nat.le_of_ble_eq_true rfl)
  rw [lg_entry_eq]
  generalize (lg_sl ([.ref (ad (1000200 + i))]) ++ List.replicate (1 - (lg_sl ([.ref (ad (1000200 + i))])).length) Slot.unset).toArray = ls at hl ⊢
  have hl : lv_has ls 1 [(0, .ref (ad (1000200 + i)))] := hl
  have hO := hZ.2 X hX
  obtain ⟨v, g1, g2, g3, g4⟩ := hO.2.2.2.1 i tl hi
  have hrc : ∃ cell : Cell, s.heap[ad (1000200 + i)]? = some cell ∧ cell.vm.isStatics = false ∧ s.vm.findClass "java/lang/String" = some cell.cls := by
    obtain ⟨cell, r1, r2, r3, -⟩ := g1
    exact ⟨cell, r1, r2, r3⟩
  refine lv_aload_n hx hb kd_LE_0 rfl (lv_at hl 0 rfl) ?_
  refine vk_getf hx hb g3 hS hown (htl _ kj_fl9) (fun _ h => h) kd_LE_1 ?_
  refine va_tlen hx hb g4 hS rfl kd_LE_4 ?_
  refine lv_aload_n hx hb kd_LE_5 rfl (lv_at hl 0 rfl) ?_
  refine kj_after F (rest := [.int (Int32.ofNat tl.length)]) (r := some (.int 0)) hD hS (va_runV (As := []) ⟨hx, hb, hml, hown, htl⟩ (c_CO (D := D) (dA := dA) (ρ := ρ) (zs := zs) (ad := ad) (w := w) (sz := s.heap.size) hX hi) (cwV 0 htl (kj_gV kj_ml335 kj_imCO kj_seCO kj_inS kj_cdCO) rfl rfl rfl ⟨rfl, by decide, by decide, by decide +kernel⟩ ⟨Nat.le_refl _, Nat.le_of_ble_eq_true rfl⟩) ⟨kPg_blind, hrc, fun U hU hW => kj_pre F (fun _ _ => rfl) hPw hD hS _ (fun _ h => absurd h List.not_mem_nil) hU hW⟩ rfl rfl hl.1 rfl (Nat.le_of_ble_eq_true rfl) kd_LE_6 ⟨Nat.zero_le _, Nat.zero_le _⟩) (fun H' locs' hP' hS' => ?_)
  refine lv_ishr hx hb kd_LE_9 ?_
  rw [kj_sh]
  exact W.iret hx hb hrt (fun t ht hW => ⟨⟨rfl, by rw [ht]; exact hP'⟩, hS'.F ht⟩) hS'.2.2 kd_LE_10
theorem c_CH {l : Launch} {D : va_G} {dA : Nat → ClassId} {ρ : Nat → Int32} {zs : KZ} {ad : Nat → Nat} {w : KW} {sz : Nat} {i : Nat} {k : Int32} {tl : List Int32} {X : KO} (hX : zs.2 = some X) (hi : kTxt[i]? = some tl) (hlen : tl.length < 1000) (h0 : ¬ k < 0) (h1 : k.toNatClampNeg < tl.length) : Met l ⟨"java/lang/String", "charAt", "(I)C"⟩ (.code ⟨"java/lang/String", "charAt", "(I)C"⟩ prog_23_method_56_code 2 (some .char) :: LT) (kj_rm 3) (kPg D dA ρ zs ad w [.ref (ad (1000200 + i)), .int k] [] sz) (kQj D dA ρ ad w (some (.int (tl.getD k.toNatClampNeg 0 &&& 255))) sz) 0 0 (va_A (kW dA ad ρ w) sz) := by
  refine Met.ofW (cc := prog_23_method_56_code) (maxL := 2) (ret := (some .char)) (by decide) rfl ?_
  intro p e s m args below meth c s₁ B hml hv
  obtain ⟨rfl, hsz, hPw, hK, hD0, hZ, hN, hT⟩ := hv
  have hts := atoms_spec (ws := .code ⟨"java/lang/String", "charAt", "(I)C"⟩ prog_23_method_56_code 2 (some .char) :: LT) B.pre
  have hlocks := B.notSynchronized
  have hrt := B.returns
  subst hsz
  have F : kFix p s m ([.ref (ad (1000200 + i)), .int k] : List Value).toArray meth c prog_23_method_56_code 2 "java/lang/String" "charAt" D dA (va_A (kW dA ad ρ w) s.heap.size) zs ad := ⟨B.exec, B.bytes, hml, findClass_of_methodNamed B.named, fun w hw => hts w (List.mem_cons_of_mem _ hw), hK, fun q h => Or.inr h, fun q => (name_of_methodNamed B.named B.method).1.trans q, hZ, hN⟩
  have hD := hD0.self (sz := s.heap.size)
  have hx := F.1
  have hb := F.2.1
  have hown := F.2.2.2.1
  have htl := F.2.2.2.2.1
  have hS : va_S (va_A (kW dA ad ρ w) s.heap.size) s.heap s.heap [] := va_S.rf
  have hl := lv_entry ([.ref (ad (1000200 + i)), .int k]) (n := 2) (Nat.le_of_ble_eq_true rfl)
  rw [lg_entry_eq]
  generalize (lg_sl ([.ref (ad (1000200 + i)), .int k]) ++ List.replicate (2 - (lg_sl ([.ref (ad (1000200 + i)), .int k])).length) Slot.unset).toArray = ls at hl ⊢
  have hl : lv_has ls 2 [(0, .ref (ad (1000200 + i))), (1, .int k)] := hl
  have hO := hZ.2 X hX
  obtain ⟨v, g1, g2, g3, g4⟩ := hO.2.2.2.1 i tl hi
  have hrc : ∃ cell : Cell, s.heap[ad (1000200 + i)]? = some cell ∧ cell.vm.isStatics = false ∧ s.vm.findClass "java/lang/String" = some cell.cls := by
    obtain ⟨cell, r1, r2, r3, -⟩ := g1
    exact ⟨cell, r1, r2, r3⟩
  refine lv_aload_n hx hb kd_CH_0 rfl (lv_at hl 0 rfl) ?_
  refine kj_after F (rest := []) (r := some (.int 1)) hD hS (va_runV (As := []) ⟨hx, hb, hml, hown, htl⟩ (c_IL (D := D) (dA := dA) (ρ := ρ) (zs := zs) (ad := ad) (w := w) (sz := s.heap.size) hX hi) (cwV 0 htl (kj_gV kj_ml492 kj_imIL kj_seIL kj_inS kj_cdIL) rfl rfl rfl ⟨rfl, by decide, by decide, by decide +kernel⟩ ⟨Nat.le_of_ble_eq_true rfl, Nat.le_of_ble_eq_true rfl⟩) ⟨kPg_blind, hrc, fun U hU hW => kj_pre F (fun _ _ => rfl) hPw hD hS _ (fun _ h => absurd h List.not_mem_nil) hU hW⟩ rfl rfl hl.1 rfl (Nat.le_of_ble_eq_true rfl) kd_CH_1 ⟨Nat.zero_le _, Nat.zero_le _⟩) (fun H1 locs1 hP1 hS1 => ?_)
  refine lv_if_eq hx hb kd_CH_4 (tgt := 16) rfl (fun h => absurd h (by decide)) (fun _ => ?_)
  refine lv_aload_n hx hb kd_CH_7 rfl (lv_at hl 0 rfl) ?_
  refine vk_getf hx hb g3 hS1 hown (htl _ kj_fl9) (fun _ h => h) kd_CH_8 ?_
  refine lv_iload_n hx hb kd_CH_11 rfl (lv_at hl 1 rfl) ?_
  refine kj_after F (rest := []) (r := some (.int (tl.getD k.toNatClampNeg 0 &&& 255))) hD hS1 (va_runS (As := [.ref v, .int k]) ⟨hx, hb, hml, hown, htl⟩ (c_S1 (D := D) (dA := dA) (ρ := ρ) (zs := zs) (ad := ad) (w := w) (sz := H1.size) (k := k) (v := v) (n := tl.length) (f := fun j => .int (tl.getD j 0)) hX h0 h1 hlen rfl) (va_cwS 2 htl (kj_gS kj_ml495 kj_stS1 kj_inL kj_cdS1) rfl rfl rfl ⟨by decide, by decide, by decide +kernel⟩ ⟨Nat.le_refl _, Nat.le_of_ble_eq_true rfl⟩) ⟨kPg_blind, fun U hU hW => kj_pre F (fun _ _ => rfl) hP1 hD hS1 _ (fun q h => by
      rcases List.mem_cons.mp h with e | h
      · rw [e]; exact g4
      · exact absurd h List.not_mem_nil) hU hW⟩ rfl rfl hl.1 rfl (Nat.le_of_ble_eq_true rfl) kd_CH_12 ⟨Nat.zero_le _, Nat.zero_le _⟩) (fun H' locs' hP' hS' => ?_)
  exact W.zret hx hb hrt (kj_cn _) (fun t ht hW => ⟨⟨rfl, by rw [ht]; exact hP'⟩, hS'.F ht⟩) hS'.2.2 kd_CH_15
