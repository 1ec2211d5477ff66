/-! The law's run over the machine. -/
/-- what a throw wants, at the law's entry -/
theorem law_xs {p : Program} {s : State} {m : MethodId} {meth : Method} {c : Code} {b L : Nat} {xs : Nat → Int32} (C0 : lw_At p s m meth c b L xs) : kXS (fun q => s.heap.size ≤ q) s := by
  obtain ⟨hx, hb, hr, hml, hown, hts, hX, hbl, hlocks, hgv⟩ := C0
  have hs := flat_of_before _ hgv
  have hA : ∀ a : Nat, a < s.heap.size → ¬ (s.heap.size ≤ a) := fun a ha => Nat.not_le.mpr ha
  have hini : (Cond.initialized "java/lang/Throwable").before #[Value.ref b] s = true := hts _ (List.mem_of_getElem? (i := 151) (by decide +kernel))
  refine ⟨vx_Zqof (hts _ (List.mem_of_getElem? (i := 1395) (by decide +kernel))) hini (hs _ (by decide +kernel)) hA, vx_Zqof (hts _ (List.mem_of_getElem? (i := 1397) (by decide +kernel))) hini (hs _ (by decide +kernel)) hA, ?_, ?_, fun w hw => va_Nw.of (kDC_on (List.all_eq_true.mp kXb_dc w hw)) (hts _ (kXb_tbl w hw))⟩
  · have he : (Cond.exactly (.string "TriplicateForms" 127) "java/lang/String").before #[Value.ref b] s = true := hs _ (by decide +kernel)
    obtain ⟨a, c2, cell, k, r1, -⟩ := Cond.exactly_spec he
    exact ⟨a, vk_R.of (A := #[Value.ref b]) (hts _ (List.mem_of_getElem? (i := 1407) (by decide +kernel))) r1⟩
  · have he : (Cond.exactly (.string "TriplicateForms" 152) "java/lang/String").before #[Value.ref b] s = true := hs _ (by decide +kernel)
    obtain ⟨a, c2, cell, k, r1, -⟩ := Cond.exactly_spec he
    exact ⟨a, vk_R.of (A := #[Value.ref b]) (hts _ (List.mem_of_getElem? (i := 1443) (by decide +kernel))) r1⟩
abbrev kyH4 : MethodName := (⟨"TriplicateFormsLaw", "form", "(LTriplicateForms;II[J)I"⟩ : MethodName)
abbrev kyF4 : MethodName := (⟨"TriplicateForms", "form", "(II)I"⟩ : MethodName)
abbrev kyH5 : MethodName := (⟨"TriplicateFormsLaw", "person", "(LTriplicateForms;II[J)I"⟩ : MethodName)
abbrev kyF5 : MethodName := (⟨"TriplicateForms", "person", "(II)I"⟩ : MethodName)
theorem kHlo_ok {w : KW} {a b : Int32} (h : 168 ≤ kfr 0 w) : kokL (kfr 0 w) (kHlo a b) = true := by
  have h0 : kokN (kfr 0 w) 0 = true := by
    unfold kokN
    rw [Nat.blt_eq.mpr (show 0 < kfr 0 w by omega)]
    rfl
  have h1 : kokN (kfr 0 w) 167 = true := by
    unfold kokN
    rw [Nat.blt_eq.mpr (show 167 < kfr 0 w by omega)]
    rfl
  show (kokN (kfr 0 w) 0 && (true && (true && (kokN (kfr 0 w) 167 && true)))) = true
  rw [h0, h1]
  rfl
theorem help_form {l : Launch} (hl : l.flags = flags0) {X : KO} {ρ : Nat → Int32} {f d : Nat} {a b bz : Int32} {w w' wz : KW} {r : Option KV} (h : qHrun qPF X f d a b w r w') (hb : kHb r w' bz wz) (D : va_G) (dA : Nat → ClassId) (ad : Nat → Nat) (sz : Nat) : Met l kyH4 (Cond.codeWith kyH4 method_3_code 5 (some .int) kTb :: LT) (krmH d) (kPcX D dA ρ (kStatX, some X) ad w [.inl (.ref 0), .inl (.int a), .inl (.int b), .inl (.ref 167)] sz) (kQc D dA ρ ad w (some (.inl (.int bz))) wz sz) 1 6 (va_A (kW dA ad ρ w) sz) := by
  obtain ⟨ig, pc2, lo2, st2, c2, s2, h1, h2, h3, h4, h5, h6⟩ := h
  obtain ⟨⟨fs, g1⟩, g2, g3⟩ := kHg_ok h6
  refine kh_metT (ms := qmeths) (y := kyH4) (yF := kyF4) (ccF := prog_1_method_6_code) (idx := 7) rfl rfl (by decide +kernel) (by decide +kernel) (by decide +kernel) (by decide +kernel) (by decide +kernel) (by decide +kernel) rfl (by decide +kernel) (List.mem_filter.mpr ⟨List.mem_of_getElem? (i := 1364) (by decide +kernel), by decide +kernel⟩) (List.mem_filter.mpr ⟨List.mem_of_getElem? (i := 1365) (by decide +kernel), by decide +kernel⟩) (List.mem_filter.mpr ⟨List.mem_of_getElem? (i := 1366) (by decide +kernel), by decide +kernel⟩) (List.mem_filter.mpr ⟨List.mem_of_getElem? (i := 135) (by decide +kernel), by decide +kernel⟩) (List.mem_filter.mpr ⟨List.mem_of_getElem? (i := 1367) (by decide +kernel), by decide +kernel⟩) (List.mem_filter.mpr ⟨List.mem_of_getElem? (i := 1363) (by decide +kernel), by decide +kernel⟩) (by decide +kernel) g1 (kHlo_ok g2) g3 hb ?_ D dA ad sz
  exact kx_metT (y := kyF4) (cc := prog_1_method_6_code) (prog := qPF) (stop := 21) (is := 127) (text := "no such form or no such what") hl rfl qOall rfl (by decide +kernel) qOTF qONF (by decide +kernel) (by decide +kernel) (by decide +kernel) (by decide +kernel) (by decide +kernel) (fun A U h => h.2.2.1) (List.mem_filter.mpr ⟨List.mem_of_getElem? (i := 1368) (by decide +kernel), by decide +kernel⟩) (List.mem_filter.mpr ⟨List.mem_of_getElem? (i := 154) (by decide +kernel), by decide +kernel⟩) (Nat.le_of_ble_eq_true rfl) h1 h2 h3 h4 h5
theorem help_person {l : Launch} (hl : l.flags = flags0) {X : KO} {ρ : Nat → Int32} {f d : Nat} {a b bz : Int32} {w w' wz : KW} {r : Option KV} (h : qHrun qPP X f d a b w r w') (hb : kHb r w' bz wz) (D : va_G) (dA : Nat → ClassId) (ad : Nat → Nat) (sz : Nat) : Met l kyH5 (Cond.codeWith kyH5 method_4_code 5 (some .int) kTb :: LT) (krmH d) (kPcX D dA ρ (kStatX, some X) ad w [.inl (.ref 0), .inl (.int a), .inl (.int b), .inl (.ref 167)] sz) (kQc D dA ρ ad w (some (.inl (.int bz))) wz sz) 1 6 (va_A (kW dA ad ρ w) sz) := by
  obtain ⟨ig, pc2, lo2, st2, c2, s2, h1, h2, h3, h4, h5, h6⟩ := h
  obtain ⟨⟨fs, g1⟩, g2, g3⟩ := kHg_ok h6
  refine kh_metT (ms := qmeths) (y := kyH5) (yF := kyF5) (ccF := prog_1_method_7_code) (idx := 15) rfl rfl (by decide +kernel) (by decide +kernel) (by decide +kernel) (by decide +kernel) (by decide +kernel) (by decide +kernel) rfl (by decide +kernel) (List.mem_filter.mpr ⟨List.mem_of_getElem? (i := 1439) (by decide +kernel), by decide +kernel⟩) (List.mem_filter.mpr ⟨List.mem_of_getElem? (i := 1440) (by decide +kernel), by decide +kernel⟩) (List.mem_filter.mpr ⟨List.mem_of_getElem? (i := 1441) (by decide +kernel), by decide +kernel⟩) (List.mem_filter.mpr ⟨List.mem_of_getElem? (i := 135) (by decide +kernel), by decide +kernel⟩) (List.mem_filter.mpr ⟨List.mem_of_getElem? (i := 1442) (by decide +kernel), by decide +kernel⟩) (List.mem_filter.mpr ⟨List.mem_of_getElem? (i := 1363) (by decide +kernel), by decide +kernel⟩) (by decide +kernel) g1 (kHlo_ok g2) g3 hb ?_ D dA ad sz
  exact kx_metT (y := kyF5) (cc := prog_1_method_7_code) (prog := qPP) (stop := 20) (is := 152) (text := "no such person or no such what") hl rfl qOall rfl (by decide +kernel) qOTP qONP (by decide +kernel) (by decide +kernel) (by decide +kernel) (by decide +kernel) (by decide +kernel) (fun A U h => h.2.2.2.1) (List.mem_filter.mpr ⟨List.mem_of_getElem? (i := 1368) (by decide +kernel), by decide +kernel⟩) (List.mem_filter.mpr ⟨List.mem_of_getElem? (i := 154) (by decide +kernel), by decide +kernel⟩) (Nat.le_of_ble_eq_true rfl) h1 h2 h3 h4 h5
section LAWX
variable {p : Program} {l : Launch} {e : Env} {s : State} {m : MethodId} {below : List Frame} {meth : Method} {c : Code} {b L : Nat} {xs : Nat → Int32} {D : va_G} {dA : Nat → ClassId} {ad0 : Nat → Nat} {ρ : Nat → Int32} {X : KO}
abbrev lGoX (p : Program) (l : Launch) (e : Env) (s : State) (m : MethodId) (b : Nat) (below : List Frame) (meth : Method) (c : Code) (D : va_G) (dA : Nat → ClassId) (ρ : Nat → Int32) (ad0 : Nat → Nat) (k : KF) : Prop := kGo p l e room_1 s m #[Value.ref b] below meth c (lw_Z below #[Value.ref b] s) D dA ρ (fun q => s.heap.size ≤ q) 7 ad0 0 k
/-- a helper's call, the helper's contract given -/
theorem law_help (C0 : lw_At p s m meth c b L xs) (F : kFix p s m #[Value.ref b] meth c code 7 "TriplicateFormsLaw" "law" D dA (fun q => s.heap.size ≤ q) (kStatX, some X) ad0) {pc idx mid : Nat} {y : MethodName} {cc : ByteArray} {prog : List KEnt} {f : Nat} (hyc : y.cls = "TriplicateFormsLaw") (hnF : (parseMethodDescriptor y.desc).map (fun d => d.parameters.length) = some 4) (hw1 : Cond.methodLink "TriplicateFormsLaw" idx y ∈ LT) (hw2 : Cond.static y ∈ LT) (hw3 : Cond.initialized "TriplicateFormsLaw" ∈ LT) (hw4 : Cond.codeWith y cc 5 (some .int) kTb ∈ LT) (dF : decode code pc = .ok (.invokestatic idx, 3))
    (hc : ∀ args w, callL X 70 f mid args w = qHelp prog X f 70 args w) (hM : ∀ (a b bz : Int32) (w w' wz : KW) (r : Option KV), qHrun prog X f 70 a b w r w' → kHb r w' bz wz → ∀ (D : va_G) (dA : Nat → ClassId) (ad : Nat → Nat) (sz : Nat), Met l y (Cond.codeWith y cc 5 (some .int) kTb :: LT) (krmH 70) (kPcX D dA ρ (kStatX, some X) ad w [.inl (.ref 0), .inl (.int a), .inl (.int b), .inl (.ref 167)] sz) (kQc D dA ρ ad w (some (.inl (.int bz))) wz sz) 1 6 (va_A (kW dA ad ρ w) sz))
    {lo : List (Nat × KV)} {st : List KV} {w : KW} {c1 s1 : Nat} {k : KF} (h : kcallS (callL X 70 f) kRc0 kRs0 (mid, 4, 1, 6, 0) pc lo st w c1 s1 = some k) (g : lGoX p l e s m b below meth c D dA ρ ad0 k) : lGoX p l e s m b below meth c D dA ρ ad0 (pc, lo, st, w, c1, s1) := by
  have hts := F.2.2.2.2.1
  unfold kcallS at h
  have hq1 := kcond_inv h
  clear h
  obtain ⟨hcc, h⟩ := hq1
  simp only [Bool.and_eq_true] at hcc
  obtain ⟨d1, d2, d3, d4, d5, d6⟩ := hcc
  have d1 := Nat.ble_eq.mp d1
  have d4 := Nat.ble_eq.mp d4
  have d5 := Nat.ble_eq.mp d5
  have d6 := Nat.ble_eq.mp d6
  split at h
  · rename_i ret w2 hcall
    cases h
    rw [hc] at hcall
    obtain ⟨a, b2, r, w', bz, e1, hrun, hkb, rfl⟩ := qHelp_inv hcall
    intro ad H locs ls hat
    obtain ⟨a1, a2⟩ := k_argsS (ρ := ρ) (ad := ad) d1
    have e1 : (st.take 4).reverse = [.inl (.ref 0), .inl (.int a), .inl (.int b2), .inl (.ref 167)] := e1
    replace a1 : st.map (kV ad ρ) = (((st.take 4).reverse).map (kV ad ρ)).reverse ++ (st.drop 4).map (kV ad ρ) := a1
    rw [e1] at a1
    have hf : ∀ q, va_A (kW dA ad ρ w) H.size q → s.heap.size ≤ q := fun q hq => by
      rcases hq with ⟨j, x, hj⟩ | hq
      · exact hat.2.2.1.2 j (q, x) hj
      · exact Nat.le_trans hat.2.2.2.1.1 hq
    have hgood : GoodIn LT (va_wsS "TriplicateFormsLaw" idx y (Cond.codeWith y cc 5 (some .int) kTb :: LT)) := goodLT (fun w hw => by
      rcases List.mem_append.mp hw with hw | hw
      · simp only [List.mem_cons, List.not_mem_nil, or_false] at hw
        rcases hw with e | e | e
        · rw [e]; exact hw1
        · rw [e]; exact hw2
        · rw [e, hyc]; exact hw3
      · rcases List.mem_cons.mp hw with e | hw
        · rw [e]; exact hw4
        · exact hw)
    exact k_after (mc := 1) (msl := 6) (rest := st.drop 4) (ret := some (.inl (.int bz))) (w' := w2) F hat d2 d3 (a := (([.inl (.ref 0), .inl (.int a), .inl (.int b2), .inl (.ref 167)] : List KV).map (kV ad ρ)).toArray) (vx_runSW (As := ([.inl (.ref 0), .inl (.int a), .inl (.int b2), .inl (.ref 167)] : List KV).map (kV ad ρ)) ⟨F.1, F.2.1, F.2.2.1, F.2.2.2.1, hts⟩ (hM a b2 bz w w' w2 r hrun hkb D dA ad H.size) (vx_cwSW 4 hts hgood rfl rfl rfl ⟨by rw [hyc]; decide, by rw [hyc]; decide, hnF⟩ ⟨Nat.le_of_ble_eq_true rfl, Nat.le_of_ble_eq_true rfl⟩) ⟨kPcX_blind, fun U hU hW => ⟨k_pre F hat [.inl (.ref 0), .inl (.int a), .inl (.int b2), .inl (.ref 167)] hU hW, (law_xs C0).go hW hU hat.2.2.2.1 hf⟩⟩ rfl rfl hat.1.1 a1 (lv_room (by rw [kcats_eq]; exact d6)) dF ⟨d4, d5⟩) g
  · cases h
theorem law_step (hl : l.flags = flags0) (C0 : lw_At p s m meth c b L xs) (F : kFix p s m #[Value.ref b] meth c code 7 "TriplicateFormsLaw" "law" D dA (fun q => s.heap.size ≤ q) (kStatX, some X) ad0) {rg : List (Int × Int)} {L' : Nat} (hr : kRg rg ρ) (hX : kSc s (fun q => s.heap.size ≤ q) ad0 ρ L') {f : Nat} {x : KEnt} (hx : x ∈ qPL) (he : kendx x.2.1 = false) {lo : List (Nat × KV)} {st : List KV} {w : KW} {c1 s1 : Nat} {k : KF} (h : kdx x.2.1 X (callL X 70 f) rg L' 7 kRc0 kRs0 x.2.2 x.1 lo st w c1 s1 = some k) (g : lGoX p l e s m b below meth c D dA ρ ad0 k) : lGoX p l e s m b below meth c D dA ρ ad0 (x.1, lo, st, w, c1, s1) := by
  cases hs : kisStat x.2.1 with
  | false =>
    have hC : kCalls l qmeths (kStatX, some X) ρ (callL X 70 f) 70 := fun mid r as w ret w' hm hcall => by
      have hlt : mid < qmeths.length := (List.getElem?_eq_some_iff.mp hm).1
      have hln : qmeths.length = 298 := by decide +kernel
      rw [hln] at hlt
      have hcall : (bif Nat.beq mid 298 then qHelp qPF X f 70 as w else bif Nat.beq mid 299 then qHelp qPP X f 70 as w else kcallx qmeths X f 70 mid as w) = some (ret, w') := hcall
      rw [kb_n (by omega), kb_n (by omega)] at hcall
      exact k_metx (l := l) (zs := (kStatX, some X)) (ρ := ρ) rfl qOall f 70 mid r as w ret w' hm hcall
    exact k_onex F rfl hr hX hC (Nat.le_refl _) (Nat.le_refl _) (Nat.le_of_ble_eq_true rfl) (Nat.le_of_ble_eq_true rfl) (qOL x hx hs) h g
  | true =>
    rcases qOH x hx hs with rfl | rfl
    · exact law_help C0 F (y := kyH4) (cc := method_3_code) (prog := qPF) (mid := 298) (idx := 41) (f := f) rfl (by decide +kernel) (List.mem_filter.mpr ⟨List.mem_of_getElem? (i := 1360) (by decide +kernel), by decide +kernel⟩) (List.mem_filter.mpr ⟨List.mem_of_getElem? (i := 1361) (by decide +kernel), by decide +kernel⟩) (List.mem_filter.mpr ⟨List.mem_of_getElem? (i := 134) (by decide +kernel), by decide +kernel⟩) (List.mem_filter.mpr ⟨List.mem_of_getElem? (i := 1362) (by decide +kernel), by decide +kernel⟩) (by decide +kernel) (fun _ _ => rfl) (fun a b bz w w' wz r h1 h2 D dA ad sz => help_form hl h1 h2 D dA ad sz) h g
    · exact law_help C0 F (y := kyH5) (cc := method_4_code) (prog := qPP) (mid := 299) (idx := 47) (f := f) rfl (by decide +kernel) (List.mem_filter.mpr ⟨List.mem_of_getElem? (i := 1436) (by decide +kernel), by decide +kernel⟩) (List.mem_filter.mpr ⟨List.mem_of_getElem? (i := 1437) (by decide +kernel), by decide +kernel⟩) (List.mem_filter.mpr ⟨List.mem_of_getElem? (i := 134) (by decide +kernel), by decide +kernel⟩) (List.mem_filter.mpr ⟨List.mem_of_getElem? (i := 1438) (by decide +kernel), by decide +kernel⟩) (by decide +kernel) (fun _ _ => rfl) (fun a b bz w w' wz r h1 h2 D dA ad sz => help_person hl h1 h2 D dA ad sz) h g
theorem law_runX (hl : l.flags = flags0) (C0 : lw_At p s m meth c b L xs) (F : kFix p s m #[Value.ref b] meth c code 7 "TriplicateFormsLaw" "law" D dA (fun q => s.heap.size ≤ q) (kStatX, some X) ad0) {rg : List (Int × Int)} {L' : Nat} (hr : kRg rg ρ) (hX : kSc s (fun q => s.heap.size ≤ q) ad0 ρ L') {f : Nat} : ∀ (n : Nat) (k : KF) (ig : Instr) (k' : KF), krx (callL X 70 f) X rg L' 7 kRc0 kRs0 qPL n k = some (ig, k') → (∃ x, (k'.1, ig, x) ∈ qPL) ∧ (lGoX p l e s m b below meth c D dA ρ ad0 k' → lGoX p l e s m b below meth c D dA ρ ad0 k) := by
  intro n
  induction n with
  | zero => intro k ig k' h; cases h
  | succ n ih =>
    intro k ig k' h
    obtain ⟨pc, lo, st, w, c1, s1⟩ := k
    unfold krx at h
    split at h
    · cases h
    · rename_i x l1 hk
      obtain ⟨hb, h⟩ := kcond_inv h
      have e1 := kb_t hb
      have hm : x ∈ qPL := kfrom_sub x (by rw [hk]; exact List.mem_cons_self)
      cases he : kendx x.2.1 with
      | true =>
        rw [he] at h
        simp only [cond_true] at h
        cases h
        refine ⟨⟨x.2.2, ?_⟩, id⟩
        rw [← e1]
        exact hm
      | false =>
        rw [he] at h
        simp only [cond_false] at h
        split at h
        · cases h
        · rename_i k1 hk1
          obtain ⟨h1, h2⟩ := ih _ _ _ h
          refine ⟨h1, fun g => ?_⟩
          subst e1
          exact law_step hl C0 F hr hX hm he hk1 (h2 g)
end LAWX
