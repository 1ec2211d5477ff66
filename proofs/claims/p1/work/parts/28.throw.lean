/-! the two calls that throw, and the law's helpers that catch -/
abbrev kXn : String := "java/util/NoSuchElementException"
def kXl : List Cond := (kXat "TriplicateForms" 129 kXn "java/lang/RuntimeException" ["java/lang/Exception"]).filter vx_no
def kXb : List Cond := kXl.filter (fun w => !goodWord w)
def kDC : Cond → Bool
  | .declares _ => true
  | .castable _ _ => true
  | _ => false
set_option maxRecDepth 100000 in
theorem kXb_dc : kXb.all kDC = true := by decide +kernel
set_option maxRecDepth 100000 in
theorem kXl_good : ∀ w ∈ kXl.filter goodWord, w ∈ LT := by
  have h : ∀ w ∈ kXl.filter goodWord, w ∈ lw_tbl := by decide +kernel
  exact fun w hw => List.mem_filter.mpr ⟨h w hw, (List.mem_filter.mp hw).2⟩
set_option maxRecDepth 100000 in
theorem kXb_tbl : ∀ w ∈ kXb, w ∈ lw_tbl := by decide +kernel
set_option maxRecDepth 100000 in
theorem kX_ot : ∀ w ∈ Cond.classLink "TriplicateForms" 125 kXn :: Cond.initialized kXn :: kXl, vx_ot w = true := by decide +kernel
theorem kDC_warm {w : Cond} {s U : State} (h : kDC w = true) (hW : s.WarmedH U.vm) (hn : va_Nw w s) : va_Nw w U := by
  cases w <;> first | cases h | skip
  · exact va_Nw.warmD hW hn
  · exact va_Nw.warmC hW hn
theorem kDC_on {w : Cond} (h : kDC w = true) : w.onTables = true := by
  cases w <;> first | (cases h; done) | rfl
/-- what a throw wants of the state, beside words -/
def kXS (A : Nat → Prop) (U : State) : Prop := vx_Zq Bundle.tN "UNASSIGNED_STACK" Bundle.steD A U U.heap ∧ vx_Zq Bundle.tN "SUPPRESSED_SENTINEL" Bundle.listD A U U.heap ∧ (∃ sa, vk_R "TriplicateForms" 127 "no such form or no such what" sa U) ∧ (∃ sa, vk_R "TriplicateForms" 152 "no such person or no such what" sa U) ∧ ∀ w ∈ kXb, va_Nw w U
theorem kXS.go {A B : Nat → Prop} {s U : State} {H : Heap} {locs : List Loc} (h : kXS A s) (hW : s.WarmedH U.vm) (hU : U.heap = H) (hS : va_S A s.heap H locs) (hAB : ∀ q, B q → A q) : kXS B U := by
  obtain ⟨h1, h2, ⟨a, h3⟩, ⟨b, h4⟩, h5⟩ := h
  refine ⟨?_, ?_, ⟨a, h3.warm hW⟩, ⟨b, h4.warm hW⟩, fun w hw => kDC_warm (List.all_eq_true.mp kXb_dc w hw) hW (h5 w hw)⟩
  · rw [hU]; exact ((h1.moved hW.alike).kept hS.2.1).narrow hAB
  · rw [hU]; exact ((h2.moved hW.alike).kept hS.2.1).narrow hAB
theorem kXS.calling {A : Nat → Prop} {U : State} {g : JFrame} {mk : MethodId} {a : Array Value} (h : kXS A U) : kXS A (U.calling g mk a) := by
  obtain ⟨h1, h2, ⟨a1, h3⟩, ⟨b1, h4⟩, h5⟩ := h
  exact ⟨vx_Zq.moved (u := U) (U := U.calling g mk a) (Vm.Alike.refl U.vm) h1, vx_Zq.moved (u := U) (U := U.calling g mk a) (Vm.Alike.refl U.vm) h2, ⟨a1, vk_R.same rfl h3⟩, ⟨b1, vk_R.same rfl h4⟩, fun w hw => va_Nw.same (u := U) (U := U.calling g mk a) (kDC_on (List.all_eq_true.mp kXb_dc w hw)) rfl (h5 w hw)⟩
def kPcX (D : va_G) (dA : Nat → ClassId) (ρ : Nat → Int32) (ad : Nat → Nat) (w : KW) (as : List KV) (sz : Nat) : Array Value → State → Prop := fun a U => kPc D dA ρ kStats ad w as sz a U ∧ kXS (va_A (kW dA ad ρ w) sz) U
theorem kPcX_blind {D : va_G} {dA : Nat → ClassId} {ρ : Nat → Int32} {ad : Nat → Nat} {w : KW} {as : List KV} {sz : Nat} : FrameBlind (kPcX D dA ρ ad w as sz) := fun a U g mk q => ⟨kPc_blind a U g mk q.1, q.2.calling⟩
def kQx (A : Nat → Prop) : Array Value → State → Outcome → State → Prop := va_Qi (S := Unit) (fun _ _ => False) (fun _ _ => True) A
def kXC (D : va_G) (dA : Nat → ClassId) (ρ : Nat → Int32) (ad : Nat → Nat) (w w' : KW) (sz : Nat) : String → State → State → Prop := vx_X (S := Nat → Nat) (fun u => kExt (kfr 0 w) ad u) (fun E u t => E = kXn ∧ va_P D kCl (kW dA u ρ w') t.heap ∧ va_D (va_A (kW dA ad ρ w) sz) (kW dA u ρ w')) (va_A (kW dA ad ρ w) sz)
def krmX : Room := { frames := 13, cells := 1, slots := 6, locals := 520 }
def krmH : Room := { frames := 14, cells := 1, slots := 6, locals := 560 }
/-- a method of the class that comes to 'throw new NoSuchElementException(text)' -/
theorem kx_met {l : Launch} (hl : l.flags = flags0) {ρ : Nat → Int32} {rg : List (Int × Int)} {ks : Option Int32} (hr : kRg rg ρ) (hks : ∀ v, ks = some v → ρ 0 &&& 63 = v) {y : MethodName} {cc : ByteArray} {prog : List KEnt} {stop is : Nat} {text : String} (hy : y.cls = "TriplicateForms") (hpl : plainName y.cls = true) (hP : ∀ x ∈ prog, kEntOK kmeths kStats y.cls y.name cc x)
    (d0 : decode cc stop = .ok (.new 125, 3)) (d3 : decode cc (stop + 3) = .ok (.dup, 1)) (d4 : decode cc (stop + 4) = .ok (.ldc is, 2)) (d6 : decode cc (stop + 6) = .ok (.invokespecial 129, 3)) (d9 : decode cc (stop + 9) = .ok (.athrow, 1))
    (ht : ∀ (A : Nat → Prop) (U : State), kXS A U → ∃ sa, vk_R "TriplicateForms" is text sa U) (wX1 : Cond.classLink "TriplicateForms" 125 kXn ∈ LT) (wX2 : Cond.initialized kXn ∈ LT)
    {as : List KV} {w w' : KW} {lo' : List (Nat × KV)} (hcat : kcats as ≤ 3) (hrun : kgoTo (kcall kmeths rg ks 12) rg ks 0 3 1 6 prog stop kfuel (0, kargs 0 as, [], w, 0, 0) = some (stop, lo', [], w', 0, 0)) (D : va_G) (dA : Nat → ClassId) (ad : Nat → Nat) (sz : Nat) :
    vx_Met l y (Cond.code y cc 3 (some .int) :: LT) krmX (kPcX D dA ρ ad w as sz) (kQx (va_A (kW dA ad ρ w) sz)) (kXC D dA ρ ad w w' sz) 1 6 (va_A (kW dA ad ρ w) sz) := by
  refine vx_ofW (cc := cc) (maxL := 3) (ret := some .int) hpl rfl ?_
  intro p e s m args below meth c s₁ B hml hnt hv
  obtain ⟨⟨rfl, hsz, hPw, hK, hD0, hZ, hN⟩, hXS⟩ := hv
  have hts := atoms_spec (ws := Cond.code y cc 3 (some .int) :: LT) B.pre
  have hlocks := B.notSynchronized
  subst hsz
  have F : kFix p s m (as.map (kV ad ρ)).toArray meth c cc 3 y.cls y.name D dA (va_A (kW dA ad ρ w) s.heap.size) kStats ad := ⟨B.exec, B.bytes, hml, findClass_of_methodNamed B.named, fun w hw => hts w (List.mem_cons_of_mem _ hw), hK, fun q h => Or.inr h, fun q => (name_of_methodNamed B.named B.method).1.trans q, hZ, hN⟩
  have hl0 := lv_entry (as.map (kV ad ρ)) (n := 3) (by rw [ksl_len]; exact hcat)
  rw [lg_entry_eq]
  generalize (lg_sl (as.map (kV ad ρ)) ++ List.replicate (3 - (lg_sl (as.map (kV ad ρ))).length) Slot.unset).toArray = ls at hl0 ⊢
  rw [kargs_eq] at hl0
  have hgo := k_goTo (p := p) (l := l) (e := e) (R := (headSpec (Cond.code y cc 3 (some .int) :: LT) krmX).room) (below := below) (n0 := kfr 0 w) (Rc := 1) (Rs := 6) (L := 0)
    (Q := vx_MQ below (kQx (va_A (kW dA ad ρ w) s.heap.size)) (kXC D dA ρ ad w w' s.heap.size) (as.map (kV ad ρ)).toArray s 1 6 (va_A (kW dA ad ρ w) s.heap.size)) F hr hks (fun q => absurd q (Nat.lt_irrefl 0)) (k_met kOall hr hks 12) (Nat.le_refl _) (Nat.le_refl _) (Nat.le_refl _) (Nat.le_refl _) hP kfuel _ _ hrun
  refine hgo ?_ ad s.heap [] ls ⟨hl0, hPw, hD0.self, va_S.rf, Nat.le_refl _, kExt.rf _ _⟩
  intro ad' H locs ls' hat
  obtain ⟨hl', hP', hD', hS', hn', hE'⟩ := hat
  obtain ⟨sa, hsa⟩ := ht _ _ hXS
  have hFts := F.2.2.2.2.1
  refine kx_throwS (A := va_A (kW dA ad ρ w) s.heap.size) (own := "TriplicateForms") (cls := kXn) (text := text) (Y0 := "java/lang/RuntimeException") (r0 := ["java/lang/Exception"]) (sa := sa) F.1 F.2.1 ?_ (by rw [← hy]; exact F.2.2.2.1) (by decide) (by decide) (by decide) (hFts _ wX1) (hFts _ wX2) hsa
    (vx_hat (B := kXb) (fun w hw => hFts w (kXl_good w hw)) (fun w hw => hw) (fun w hw => va_Nw.use (kDC_on (List.all_eq_true.mp kXb_dc w hw)) (hXS.2.2.2.2 w hw))) kX_ot hXS.1 hXS.2.1 hS' (hl'.1.trans hml.symm) d0 d3 d4 d6 d9 (fun x hx => absurd hx (fun h => hnt x h)) (by show 2 + 3 < 13; decide) (by show (0 : Nat) + (13 * 3 + 43) ≤ 520; decide) (Nat.le_refl _) (Nat.le_refl _) hlocks ?_ hS'.2.2 (Nat.le_refl _) (Nat.le_refl _)
  · unfold Launch.stackTraces; rw [hl]; decide
  · intro t ha h1 h2
    refine ⟨ad', hE', ⟨rfl, hP'.kept (fun k q hk => h2 q.1 ((hP' k q hk).lt)), hD'⟩, Nat.le_trans hS'.1 h1, fun q q1 q2 => ?_⟩
    rw [h2 q (Nat.lt_of_lt_of_le q1 hS'.1)]
    exact hS'.2.1 q q1 q2

abbrev kTb : List (Nat × Nat × Nat × Nat) := [(0, 10, 13, 13)]
def kPH : List KEnt := [(0, .aload_n 3, (0, 0, 0, 0, 0)), (1, .iconst 0, (0, 0, 0, 0, 0)), (2, .aload_n 0, (0, 0, 0, 0, 0)), (3, .iload_n 1, (0, 0, 0, 0, 0)), (4, .iload_n 2, (0, 0, 0, 0, 0))]
/-- the law's helper: it catches, and answers 1 -/
theorem kh_met {l : Launch} {ρ : Nat → Int32} {rg : List (Int × Int)} {ks : Option Int32} (hr : kRg rg ρ) (hks : ∀ v, ks = some v → ρ 0 &&& 63 = v) {y yF : MethodName} {cc ccF : ByteArray} {idx : Nat} (hyc : y.cls = "TriplicateFormsLaw") (hpl : plainName y.cls = true) (hP : ∀ x ∈ kPH, kEntOK kmeths kStats y.cls y.name cc x) (d5 : decode cc 5 = .ok (.invokevirtual idx, 3)) (d13 : decode cc 13 = .ok (.astore 4, 2)) (d15 : decode cc 15 = .ok (.iconst 1, 1)) (d16 : decode cc 16 = .ok (.ireturn, 1))
    (hyF : yF.cls = "TriplicateForms") (hnF : (parseMethodDescriptor yF.desc).map (fun d => d.parameters.length) = some 2) (w1 : Cond.methodLink "TriplicateFormsLaw" idx yF ∈ LT) (w2 : Cond.instanceMethod yF ∈ LT) (w3 : Cond.selects "TriplicateForms" yF yF ∈ LT) (w4 : Cond.initialized "TriplicateForms" ∈ LT) (w5 : Cond.code yF ccF 3 (some .int) ∈ LT) (w6 : Cond.classLink "TriplicateFormsLaw" 13 kXn ∈ LT) (w7 : Cond.castable kXn kXn ∈ kXb)
    {w w' : KW} {p0 p1 : KV} {lo' : List (Nat × KV)} {fs : List KV} (hcat : kcats [.inl (.ref 0), p0, p1, .inl (.ref 167)] ≤ 5) (hw0 : kwg w 0 = some (.inr (10, fs))) (hn2 : kfr 0 w ≤ kfr 0 w')
    (hM : ∀ (D : va_G) (dA : Nat → ClassId) (ad : Nat → Nat) (sz : Nat), vx_Met l yF (Cond.code yF ccF 3 (some .int) :: LT) krmX (kPcX D dA ρ ad w [.inl (.ref 0), p0, p1] sz) (kQx (va_A (kW dA ad ρ w) sz)) (kXC D dA ρ ad w w' sz) 1 6 (va_A (kW dA ad ρ w) sz))
    (hrun : kgoTo (kcall kmeths rg ks 12) rg ks 0 5 1 6 kPH 5 kfuel (0, kargs 0 [.inl (.ref 0), p0, p1, .inl (.ref 167)], [], w, 0, 0) = some (5, lo', [p1, p0, .inl (.ref 0), .inl (.int 0), .inl (.ref 167)], w, 0, 0)) (D : va_G) (dA : Nat → ClassId) (ad : Nat → Nat) (sz : Nat) :
    Met l y (Cond.codeWith y cc 5 (some .int) kTb :: LT) krmH (kPcX D dA ρ ad w [.inl (.ref 0), p0, p1, .inl (.ref 167)] sz) (kQc D dA ρ ad w (some (.inl (.int 1))) w' sz) 1 6 (va_A (kW dA ad ρ w) sz) := by
  generalize hase : ([.inl (.ref 0), p0, p1, .inl (.ref 167)] : List KV) = as at *
  refine va_MetW (cc := cc) (maxL := 5) (ret := some .int) (hh := kTb) hpl rfl ?_
  intro p e s m args below meth c s₁ B hml hv
  obtain ⟨⟨rfl, hsz, hPw, hK, hD0, hZ, hN⟩, hXS⟩ := hv
  have hts := atoms_spec (ws := Cond.codeWith y cc 5 (some .int) kTb :: LT) B.pre
  have hlocks := B.notSynchronized
  have htab := vx_table (x := y) B (hts _ List.mem_cons_self)
  subst hsz
  have F : kFix p s m (as.map (kV ad ρ)).toArray meth c cc 5 y.cls y.name D dA (va_A (kW dA ad ρ w) s.heap.size) kStats ad := ⟨B.exec, B.bytes, hml, findClass_of_methodNamed B.named, fun w hw => hts w (List.mem_cons_of_mem _ hw), hK, fun q h => Or.inr h, fun q => (name_of_methodNamed B.named B.method).1.trans q, hZ, hN⟩
  have hl0 := lv_entry (as.map (kV ad ρ)) (n := 5) (by rw [ksl_len]; exact hcat)
  rw [lg_entry_eq]
  generalize (lg_sl (as.map (kV ad ρ)) ++ List.replicate (5 - (lg_sl (as.map (kV ad ρ))).length) Slot.unset).toArray = ls at hl0 ⊢
  rw [kargs_eq] at hl0
  have hgo := k_goTo (p := p) (l := l) (e := e) (R := (headSpec (Cond.codeWith y cc 5 (some .int) kTb :: LT) krmH).room) (below := below) (n0 := kfr 0 w) (Rc := 1) (Rs := 6) (L := 0)
    (Q := MQ below (kQc D dA ρ ad w (some (.inl (.int 1))) w' s.heap.size) (as.map (kV ad ρ)).toArray s 1 6 (va_A (kW dA ad ρ w) s.heap.size)) F hr hks (fun q => absurd q (Nat.lt_irrefl 0)) (k_met kOall hr hks 12) (Nat.le_refl _) (Nat.le_refl _) (by show 13 ≤ 14; decide) (by show 40 * 12 + 40 ≤ 560; decide) hP kfuel _ _ hrun
  refine hgo ?_ ad s.heap [] ls ⟨hl0, hPw, hD0.self, va_S.rf, Nat.le_refl _, kExt.rf _ _⟩
  intro ad' H locs ls' hat
  obtain ⟨hl', hP', hD', hS', hn', hE'⟩ := id hat
  have hFts := F.2.2.2.2.1
  have hown : s.vm.findClass "TriplicateFormsLaw" = some m.cls := by rw [← hyc]; exact F.2.2.2.1
  have hf : ∀ q, va_A (kW dA ad' ρ w) H.size q → va_A (kW dA ad ρ w) s.heap.size q := fun q hq => by
    rcases hq with ⟨j, x, hj⟩ | hq
    · exact hD'.2 j (q, x) hj
    · exact Or.inr (Nat.le_trans hS'.1 hq)
  have hgood : GoodIn LT (wsV "TriplicateFormsLaw" idx "TriplicateForms" yF (Cond.code yF ccF 3 (some .int) :: LT)) := goodLT (fun w hw => by
    rcases List.mem_append.mp hw with hw | hw
    · simp only [List.mem_cons, List.not_mem_nil, or_false] at hw
      rcases hw with e | e | e | e <;> rw [e] <;> assumption
    · rcases List.mem_cons.mp hw with e | hw
      · rw [e]; exact w5
      · exact hw)
  obtain ⟨q0, h1, -⟩ := kW_get (dA := dA) (ad := ad') (ρ := ρ) hw0
  simp only [List.map_cons, List.map_nil]
  refine vx_calli (S := Unit) (SX := Nat → Nat) (A1 := va_A (kW dA ad' ρ w) H.size) (AX := va_A (kW dA ad' ρ w) H.size) (vx_runV (As := [kV ad' ρ p0, kV ad' ρ p1]) (rest := [.int 0, .ref (ad' 167)]) (b := ad' 0) ⟨F.1, F.2.1, F.2.2.1, hown, hFts⟩ (hM D dA ad' H.size) (cwV 2 hFts hgood rfl rfl rfl ⟨hyF, by rw [hyF]; decide, by rw [hyF]; decide, hnF⟩ ⟨by show 13 + 1 ≤ 14; decide, by show 8 + (3 + 11) + 520 ≤ 560; decide⟩) ⟨kPcX_blind, va_recv F.2.2.2.2.2.1 hP' (ci := 10) rfl h1, fun U hU hW => ⟨k_pre F hat [.inl (.ref 0), p0, p1] hU hW, hXS.go hW hU hS' hf⟩⟩ rfl rfl hl'.1 rfl (lv_room (Nat.le_of_ble_eq_true rfl)) d5 ⟨Nat.le_refl _, Nat.le_refl _⟩) hS' (fun q _ h => hf q h) hf (fun q _ h => hf q h) ?_ ?_
  · intro E ce q9 u t H1 locs1 ht halike hu hB hz hk hS1 hce hcv hcl
    obtain ⟨rfl, hP1, hD1⟩ := hB
    rw [ht] at hP1
    refine vx_catch (own := "TriplicateFormsLaw") (name := kXn) hown [] { startPc := 0, endPc := 10, handlerPc := 13, catchType := 13 } [] (by rw [htab]; rfl) (fun z hz => nomatch hz) (by decide) (by decide) (hFts _ w6) (va_Nw.use rfl (hXS.2.2.2.2 _ w7)) hce hcv hcl ?_
    refine lv_astore F.1 F.2.1 d13 hl' (by decide) rfl (fun ls2 hl2 => ?_)
    refine lv_iconst (v := 1) F.1 F.2.1 d15 (by decide) ?_
    exact W.iret B.exec B.bytes B.returns (fun t2 ht2 hW2 => ⟨⟨u, rfl, hE'.tr hu (Nat.le_refl _), hn2, by rw [ht2]; exact hP1, hD1.weaken (fun _ q _ hq => hf _ hq)⟩, hS1.F ht2⟩) hS1.2.2 d16
  · intro r u t H1 locs1 ht halike hpost
    exact absurd hpost id
/-- what a throw wants, at the law's entry -/
theorem law_xs {p : Program} {s : State} {m : MethodId} {meth : Method} {c : Code} {b L : Nat} {xs : Nat → Int32} (C0 : lw_At p s m meth c b L xs) : kXS (fun q => s.heap.size ≤ q) s := by
  obtain ⟨hx, hb, hr, hml, hown, hts, hX, hbl, hlocks, hgv⟩ := C0
  have hs := flat_of_before _ hgv
  have hA : ∀ a : Nat, a < s.heap.size → ¬ (s.heap.size ≤ a) := fun a ha => Nat.not_le.mpr ha
  have hini : (Cond.initialized "java/lang/Throwable").before #[Value.ref b] s = true := hts _ (List.mem_of_getElem? (i := 151) (by decide +kernel))
  refine ⟨vx_Zqof (hts _ (List.mem_of_getElem? (i := 1395) (by decide +kernel))) hini (hs _ (by decide +kernel)) hA, vx_Zqof (hts _ (List.mem_of_getElem? (i := 1397) (by decide +kernel))) hini (hs _ (by decide +kernel)) hA, ?_, ?_, fun w hw => va_Nw.of (kDC_on (List.all_eq_true.mp kXb_dc w hw)) (hts _ (kXb_tbl w hw))⟩
  · have he : (Cond.exactly (.string "TriplicateForms" 127) "java/lang/String").before #[Value.ref b] s = true := hs _ (by decide +kernel)
    obtain ⟨a, c2, cell, k, r1, -⟩ := Cond.exactly_spec he
    exact ⟨a, vk_R.of (A := #[Value.ref b]) (hts _ (List.mem_of_getElem? (i := 1407) (by decide +kernel))) r1⟩
  · have he : (Cond.exactly (.string "TriplicateForms" 152) "java/lang/String").before #[Value.ref b] s = true := hs _ (by decide +kernel)
    obtain ⟨a, c2, cell, k, r1, -⟩ := Cond.exactly_spec he
    exact ⟨a, vk_R.of (A := #[Value.ref b]) (hts _ (List.mem_of_getElem? (i := 1443) (by decide +kernel))) r1⟩
/-- the law's call of a helper -/
theorem law_throw {p : Program} {l : Launch} {e : Env} {s : State} {m : MethodId} {below : List Frame} {meth : Method} {c : Code} {b L : Nat} {xs : Nat → Int32} {D : va_G} {dA : Nat → ClassId} {ad0 : Nat → Nat} (C0 : lw_At p s m meth c b L xs) (hL6 : L = 6) (F : kFix p s m #[Value.ref b] meth c code 7 "TriplicateFormsLaw" "law" D dA (fun q => s.heap.size ≤ q) kStats ad0) (hb0 : ad0 1000000 = b) {rg : List (Int × Int)} {ks : Option Int32} (hr : kRg rg xs) (hks : ∀ v, ks = some v → xs 0 &&& 63 = v)
    {pcF idxF : Nat} {y : MethodName} {cc : ByteArray} {p0 p1 : KV} {w' : KW} {lo : List (Nat × KV)} {c1 s1 : Nat} (hyc : y.cls = "TriplicateFormsLaw") (hnF : (parseMethodDescriptor y.desc).map (fun d => d.parameters.length) = some 4) (w1 : Cond.methodLink "TriplicateFormsLaw" idxF y ∈ LT) (w2 : Cond.static y ∈ LT) (w3 : Cond.initialized "TriplicateFormsLaw" ∈ LT) (w4 : Cond.codeWith y cc 5 (some .int) kTb ∈ LT) (dF : decode code pcF = .ok (.invokestatic idxF, 3))
    (hH : ∀ (D : va_G) (dA : Nat → ClassId) (ad : Nat → Nat) (sz : Nat), Met l y (Cond.codeWith y cc 5 (some .int) kTb :: LT) krmH (kPcX D dA xs ad kW1 [.inl (.ref 0), p0, p1, .inl (.ref 167)] sz) (kQc D dA xs ad kW1 (some (.inl (.int 1))) w' sz) 1 6 (va_A (kW dA ad xs kW1) sz))
    (hA : kgoTo (kcall kmeths rg ks 12) rg ks 7 7 kRc kRs kPL pcF kfuel kS1 = some (pcF, lo, [.inl (.ref 167), p1, p0, .inl (.ref 0)], kW1, c1, s1)) (hlo : kokL (kfr 0 kW1) lo = true) (hc1 : c1 + 1 ≤ kRc) (hs1 : s1 + 6 ≤ kRs)
    (hB : kFin (krun (kcall kmeths rg ks 12) rg ks 7 7 kRc kRs kPL kfuel [] (pcF + 3, lo, [.inl (.int 1)], w', c1 + 1, s1 + 6)) = true) : lGo p l e s m b below meth c D dA xs ad0 kS1 := by
  have hts := F.2.2.2.2.1
  have hX : kSc s (fun q => s.heap.size ≤ q) ad0 xs 7 := fun _ => ⟨b, xs, by subst hL6; exact C0.2.2.2.2.2.2.1, C0.2.2.2.2.2.2.2.1, fun q => absurd C0.2.2.2.2.2.2.2.1 (Nat.not_lt.mpr q), hb0, fun _ _ => rfl⟩
  refine k_goTo (p := p) (l := l) (e := e) (R := room_1) (below := below) (n0 := 0) (Q := lw_Z below #[Value.ref b] s) F hr hks (L := 7) hX (k_met kOall hr hks 12) (Nat.le_refl _) (Nat.le_refl _) (Nat.le_of_ble_eq_true rfl) (Nat.le_of_ble_eq_true rfl) kPL_ok kfuel kS1 _ hA ?_
  intro ad H locs ls hat
  have hf : ∀ q, va_A (kW dA ad xs kW1) H.size q → s.heap.size ≤ q := fun q hq => by
    rcases hq with ⟨j, x, hj⟩ | hq
    · exact hat.2.2.1.2 j (q, x) hj
    · exact Nat.le_trans hat.2.2.2.1.1 hq
  have hgood : GoodIn LT (va_wsS "TriplicateFormsLaw" idxF y (Cond.codeWith y cc 5 (some .int) kTb :: LT)) := goodLT (fun w hw => by
    rcases List.mem_append.mp hw with hw | hw
    · simp only [List.mem_cons, List.not_mem_nil, or_false] at hw
      rcases hw with e | e | e
      · rw [e]; exact w1
      · rw [e]; exact w2
      · rw [e, hyc]; exact w3
    · rcases List.mem_cons.mp hw with e | hw
      · rw [e]; exact w4
      · exact hw)
  refine k_after (mc := 1) (msl := 6) (rest := []) (ret := some (.inl (.int 1))) (w' := w') F hat hlo rfl (a := (([.inl (.ref 0), p0, p1, .inl (.ref 167)] : List KV).map (kV ad xs)).toArray) (vx_runSW (As := ([.inl (.ref 0), p0, p1, .inl (.ref 167)] : List KV).map (kV ad xs)) ⟨F.1, F.2.1, F.2.2.1, F.2.2.2.1, hts⟩ (hH D dA ad H.size) (vx_cwSW 4 hts hgood rfl rfl rfl ⟨by rw [hyc]; decide, by rw [hyc]; decide, hnF⟩ ⟨Nat.le_of_ble_eq_true rfl, Nat.le_of_ble_eq_true rfl⟩) ⟨kPcX_blind, fun U hU hW => ⟨k_pre F hat [.inl (.ref 0), p0, p1, .inl (.ref 167)] hU hW, (law_xs C0).go hW hU hat.2.2.2.1 hf⟩⟩ rfl rfl hat.1.1 rfl (lv_room (Nat.le_of_ble_eq_true rfl)) dF ⟨hc1, hs1⟩) ?_
  exact law_run C0 F hb0 (cur := []) (fun x hx => by cases hx) hr hks (by rw [hL6]) (fun _ _ => rfl) hB
def kSA (pc : Nat) : KF := (pc, kS1.2.1, [.inl (.ref 167), .inr (.inl 2), .inr (.inl 1), .inl (.ref 0)], kW1, kS1.2.2.2.2.1, kS1.2.2.2.2.2)
/-- inputs compared, too -/
def keV2 : KV → KV → Bool
  | .inl a, .inl b => decide (a = b)
  | .inr (.inl i), .inr (.inl j) => Nat.beq i j
  | _, _ => false
theorem keV2_ok {a b : KV} (h : keV2 a b = true) : a = b := by
  rcases a with a | (a | a) <;> rcases b with b | (b | b) <;> first | (rw [of_decide_eq_true h]; done) | (rw [show a = b from kb_t h]; done) | cases h
def keF2 (a b : KF) : Bool := Nat.beq a.1 b.1 && (keL (keP keV2) a.2.1 b.2.1 && (keL keV2 a.2.2.1 b.2.2.1 && (keL (keL keE) a.2.2.2.1 b.2.2.2.1 && (Nat.beq a.2.2.2.2.1 b.2.2.2.2.1 && Nat.beq a.2.2.2.2.2 b.2.2.2.2.2))))
theorem keF2_ok (a b : KF) (h : keF2 a b = true) : a = b := by
  obtain ⟨p1, l1, s1, w1, c1, n1⟩ := a
  obtain ⟨p2, l2, s2, w2, c2, n2⟩ := b
  unfold keF2 at h
  simp only [Bool.and_eq_true] at h
  obtain ⟨h1, h2, h3, h4, h5, h6⟩ := h
  rw [show p1 = p2 from kb_t h1, show l1 = l2 from keL_ok (keP_ok (fun a b => keV2_ok)) _ _ h2, show s1 = s2 from keL_ok (fun a b => keV2_ok) _ _ h3, show w1 = w2 from keL_ok (keL_ok keE_ok) _ _ h4, show c1 = c2 from kb_t h5, show n1 = n2 from kb_t h6]
def keO2 (a : Option KF) (b : KF) : Bool := match a with
  | some x => keF2 x b
  | none => false
theorem keO2_ok {a : Option KF} {b : KF} (h : keO2 a b = true) : a = some b := by
  unfold keO2 at h
  split at h
  · rw [keF2_ok _ _ h]
  · cases h
