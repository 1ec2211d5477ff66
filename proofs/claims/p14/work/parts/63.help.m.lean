section
/-! The law's helpers: they call, keep the answer or catch. -/
abbrev kTb : List (Nat × Nat × Nat × Nat) := [(0, 10, 13, 13)]
def kPH : List KEnt := [(0, .aload_n 3, (0, 0, 0, 0, 0)), (1, .iconst 0, (0, 0, 0, 0, 0)), (2, .aload_n 0, (0, 0, 0, 0, 0)), (3, .iload_n 1, (0, 0, 0, 0, 0)), (4, .iload_n 2, (0, 0, 0, 0, 0)), (5, .areturn, (0, 0, 0, 0, 0))]
def kPH2 : List KEnt := [(8, .i2l, (0, 0, 0, 0, 0)), (9, .lastore, (0, 0, 0, 0, 0)), (10, .goto 7, (0, 0, 0, 0, 0)), (17, .iconst 0, (0, 0, 0, 0, 0)), (18, .ireturn, (0, 0, 0, 0, 0))]
def kHlo (a b : Int32) : List (Nat × KV) := [(0, .inl (.ref 0)), (1, .inl (.int a)), (2, .inl (.int b)), (3, .inl (.ref 167))]
theorem kPH_run {call : Nat → List KV → KW → Option (Option KV × KW)} {X : KO} {w : KW} (a b : Int32) : krx call X [] 0 5 1 6 kPH 6 (0, kargs 0 [.inl (.ref 0), .inl (.int a), .inl (.int b), .inl (.ref 167)], [], w, 0, 0) = some (.areturn, 5, kHlo a b, [.inl (.int b), .inl (.int a), .inl (.ref 0), .inl (.int 0), .inl (.ref 167)], w, 0, 0) := rfl
theorem kPH2_run {call : Nat → List KV → KW → Option (Option KV × KW)} {X : KO} {w : KW} {n : Nat} {l1 : List (Nat × Int64)} {d1 : Int64} (a b z : Int32) (hn : 0 < n) (hw : kwg w 167 = some (.inl (1, n, .inr (.inl (l1, d1))))) : krx call X [] 0 5 1 6 kPH2 5 (8, kHlo a b, [.inl (.int z), .inl (.int 0), .inl (.ref 167)], w, 1, 6) = some (.ireturn, 18, kHlo a b, [.inl (.int 0)], kws w 167 (.inl (1, n, .inr (.inl (kset l1 0 z.toInt64, d1)))), 1, 6) := by
  have h9 : klast 9 (kHlo a b) [.inl (.long z.toInt64), .inl (.int 0), .inl (.ref 167)] w 1 6 = some (9 + 1, kHlo a b, [], kws w 167 (.inl (1, n, .inr (.inl (kset l1 0 z.toInt64, d1)))), 1, 6) := by
    unfold klast
    simp only [hw]
    have e1 : (Nat.beq 1 1 && kinB 0 n) = true := by
      have : kinB 0 n = Nat.blt 0 n := rfl
      rw [this, Nat.blt_eq.mpr hn]
      rfl
    rw [e1]
    rfl
  show (match klast 9 (kHlo a b) [.inl (.long z.toInt64), .inl (.int 0), .inl (.ref 167)] w 1 6 with
    | none => none
    | some k => krx call X [] 0 5 1 6 kPH2 3 k) = _
  rw [h9]
  rfl
theorem klroomG {a c d L : Nat} (h : a ≤ 21) (h2 : 40 * d + (c + 40) ≤ L) : 8 + (a + 11) + (40 * d + c) ≤ L := by omega
theorem klroomH {d L : Nat} (h : 40 * d + 320 ≤ L) : 8 + (3 + 11) + (40 * d + 280) ≤ L := klroomG (a := 3) (c := 280) (Nat.le_of_ble_eq_true rfl) h
def kHb (r : Option KV) (w' : KW) (b : Int32) (w2 : KW) : Prop := (r = none ∧ b = 1 ∧ w2 = w') ∨ (∃ z l1 d1 n, r = some (.inl (.int z)) ∧ b = 0 ∧ kwg w' 167 = some (.inl (1, n, .inr (.inl (l1, d1)))) ∧ 0 < n ∧ w2 = kws w' 167 (.inl (1, n, .inr (.inl (kset l1 0 z.toInt64, d1)))))
theorem kh_metT {l : Launch} {zs : KZ} {X : KO} (hX1 : zs.2 = some X) {ms : List KMeth} {ρ : Nat → Int32} {y yF : MethodName} {cc ccF : ByteArray} {idx : Nat} (hyc : y.cls = "TriplicateFormsLaw") (hpl : plainName y.cls = true) (hP : ∀ x ∈ kPH ++ kPH2, kdec cc x = true ∨ x.1 = 5) (d5 : decode cc 5 = .ok (.invokevirtual idx, 3)) (d13 : decode cc 13 = .ok (.astore 4, 2)) (d15 : decode cc 15 = .ok (.iconst 1, 1)) (d16 : decode cc 16 = .ok (.ireturn, 1))
    (hyF : yF.cls = "TriplicateForms") (hnF : (parseMethodDescriptor yF.desc).map (fun d => d.parameters.length) = some 2) (w1 : Cond.methodLink "TriplicateFormsLaw" idx yF ∈ LT) (w2 : Cond.instanceMethod yF ∈ LT) (w3 : Cond.selects "TriplicateForms" yF yF ∈ LT) (w4 : Cond.initialized "TriplicateForms" ∈ LT) (w5 : Cond.code yF ccF 3 (some .int) ∈ LT) (w6 : Cond.classLink "TriplicateFormsLaw" 13 kXn ∈ LT) (w7 : Cond.castable kXn kXn ∈ kXb)
    {d : Nat} {w w' wz : KW} {a b bz : Int32} {r : Option KV} {fs : List KV} (hw0 : kwg w 0 = some (.inr (10, fs))) (hkl : kokL (kfr 0 w) (kHlo a b) = true) (hn2 : kfr 0 w ≤ kfr 0 w') (hb : kHb r w' bz wz)
    (hM : ∀ (D : va_G) (dA : Nat → ClassId) (ad : Nat → Nat) (sz : Nat), vx_Met l yF (Cond.code yF ccF 3 (some .int) :: LT) (krmX d) (kPcX D dA ρ zs ad w [.inl (.ref 0), .inl (.int a), .inl (.int b)] sz) (kQt D dA ρ ad w w' r sz) (kXt D dA ρ ad w w' r sz) 1 6 (va_A (kW dA ad ρ w) sz)) (D : va_G) (dA : Nat → ClassId) (ad : Nat → Nat) (sz : Nat) :
    Met l y (Cond.codeWith y cc 5 (some .int) kTb :: LT) (krmH d) (kPcX D dA ρ zs ad w [.inl (.ref 0), .inl (.int a), .inl (.int b), .inl (.ref 167)] sz) (kQc D dA ρ ad w (some (.inl (.int bz))) wz sz) 1 6 (va_A (kW dA ad ρ w) sz) := by
  have hEnt : ∀ x ∈ kPH ++ kPH2, kendx x.2.1 = false → kEntX ms zs.1 y.cls y.name cc x := by
    intro x hx he
    have hd := hP x hx
    have h5 : x.1 = 5 → kendx x.2.1 = true := by
      have hx := hx
      simp only [kPH, kPH2, List.cons_append, List.nil_append, List.mem_cons, List.not_mem_nil, or_false] at hx
      rcases hx with rfl | rfl | rfl | rfl | rfl | rfl | rfl | rfl | rfl | rfl | rfl <;> intro h <;> first | rfl | exact absurd h (by decide)
    rcases hd with hd | hd
    · refine ⟨hd, ?_, ?_⟩
      · have h0 : kwordsX ms zs.1 y.cls x = [] := by
          simp only [kPH, kPH2, List.cons_append, List.nil_append, List.mem_cons, List.not_mem_nil, or_false] at hx
          rcases hx with rfl | rfl | rfl | rfl | rfl | rfl | rfl | rfl | rfl | rfl | rfl <;> rfl
        rw [h0]
        exact fun w h => absurd h List.not_mem_nil
      · simp only [kPH, kPH2, List.cons_append, List.nil_append, List.mem_cons, List.not_mem_nil, or_false] at hx
        rcases hx with rfl | rfl | rfl | rfl | rfl | rfl | rfl | rfl | rfl | rfl | rfl <;> rfl
    · rw [h5 hd] at he; cases he
  generalize hase : ([.inl (.ref 0), .inl (.int a), .inl (.int b), .inl (.ref 167)] : List KV) = as at *
  refine va_MetW (cc := cc) (maxL := 5) (ret := some .int) (hh := kTb) hpl rfl ?_
  intro p e s m args below meth c s₁ B hml hv
  obtain ⟨⟨rfl, hsz, hPw, hK, hD0, hZ, hN⟩, hXS⟩ := hv
  have hts := atoms_spec (ws := Cond.codeWith y cc 5 (some .int) kTb :: LT) B.pre
  have hlocks := B.notSynchronized
  have hrt := B.returns
  have htab := vx_table (x := y) B (hts _ List.mem_cons_self)
  subst hsz
  have F : kFix p s m (as.map (kV ad ρ)).toArray meth c cc 5 y.cls y.name D dA (va_A (kW dA ad ρ w) s.heap.size) zs ad := ⟨B.exec, B.bytes, hml, findClass_of_methodNamed B.named, fun w hw => hts w (List.mem_cons_of_mem _ hw), hK, fun q h => Or.inr h, fun q => (name_of_methodNamed B.named B.method).1.trans q, hZ, hN⟩
  have hl0 := lv_entry (as.map (kV ad ρ)) (n := 5) (by rw [ksl_len, ← hase]; exact Nat.le_of_ble_eq_true rfl)
  rw [lg_entry_eq]
  generalize (lg_sl (as.map (kV ad ρ)) ++ List.replicate (5 - (lg_sl (as.map (kV ad ρ))).length) Slot.unset).toArray = ls at hl0 ⊢
  rw [kargs_eq] at hl0
  obtain ⟨-, -, hgo⟩ := k_runx (p := p) (l := l) (e := e) (R := (headSpec (Cond.codeWith y cc 5 (some .int) kTb :: LT) (krmH d)).room) (s := s) (m := m) (below := below) (n0 := kfr 0 w) (ρ := ρ) (L := 0) (ms := ms) (call := fun _ _ _ => none) (d := 0)
    (Q := MQ below (kQc D dA ρ ad w (some (.inl (.int bz))) wz s.heap.size) (as.map (kV ad ρ)).toArray s 1 6 (va_A (kW dA ad ρ w) s.heap.size)) F hX1 (fun i lo hi h => by simp at h) (fun q => absurd q (Nat.lt_irrefl 0)) (fun _ _ _ _ _ _ _ h => by cases h) (Nat.le_refl _) (Nat.le_refl _) (by show 0 + 6 ≤ d + 7; omega) (by show 40 * 0 + 280 ≤ 40 * d + 320; omega) (fun x hx he => hEnt x (List.mem_append_left _ hx) he) 6 _ _ _ (kPH_run a b)
  refine hgo ?_ ad s.heap [] ls ⟨by rw [hase]; exact hl0, hPw, hD0.self, va_S.rf, Nat.le_refl _, kExt.rf _ _⟩
  intro ad' H locs ls' hat
  obtain ⟨hl', hP', hD', hS', hn', hE'⟩ := id hat
  have hFts := F.2.2.2.2.1
  have hown : s.vm.findClass "TriplicateFormsLaw" = some m.cls := by rw [← hyc]; exact F.2.2.2.1
  have hf : ∀ q, va_A (kW dA ad' ρ w) H.size q → va_A (kW dA ad ρ w) s.heap.size q := fun q hq => by
    rcases hq with ⟨j, x, hj⟩ | hq
    · exact hD'.2 j (q, x) hj
    · exact Or.inr (Nat.le_trans hS'.1 hq)
  obtain ⟨q0, h1, -⟩ := kW_get (dA := dA) (ad := ad') (ρ := ρ) hw0
  refine vx_calli (S := Nat → Nat) (SX := Nat → Nat) (A1 := va_A (kW dA ad' ρ w) H.size) (AX := va_A (kW dA ad' ρ w) H.size) (vx_runV (As := [.int a, .int b]) (rest := [.int 0, .ref (ad' 167)]) (b := ad' 0) ⟨F.1, F.2.1, F.2.2.1, hown, hFts⟩ (hM D dA ad' H.size) (cwV 2 hFts (kj_gV w1 w2 w3 w4 w5) rfl rfl rfl ⟨hyF, by rw [hyF]; decide, by rw [hyF]; decide, hnF⟩ ⟨Nat.le_refl _, klroomH (Nat.le_refl _)⟩) ⟨kPcX_blind, va_recv F.2.2.2.2.2.1 hP' (ci := 10) rfl h1, fun U hU hW => ⟨k_pre F hat [.inl (.ref 0), .inl (.int a), .inl (.int b)] hU hW, hXS.go hW hU hS' hf⟩⟩ rfl rfl hl'.1 rfl (lv_room (Nat.le_of_ble_eq_true rfl)) d5 ⟨Nat.le_refl _, Nat.le_refl _⟩) hS' (fun q _ h => hf q h) hf (fun q _ h => hf q h) ?_ ?_
  · intro E ce q9 u t H1 locs1 ht halike hu hB hz hk hS1 hce hcv hcl
    obtain ⟨hr, hu⟩ := hu
    obtain ⟨rfl, hP1, hD1⟩ := hB
    rw [ht] at hP1
    rcases hb with ⟨-, rfl, rfl⟩ | ⟨z, l1, d1, n, hb1, -⟩
    · refine vx_catch (own := "TriplicateFormsLaw") (name := kXn) hown [] { startPc := 0, endPc := 10, handlerPc := 13, catchType := 13 } [] (by rw [htab]; rfl) (fun z hz => nomatch hz) (by show covers { startPc := 0, endPc := 10, handlerPc := 13, catchType := 13 } 5 = true; decide) (by decide) (hFts _ w6) (va_Nw.use rfl (hXS.2.2.2.2 _ w7)) hce hcv hcl ?_
      refine lv_astore F.1 F.2.1 d13 hl' (by decide) rfl (fun ls2 hl2 => ?_)
      refine lv_iconst (v := 1) F.1 F.2.1 d15 (by decide) ?_
      exact W.iret B.exec B.bytes hrt (fun t2 ht2 hW2 => ⟨⟨u, rfl, hE'.tr hu (Nat.le_refl _), hn2, by rw [ht2]; exact hP1, hD1.weaken (fun _ q _ hq => hf _ hq)⟩, hS1.F ht2⟩) hS1.2.2 d16
    · rw [hr] at hb1; cases hb1
  · intro z u t H1 locs1 ht halike hpost hB hz hk hS1
    obtain ⟨hr, hu⟩ := hpost
    obtain ⟨hP1, hD1⟩ := hB
    rw [ht] at hP1
    rcases hb with ⟨hb1, -⟩ | ⟨z2, l1, d1, n, hb1, rfl, hb3, hb4, rfl⟩
    · rw [hr] at hb1; cases hb1
    · rw [hr] at hb1; cases hb1
      obtain ⟨-, -, hgo2⟩ := k_runx (p := p) (l := l) (e := e) (R := (headSpec (Cond.codeWith y cc 5 (some .int) kTb :: LT) (krmH d)).room) (s := s) (m := m) (below := below) (n0 := kfr 0 w) (ρ := ρ) (L := 0) (ms := ms) (call := fun _ _ _ => none) (d := 0)
        (Q := MQ below (kQc D dA ρ ad w (some (.inl (.int 0))) (kws w' 167 (.inl (1, n, .inr (.inl (kset l1 0 z.toInt64, d1))))) s.heap.size) (as.map (kV ad ρ)).toArray s 1 6 (va_A (kW dA ad ρ w) s.heap.size)) F hX1 (fun i lo hi h => by simp at h) (fun q => absurd q (Nat.lt_irrefl 0)) (fun _ _ _ _ _ _ _ h => by cases h) (Nat.le_refl _) (Nat.le_refl _) (by show 0 + 6 ≤ d + 7; omega) (by show 40 * 0 + 280 ≤ 40 * d + 320; omega) (fun x hx he => hEnt x (List.mem_append_right _ hx) he) 5 _ _ _ (kPH2_run a b z hb4 hb3)
      have hk5 : kV u ρ (.inl (.ref 167)) = .ref (ad' 167) := by
        have h9 : kokV (kfr 0 w) (.inl (.ref 167)) = true := by
          have := List.all_eq_true.mp hkl (3, .inl (.ref 167)) (by simp [kHlo])
          exact this
        rw [kV_ext hu h9]
        rfl
      have g5 := hgo2 ?_ u H1 locs1 ls' ⟨by rw [kL_ext hu hkl]; exact hl', hP1, hD1.weaken (fun _ q _ hq => hf _ hq), hS1, hn2, hE'.tr hu (Nat.le_refl _)⟩
      · simp only [List.map_cons, List.map_nil] at g5
        rw [hk5] at g5
        exact g5
      · intro ad2 H2 locs2 ls2 hat2
        obtain ⟨hl2, hP2, hD2, hS2, hn3, hE2⟩ := hat2
        have d18 : decode cc 18 = .ok (.ireturn, 1) := by
          have hd := hP (18, .ireturn, (0, 0, 0, 0, 0)) (by simp [kPH, kPH2])
          rcases hd with hd | hd
          · obtain ⟨len, hd1, hlen⟩ := kdec_ok hd
            rcases hlen with q | q
            · exact absurd q (Nat.succ_ne_zero _)
            · subst q; exact hd1
          · cases hd
        exact W.iret B.exec B.bytes hrt (fun t2 ht2 hW2 => ⟨⟨ad2, rfl, hE2, hn3, by rw [ht2]; exact hP2, hD2⟩, hS2.F ht2⟩) hS2.2.2 d18
end
section
/-! The check of what may throw. -/
section CHKT
variable {E : TEnv} {ph : PHI} {ms : List KMeth} {X : KO} {CS : List KC}
theorem kchkT_ok {clk : KCL} (hmo : KMono clk) (hE : kEok E) (hW : kEw E) (hph : phW ph) {d fuel : Nat} {C : KC} {G : KG} {mn : MethodName} {y : ByteArray} {maxL mc ml : Nat} {ret : Option FieldType} {prog : List KEnt} (hms : ms[C.1]? = some (mn, y, maxL, ret, mc, ml, prog)) (hCS : ∀ C ∈ CS, kcwf C = true ∧ CV E ph clk d C) (h : kchk E ph CS ms fuel C G = true) {ρ : Nat → Int} {st : List KV} {w : KW} (hT : kTW E w) (hG : aGS E ph ρ C.2.1 (0, [], st, w, 0, 0)) (hM : lev ρ C.2.2.2.2 < (d : Int) + 1) : Nat.ble (kcats st.reverse) maxL = true ∧ TG E ph clk X C.2.2.2.1 [] 0 maxL mc ml ret prog C.2.2.1 C.2.1.1 ρ w (0, kargs 0 st.reverse, [], w, 0, 0) := by
  unfold kchk at h
  rw [hms] at h
  · simp only [Bool.and_eq_true] at h
    obtain ⟨h1, h2, h3, h4, h5, h6⟩ := h
    unfold kcwf at h1
    have h1 := Bool.and_eq_true_iff.mp h1
    have hMw := lwfb_ok h2
    have hp : ∀ P ∈ C.2.2.1, apwf 0 P = true ∧ C.2.1.1 ≤ P.1 := fun P hP => by
      have := Bool.and_eq_true_iff.mp (List.all_eq_true.mp h1.2 P hP)
      exact ⟨this.1, Nat.ble_eq.mp this.2⟩
    have hcuts := fun q hq => List.all_eq_true.mp h5 q hq
    have hwf : ∀ q ∈ G.1, apwf C.2.1.1 q.2.1 = true := fun q hq => (Bool.and_eq_true_iff.mp (hcuts q hq)).1
    have hsc : kScA false C.2.1.1 ρ ([] : List (Int × Int)) 0 := fun z => (nomatch z)
    have cutM : ∀ m : Nat, HC E ph clk X C.2.2.2.1 [] 0 maxL mc ml ret prog C.2.2.1 C.2.1.1 G ρ w (some (m : Int)) := by
      intro m
      induction m with
      | zero =>
        intro q hq ρq k e1 e2 e3 e4 e5 e6
        have hc := hcuts q hq
        simp only [Bool.and_eq_true] at hc
        have z := lle_ok e3.1.2.1 e3.1.2.2.1 hc.2.2.1
        rw [lev_neg] at z
        have := e6 0 rfl
        omega
      | succ m ih =>
        intro q hq ρq k e1 e2 e3 e4 e5 e6
        have hc := hcuts q hq
        simp only [Bool.and_eq_true] at hc
        have z := e6 _ rfl
        have hn : C.2.1.1 ≤ q.2.1.1 := by
          have := hc.1
          unfold apwf at this
          exact Nat.ble_eq.mp (Bool.and_eq_true_iff.mp this).1
        have hqw := lwfb_ok hc.2.1
        have hH : HC E ph clk X C.2.2.2.1 [] 0 maxL mc ml ret prog C.2.2.1 C.2.1.1 G ρ w (some (lev ρq q.2.2)) := fun q' hq' ρ' k' a1 a2 a3 a4 a5 a6 => ih q' hq' ρ' k' a1 a2 a3 a4 a5 (fun y hy => by
          have b1 := a6 _ rfl
          have : y = (m : Int) := (Option.some.inj hy).symm
          have : ((m + 1 : Nat) : Int) = (m : Int) + 1 := rfl
          omega)
        have hlast := hc.2.2.2
        split at hlast
        · rename_i L hL
          rw [← e1] at hL
          rcases aproc_ok hmo (b := some (lev ρq q.2.2)) (rgk := []) (L0 := 0) hE hW hph hCS hp hwf e4 e3 hn e2 e5 hMw hM hsc (fun y hy => ⟨q.2.2, rfl, hqw, Option.some.inj hy⟩) hH hL with t | ⟨k', k1, k2, k3, p, p1, p2, ρ2, p3, p4, p5⟩
          · exact t
          · have t := expl_ok hmo (b := some (lev ρq q.2.2)) (rgk := []) (L0 := 0) hE hW hph hCS hp hwf hMw hM hsc hn e2 (fun y hy => ⟨q.2.2, rfl, hqw, Option.some.inj hy⟩) hH fuel L hlast p p1 ρ2 k' p2 p3 p4 p5 k2 k3
            obtain ⟨ig, kk, t1, t2⟩ := t
            exact ⟨ig, kk, k1 _ t1, t2⟩
        · cases hlast
    have hH : HC E ph clk X C.2.2.2.1 [] 0 maxL mc ml ret prog C.2.2.1 C.2.1.1 G ρ w none := fun q hq ρ' k' a1 a2 a3 a4 a5 _ => cutM ((lev ρ' q.2.2).toNat + 1) q hq ρ' k' a1 a2 a3 a4 a5 (fun y hy => by
      have : y = (((lev ρ' q.2.2).toNat + 1 : Nat) : Int) := (Option.some.inj hy).symm
      omega)
    have hst := aSt_rev _ _ hG.2.2.1
    have hlo := aargs_look _ _ 0 hst
    have hent : aGS E ph ρ (C.2.1.1, C.2.1.2.1, C.2.1.2.2.1, aargs 0 C.2.1.2.2.2.2.1.reverse, [], C.2.1.2.2.2.2.2.1, lfc 0, lfc 0) (0, kargs 0 st.reverse, [], w, 0, 0) := ⟨⟨hG.1.1, hG.1.2.1, hG.1.2.2.1, ⟨lwf_c _ _, by rw [lev_c]; exact Int.le_refl _⟩, ⟨lwf_c _ _, by rw [lev_c]; exact Int.le_refl _⟩⟩, hlo, trivial, hG.2.2.2⟩
    refine ⟨?_, expl_ok hmo (b := none) (rgk := []) (L0 := 0) (nc := C.2.1.1) (ρc := ρ) hE hW hph hCS hp hwf hMw hM hsc (Nat.le_refl _) (fun _ _ => rfl) (fun y hy => (nomatch hy)) hH fuel _ h6 _ List.mem_cons_self ρ (0, kargs 0 st.reverse, [], w, 0, 0) rfl (fun _ _ => rfl) (Nat.le_refl _) hent hT (kFr.rf _ _ _)⟩
    rw [(aSt_ok _ _ hst).2]
    exact h4
end CHKT
end
