/-! the two calls that throw, and the law's helpers that catch -/
abbrev kXn : String := "java/util/NoSuchElementException"
def kXl : List Cond := (kXat "TriplicateForms" 129 kXn "java/lang/RuntimeException" ["java/lang/Exception"]).filter vx_no
def kXb : List Cond := kXl.filter (fun w => !goodWord w)
def kDC : Cond → Bool
  | .declares _ => true
  | .castable _ _ => true
  | _ => false
set_option maxRecDepth 100000 in
theorem kXb_dc : kXb.all kDC = true := by decide +kernel
set_option maxRecDepth 100000 in
theorem kXl_good : ∀ w ∈ kXl.filter goodWord, w ∈ LT := by
  have h : ∀ w ∈ kXl.filter goodWord, w ∈ lw_tbl := by decide +kernel
  exact fun w hw => List.mem_filter.mpr ⟨h w hw, (List.mem_filter.mp hw).2⟩
set_option maxRecDepth 100000 in
theorem kXb_tbl : ∀ w ∈ kXb, w ∈ lw_tbl := by decide +kernel
set_option maxRecDepth 100000 in
theorem kX_ot : ∀ w ∈ Cond.classLink "TriplicateForms" 125 kXn :: Cond.initialized kXn :: kXl, vx_ot w = true := by decide +kernel
theorem kDC_warm {w : Cond} {s U : State} (h : kDC w = true) (hW : s.WarmedH U.vm) (hn : va_Nw w s) : va_Nw w U := by
  cases w <;> first | cases h | skip
  · exact va_Nw.warmD hW hn
  · exact va_Nw.warmC hW hn
theorem kDC_on {w : Cond} (h : kDC w = true) : w.onTables = true := by
  cases w <;> first | (cases h; done) | rfl
/-- what a throw wants of the state, beside words -/
def kXS (A : Nat → Prop) (U : State) : Prop := vx_Zq Bundle.tN "UNASSIGNED_STACK" Bundle.steD A U U.heap ∧ vx_Zq Bundle.tN "SUPPRESSED_SENTINEL" Bundle.listD A U U.heap ∧ (∃ sa, vk_R "TriplicateForms" 127 "no such form or no such what" sa U) ∧ (∃ sa, vk_R "TriplicateForms" 152 "no such person or no such what" sa U) ∧ ∀ w ∈ kXb, va_Nw w U
theorem kXS.go {A B : Nat → Prop} {s U : State} {H : Heap} {locs : List Loc} (h : kXS A s) (hW : s.WarmedH U.vm) (hU : U.heap = H) (hS : va_S A s.heap H locs) (hAB : ∀ q, B q → A q) : kXS B U := by
  obtain ⟨h1, h2, ⟨a, h3⟩, ⟨b, h4⟩, h5⟩ := h
  refine ⟨?_, ?_, ⟨a, h3.warm hW⟩, ⟨b, h4.warm hW⟩, fun w hw => kDC_warm (List.all_eq_true.mp kXb_dc w hw) hW (h5 w hw)⟩
  · rw [hU]; exact ((h1.moved hW.alike).kept hS.2.1).narrow hAB
  · rw [hU]; exact ((h2.moved hW.alike).kept hS.2.1).narrow hAB
theorem kXS.calling {A : Nat → Prop} {U : State} {g : JFrame} {mk : MethodId} {a : Array Value} (h : kXS A U) : kXS A (U.calling g mk a) := by
  obtain ⟨h1, h2, ⟨a1, h3⟩, ⟨b1, h4⟩, h5⟩ := h
  exact ⟨vx_Zq.moved (u := U) (U := U.calling g mk a) (Vm.Alike.refl U.vm) h1, vx_Zq.moved (u := U) (U := U.calling g mk a) (Vm.Alike.refl U.vm) h2, ⟨a1, vk_R.same rfl h3⟩, ⟨b1, vk_R.same rfl h4⟩, fun w hw => va_Nw.same (u := U) (U := U.calling g mk a) (kDC_on (List.all_eq_true.mp kXb_dc w hw)) rfl (h5 w hw)⟩
def kPcX (D : va_G) (dA : Nat → ClassId) (ρ : Nat → Int32) (zs : KZ) (ad : Nat → Nat) (w : KW) (as : List KV) (sz : Nat) : Array Value → State → Prop := fun a U => kPc D dA ρ zs ad w as sz a U ∧ kXS (va_A (kW dA ad ρ w) sz) U
theorem kPcX_blind {D : va_G} {dA : Nat → ClassId} {ρ : Nat → Int32} {zs : KZ} {ad : Nat → Nat} {w : KW} {as : List KV} {sz : Nat} : FrameBlind (kPcX D dA ρ zs ad w as sz) := fun a U g mk q => ⟨kPc_blind a U g mk q.1, q.2.calling⟩
/-- the class's own end: an int, with the world behind it -/
def kQt (D : va_G) (dA : Nat → ClassId) (ρ : Nat → Int32) (ad : Nat → Nat) (w w' : KW) (r : Option KV) (sz : Nat) : Array Value → State → Outcome → State → Prop := va_Qi (S := Nat → Nat) (fun z u => r = some (.inl (.int z)) ∧ kExt (kfr 0 w) ad u) (fun u t => va_P D kCl (kW dA u ρ w') t.heap ∧ va_D (va_A (kW dA ad ρ w) sz) (kW dA u ρ w')) (va_A (kW dA ad ρ w) sz)
def kXt (D : va_G) (dA : Nat → ClassId) (ρ : Nat → Int32) (ad : Nat → Nat) (w w' : KW) (r : Option KV) (sz : Nat) : String → State → State → Prop := vx_X (S := Nat → Nat) (fun u => r = none ∧ kExt (kfr 0 w) ad u) (fun E u t => E = kXn ∧ va_P D kCl (kW dA u ρ w') t.heap ∧ va_D (va_A (kW dA ad ρ w) sz) (kW dA u ρ w')) (va_A (kW dA ad ρ w) sz)
def krmX (d : Nat) : Room := { frames := d + 6, cells := 1, slots := 6, locals := 40 * d + 280 }
def krmH (d : Nat) : Room := { frames := d + 7, cells := 1, slots := 6, locals := 40 * d + 320 }
theorem klroomX {d L : Nat} (h : 40 * d + 280 ≤ L) : (0 : Nat) + (13 * 3 + 43) ≤ L := by omega
/-- a method of the class that answers an int or comes to 'throw new NoSuchElementException(text)' -/
theorem kx_metT {l : Launch} (hl : l.flags = flags0) {zs : KZ} {X : KO} (hX1 : zs.2 = some X) {ms : List KMeth} (hok : kOKX ms zs.1) {ρ : Nat → Int32} {y : MethodName} {cc : ByteArray} {prog : List KEnt} {stop is : Nat} {text : String} (hy : y.cls = "TriplicateForms") (hpl : plainName y.cls = true) (hP : ∀ x ∈ prog, kendx x.2.1 = false ∨ x.2.1 = .ireturn → kEntX ms zs.1 y.cls y.name cc x) (hN : ∀ x ∈ prog, kendx x.2.1 = true → x.2.1 = .ireturn ∨ x.1 = stop)
    (d0 : decode cc stop = .ok (.new 125, 3)) (d3 : decode cc (stop + 3) = .ok (.dup, 1)) (d4 : decode cc (stop + 4) = .ok (.ldc is, 2)) (d6 : decode cc (stop + 6) = .ok (.invokespecial 129, 3)) (d9 : decode cc (stop + 9) = .ok (.athrow, 1))
    (ht : ∀ (A : Nat → Prop) (U : State), kXS A U → ∃ sa, vk_R "TriplicateForms" is text sa U) (wX1 : Cond.classLink "TriplicateForms" 125 kXn ∈ LT) (wX2 : Cond.initialized kXn ∈ LT)
    {f d : Nat} {as : List KV} {w w' : KW} {ig : Instr} {pc2 s2 c2 : Nat} {lo' : List (Nat × KV)} {st2 : List KV} {r : Option KV} (hcat : kcats as ≤ 3) (hrun : krx (kcallx ms X f d) X [] 0 3 0 0 prog f (0, kargs 0 as, [], w, 0, 0) = some (ig, pc2, lo', st2, w', c2, s2)) (hc2 : c2 ≤ 0) (hs2 : s2 ≤ 0) (hret : kretx (some .byte) ig st2 = some r) (hr : r = none ∨ ∃ z, r = some (.inl (.int z))) (D : va_G) (dA : Nat → ClassId) (ad : Nat → Nat) (sz : Nat) :
    vx_Met l y (Cond.code y cc 3 (some .int) :: LT) (krmX d) (kPcX D dA ρ zs ad w as sz) (kQt D dA ρ ad w w' r sz) (kXt D dA ρ ad w w' r sz) 1 6 (va_A (kW dA ad ρ w) sz) := by
  refine vx_ofW (cc := cc) (maxL := 3) (ret := some .int) hpl rfl ?_
  intro p e s m args below meth c s₁ B hml hnt hv
  obtain ⟨⟨rfl, hsz, hPw, hK, hD0, hZ, hNst⟩, hXS⟩ := hv
  have hts := atoms_spec (ws := Cond.code y cc 3 (some .int) :: LT) B.pre
  have hlocks := B.notSynchronized
  have hrt := B.returns
  subst hsz
  have F : kFix p s m (as.map (kV ad ρ)).toArray meth c cc 3 y.cls y.name D dA (va_A (kW dA ad ρ w) s.heap.size) zs ad := ⟨B.exec, B.bytes, hml, findClass_of_methodNamed B.named, fun w hw => hts w (List.mem_cons_of_mem _ hw), hK, fun q h => Or.inr h, fun q => (name_of_methodNamed B.named B.method).1.trans q, hZ, hNst⟩
  have hl0 := lv_entry (as.map (kV ad ρ)) (n := 3) (by rw [ksl_len]; exact hcat)
  rw [lg_entry_eq]
  generalize (lg_sl (as.map (kV ad ρ)) ++ List.replicate (3 - (lg_sl (as.map (kV ad ρ))).length) Slot.unset).toArray = ls at hl0 ⊢
  rw [kargs_eq] at hl0
  obtain ⟨⟨x, hxm⟩, hend, hgo⟩ := k_runx (p := p) (l := l) (e := e) (R := (headSpec (Cond.code y cc 3 (some .int) :: LT) (krmX d)).room) (s := s) (m := m) (below := below) (n0 := kfr 0 w) (ρ := ρ) (L := 0)
    (Q := vx_MQ below (kQt D dA ρ ad w w' r s.heap.size) (kXt D dA ρ ad w w' r s.heap.size) (as.map (kV ad ρ)).toArray s 1 6 (va_A (kW dA ad ρ w) s.heap.size)) F hX1 (fun i lo hi h => by simp at h) (fun q => absurd q (Nat.lt_irrefl 0)) (k_metx hX1 hok f d) (Nat.zero_le _) (Nat.zero_le _) (Nat.le_refl _) (Nat.le_refl _) (fun x hx hx2 => hP x hx (Or.inl hx2)) f _ _ _ hrun
  refine hgo ?_ ad s.heap [] ls ⟨hl0, hPw, hD0.self, va_S.rf, Nat.le_refl _, kExt.rf _ _⟩
  intro ad' H locs ls' hat
  obtain ⟨hl', hP', hD', hS', hn', hE'⟩ := hat
  have hFts := F.2.2.2.2.1
  have hc2 : c2 = 0 := Nat.le_zero.mp hc2
  have hs2 : s2 = 0 := Nat.le_zero.mp hs2
  subst hc2; subst hs2
  have hnm := hN _ hxm hend
  unfold kretx at hret
  split at hret
  · cases hret
  · obtain ⟨len, hd, hlen⟩ := kdec_ok (hP _ hxm (Or.inr rfl)).1
    rcases hlen with q | q
    · exact absurd q (Nat.succ_ne_zero _)
    · subst q
      split at hret
      · exact absurd ‹some FieldType.byte = some FieldType.int› (fun h => by cases h)
      · exact absurd ‹some FieldType.byte = some FieldType.boolean› (fun h => by cases h)
      · rename_i v _ _
        obtain ⟨hv, hret⟩ := kcond_inv hret
        cases hret
        rcases hr with hr | ⟨z, hr⟩
        · cases hr
        · cases hr
          refine vx_ret (W.widen (k := 1) (n := 6) (Nat.zero_le _) (Nat.zero_le _) ?_)
          exact W.iret B.exec B.bytes hrt (fun t ht hW => ⟨⟨z, ad', rfl, ⟨rfl, hE'⟩, by rw [ht]; exact hP', hD'⟩, hS'.F ht⟩) hS'.2.2 hd
      · cases hret
  · rename_i i
    split at hret
    · rename_i hq
      cases hret
      rcases hnm with hnm | hnm
      · cases hnm
      · have hnm : pc2 = stop := hnm
        subst hnm
        obtain ⟨sa, hsa⟩ := ht _ _ hXS
        refine kx_throwS (A := va_A (kW dA ad ρ w) s.heap.size) (own := "TriplicateForms") (cls := kXn) (text := text) (Y0 := "java/lang/RuntimeException") (r0 := ["java/lang/Exception"]) (sa := sa) F.1 F.2.1 ?_ (by rw [← hy]; exact F.2.2.2.1) (by decide) (by decide) (by decide) (hFts _ wX1) (hFts _ wX2) hsa
          (vx_hat (B := kXb) (fun w hw => hFts w (kXl_good w hw)) (fun w hw => hw) (fun w hw => va_Nw.use (kDC_on (List.all_eq_true.mp kXb_dc w hw)) (hXS.2.2.2.2 w hw))) kX_ot hXS.1 hXS.2.1 hS' (hl'.1.trans hml.symm) d0 d3 d4 d6 d9 (fun x hx => absurd hx (fun h => hnt x h)) (by show 2 + 3 < d + 6; omega) (klroomX (Nat.le_refl _)) (Nat.le_refl _) (Nat.le_refl _) hlocks ?_ hS'.2.2 (Nat.le_refl _) (Nat.le_refl _)
        · unfold Launch.stackTraces; rw [hl]; decide
        · intro t ha h1 h2
          refine ⟨ad', ⟨rfl, hE'⟩, ⟨rfl, hP'.kept (fun k q hk => h2 q.1 ((hP' k q hk).lt)), hD'⟩, Nat.le_trans hS'.1 h1, fun q q1 q2 => ?_⟩
          rw [h2 q (Nat.lt_of_lt_of_le q1 hS'.1)]
          exact hS'.2.1 q q1 q2
    · cases hret
  · split at hret
    · exact absurd ‹some FieldType.byte = some FieldType.long› (fun h => by cases h)
    · cases hret
  · cases hret
