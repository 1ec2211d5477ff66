/-! Each step of the small machine with all instructions is sound. -/
def kwordsX (ms : List KMeth) (zs : KY) (own : String) (e : KEnt) : List Cond := match e.2.1 with
  | .ldc2_w i => [.constantLong own i (Int64.ofNat e.2.2.1)]
  | .getfield i => bif Nat.beq e.2.2.1 99 then [.fieldLink own i "TriplicateForms$Word" "letters" "J"] else kwords ms zs own (e.1, .getfield i, e.2.2)
  | .getstatic i => bif decide (own = "TriplicateForms$Tape") && Nat.beq i 70 then [] else kwords ms zs own (e.1, .getstatic i, e.2.2)
  | .ldc i => bif Nat.beq e.2.2.2.1 1 then [] else kwords ms zs own (e.1, .ldc i, e.2.2)
  | .invokevirtual i => bif Nat.beq e.2.2.1 999994 then [.methodLink own i ⟨"java/lang/String", "length", "()I"⟩, .instanceMethod ⟨"java/lang/String", "length", "()I"⟩, .selects "java/lang/String" ⟨"java/lang/String", "length", "()I"⟩ ⟨"java/lang/String", "length", "()I"⟩] else bif Nat.beq e.2.2.1 999993 then [.methodLink own i ⟨"java/lang/String", "charAt", "(I)C"⟩, .instanceMethod ⟨"java/lang/String", "charAt", "(I)C"⟩, .selects "java/lang/String" ⟨"java/lang/String", "charAt", "(I)C"⟩ ⟨"java/lang/String", "charAt", "(I)C"⟩] else kwords ms zs own (e.1, .invokevirtual i, e.2.2)
  | .invokestatic i => bif Nat.beq e.2.2.1 999996 then [.methodLink own i Lib.Math.max.name, .static Lib.Math.max.name, .initialized "java/lang/Math", .code Lib.Math.max.name Lib.Math.max.code 2 (some .int)] else bif Nat.beq e.2.2.1 999995 then [.methodLink own i Lib.Math.abs.name, .static Lib.Math.abs.name, .initialized "java/lang/Math", .code Lib.Math.abs.name Lib.Math.abs.code 1 (some .int)] else kwords ms zs own (e.1, .invokestatic i, e.2.2)
  | ig => kwords ms zs own (e.1, ig, e.2.2)
def ksideX (ms : List KMeth) (zs : KY) (own mname : String) (e : KEnt) : Bool := match e.2.1 with
  | .getfield i => Nat.beq e.2.2.1 99 || kside ms zs own mname (e.1, .getfield i, e.2.2)
  | .getstatic i => bif decide (own = "TriplicateForms$Tape") && Nat.beq i 70 then decide (zs[e.2.2.1]? = some ("TriplicateForms", "WORDS", "[LTriplicateForms$Word;")) else kside ms zs own mname (e.1, .getstatic i, e.2.2)
  | .ldc i => bif Nat.beq e.2.2.2.1 1 then kLd.any (fun q => decide (q.1 = own) && (Nat.beq q.2.1 i && Nat.beq q.2.2.2 e.2.2.1)) else kside ms zs own mname (e.1, .ldc i, e.2.2)
  | .invokevirtual i => Nat.beq e.2.2.1 999994 || (Nat.beq e.2.2.1 999993 || kside ms zs own mname (e.1, .invokevirtual i, e.2.2))
  | .invokestatic i => Nat.beq e.2.2.1 999996 || (Nat.beq e.2.2.1 999995 || kside ms zs own mname (e.1, .invokestatic i, e.2.2))
  | .lookupswitch _ ps => (ps.toList.zip (ps.toList.drop 1)).all (fun (a, next) => a.1 < next.1)
  | ig => kside ms zs own mname (e.1, ig, e.2.2)
def kEntX (ms : List KMeth) (zs : KY) (own mname : String) (cc : ByteArray) (x : KEnt) : Prop := kdec cc x = true ∧ (∀ w ∈ kwordsX ms zs own x, w ∈ LT) ∧ ksideX ms zs own mname x = true
theorem kTxt_len : ∀ l ∈ kTxt, l.length < 1000 := by decide
theorem kstr_g {a b : Nat} {l : List Int32} (h : (bif Nat.blt a b then none else kTxt[a - b]?) = some l) : ∃ i, a = b + i ∧ kTxt[i]? = some l := by
  cases hb : Nat.blt a b with
  | true => rw [hb] at h; cases h
  | false =>
    rw [hb] at h
    have h1 : b ≤ a := Nat.not_lt.mp fun q => by
      have h2 : Nat.blt a b = true := by rw [Nat.blt_eq]; exact q
      rw [h2] at hb
      cases hb
    exact ⟨a - b, by omega, h⟩
theorem kstr_ok {a : Nat} {l : List Int32} (h : kstr a = some l) : ∃ i, a = 1000200 + i ∧ kTxt[i]? = some l := kstr_g h
section KROWSX
variable {p : Program} {l : Launch} {e : Env} {R : Room} {s : State} {m : MethodId} {args : Array Value} {below : List Frame} {meth : Method} {cd : Code} {Q : State → Prop} {D : va_G} {dA : Nat → ClassId} {ρ : Nat → Int32} {A : Nat → Prop} {nL : Nat} {ad0 : Nat → Nat} {n0 : Nat} {cc : ByteArray} {own mname : String} {zs : KZ} {rg : List (Int × Int)}
variable {pc : Nat} {lo : List (Nat × KV)} {st : List KV} {w : KW} {c sl : Nat} {k : KF} {Rc Rs : Nat} {ms : List KMeth} {call : Nat → List KV → KW → Option (Option KV × KW)} {d : Nat} {X : KO}
theorem k_wal (F : kFix p s m args meth cd cc nL own mname D dA A zs ad0) (hX1 : zs.2 = some X) {L : Nat} (hX : kSc s A ad0 ρ L) (hd : decode cc pc = .ok (.arraylength, 1)) (h : kwal L pc lo st w c sl = some k) (g : kGo p l e R s m args below meth cd Q D dA ρ A nL ad0 n0 (k)) : kGo p l e R s m args below meth cd Q D dA ρ A nL ad0 n0 ((pc, lo, st, w, c, sl)) := by
  unfold kwal at h
  split at h
  · rename_i a rest
    cases hb : Nat.beq a 1000050 with
    | false =>
      rw [hb] at h
      exact k_alen F hX hd h g
    | true =>
      rw [hb] at h
      cases h
      have e := kb_t hb
      subst e
      intro ad H locs ls hat
      have hO := (F.2.2.2.2.2.2.2.2.1.by (fun i hi => hat.2.2.2.2.2 i (Or.inr hi))).2 X hX1
      exact va_tlen F.1 F.2.1 hO.2.1 hat.2.2.2.1 rfl hd (g ad H locs ls hat)
  · cases h
theorem k_wald (F : kFix p s m args meth cd cc nL own mname D dA A zs ad0) (hX1 : zs.2 = some X) (hd : decode cc pc = .ok (.aaload, 1)) (h : kwald pc lo st w c sl = some k) (g : kGo p l e R s m args below meth cd Q D dA ρ A nL ad0 n0 (k)) : kGo p l e R s m args below meth cd Q D dA ρ A nL ad0 n0 ((pc, lo, st, w, c, sl)) := by
  unfold kwald at h
  split at h
  · rename_i i a rest
    cases hb : Nat.beq a 1000050 with
    | false =>
      rw [hb] at h
      exact k_aald F hd h g
    | true =>
      rw [hb] at h
      obtain ⟨hi, h⟩ := kcond_inv h
      cases h
      have e := kb_t hb
      subst e
      intro ad H locs ls hat
      have hO := (F.2.2.2.2.2.2.2.2.1.by (fun i hi => hat.2.2.2.2.2 i (Or.inr hi))).2 X hX1
      exact vb_tq F.1 F.2.1 hO.2.1 hat.2.2.2.1 (kinB_ok hi) rfl hd (g ad H locs ls hat)
  · cases h
theorem k_slen (F : kFix p s m args meth cd cc nL own mname D dA A zs ad0) (hX1 : zs.2 = some X) (hRc : Rc ≤ R.cells) (hRs : Rs ≤ R.slots) (hRf : d + 6 ≤ R.frames) (hRl : 40 * d + 280 ≤ R.locals) {i : Nat} (h1 : Cond.methodLink own i ⟨"java/lang/String", "length", "()I"⟩ ∈ LT) (h2 : Cond.instanceMethod ⟨"java/lang/String", "length", "()I"⟩ ∈ LT) (h3 : Cond.selects "java/lang/String" ⟨"java/lang/String", "length", "()I"⟩ ⟨"java/lang/String", "length", "()I"⟩ ∈ LT) (hd : decode cc pc = .ok (.invokevirtual i, 3)) (h : kslen Rc Rs pc lo st w c sl = some k) (g : kGo p l e R s m args below meth cd Q D dA ρ A nL ad0 n0 (k)) : kGo p l e R s m args below meth cd Q D dA ρ A nL ad0 n0 ((pc, lo, st, w, c, sl)) := by
  unfold kslen at h
  split at h
  · rename_i a rest
    split at h
    · rename_i tl hs
      obtain ⟨hc, h⟩ := kcond_inv h
      cases h
      simp only [Bool.and_eq_true] at hc
      obtain ⟨c4, c5, c6⟩ := hc
      have c4 := Nat.ble_eq.mp c4
      have c5 := Nat.ble_eq.mp c5
      have c6 := Nat.ble_eq.mp c6
      obtain ⟨j, rfl, hj⟩ := kstr_ok hs
      intro ad H locs ls hat
      have hE : ∀ i, 1000000 ≤ i → ad i = ad0 i := fun i hi => hat.2.2.2.2.2 i (Or.inr hi)
      have hO := (F.2.2.2.2.2.2.2.2.1.by hE).2 X hX1
      obtain ⟨v, g1, -⟩ := hO.2.2.2.1 j tl hj
      have hrc : ∃ cell : Cell, H[ad (1000200 + j)]? = some cell ∧ cell.vm.isStatics = false ∧ s.vm.findClass "java/lang/String" = some cell.cls := by
        obtain ⟨cell, r1, r2, r3, -⟩ := g1.kept hat.2.2.2.1.2.1
        exact ⟨cell, r1, r2, r3⟩
      exact kj_after F (ad := ad) (rest := rest.map (kV ad ρ)) (r := some (.int (Int32.ofNat tl.length))) hat.2.2.1 hat.2.2.2.1 (va_runV (As := []) ⟨F.1, F.2.1, F.2.2.1, F.2.2.2.1, F.2.2.2.2.1⟩ (c_LE (D := D) (dA := dA) (ρ := ρ) (zs := zs) (ad := ad) (w := w) (sz := H.size) hX1 hj) (cwV 0 F.2.2.2.2.1 (kj_gV h1 h2 h3 kj_inS kj_cdLE) rfl rfl rfl ⟨rfl, by decide, by decide, by decide +kernel⟩ ⟨by show 1 + 1 ≤ _; omega, by show 8 + (1 + 11) + 40 * 1 ≤ _; omega⟩) ⟨kPg_blind, hrc, fun U hU hW => kj_pre F hE hat.2.1 hat.2.2.1 hat.2.2.2.1 _ (fun _ h => absurd h List.not_mem_nil) hU hW⟩ rfl rfl hat.1.1 rfl (lv_room (by rw [kcats_eq]; exact c6)) hd ⟨Nat.le_trans c4 hRc, Nat.le_trans c5 hRs⟩) (fun H' locs' hP' hS' => g ad H' locs' ls ⟨hat.1, hP', hat.2.2.1, hS', hat.2.2.2.2⟩)
    · cases h
  · cases h
theorem k_schr (F : kFix p s m args meth cd cc nL own mname D dA A zs ad0) (hX1 : zs.2 = some X) (hRc : Rc ≤ R.cells) (hRs : Rs ≤ R.slots) (hRf : d + 6 ≤ R.frames) (hRl : 40 * d + 280 ≤ R.locals) {i : Nat} (h1 : Cond.methodLink own i ⟨"java/lang/String", "charAt", "(I)C"⟩ ∈ LT) (h2 : Cond.instanceMethod ⟨"java/lang/String", "charAt", "(I)C"⟩ ∈ LT) (h3 : Cond.selects "java/lang/String" ⟨"java/lang/String", "charAt", "(I)C"⟩ ⟨"java/lang/String", "charAt", "(I)C"⟩ ∈ LT) (hd : decode cc pc = .ok (.invokevirtual i, 3)) (h : kschr Rc Rs pc lo st w c sl = some k) (g : kGo p l e R s m args below meth cd Q D dA ρ A nL ad0 n0 (k)) : kGo p l e R s m args below meth cd Q D dA ρ A nL ad0 n0 ((pc, lo, st, w, c, sl)) := by
  unfold kschr at h
  split at h
  · rename_i z a rest
    split at h
    · rename_i tl hs
      obtain ⟨hc, h⟩ := kcond_inv h
      cases h
      simp only [Bool.and_eq_true] at hc
      obtain ⟨c3, c4, c5, c6⟩ := hc
      have c3 := kinB_ok c3
      have c4 := Nat.ble_eq.mp c4
      have c5 := Nat.ble_eq.mp c5
      have c6 := Nat.ble_eq.mp c6
      obtain ⟨j, rfl, hj⟩ := kstr_ok hs
      intro ad H locs ls hat
      have hE : ∀ i, 1000000 ≤ i → ad i = ad0 i := fun i hi => hat.2.2.2.2.2 i (Or.inr hi)
      have hO := (F.2.2.2.2.2.2.2.2.1.by hE).2 X hX1
      obtain ⟨v, g1, -⟩ := hO.2.2.2.1 j tl hj
      have hrc : ∃ cell : Cell, H[ad (1000200 + j)]? = some cell ∧ cell.vm.isStatics = false ∧ s.vm.findClass "java/lang/String" = some cell.cls := by
        obtain ⟨cell, r1, r2, r3, -⟩ := g1.kept hat.2.2.2.1.2.1
        exact ⟨cell, r1, r2, r3⟩
      exact kj_after F (ad := ad) (rest := rest.map (kV ad ρ)) (r := some (.int (tl.getD z.toNatClampNeg 0 &&& 255))) hat.2.2.1 hat.2.2.2.1 (va_runV (As := [.int z]) ⟨F.1, F.2.1, F.2.2.1, F.2.2.2.1, F.2.2.2.2.1⟩ (c_CH (D := D) (dA := dA) (ρ := ρ) (zs := zs) (ad := ad) (w := w) (sz := H.size) hX1 hj (kTxt_len _ (List.mem_of_getElem? hj)) (fun q => c3 (Or.inl q)) (Nat.not_le.mp fun q => c3 (Or.inr q))) (cwV 1 F.2.2.2.2.1 (kj_gV h1 h2 h3 kj_inS kj_cdCH) rfl rfl rfl ⟨rfl, by decide, by decide, by decide +kernel⟩ ⟨by show 3 + 1 ≤ _; omega, by show 8 + (2 + 11) + 40 * 3 ≤ _; omega⟩) ⟨kPg_blind, hrc, fun U hU hW => kj_pre F hE hat.2.1 hat.2.2.1 hat.2.2.2.1 _ (fun _ h => absurd h List.not_mem_nil) hU hW⟩ rfl rfl hat.1.1 rfl (lv_room (by rw [kcats_eq]; exact c6)) hd ⟨Nat.le_trans c4 hRc, Nat.le_trans c5 hRs⟩) (fun H' locs' hP' hS' => g ad H' locs' ls ⟨hat.1, hP', hat.2.2.1, hS', hat.2.2.2.2⟩)
    · cases h
  · cases h
set_option maxHeartbeats 2000000 in
theorem k_onex (F : kFix p s m args meth cd cc nL own mname D dA A zs ad0) (hX1 : zs.2 = some X) (hr : kRg rg ρ) {L : Nat} (hX : kSc s A ad0 ρ L) (hC : kCalls l ms zs ρ call d) (hRc : Rc ≤ R.cells) (hRs : Rs ≤ R.slots) (hRf : d + 6 ≤ R.frames) (hRl : 40 * d + 280 ≤ R.locals) {ig : Instr} {x : KX} (hE : kEntX ms zs.1 own mname cc (pc, ig, x)) (h : kdx ig X call rg L nL Rc Rs x pc lo st w c sl = some k) (g : kGo p l e R s m args below meth cd Q D dA ρ A nL ad0 n0 (k)) : kGo p l e R s m args below meth cd Q D dA ρ A nL ad0 n0 ((pc, lo, st, w, c, sl)) := by
  obtain ⟨hdec, hw, hside⟩ := hE
  obtain ⟨len, hd, hlen⟩ := kdec_ok hdec
  replace hd : decode cc pc = .ok (ig, len) := hd
  replace hlen : klen ig = 0 ∨ len = klen ig := hlen
  have hx := F.1
  have hb := F.2.1
  have hts := F.2.2.2.2.1
  have hd2 : klen ig ≠ 0 → decode cc pc = .ok (ig, klen ig) := fun h0 => by
    rcases hlen with q | q
    · exact absurd q h0
    · rw [q] at hd; exact hd
  cases ig
  case ior => replace hd := hd2 (Nat.succ_ne_zero _); exact k_bin (fun H locs ls x y rest q => lv_ior hx hb hd q) h g
  case ixor => replace hd := hd2 (Nat.succ_ne_zero _); exact k_bin (fun H locs ls x y rest q => lv_ixor hx hb hd q) h g
  case ishr => replace hd := hd2 (Nat.succ_ne_zero _); exact k_bin (fun H locs ls x y rest q => lv_ishr hx hb hd q) h g
  case irem => replace hd := hd2 (Nat.succ_ne_zero _); exact k_rem F hd h g
  case ineg => replace hd := hd2 (Nat.succ_ne_zero _); exact k_un (fun H locs ls x rest q => lv_ineg hx hb hd q) h g
  case i2c => replace hd := hd2 (Nat.succ_ne_zero _); exact k_un (fun H locs ls x rest q => lv_i2c hx hb hd rfl q) h g
  case i2l => replace hd := hd2 (Nat.succ_ne_zero _); exact k_i2l F hd h g
  case l2i => replace hd := hd2 (Nat.succ_ne_zero _); exact k_l2i F hd h g
  case ladd => replace hd := hd2 (Nat.succ_ne_zero _); exact k_binL (fun H locs ls x y rest q => lv_ladd hx hb hd q) h g
  case lsub => replace hd := hd2 (Nat.succ_ne_zero _); exact k_binL (fun H locs ls x y rest q => lv_lsub hx hb hd q) h g
  case lmul => replace hd := hd2 (Nat.succ_ne_zero _); exact k_binL (fun H locs ls x y rest q => lv_lmul hx hb hd q) h g
  case ldiv => replace hd := hd2 (Nat.succ_ne_zero _); exact k_dvL (fun H locs ls x y rest hne q => lv_ldiv hx hb hd hne q) h g
  case lrem => replace hd := hd2 (Nat.succ_ne_zero _); exact k_dvL (fun H locs ls x y rest hne q => lv_lrem hx hb hd hne q) h g
  case lushr => replace hd := hd2 (Nat.succ_ne_zero _); exact k_lsr F hd h g
  case lcmp => replace hd := hd2 (Nat.succ_ne_zero _); exact k_cmpL F hd h g
  case ldc2_w i => replace hd := hd2 (Nat.succ_ne_zero _); exact k_ldc2 F (hw _ List.mem_cons_self) hd h g
  case lload_n n => replace hd := hd2 (Nat.succ_ne_zero _); exact k_lld (fun ad H locs ls x q1 q2 => lv_lload_n hx hb hd rfl q1 q2) h g
  case lload n => replace hd := hd2 (Nat.succ_ne_zero _); exact k_lld (fun ad H locs ls x q1 q2 => lv_lload hx hb hd q1 q2) h g
  case lstore_n n => replace hd := hd2 (Nat.succ_ne_zero _); exact k_lst2 (fun ad H locs ls x rest lv lv' q1 q2 q3 q4 => lv_lstore_n hx hb hd rfl q1 q2 q3 q4) h g
  case lstore n => replace hd := hd2 (Nat.succ_ne_zero _); exact k_lst2 (fun ad H locs ls x rest lv lv' q1 q2 q3 q4 => lv_lstore hx hb hd q1 q2 q3 q4) h g
  case caload => replace hd := hd2 (Nat.succ_ne_zero _); exact k_cald F hd h g
  case castore => replace hd := hd2 (Nat.succ_ne_zero _); exact k_cast F hd h g
  case lookupswitch a b => exact k_lk F hd hside h g
  case ifnonnull off => replace hd := hd2 (Nat.succ_ne_zero _); exact k_ifnn F hd h g
  case if_acmp cnd off => replace hd := hd2 (Nat.succ_ne_zero _); exact k_xacmp F (F.2.2.2.2.2.2.2.2.1.2 X hX1).1 hd h g
  case arraylength => replace hd := hd2 (Nat.succ_ne_zero _); exact k_wal F hX1 hX hd h g
  case aaload => replace hd := hd2 (Nat.succ_ne_zero _); exact k_wald F hX1 hd h g
  case ldc i =>
    replace hd := hd2 (Nat.succ_ne_zero _)
    replace h : (bif Nat.beq x.2.1 1 then some (pc + 2, lo, .inl (.ref (1000200 + x.1)) :: st, w, c, sl) else some (pc + 2, lo, .inl (.int (Int32.ofNat x.1)) :: st, w, c, sl)) = some k := h
    replace hside : (bif Nat.beq x.2.1 1 then kLd.any (fun q => decide (q.1 = own) && (Nat.beq q.2.1 i && Nat.beq q.2.2.2 x.1)) else kside ms zs.1 own mname (pc, .ldc i, x)) = true := hside
    replace hw : ∀ w ∈ (bif Nat.beq x.2.1 1 then [] else kwords ms zs.1 own (pc, .ldc i, x)), w ∈ LT := hw
    cases q1 : Nat.beq x.2.1 1 with
    | false =>
      rw [q1] at h hside hw
      exact k_one F hr (ks := none) (fun v q => by cases q) hX hC hRc hRs hRf hRl ⟨hdec, hw, hside⟩ h g
    | true =>
      rw [q1] at h hside
      cases h
      obtain ⟨q, hq, hq2⟩ := List.any_eq_true.mp hside
      simp only [Bool.and_eq_true] at hq2
      obtain ⟨z1, z2, z3⟩ := hq2
      have z1 := of_decide_eq_true z1
      have z2 := kb_t z2
      have z3 := kb_t z3
      intro ad H locs ls hat
      have hO := (F.2.2.2.2.2.2.2.2.1.by (fun i hi => hat.2.2.2.2.2 i (Or.inr hi))).2 X hX1
      have hv := hO.2.2.2.2.2.2.1 q hq
      rw [z1, z2, z3] at hv
      exact va_ldcS hx hb F.2.2.2.1 hv hd (g ad H locs ls hat)
  case getstatic i =>
    replace hd := hd2 (Nat.succ_ne_zero _)
    replace hside : (bif decide (own = "TriplicateForms$Tape") && Nat.beq i 70 then decide (zs.1[x.1]? = some ("TriplicateForms", "WORDS", "[LTriplicateForms$Word;")) else kside ms zs.1 own mname (pc, .getstatic i, x)) = true := hside
    replace hw : ∀ w ∈ (bif decide (own = "TriplicateForms$Tape") && Nat.beq i 70 then [] else kwords ms zs.1 own (pc, .getstatic i, x)), w ∈ LT := hw
    cases q1 : decide (own = "TriplicateForms$Tape") && Nat.beq i 70 with
    | false =>
      rw [q1] at hw hside
      exact k_one F hr (ks := none) (fun v q => by cases q) hX hC hRc hRs hRf hRl ⟨hdec, hw, hside⟩ h g
    | true =>
      rw [q1] at hside
      have q2 := Bool.and_eq_true_iff.mp q1
      have q3 := of_decide_eq_true q2.1
      have q4 := kb_t q2.2
      have hz : zs.1[x.1]? = some ("TriplicateForms", "WORDS", "[LTriplicateForms$Word;") := of_decide_eq_true hside
      cases h
      intro ad H locs ls hat
      have hOs := F.2.2.2.2.2.2.2.2.1.by (fun i hi => hat.2.2.2.2.2 i (Or.inr hi))
      have hnw := (hOs.2 X hX1).2.2.2.2.2.2.2
      rw [← q3, ← q4] at hnw
      exact va_getsN hx hb (hOs.1 x.1 _ hz) hat.2.2.2.1 F.2.2.2.1 (va_Nw.use rfl hnw) (fun _ h9 => h9) hd (g ad H locs ls hat)
  case getfield i =>
    replace hd := hd2 (Nat.succ_ne_zero _)
    replace h : kwget X.2 x.1 x.2.1 pc lo st w c sl = some k := h
    replace hside : (Nat.beq x.1 99 || kside ms zs.1 own mname (pc, .getfield i, x)) = true := hside
    replace hw : ∀ w ∈ (bif Nat.beq x.1 99 then [.fieldLink own i "TriplicateForms$Word" "letters" "J"] else kwords ms zs.1 own (pc, .getfield i, x)), w ∈ LT := hw
    have key : kgetf x.1 x.2.1 pc lo st w c sl = some k → kGo p l e R s m args below meth cd Q D dA ρ A nL ad0 n0 ((pc, lo, st, w, c, sl)) := fun h => by
      cases q1 : Nat.beq x.1 99 with
      | false =>
        rw [q1] at hw hside
        exact k_one F hr (ks := none) (fun v q => by cases q) hX hC hRc hRs hRf hRl ⟨hdec, hw, hside⟩ h g
      | true =>
        have q1 := kb_t q1
        unfold kgetf at h
        split at h
        · rename_i a rest
          split at h
          · rename_i cj fs hwg
            obtain ⟨hc, h⟩ := kcond_inv h
            have hc := kb_t hc
            intro ad H locs ls hat
            obtain ⟨q0, h1, -⟩ := kW_get (dA := dA) (ad := ad) (ρ := ρ) hwg
            obtain ⟨r, hr1, -⟩ := hat.2.1 q0 _ h1
            rw [hc, q1] at hr1
            cases (show (none : Option vw_C) = some r from hr1)
          · cases h
        · cases h
    unfold kwget at h
    split at h
    · rename_i a rest
      cases q2 : Nat.ble 1000000 a with
      | false =>
        rw [q2] at h
        exact key h
      | true =>
        rw [q2] at h
        simp only [cond_true] at h
        obtain ⟨hc, h⟩ := kcond_inv h
        cases h
        simp only [Bool.and_eq_true] at hc
        obtain ⟨c1, c2, c3⟩ := hc
        have c2 := Nat.ble_eq.mp c2
        have c3 := Nat.ble_eq.mp c3
        rw [c1] at hw
        obtain ⟨j, rfl⟩ : ∃ j, a = 1000100 + j := ⟨a - 1000100, (Nat.add_sub_cancel' c2).symm⟩
        intro ad H locs ls hat
        have hO := (F.2.2.2.2.2.2.2.2.1.by (fun i hi => hat.2.2.2.2.2 i (Or.inr hi))).2 X hX1
        exact vk_getf hx hb (hO.2.2.1 j (Nat.lt_of_add_lt_add_left (show 1000100 + j < 1000100 + 30 from Nat.lt_succ_of_le c3))) hat.2.2.2.1 F.2.2.2.1 (hts _ (hw _ List.mem_cons_self)) (fun _ h9 => h9) hd (g ad H locs ls hat)
    · cases h
  case invokevirtual i =>
    replace hd := hd2 (Nat.succ_ne_zero _)
    replace h : (bif Nat.beq x.1 999994 then kslen Rc Rs pc lo st w c sl else bif Nat.beq x.1 999993 then kschr Rc Rs pc lo st w c sl else kcallV call Rc Rs x pc lo st w c sl) = some k := h
    replace hside : (Nat.beq x.1 999994 || (Nat.beq x.1 999993 || kside ms zs.1 own mname (pc, .invokevirtual i, x))) = true := hside
    replace hw : ∀ w ∈ (bif Nat.beq x.1 999994 then [.methodLink own i ⟨"java/lang/String", "length", "()I"⟩, .instanceMethod ⟨"java/lang/String", "length", "()I"⟩, .selects "java/lang/String" ⟨"java/lang/String", "length", "()I"⟩ ⟨"java/lang/String", "length", "()I"⟩] else bif Nat.beq x.1 999993 then [.methodLink own i ⟨"java/lang/String", "charAt", "(I)C"⟩, .instanceMethod ⟨"java/lang/String", "charAt", "(I)C"⟩, .selects "java/lang/String" ⟨"java/lang/String", "charAt", "(I)C"⟩ ⟨"java/lang/String", "charAt", "(I)C"⟩] else kwords ms zs.1 own (pc, .invokevirtual i, x)), w ∈ LT := hw
    cases q1 : Nat.beq x.1 999994 with
    | true =>
      rw [q1] at h hw
      exact k_slen F hX1 hRc hRs hRf hRl (hw _ (by simp)) (hw _ (by simp)) (hw _ (by simp)) hd h g
    | false =>
      rw [q1] at h hw hside
      cases q2 : Nat.beq x.1 999993 with
      | true =>
        rw [q2] at h hw
        exact k_schr F hX1 hRc hRs hRf hRl (hw _ (by simp)) (hw _ (by simp)) (hw _ (by simp)) hd h g
      | false =>
        rw [q2] at h hw hside
        exact k_one F hr (ks := none) (fun v q => by cases q) hX hC hRc hRs hRf hRl ⟨hdec, hw, hside⟩ h g
  case invokestatic i =>
    replace hd := hd2 (Nat.succ_ne_zero _)
    replace h : (bif Nat.beq x.1 999996 then kmax rg Rc Rs pc lo st w c sl else bif Nat.beq x.1 999995 then kabs Rc Rs pc lo st w c sl else kdo (.invokestatic i) call rg none L nL Rc Rs x pc lo st w c sl) = some k := h
    replace hside : (Nat.beq x.1 999996 || (Nat.beq x.1 999995 || kside ms zs.1 own mname (pc, .invokestatic i, x))) = true := hside
    replace hw : ∀ w ∈ (bif Nat.beq x.1 999996 then [.methodLink own i Lib.Math.max.name, .static Lib.Math.max.name, .initialized "java/lang/Math", .code Lib.Math.max.name Lib.Math.max.code 2 (some .int)] else bif Nat.beq x.1 999995 then [.methodLink own i Lib.Math.abs.name, .static Lib.Math.abs.name, .initialized "java/lang/Math", .code Lib.Math.abs.name Lib.Math.abs.code 1 (some .int)] else kwords ms zs.1 own (pc, .invokestatic i, x)), w ∈ LT := hw
    have hfr : 1 ≤ R.frames := by omega
    have hlo : 40 ≤ R.locals := by omega
    cases q1 : Nat.beq x.1 999996 with
    | true =>
      rw [q1] at h hw
      exact k_max (rg := rg) F hRc hRs hfr hlo (hw _ (by simp)) (hw _ (by simp)) (hw _ (by simp)) (hw _ (by simp)) hd h g
    | false =>
      rw [q1] at h hw hside
      cases q2 : Nat.beq x.1 999995 with
      | true =>
        rw [q2] at h hw
        exact k_abs F hRc hRs hfr hlo (hw _ (by simp)) (hw _ (by simp)) (hw _ (by simp)) (hw _ (by simp)) hd h g
      | false =>
        rw [q2] at h hw hside
        exact k_one F hr (ks := none) (fun v q => by cases q) hX hC hRc hRs hRf hRl ⟨hdec, hw, hside⟩ h g
  all_goals exact k_one F hr (ks := none) (fun v q => by cases q) hX hC hRc hRs hRf hRl ⟨hdec, hw, hside⟩ h g
end KROWSX
