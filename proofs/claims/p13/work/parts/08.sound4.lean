section KROWS4
variable {p : Program} {l : Launch} {e : Env} {R : Room} {s : State} {m : MethodId} {args : Array Value} {below : List Frame} {meth : Method} {cd : Code} {Q : State → Prop} {D : va_G} {dA : Nat → ClassId} {ρ : Nat → Int32} {A : Nat → Prop} {nL : Nat} {ad0 : Nat → Nat} {n0 : Nat} {cc : ByteArray} {own mname : String} {zs : KZ} {rg : List (Int × Int)}
variable {pc : Nat} {lo : List (Nat × KV)} {st : List KV} {w : KW} {c sl : Nat} {k : KF} {Rc Rs : Nat}
/-- a cell was written: what stands behind it -/
theorem k_put {a : Nat} {x' : KE} {pc2 : Nat} {st2 : List KV} {ad : Nat → Nat} {H : Heap} {locs : List Loc} {ls : Array Slot} {q0 : Nat} {v : va_E} (hw2 : ∀ e' : KE, (kW dA ad ρ w).set q0 (ad a, kE dA ad ρ e') = kW dA ad ρ (kws w a e')) (hv : v = kE dA ad ρ x') (hat : kAt s D dA ρ A nL ad0 n0 ad ls lo w H locs) (g : kGo p l e R s m args below meth cd Q D dA ρ A nL ad0 n0 ((pc2, lo, st2, kws w a x', c, sl))) :
    ∀ (H1 : Heap) (locs1 : List Loc), va_P D kCl ((kW dA ad ρ w).set q0 (ad a, v)) H1 → va_D A ((kW dA ad ρ w).set q0 (ad a, v)) → va_S A s.heap H1 locs1 → W p l e R s m args below meth cd H1 locs1 c sl Q (F0 m pc2 ls (st2.map (kV ad ρ))) := by
  intro H1 locs1 p1 p2 p3
  obtain ⟨hl, hP, hD, hS, hn, hE⟩ := hat
  rw [hv, hw2] at p1 p2
  exact g ad H1 locs1 ls ⟨hl, p1, p2, p3, by rw [kfr_set]; exact hn, hE⟩
theorem kset_f (l1 : List (Nat × KI)) (d1 : KI) (j : Nat) (x : KI) (y : Int32) (hy : kI ρ x = y) : upd (fun j => kI ρ (kget l1 d1 j)) j y = fun i => kI ρ (kget (kset l1 j x) d1 i) := by
  funext i
  rw [kget_set]
  show (if i = j then y else kI ρ (kget l1 d1 i)) = _
  by_cases h : i = j
  · rw [if_pos h, if_pos h, hy]
  · rw [if_neg h, if_neg h]
theorem k_iast (F : kFix p s m args meth cd cc nL own mname D dA A zs ad0) (hd : decode cc pc = .ok (.iastore, 1)) (h : kast (fun t => Nat.beq t 0) (fun _ a => a) pc lo st w c sl = some k) (g : kGo p l e R s m args below meth cd Q D dA ρ A nL ad0 n0 (k)) : kGo p l e R s m args below meth cd Q D dA ρ A nL ad0 n0 ((pc, lo, st, w, c, sl)) := by
  unfold kast at h
  split at h
  · rename_i x i a rest
    split at h
    · rename_i t n l1 d1 hw
      cases ht : Nat.beq t 0 && (kinB i n && kisI x) with
      | false => rw [ht] at h; cases h
      | true =>
        rw [ht] at h; cases h
        simp only [Bool.and_eq_true] at ht
        obtain ⟨t1, t2, t3⟩ := ht
        have e := kb_t t1
        subst e
        intro ad H locs ls hat
        obtain ⟨q0, h1, h2⟩ := kW_get (dA := dA) (ad := ad) (ρ := ρ) hw
        simp only [List.map_cons]
        rw [kisI_eq t3]
        refine va_iast (ws := kW dA ad ρ w) F.1 F.2.1 F.2.2.2.2.2.1 hat.2.1 hat.2.2.1 hat.2.2.2.1 q0 0 h1 rfl (kinB_ok t2) hd (k_put h2 ?_ hat g)
        rw [kset_f l1 d1 i.toNatClampNeg (kop1I (fun a => a) (ktoI x)) (kiv ρ x) (by rw [kop1I_ok, ktoI_ok])]
        rfl
    · cases h
  · cases h
theorem k_bast (F : kFix p s m args meth cd cc nL own mname D dA A zs ad0) (hd : decode cc pc = .ok (.bastore, 1)) (h : kast (fun t => Nat.beq t 2 || Nat.beq t 4) (fun t a => bif Nat.beq t 2 then vp_nar .byte a else vp_nar .boolean a) pc lo st w c sl = some k) (g : kGo p l e R s m args below meth cd Q D dA ρ A nL ad0 n0 (k)) : kGo p l e R s m args below meth cd Q D dA ρ A nL ad0 n0 ((pc, lo, st, w, c, sl)) := by
  unfold kast at h
  split at h
  · rename_i x i a rest
    split at h
    · rename_i t n l1 d1 hw
      cases ht : (Nat.beq t 2 || Nat.beq t 4) && (kinB i n && kisI x) with
      | false => rw [ht] at h; cases h
      | true =>
        rw [ht] at h; cases h
        simp only [Bool.and_eq_true] at ht
        obtain ⟨t1, t2, t3⟩ := ht
        intro ad H locs ls hat
        obtain ⟨q0, h1, h2⟩ := kW_get (dA := dA) (ad := ad) (ρ := ρ) hw
        simp only [List.map_cons]
        rw [kisI_eq t3]
        rcases Bool.or_eq_true_iff.mp t1 with q | q
        · have e := kb_t q
          subst e
          refine va_bast (ws := kW dA ad ρ w) F.1 F.2.1 F.2.2.2.2.2.1 hat.2.1 hat.2.2.1 hat.2.2.2.1 q0 2 h1 rfl (kinB_ok t2) hd (k_put h2 ?_ hat g)
          rw [kset_f l1 d1 i.toNatClampNeg (kop1I (fun a => vp_nar .byte a) (ktoI x)) (vp_nar .byte (kiv ρ x)) (by rw [kop1I_ok, ktoI_ok])]
          rfl
        · have e := kb_t q
          subst e
          refine va_zast (ws := kW dA ad ρ w) F.1 F.2.1 F.2.2.2.2.2.1 hat.2.1 hat.2.2.1 hat.2.2.2.1 q0 4 h1 rfl (kinB_ok t2) hd (k_put h2 ?_ hat g)
          rw [kset_f l1 d1 i.toNatClampNeg (kop1I (fun a => vp_nar .boolean a) (ktoI x)) (vp_nar .boolean (kiv ρ x)) (by rw [kop1I_ok, ktoI_ok])]
          rfl
    · cases h
  · cases h
theorem k_last (F : kFix p s m args meth cd cc nL own mname D dA A zs ad0) (hd : decode cc pc = .ok (.lastore, 1)) (h : klast pc lo st w c sl = some k) (g : kGo p l e R s m args below meth cd Q D dA ρ A nL ad0 n0 (k)) : kGo p l e R s m args below meth cd Q D dA ρ A nL ad0 n0 ((pc, lo, st, w, c, sl)) := by
  unfold klast at h
  split at h
  · rename_i x i a rest
    split at h
    · rename_i t n l1 d1 hw
      cases ht : Nat.beq t 1 && kinB i n with
      | false => rw [ht] at h; cases h
      | true =>
        rw [ht] at h; cases h
        have ht := Bool.and_eq_true_iff.mp ht
        have e := kb_t ht.1
        subst e
        intro ad H locs ls hat
        obtain ⟨q0, h1, h2⟩ := kW_get (dA := dA) (ad := ad) (ρ := ρ) hw
        refine va_last (ws := kW dA ad ρ w) F.1 F.2.1 F.2.2.2.2.2.1 hat.2.1 hat.2.2.1 hat.2.2.2.1 q0 1 h1 rfl (kinB_ok ht.2) hd (k_put h2 ?_ hat g)
        show (Sum.inl (dA 1, n, .inr (.inl (vp_updL (fun j => kget l1 d1 j) i.toNatClampNeg x))) : va_E) = .inl (dA 1, n, .inr (.inl (fun j => kget (kset l1 i.toNatClampNeg x) d1 j)))
        rw [show vp_updL (fun j => kget l1 d1 j) i.toNatClampNeg x = (fun j => kget (kset l1 i.toNatClampNeg x) d1 j) from funext fun j => by rw [kget_set]; rfl]
    · cases h
  · cases h
theorem k_aast (F : kFix p s m args meth cd cc nL own mname D dA A zs ad0) (hd : decode cc pc = .ok (.aastore, 1)) (h : kaast pc lo st w c sl = some k) (g : kGo p l e R s m args below meth cd Q D dA ρ A nL ad0 n0 (k)) : kGo p l e R s m args below meth cd Q D dA ρ A nL ad0 n0 ((pc, lo, st, w, c, sl)) := by
  unfold kaast at h
  split at h
  · rename_i r i a rest
    split at h
    · rename_i t n l1 cj fs hw hr
      cases ht : (Nat.beq t 5 && Nat.beq cj 7 || Nat.beq t 6 && Nat.beq cj 2) && kinB i n with
      | false => rw [ht] at h; cases h
      | true =>
        rw [ht] at h; cases h
        have ht := Bool.and_eq_true_iff.mp ht
        intro ad H locs ls hat
        obtain ⟨q0, h1, h2⟩ := kW_get (dA := dA) (ad := ad) (ρ := ρ) hw
        obtain ⟨q1, h3, -⟩ := kW_get (dA := dA) (ad := ad) (ρ := ρ) hr
        have key : kE dA ad ρ (.inl (t, n, .inr (.inr (kset l1 i.toNatClampNeg (some r))))) = .inl (dA t, n, .inr (.inr (.inr (.inr (va_up (fun j => (kget l1 none j).map ad) i.toNatClampNeg (some (ad r))))))) := by
          show (Sum.inl (dA t, n, .inr (.inr (.inr (.inr (fun j => (kget (kset l1 i.toNatClampNeg (some r)) none j).map ad))))) : va_E) = _
          rw [show (fun j => (kget (kset l1 i.toNatClampNeg (some r)) none j).map ad) = va_up (fun j => (kget l1 none j).map ad) i.toNatClampNeg (some (ad r)) from funext fun j => by
            rw [kget_set]
            unfold va_up
            by_cases hj : j = i.toNatClampNeg
            · rw [if_pos hj, if_pos hj]; rfl
            · rw [if_neg hj, if_neg hj]]
        rcases Bool.or_eq_true_iff.mp ht.1 with q | q
        · have q := Bool.and_eq_true_iff.mp q
          have e1 := kb_t q.1
          have e2 := kb_t q.2
          subst e1; subst e2
          exact va_astq (ws := kW dA ad ρ w) (r := ("TriplicateForms$Standing", kT kF7, 10)) F.1 F.2.1 F.2.2.2.2.2.1 hat.2.1 hat.2.2.1 hat.2.2.2.1 q0 5 q1 7 h1 rfl h3 rfl (kinB_ok ht.2) hd (k_put h2 key.symm hat g)
        · have q := Bool.and_eq_true_iff.mp q
          have e1 := kb_t q.1
          have e2 := kb_t q.2
          subst e1; subst e2
          exact va_astq (ws := kW dA ad ρ w) (r := ("TriplicateForms$Image", kT kF2, 4)) F.1 F.2.1 F.2.2.2.2.2.1 hat.2.1 hat.2.2.1 hat.2.2.2.1 q0 6 q1 2 h1 rfl h3 rfl (kinB_ok ht.2) hd (k_put h2 key.symm hat g)
    · cases h
  · cases h
theorem k_dup (F : kFix p s m args meth cd cc nL own mname D dA A zs ad0) (hd : decode cc pc = .ok (.dup, 1)) (h : kdup pc lo st w c sl = some k) (g : kGo p l e R s m args below meth cd Q D dA ρ A nL ad0 n0 (k)) : kGo p l e R s m args below meth cd Q D dA ρ A nL ad0 n0 ((pc, lo, st, w, c, sl)) := by
  unfold kdup at h
  split at h
  · rename_i v rest
    cases hc : Nat.beq (kcat v) 1 with
    | false => rw [hc] at h; cases h
    | true =>
      rw [hc] at h; cases h
      intro ad H locs ls hat
      exact lv_dup F.1 F.2.1 hd ((kV_cat ad ρ v).trans (kb_t hc)) (g ad H locs ls hat)
  · cases h
theorem k_dup2 (F : kFix p s m args meth cd cc nL own mname D dA A zs ad0) (hd : decode cc pc = .ok (.dup2, 1)) (h : kdup2 pc lo st w c sl = some k) (g : kGo p l e R s m args below meth cd Q D dA ρ A nL ad0 n0 (k)) : kGo p l e R s m args below meth cd Q D dA ρ A nL ad0 n0 ((pc, lo, st, w, c, sl)) := by
  unfold kdup2 at h
  split at h
  · rename_i a b rest
    cases hc : Nat.beq (kcat a) 1 && Nat.beq (kcat b) 1 with
    | false => rw [hc] at h; cases h
    | true =>
      rw [hc] at h; cases h
      have hc := Bool.and_eq_true_iff.mp hc
      intro ad H locs ls hat
      exact lv_dup2_11 F.1 F.2.1 hd ((kV_cat ad ρ a).trans (kb_t hc.1)) ((kV_cat ad ρ b).trans (kb_t hc.2)) (g ad H locs ls hat)
  · cases h
theorem k_pop (F : kFix p s m args meth cd cc nL own mname D dA A zs ad0) (hd : decode cc pc = .ok (.pop, 1)) (h : kpop pc lo st w c sl = some k) (g : kGo p l e R s m args below meth cd Q D dA ρ A nL ad0 n0 (k)) : kGo p l e R s m args below meth cd Q D dA ρ A nL ad0 n0 ((pc, lo, st, w, c, sl)) := by
  unfold kpop at h
  split at h
  · rename_i v rest
    cases hc : Nat.beq (kcat v) 1 with
    | false => rw [hc] at h; cases h
    | true =>
      rw [hc] at h; cases h
      intro ad H locs ls hat
      exact lv_pop F.1 F.2.1 hd ((kV_cat ad ρ v).trans (kb_t hc)) (g ad H locs ls hat)
  · cases h
theorem kcats_eq (ad : Nat → Nat) (st : List KV) : ((st.map (kV ad ρ)).map (fun v => v.category)).sum = kcats st := by
  unfold kcats
  rw [List.map_map]
  congr 1
  apply List.map_congr_left
  intro v _
  exact kV_cat ad ρ v
theorem k_obj (F : kFix p s m args meth cd cc nL own mname D dA A zs ad0) (hf : 1 ≤ R.frames) (hl : 40 ≤ R.locals) {i : Nat} (h1 : Cond.methodLink own i objectInit ∈ LT) (h2 : Cond.instanceMethod objectInit ∈ LT) (h3 : Cond.code objectInit ⟨#[0xb1]⟩ 1 none ∈ LT) (hd : decode cc pc = .ok (.invokespecial i, 3)) (h : kobj pc lo st w c sl = some k) (g : kGo p l e R s m args below meth cd Q D dA ρ A nL ad0 n0 (k)) : kGo p l e R s m args below meth cd Q D dA ρ A nL ad0 n0 ((pc, lo, st, w, c, sl)) := by
  unfold kobj at h
  split at h
  · rename_i a rest
    cases hc : Nat.ble (kcats rest) 8 with
    | false => rw [hc] at h; cases h
    | true =>
      rw [hc] at h; cases h
      have hc := Nat.ble_eq.mp hc
      have hts := F.2.2.2.2.1
      intro ad H locs ls hat
      refine W.objInit (a := ad a) (rest := rest.map (kV ad ρ)) F.1 F.2.1 F.2.2.2.1 (hts _ h1) (hts _ h2) (hts _ h3) rfl (by rw [F.2.2.1]; exact hat.1.1) rfl hd hf ?_ (g ad H locs ls hat)
      rw [kcats_eq]
      show 2 * 0 + _ + 12 ≤ _
      omega
  · cases h
theorem k_min (F : kFix p s m args meth cd cc nL own mname D dA A zs ad0) (hr : kRg rg ρ) (hRc : Rc ≤ R.cells) (hRs : Rs ≤ R.slots) (hf : 1 ≤ R.frames) (hl : 40 ≤ R.locals) {i : Nat} (h1 : Cond.methodLink own i Lib.Math.min.name ∈ LT) (h2 : Cond.static Lib.Math.min.name ∈ LT) (h3 : Cond.initialized "java/lang/Math" ∈ LT) (h4 : Cond.code Lib.Math.min.name Lib.Math.min.code 2 (some .int) ∈ LT) (hd : decode cc pc = .ok (.invokestatic i, 3)) (h : kmin rg Rc Rs pc lo st w c sl = some k) (g : kGo p l e R s m args below meth cd Q D dA ρ A nL ad0 n0 (k)) : kGo p l e R s m args below meth cd Q D dA ρ A nL ad0 n0 ((pc, lo, st, w, c, sl)) := by
  unfold kmin at h
  split at h
  · rename_i y x rest
    cases hc : (kisI x && (kisI y && (Nat.ble c Rc && (Nat.ble sl Rs && Nat.ble (kcats rest) 8)))) with
    | false => rw [hc] at h; cases h
    | true =>
      rw [hc] at h
      simp only [cond_true] at h
      split at h
      · rename_i b hb
        cases h
        simp only [Bool.and_eq_true] at hc
        obtain ⟨c1, c2, c3, c4, c5⟩ := hc
        have c3 := Nat.ble_eq.mp c3
        have c4 := Nat.ble_eq.mp c4
        have c5 := Nat.ble_eq.mp c5
        have hts := F.2.2.2.2.1
        have hb := klt_ok hr hb
        intro ad H locs ls hat
        have g1 := g ad H locs ls hat
        simp only [List.map_cons] at g1 ⊢
        rw [kisI_eq c1, kisI_eq c2]
        refine va_mmin F.1 F.2.1 (F.2.2.1.trans hat.1.1.symm) F.2.2.2.1 (hts _ h1) (hts _ h2) (hts _ h3) (hts _ h4) hf (by rw [kcats_eq]; omega) (by omega) (by omega) hd ?_
        cases b with
        | true =>
          rw [if_pos (hb.mp rfl)]
          have e : kV ad ρ (bif true then y else x) = .int (kiv ρ y) := kisI_eq c2
          rw [e] at g1
          exact g1
        | false =>
          rw [if_neg (fun q => absurd (hb.mpr q) Bool.false_ne_true)]
          have e : kV ad ρ (bif false then y else x) = .int (kiv ρ x) := kisI_eq c1
          rw [e] at g1
          exact g1
      · cases h
  · cases h
theorem kcell_i {cA : ClassId} {n : Nat} {f g : Nat → Int32} (h : ∀ j, j < n → f j = g j) : vp_cell cA (n, .inl f) = vp_cell cA (n, .inl g) := by
  have e : (fun j : Fin n => Value.int (f j.val)) = (fun j : Fin n => Value.int (g j.val)) := funext fun j => by rw [h j.val j.isLt]
  show ({ cls := cA, slots := Array.ofFn (n := n) (fun j : Fin n => Value.int (f j.val)), vm := .none } : Cell) = { cls := cA, slots := Array.ofFn (n := n) (fun j : Fin n => Value.int (g j.val)), vm := .none }
  rw [e]
theorem kcell_l {cA : ClassId} {n : Nat} {f g : Nat → Int64} (h : ∀ j, j < n → f j = g j) : vp_cell cA (n, .inr (.inl f)) = vp_cell cA (n, .inr (.inl g)) := by
  have e : (fun j : Fin n => Value.long (f j.val)) = (fun j : Fin n => Value.long (g j.val)) := funext fun j => by rw [h j.val j.isLt]
  show ({ cls := cA, slots := Array.ofFn (n := n) (fun j : Fin n => Value.long (f j.val)), vm := .none } : Cell) = { cls := cA, slots := Array.ofFn (n := n) (fun j : Fin n => Value.long (g j.val)), vm := .none }
  rw [e]
/-- a cell may be told by another list that says the same below its length -/
theorem k_tell {ws : va_W} {a q0 : Nat} {cA : ClassId} {x y : vp_A} {H : Heap} (h : va_P D kCl (ws.set q0 (a, .inl (cA, x))) H) (hxy : vp_cell cA x = vp_cell cA y) : va_P D kCl (ws.set q0 (a, .inl (cA, y))) H := by
  intro k q hq
  rw [List.getElem?_set] at hq
  by_cases hk : q0 = k
  · subst hk
    by_cases hl : q0 < ws.length
    · simp only [if_true, hl] at hq
      cases hq
      have h1 := h q0 (a, .inl (cA, x)) (by rw [List.getElem?_set]; simp [hl])
      show H[a]? = some (vp_cell cA y)
      rw [← hxy]
      exact h1
    · simp [hl] at hq
  · rw [if_neg hk] at hq
    exact h k q (by rw [List.getElem?_set, if_neg hk]; exact hq)
theorem k_apart {A : Nat → Prop} {ws : va_W} {a q0 : Nat} {e1 e2 : va_E} (h : va_D A (ws.set q0 (a, e1))) : va_D A (ws.set q0 (a, e2)) := by
  by_cases hl : q0 < ws.length
  · have h2 := h.set (p := q0) (a := a) (e0 := e1) (e := e2) (by rw [List.getElem?_set]; simp [hl])
    rw [List.set_set] at h2
    exact h2
  · rw [List.set_eq_of_length_le (Nat.not_lt.mp hl)] at h ⊢
    exact h
theorem k_copy (F : kFix p s m args meth cd cc nL own mname D dA A zs ad0) (hf : 1 ≤ R.frames) (hlo : 40 ≤ R.locals) {i : Nat} (h1 : Cond.methodLink own i arraycopyName ∈ LT) (h2 : Cond.native arraycopyName ∈ LT) (h3 : Cond.static arraycopyName ∈ LT) (h4 : Cond.initialized "java/lang/System" ∈ LT) (hd : decode cc pc = .ok (.invokestatic i, 3)) (h : kcopy pc lo st w c sl = some k) (g : kGo p l e R s m args below meth cd Q D dA ρ A nL ad0 n0 (k)) : kGo p l e R s m args below meth cd Q D dA ρ A nL ad0 n0 ((pc, lo, st, w, c, sl)) := by
  unfold kcopy at h
  split at h
  · rename_i n dp a1 sp a0 rest
    split at h
    · rename_i t0 n0' e0 t1 n1 e1 hw0 hw1
      cases hc : (decide (sp = 0) && (decide (dp = 0) && (!decide (n < 0) && (Nat.beq n.toNatClampNeg n0' && (Nat.beq n0' n1 && (Nat.beq t0 t1 && Nat.ble (kcats rest) 8)))))) with
      | false => rw [hc] at h; cases h
      | true =>
        rw [hc] at h
        simp only [Bool.and_eq_true, Bool.not_eq_true', decide_eq_false_iff_not, decide_eq_true_eq] at hc
        obtain ⟨c1, c2, c3, c4, c5, c6, c7⟩ := hc
        have c4 := kb_t c4
        have c5 := kb_t c5
        have c6 := kb_t c6
        have c7 := Nat.ble_eq.mp c7
        subst c1; subst c2; subst c5; subst c6
        have hts := F.2.2.2.2.1
        have z : (0 : Int32).toNatClampNeg = 0 := by decide
        have hloc : ∀ ad : Nat → Nat, ((rest.map (kV ad ρ)).map fun v => v.category).sum + (nativeFrameWords "java/lang/System" "arraycopy" 5 + 11) ≤ R.locals := by
          intro ad
          rw [kcats_eq, show nativeFrameWords "java/lang/System" "arraycopy" 5 = 7 by decide]
          omega
        rcases e0 with ⟨l0, d0⟩ | e0 | e0
        · rcases e1 with ⟨l1, d1⟩ | e1 | e1
          · simp only [cond_true] at h
            cases ht : Nat.beq t0 0 with
            | false => rw [ht] at h; cases h
            | true =>
              rw [ht] at h; cases h
              have e := kb_t ht
              subst e
              intro ad H locs ls hat
              obtain ⟨q0, p1, p2⟩ := kW_get (dA := dA) (ad := ad) (ρ := ρ) hw0
              obtain ⟨q1, p3, p4⟩ := kW_get (dA := dA) (ad := ad) (ρ := ρ) hw1
              refine va_copyi (ws := kW dA ad ρ w) F.1 F.2.1 (F.2.2.1.trans hat.1.1.symm) F.2.2.2.1 (hts _ h1) (hts _ h2) (hts _ h3) (hts _ h4) F.2.2.2.2.2.1 hat.2.1 hat.2.2.1 hat.2.2.2.1 q0 q1 0 0 p1 p3 rfl rfl rfl (by decide) (by decide) c3 (by rw [z]; omega) (by rw [z]; omega) (fun _ _ => rfl) hf (hloc ad) hd ?_
              intro H1 locs1 r1 r2 r3
              refine k_put p4 rfl hat g H1 locs1 (k_tell r1 (kcell_i (fun j hj => ?_))) (k_apart r2) r3
              unfold va_cpy
              rw [z, if_pos ⟨Nat.zero_le _, by omega⟩]
              simp
          · cases h
          · cases h
        · rcases e1 with ⟨l1, d1⟩ | e1 | e1
          · cases h
          · simp only [cond_true] at h
            cases ht : Nat.beq t0 1 with
            | false => rw [ht] at h; cases h
            | true =>
              rw [ht] at h; cases h
              have e := kb_t ht
              subst e
              obtain ⟨l0, d0⟩ := e0
              obtain ⟨l1, d1⟩ := e1
              intro ad H locs ls hat
              obtain ⟨q0, p1, p2⟩ := kW_get (dA := dA) (ad := ad) (ρ := ρ) hw0
              obtain ⟨q1, p3, p4⟩ := kW_get (dA := dA) (ad := ad) (ρ := ρ) hw1
              refine va_copyl (ws := kW dA ad ρ w) F.1 F.2.1 (F.2.2.1.trans hat.1.1.symm) F.2.2.2.1 (hts _ h1) (hts _ h2) (hts _ h3) (hts _ h4) F.2.2.2.2.2.1 hat.2.1 hat.2.2.1 hat.2.2.2.1 q0 q1 1 1 p1 p3 rfl rfl rfl (by decide) (by decide) c3 (by rw [z]; omega) (by rw [z]; omega) (fun _ _ => rfl) hf (hloc ad) hd ?_
              intro H1 locs1 r1 r2 r3
              refine k_put p4 rfl hat g H1 locs1 (k_tell r1 (kcell_l (fun j hj => ?_))) (k_apart r2) r3
              unfold va_cpy
              rw [z, if_pos ⟨Nat.zero_le _, by omega⟩]
              simp
          · cases h
        · rcases e1 with ⟨l1, d1⟩ | e1 | e1 <;> cases h
    · cases h
  · cases h
end KROWS4
