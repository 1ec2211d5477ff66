section KROWS6
variable {p : Program} {l : Launch} {e : Env} {R : Room} {s : State} {m : MethodId} {args : Array Value} {below : List Frame} {meth : Method} {cd : Code} {Q : State → Prop} {D : va_G} {dA : Nat → ClassId} {ρ : Nat → Int32} {A : Nat → Prop} {nL : Nat} {ad0 : Nat → Nat} {n0 : Nat} {cc : ByteArray} {own mname : String} {zs : KZ} {rg : List (Int × Int)}
variable {pc : Nat} {lo : List (Nat × KV)} {st : List KV} {w : KW} {c sl : Nat} {k : KF} {Rc Rs : Nat} {ms : List KMeth} {call : Nat → List KV → KW → Option (Option KV × KW)} {d : Nat}
/-- a program's rows are as they should be -/
def kEntOK (ms : List KMeth) (zs : KY) (own mname : String) (cc : ByteArray) (x : KEnt) : Prop := kdec cc x = true ∧ (∀ w ∈ kwords ms zs own x, w ∈ LT) ∧ kside ms zs own mname x = true
theorem ksideM_ok {x : KX} {f : KMeth → Bool} (h : ksideM ms x f = true) : ∃ r, ms[x.1]? = some r ∧ (parseMethodDescriptor r.1.desc).map (fun d => d.parameters.length) = some x.2.1 ∧ r.2.2.2.2.1 = x.2.2.1 ∧ r.2.2.2.2.2.1 = x.2.2.2.1 ∧ r.1.cls ≠ "java/lang/invoke/MethodHandle" ∧ r.1.cls ≠ "java/lang/invoke/VarHandle" ∧ r.2.2.1 ≤ 21 ∧ f r = true := by
  unfold ksideM at h
  split at h
  · rename_i r hr
    simp only [Bool.and_eq_true, decide_eq_true_eq] at h
    obtain ⟨h1, h2, h3, h4, h5, h6, h7⟩ := h
    exact ⟨r, hr, h1, kb_t h2, kb_t h3, h4, h5, Nat.ble_eq.mp h6, h7⟩
  · cases h
theorem k_one (F : kFix p s m args meth cd cc nL own mname D dA A zs ad0) (hr : kRg rg ρ) {ks : Option Int32} {L : Nat} (hks : ∀ v, ks = some v → ρ 0 &&& 63 = v) (hX : kSc s A ad0 ρ L) (hC : kCalls l ms zs ρ call d) (hRc : Rc ≤ R.cells) (hRs : Rs ≤ R.slots) (hRf : d + 6 ≤ R.frames) (hRl : 40 * d + 280 ≤ R.locals) {ig : Instr} {x : KX} (hE : kEntOK ms zs.1 own mname cc (pc, ig, x)) (h : kdo ig call rg ks L nL Rc Rs x pc lo st w c sl = some k) (g : kGo p l e R s m args below meth cd Q D dA ρ A nL ad0 n0 (k)) : kGo p l e R s m args below meth cd Q D dA ρ A nL ad0 n0 ((pc, lo, st, w, c, sl)) := by
  obtain ⟨hdec, hw, hside⟩ := hE
  obtain ⟨len, hd, hlen⟩ := kdec_ok hdec
  replace hd : decode cc pc = .ok (ig, len) := hd
  replace hlen : klen ig = 0 ∨ len = klen ig := hlen
  have hx := F.1
  have hb := F.2.1
  have hts := F.2.2.2.2.1
  have hfr : 1 ≤ R.frames := by omega
  have hlo : 40 ≤ R.locals := by omega
  have hd2 : klen ig ≠ 0 → decode cc pc = .ok (ig, klen ig) := fun h0 => by
    rcases hlen with q | q
    · exact absurd q h0
    · rw [q] at hd; exact hd
  cases ig <;> try (cases h; done)
  all_goals try replace hd := hd2 (Nat.succ_ne_zero _)
  case iconst n => cases h; exact fun ad H locs ls hat => lv_iconst hx hb hd rfl (g ad H locs ls hat)
  case bipush n => cases h; exact fun ad H locs ls hat => lv_bipush hx hb hd rfl (g ad H locs ls hat)
  case sipush n => cases h; exact fun ad H locs ls hat => lv_sipush hx hb hd rfl (g ad H locs ls hat)
  case lconst n => cases h; exact fun ad H locs ls hat => lv_lconst hx hb hd rfl (g ad H locs ls hat)
  case aconst_null => cases h; exact fun ad H locs ls hat => lv_null hx hb hd (g ad H locs ls hat)
  case iload_n n => exact k_ild (fun ad H locs ls x q1 q2 => lv_iload_n hx hb hd rfl q1 q2) h g
  case iload n => exact k_ild (fun ad H locs ls x q1 q2 => lv_iload hx hb hd q1 q2) h g
  case aload_n n => exact k_ald (fun ad H locs ls x q1 q2 => lv_aload_n hx hb hd rfl q1 q2) (fun ad H locs ls q1 q2 => lv_aload_nN hx hb hd rfl q1 q2) h g
  case aload n => exact k_ald (fun ad H locs ls x q1 q2 => lv_aload hx hb hd q1 q2) (fun ad H locs ls q1 q2 => lv_aloadN hx hb hd q1 q2) h g
  case istore_n n => exact k_ist (fun ad H locs ls x rest lv lv' q1 q2 q3 q4 => lv_istore_n hx hb hd rfl q1 q2 q3 q4) h g
  case istore n => exact k_ist (fun ad H locs ls x rest lv lv' q1 q2 q3 q4 => lv_istore hx hb hd q1 q2 q3 q4) h g
  case astore_n n => exact k_ast (fun ad H locs ls x rest lv lv' q1 q2 q3 q4 => lv_astore_n hx hb hd rfl q1 q2 q3 q4) (fun ad H locs ls rest lv lv' q1 q2 q3 q4 => lv_astore_nN hx hb hd rfl q1 q2 q3 q4) h g
  case astore n => exact k_ast (fun ad H locs ls x rest lv lv' q1 q2 q3 q4 => lv_astore hx hb hd q1 q2 q3 q4) (fun ad H locs ls rest lv lv' q1 q2 q3 q4 => lv_astoreN hx hb hd q1 q2 q3 q4) h g
  case iinc i n => exact k_inc F hd h g
  case iadd => exact k_bin (fun H locs ls x y rest q => lv_iadd hx hb hd q) h g
  case isub => exact k_bin (fun H locs ls x y rest q => lv_isub hx hb hd q) h g
  case imul => exact k_bin (fun H locs ls x y rest q => lv_imul hx hb hd q) h g
  case ishl => exact k_bin (fun H locs ls x y rest q => lv_ishl hx hb hd q) h g
  case iushr => exact k_bin (fun H locs ls x y rest q => lv_iushr hx hb hd rfl q) h g
  case iand => exact k_and F hks hd h g
  case i2b => exact k_un (fun H locs ls x rest q => lv_i2b hx hb hd rfl q) h g
  case dup => exact k_dup F hd h g
  case dup2 => exact k_dup2 F hd h g
  case pop => exact k_pop F hd h g
  case goto off =>
    unfold kdo at h
    dsimp only at h
    split at h
    · rename_i t ht
      cases h
      exact fun ad H locs ls hat => lv_goto hx hb hd (ktg_ok ht) (g ad H locs ls hat)
    · cases h
  case ifCond cnd off => exact k_if F hr hd h g
  case if_icmp cnd off => exact k_icmp F hr hd h g
  case if_acmp cnd off => exact k_acmp F hd h g
  case tableswitch a1 a2 a3 a4 => exact k_sw F hr hd h g
  case getfield i =>
    unfold kside at hside
    dsimp only at hside
    split at hside
    · rename_i q hq
      refine k_getf F hq (Nat.ble_eq.mp hside) (hw _ ?_) hd h g
      unfold kwords
      dsimp only
      rw [hq]
      exact List.mem_cons_self
    · cases hside
  case putfield i =>
    unfold kside at hside
    dsimp only at hside
    split at hside
    · rename_i q hq
      have hs := Bool.and_eq_true_iff.mp hside
      refine k_putf F hq (Nat.ble_eq.mp hs.1) ?_ (hw _ ?_) hd h g
      · have h2 := hs.2
        cases hf : (q.2.1 x.2.1).2.2.2 with
        | false => exact Or.inl rfl
        | true =>
          rw [hf] at h2
          simp only [cond_true, Bool.and_eq_true, decide_eq_true_eq] at h2
          exact Or.inr ⟨rfl, h2.1, h2.2⟩
      · unfold kwords
        dsimp only
        rw [hq]
        exact List.mem_cons_self
    · cases hside
  case getstatic i =>
    cases h
    obtain ⟨z, hz⟩ : ∃ z, zs.1[x.1]? = some z := ⟨zs.1[x.1]'(Nat.ble_eq.mp hside), List.getElem?_eq_getElem _⟩
    have hl : Cond.fieldLink own i z.1 z.2.1 z.2.2 ∈ LT := hw _ (by
      unfold kwords
      dsimp only
      rw [hz]
      exact List.mem_cons_self)
    intro ad H locs ls hat
    have hZ := F.2.2.2.2.2.2.2.2.1.1 x.1 z hz
    rw [← hat.2.2.2.2.2 (1000001 + x.1) (Or.inr (by omega))] at hZ
    exact va_gets hx hb hZ hat.2.2.2.1 F.2.2.2.1 (hts _ hl) (fun _ h9 => h9) hd (g ad H locs ls hat)
  case new i =>
    unfold kside at hside
    dsimp only at hside
    split at hside
    · rename_i q t hq ht
      have hm : ∀ w ∈ ([.classLink own i q.1, .instantiable q.1 q.2.2, .initialized q.1] : List Cond), w ∈ LT := fun w0 h0 => hw w0 (by
        unfold kwords
        dsimp only
        rw [hq]
        exact h0)
      exact k_new F hRc hRs hq ht (kb_t hside) (hm _ (by simp)) (hm _ (by simp)) (hm _ (by simp)) hd h g
    · cases hside
  case newarray t => exact k_newa F hRc hRs (of_decide_eq_true hside) (hw _ List.mem_cons_self) hd h g
  case anewarray i =>
    have h56 : x.1 = 5 ∨ x.1 = 6 := (Bool.or_eq_true_iff.mp hside).imp kb_t kb_t
    obtain ⟨C, hC9, hAO⟩ : ∃ C, kEl[x.1]? = some (.object C) ∧ va_AO C s := by
      rcases h56 with q | q <;> rw [q]
      · exact ⟨_, rfl, F.2.2.2.2.2.2.2.2.2.2.1⟩
      · exact ⟨_, rfl, F.2.2.2.2.2.2.2.2.2.2.2⟩
    have hm : ∀ w ∈ ([.classLink own i C] : List Cond), w ∈ LT := fun w0 h0 => hw w0 (by
      unfold kwords
      dsimp only
      rw [hC9]
      exact h0)
    exact k_newq F hRc hRs hC9 h56 (hm _ (by simp)) hAO hd h g
  case arraylength => exact k_alen F hX hd h g
  case iaload => exact k_iald F hr hX hd h g
  case baload => exact k_bald F hd h g
  case laload => exact k_lald F hd h g
  case aaload => exact k_aald F hd h g
  case iastore => exact k_iast F hd h g
  case bastore => exact k_bast F hd h g
  case lastore => exact k_last F hd h g
  case aastore => exact k_aast F hd h g
  case ldc i => cases h; exact fun ad H locs ls hat => lv_ldc hx hb F.2.2.2.1 (hts _ (hw _ List.mem_cons_self)) hd (g ad H locs ls hat)
  case ldc_w i => cases h; exact fun ad H locs ls hat => lv_ldcw hx hb F.2.2.2.1 (hts _ (hw _ List.mem_cons_self)) hd (g ad H locs ls hat)
  case invokevirtual i =>
    obtain ⟨r, hr0, q1, q2, q3, q4, q5, q6, q7⟩ := ksideM_ok hside
    split at q7
    · rename_i q hq
      have hm : ∀ w ∈ ([.methodLink own i r.1, .instanceMethod r.1, .selects r.1.cls r.1 r.1, .initialized r.1.cls, .code r.1 r.2.1 r.2.2.1 r.2.2.2.1] : List Cond), w ∈ LT := fun w0 h0 => hw w0 (by
        unfold kwords
        dsimp only
        rw [hr0]
        exact h0)
      exact k_callV F hC hRc hRs hRf hRl hr0 q2 q3 q6 q1 q4 q5 hq (of_decide_eq_true q7) (hm _ (by simp)) (hm _ (by simp)) (hm _ (by simp)) (hm _ (by simp)) (hm _ (by simp)) hd h g
    · cases q7
  case invokespecial i =>
    unfold kdo at h
    dsimp only at h
    cases ho : Nat.beq x.1 999999 with
    | true =>
      rw [ho] at h
      have hm : ∀ w ∈ ([.methodLink own i objectInit, .instanceMethod objectInit, .code objectInit ⟨#[0xb1]⟩ 1 none] : List Cond), w ∈ LT := fun w0 h0 => hw w0 (by
        unfold kwords
        dsimp only
        rw [ho]
        exact h0)
      exact k_obj F hfr hlo (hm _ (by simp)) (hm _ (by simp)) (hm _ (by simp)) hd h g
    | false =>
      rw [ho] at h
      have hside : (Nat.beq x.1 999999 || ksideM ms x (fun r => decide (r.1.name = "<init>") && (decide (r.2.2.2.1 = none) && (!Nat.ble 100 x.2.2.2.2 || decide ((own, i, r.1) ∈ kNW))))) = true := hside
      rw [ho, Bool.false_or] at hside
      obtain ⟨r, hr0, q1, q2, q3, q4, q5, q6, q7⟩ := ksideM_ok hside
      simp only [Bool.and_eq_true, decide_eq_true_eq] at q7
      obtain ⟨q7, q8, q9⟩ := q7
      have hm : ∀ w ∈ ((bif Nat.ble 100 x.2.2.2.2 then [] else [.methodLink own i r.1]) ++ [.instanceMethod r.1, .initialized r.1.cls, .code r.1 r.2.1 r.2.2.1 r.2.2.2.1] : List Cond), w ∈ LT := fun w0 h0 => hw w0 (by
        unfold kwords
        dsimp only
        rw [ho, hr0]
        exact h0)
      have w1 : Cond.methodLink own i r.1 ∈ LT ∨ (own, i, r.1) ∈ kNW := by
        cases hn : Nat.ble 100 x.2.2.2.2 with
        | true =>
          rw [hn] at q9
          exact Or.inr (of_decide_eq_true q9)
        | false =>
          refine Or.inl (hm _ (List.mem_append_left _ ?_))
          rw [hn]
          exact List.mem_cons_self
      exact k_callI (x := (x.1, x.2.1, x.2.2.1, x.2.2.2.1, x.2.2.2.2 % 100)) F hC hRc hRs hRf hRl hr0 q2 q3 q6 q1 q4 q5 q7 q8 w1 (hm _ (List.mem_append_right _ (by simp))) (hm _ (List.mem_append_right _ (by simp))) (hm _ (List.mem_append_right _ (by simp))) hd h g
  case invokestatic i =>
    unfold kdo at h
    dsimp only at h
    cases ho : Nat.beq x.1 999998 with
    | true =>
      rw [ho] at h
      have hm : ∀ w ∈ ([.methodLink own i Lib.Math.min.name, .static Lib.Math.min.name, .initialized "java/lang/Math", .code Lib.Math.min.name Lib.Math.min.code 2 (some .int)] : List Cond), w ∈ LT := fun w0 h0 => hw w0 (by
        unfold kwords
        dsimp only
        rw [ho]
        exact h0)
      exact k_min F hr hRc hRs hfr hlo (hm _ (by simp)) (hm _ (by simp)) (hm _ (by simp)) (hm _ (by simp)) hd h g
    | false =>
      rw [ho] at h
      cases ho2 : Nat.beq x.1 999997 with
      | true =>
        rw [ho2] at h
        have hm : ∀ w ∈ ([.methodLink own i arraycopyName, .native arraycopyName, .static arraycopyName, .initialized "java/lang/System"] : List Cond), w ∈ LT := fun w0 h0 => hw w0 (by
          unfold kwords
          dsimp only
          rw [ho, ho2]
          exact h0)
        exact k_copy F hfr hlo (hm _ (by simp)) (hm _ (by simp)) (hm _ (by simp)) (hm _ (by simp)) hd h g
      | false =>
        rw [ho2] at h
        have hside : (Nat.beq x.1 999998 || (Nat.beq x.1 999997 || ksideM ms x (fun _ => true))) = true := hside
        rw [ho, ho2, Bool.false_or, Bool.false_or] at hside
        obtain ⟨r, hr0, q1, q2, q3, q4, q5, q6, q7⟩ := ksideM_ok hside
        have hm : ∀ w ∈ ([.methodLink own i r.1, .static r.1, .initialized r.1.cls, .code r.1 r.2.1 r.2.2.1 r.2.2.2.1] : List Cond), w ∈ LT := fun w0 h0 => hw w0 (by
          unfold kwords
          dsimp only
          rw [ho, ho2, hr0]
          exact h0)
        exact k_callS F hC hRc hRs hRf hRl hr0 q2 q3 q6 q1 q4 q5 (hm _ (by simp)) (hm _ (by simp)) (hm _ (by simp)) (hm _ (by simp)) hd h g
end KROWS6
