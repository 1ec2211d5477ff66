/-! Every step of ado is right for kdx. -/
theorem ado_ok {E : TEnv} {ms : MOD} {ph : PHI} {n pc c s : Nat} {rg : RG} {cs : List LF} {alo : List (Nat × AV)} {ast : List AV} {tc : TC} {cB sB : LF} {ρ : Nat → Int} {lo : List (Nat × KV)} {st : List KV} {w : KW} {L : List (Nat × AS)} (hE : kEok E) (hW : kEw E) (hph : phW ph) (hT : kTW E w) (hG : aG E ph ρ n rg cs alo ast tc cB sB lo st w c s) {sc : Bool} {rgk : List (Int × Int)} {L0 nL Rc Rs : Nat} (hsc : kScA sc n ρ rgk L0) {X : KO} {call : Nat → List KV → KW → Option (Option KV × KW)} {x : KX} {ig : Instr} (h : ado E ms ph sc nL Rc Rs ig x pc n rg cs alo ast tc cB sB = some L) : aOk E ms ph ρ n w L (kdx ig X call rgk L0 nL Rc Rs x pc lo st w c s) := by
  cases ig
  case iconst z => exact s_const hT hG (x := Int32.ofInt z) rfl h
  case bipush z => exact s_const hT hG (x := (Int8.ofInt z).toInt32) rfl h
  case sipush z => exact s_const hT hG (x := (Int16.ofInt z).toInt32) rfl h
  case lconst z => exact s_push hT hG (v := .inl (.long (Int64.ofNat z.val))) (aR_longE (lenc z.val) (lenc_ok _)) rfl h
  case ldc2_w i => exact s_push hT hG (v := .inl (.long (Int64.ofNat x.1))) (aR_longE (lenc x.1) (lenc_ok _)) rfl h
  case aconst_null => exact s_push hT hG (a := .inr (5, 0)) (v := .inl .null) ⟨fun q => (nomatch q), (vOK5 (t := (5, ((0 : Nat) : Int), 0)) rfl).mpr rfl⟩ rfl h
  case ldc i =>
    have h : (bif Nat.beq x.2.1 1 then some [(pc + 2, n, rg, cs, alo, (.inr (2, 1000200 + x.1) : AV) :: ast, tc, cB, sB)] else some [(pc + 2, n, rg, cs, alo, .inl (lfc (Int32.ofNat x.1).toInt) :: ast, tc, cB, sB)]) = some L := h
    show aOk E ms ph ρ n w L (bif Nat.beq x.2.1 1 then some (pc + 2, lo, .inl (.ref (1000200 + x.1)) :: st, w, c, s) else some (pc + 2, lo, .inl (.int (Int32.ofNat x.1)) :: st, w, c, s))
    cases q : Nat.beq x.2.1 1 with
    | true => rw [q] at h; exact s_push hT hG (aR_lab (by omega)) rfl h
    | false => rw [q] at h; exact s_const hT hG rfl h
  case ldc_w i => exact s_const hT hG (x := Int32.ofNat x.1) rfl h
  case getstatic i => exact s_push hT hG (a := .inr (2, 1000001 + x.1)) (aR_lab (by omega)) rfl h
  case iload_n i => exact s_load hT hG (fun a v h1 h2 => aisI_ok h1 h2) h
  case iload i => exact s_load hT hG (fun a v h1 h2 => aisI_ok h1 h2) h
  case aload_n i => exact s_load hT hG (fun a v h1 h2 => aisQ_k h1 h2) h
  case aload i => exact s_load hT hG (fun a v h1 h2 => aisQ_k h1 h2) h
  case lload_n i => exact s_load hT hG (fun a v h1 h2 => aisG_k h1 h2) h
  case lload i => exact s_load hT hG (fun a v h1 h2 => aisG_k h1 h2) h
  case istore_n i => exact s_store hT hG (fun a v h1 h2 => aisI_ok h1 h2) h
  case istore i => exact s_store hT hG (fun a v h1 h2 => aisI_ok h1 h2) h
  case astore_n i => exact s_store hT hG (fun a v h1 h2 => aisQ_k h1 h2) h
  case astore i => exact s_store hT hG (fun a v h1 h2 => aisQ_k h1 h2) h
  case lstore_n i => exact s_store2 hT hG h
  case lstore i => exact s_store2 hT hG h
  case iinc i z => exact s_inc hT hG h
  case iadd => exact s_op2 (k := 0) hT hG (fun _ _ _ => rfl) (fun q => (nomatch q)) (fun q => (nomatch q)) (fun q => (nomatch q)) (fun q => (nomatch q)) (fun x y rest e => by subst e; rfl) h
  case isub => exact s_op2 (k := 1) hT hG (fun q => (nomatch q)) (fun _ _ _ => rfl) (fun q => (nomatch q)) (fun q => (nomatch q)) (fun q => (nomatch q)) (fun x y rest e => by subst e; rfl) h
  case imul => exact s_op2 (k := 2) hT hG (fun q => (nomatch q)) (fun q => (nomatch q)) (fun _ _ _ => rfl) (fun q => (nomatch q)) (fun q => (nomatch q)) (fun x y rest e => by subst e; rfl) h
  case iand => exact s_op2 (k := 3) hT hG (fun q => (nomatch q)) (fun q => (nomatch q)) (fun q => (nomatch q)) (fun _ _ _ => rfl) (fun q => (nomatch q)) (fun x y rest e => by subst e; rfl) h
  case iushr => exact s_op2 (k := 4) hT hG (fun q => (nomatch q)) (fun q => (nomatch q)) (fun q => (nomatch q)) (fun q => (nomatch q)) (fun _ _ _ => rfl) (fun x y rest e => by subst e; rfl) h
  case ishl => exact s_op2 (k := 9) (f := fun a b => a <<< (b &&& 31)) hT hG (fun q => (nomatch q)) (fun q => (nomatch q)) (fun q => (nomatch q)) (fun q => (nomatch q)) (fun q => (nomatch q)) (fun x y rest e => by subst e; rfl) h
  case ior => exact s_op2 (k := 9) hT hG (fun q => (nomatch q)) (fun q => (nomatch q)) (fun q => (nomatch q)) (fun q => (nomatch q)) (fun q => (nomatch q)) (fun x y rest e => by subst e; rfl) h
  case ixor => exact s_op2 (k := 9) hT hG (fun q => (nomatch q)) (fun q => (nomatch q)) (fun q => (nomatch q)) (fun q => (nomatch q)) (fun q => (nomatch q)) (fun x y rest e => by subst e; rfl) h
  case ishr => exact s_op2 (k := 9) (f := fun a b => a >>> (b &&& 31)) hT hG (fun q => (nomatch q)) (fun q => (nomatch q)) (fun q => (nomatch q)) (fun q => (nomatch q)) (fun q => (nomatch q)) (fun x y rest e => by subst e; rfl) h
  case ineg =>
    have h : (match (generalizing := false) ast with
      | .inl f :: rest => aform 1 (lfneg f) pc n rg cs alo rest tc cB sB
      | _ => none) = some L := h
    split at h
    · exact s_neg hT hG h
    · cases h
  case irem => exact s_rem hT hG h
  case i2b => exact s_op1 (f := fun a => a.toInt8.toInt32) hT hG (fun x rest e => by subst e; rfl) h
  case i2c => exact s_op1 (f := fun a => (a.toUInt32 % 65536).toInt32) hT hG (fun x rest e => by subst e; rfl) h
  case i2l => exact s_i2l hT hG h
  case l2i => exact s_l2i hT hG h
  case ladd => exact s_L2 (k := 0) hT hG (fun _ _ _ => rfl) (fun q => (nomatch q)) (fun q => (nomatch q)) h
  case lsub => exact s_L2 (k := 1) hT hG (fun q => (nomatch q)) (fun _ _ _ => rfl) (fun q => (nomatch q)) h
  case lmul => exact s_L2 (k := 2) hT hG (fun q => (nomatch q)) (fun q => (nomatch q)) (fun _ _ _ => rfl) h
  case ldiv => exact s_ldv hT hG h
  case lrem => exact s_lrm hT hG h
  case lushr => exact s_lsr hT hG h
  case lcmp => exact s_cmpL hT hG h
  case dup =>
    have h : (match (generalizing := false) ast with
      | a :: rest => bif Nat.beq (acat a) 1 then some [(pc + 1, n, rg, cs, alo, a :: a :: rest, tc, cB, sB)] else none
      | _ => none) = some L := h
    split at h
    · rename_i a rest
      obtain ⟨hb, h⟩ := kcond_inv h
      obtain ⟨v, st', rfl, hv, hS⟩ := aSt_cons hG.2.2.1
      refine s_push hT (len := 1) hG hv ?_ h
      show (bif Nat.beq (kcat v) 1 then _ else none) = _
      rw [aR_cat hv, hb]
      rfl
    · cases h
  case dup2 =>
    have h : (match (generalizing := false) ast with
      | a :: b :: rest => bif Nat.beq (acat a) 1 && Nat.beq (acat b) 1 then some [(pc + 1, n, rg, cs, alo, a :: b :: a :: b :: rest, tc, cB, sB)] else none
      | _ => none) = some L := h
    split at h
    · rename_i a b rest _
      obtain ⟨hb, h⟩ := kcond_inv h
      obtain ⟨v, st1, rfl, hv, hS1⟩ := aSt_cons hG.2.2.1
      obtain ⟨u, st2, rfl, hu, hS⟩ := aSt_cons hS1
      refine s_push hT (len := 1) (ast := b :: a :: b :: rest) (st := u :: v :: u :: st2) ⟨hG.1, hG.2.1, ⟨hu, hG.2.2.1⟩, hG.2.2.2⟩ hv ?_ h
      show (bif Nat.beq (kcat v) 1 && Nat.beq (kcat u) 1 then _ else none) = _
      rw [aR_cat hv, aR_cat hu, hb]
      rfl
    · cases h
  case pop =>
    have h : (match (generalizing := false) ast with
      | a :: rest => bif Nat.beq (acat a) 1 then some [(pc + 1, n, rg, cs, alo, rest, tc, cB, sB)] else none
      | _ => none) = some L := h
    split at h
    · rename_i a rest
      obtain ⟨hb, h⟩ := kcond_inv h
      obtain ⟨v, st', rfl, hv, hS⟩ := aSt_cons hG.2.2.1
      cases h
      refine aOk_mk (o := kpop pc lo (v :: st') w c s) ?_ (kStp.rf hT) List.mem_cons_self ρ (fun _ _ => rfl) (Nat.le_refl _) ⟨hG.1, hG.2.1, hS, hG.2.2.2⟩
      show (bif Nat.beq (kcat v) 1 then _ else none) = _
      rw [aR_cat hv, hb]
      rfl
    · cases h
  case goto off =>
    have h : (match (generalizing := false) ktg pc off with
      | some t => some [(t, n, rg, cs, alo, ast, tc, cB, sB)]
      | none => none) = some L := h
    split at h
    · rename_i t ht
      cases h
      refine aOk_mk (pc' := t) ?_ (kStp.rf hT) List.mem_cons_self ρ (fun _ _ => rfl) (Nat.le_refl _) hG
      show (match (generalizing := false) ktg pc off with
        | some t => some (t, lo, st, w, c, s)
        | none => none) = _
      rw [ht]
    · cases h
  case ifCond cnd off =>
    have h : (match (generalizing := false) ast with
      | .inl f :: rest => abr cnd off f (lfc 0) pc n rg cs alo rest tc cB sB
      | _ => none) = some L := h
    split at h
    · rename_i f rest
      obtain ⟨v, st', rfl, hv, hS⟩ := aSt_cons hG.2.2.1
      have ev := hv.2
      subst ev
      exact s_br hT (rgk := rgk) (st := st') ⟨hG.1, hG.2.1, hS, hG.2.2.2⟩ hv.1 (lwf_c _ _) (by rw [lev_c]; rfl) h
    · cases h
  case if_icmp cnd off =>
    have h : (match (generalizing := false) ast with
      | .inl y :: .inl f :: rest => abr cnd off f y pc n rg cs alo rest tc cB sB
      | _ => none) = some L := h
    split at h
    · rename_i y f rest
      obtain ⟨v, st1, rfl, hv, hS1⟩ := aSt_cons hG.2.2.1
      obtain ⟨u, st2, rfl, hu, hS⟩ := aSt_cons hS1
      have ev := hv.2
      have eu := hu.2
      subst ev eu
      exact s_br hT (rgk := rgk) (st := st2) ⟨hG.1, hG.2.1, hS, hG.2.2.2⟩ hu.1 hv.1 rfl h
    · cases h
  case if_acmp cnd off => exact s_acmp hE hT hG h
  case ifnonnull off => exact s_ifnn hT hG h
  case lookupswitch dflt ps =>
    have h : (match (generalizing := false) ast with
      | .inl f :: rest => bif l32 rg f then alk dflt pc n rg cs alo f rest tc cB sB ps.toList else none
      | _ => none) = some L := h
    split at h
    · obtain ⟨hb, h⟩ := kcond_inv h
      exact s_lk hT hG hb h
    · cases h
  case tableswitch dflt lw hg offs => exact s_sw hT hG h
  case getfield i => exact s_getf hE hT hG h
  case putfield i => exact s_putf hE hph hT hG h
  case arraylength => exact s_len hE hT hG hsc h
  case iaload => exact s_sld hE hT hG hsc h
  case baload =>
    refine s_ldx (hd := 0) (ok := fun t => Nat.beq t 2 || Nat.beq t 4) hE hT hG (fun x a e t m v r e0 ha g1 g2 b2 b3 i1 i2 _ g3 => ?_) h
    subst e0
    exact kald_row hE ha g1 g2 b2 b3 i1 i2 g3
  case caload =>
    refine s_ldx (hd := 0) (ok := fun t => Nat.beq t 3) hE hT hG (fun x a e t m v r e0 ha g1 g2 b2 b3 i1 i2 _ g3 => ?_) h
    subst e0
    exact kald_row (rgk := []) (L0 := 0) (pc := pc) (lo := lo) (w := w) (c := c) (s := s) (r := r) (ok := fun t => Nat.beq t 3) hE ha g1 g2 b2 b3 i1 i2 g3
  case laload =>
    refine s_ldx (hd := 1) (ok := fun t => Nat.beq t 1) hE hT hG (fun x a e t m v r e0 ha g1 g2 b2 b3 i1 i2 _ g3 => ?_) h
    subst e0
    exact klald_row g1 g2 b2 b3 i1 i2 g3
  case aaload => exact s_wld hE hW hT hG h
  case iastore =>
    refine s_stx0 (ok := fun t => Nat.beq t 0) (nar := fun _ a => a) hE hph hT hG (fun _ _ => rfl) (fun x i a e t m r e0 g1 g2 b2 b3 i1 i2 => ?_) h
    subst e0
    exact kast_row g1 g2 b2 b3 i1 i2
  case bastore =>
    refine s_stx0 (ok := fun t => Nat.beq t 2 || Nat.beq t 4) (nar := fun t a => bif Nat.beq t 2 then vp_nar .byte a else vp_nar .boolean a) hE hph hT hG (fun q => (nomatch q)) (fun x i a e t m r e0 g1 g2 b2 b3 i1 i2 => ?_) h
    subst e0
    exact kast_row g1 g2 b2 b3 i1 i2
  case castore =>
    refine s_stx0 (ok := fun t => Nat.beq t 3) (nar := fun _ a => vp_nar .char a) hE hph hT hG (fun q => (nomatch q)) (fun x i a e t m r e0 g1 g2 b2 b3 i1 i2 => ?_) h
    subst e0
    exact kast_row g1 g2 b2 b3 i1 i2
  case lastore =>
    refine s_stx1 (ok := fun t => Nat.beq t 1) (nar := fun _ a => a) hE hph hT hG (fun x i a e t m r e0 g1 g2 b2 b3 i1 i2 => ?_) h
    subst e0
    exact klast_row g1 g2 b2 b3 i1 i2
  case invokestatic i =>
    have h : (bif Nat.beq x.1 999998 then amx Rc Rs 4 5 pc n rg cs alo ast tc cB sB else bif Nat.beq x.1 999996 then amx Rc Rs 3 2 pc n rg cs alo ast tc cB sB else bif Nat.beq x.1 999995 then aabs Rc Rs pc n rg cs alo ast tc cB sB else bif Nat.beq x.1 999997 then acpy E ms ph pc n rg cs alo ast tc cB sB else none) = some L := h
    show aOk E ms ph ρ n w L (bif Nat.beq x.1 999996 then kmax rgk Rc Rs pc lo st w c s else bif Nat.beq x.1 999995 then kabs Rc Rs pc lo st w c s else bif Nat.beq x.1 999998 then kmin rgk Rc Rs pc lo st w c s else bif Nat.beq x.1 999997 then kcopy pc lo st w c s else kcallS call Rc Rs x pc lo st w c s)
    cases q1 : Nat.beq x.1 999998 with
    | true =>
      rw [q1] at h
      have q := kb_t q1
      rw [show Nat.beq x.1 999996 = false from kb_n (by omega), show Nat.beq x.1 999995 = false from kb_n (by omega)]
      exact s_min (rgk := rgk) hT hG h
    | false =>
      rw [q1] at h
      cases q2 : Nat.beq x.1 999996 with
      | true => rw [q2] at h; exact s_max (rgk := rgk) hT hG h
      | false =>
        rw [q2] at h
        cases q3 : Nat.beq x.1 999995 with
        | true => rw [q3] at h; exact s_abs hT hG h
        | false =>
          rw [q3] at h
          cases q4 : Nat.beq x.1 999997 with
          | true => rw [q4] at h; exact s_cpy hE hph hT hG h
          | false => rw [q4] at h; cases h
  case invokevirtual i =>
    have h : (bif Nat.beq x.1 999994 then asln Rc Rs pc n rg cs alo ast tc cB sB else bif Nat.beq x.1 999993 then aschr Rc Rs pc n rg cs alo ast tc cB sB else none) = some L := h
    show aOk E ms ph ρ n w L (bif Nat.beq x.1 999994 then kslen Rc Rs pc lo st w c s else bif Nat.beq x.1 999993 then kschr Rc Rs pc lo st w c s else kcallV call Rc Rs x pc lo st w c s)
    cases q1 : Nat.beq x.1 999994 with
    | true => rw [q1] at h; exact s_slen hT hG h
    | false =>
      rw [q1] at h
      cases q2 : Nat.beq x.1 999993 with
      | true => rw [q2] at h; exact s_schr hT hG h
      | false => rw [q2] at h; cases h
  all_goals cases h
