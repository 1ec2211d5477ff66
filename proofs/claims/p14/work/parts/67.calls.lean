/-! The calls that the law makes: the class's and the model's methods, the two helpers. -/
/-- what the caller's world must be -/
def kHg (w w' : KW) : Bool := (match kwg w 0 with
  | some (.inr (ci, _)) => Nat.beq ci 10
  | _ => false) && (Nat.ble 168 (kfr 0 w) && Nat.ble (kfr 0 w) (kfr 0 w'))
theorem kHg_ok {w w' : KW} (h : kHg w w' = true) : (∃ fs, kwg w 0 = some (.inr (10, fs))) ∧ 168 ≤ kfr 0 w ∧ kfr 0 w ≤ kfr 0 w' := by
  unfold kHg at h
  simp only [Bool.and_eq_true] at h
  obtain ⟨h1, h2, h3⟩ := h
  refine ⟨?_, Nat.ble_eq.mp h2, Nat.ble_eq.mp h3⟩
  split at h1
  · rename_i ci fs hw
    have e := kb_t h1
    subst e
    exact ⟨fs, hw⟩
  · cases h1
def qHelp (prog : List KEnt) (X : KO) (f d : Nat) (args : List KV) (w : KW) : Option (Option KV × KW) := match args with
  | [.inl (.ref x), .inl (.int a), .inl (.int b), .inl (.ref o)] => bif Nat.beq x 0 && Nat.beq o 167 then (match krx (kcallx qmeths X f d) X [] 0 3 0 0 prog f (0, kargs 0 [.inl (.ref 0), .inl (.int a), .inl (.int b)], [], w, 0, 0) with
    | some (ig, _, _, st, w', c, s) => bif Nat.ble c 0 && (Nat.ble s 0 && kHg w w') then (match kretx (some .byte) ig st with
      | some none => some (some (.inl (.int 1)), w')
      | some (some (.inl (.int z))) => (match kwg w' 167 with
        | some (.inl (1, n, .inr (.inl (l1, d1)))) => bif Nat.blt 0 n then some (some (.inl (.int 0)), kws w' 167 (.inl (1, n, .inr (.inl (kset l1 0 z.toInt64, d1))))) else none
        | _ => none)
      | _ => none) else none
    | none => none) else none
  | _ => none
def qHrun (prog : List KEnt) (X : KO) (f d : Nat) (a b : Int32) (w : KW) (r : Option KV) (w' : KW) : Prop := ∃ ig pc lo st c s, krx (kcallx qmeths X f d) X [] 0 3 0 0 prog f (0, kargs 0 [.inl (.ref 0), .inl (.int a), .inl (.int b)], [], w, 0, 0) = some (ig, pc, lo, st, w', c, s) ∧ c ≤ 0 ∧ s ≤ 0 ∧ kretx (some .byte) ig st = some r ∧ (r = none ∨ ∃ z, r = some (.inl (.int z))) ∧ kHg w w' = true
theorem qHelp_inv {prog : List KEnt} {X : KO} {f d : Nat} {args : List KV} {w w2 : KW} {ret : Option KV} (h : qHelp prog X f d args w = some (ret, w2)) : ∃ a b r w' bz, args = [.inl (.ref 0), .inl (.int a), .inl (.int b), .inl (.ref 167)] ∧ qHrun prog X f d a b w r w' ∧ kHb r w' bz w2 ∧ ret = some (.inl (.int bz)) := by
  unfold qHelp at h
  split at h
  · rename_i x a b o
    have hq0 := kcond_inv h
    clear h
    obtain ⟨hb, h⟩ := hq0
    have hb := Bool.and_eq_true_iff.mp hb
    have e1 := kb_t hb.1
    have e2 := kb_t hb.2
    subst e1; subst e2
    split at h
    · rename_i ig pc lo st w' c s hrun
      have hq1 := kcond_inv h
      clear h
      obtain ⟨hc, h⟩ := hq1
      simp only [Bool.and_eq_true] at hc
      obtain ⟨hc1, hc2, hc3⟩ := hc
      split at h
      · rename_i hr
        cases h
        exact ⟨a, b, none, _, 1, rfl, ⟨ig, pc, lo, st, c, s, hrun, Nat.ble_eq.mp hc1, Nat.ble_eq.mp hc2, hr, Or.inl rfl, hc3⟩, Or.inl ⟨rfl, rfl, rfl⟩, rfl⟩
      · rename_i z hr
        split at h
        · rename_i n l1 d1 hw
          have hq2 := kcond_inv h
          clear h
          obtain ⟨hn, h⟩ := hq2
          cases h
          exact ⟨a, b, some (.inl (.int z)), w', 0, rfl, ⟨ig, pc, lo, st, c, s, hrun, Nat.ble_eq.mp hc1, Nat.ble_eq.mp hc2, hr, Or.inr ⟨z, rfl⟩, hc3⟩, Or.inr ⟨z, l1, d1, n, rfl, rfl, hw, Nat.blt_eq.mp hn, rfl⟩, rfl⟩
        · cases h
      · cases h
    · cases h
  · cases h
theorem qHelp_of {prog : List KEnt} {X : KO} {f d : Nat} {a b bz : Int32} {w w' w2 : KW} {r : Option KV} (h : qHrun prog X f d a b w r w') (hb : kHb r w' bz w2) : qHelp prog X f d [.inl (.ref 0), .inl (.int a), .inl (.int b), .inl (.ref 167)] w = some (some (.inl (.int bz)), w2) := by
  obtain ⟨ig, pc, lo, st, c, s, h1, h2, h3, h4, -, h5⟩ := h
  unfold qHelp
  have e0 : (Nat.beq 0 0 && Nat.beq 167 167) = true := rfl
  have e1 : (Nat.ble c 0 && (Nat.ble s 0 && kHg w w')) = true := by rw [Nat.ble_eq.mpr h2, Nat.ble_eq.mpr h3, h5]; rfl
  rcases hb with ⟨rfl, rfl, rfl⟩ | ⟨z, l1, d1, n, rfl, rfl, g1, g2, rfl⟩
  · simp only [e0, cond_true, h1, e1, h4]
  · simp only [e0, cond_true, h1, e1, h4, g1, Nat.blt_eq.mpr g2]
def callL (X : KO) (d : Nat) : KCL := fun f mid args w => bif Nat.beq mid 298 then qHelp qPF X f d args w else bif Nat.beq mid 299 then qHelp qPP X f d args w else kcallx qmeths X f d mid args w
theorem qHelp_le {prog : List KEnt} {X : KO} {d f g : Nat} (hfg : f ≤ g) {args : List KV} {w : KW} {r : Option KV × KW} (h : qHelp prog X f d args w = some r) : qHelp prog X g d args w = some r := by
  obtain ⟨ret, w2⟩ := r
  obtain ⟨a, b, r, w', bz, rfl, ⟨ig, pc, lo, st, c, s, h1, h2⟩, h3, rfl⟩ := qHelp_inv h
  exact qHelp_of ⟨ig, pc, lo, st, c, s, krx_le (kcallx_le hfg d) _ _ _ _ hfg h1, h2⟩ h3
theorem callL_mono (X : KO) (d : Nat) : KMono (callL X d) := by
  intro f g hfg mid as w r h
  unfold callL at h ⊢
  cases q1 : Nat.beq mid 298 with
  | true => rw [q1] at h; exact qHelp_le hfg h
  | false =>
    rw [q1] at h
    cases q2 : Nat.beq mid 299 with
    | true => rw [q2] at h; exact qHelp_le hfg h
    | false => rw [q2] at h; exact kcallx_le hfg d _ _ _ _ h
/-! the told rows where nothing is under way -/
def qIa (w : KW) : Prop := ∀ p ∈ qPh, ∀ i, i < p.2.2.2.2.1 → qRec w p.2 i
theorem qPh_mk : ∀ p ∈ qPh, 2000000 ≤ p.1 ∧ p.2.1 < 167 := by decide
theorem qIa_of {ρ : Nat → Int} {tc : TC} {w : KW} (h : qI qPh ρ tc w) (htc : ∀ e ∈ tc, e.1.1 < 2000000) : qIa w := by
  intro p hp i hi
  rcases h p hp i hi with ⟨e, h1, h2, -⟩ | h
  · have := htc e h1
    have := (qPh_mk p hp).1
    omega
  · exact h
theorem qIa_to {ρ : Nat → Int} {tc : TC} {w : KW} (h : qIa w) : qI qPh ρ tc w := fun p hp i hi => Or.inr (h p hp i hi)
theorem qIa_frame {w w2 : KW} (h : qIa w) (hw : ∀ a k, a < 167 → wval w2 a k = wval w a k) : qIa w2 := by
  intro p hp i hi
  obtain ⟨al, h1, h2⟩ := h p hp i hi
  refine ⟨al, h1, fun z hz => ?_⟩
  obtain ⟨x, x1, x2⟩ := h2 z hz
  exact ⟨x, by rw [hw _ _ (qPh_mk p hp).2]; exact x1, x2⟩
theorem aSt4 {E : TEnv} {n : Nat} {ρ : Nat → Int} {a b c d : AV} {st : List KV} (h : aSt E n ρ [a, b, c, d] st) : ∃ v1 v2 v3 v4, st = [v1, v2, v3, v4] ∧ aR E n ρ a v1 ∧ aR E n ρ b v2 ∧ aR E n ρ c v3 ∧ aR E n ρ d v4 := by
  obtain ⟨v1, s1, rfl, h1, h⟩ := aSt_cons h
  obtain ⟨v2, s2, rfl, h2, h⟩ := aSt_cons h
  obtain ⟨v3, s3, rfl, h3, h⟩ := aSt_cons h
  obtain ⟨v4, s4, rfl, h4, h⟩ := aSt_cons h
  rw [aSt_nil h]
  exact ⟨v1, v2, v3, v4, rfl, h1, h2, h3, h4⟩
abbrev qAny : Int × Int := (-2147483648, 2147483647)
abbrev qPreT : AS := (2, [(1, qAny), (0, qAny)], [], [], [.inl (0, [(1, 1)]), .inl (0, [(0, 1)]), .inr (2, 0)], [], (0, []), (0, []))
abbrev qPoT1 : AS := (3, [(2, qAny)], [], [], [.inl (0, [(2, 1)])], [], (0, []), (0, []))
abbrev qPoT2 : AS := (2, [], [], [], [], [], (0, []), (0, []))
abbrev qPreH : AS := (2, [(1, qAny), (0, qAny)], [], [], [.inr (2, 167), .inl (0, [(1, 1)]), .inl (0, [(0, 1)]), .inr (2, 0)], [], (0, []), (0, []))
abbrev qPoH : AS := (3, [(2, (0, 1))], [], [], [.inl (0, [(2, 1)])], [], (0, []), (0, []))
theorem k0hd : (qEnv.2.2 (qEnv.2.1 0)).1 = (9, 10, 14) := by decide +kernel
theorem k167 : (qEnv.2.2 (qEnv.2.1 167)).1 = (1, 1, 1) := by decide +kernel
theorem k167t : qEnv.2.1 167 = 36 := by decide +kernel
theorem k167v : ksg (qEnv.2.2 (qEnv.2.1 167)).2 0 = (1, 0, 0) := by decide +kernel
theorem cv_help {X : KO} {d : Nat} {prog : List KEnt} {ms : List KMeth} {mid : Nat} {G : KG} {mn : MethodName} {y : ByteArray} (hc : ∀ f args w, callL X d f mid args w = qHelp prog X f d args w) (hms : ms[0]? = some (mn, y, 3, some .byte, 0, 0, prog)) (hK : kchk qEnv qPh qCS ms 3000 (0, qPreT, [qPoT1, qPoT2], [], (66, [])) G = true) : CV qEnv qPh (callL X d) d (mid, qPreH, [qPoH], [(36, 0, 0)], (67, [])) := by
  intro ρ st w hT hG hM
  obtain ⟨v1, v2, v3, v4, rfl, a1, a2, a3, a4⟩ := aSt4 hG.2.2.1
  have e1 : v1 = .inl (.ref 167) := ((vOK2 (t := (2, (167 : Int), 0)) rfl).mp a1.2).1
  have e4 : v4 = .inl (.ref 0) := ((vOK2 (t := (2, (0 : Int), 0)) rfl).mp a4.2).1
  obtain ⟨b, rfl⟩ : ∃ b : Int32, v2 = .inl (.int b) := ⟨_, a2.2⟩
  obtain ⟨a, rfl⟩ : ∃ a : Int32, v3 = .inl (.int a) := ⟨_, a3.2⟩
  subst e1; subst e4
  have hGF : aGS qEnv qPh ρ qPreT (0, [], [.inl (.int b), .inl (.int a), .inl (.ref 0)], w, 0, 0) := ⟨hG.1, ⟨fun j x (hj : none = some x) => (nomatch hj), rfl⟩, ⟨a2, a3, a4, trivial⟩, hG.2.2.2⟩
  have hM2 : lev ρ (66, []) < (d : Int) + 1 := by
    have h9 : lev ρ (67, []) < (d : Int) := hM
    have e6 : lev ρ (66, []) = 66 := by unfold lev lsum; rfl
    have e7 : lev ρ (67, []) = 67 := by unfold lev lsum; rfl
    rw [e6]; rw [e7] at h9; omega
  obtain ⟨-, ig, k2, ⟨f, t1⟩, t2, t3, t4, t5, r, t6, P, t7, ρ', t8, t9, t10⟩ := kchkT_ok (C := (0, qPreT, [qPoT1, qPoT2], [], (66, []))) (clk := kcl qmeths X d) (X := X) (kcl_mono qmeths X d) qE_ok qE_w qPh_ok hms (qAll X d) hK hT hGF hM2
  obtain ⟨pc2, lo2, st2, w', c2, s2⟩ := k2
  replace t2 : Nat.ble c2 0 = true := t2
  replace t3 : Nat.ble s2 0 = true := t3
  replace t4 : kTW qEnv w' := t4
  replace t5 : kFr qEnv [] w w' := t5
  replace t6 : kretx (some .byte) ig st2 = some r := t6
  have hI : qIa w' := qIa_of t10.2.2.2.2 (by
    rcases List.mem_cons.mp t7 with e | e
    · rw [e]; exact fun e h => absurd h List.not_mem_nil
    · rw [List.mem_singleton.mp e]; exact fun e h => absurd h List.not_mem_nil)
  have hr : r = none ∨ ∃ z, r = some (.inl (.int z)) := by
    have h9 := t10.2.2.1
    rcases List.mem_cons.mp t7 with e | e
    · rw [e] at h9
      cases r with
      | none => exact Or.inl rfl
      | some v => exact Or.inr ⟨_, by rw [show v = _ from h9.1.2]⟩
    · rw [List.mem_singleton.mp e] at h9
      cases r with
      | none => exact Or.inl rfl
      | some v => exact absurd h9 id
  obtain ⟨e, he1, he2, he3⟩ := t4.2 167 (by decide +kernel)
  rw [k167] at he2
  obtain ⟨l1, d1, rfl⟩ : ∃ l1 d1, e = .inl (1, 1, .inr (.inl (l1, d1))) := by
    rcases e with ⟨t, n, a | a | a⟩ | ⟨ci, fs⟩
    · obtain ⟨l1, d1⟩ := a; exact absurd (show (0 : Nat) = 1 from congrArg Prod.fst he2) (by decide)
    · obtain ⟨l1, d1⟩ := a
      have h1 : t = 1 := congrArg (fun q => q.2.1) he2
      have h2 : n = 1 := congrArg (fun q => q.2.2) he2
      subst h1; subst h2
      exact ⟨l1, d1, rfl⟩
    · exact absurd (show (2 : Nat) = 1 from congrArg Prod.fst he2) (by decide)
    · exact absurd (show (9 : Nat) = 1 from congrArg Prod.fst he2) (by decide)
  have post : ∀ (bz : Int32) (w2 : KW), (bz = 0 ∨ bz = 1) → qIa w2 → aGS qEnv qPh (fun i => if i < 2 then ρ i else bz.toInt) qPoH (0, [], [.inl (.int bz)], w2, 0, 0) := by
    intro bz w2 hb hI2
    have e2 : (fun i => if i < 2 then ρ i else bz.toInt) 2 = bz.toInt := rfl
    refine ⟨⟨fun q hq => ?_, fun q hq => ?_, fun f hf => absurd hf List.not_mem_nil, ⟨fun t h => absurd h List.not_mem_nil, Int.le_refl _⟩, ⟨fun t h => absurd h List.not_mem_nil, Int.le_refl _⟩⟩, ⟨fun j x (hj : none = some x) => (nomatch hj), rfl⟩, ⟨⟨fun t h => ?_, ?_⟩, trivial⟩, ⟨fun q hq => absurd hq List.not_mem_nil, qIa_to hI2⟩⟩
    · rw [List.mem_singleton.mp hq]; decide
    · rw [List.mem_singleton.mp hq]
      show (0 : Int) ≤ bz.toInt ∧ bz.toInt ≤ 1
      rcases hb with rfl | rfl <;> decide
    · rw [List.mem_singleton.mp h]; decide
    · have e3 : lev (fun i => if i < 2 then ρ i else bz.toInt) (0, [(2, 1)]) = bz.toInt := by
        show (0 : Int) + (1 * bz.toInt + 0) = bz.toInt
        omega
      show (Sum.inl (Value.int bz) : KV) = .inl (.int (Int32.ofInt (lev (fun i => if i < 2 then ρ i else bz.toInt) (0, [(2, 1)]))))
      rw [e3, Int32.ofInt_toInt]
  have hg : kHg w w' = true := by
    obtain ⟨e0, he0, he9, -⟩ := hT.2 0 (by decide +kernel)
    rw [k0hd] at he9
    unfold kHg
    rw [he0, hT.1, t4.1]
    rcases e0 with ⟨t, n, ⟨l, d⟩ | ⟨l, d⟩ | l⟩ | ⟨ci, fs⟩
    · exact absurd (show (0 : Nat) = 9 from congrArg Prod.fst he9) (by decide)
    · exact absurd (show (1 : Nat) = 9 from congrArg Prod.fst he9) (by decide)
    · exact absurd (show (2 : Nat) = 9 from congrArg Prod.fst he9) (by decide)
    · have : ci = 10 := congrArg (fun q => q.2.1) he9
      subst this
      rfl
  have hrun : qHrun prog X f d a b w r w' := ⟨ig, pc2, lo2, st2, c2, s2, t1, Nat.ble_eq.mp t2, Nat.ble_eq.mp t3, t6, hr, hg⟩
  rcases hr with rfl | ⟨z, rfl⟩
  · refine ⟨some (.inl (.int 1)), w', ⟨f, ?_⟩, t4, fun a k ha hk => t5 a k ha (fun ⟨q, hq, _⟩ => absurd hq List.not_mem_nil), qPoH, List.mem_cons_self, _, fun i hi => if_pos hi, Nat.le_succ 2, post 1 w' (Or.inr rfl) hI⟩
    rw [hc]
    exact qHelp_of hrun (Or.inl ⟨rfl, rfl, rfl⟩)
  · have hput : kws w' 167 (.inl (1, 1, .inr (.inl (kset l1 0 z.toInt64, d1)))) = kws w' 167 (kput1 (.inl (1, 1, .inr (.inl (l1, d1)))) 0 (.inl (.long z.toInt64))) := rfl
    have hT2 : kTW qEnv (kws w' 167 (.inl (1, 1, .inr (.inl (kset l1 0 z.toInt64, d1))))) := by
      rw [hput]
      refine kTW_put t4 (by decide +kernel) he1 (show 0 < 1 from Nat.one_pos) ⟨_, rfl⟩ ?_
      rw [k167v]
      exact ⟨_, rfl, trivial⟩
    have hF2 : kFr qEnv [(36, 0, 0)] w' (kws w' 167 (.inl (1, 1, .inr (.inl (kset l1 0 z.toInt64, d1))))) := by
      rw [hput]
      exact kFr_put he1 (show 0 < 1 from Nat.one_pos) ⟨_, rfl⟩ ⟨_, List.mem_cons_self, k167t.symm, Nat.le_refl _, Nat.le_refl _⟩
    have hI2 : qIa (kws w' 167 (.inl (1, 1, .inr (.inl (kset l1 0 z.toInt64, d1))))) := qIa_frame hI (fun a k ha => by
      rw [hput, wval_put he1 (show 0 < 1 from Nat.one_pos) ⟨_, rfl⟩]
      exact if_neg (fun q => absurd q.1 (Nat.ne_of_lt ha)))
    refine ⟨some (.inl (.int 0)), _, ⟨f, ?_⟩, hT2, kFr.tr (fun a k ha hk => t5 a k ha (fun ⟨q, hq, _⟩ => absurd hq List.not_mem_nil)) hF2, qPoH, List.mem_cons_self, _, fun i hi => if_pos hi, Nat.le_succ 2, post 0 _ (Or.inl rfl) hI2⟩
    rw [hc]
    exact qHelp_of hrun (Or.inr ⟨z, l1, d1, 1, rfl, rfl, he1, Nat.one_pos, rfl⟩)
theorem qCS_298 : qCS.all (fun C => Nat.blt C.1 298) = true := by decide +kernel
theorem qCSL_ok (X : KO) (d : Nat) : ∀ C ∈ qCSL, kcwf C = true ∧ CV qEnv qPh (callL X d) d C := by
  intro C hC
  rcases List.mem_append.mp hC with hC | hC
  · have h := qAll X d C hC
    have h2 : C.1 < 298 := Nat.blt_eq.mp (List.all_eq_true.mp qCS_298 C hC)
    refine ⟨h.1, fun ρ st w hT hG hM => ?_⟩
    obtain ⟨r, w', ⟨f, h3⟩, h4⟩ := h.2 ρ st w hT hG hM
    refine ⟨r, w', ⟨f, ?_⟩, h4⟩
    show (bif Nat.beq C.1 298 then _ else bif Nat.beq C.1 299 then _ else kcallx qmeths X f d C.1 st.reverse w) = _
    rw [kb_n (by omega), kb_n (by omega)]
    exact h3
  · rcases List.mem_cons.mp hC with e | hC
    · rw [e]
      exact ⟨by decide, cv_help (mid := 298) (fun _ _ _ => rfl) rfl qKTF⟩
    · rw [List.mem_singleton.mp hC]
      exact ⟨by decide, cv_help (mid := 299) (fun _ _ _ => rfl) rfl qKTP⟩
