section KROWS5
variable {p : Program} {l : Launch} {e : Env} {R : Room} {s : State} {m : MethodId} {args : Array Value} {below : List Frame} {meth : Method} {cd : Code} {Q : State → Prop} {D : va_G} {dA : Nat → ClassId} {ρ : Nat → Int32} {A : Nat → Prop} {nL : Nat} {ad0 : Nat → Nat} {n0 : Nat} {cc : ByteArray} {own mname : String} {zs : KZ} {rg : List (Int × Int)}
variable {pc : Nat} {lo : List (Nat × KV)} {st : List KV} {w : KW} {c sl : Nat} {k : KF} {Rc Rs : Nat}
def kPc (D : va_G) (dA : Nat → ClassId) (ρ : Nat → Int32) (zs : KZ) (ad : Nat → Nat) (w : KW) (as : List KV) (sz : Nat) : Array Value → State → Prop := va_Pc (as.map (kV ad ρ)) (fun U => U.heap.size = sz ∧ va_P D kCl (kW dA ad ρ w) U.heap ∧ va_K D kCl (kTyL dA) U ∧ va_D (fun _ => True) (kW dA ad ρ w) ∧ kOuts zs ad (va_A (kW dA ad ρ w) sz) U U.heap ∧ kSt U)
def kQc (D : va_G) (dA : Nat → ClassId) (ρ : Nat → Int32) (ad : Nat → Nat) (w : KW) (ret : Option KV) (w' : KW) (sz : Nat) : Array Value → State → Outcome → State → Prop := fun _ st oc t =>
  (∃ ad' : Nat → Nat, oc = .returned (ret.map (kV ad' ρ)) ∧ kExt (kfr 0 w) ad ad' ∧ kfr 0 w ≤ kfr 0 w' ∧ va_P D kCl (kW dA ad' ρ w') t.heap ∧ va_D (va_A (kW dA ad ρ w) sz) (kW dA ad' ρ w')) ∧ va_F (va_A (kW dA ad ρ w) sz) st t
theorem klroom {a d L : Nat} (h : a ≤ 21) (h2 : 40 * d + 280 ≤ L) : 8 + (a + 11) + (40 * d + 240) ≤ L := by omega
def kwsOf (r : KMeth) : List Cond := .code r.1 r.2.1 r.2.2.1 r.2.2.2.1 :: LT
def krm (d : Nat) (r : KMeth) : Room := { frames := d + 5, cells := r.2.2.2.2.1, slots := r.2.2.2.2.2.1, locals := 40 * d + 240 }
/-- the calls that the small machine makes have contracts -/
def kCalls (l : Launch) (ms : List KMeth) (zs : KZ) (ρ : Nat → Int32) (call : Nat → List KV → KW → Option (Option KV × KW)) (d : Nat) : Prop := ∀ (mid : Nat) (r : KMeth) (as : List KV) (w : KW) (ret : Option KV) (w' : KW), ms[mid]? = some r → call mid as w = some (ret, w') → ∀ (D : va_G) (dA : Nat → ClassId) (ad : Nat → Nat) (sz : Nat),
  Met l r.1 (kwsOf r) (krm d r) (kPc D dA ρ zs ad w as sz) (kQc D dA ρ ad w ret w' sz) r.2.2.2.2.1 r.2.2.2.2.2.1 (va_A (kW dA ad ρ w) sz)
theorem kPc_blind {ad : Nat → Nat} {as : List KV} {sz : Nat} : FrameBlind (kPc D dA ρ zs ad w as sz) := by
  intro a U g mk q
  obtain ⟨q0, q1, qP, qK, qD, qZ, qN⟩ := q
  exact ⟨q0, q1, qP, va_K.moved (u := U) (U := U.calling g mk a) (Vm.Alike.refl U.vm) qK, qD, kOuts.same (u := U) (U := U.calling g mk a) rfl qZ, qN.same (u := U) (U := U.calling g mk a) rfl⟩
theorem k_pre (F : kFix p s m args meth cd cc nL own mname D dA A zs ad0) {ad : Nat → Nat} {H : Heap} {locs : List Loc} {ls : Array Slot} (hat : kAt s D dA ρ A nL ad0 n0 ad ls lo w H locs) (as : List KV) {U : State} (hU : U.heap = H) (hW : s.WarmedH U.vm) : kPc D dA ρ zs ad w as H.size (as.map (kV ad ρ)).toArray U := by
  obtain ⟨hl, hP, hD, hS, hn, hE⟩ := hat
  refine ⟨rfl, by rw [hU], by rw [hU]; exact hP, va_K.moved hW.alike F.2.2.2.2.2.1, hD.weaken (fun _ _ _ _ => trivial), ?_, F.2.2.2.2.2.2.2.2.2.warm hW⟩
  rw [hU]
  refine (((F.2.2.2.2.2.2.2.2.1.by (fun i hi => hE i (Or.inr hi))).warm hW).kept hS.2.1).narrow (fun q hq => ?_)
  rcases hq with ⟨j, x, hj⟩ | hq
  · exact hD.2 j (q, x) hj
  · exact F.2.2.2.2.2.2.1 q (Nat.le_trans hS.1 hq)
theorem k_after (F : kFix p s m args meth cd cc nL own mname D dA A zs ad0) {ad : Nat → Nat} {H : Heap} {locs : List Loc} {ls : Array Slot} {st0 : List Value} {rest : List KV} {ret : Option KV} {w' : KW} {mc msl : Nat} {a : Array Value} (hat : kAt s D dA ρ A nL ad0 n0 ad ls lo w H locs) (hlo : kokL (kfr 0 w) lo = true) (hst : kokS (kfr 0 w) rest = true)
    (hr : va_Run p l e R s m args below meth cd H locs c sl mc msl (F0 m pc ls st0) (rest.map (kV ad ρ)) (kQc D dA ρ ad w ret w' H.size a) (va_A (kW dA ad ρ w) H.size)) (g : kGo p l e R s m args below meth cd Q D dA ρ A nL ad0 n0 ((pc + 3, lo, ret.toList ++ rest, w', c + mc, sl + msl))) :
    W p l e R s m args below meth cd H locs c sl Q (F0 m pc ls st0) := by
  obtain ⟨hl, hP, hD, hS, hn, hE⟩ := hat
  have hf : ∀ q, va_A (kW dA ad ρ w) H.size q → A q := fun q hq => by
    rcases hq with ⟨j, x, hj⟩ | hq
    · exact hD.2 j (q, x) hj
    · exact F.2.2.2.2.2.2.1 q (Nat.le_trans hS.1 hq)
  intro T hT X
  obtain ⟨v, st₀, t, T', L, h0, X', hL, e1, e2, ⟨⟨ad', hv, hE', hn', hP', hD'⟩, hz, hk⟩, stp⟩ := hr T hT X
  cases hv
  rw [h0] at hz hk
  have g1 := g ad' T'.heap (locs ++ L) ls ⟨by rw [kL_ext hE' hlo]; exact hl, by rw [e1]; exact hP', hD'.weaken (fun _ q _ hq => hf _ hq), ⟨Nat.le_trans hS.1 (by rw [e1]; exact hz), fun q h1 h2 => by rw [e1, hk q (Nat.lt_of_lt_of_le h1 hS.1) (fun z => h2 (hf q z))]; exact hS.2.1 q h1 h2, fun q hq => by
      rcases List.mem_append.mp hq with h | h
      · exact hS.2.2 q h
      · exact hf _ (hL q h)⟩, Nat.le_trans hn hn', hE.tr hE' hn⟩
  have e3 : ((ret.toList ++ rest).map (kV ad' ρ)) = (ret.map (kV ad' ρ)).toList ++ rest.map (kV ad ρ) := by
    rw [List.map_append, kS_ext hE' hst]
    cases ret <;> rfl
  simp only [e3] at g1
  obtain ⟨t2, a1, b1⟩ := g1 T' rfl X'
  exact ⟨t2, stp t2 a1, b1⟩
theorem goodLT {ws : List Cond} (h : ∀ w ∈ ws, w ∈ LT) : GoodIn LT ws := fun w hw => ⟨h w hw, LT_good (h w hw)⟩
theorem kws_sub {r : KMeth} (h : Cond.code r.1 r.2.1 r.2.2.1 r.2.2.2.1 ∈ LT) : ∀ w ∈ kwsOf r, w ∈ LT := fun w hw => by
  rcases List.mem_cons.mp hw with e | hw
  · rw [e]; exact h
  · exact hw
theorem k_args {n : Nat} {ad : Nat → Nat} {b : Nat} {rest : List KV} (h : st.drop n = .inl (.ref b) :: rest) : st.map (kV ad ρ) = (((st.take n).reverse).map (kV ad ρ)).reverse ++ .ref (ad b) :: rest.map (kV ad ρ) ∧ (((st.take n).reverse).map (kV ad ρ)).length = n := by
  have hl : n < st.length := by
    have := congrArg List.length h
    rw [List.length_drop, List.length_cons] at this
    omega
  constructor
  · rw [← List.map_reverse, List.reverse_reverse]
    conv => lhs; rw [← List.take_append_drop n st, h]
    rw [List.map_append]
    rfl
  · rw [List.length_map, List.length_reverse, List.length_take]
    omega
theorem k_argsS {n : Nat} {ad : Nat → Nat} (h : n ≤ st.length) : st.map (kV ad ρ) = (((st.take n).reverse).map (kV ad ρ)).reverse ++ (st.drop n).map (kV ad ρ) ∧ (((st.take n).reverse).map (kV ad ρ)).length = n := by
  constructor
  · rw [← List.map_reverse, List.reverse_reverse, ← List.map_append, List.take_append_drop]
  · rw [List.length_map, List.length_reverse, List.length_take]
    omega
section KCALLS
variable {ms : List KMeth} {call : Nat → List KV → KW → Option (Option KV × KW)} {d : Nat} {x : KX} {r : KMeth} {i : Nat}
theorem k_callV (F : kFix p s m args meth cd cc nL own mname D dA A zs ad0) (hC : kCalls l ms zs ρ call d) (hRc : Rc ≤ R.cells) (hRs : Rs ≤ R.slots) (hRf : d + 6 ≤ R.frames) (hRl : 40 * d + 280 ≤ R.locals) (hr : ms[x.1]? = some r) (hmc : r.2.2.2.2.1 = x.2.2.1) (hms : r.2.2.2.2.2.1 = x.2.2.2.1) (hmL : r.2.2.1 ≤ 21) (hnA : (parseMethodDescriptor r.1.desc).map (fun d => d.parameters.length) = some x.2.1) (hm1 : r.1.cls ≠ "java/lang/invoke/MethodHandle") (hm2 : r.1.cls ≠ "java/lang/invoke/VarHandle") {q : vw_C} (hq : kCl[x.2.2.2.2]? = some q) (hqc : q.1 = r.1.cls)
    (w1 : Cond.methodLink own i r.1 ∈ LT) (w2 : Cond.instanceMethod r.1 ∈ LT) (w3 : Cond.selects r.1.cls r.1 r.1 ∈ LT) (w4 : Cond.initialized r.1.cls ∈ LT) (w5 : Cond.code r.1 r.2.1 r.2.2.1 r.2.2.2.1 ∈ LT) (hd : decode cc pc = .ok (.invokevirtual i, 3)) (h : kcallV call Rc Rs x pc lo st w c sl = some k) (g : kGo p l e R s m args below meth cd Q D dA ρ A nL ad0 n0 (k)) : kGo p l e R s m args below meth cd Q D dA ρ A nL ad0 n0 ((pc, lo, st, w, c, sl)) := by
  unfold kcallV at h
  split at h
  · rename_i b rest hdr
    split at h
    · rename_i cj fs hw
      cases hc : (Nat.beq cj x.2.2.2.2 && (kokL (kfr 0 w) lo && (kokS (kfr 0 w) rest && (Nat.ble (c + x.2.2.1) Rc && (Nat.ble (sl + x.2.2.2.1) Rs && Nat.ble (kcats rest) 8))))) with
      | false => rw [hc] at h; cases h
      | true =>
        rw [hc] at h
        simp only [cond_true] at h
        simp only [Bool.and_eq_true] at hc
        obtain ⟨c1, c2, c3, c4, c5, c6⟩ := hc
        have c1 := kb_t c1
        have c4 := Nat.ble_eq.mp c4
        have c5 := Nat.ble_eq.mp c5
        have c6 := Nat.ble_eq.mp c6
        split at h
        · rename_i ret w' hcall
          cases h
          intro ad H locs ls hat
          obtain ⟨q0, h1, -⟩ := kW_get (dA := dA) (ad := ad) (ρ := ρ) hw
          obtain ⟨a1, a2⟩ := k_args (ρ := ρ) (ad := ad) hdr
          have hM := hC x.1 r _ w ret w' hr hcall D dA ad H.size
          rw [hmc, hms] at hM
          subst c1
          have hgood : GoodIn LT (wsV own i r.1.cls r.1 (kwsOf r)) := goodLT (fun w hw => by
            rcases List.mem_append.mp hw with hw | hw
            · simp only [List.mem_cons, List.not_mem_nil, or_false] at hw
              rcases hw with e | e | e | e <;> rw [e] <;> assumption
            · exact kws_sub w5 w hw)
          refine k_after F hat c2 c3 (a := (Value.ref (ad b) :: ((st.take x.2.1).reverse).map (kV ad ρ)).toArray) (va_runV ⟨F.1, F.2.1, F.2.2.1, F.2.2.2.1, F.2.2.2.2.1⟩ hM (cwV x.2.1 F.2.2.2.2.1 hgood rfl hmc hms ⟨rfl, hm1, hm2, hnA⟩ ⟨hRf, ?_⟩) ⟨kPc_blind, ?_, fun U hU hW => ?_⟩ rfl a2 hat.1.1 a1 (lv_room (by rw [kcats_eq]; exact c6)) hd ⟨Nat.le_trans c4 hRc, Nat.le_trans c5 hRs⟩) g
          · exact klroom hmL hRl
          · rw [← hqc]
            exact va_recv F.2.2.2.2.2.1 hat.2.1 hq h1
          · exact k_pre F hat (.inl (.ref b) :: (st.take x.2.1).reverse) hU hW
        · cases h
    · cases h
  · cases h
theorem k_callI (F : kFix p s m args meth cd cc nL own mname D dA A zs ad0) (hC : kCalls l ms zs ρ call d) (hRc : Rc ≤ R.cells) (hRs : Rs ≤ R.slots) (hRf : d + 6 ≤ R.frames) (hRl : 40 * d + 280 ≤ R.locals) (hr : ms[x.1]? = some r) (hmc : r.2.2.2.2.1 = x.2.2.1) (hms : r.2.2.2.2.2.1 = x.2.2.2.1) (hmL : r.2.2.1 ≤ 21) (hnA : (parseMethodDescriptor r.1.desc).map (fun d => d.parameters.length) = some x.2.1) (hm1 : r.1.cls ≠ "java/lang/invoke/MethodHandle") (hm2 : r.1.cls ≠ "java/lang/invoke/VarHandle") (hnm : r.1.name = "<init>") (hrt : r.2.2.2.1 = none)
    (w1 : Cond.methodLink own i r.1 ∈ LT ∨ (own, i, r.1) ∈ kNW) (w2 : Cond.instanceMethod r.1 ∈ LT) (w4 : Cond.initialized r.1.cls ∈ LT) (w5 : Cond.code r.1 r.2.1 r.2.2.1 r.2.2.2.1 ∈ LT) (hd : decode cc pc = .ok (.invokespecial i, 3)) (h : kcallV call Rc Rs x pc lo st w c sl = some k) (g : kGo p l e R s m args below meth cd Q D dA ρ A nL ad0 n0 (k)) : kGo p l e R s m args below meth cd Q D dA ρ A nL ad0 n0 ((pc, lo, st, w, c, sl)) := by
  unfold kcallV at h
  split at h
  · rename_i b rest hdr
    split at h
    · rename_i cj fs hw
      cases hc : (Nat.beq cj x.2.2.2.2 && (kokL (kfr 0 w) lo && (kokS (kfr 0 w) rest && (Nat.ble (c + x.2.2.1) Rc && (Nat.ble (sl + x.2.2.2.1) Rs && Nat.ble (kcats rest) 8))))) with
      | false => rw [hc] at h; cases h
      | true =>
        rw [hc] at h
        simp only [cond_true] at h
        simp only [Bool.and_eq_true] at hc
        obtain ⟨c1, c2, c3, c4, c5, c6⟩ := hc
        have c4 := Nat.ble_eq.mp c4
        have c5 := Nat.ble_eq.mp c5
        have c6 := Nat.ble_eq.mp c6
        split at h
        · rename_i ret w' hcall
          cases h
          intro ad H locs ls hat
          obtain ⟨a1, a2⟩ := k_args (ρ := ρ) (ad := ad) hdr
          have hM := hC x.1 r _ w ret w' hr hcall D dA ad H.size
          rw [hmc, hms] at hM
          have hws : kwsOf r = Cond.code r.1 r.2.1 r.2.2.1 none :: LT := by unfold kwsOf; rw [hrt]
          have hpre : PreS s H (kPc D dA ρ zs ad w (.inl (.ref b) :: (st.take x.2.1).reverse) H.size) (.ref (ad b) :: ((st.take x.2.1).reverse).map (kV ad ρ)) := ⟨kPc_blind, fun U hU hW => k_pre F hat (.inl (.ref b) :: (st.take x.2.1).reverse) hU hW⟩
          have hlo : 8 + (r.2.2.1 + 11) + (krm d r).locals ≤ R.locals := by
            exact klroom hmL hRl
          have hts := F.2.2.2.2.1
          rcases w1 with w1 | w1
          · exact k_after F hat c2 c3 (a := (Value.ref (ad b) :: ((st.take x.2.1).reverse).map (kV ad ρ)).toArray) (va_runI ⟨F.1, F.2.1, F.2.2.1, F.2.2.2.1, hts⟩ hM (cwI x.2.1 hts (goodLT (kws_sub w5)) hws hmc hms (hts _ w4) (hts _ w1) (hts _ w2) hnm ⟨hm1, hm2, hnA⟩ ⟨hRf, hlo⟩) hpre rfl a2 hat.1.1 a1 (lv_room (by rw [kcats_eq]; exact c6)) hd ⟨Nat.le_trans c4 hRc, Nat.le_trans c5 hRs⟩) g
          · exact k_after F hat c2 c3 (a := (Value.ref (ad b) :: ((st.take x.2.1).reverse).map (kV ad ρ)).toArray) (va_runIN ⟨F.1, F.2.1, F.2.2.1, F.2.2.2.1, hts⟩ hM ⟨va_cnB x.2.1 hts (goodLT (kws_sub w5)) hws hmc hms (F.2.2.2.2.2.2.2.2.2.1 _ w1) (hts _ w4) ⟨hm1, hm2, hnA⟩ ⟨hRf, hlo⟩, hnm, hts _ w2⟩ hpre rfl a2 hat.1.1 a1 (lv_room (by rw [kcats_eq]; exact c6)) hd ⟨Nat.le_trans c4 hRc, Nat.le_trans c5 hRs⟩) g
        · cases h
    · cases h
  · cases h
theorem k_callS (F : kFix p s m args meth cd cc nL own mname D dA A zs ad0) (hC : kCalls l ms zs ρ call d) (hRc : Rc ≤ R.cells) (hRs : Rs ≤ R.slots) (hRf : d + 6 ≤ R.frames) (hRl : 40 * d + 280 ≤ R.locals) (hr : ms[x.1]? = some r) (hmc : r.2.2.2.2.1 = x.2.2.1) (hms : r.2.2.2.2.2.1 = x.2.2.2.1) (hmL : r.2.2.1 ≤ 21) (hnA : (parseMethodDescriptor r.1.desc).map (fun d => d.parameters.length) = some x.2.1) (hm1 : r.1.cls ≠ "java/lang/invoke/MethodHandle") (hm2 : r.1.cls ≠ "java/lang/invoke/VarHandle")
    (w1 : Cond.methodLink own i r.1 ∈ LT) (w2 : Cond.static r.1 ∈ LT) (w4 : Cond.initialized r.1.cls ∈ LT) (w5 : Cond.code r.1 r.2.1 r.2.2.1 r.2.2.2.1 ∈ LT) (hd : decode cc pc = .ok (.invokestatic i, 3)) (h : kcallS call Rc Rs x pc lo st w c sl = some k) (g : kGo p l e R s m args below meth cd Q D dA ρ A nL ad0 n0 (k)) : kGo p l e R s m args below meth cd Q D dA ρ A nL ad0 n0 ((pc, lo, st, w, c, sl)) := by
  unfold kcallS at h
  cases hc : (Nat.ble x.2.1 st.length && (kokL (kfr 0 w) lo && (kokS (kfr 0 w) (st.drop x.2.1) && (Nat.ble (c + x.2.2.1) Rc && (Nat.ble (sl + x.2.2.2.1) Rs && Nat.ble (kcats (st.drop x.2.1)) 8))))) with
  | false => rw [hc] at h; cases h
  | true =>
    rw [hc] at h
    simp only [cond_true] at h
    simp only [Bool.and_eq_true] at hc
    obtain ⟨c1, c2, c3, c4, c5, c6⟩ := hc
    have c1 := Nat.ble_eq.mp c1
    have c4 := Nat.ble_eq.mp c4
    have c5 := Nat.ble_eq.mp c5
    have c6 := Nat.ble_eq.mp c6
    split at h
    · rename_i ret w' hcall
      cases h
      intro ad H locs ls hat
      obtain ⟨a1, a2⟩ := k_argsS (ρ := ρ) (ad := ad) c1
      have hM := hC x.1 r _ w ret w' hr hcall D dA ad H.size
      rw [hmc, hms] at hM
      have hgood : GoodIn LT (va_wsS own i r.1 (kwsOf r)) := goodLT (fun w hw => by
        rcases List.mem_append.mp hw with hw | hw
        · simp only [List.mem_cons, List.not_mem_nil, or_false] at hw
          rcases hw with e | e | e <;> rw [e] <;> assumption
        · exact kws_sub w5 w hw)
      refine k_after F hat c2 c3 (a := (((st.take x.2.1).reverse).map (kV ad ρ)).toArray) (va_runS ⟨F.1, F.2.1, F.2.2.1, F.2.2.2.1, F.2.2.2.2.1⟩ hM (va_cwS x.2.1 F.2.2.2.2.1 hgood rfl hmc hms ⟨hm1, hm2, hnA⟩ ⟨hRf, ?_⟩) ⟨kPc_blind, fun U hU hW => ?_⟩ rfl a2 hat.1.1 a1 (lv_room (by rw [kcats_eq]; exact c6)) hd ⟨Nat.le_trans c4 hRc, Nat.le_trans c5 hRs⟩) g
      · exact klroom hmL hRl
      · exact k_pre F hat ((st.take x.2.1).reverse) hU hW
    · cases h
end KCALLS
end KROWS5
