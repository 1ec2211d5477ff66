theorem LT_hts {args : Array Value} {s : State} (h : ∀ w ∈ lw_tbl, w.before args s = true) : ∀ w ∈ LT, w.before args s = true := fun w hw => h w (LT_tbl hw)
theorem kPrim {args : Array Value} {s : State} {ty : FieldType} (h : (Cond.arrayClass ty).before args s = true) (hp : ∀ C, ty ≠ .object C) : ∃ cA : ClassId, ArrOfT s cA ty ∧ va_RA s cA ty := by
  obtain ⟨c, k, comp, h1, h2, h3⟩ := Cond.arrayClass_spec h
  refine ⟨c, fun n z => ⟨fun k h => (by cases h), k, h2, comp, h3⟩, ?_⟩
  cases ty with
  | object C => exact absurd rfl (hp C)
  | _ => exact h1
theorem kRefs {args : Array Value} {s : State} {C : String} (h : (Cond.arrayOver (.object C)).before args s = true) : ∃ cA : ClassId, ArrOfT s cA (.object C) ∧ va_RA s cA (.object C) := by
  obtain ⟨comp, c, k, h1, -, h3, h4, h5⟩ := Cond.arrayOver_spec h
  exact ⟨c, fun n z => ⟨fun k h => (by cases h), k, h3, comp, h4⟩, k, comp, h3, h4, h1, h5⟩
set_option maxRecDepth 100000 in
theorem kInst : ∀ (ci : Nat) (q : vw_C), kCl[ci]? = some q → Cond.instantiable q.1 q.2.2 ∈ lw_tbl := by
  intro ci q h
  match ci, h with
  | 0, h => cases h; exact List.mem_of_getElem? (i := 367) (by decide +kernel)
  | 1, h => cases h; exact List.mem_of_getElem? (i := 400) (by decide +kernel)
  | 2, h => cases h; exact List.mem_of_getElem? (i := 460) (by decide +kernel)
  | 3, h => cases h; exact List.mem_of_getElem? (i := 341) (by decide +kernel)
  | 4, h => cases h; exact List.mem_of_getElem? (i := 221) (by decide +kernel)
  | 5, h => cases h; exact List.mem_of_getElem? (i := 435) (by decide +kernel)
  | 6, h => cases h; exact List.mem_of_getElem? (i := 385) (by decide +kernel)
  | 7, h => cases h; exact List.mem_of_getElem? (i := 268) (by decide +kernel)
  | 8, h => cases h; exact List.mem_of_getElem? (i := 170) (by decide +kernel)
  | 9, h => cases h; exact List.mem_of_getElem? (i := 320) (by decide +kernel)
  | 10, h => cases h; exact List.mem_of_getElem? (i := 162) (by decide +kernel)
  | 11, h => cases h; exact List.mem_of_getElem? (i := 1466) (by decide +kernel)
  | n + 12, h => simp [kCl] at h
set_option maxRecDepth 100000 in
theorem kStatW : ∀ z ∈ kStats, Cond.laysStatic z.1 z.2.1 z.2.2 ∈ lw_tbl ∧ z.1 = "TriplicateForms$Word" := by
  have h : kStats.map (fun z => some (Cond.laysStatic z.1 z.2.1 z.2.2)) = ([1255, 1257, 1270, 1272, 1274, 1276, 1278, 1280, 1262, 1264, 1266, 1268] : List Nat).map (fun i => lw_tbl[i]?) := by decide +kernel
  have h2 : ∀ z ∈ kStats, z.1 = "TriplicateForms$Word" := by decide +kernel
  intro q hq
  have h1 : some (Cond.laysStatic q.1 q.2.1 q.2.2) ∈ ([1255, 1257, 1270, 1272, 1274, 1276, 1278, 1280, 1262, 1264, 1266, 1268] : List Nat).map (fun i => lw_tbl[i]?) := by rw [← h]; exact List.mem_map.mpr ⟨q, hq, rfl⟩
  obtain ⟨i, -, hi⟩ := List.mem_map.mp h1
  exact ⟨List.mem_of_getElem? hi, h2 q hq⟩
set_option maxRecDepth 100000 in
theorem kStatX {args : Array Value} {s : State} (h : (Jvm.Cond.and given_1 narrow_1).before args s = true) : ∀ z ∈ kStats, (Cond.exactly (.static z.1 z.2.1 z.2.2) "TriplicateForms$Word").before args s = true := by
  have hs := flat_of_before _ h
  intro z hz
  refine hs _ ?_
  revert z
  decide +kernel
set_option maxRecDepth 100000 in
theorem kWordsL : ∀ w ∈ ([.arrayClass .int, .arrayClass .long, .arrayClass .byte, .arrayClass .char, .arrayClass .boolean, .arrayOver (.object "TriplicateForms$Standing"), .arrayOver (.object "TriplicateForms$Image"), .initialized "TriplicateForms$Word"] : List Cond), w ∈ lw_tbl := by
  have h : ([.arrayClass .int, .arrayClass .long, .arrayClass .byte, .arrayClass .char, .arrayClass .boolean, .arrayOver (.object "TriplicateForms$Standing"), .arrayOver (.object "TriplicateForms$Image"), .initialized "TriplicateForms$Word"] : List Cond).map some = ([266, 265, 219, 398, 1621, 326, 339, 149] : List Nat).map (fun i => lw_tbl[i]?) := by decide +kernel
  intro w hw
  have h1 : some w ∈ ([266, 265, 219, 398, 1621, 326, 339, 149] : List Nat).map (fun i => lw_tbl[i]?) := by rw [← h]; exact List.mem_map.mpr ⟨w, hw, rfl⟩
  obtain ⟨i, -, hi⟩ := List.mem_map.mp h1
  exact List.mem_of_getElem? hi
/-- the law's frame, as the small machine wants it -/
theorem law_fix {p : Program} {s : State} {m : MethodId} {meth : Method} {c : Code} {b L : Nat} {xs : Nat → Int32} (C0 : lw_At p s m meth c b L xs) : ∃ (D : va_G) (dA : Nat → ClassId) (ad0 : Nat → Nat), ad0 1000000 = b ∧ kFix p s m #[Value.ref b] meth c code 7 "TriplicateFormsLaw" "law" D dA (fun q => s.heap.size ≤ q) kStats ad0 := by
  obtain ⟨hx, hb, hr, hml, hown, hts, hX, hbl, hlocks, hgv⟩ := C0
  have hwl := fun w hw => hts w (kWordsL w hw)
  have hall : ∀ k : Nat, ∃ (cC : ClassId) (iS : Nat → Nat), ∀ q : vw_C, kCl[k]? = some q → u_Kn s q.1 q.2.1 q.2.2 cC iS := by
    intro k
    cases hk : kCl[k]? with
    | none => exact ⟨0, fun _ => 0, fun q h => by cases h⟩
    | some q =>
      obtain ⟨cC, iS, h⟩ := u_known (C := q.1) (T := q.2.1) (N := q.2.2) (n := q.2.2) hts (fun w hw => LT_tbl ((kCl_ok k q hk).1 w hw)) (hts _ (kInst k q hk))
      exact ⟨cC, iS, fun q' h' => by cases h'; exact h⟩
  obtain ⟨dC, hC⟩ := Classical.axiomOfChoice hall
  obtain ⟨dI, hI⟩ := Classical.axiomOfChoice hC
  obtain ⟨a0, q0⟩ := kPrim (ty := .int) (hwl (.arrayClass .int) (by simp)) (fun C h => by cases h)
  obtain ⟨a1, q1⟩ := kPrim (ty := .long) (hwl (.arrayClass .long) (by simp)) (fun C h => by cases h)
  obtain ⟨a2, q2⟩ := kPrim (ty := .byte) (hwl (.arrayClass .byte) (by simp)) (fun C h => by cases h)
  obtain ⟨a3, q3⟩ := kPrim (ty := .char) (hwl (.arrayClass .char) (by simp)) (fun C h => by cases h)
  obtain ⟨a4, q4⟩ := kPrim (ty := .boolean) (hwl (.arrayClass .boolean) (by simp)) (fun C h => by cases h)
  obtain ⟨a5, q5⟩ := kRefs (C := "TriplicateForms$Standing") (hwl (.arrayOver (.object "TriplicateForms$Standing")) (by simp))
  obtain ⟨a6, q6⟩ := kRefs (C := "TriplicateForms$Image") (hwl (.arrayOver (.object "TriplicateForms$Image")) (by simp))
  have hst : ∀ i : Nat, ∃ t : Nat, ∀ z, kStats[i]? = some z → (Term.static z.1 z.2.1 z.2.2).eval #[Value.ref b] s none [] s = some (.ref t) := by
    intro i
    cases hi : kStats[i]? with
    | none => exact ⟨0, fun z h => by cases h⟩
    | some z =>
      obtain ⟨a, c2, cell, k, r1, -⟩ := Cond.exactly_spec (kStatX hgv z (List.mem_of_getElem? hi))
      exact ⟨a, fun z' h' => by cases h'; exact r1⟩
  obtain ⟨tt, htt⟩ := Classical.axiomOfChoice hst
  refine ⟨(dC, dI), fun t => [a0, a1, a2, a3, a4, a5, a6].getD t 0, fun j => if j = 1000000 then b else tt (j - 1000001), if_pos rfl, hx, hb, hml, hown, LT_hts hts, ⟨fun k q hq => hI k q hq, ?_⟩, fun q h => h, fun h => absurd h (by decide), fun i z hz => ?_, fun q hq => va_Nw.of rfl (hts _ (kNW_ok q hq)), va_AO.of (hwl (.arrayOver (.object "TriplicateForms$Standing")) (by simp)), va_AO.of (hwl (.arrayOver (.object "TriplicateForms$Image")) (by simp))⟩
  · intro k q hk
    match k, hk with
    | 0, hk => cases hk; exact q0
    | 1, hk => cases hk; exact q1
    | 2, hk => cases hk; exact q2
    | 3, hk => cases hk; exact q3
    | 4, hk => cases hk; exact q4
    | 5, hk => cases hk; exact q5
    | 6, hk => cases hk; exact q6
    | n + 7, hk => simp [kTyL] at hk
  · have hm := List.mem_of_getElem? hz
    obtain ⟨h1, h2⟩ := kStatW z hm
    have e1 : (if 1000001 + i = 1000000 then b else tt (1000001 + i - 1000001)) = tt i := by
      rw [if_neg (by omega), Nat.add_sub_cancel_left]
    show va_Z z.1 z.2.1 z.2.2 (.ref (if 1000001 + i = 1000000 then b else tt (1000001 + i - 1000001))) _ s s.heap
    rw [e1]
    exact va_Zref (hts _ h1) (by rw [h2]; exact hwl (.initialized "TriplicateForms$Word") (by simp)) (htt i z hz) (fun a ha => Nat.not_le.mpr ha)
/-- where the law's run ends -/
theorem law_end {p : Program} {l : Launch} {e : Env} {s : State} {m : MethodId} {below : List Frame} {meth : Method} {c : Code} {b L : Nat} {xs : Nat → Int32} (C0 : lw_At p s m meth c b L xs) {D : va_G} {dA : Nat → ClassId} {ad0 : Nat → Nat} {ρ : Nat → Int32} {ig : Instr} {k : KF} (hm : ∃ x, (k.1, ig, x) ∈ kPL) (h : kFin (some (ig, k)) = true) : kGo p l e room_1 s m #[Value.ref b] below meth c (lw_Z below #[Value.ref b] s) D dA ρ (fun q => s.heap.size ≤ q) 7 ad0 0 k := by
  obtain ⟨hx, hb, hr, hml, hown, hts, hX, hbl, hlocks, hgv⟩ := C0
  obtain ⟨x, hm⟩ := hm
  obtain ⟨len, hd, hlen⟩ := kdec_ok (kPL_ok _ hm).1
  obtain ⟨pc, lo, st, w, c1, s1⟩ := k
  unfold kFin at h
  simp only [Bool.and_eq_true] at h
  obtain ⟨h1, h2, h3⟩ := h
  split at h1
  · split at h1
    · rename_i v
      have e := of_decide_eq_true h1
      subst e
      rcases hlen with q | q
      · exact absurd q (Nat.succ_ne_zero _)
      · subst q
        intro ad H locs ls hat
        refine va_forget (fun q hq => hat.2.2.2.1.2.2 q hq) ?_
        refine W.widen (k := 600002) (n := 7302232) (Nat.ble_eq.mp h2) (Nat.ble_eq.mp h3) ?_
        exact lw_ret hx hb hr hlocks hd
    · cases h1
  · cases h1
section LAWRUN
variable {p : Program} {l : Launch} {e : Env} {s : State} {m : MethodId} {below : List Frame} {meth : Method} {c : Code} {b L : Nat} {xs : Nat → Int32} {D : va_G} {dA : Nat → ClassId} {ad0 : Nat → Nat} {ρ : Nat → Int32}
abbrev lGo (p : Program) (l : Launch) (e : Env) (s : State) (m : MethodId) (b : Nat) (below : List Frame) (meth : Method) (c : Code) (D : va_G) (dA : Nat → ClassId) (ρ : Nat → Int32) (ad0 : Nat → Nat) (k : KF) : Prop := kGo p l e room_1 s m #[Value.ref b] below meth c (lw_Z below #[Value.ref b] s) D dA ρ (fun q => s.heap.size ≤ q) 7 ad0 0 k
theorem law_run (C0 : lw_At p s m meth c b L xs) (F : kFix p s m #[Value.ref b] meth c code 7 "TriplicateFormsLaw" "law" D dA (fun q => s.heap.size ≤ q) kStats ad0) (hb0 : ad0 1000000 = b) {rg : List (Int × Int)} {ks : Option Int32} {L' : Nat} {cur : List KEnt} (hcur : ∀ x ∈ cur, x ∈ kPL) (hr : kRg rg ρ) (hks : ∀ v, ks = some v → ρ 0 &&& 63 = v) (hL : L' = L + 1) (hρ : ∀ j, j < L → ρ j = xs j) {k : KF} (h : kFin (krun (kcall kmeths rg ks 12) rg ks L' 7 kRc kRs kPL kfuel cur k) = true) : lGo p l e s m b below meth c D dA ρ ad0 k := by
  cases hk : krun (kcall kmeths rg ks 12) rg ks L' 7 kRc kRs kPL kfuel cur k with
  | none => rw [hk] at h; cases h
  | some r =>
    obtain ⟨ig, k'⟩ := r
    rw [hk] at h
    obtain ⟨h1, h2, h3⟩ := k_run (p := p) (l := l) (e := e) (R := room_1) (below := below) (n0 := 0) (Q := lw_Z below #[Value.ref b] s) F hr hks (L := L') (fun _ => ⟨b, xs, by subst hL; exact C0.2.2.2.2.2.2.1, C0.2.2.2.2.2.2.2.1, fun q => absurd C0.2.2.2.2.2.2.2.1 (Nat.not_lt.mpr q), hb0, by subst hL; exact hρ⟩) (k_met kOall hr hks 12) (Nat.le_refl _) (Nat.le_refl _) (Nat.le_of_ble_eq_true rfl) (Nat.le_of_ble_eq_true rfl) kPL_ok kfuel cur k ig k' hcur hk
    exact h3 (law_end C0 h1 h)
theorem law_prefix (C0 : lw_At p s m meth c b L xs) (F : kFix p s m #[Value.ref b] meth c code 7 "TriplicateFormsLaw" "law" D dA (fun q => s.heap.size ≤ q) kStats ad0) (hg : lGo p l e s m b below meth c D dA ρ ad0 kS1) : lGo p l e s m b below meth c D dA ρ ad0 kS0 :=
  k_goTo (p := p) (l := l) (e := e) (R := room_1) (below := below) (n0 := 0) (rg := []) (ks := none) (L := 0) (Q := lw_Z below #[Value.ref b] s) F (fun i lo hi h => by simp at h) (fun v h => by cases h) (fun q => absurd q (Nat.lt_irrefl 0)) (k_met kOall (fun i lo hi h => by simp at h) (fun v h => by cases h) 12) (Nat.le_refl _) (Nat.le_refl _) (Nat.le_of_ble_eq_true rfl) (Nat.le_of_ble_eq_true rfl) kPL_ok kfuel kS0 kS1 (keO_ok kprefix) hg
end LAWRUN
theorem kCases : ∀ j : Nat, j < 64 → ¬ (j = 4 ∨ j = 5) → kCase j := by
  intro j hj h4
  match j, hj, h4 with
  | 0, _, _ => exact kc_0
  | 1, _, _ => exact kc_1
  | 2, _, _ => exact kc_2
  | 3, _, _ => exact kc_3
  | 4, _, h4 => exact absurd (Or.inl rfl) h4
  | 5, _, h4 => exact absurd (Or.inr rfl) h4
  | 6, _, _ => exact kc_6
  | 7, _, _ => exact kc_7
  | 8, _, _ => exact kc_8
  | 9, _, _ => exact kc_9
  | 10, _, _ => exact kc_10
  | 11, _, _ => exact kc_11
  | 12, _, _ => exact kc_12
  | 13, _, _ => exact kc_13
  | 14, _, _ => exact kc_14
  | 15, _, _ => exact kc_15
  | 16, _, _ => exact kc_16
  | 17, _, _ => exact kc_17
  | 18, _, _ => exact kc_18
  | 19, _, _ => exact kc_19
  | 20, _, _ => exact kc_20
  | 21, _, _ => exact kc_21
  | 22, _, _ => exact kc_22
  | 23, _, _ => exact kc_23
  | 24, _, _ => exact kc_24
  | 25, _, _ => exact kc_25
  | 26, _, _ => exact kc_26
  | 27, _, _ => exact kc_27
  | 28, _, _ => exact kc_28
  | 29, _, _ => exact kc_29
  | 30, _, _ => exact kc_30
  | 31, _, _ => exact kc_31
  | 32, _, _ => exact kc_32
  | 33, _, _ => exact kc_33
  | 34, _, _ => exact kc_34
  | 35, _, _ => exact kc_35
  | 36, _, _ => exact kc_36
  | 37, _, _ => exact kc_37
  | 38, _, _ => exact kc_38
  | 39, _, _ => exact kc_39
  | 40, _, _ => exact kc_40
  | 41, _, _ => exact kc_41
  | 42, _, _ => exact kc_42
  | 43, _, _ => exact kc_43
  | 44, _, _ => exact kc_44
  | 45, _, _ => exact kc_45
  | 46, _, _ => exact kc_46
  | 47, _, _ => exact kc_47
  | 48, _, _ => exact kc_48
  | 49, _, _ => exact kc_49
  | 50, _, _ => exact kc_50
  | 51, _, _ => exact kc_51
  | 52, _, _ => exact kc_52
  | 53, _, _ => exact kc_53
  | 54, _, _ => exact kc_54
  | 55, _, _ => exact kc_55
  | 56, _, _ => exact kc_56
  | 57, _, _ => exact kc_57
  | 58, _, _ => exact kc_58
  | 59, _, _ => exact kc_59
  | 60, _, _ => exact kc_60
  | 61, _, _ => exact kc_61
  | 62, _, _ => exact kc_62
  | 63, _, _ => exact kc_63
  | n + 64, hj, _ => omega
theorem law_short (j : Nat) (hj : j < 6) : kleafL (j + 1) = true := by
  match j, hj with
  | 0, _ => exact kshort0
  | 1, _ => exact kshort1
  | 2, _ => exact kshort2
  | 3, _ => exact kshort3
  | 4, _ => exact kshort4
  | 5, _ => exact kshort5
/-- the law's body from its entry, but the two calls that throw -/
theorem law_start_open {p : Program} {e : Env} {s : State} {m : MethodId} {below : List Frame} {meth : Method} {c : Code} (l : Launch) {b L : Nat} {xs : Nat → Int32} (hL : L ≤ 6) (C0 : lw_At p s m meth c b L xs)
    (hthrow : ∀ (D : va_G) (dA : Nat → ClassId) (ad0 : Nat → Nat), L = 6 → ad0 1000000 = b → kFix p s m #[Value.ref b] meth c code 7 "TriplicateFormsLaw" "law" D dA (fun q => s.heap.size ≤ q) kStats ad0 → (xs 0 &&& 63 = Int32.ofNat 4 ∨ xs 0 &&& 63 = Int32.ofNat 5) → lGo p l e s m b below meth c D dA xs ad0 kS1) :
    W p l e room_1 s m #[Value.ref b] below meth c s.heap [] 0 0 (lw_Z below #[Value.ref b] s) (entryFrame m ([Value.ref b] : List Value).toArray 7) := by
  obtain ⟨D, dA, ad0, hb0, F⟩ := law_fix C0
  have hl := lv_entry ([.ref b]) (n := 7) (Nat.le_of_ble_eq_true rfl)
  rw [lg_entry_eq]
  generalize (lg_sl ([.ref b]) ++ List.replicate (7 - (lg_sl ([.ref b])).length) Slot.unset).toArray = ls at hl ⊢
  have key : lGo p l e s m b below meth c D dA xs ad0 kS0 := by
    refine law_prefix C0 F ?_
    rcases Nat.lt_or_ge L 6 with h6 | h6
    · exact law_run C0 F hb0 (rg := []) (ks := none) (cur := []) (fun x hx => by cases hx) (fun i lo hi h => by simp at h) (fun v h => by cases h) rfl (fun _ _ => rfl) (law_short L h6)
    · have hL6 : L = 6 := by omega
      subst hL6
      obtain ⟨j, hj, hv⟩ := pk_andE (xs 0) (m := 63) 6 (by decide)
      by_cases h4 : j = 4 ∨ j = 5
      · refine hthrow D dA ad0 rfl hb0 F ?_
        rcases h4 with q | q
        · subst q; exact Or.inl hv
        · subst q; exact Or.inr hv
      · obtain ⟨rg, h1, h2⟩ := kCases j hj h4 xs
        exact law_run C0 F hb0 (rg := rg) (ks := some (Int32.ofNat j)) (L' := 7) (cur := []) (fun x hx => by cases hx) h2 (fun v h => by cases h; exact hv) rfl (fun _ _ => rfl) h1
  have hl2 : lv_has ls 7 (kL ad0 xs [(0, .inl (.ref 1000000))]) := by
    have e1 : kL ad0 xs [(0, .inl (.ref 1000000))] = [(0, .ref b)] := by
      show [(0, Value.ref (ad0 1000000))] = _
      rw [hb0]
    rw [e1]
    exact hl
  exact key ad0 s.heap [] ls ⟨hl2, fun k q h => by simp [kS0, kW, kWf] at h, ⟨fun i j p q h => by simp [kS0, kW, kWf] at h, fun k q h => by simp [kS0, kW, kWf] at h⟩, va_S.rf, Nat.zero_le _, kExt.rf _ _⟩
