/-! The count of a number's bits, by hand: each turn takes one away. -/
def qBitsP : List KEnt := [(0, .iconst 0, (0, 0, 0, 0, 0)), (1, .istore_n 1, (0, 0, 0, 0, 0)), (2, .iload_n 0, (0, 0, 0, 0, 0)), (3, .istore_n 2, (0, 0, 0, 0, 0)), (4, .iload_n 2, (0, 0, 0, 0, 0)), (5, .ifCond .eq 15, (0, 0, 0, 0, 0)), (8, .iinc 1 1, (0, 0, 0, 0, 0)), (11, .iload_n 2, (0, 0, 0, 0, 0)), (12, .iload_n 2, (0, 0, 0, 0, 0)), (13, .iconst 1, (0, 0, 0, 0, 0)), (14, .isub, (0, 0, 0, 0, 0)), (15, .iand, (0, 0, 0, 0, 0)), (16, .istore_n 2, (0, 0, 0, 0, 0)), (17, .goto (-13), (0, 0, 0, 0, 0)), (20, .iload_n 1, (0, 0, 0, 0, 0)), (21, .ireturn, (0, 0, 0, 0, 0))]
theorem bits_and {s : Int32} (h : s ≠ 0) : (s &&& (s - 1)).toUInt32.toNat < s.toUInt32.toNat := by
  have e : (s &&& (s - 1)).toUInt32 = s.toUInt32 &&& (s.toUInt32 - 1) := rfl
  have hu : s.toUInt32.toNat ≠ 0 := fun q => h (by
    have : s.toUInt32 = 0 := UInt32.toNat_inj.mp q
    have h2 : s.toUInt32 = (0 : Int32).toUInt32 := this
    exact congrArg Int32.ofUInt32 h2)
  rw [e, UInt32.toNat_and]
  have h1 : (s.toUInt32 - 1).toNat = s.toUInt32.toNat - 1 := by
    rw [UInt32.toNat_sub_of_le]
    · rfl
    · exact UInt32.le_iff_toNat_le.mpr (by show 1 ≤ _; omega)
  have h2 := Nat.and_le_right (n := s.toUInt32.toNat) (m := (s.toUInt32 - 1).toNat)
  omega
section BITS
variable {ms : List KMeth} {X : KO} {d : Nat} {w : KW}
def qBL (x c s : Int32) : List (Nat × KV) := [(2, .inl (.int s)), (1, .inl (.int c)), (0, .inl (.int x))]
theorem bits_loop : ∀ (m : Nat) (x c s : Int32), s.toUInt32.toNat = m → ∃ r lo, RN (kcl ms X d) X [] 0 3 0 0 qBitsP (4, qBL x c s, [], w, 0, 0) (.ireturn, (21, lo, [.inl (.int r)], w, 0, 0)) := by
  intro m
  induction m using Nat.strongRecOn with
  | _ m ih =>
    intro x c s hm
    by_cases h0 : s = 0
    · subst h0
      refine ⟨c, qBL x c 0, ?_⟩
      refine RN_step (kcl_mono ms X d) (f := 0) (k' := (5, qBL x c 0, [.inl (.int 0)], w, 0, 0)) rfl rfl rfl rfl ?_
      refine RN_step (kcl_mono ms X d) (f := 0) (k' := (20, qBL x c 0, [], w, 0, 0)) rfl rfl rfl rfl ?_
      refine RN_step (kcl_mono ms X d) (f := 0) (k' := (21, qBL x c 0, [.inl (.int c)], w, 0, 0)) rfl rfl rfl rfl ?_
      exact RN_end (e := (21, .ireturn, (0, 0, 0, 0, 0))) (l := []) rfl rfl rfl
    · obtain ⟨r, lo, hr⟩ := ih _ (by rw [← hm]; exact bits_and h0) x (c + 1) (s &&& (s - 1)) rfl
      refine ⟨r, lo, ?_⟩
      have hb : kdx (.ifCond .eq 15) X (kcallx ms X 0 d) [] 0 3 0 0 (0, 0, 0, 0, 0) 5 (qBL x c s) [.inl (.int s)] w 0 0 = some (8, qBL x c s, [], w, 0, 0) := by
        show (bif true then kbr (ktg 5 15) (keq [] (.inl (.int s)) (.inl (.int 0))) 5 (qBL x c s) [] w 0 0 else none) = _
        rw [keq_int, decide_eq_false h0]
        rfl
      refine RN_step (kcl_mono ms X d) (f := 0) (k' := (5, qBL x c s, [.inl (.int s)], w, 0, 0)) rfl rfl rfl rfl ?_
      refine RN_step (kcl_mono ms X d) (f := 0) (k' := (8, qBL x c s, [], w, 0, 0)) rfl rfl rfl hb ?_
      refine RN_step (kcl_mono ms X d) (f := 0) (k' := (11, [(1, .inl (.int (c + 1))), (2, .inl (.int s)), (0, .inl (.int x))], [], w, 0, 0)) rfl rfl rfl rfl ?_
      refine RN_step (kcl_mono ms X d) (f := 0) (k' := (12, [(1, .inl (.int (c + 1))), (2, .inl (.int s)), (0, .inl (.int x))], [.inl (.int s)], w, 0, 0)) rfl rfl rfl rfl ?_
      refine RN_step (kcl_mono ms X d) (f := 0) (k' := (13, [(1, .inl (.int (c + 1))), (2, .inl (.int s)), (0, .inl (.int x))], [.inl (.int s), .inl (.int s)], w, 0, 0)) rfl rfl rfl rfl ?_
      refine RN_step (kcl_mono ms X d) (f := 0) (k' := (14, [(1, .inl (.int (c + 1))), (2, .inl (.int s)), (0, .inl (.int x))], [.inl (.int 1), .inl (.int s), .inl (.int s)], w, 0, 0)) rfl rfl rfl rfl ?_
      refine RN_step (kcl_mono ms X d) (f := 0) (k' := (15, [(1, .inl (.int (c + 1))), (2, .inl (.int s)), (0, .inl (.int x))], [.inl (.int (s - 1)), .inl (.int s)], w, 0, 0)) rfl rfl rfl rfl ?_
      refine RN_step (kcl_mono ms X d) (f := 0) (k' := (16, [(1, .inl (.int (c + 1))), (2, .inl (.int s)), (0, .inl (.int x))], [.inl (.int (s &&& (s - 1)))], w, 0, 0)) rfl rfl rfl rfl ?_
      refine RN_step (kcl_mono ms X d) (f := 0) (k' := (17, qBL x (c + 1) (s &&& (s - 1)), [], w, 0, 0)) rfl rfl rfl rfl ?_
      refine RN_step (kcl_mono ms X d) (f := 0) (k' := (4, qBL x (c + 1) (s &&& (s - 1)), [], w, 0, 0)) rfl rfl rfl rfl ?_
      exact hr
theorem bits_run (x : Int32) : ∃ r lo, RN (kcl ms X d) X [] 0 3 0 0 qBitsP (0, [(0, .inl (.int x))], [], w, 0, 0) (.ireturn, (21, lo, [.inl (.int r)], w, 0, 0)) := by
  obtain ⟨r, lo, hr⟩ := bits_loop (ms := ms) (X := X) (d := d) (w := w) _ x 0 x rfl
  refine ⟨r, lo, ?_⟩
  refine RN_step (kcl_mono ms X d) (f := 0) (k' := (1, [(0, .inl (.int x))], [.inl (.int 0)], w, 0, 0)) rfl rfl rfl rfl ?_
  refine RN_step (kcl_mono ms X d) (f := 0) (k' := (2, [(1, .inl (.int 0)), (0, .inl (.int x))], [], w, 0, 0)) rfl rfl rfl rfl ?_
  refine RN_step (kcl_mono ms X d) (f := 0) (k' := (3, [(1, .inl (.int 0)), (0, .inl (.int x))], [.inl (.int x)], w, 0, 0)) rfl rfl rfl rfl ?_
  refine RN_step (kcl_mono ms X d) (f := 0) (k' := (4, qBL x 0 x, [], w, 0, 0)) rfl rfl rfl rfl ?_
  exact hr
/-- its contract: any number in, any number out -/
theorem bits_cv {E : TEnv} {ph : PHI} {rg0 : RG} {mid : Nat} {mn : MethodName} {y : ByteArray} {mods : MOD} {M : LF} (hE : kEok E) (hms : ms[mid]? = some (mn, y, 3, some .int, 0, 0, qBitsP)) : CV E ph (kcl ms X (d + 1)) (d + 1) (mid, (1, rg0, [], [], [.inl (0, [(0, 1)])], [], (0, []), (0, [])), [(2, [(1, (-2147483648, 2147483647))], [], [], [.inl (0, [(1, 1)])], [], (0, []), (0, []))], mods, M) := by
  intro ρ st w hT hG _
  obtain ⟨v, s', rfl, h1, h2⟩ := aSt_cons hG.2.2.1
  rw [aSt_nil h2]
  have hv := h1.2
  subst hv
  obtain ⟨r, lo, f, hr⟩ := bits_run (ms := ms) (X := X) (d := d) (w := w) (Int32.ofInt (lev ρ (0, [(0, 1)])))
  refine ⟨some (.inl (.int r)), w, ⟨f, ?_⟩, hT, kFr.rf _ _ _, _, List.mem_cons_self, fun i => if i = 1 then r.toInt else ρ i, fun i hi => if_neg (by have hi : i < 1 := hi; omega), by show 1 ≤ 2; omega, ⟨?_, ?_, ?_, ?_, ?_⟩, ⟨fun j a (hj : none = some a) => (nomatch hj), rfl⟩, ⟨⟨?_, ?_⟩, trivial⟩, fun e he => (nomatch he), fun p hp i hi => ?_⟩
  · have o2 : Nat.blt (kfr 0 w) 1000000 = true := by
      rw [hT.1]
      exact Nat.ble_eq.mpr hE.1
    have hr : krx (kcallx ms X f d) X [] 0 3 0 0 qBitsP f (0, kargs 0 [.inl (.int (Int32.ofInt (lev ρ (0, [(0, 1)]))))], [], w, 0, 0) = some (.ireturn, 21, lo, [.inl (.int r)], w, 0, 0) := hr
    show kcallx ms X f (d + 1) mid [.inl (.int (Int32.ofInt (lev ρ (0, [(0, 1)]))))] w = _
    unfold kcallx
    simp only [hms, o2, hr, Bool.and_true]
    rfl
  · intro q hq
    cases hq with
    | head => show 1 < 2; omega
    | tail _ hq => cases hq
  · intro q hq
    cases hq with
    | head =>
      show (-2147483648 : Int) ≤ (if (1 : Nat) = 1 then r.toInt else ρ 1) ∧ (if (1 : Nat) = 1 then r.toInt else ρ 1) ≤ 2147483647
      rw [if_pos rfl]
      exact ⟨i32_lo r, i32_hi r⟩
    | tail _ hq => cases hq
  · intro f hf
    cases hf
  · exact ⟨fun t ht => (nomatch ht), Int.le_refl _⟩
  · exact ⟨fun t ht => (nomatch ht), Int.le_refl _⟩
  · intro t ht
    cases ht with
    | head => show 1 < 2; omega
    | tail _ ht => cases ht
  · show (Sum.inl (Value.int r) : KV) = Sum.inl (Value.int (Int32.ofInt (0 + (1 * (if (1 : Nat) = 1 then r.toInt else ρ 1) + 0))))
    rw [if_pos rfl, show (0 + (1 * r.toInt + 0) : Int) = r.toInt by omega, i32_to]
  · rcases hG.2.2.2.2 p hp i hi with ⟨e, e1, -⟩ | q
    · cases e1
    · exact Or.inr q
end BITS
