/-! Numbers. -/
theorem i32_and {x : Int32} {y : Int} (h0 : 0 ≤ y) (h1 : y ≤ 2147483647) : 0 ≤ (x &&& Int32.ofInt y).toInt ∧ (x &&& Int32.ofInt y).toInt ≤ y := by
  obtain ⟨m, rfl⟩ := Int.eq_ofNat_of_zero_le h0
  have e : (x &&& Int32.ofInt (m : Int)).toInt = (x.toBitVec &&& BitVec.ofNat 32 m).toInt := by
    show ((x.toBitVec &&& (Int32.ofInt (m : Int)).toBitVec)).toInt = _
    rfl
  have hm : m < 2147483648 := by omega
  have e2 : (x.toBitVec &&& BitVec.ofNat 32 m).toNat ≤ m := by
    rw [BitVec.toNat_and, BitVec.toNat_ofNat, Nat.mod_eq_of_lt (by omega)]
    exact Nat.and_le_right
  rw [e, BitVec.toInt_eq_toNat_of_lt (by omega)]
  omega
theorem i32_sh (x t : UInt32) (h : 1 ≤ t.toNat % 32) : 0 ≤ (x >>> t).toInt32.toInt ∧ (x >>> t).toInt32.toInt ≤ 2147483647 := by
  have e1 : (x >>> t).toNat < 2147483648 := by
    rw [UInt32.toNat_shiftRight, Nat.shiftRight_eq_div_pow]
    have h2 : 2 ^ 1 ≤ 2 ^ (t.toNat % 32) := Nat.pow_le_pow_right (by decide) h
    have h3 := x.toNat_lt
    have h4 : x.toNat / 2 ^ (t.toNat % 32) ≤ x.toNat / 2 ^ 1 := Nat.div_le_div_left h2 (by decide)
    omega
  have e2 : (x >>> t).toInt32.toInt = ((x >>> t).toNat : Int) := by
    show (x >>> t).toBitVec.toInt = _
    rw [BitVec.toInt_eq_toNat_of_lt (by show 2 * (x >>> t).toNat < _; omega)]
    rfl
  rw [e2]
  omega
theorem i32_ushr (x : Int32) {y : Int} (h1 : 1 ≤ y) (h2 : y ≤ 31) : 0 ≤ ((x.toUInt32 >>> ((Int32.ofInt y).toUInt32 &&& Int32.toUInt32 31)).toInt32).toInt ∧ ((x.toUInt32 >>> ((Int32.ofInt y).toUInt32 &&& Int32.toUInt32 31)).toInt32).toInt ≤ 2147483647 := by
  have h : ∀ k : Nat, k < 31 → 1 ≤ ((Int32.ofInt ((k : Int) + 1)).toUInt32 &&& Int32.toUInt32 31).toNat % 32 := by decide
  obtain ⟨m, hm⟩ := Int.eq_ofNat_of_zero_le (show 0 ≤ y - 1 by omega)
  have : y = (m : Int) + 1 := by omega
  rw [this]
  exact i32_sh _ _ (h m (by omega))
theorem i32_rem {a b : Int} (ha : 0 ≤ a) (ha2 : a ≤ 2147483647) (hb : 1 ≤ b) (hb2 : b ≤ 2147483647) : ¬ Int32.ofInt b = 0 ∧ ∃ r : Int, Int32.ofInt a - Int32.ofInt a / Int32.ofInt b * Int32.ofInt b = Int32.ofInt r ∧ 0 ≤ r ∧ r < b := by
  refine ⟨fun h => ?_, a % b, ?_, Int.emod_nonneg _ (by omega), Int.emod_lt_of_pos _ (by omega)⟩
  · have := congrArg Int32.toInt h
    rw [i32_of (by omega) hb2] at this
    have e : (0 : Int32).toInt = 0 := rfl
    omega
  · have hq0 : 0 ≤ a / b := Int.ediv_nonneg ha (by omega)
    have hq1 : a / b ≤ a := Int.ediv_le_self _ ha
    have e : Int32.ofInt a / Int32.ofInt b = Int32.ofInt (a / b) := by
      apply Int32.toInt_inj.mp
      rw [Int32.toInt_div, i32_of (by omega) ha2, i32_of (by omega) hb2, i32_of (by omega) (by omega), Int.tdiv_eq_ediv_of_nonneg ha]
      exact Int.bmod_eq_of_le (by omega) (by omega)
    rw [e, ← Int32.ofInt_mul, ← Int32.ofInt_sub]
    congr 1
    have := Int.mul_ediv_add_emod a b
    rw [Int.mul_comm] at this
    omega
theorem i32_lt {a b : Int} (ha : -2147483648 ≤ a) (ha2 : a ≤ 2147483647) (hb : -2147483648 ≤ b) (hb2 : b ≤ 2147483647) : Int32.ofInt a < Int32.ofInt b ↔ a < b := by
  rw [Int32.lt_iff_toInt_lt, i32_of ha ha2, i32_of hb hb2]
theorem i32_eq {a b : Int} (ha : -2147483648 ≤ a) (ha2 : a ≤ 2147483647) (hb : -2147483648 ≤ b) (hb2 : b ≤ 2147483647) : Int32.ofInt a = Int32.ofInt b ↔ a = b := by
  rw [← Int32.toInt_inj, i32_of ha ha2, i32_of hb hb2]
theorem i32_clamp {a : Int} (ha : 0 ≤ a) (ha2 : a ≤ 2147483647) : (Int32.ofInt a).toNatClampNeg = a.toNat := by
  show (Int32.ofInt a).toInt.toNat = a.toNat
  rw [i32_of (by omega) ha2]
theorem i32_in {a : Int} {n : Nat} (ha : 0 ≤ a) (ha2 : a ≤ 2147483647) (hn : a < (n : Int)) : kinB (Int32.ofInt a) n = true := by
  unfold kinB
  rw [i32_clamp ha ha2]
  have e : ¬ Int32.ofInt a < 0 := by
    rw [Int32.lt_iff_toInt_lt, i32_of (by omega) ha2]
    have : (0 : Int32).toInt = 0 := rfl
    omega
  rw [decide_eq_false e]
  exact Nat.ble_eq.mpr (by omega)
theorem lev_k (ρ : Nat → Int) {f : LF} (h : f.2 = []) : lev ρ f = f.1 := by
  unfold lev
  rw [h]
  show f.1 + 0 = f.1
  omega
theorem nO (x : Nat) : Int32.ofInt (Int32.ofNat x).toInt = Int32.ofNat x := i32_to _
/-- conditions on known ints -/
theorem krg_int (rg : List (Int × Int)) (x : Int32) : krg rg (.inl (.int x)) = some (x.toInt, x.toInt) := rfl
theorem klt_int (rg : List (Int × Int)) (x y : Int32) : klt rg (.inl (.int x)) (.inl (.int y)) = some (decide (x < y)) := by
  unfold klt
  rw [krg_int, krg_int]
  show (bif decide (x.toInt < y.toInt) then some true else bif decide (y.toInt ≤ x.toInt) then some false else none) = _
  by_cases h : x.toInt < y.toInt
  · rw [decide_eq_true h, decide_eq_true (Int32.lt_iff_toInt_lt.mpr h)]
    rfl
  · rw [decide_eq_false h, decide_eq_false (fun q => h (Int32.lt_iff_toInt_lt.mp q)), decide_eq_true (by omega)]
    rfl
theorem keq_int (rg : List (Int × Int)) (x y : Int32) : keq rg (.inl (.int x)) (.inl (.int y)) = some (decide (x = y)) := by
  unfold keq
  rw [krg_int, krg_int]
  show (bif decide (x.toInt < y.toInt) || decide (y.toInt < x.toInt) then some false else bif decide (x.toInt = x.toInt) && (decide (y.toInt = y.toInt) && decide (x.toInt = y.toInt)) then some true else none) = _
  by_cases h : x = y
  · subst h
    rw [decide_eq_false (Int.lt_irrefl _), decide_eq_true (Eq.refl x.toInt), decide_eq_true (Eq.refl x)]
    rfl
  · have h2 : x.toInt ≠ y.toInt := fun q => h (Int32.toInt_inj.mp q)
    rw [decide_eq_false h]
    have : (decide (x.toInt < y.toInt) || decide (y.toInt < x.toInt)) = true := by
      rcases Int.lt_or_gt_of_ne h2 with q | q
      · rw [decide_eq_true q]; rfl
      · rw [decide_eq_true q, Bool.or_true]
    rw [this]
    rfl
/-- what a condition of two ints comes to -/
theorem kcond_int (rg : List (Int × Int)) (cnd : Jvm.ClassFile.Cond) {a b : Int} (ha : -2147483648 ≤ a) (ha2 : a ≤ 2147483647) (hb : -2147483648 ≤ b) (hb2 : b ≤ 2147483647) : (kcond rg cnd (.inl (.int (Int32.ofInt a))) (.inl (.int (Int32.ofInt b))) = some true ∧ aHo (acT cnd) (a - b)) ∨ (kcond rg cnd (.inl (.int (Int32.ofInt a))) (.inl (.int (Int32.ofInt b))) = some false ∧ aHo (acF cnd) (a - b)) := by
  have e1 := i32_eq ha ha2 hb hb2
  have e2 := i32_lt ha ha2 hb hb2
  have e3 := i32_lt hb hb2 ha ha2
  cases cnd <;> unfold kcond <;> simp only [klt_int, keq_int, Option.map_some]
  · by_cases h : a = b
    · exact Or.inl ⟨by rw [decide_eq_true (e1.mpr h)], by show a - b = 0; omega⟩
    · exact Or.inr ⟨by rw [decide_eq_false (fun q => h (e1.mp q))], by show a - b ≠ 0; omega⟩
  · by_cases h : a = b
    · exact Or.inr ⟨by rw [decide_eq_true (e1.mpr h)]; rfl, by show a - b = 0; omega⟩
    · exact Or.inl ⟨by rw [decide_eq_false (fun q => h (e1.mp q))]; rfl, by show a - b ≠ 0; omega⟩
  · by_cases h : a < b
    · exact Or.inl ⟨by rw [decide_eq_true (e2.mpr h)], by show a - b < 0; omega⟩
    · exact Or.inr ⟨by rw [decide_eq_false (fun q => h (e2.mp q))], by show 0 ≤ a - b; omega⟩
  · by_cases h : a < b
    · exact Or.inr ⟨by rw [decide_eq_true (e2.mpr h)]; rfl, by show a - b < 0; omega⟩
    · exact Or.inl ⟨by rw [decide_eq_false (fun q => h (e2.mp q))]; rfl, by show 0 ≤ a - b; omega⟩
  · by_cases h : b < a
    · exact Or.inl ⟨by rw [decide_eq_true (e3.mpr h)], by show 0 < a - b; omega⟩
    · exact Or.inr ⟨by rw [decide_eq_false (fun q => h (e3.mp q))], by show a - b ≤ 0; omega⟩
  · by_cases h : b < a
    · exact Or.inr ⟨by rw [decide_eq_true (e3.mpr h)]; rfl, by show 0 < a - b; omega⟩
    · exact Or.inl ⟨by rw [decide_eq_false (fun q => h (e3.mp q))]; rfl, by show a - b ≤ 0; omega⟩
theorem kcond_any (rg : List (Int × Int)) (cnd : Jvm.ClassFile.Cond) (x y : Int32) : ∃ b, kcond rg cnd (.inl (.int x)) (.inl (.int y)) = some b := by
  cases cnd <;> unfold kcond <;> simp only [klt_int, keq_int, Option.map_some] <;> exact ⟨_, rfl⟩
