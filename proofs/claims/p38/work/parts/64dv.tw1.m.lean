section
/-! Sentences: forms as bits. -/
set_option maxRecDepth 16384 in
theorem ofi_jand (x y : Int) : (Int32.ofInt (jand x y)).toBitVec = (Int32.ofInt x).toBitVec &&& (Int32.ofInt y).toBitVec := by
  rw [jand_eq]
  unfold o32
  rw [Int32.ofInt_toInt, Int32.toBitVec_and]
set_option maxRecDepth 16384 in
theorem ofi_jor (x y : Int) : (Int32.ofInt (jor x y)).toBitVec = (Int32.ofInt x).toBitVec ||| (Int32.ofInt y).toBitVec := by
  rw [jor_eq]
  unfold o32
  rw [Int32.ofInt_toInt, Int32.toBitVec_or]
set_option maxRecDepth 16384 in
theorem ofi_jxor (x y : Int) : (Int32.ofInt (jxor x y)).toBitVec = (Int32.ofInt x).toBitVec ^^^ (Int32.ofInt y).toBitVec := by
  rw [jxor_eq]
  unfold o32
  rw [Int32.ofInt_toInt, Int32.toBitVec_xor]
set_option maxRecDepth 16384 in
theorem sbt (x : Int) {j : Int} (j0 : 0 ≤ j) (j8 : j < 8) : jand x (jshl 1 j) = 0 ↔ (Int32.ofInt x).toBitVec.getLsbD j.toNat = false := by
  obtain ⟨k, rfl⟩ : ∃ k : Nat, j = (k : Int) := ⟨j.toNat, by omega⟩
  have hk : k < 8 := by omega
  have key : ∀ k : Nat, k < 8 → (Int32.ofInt (o32 (fun a b => a <<< (b &&& 31)) 1 (k : Int))).toBitVec = BitVec.twoPow 32 k := by decide
  rw [jand_eq, jshl_eq]
  unfold o32 at key ⊢
  rw [i32_z, Int32.toBitVec_and, key k hk, BitVec.and_twoPow, Int.toNat_natCast]
  cases h : (Int32.ofInt x).toBitVec.getLsbD k with
  | true =>
    simp only [if_true]
    constructor
    · intro q
      exfalso
      have key2 : ∀ k : Nat, k < 8 → ¬ BitVec.twoPow 32 k = 0#32 := by decide
      exact key2 k hk q
    · intro q; cases q
  | false => simp
set_option maxRecDepth 16384 in
theorem sbt_and (x y : Int) {j : Int} (j0 : 0 ≤ j) (j8 : j < 8) : jand (jand x y) (jshl 1 j) = 0 ↔ jand x (jshl 1 j) = 0 ∨ jand y (jshl 1 j) = 0 := by
  rw [sbt _ j0 j8, sbt _ j0 j8, sbt _ j0 j8, ofi_jand, BitVec.getLsbD_and]
  cases (Int32.ofInt x).toBitVec.getLsbD j.toNat <;> cases (Int32.ofInt y).toBitVec.getLsbD j.toNat <;> simp
set_option maxRecDepth 16384 in
theorem sbt_not (x : Int) {j : Int} (j0 : 0 ≤ j) (j8 : j < 8) : jand (jxor x (-1)) (jshl 1 j) = 0 ↔ ¬ jand x (jshl 1 j) = 0 := by
  rw [sbt _ j0 j8, sbt _ j0 j8, ofi_jxor, BitVec.getLsbD_xor]
  have e : (Int32.ofInt (-1)).toBitVec = BitVec.allOnes 32 := by decide
  rw [e, BitVec.getLsbD_allOnes]
  have : decide (j.toNat < 32) = true := decide_eq_true (by omega)
  rw [this]
  cases (Int32.ofInt x).toBitVec.getLsbD j.toNat <;> simp
set_option maxRecDepth 16384 in
theorem sbt_all {n j : Int} (n0 : 0 ≤ n) (n8 : n ≤ 8) (j0 : 0 ≤ j) (j8 : j < 8) : jand (s32 (jshl 1 n - 1)) (jshl 1 j) = 0 ↔ ¬ j < n := by
  have key : ∀ n : Nat, n < 9 → ∀ j : Nat, j < 8 → (o32 (fun a b => a &&& b) (Int32.ofInt (o32 (fun a b => a <<< (b &&& 31)) 1 (n : Int) - 1)).toInt (o32 (fun a b => a <<< (b &&& 31)) 1 (j : Int)) = 0 ↔ ¬ (j : Int) < (n : Int)) := by decide
  obtain ⟨a, rfl⟩ : ∃ k : Nat, n = (k : Int) := ⟨n.toNat, by omega⟩
  obtain ⟨b, rfl⟩ : ∃ k : Nat, j = (k : Int) := ⟨j.toNat, by omega⟩
  rw [jand_eq, s32_eq, jshl_eq, jshl_eq]
  exact key a (by omega) b (by omega)
set_option maxRecDepth 16384 in
theorem all_r {n : Int} (n0 : 0 ≤ n) (n8 : n ≤ 8) : 0 ≤ s32 (jshl 1 n - 1) ∧ s32 (jshl 1 n - 1) < 256 := by
  have key : ∀ n : Nat, n < 9 → 0 ≤ (Int32.ofInt (o32 (fun a b => a <<< (b &&& 31)) 1 (n : Int) - 1)).toInt ∧ (Int32.ofInt (o32 (fun a b => a <<< (b &&& 31)) 1 (n : Int) - 1)).toInt < 256 := by decide
  obtain ⟨a, rfl⟩ : ∃ k : Nat, n = (k : Int) := ⟨n.toNat, by omega⟩
  rw [s32_eq, jshl_eq]
  exact key a (by omega)
set_option maxRecDepth 16384 in
theorem i256 {x : Int} (x0 : 0 ≤ x) (x8 : x < 256) : (Int32.ofInt x).toBitVec.toNat = x.toNat := by
  obtain ⟨k, rfl⟩ : ∃ k : Nat, x = (k : Int) := ⟨x.toNat, by omega⟩
  have key : ∀ k : Nat, k < 256 → (Int32.ofInt (k : Int)).toBitVec.toNat = k := by decide +kernel
  rw [key k (by omega)]
  omega
set_option maxRecDepth 16384 in
theorem r256 {b : BitVec 32} (h : b.toNat < 256) : 0 ≤ (Int32.ofBitVec b).toInt ∧ (Int32.ofBitVec b).toInt < 256 := by
  have e : (Int32.ofBitVec b).toInt = b.toInt := rfl
  rw [e, BitVec.toInt_eq_toNat_of_lt (by omega)]
  omega
set_option maxRecDepth 16384 in
theorem and_r {x y : Int} (x0 : 0 ≤ x) (x8 : x < 256) : 0 ≤ jand x y ∧ jand x y < 256 := by
  have h : (Int32.ofInt (jand x y)).toBitVec.toNat < 256 := by
    rw [ofi_jand, BitVec.toNat_and]
    have := Nat.and_le_left (n := (Int32.ofInt x).toBitVec.toNat) (m := (Int32.ofInt y).toBitVec.toNat)
    rw [i256 x0 x8] at this ⊢
    omega
  have r := r256 h
  have e : Int32.ofBitVec (Int32.ofInt (jand x y)).toBitVec = Int32.ofInt (jand x y) := rfl
  rw [e, ← s32_eq, s32_jand] at r
  exact r
set_option maxRecDepth 16384 in
theorem or_r {x y : Int} (x0 : 0 ≤ x) (x8 : x < 256) (y0 : 0 ≤ y) (y8 : y < 256) : 0 ≤ jor x y ∧ jor x y < 256 := by
  have h : (Int32.ofInt (jor x y)).toBitVec.toNat < 256 := by
    rw [ofi_jor, BitVec.toNat_or, i256 x0 x8, i256 y0 y8]
    exact Nat.or_lt_two_pow (n := 8) (by omega) (by omega)
  have r := r256 h
  have e : Int32.ofBitVec (Int32.ofInt (jor x y)).toBitVec = Int32.ofInt (jor x y) := rfl
  rw [e, ← s32_eq, s32_jor] at r
  exact r
set_option maxRecDepth 16384 in
/-- the forms of which it is so -/
def BP (x n : Int) (P : Int → Prop) : Prop := (0 ≤ x ∧ x < 256) ∧ ∀ j, 0 ≤ j → j < 8 → (jand x (jshl 1 j) = 0 ↔ ¬ (j < n ∧ P j))
set_option maxRecDepth 16384 in
theorem BP_and {x y n : Int} {P Q : Int → Prop} (hx : BP x n P) (hy : BP y n Q) : BP (jand x y) n (fun j => P j ∧ Q j) :=
  ⟨and_r hx.1.1 hx.1.2, fun j j0 j8 => by
    have a := hx.2 j j0 j8
    have b := hy.2 j j0 j8
    rw [sbt_and x y j0 j8, a, b]
    constructor
    · rintro (q | q) r
      · exact q ⟨r.1, r.2.1⟩
      · exact q ⟨r.1, r.2.2⟩
    · intro q
      by_cases hp : j < n ∧ P j
      · exact Or.inr fun r => q ⟨r.1, hp.2, r.2⟩
      · exact Or.inl hp⟩
set_option maxRecDepth 16384 in
theorem BP_or {x y n : Int} {P Q : Int → Prop} (hx : BP x n P) (hy : BP y n Q) : BP (jor x y) n (fun j => P j ∨ Q j) :=
  ⟨or_r hx.1.1 hx.1.2 hy.1.1 hy.1.2, fun j j0 j8 => by
    rw [jor_jand0, hx.2 j j0 j8, hy.2 j j0 j8]
    constructor
    · rintro ⟨q1, q2⟩ ⟨r, z | z⟩
      · exact q1 ⟨r, z⟩
      · exact q2 ⟨r, z⟩
    · intro q
      exact ⟨fun r => q ⟨r.1, Or.inl r.2⟩, fun r => q ⟨r.1, Or.inr r.2⟩⟩⟩
set_option maxRecDepth 16384 in
theorem BP_not {x n : Int} {P : Int → Prop} (n0 : 0 ≤ n) (n8 : n ≤ 8) (hx : BP x n P) : BP (jand (s32 (jshl 1 n - 1)) (jxor x (-1))) n (fun j => ¬ P j) :=
  ⟨and_r (all_r n0 n8).1 (all_r n0 n8).2, fun j j0 j8 => by
    rw [sbt_and _ _ j0 j8, sbt_all n0 n8 j0 j8, sbt_not x j0 j8, hx.2 j j0 j8]
    constructor
    · rintro (q | q) ⟨r1, r2⟩
      · exact q r1
      · exact q fun z => r2 z.2
    · intro q
      by_cases hj : j < n
      · exact Or.inr fun z => q ⟨hj, fun hp => z ⟨hj, hp⟩⟩
      · exact Or.inl hj⟩
end
section
/-! Sentences: one ONE of the model's, held of a form. -/
set_option maxRecDepth 16384 in
noncomputable def lv (b : MM) (p W x y r : Int) : Int := if 69 ≤ W ∧ W ≤ 72 then (if b 150 (182 + p) = W - 69 then 1 else 0) else if W = 73 then f206 b 148 p else if W = 74 then (if b 150 (76 + p) = x then 1 else 0) else if W = 75 then (if f204 b 148 p = x then 1 else 0) else if W = 76 then f200 b 148 x p else f87 b (if W = 77 then f236 b 148 p else if W = 78 then b 150 (190 + p) else p) r y
set_option maxRecDepth 16384 in
theorem h202 {X : KO} {ρ : Nat → Int32} {b b' : MM} {rl : List (Nat × Int)} {n p : Int} (h14 : b 148 14 = 150) (n0 : 0 ≤ n) (n1 : n < 60) (p0 : 0 ≤ p) (p1 : p < 8) (w0 : 0 ≤ b 150 (216 + 4 * n)) (w1 : b 150 (216 + 4 * n) ≤ 79) (h : Run X ρ 202 [(1, 148), (1, n), (1, p)] b rl b') : (b 150 (216 + 4 * n) = 1 ∧ ∃ v1, Run X ρ 202 [(1, 148), (1, b 150 (216 + 4 * n + 1)), (1, p)] b [(1, v1)] b' ∧ rl = [(1, if v1 = 0 then 1 else 0)]) ∨ (b 150 (216 + 4 * n) = 2 ∧ ∃ v1 b1, Run X ρ 202 [(1, 148), (1, b 150 (216 + 4 * n + 1)), (1, p)] b [(1, v1)] b1 ∧ ((v1 = 0 ∧ rl = [(1, 0)] ∧ b' = b1) ∨ (v1 ≠ 0 ∧ ∃ v2, Run X ρ 202 [(1, 148), (1, b 150 (216 + 4 * n + 2)), (1, p)] b1 [(1, v2)] b' ∧ rl = [(1, if v2 = 0 then 0 else 1)]))) ∨ (b 150 (216 + 4 * n) = 3 ∧ ∃ v1 b1, Run X ρ 202 [(1, 148), (1, b 150 (216 + 4 * n + 1)), (1, p)] b [(1, v1)] b1 ∧ ((v1 ≠ 0 ∧ rl = [(1, 1)] ∧ b' = b1) ∨ (v1 = 0 ∧ ∃ v2, Run X ρ 202 [(1, 148), (1, b 150 (216 + 4 * n + 2)), (1, p)] b1 [(1, v2)] b' ∧ rl = [(1, if v2 = 0 then 0 else 1)]))) ∨ (b 150 (216 + 4 * n) ≠ 1 ∧ b 150 (216 + 4 * n) ≠ 2 ∧ b 150 (216 + 4 * n) ≠ 3 ∧ rl = [(1, lv b p (b 150 (216 + 4 * n)) (b 150 (216 + 4 * n + 1)) (b 150 (216 + 4 * n + 2)) (b 150 (216 + 4 * n + 3)))] ∧ b' = b) := by
  obtain ⟨N, ig, h⟩ := Run_CR h rfl
  have h : MR X ρ 8 0 0 qP202 N 0 [148, n, p, 0, 0, 0, 0, 0] [] b (ig, rl, b') := h
  have A := s202_0 h
  clear h
  have e0 : s32 (216 + s32 (4 * n)) = 216 + 4 * n := by rw [s32_id (z := 4 * n) (by omega) (by omega), s32_id (by omega) (by omega)]
  have e1 : s32 (216 + 4 * n + 1) = 216 + 4 * n + 1 := s32_id (by omega) (by omega)
  have e2 : s32 (216 + 4 * n + 2) = 216 + 4 * n + 2 := s32_id (by omega) (by omega)
  have e3 : s32 (216 + 4 * n + 3) = 216 + 4 * n + 3 := s32_id (by omega) (by omega)
  have e4 : s32 (182 + p) = 182 + p := s32_id (by omega) (by omega)
  have e5 : s32 (190 + p) = 190 + p := s32_id (by omega) (by omega)
  have e6 : s32 (76 + p) = 76 + p := s32_id (by omega) (by omega)
  simp only [h14, e0, e1, e2, e3, e4, e5, e6] at A
  have e7 : s32 (b 150 (216 + 4 * n) - 50) = b 150 (216 + 4 * n) - 50 := s32_id (by omega) (by omega)
  simp only [e7] at A
  have e8 : s32 (b 150 (216 + 4 * n) - 50 - 19) = b 150 (216 + 4 * n) - 69 := by rw [s32_id (by omega) (by omega)]; omega
  simp only [e8] at A
  generalize b 150 (216 + 4 * n) = W at *
  generalize b 150 (216 + 4 * n + 1) = x at *
  generalize b 150 (216 + 4 * n + 2) = y at *
  generalize b 150 (216 + 4 * n + 3) = r at *
  rcases A with ⟨c1, v, m5, hr, -, A⟩ | ⟨c1, A⟩
  · refine Or.inl ⟨c1, v, ?_⟩
    rcases A with ⟨d, A⟩ | ⟨d, A⟩
    · cases A; rw [if_pos d]; exact ⟨hr, rfl⟩
    · cases A; rw [if_neg d]; exact ⟨hr, rfl⟩
  rcases A with ⟨c2, v, m5, hr, -, A⟩ | ⟨c2, A⟩
  · refine Or.inr (Or.inl ⟨c2, v, m5, hr, ?_⟩)
    rcases A with ⟨d, A⟩ | ⟨d, v2, m6, hr2, -, A⟩
    · cases A; exact Or.inl ⟨d, rfl, rfl⟩
    · refine Or.inr ⟨d, v2, ?_⟩
      rcases A with ⟨d2, A⟩ | ⟨d2, A⟩
      · cases A; rw [if_pos d2]; exact ⟨hr2, rfl⟩
      · cases A; rw [if_neg d2]; exact ⟨hr2, rfl⟩
  rcases A with ⟨c3, v, m5, hr, -, A⟩ | ⟨c3, A⟩
  · refine Or.inr (Or.inr (Or.inl ⟨c3, v, m5, hr, ?_⟩))
    rcases A with ⟨d, v2, m6, hr2, -, A⟩ | ⟨d, A⟩
    · refine Or.inr ⟨d, v2, ?_⟩
      rcases A with ⟨d2, A⟩ | ⟨d2, A⟩
      · cases A; rw [if_pos d2]; exact ⟨hr2, rfl⟩
      · cases A; rw [if_neg d2]; exact ⟨hr2, rfl⟩
    · cases A; exact Or.inl ⟨d, rfl, rfl⟩
  refine Or.inr (Or.inr (Or.inr ⟨c1, c2, c3, ?_⟩))
  have fin : ∀ v : Int, v = lv b p W x y r → (ig, rl, b') = ((.ireturn, [(1, v)], b) : Instr × List (Nat × Int) × MM) → rl = [(1, lv b p W x y r)] ∧ b' = b := fun v hv e => by
    cases e; rw [hv]; exact ⟨rfl, rfl⟩
  generalize (rl = [(1, lv b p W x y r)] ∧ b' = b) = G at fin ⊢
  have hl : lv b p W x y r = (if 69 ≤ W ∧ W ≤ 72 then (if b 150 (182 + p) = W - 69 then 1 else 0) else if W = 73 then f206 b 148 p else if W = 74 then (if b 150 (76 + p) = x then 1 else 0) else if W = 75 then (if f204 b 148 p = x then 1 else 0) else if W = 76 then f200 b 148 x p else f87 b (if W = 77 then f236 b 148 p else if W = 78 then b 150 (190 + p) else p) r y) := rfl
  have st : (W = 69 ∨ W = 70 ∨ W = 71 ∨ W = 72) → (b 150 (182 + p) = W - 69 ∧ (ig, rl, b') = ((.ireturn, [(1, 1)], b) : Instr × List (Nat × Int) × MM)) ∨ (¬ b 150 (182 + p) = W - 69 ∧ (ig, rl, b') = ((.ireturn, [(1, 0)], b) : Instr × List (Nat × Int) × MM)) → G := fun hw A => by
    have hw : 69 ≤ W ∧ W ≤ 72 := by omega
    rcases A with ⟨d, A⟩ | ⟨d, A⟩
    · refine fin _ ?_ A; rw [hl, if_pos hw, if_pos d]
    · refine fin _ ?_ A; rw [hl, if_pos hw, if_neg d]
  rcases A with ⟨c, A⟩ | ⟨c69, A⟩
  · exact st (Or.inl c) A
  rcases A with ⟨c, A⟩ | ⟨c70, A⟩
  · exact st (Or.inr (Or.inl c)) A
  rcases A with ⟨c, A⟩ | ⟨c71, A⟩
  · exact st (Or.inr (Or.inr (Or.inl c))) A
  rcases A with ⟨c, A⟩ | ⟨c72, A⟩
  · exact st (Or.inr (Or.inr (Or.inr c))) A
  rcases A with ⟨c, A⟩ | ⟨c73, A⟩
  · refine fin _ ?_ A; rw [hl, if_neg (by omega), if_pos c]
  rcases A with ⟨c, A⟩ | ⟨c74, A⟩
  · rcases A with ⟨d, A⟩ | ⟨d, A⟩
    · refine fin _ ?_ A; rw [hl, if_neg (by omega), if_neg c73, if_pos c, if_pos d]
    · refine fin _ ?_ A; rw [hl, if_neg (by omega), if_neg c73, if_pos c, if_neg d]
  rcases A with ⟨c, A⟩ | ⟨c75, A⟩
  · rcases A with ⟨d, A⟩ | ⟨d, A⟩
    · refine fin _ ?_ A; rw [hl, if_neg (by omega), if_neg c73, if_neg c74, if_pos c, if_pos d]
    · refine fin _ ?_ A; rw [hl, if_neg (by omega), if_neg c73, if_neg c74, if_pos c, if_neg d]
  rcases A with ⟨c, A⟩ | ⟨c76, A⟩
  · refine fin _ ?_ A; rw [hl, if_neg (by omega), if_neg c73, if_neg c74, if_neg c75, if_pos c]
  have cm : ∀ v : Int, lv b p W x y r = f87 b v r y → ((r = 60 ∧ ((y ≤ v ∧ (ig, rl, b') = ((.ireturn, [(1, 0)], b) : Instr × List (Nat × Int) × MM)) ∨ (¬ y ≤ v ∧ (ig, rl, b') = ((.ireturn, [(1, 1)], b) : Instr × List (Nat × Int) × MM)))) ∨ (¬ r = 60 ∧ ((r = 61 ∧ ((v = y ∧ (ig, rl, b') = ((.ireturn, [(1, 1)], b) : Instr × List (Nat × Int) × MM)) ∨ (¬ v = y ∧ (ig, rl, b') = ((.ireturn, [(1, 0)], b) : Instr × List (Nat × Int) × MM)))) ∨ (¬ r = 61 ∧ ((v ≤ y ∧ (ig, rl, b') = ((.ireturn, [(1, 0)], b) : Instr × List (Nat × Int) × MM)) ∨ (¬ v ≤ y ∧ (ig, rl, b') = ((.ireturn, [(1, 1)], b) : Instr × List (Nat × Int) × MM))))))) → G := fun v hv A => by
    unfold f87 at hv
    rcases A with ⟨c, A⟩ | ⟨c, A⟩
    · rcases A with ⟨d, A⟩ | ⟨d, A⟩
      · refine fin _ ?_ A; rw [hv, if_pos c, if_pos d]
      · refine fin _ ?_ A; rw [hv, if_pos c, if_neg d]
    rcases A with ⟨c2, A⟩ | ⟨c2, A⟩
    · rcases A with ⟨d, A⟩ | ⟨d, A⟩
      · refine fin _ ?_ A; rw [hv, if_neg c, if_pos c2, if_pos d]
      · refine fin _ ?_ A; rw [hv, if_neg c, if_pos c2, if_neg d]
    · rcases A with ⟨d, A⟩ | ⟨d, A⟩
      · refine fin _ ?_ A; rw [hv, if_neg c, if_neg c2, if_pos d]
      · refine fin _ ?_ A; rw [hv, if_neg c, if_neg c2, if_neg d]
  have hb : ¬ (69 ≤ W ∧ W ≤ 72) := by omega
  rcases A with ⟨c, A⟩ | ⟨c77, A⟩
  · exact cm _ (by rw [hl, if_neg hb, if_neg c73, if_neg c74, if_neg c75, if_neg c76, if_pos (by omega)]) A
  rcases A with ⟨c, A⟩ | ⟨c78, A⟩
  · exact cm _ (by rw [hl, if_neg hb, if_neg c73, if_neg c74, if_neg c75, if_neg c76, if_neg (by omega), if_pos (by omega)]) A
  · exact cm _ (by rw [hl, if_neg hb, if_neg c73, if_neg c74, if_neg c75, if_neg c76, if_neg (by omega), if_neg (by omega)]) A
end
section
/-! Sentences: the class's code against the model's nodes. -/
set_option maxRecDepth 16384 in
def Leaf (k w v W x y r : Int) : Prop := (k = 3 ∧ 0 ≤ w ∧ w ≤ 3 ∧ W = 69 + w) ∨ (k = 4 ∧ W = 73) ∨ (k = 5 ∧ W = 74 ∧ x = w) ∨ (k = 6 ∧ W = 75 ∧ x = w) ∨ (k = 7 ∧ W = 76 ∧ x = w) ∨ (k = 8 ∧ W = 77 ∧ r = w ∧ y = v) ∨ (k = 9 ∧ W = 78 ∧ r = w ∧ y = v) ∨ (k = 10 ∧ W = 79 ∧ r = w ∧ y = v)
set_option maxRecDepth 16384 in
/-- the code from i to j says what the node n says; c leaves -/
def Rep (kd wh nu nd : Int → Int) (M : Int) : Nat → Int → Int → Int → Int → Prop
  | 0, _, _, _, _ => False
  | K + 1, i, j, n, c => (0 ≤ n ∧ n < M) ∧ ((j = i + 1 ∧ c = 1 ∧ Leaf (kd i) (wh i) (nu i) (nd (4 * n)) (nd (4 * n + 1)) (nd (4 * n + 2)) (nd (4 * n + 3))) ∨ (kd (j - 1) = 0 ∧ nd (4 * n) = 1 ∧ Rep kd wh nu nd M K i (j - 1) (nd (4 * n + 1)) c) ∨ (∃ m c1 c2, ((kd (j - 1) = 1 ∧ nd (4 * n) = 2) ∨ (kd (j - 1) = 2 ∧ nd (4 * n) = 3)) ∧ c = c1 + c2 ∧ Rep kd wh nu nd M K i m (nd (4 * n + 1)) c1 ∧ Rep kd wh nu nd M K m (j - 1) (nd (4 * n + 2)) c2))
set_option maxRecDepth 16384 in
/-- what a node says -/
def Tr (nd : Int → Int) (lf : Int → Prop) : Nat → Int → Prop
  | 0, _ => False
  | K + 1, n => if nd (4 * n) = 1 then ¬ Tr nd lf K (nd (4 * n + 1)) else if nd (4 * n) = 2 then Tr nd lf K (nd (4 * n + 1)) ∧ Tr nd lf K (nd (4 * n + 2)) else if nd (4 * n) = 3 then Tr nd lf K (nd (4 * n + 1)) ∨ Tr nd lf K (nd (4 * n + 2)) else lf n
set_option maxRecDepth 16384 in
theorem Rep_lt {kd wh nu nd : Int → Int} {M : Int} : ∀ (K : Nat) {i j n c : Int}, Rep kd wh nu nd M K i j n c → i < j ∧ 1 ≤ c
  | 0, _, _, _, _, h => h.elim
  | K + 1, i, j, n, c, h => by
    rcases h.2 with ⟨h1, h2, -⟩ | ⟨-, -, h⟩ | ⟨m, c1, c2, -, h1, h2, h3⟩
    · omega
    · have := Rep_lt K h; omega
    · have := Rep_lt K h2; have := Rep_lt K h3; omega
set_option maxRecDepth 16384 in
theorem Rep_up {kd wh nu nd : Int → Int} {M M' : Int} (hM : M ≤ M') : ∀ (K K' : Nat) {i j n c : Int}, K ≤ K' → Rep kd wh nu nd M K i j n c → Rep kd wh nu nd M' K' i j n c
  | 0, _, _, _, _, _, _, h => h.elim
  | K + 1, 0, _, _, _, _, hk, _ => by omega
  | K + 1, K' + 1, i, j, n, c, hk, h => by
    have hn := h.1.2
    refine ⟨⟨h.1.1, by omega⟩, ?_⟩
    rcases h.2 with h1 | ⟨h1, h2, h3⟩ | ⟨m, c1, c2, h1, h2, h3, h4⟩
    · exact Or.inl h1
    · exact Or.inr (Or.inl ⟨h1, h2, Rep_up hM K K' (by omega) h3⟩)
    · exact Or.inr (Or.inr ⟨m, c1, c2, h1, h2, Rep_up hM K K' (by omega) h3, Rep_up hM K K' (by omega) h4⟩)
set_option maxRecDepth 16384 in
theorem Rep_fr {kd wh nu nd kd' wh' nu' nd' : Int → Int} {M u : Int} : ∀ (K : Nat) {i j n c : Int}, u ≤ i → (∀ k, u ≤ k → k < j → kd' k = kd k ∧ wh' k = wh k ∧ nu' k = nu k) → (∀ k, 0 ≤ k → k < 4 * M → nd' k = nd k) → Rep kd wh nu nd M K i j n c → Rep kd' wh' nu' nd' M K i j n c
  | 0, _, _, _, _, _, _, _, h => h.elim
  | K + 1, i, j, n, c, hi, hk, hn, h => by
    have hl := (Rep_lt (K + 1) h).1
    obtain ⟨n0, n1⟩ := h.1
    refine ⟨h.1, ?_⟩
    rw [hn (4 * n) (by omega) (by omega), hn (4 * n + 1) (by omega) (by omega), hn (4 * n + 2) (by omega) (by omega), hn (4 * n + 3) (by omega) (by omega), (hk (j - 1) (by omega) (by omega)).1, (hk i hi hl).1, (hk i hi hl).2.1, (hk i hi hl).2.2]
    rcases h.2 with h1 | ⟨h1, h2, h3⟩ | ⟨m, c1, c2, h1, h2, h3, h4⟩
    · exact Or.inl h1
    · exact Or.inr (Or.inl ⟨h1, h2, Rep_fr K hi (fun k a b => hk k a (by omega)) hn h3⟩)
    · have l3 := (Rep_lt K h3).1
      have l4 := (Rep_lt K h4).1
      exact Or.inr (Or.inr ⟨m, c1, c2, h1, h2, Rep_fr K hi (fun k a b => hk k a (by omega)) hn h3, Rep_fr K (by omega) (fun k a b => hk k a (by omega)) hn h4⟩)
set_option maxRecDepth 16384 in
theorem lv_01 (b : MM) (p W x y r : Int) : lv b p W x y r = 0 ∨ lv b p W x y r = 1 := by
  have h1 : f206 b 148 p = 0 ∨ f206 b 148 p = 1 := by
    unfold f206
    split
    · exact Or.inr rfl
    · exact Or.inl rfl
  have h2 : f200 b 148 x p = 0 ∨ f200 b 148 x p = 1 := by
    unfold f200
    repeat' split
    all_goals first | exact Or.inl rfl | exact Or.inr rfl
  have h3 : ∀ v, f87 b v r y = 0 ∨ f87 b v r y = 1 := fun v => by
    unfold f87
    repeat' split
    all_goals first | exact Or.inl rfl | exact Or.inr rfl
  unfold lv
  split
  · split <;> simp
  split
  · exact h1
  split
  · split <;> simp
  split
  · split <;> simp
  split
  · exact h2
  · exact h3 _
set_option maxRecDepth 16384 in
/-- held of a form, by the model's -/
theorem holds_ok {X : KO} {ρ : Nat → Int32} {kd wh nu : Int → Int} {p M : Int} {b : MM} (hM : M ≤ 60) (h14 : b 148 14 = 150) (p0 : 0 ≤ p) (p1 : p < 8) : ∀ (K : Nat) {i j n c : Int} {b' : MM} {rl : List (Nat × Int)}, Rep kd wh nu (fun k => b 150 (216 + k)) M K i j n c → Run X ρ 202 [(1, 148), (1, n), (1, p)] b rl b' → b' = b ∧ ((rl = [(1, 1)] ∧ Tr (fun k => b 150 (216 + k)) (fun n => lv b p (b 150 (216 + 4 * n)) (b 150 (216 + 4 * n + 1)) (b 150 (216 + 4 * n + 2)) (b 150 (216 + 4 * n + 3)) = 1) K n) ∨ (rl = [(1, 0)] ∧ ¬ Tr (fun k => b 150 (216 + k)) (fun n => lv b p (b 150 (216 + 4 * n)) (b 150 (216 + 4 * n + 1)) (b 150 (216 + 4 * n + 2)) (b 150 (216 + 4 * n + 3)) = 1) K n))
  | 0, _, _, _, _, _, _, h, _ => h.elim
  | K + 1, i, j, n, c, b', rl, h, hr => by
    obtain ⟨⟨n0, n1⟩, h⟩ := h
    have q1 : 216 + (4 * n + 1) = 216 + 4 * n + 1 := by omega
    have q2 : 216 + (4 * n + 2) = 216 + 4 * n + 2 := by omega
    have q3 : 216 + (4 * n + 3) = 216 + 4 * n + 3 := by omega
    unfold Tr
    simp only [q1, q2, q3] at h ⊢
    have one : ∀ {v : Int} {P : Prop}, ([((1 : Nat), v)] = [(1, 1)] ∧ P) ∨ ([((1 : Nat), v)] = [(1, 0)] ∧ ¬ P) → (v = 1 ∧ P) ∨ (v = 0 ∧ ¬ P) := fun q => by
      rcases q with ⟨e, q⟩ | ⟨e, q⟩
      · injection e with e1 e2; injection e1 with e1 e2; exact Or.inl ⟨e2, q⟩
      · injection e with e1 e2; injection e1 with e1 e2; exact Or.inr ⟨e2, q⟩
    rcases h with ⟨-, -, h⟩ | ⟨-, hw, h⟩ | ⟨m, c1, c2, hw, -, ha, hb⟩
    · have w0 : 69 ≤ b 150 (216 + 4 * n) ∧ b 150 (216 + 4 * n) ≤ 79 := by unfold Leaf at h; omega
      rcases h202 h14 n0 (by omega) p0 p1 (by omega) w0.2 hr with ⟨e, _⟩ | ⟨e, _⟩ | ⟨e, _⟩ | ⟨-, -, -, e, e2⟩
      · omega
      · omega
      · omega
      · refine ⟨e2, ?_⟩
        rw [if_neg (by omega), if_neg (by omega), if_neg (by omega)]
        rcases lv_01 b p (b 150 (216 + 4 * n)) (b 150 (216 + 4 * n + 1)) (b 150 (216 + 4 * n + 2)) (b 150 (216 + 4 * n + 3)) with z | z
        · rw [z] at e ⊢; exact Or.inr ⟨e, by decide⟩
        · rw [z] at e ⊢; exact Or.inl ⟨e, rfl⟩
    · rcases h202 h14 n0 (by omega) p0 p1 (by omega) (by omega) hr with ⟨-, v, hv, e⟩ | ⟨e, _⟩ | ⟨e, _⟩ | ⟨e, _⟩
      · obtain ⟨e2, q⟩ := holds_ok hM h14 p0 p1 K h hv
        refine ⟨e2, ?_⟩
        rw [if_pos hw]
        rcases one q with ⟨z, q⟩ | ⟨z, q⟩
        · rw [z] at e; exact Or.inr ⟨e, fun t => t q⟩
        · rw [z] at e; exact Or.inl ⟨e, q⟩
      · omega
      · omega
      · omega
    · rcases hw with ⟨-, hw⟩ | ⟨-, hw⟩
      · rcases h202 h14 n0 (by omega) p0 p1 (by omega) (by omega) hr with ⟨e, _⟩ | ⟨-, v, b1, hv, e⟩ | ⟨e, _⟩ | ⟨-, e, _⟩
        · omega
        · obtain ⟨e2, q⟩ := holds_ok hM h14 p0 p1 K ha hv
          subst e2
          rw [if_neg (by omega), if_pos hw]
          rcases one q with ⟨z, q⟩ | ⟨z, q⟩
          · rcases e with ⟨e, _⟩ | ⟨-, v2, hv2, e⟩
            · omega
            · obtain ⟨e3, q2⟩ := holds_ok hM h14 p0 p1 K hb hv2
              refine ⟨e3, ?_⟩
              rcases one q2 with ⟨z2, q2⟩ | ⟨z2, q2⟩
              · rw [z2] at e; exact Or.inl ⟨e, q, q2⟩
              · rw [z2] at e; exact Or.inr ⟨e, fun t => q2 t.2⟩
          · rcases e with ⟨-, e, e3⟩ | ⟨e, _⟩
            · exact ⟨e3, Or.inr ⟨e, fun t => q t.1⟩⟩
            · omega
        · omega
        · omega
      · rcases h202 h14 n0 (by omega) p0 p1 (by omega) (by omega) hr with ⟨e, _⟩ | ⟨e, _⟩ | ⟨-, v, b1, hv, e⟩ | ⟨-, -, e, _⟩
        · omega
        · omega
        · obtain ⟨e2, q⟩ := holds_ok hM h14 p0 p1 K ha hv
          subst e2
          rw [if_neg (by omega), if_neg (by omega), if_pos hw]
          rcases one q with ⟨z, q⟩ | ⟨z, q⟩
          · rcases e with ⟨-, e, e3⟩ | ⟨e, _⟩
            · exact ⟨e3, Or.inl ⟨e, Or.inl q⟩⟩
            · omega
          · rcases e with ⟨e, _⟩ | ⟨-, v2, hv2, e⟩
            · omega
            · obtain ⟨e3, q2⟩ := holds_ok hM h14 p0 p1 K hb hv2
              refine ⟨e3, ?_⟩
              rcases one q2 with ⟨z2, q2⟩ | ⟨z2, q2⟩
              · rw [z2] at e; exact Or.inl ⟨e, Or.inr q2⟩
              · rw [z2] at e; exact Or.inr ⟨e, fun t => t.elim q q2⟩
        · omega
end
section
/-! Sentences: one ONE of the class's, held of a form. -/
set_option maxRecDepth 16384 in
theorem q134 {a b : MM} {s : Int} (h : Sx a b s) {f : Int} (f0 : 0 ≤ f) (f1 : f < a 3 7) : f134 a s f = f236 b 148 f := by
  have key := Lp_sim (f := K134_4 a s f 0 0) (f' := K236_4 b 148 f 0 0) (P := fun x y => x = y ∧ (0 ≤ x.1 ∧ x.1 ≤ x.2) ∧ 0 ≤ x.2 ∧ x.2 ≤ 3) (Q := fun x y => x.2.2.1 = y.2.2.1) (fun x => (3 - x.2).toNat) (by
    rintro ⟨n, k⟩ y ⟨rfl, ⟨n0, n1⟩, k0, k3⟩
    dsimp only at n0 n1 k0 k3
    show (∃ t t', S134_4 a s f n k = .inl t ∧ S236_4 b 148 f n k = .inl t' ∧ _) ∨ (∃ t t', S134_4 a s f n k = .inr t ∧ S236_4 b 148 f n k = .inr t' ∧ _)
    unfold S134_4 S236_4
    by_cases c : 3 ≤ k
    · rw [if_pos c, if_pos c]
      exact Or.inr ⟨_, _, rfl, rfl, rfl⟩
    · rw [if_neg c, if_neg c]
      obtain ⟨q1, q2⟩ := q142 h f0 f1 k0 (by omega)
      rw [q1, q2]
      have e1 : s32 (k + 1) = k + 1 := s32_id (by omega) (by omega)
      have e2 : s32 (n + 1) = n + 1 := s32_id (by omega) (by omega)
      rw [e1, e2]
      by_cases d : a (s + 6) (3 * f + k) = -1
      · rw [if_pos d]
        exact Or.inl ⟨_, _, rfl, rfl, ⟨rfl, ⟨n0, by dsimp only; omega⟩, by dsimp only; omega, by dsimp only; omega⟩, by dsimp only; omega⟩
      · rw [if_neg d]
        exact Or.inl ⟨_, _, rfl, rfl, ⟨rfl, ⟨by dsimp only; omega, by dsimp only; omega⟩, by dsimp only; omega, by dsimp only; omega⟩, by dsimp only; omega⟩) (0, 0) (0, 0) ⟨rfl, ⟨by decide, by decide⟩, by decide, by decide⟩
  unfold f134 f236 L134_4 L236_4
  exact key
set_option maxRecDepth 16384 in
/-- a sentence's places -/
def LSx (a : MM) (s : Int) : Prop := LSe a s ∧ a s 3 = s + 4 ∧ a (s + 1) (-1) = 40 ∧ a (s + 4) (-1) = 20
set_option maxRecDepth 16384 in
theorem q94 {a b : MM} {s i f W x y r : Int} (h : Sx a b 15) (hl : LSx a s) (hs : Sl s) (i0 : 0 ≤ i) (i1 : i < 40) (f0 : 0 ≤ f) (f1 : f < a 3 7) (hL : Leaf (a (s + 1) i) (a (s + 2) i) (a (s + 3) i) W x y r) : f94 a s 15 f i = lv b f W x y r := by
  obtain ⟨⟨l0, l1, l2⟩, -, l40, -⟩ := hl
  have f8 := h.f.2.2
  obtain ⟨a1, a2⟩ := q127 h f0 f1
  have a3 := q128 h f0 f1
  obtain ⟨a4, a5⟩ := q66 h f0 f1
  have a6 := q126 h (a (s + 2) i) f0 f1
  have a7 := q134 h f0 f1
  have a8 := q114 h f0 f1
  have a9 : a 15 0 = 3 := h.1.2.2.1
  have e1 : s32 (182 + f) = 182 + f := s32_id (by omega) (by omega)
  have e2 : s32 (76 + f) = 76 + f := s32_id (by omega) (by omega)
  have e3 : s32 (190 + f) = 190 + f := s32_id (by omega) (by omega)
  rw [e1] at a2; rw [e2] at a5; rw [e3] at a8
  have hs' := hs
  unfold Sl at hs'
  have cm : ∀ v w z, f87 a v w z = f87 b v w z := fun _ _ _ => rfl
  have e40 : (if a s 0 = 1000050 then (30 : Int) else s32 (a (a s 0) (-1))) = 40 := by
    rw [l0, if_neg (by omega), l40]; exact s32_id (by decide) (by decide)
  unfold f94 lv
  rw [e40, if_neg (by omega), if_pos i1, l0, l1, l2, a9]
  unfold f206
  rcases hL with ⟨k, w0, w1, e⟩ | ⟨k, e⟩ | ⟨k, e, e'⟩ | ⟨k, e, e'⟩ | ⟨k, e, e'⟩ | ⟨k, e, e', e''⟩ | ⟨k, e, e', e''⟩ | ⟨k, e, e', e''⟩
  · rw [k, if_pos (show (3 : Int) = 3 from rfl), if_pos (show 69 ≤ W ∧ W ≤ 72 by omega), a1, a2]
    have : W - 69 = a (s + 2) i := by omega
    rw [this]
  · rw [k, if_neg (show ¬ (4 : Int) = 3 by decide), if_pos (show (4 : Int) = 4 from rfl), if_neg (show ¬ (69 ≤ W ∧ W ≤ 72) by omega), if_pos (show W = 73 by omega), a3]
  · rw [k, if_neg (show ¬ (5 : Int) = 3 by decide), if_neg (show ¬ (5 : Int) = 4 by decide), if_pos (show (5 : Int) = 5 from rfl), if_neg (show ¬ (69 ≤ W ∧ W ≤ 72) by omega), if_neg (show ¬ (W = 73) by omega), if_pos (show W = 74 by omega), a4, a5, e']
  · rw [k, if_neg (show ¬ (6 : Int) = 3 by decide), if_neg (show ¬ (6 : Int) = 4 by decide), if_neg (show ¬ (6 : Int) = 5 by decide), if_pos (show (6 : Int) = 6 from rfl), if_neg (show ¬ (69 ≤ W ∧ W ≤ 72) by omega), if_neg (show ¬ (W = 73) by omega), if_neg (show ¬ (W = 74) by omega), if_pos (show W = 75 by omega), a3, e']
  · rw [k, if_neg (show ¬ (7 : Int) = 3 by decide), if_neg (show ¬ (7 : Int) = 4 by decide), if_neg (show ¬ (7 : Int) = 5 by decide), if_neg (show ¬ (7 : Int) = 6 by decide), if_pos (show (7 : Int) = 7 from rfl), if_neg (show ¬ (69 ≤ W ∧ W ≤ 72) by omega), if_neg (show ¬ (W = 73) by omega), if_neg (show ¬ (W = 74) by omega), if_neg (show ¬ (W = 75) by omega), if_pos (show W = 76 by omega), e', a6]
  · rw [k, if_neg (show ¬ (8 : Int) = 3 by decide), if_neg (show ¬ (8 : Int) = 4 by decide), if_neg (show ¬ (8 : Int) = 5 by decide), if_neg (show ¬ (8 : Int) = 6 by decide), if_neg (show ¬ (8 : Int) = 7 by decide), if_pos (show (8 : Int) = 8 from rfl), if_neg (show ¬ (69 ≤ W ∧ W ≤ 72) by omega), if_neg (show ¬ (W = 73) by omega), if_neg (show ¬ (W = 74) by omega), if_neg (show ¬ (W = 75) by omega), if_neg (show ¬ (W = 76) by omega), if_pos (show W = 77 by omega), e', e'', a7, cm]
  · rw [k, if_neg (show ¬ (9 : Int) = 3 by decide), if_neg (show ¬ (9 : Int) = 4 by decide), if_neg (show ¬ (9 : Int) = 5 by decide), if_neg (show ¬ (9 : Int) = 6 by decide), if_neg (show ¬ (9 : Int) = 7 by decide), if_neg (show ¬ (9 : Int) = 8 by decide), if_pos (show (9 : Int) = 9 from rfl), if_neg (show ¬ (69 ≤ W ∧ W ≤ 72) by omega), if_neg (show ¬ (W = 73) by omega), if_neg (show ¬ (W = 74) by omega), if_neg (show ¬ (W = 75) by omega), if_neg (show ¬ (W = 76) by omega), if_neg (show ¬ (W = 77) by omega), if_pos (show W = 78 by omega), e', e'', a8, cm]
  · rw [k, if_neg (show ¬ (10 : Int) = 3 by decide), if_neg (show ¬ (10 : Int) = 4 by decide), if_neg (show ¬ (10 : Int) = 5 by decide), if_neg (show ¬ (10 : Int) = 6 by decide), if_neg (show ¬ (10 : Int) = 7 by decide), if_neg (show ¬ (10 : Int) = 8 by decide), if_neg (show ¬ (10 : Int) = 9 by decide), if_neg (show ¬ (69 ≤ W ∧ W ≤ 72) by omega), if_neg (show ¬ (W = 73) by omega), if_neg (show ¬ (W = 74) by omega), if_neg (show ¬ (W = 75) by omega), if_neg (show ¬ (W = 76) by omega), if_neg (show ¬ (W = 77) by omega), if_neg (show ¬ (W = 78) by omega), e', e'', cm]
set_option maxRecDepth 16384 in
/-- of which forms one ONE holds -/
theorem q91 {a b : MM} {s i W x y r : Int} (h : Sx a b 15) (hl : LSx a s) (hs : Sl s) (i0 : 0 ≤ i) (i1 : i < 40) (hL : Leaf (a (s + 1) i) (a (s + 2) i) (a (s + 3) i) W x y r) : BP (f91 a s 15 i) (a 3 7) (fun f => lv b f W x y r = 1) := by
  have a9 : a 15 0 = 3 := h.1.2.2.1
  obtain ⟨-, n0, n8⟩ := h.f
  have key := Lp_ind (f := K91_5 a s 15 i 0 0) (P := fun z => (0 ≤ z.2 ∧ z.2 ≤ a 3 7) ∧ (0 ≤ z.1 ∧ z.1 < 256) ∧ ∀ j, 0 ≤ j → j < 8 → (jand z.1 (jshl 1 j) = 0 ↔ ¬ (j < z.2 ∧ lv b j W x y r = 1))) (Q := fun z => BP z.2.2.1 (a 3 7) (fun f => lv b f W x y r = 1)) (fun z => (a 3 7 - z.2).toNat) (by
    rintro ⟨z, f⟩ ⟨⟨f0, f1⟩, zr, hz⟩
    dsimp only at f0 f1 zr hz
    show (∃ t, S91_5 a s 15 i z f = .inl t ∧ _) ∨ (∃ t, S91_5 a s 15 i z f = .inr t ∧ _)
    unfold S91_5
    rw [a9]
    by_cases c : a 3 7 ≤ f
    · rw [if_pos c]
      have e : f = a 3 7 := by omega
      subst e
      exact Or.inr ⟨_, rfl, zr, hz⟩
    · rw [if_neg c, q94 h hl hs i0 i1 f0 (by omega) hL]
      have e1 : s32 (f + 1) = f + 1 := s32_id (by omega) (by omega)
      rw [e1]
      by_cases d : lv b f W x y r = 0
      · rw [if_pos d]
        refine Or.inl ⟨_, rfl, ⟨⟨by dsimp only; omega, by dsimp only; omega⟩, zr, fun j j0 j8 => ?_⟩, by dsimp only; omega⟩
        dsimp only
        rw [hz j j0 j8]
        constructor
        · rintro q ⟨q1, q2⟩
          by_cases jf : j = f
          · rw [jf, d] at q2; exact absurd q2 (by decide)
          · exact q ⟨by omega, q2⟩
        · rintro q ⟨q1, q2⟩; exact q ⟨by omega, q2⟩
      · rw [if_neg d]
        have d1 : lv b f W x y r = 1 := (lv_01 b f W x y r).resolve_left d
        refine Or.inl ⟨_, rfl, ⟨⟨by dsimp only; omega, by dsimp only; omega⟩, or256 zr.1 zr.2 f0 (by omega), fun j j0 j8 => ?_⟩, by dsimp only; omega⟩
        dsimp only
        rw [jor_jand0, hz j j0 j8, shl2 f0 (by omega) j0 j8]
        constructor
        · rintro ⟨q1, q2⟩ ⟨q3, q4⟩
          exact q1 ⟨by omega, q4⟩
        · intro q
          refine ⟨fun q3 => q ⟨by omega, q3.2⟩, fun e => q ⟨by omega, ?_⟩⟩
          rw [← e]; exact d1) (0, 0) ⟨⟨by dsimp only; omega, n0⟩, ⟨by decide, by decide⟩, fun j j0 j8 => ?_⟩
  · unfold f91 L91_5
    exact key
  · dsimp only
    rw [jand_0]
    constructor
    · rintro - ⟨q, -⟩; omega
    · intro _; rfl
end
section
/-! Sentences: the class's steps over its code. -/
section EV
variable {s : Int}
set_option maxRecDepth 16384 in
def Lay5 (m : MM) (s : Int) : Prop := m s 0 = s + 1 ∧ m s 3 = s + 4 ∧ m (s + 1) (-1) = 40 ∧ m (s + 4) (-1) = 20
set_option maxRecDepth 16384 in
theorem len40 {m : MM} (hl : Lay5 m s) (hs : Sl s) : (if m s 0 = 1000050 then (30 : Int) else s32 (m (m s 0) (-1))) = 40 := by
  unfold Sl at hs
  rw [hl.1, if_neg (by omega), hl.2.2.1]; exact s32_id (by decide) (by decide)
set_option maxRecDepth 16384 in
theorem len20 {m : MM} (hl : Lay5 m s) (hs : Sl s) : (if m s 3 = 1000050 then (30 : Int) else s32 (m (m s 3) (-1))) = 20 := by
  unfold Sl at hs
  rw [hl.2.1, if_neg (by omega), hl.2.2.2]; exact s32_id (by decide) (by decide)
set_option maxRecDepth 16384 in
theorem st_leaf {m : MM} {A t i x5 x6 x7 : Int} (hl : Lay5 m s) (hs : Sl s) (i0 : 0 ≤ i) (i1 : i < m s 4) (i2 : m s 4 ≤ 40) (t0 : 0 ≤ t) (t1 : t < 20) (hk : 3 ≤ m (s + 1) i) : S90_17 m s 15 A t i x5 x6 x7 = .inl (t + 1, i + 1, 0, x6, x7, mu m (s + 4) t (s32 (f91 m s 15 i))) := by
  have e1 : s32 (i + 1) = i + 1 := s32_id (by omega) (by omega)
  have e2 : s32 (t + 1) = t + 1 := s32_id (by omega) (by omega)
  unfold S90_17
  rw [len40 hl hs, len20 hl hs, hl.1, hl.2.1, e1, e2, if_neg (show ¬ m s 4 ≤ i by omega), if_neg (show ¬ 40 ≤ i by omega), if_neg (show ¬ m (s + 1) i = 1 by omega), if_neg (show ¬ m (s + 1) i = 2 by omega), if_neg (show ¬ m (s + 1) i = 0 by omega), if_neg (show ¬ t < 0 by omega), if_neg (show ¬ 20 ≤ t by omega)]
set_option maxRecDepth 16384 in
theorem st_not {m : MM} {A t i x5 x6 x7 : Int} (hl : Lay5 m s) (hs : Sl s) (i0 : 0 ≤ i) (i1 : i < m s 4) (i2 : m s 4 ≤ 40) (t0 : 1 ≤ t) (t1 : t ≤ 20) (hk : m (s + 1) i = 0) : S90_17 m s 15 A t i x5 x6 x7 = .inl (t, i + 1, 0, x6, x7, mu m (s + 4) (t - 1) (jand A (jxor (m (s + 4) (t - 1)) (-1)))) := by
  have e1 : s32 (i + 1) = i + 1 := s32_id (by omega) (by omega)
  have e2 : s32 (t - 1) = t - 1 := s32_id (by omega) (by omega)
  unfold S90_17
  rw [len40 hl hs, len20 hl hs, hl.1, hl.2.1, e1, e2, if_neg (show ¬ m s 4 ≤ i by omega), if_neg (show ¬ 40 ≤ i by omega), if_neg (show ¬ m (s + 1) i = 1 by omega), if_neg (show ¬ m (s + 1) i = 2 by omega), if_pos (show m (s + 1) i = 0 from hk), if_neg (show ¬ t < 1 by omega), if_neg (show ¬ 20 < t by omega), s32_jand]
set_option maxRecDepth 16384 in
theorem st_and {m : MM} {A t i x5 x6 x7 : Int} (hl : Lay5 m s) (hs : Sl s) (i0 : 0 ≤ i) (i1 : i < m s 4) (i2 : m s 4 ≤ 40) (t0 : 2 ≤ t) (t1 : t ≤ 20) (hk : m (s + 1) i = 1) : S90_17 m s 15 A t i x5 x6 x7 = .inl (t - 1, i + 1, 1, jand (m (s + 4) (t - 2)) (m (s + 4) (t - 1)), jor (m (s + 4) (t - 2)) (m (s + 4) (t - 1)), mu m (s + 4) (t - 2) (jand (m (s + 4) (t - 2)) (m (s + 4) (t - 1)))) := by
  have e1 : s32 (i + 1) = i + 1 := s32_id (by omega) (by omega)
  have e2 : s32 (t + (-1)) = t - 1 := s32_id (by omega) (by omega)
  have e3 : s32 (t - 1 - 1) = t - 2 := by rw [s32_id (by omega) (by omega)]; omega
  unfold S90_17
  rw [len40 hl hs, len20 hl hs, hl.1, hl.2.1, e1, e2, e3, if_neg (show ¬ m s 4 ≤ i by omega), if_neg (show ¬ 40 ≤ i by omega), if_pos (show m (s + 1) i = 1 from hk), if_neg (show ¬ t < 2 by omega), if_neg (show ¬ 20 < t by omega), s32_jand]
set_option maxRecDepth 16384 in
theorem st_or {m : MM} {A t i x5 x6 x7 : Int} (hl : Lay5 m s) (hs : Sl s) (i0 : 0 ≤ i) (i1 : i < m s 4) (i2 : m s 4 ≤ 40) (t0 : 2 ≤ t) (t1 : t ≤ 20) (hk : m (s + 1) i = 2) : S90_17 m s 15 A t i x5 x6 x7 = .inl (t - 1, i + 1, 1, jand (m (s + 4) (t - 2)) (m (s + 4) (t - 1)), jor (m (s + 4) (t - 2)) (m (s + 4) (t - 1)), mu m (s + 4) (t - 2) (jor (m (s + 4) (t - 2)) (m (s + 4) (t - 1)))) := by
  have e1 : s32 (i + 1) = i + 1 := s32_id (by omega) (by omega)
  have e2 : s32 (t + (-1)) = t - 1 := s32_id (by omega) (by omega)
  have e3 : s32 (t - 1 - 1) = t - 2 := by rw [s32_id (by omega) (by omega)]; omega
  unfold S90_17
  rw [len40 hl hs, len20 hl hs, hl.1, hl.2.1, e1, e2, e3, if_neg (show ¬ m s 4 ≤ i by omega), if_neg (show ¬ 40 ≤ i by omega), if_neg (show ¬ m (s + 1) i = 1 by omega), if_pos (show m (s + 1) i = 2 from hk), if_neg (show ¬ t < 2 by omega), if_neg (show ¬ 20 < t by omega), s32_jor]
set_option maxRecDepth 16384 in
theorem st_end {m : MM} {A t i x5 x6 x7 : Int} (i1 : m s 4 ≤ i) : S90_17 m s 15 A t i x5 x6 x7 = .inr (1, 0, (t, i, x5, x6, x7, m)) := by
  unfold S90_17
  rw [if_pos i1]
end EV
end
section
/-! Sentences: the class's code run. -/
set_option maxRecDepth 16384 in
def TrB (b : MM) (K : Nat) (n f : Int) : Prop := Tr (fun k => b 150 (216 + k)) (fun n => lv b f (b 150 (216 + 4 * n)) (b 150 (216 + 4 * n + 1)) (b 150 (216 + 4 * n + 2)) (b 150 (216 + 4 * n + 3)) = 1) K n
set_option maxRecDepth 16384 in
theorem TrB_s (b : MM) (K : Nat) (n f : Int) : TrB b (K + 1) n f ↔ (if b 150 (216 + 4 * n) = 1 then ¬ TrB b K (b 150 (216 + 4 * n + 1)) f else if b 150 (216 + 4 * n) = 2 then TrB b K (b 150 (216 + 4 * n + 1)) f ∧ TrB b K (b 150 (216 + 4 * n + 2)) f else if b 150 (216 + 4 * n) = 3 then TrB b K (b 150 (216 + 4 * n + 1)) f ∨ TrB b K (b 150 (216 + 4 * n + 2)) f else lv b f (b 150 (216 + 4 * n)) (b 150 (216 + 4 * n + 1)) (b 150 (216 + 4 * n + 2)) (b 150 (216 + 4 * n + 3)) = 1) := by
  have q1 : 216 + (4 * n + 1) = 216 + 4 * n + 1 := by omega
  have q2 : 216 + (4 * n + 2) = 216 + 4 * n + 2 := by omega
  unfold TrB
  rw [Tr]
  simp only [q1, q2]
set_option maxRecDepth 16384 in
theorem BP_c {x n : Int} {P Q : Int → Prop} (h : BP x n P) (q : ∀ j, P j ↔ Q j) : BP x n Q := ⟨h.1, fun j j0 j8 => by rw [h.2 j j0 j8, q j]⟩
set_option maxRecDepth 16384 in
def FAn (s x k : Int) : Prop := x = s + 4 ∧ 0 ≤ k
set_option maxRecDepth 16384 in
theorem C2_FAn {a b m : MM} {s : Int} (h : C2 a b) (hs : Sl s) (hf : Fr (FAn s) a m) : C2 m b := C2_fr3 h (fun x k q => hf x k (by unfold PCs at q; unfold Sl at hs; unfold FAn; omega)) (fun _ _ _ _ => rfl)
set_option maxRecDepth 16384 in
theorem LSx_FA {a m : MM} {s : Int} (h : LSx a s) (hf : Fr (FAn s) a m) : LSx m s := by
  obtain ⟨⟨h0, h1, h2⟩, h3, h4, h5⟩ := h
  exact ⟨⟨(hf s 0 (by unfold FAn; omega)).trans h0, (hf s 1 (by unfold FAn; omega)).trans h1, (hf s 2 (by unfold FAn; omega)).trans h2⟩, (hf s 3 (by unfold FAn; omega)).trans h3, (hf _ _ (by unfold FAn; omega)).trans h4, (hf _ _ (by unfold FAn; omega)).trans h5⟩
set_option maxRecDepth 16384 in
theorem LSx.l5 {a : MM} {s : Int} (h : LSx a s) : Lay5 a s := ⟨h.1.1, h.2⟩
section EV2
variable {a b : MM} {s A z3 z4 z5 z6 z7 M : Int}
noncomputable abbrev KK (a : MM) (s A z3 z4 z5 z6 z7 : Int) := K90_17 a s 15 A z3 z4 z5 z6 z7
set_option maxRecDepth 16384 in
theorem KK_l {t i x5 x6 x7 t' i' y5 y6 y7 : Int} {m m' : MM} (h : S90_17 m s 15 A t i x5 x6 x7 = .inl (t', i', y5, y6, y7, m')) : Lp (KK a s A z3 z4 z5 z6 z7) (t, i, x5, x6, x7, m) = Lp (KK a s A z3 z4 z5 z6 z7) (t', i', y5, y6, y7, m') := Lp_inl h
set_option maxRecDepth 16384 in
theorem eval_ok (hC : C2 a b) (hl : LSx a s) (hs : Sl s) (h40 : a s 4 ≤ 40) (hA : A = s32 (jshl 1 (a 3 7) - 1)) : ∀ (K : Nat) {i j n c t x5 x6 x7 : Int} {m : MM}, Rep (a (s + 1)) (a (s + 2)) (a (s + 3)) (fun k => b 150 (216 + k)) M K i j n c → 0 ≤ i → j ≤ a s 4 → 0 ≤ t → t + c ≤ 20 → Fr (FAn s) a m → ∃ y5 y6 y7 m', Lp (KK a s A z3 z4 z5 z6 z7) (t, i, x5, x6, x7, m) = Lp (KK a s A z3 z4 z5 z6 z7) (t + 1, j, y5, y6, y7, m') ∧ Fr (FAn s) a m' ∧ (∀ k, 0 ≤ k → k < t → m' (s + 4) k = m (s + 4) k) ∧ BP (m' (s + 4) t) (a 3 7) (TrB b K n)
  | 0, _, _, _, _, _, _, _, _, _, h, _, _, _, _, _ => h.elim
  | K + 1, i, j, n, c, t, x5, x6, x7, m, h, i0, j1, t0, t1, hf => by
    obtain ⟨e37, n0, n8⟩ := hC.1.2.1.f
    have hlt := Rep_lt (K + 1) h
    obtain ⟨⟨nn0, nn1⟩, h⟩ := h
    have q1 : 216 + (4 * n + 1) = 216 + 4 * n + 1 := by omega
    have q2 : 216 + (4 * n + 2) = 216 + 4 * n + 2 := by omega
    have q3 : 216 + (4 * n + 3) = 216 + 4 * n + 3 := by omega
    simp only [q1, q2, q3] at h
    have m4 : ∀ {x : MM}, Fr (FAn s) a x → x s 4 = a s 4 := fun hx => hx s 4 (by unfold FAn; omega)
    have mk : ∀ {x : MM} (k : Int), Fr (FAn s) a x → x (s + 1) k = a (s + 1) k := fun k hx => hx (s + 1) k (by unfold FAn; omega)
    have wr : ∀ {x : MM} {k v : Int}, 0 ≤ k → Fr (FAn s) a x → Fr (FAn s) a (mu x (s + 4) k v) := fun k0 hx => hx.mu ⟨rfl, k0⟩
    rcases h with ⟨hj, hc, hL⟩ | ⟨hk, hw, h⟩ | ⟨p, c1, c2, hkw, hc, ha, hb⟩
    · -- a leaf
      have hk3 : 3 ≤ a (s + 1) i := by unfold Leaf at hL; omega
      have hst := st_leaf (A := A) (x5 := x5) (x6 := x6) (x7 := x7) (LSx_FA hl hf).l5 hs i0 (by rw [m4 hf]; omega) (by rw [m4 hf]; exact h40) t0 (by omega) (by rw [mk i hf]; exact hk3)
      have hm := C2_FAn hC hs hf
      have w1 : m (s + 1) i = a (s + 1) i := mk i hf
      have w2 : m (s + 2) i = a (s + 2) i := hf _ _ (by unfold FAn; omega)
      have w3 : m (s + 3) i = a (s + 3) i := hf _ _ (by unfold FAn; omega)
      have w7 : m 3 7 = a 3 7 := hf _ _ (by unfold FAn; unfold Sl at hs; omega)
      have hB := q91 (s := s) (i := i) hm.1.2.1 (LSx_FA hl hf) hs i0 (by omega) (by rw [w1, w2, w3]; exact hL)
      rw [w7] at hB
      have es : s32 (f91 m s 15 i) = f91 m s 15 i := s32_id (by have := hB.1; omega) (by have := hB.1; omega)
      rw [es] at hst
      have ej : i + 1 = j := by omega
      rw [ej] at hst
      refine ⟨_, _, _, _, KK_l hst, wr t0 hf, fun k k0 k1 => mu_k (by omega), ?_⟩
      rw [mu_s]
      refine BP_c hB fun f => ?_
      rw [TrB_s, if_neg (show ¬ b 150 (216 + 4 * n) = 1 by unfold Leaf at hL; omega), if_neg (show ¬ b 150 (216 + 4 * n) = 2 by unfold Leaf at hL; omega), if_neg (show ¬ b 150 (216 + 4 * n) = 3 by unfold Leaf at hL; omega)]
    · -- not
      have hl1 := Rep_lt K h
      obtain ⟨y5, y6, y7, m', e, hf', hkeep, hB⟩ := eval_ok hC hl hs h40 hA K (x5 := x5) (x6 := x6) (x7 := x7) h i0 (by omega) t0 (by omega) hf
      have hst := st_not (A := A) (t := t + 1) (x5 := y5) (x6 := y6) (x7 := y7) (LSx_FA hl hf').l5 hs (i := j - 1) (by omega) (by rw [m4 hf']; omega) (by rw [m4 hf']; exact h40) (by omega) (by omega) (by rw [mk _ hf']; exact hk)
      have e1 : t + 1 - 1 = t := by omega
      have e2 : j - 1 + 1 = j := by omega
      rw [e1, e2, hA] at hst
      rw [hA] at e ⊢
      refine ⟨_, _, _, _, e.trans (KK_l hst), wr t0 hf', fun k k0 k1 => (mu_k (by omega)).trans (hkeep k k0 k1), ?_⟩
      rw [mu_s]
      refine BP_c (BP_not n0 n8 hB) fun f => ?_
      rw [TrB_s, if_pos hw]
    · -- both
      have hl1 := Rep_lt K ha
      have hl2 := Rep_lt K hb
      obtain ⟨y5, y6, y7, m1, e, hf1, hkeep, hB⟩ := eval_ok hC hl hs h40 hA K (x5 := x5) (x6 := x6) (x7 := x7) ha i0 (by omega) t0 (by omega) hf
      obtain ⟨u5, u6, u7, m2, e', hf2, hkeep2, hB2⟩ := eval_ok hC hl hs h40 hA K (t := t + 1) (x5 := y5) (x6 := y6) (x7 := y7) hb (by omega) (by omega) (by omega) (by omega) hf1
      have et : m2 (s + 4) t = m1 (s + 4) t := hkeep2 t t0 (by omega)
      rw [← et] at hB
      have e1 : t + 1 + 1 - 2 = t := by omega
      have e2 : t + 1 + 1 - 1 = t + 1 := by omega
      have e3 : j - 1 + 1 = j := by omega
      rcases hkw with ⟨hk, hw⟩ | ⟨hk, hw⟩
      · have hst := st_and (A := A) (t := t + 1 + 1) (x5 := u5) (x6 := u6) (x7 := u7) (LSx_FA hl hf2).l5 hs (i := j - 1) (by omega) (by rw [m4 hf2]; omega) (by rw [m4 hf2]; exact h40) (by omega) (by omega) (by rw [mk _ hf2]; exact hk)
        rw [e1, e2, e3] at hst
        refine ⟨_, _, _, _, (e.trans e').trans (KK_l hst), wr t0 hf2, fun k k0 k1 => (mu_k (by omega)).trans ((hkeep2 k k0 (by omega)).trans (hkeep k k0 k1)), ?_⟩
        rw [mu_s]
        refine BP_c (BP_and hB hB2) fun f => ?_
        rw [TrB_s, if_neg (show ¬ b 150 (216 + 4 * n) = 1 by omega), if_pos hw]
      · have hst := st_or (A := A) (t := t + 1 + 1) (x5 := u5) (x6 := u6) (x7 := u7) (LSx_FA hl hf2).l5 hs (i := j - 1) (by omega) (by rw [m4 hf2]; omega) (by rw [m4 hf2]; exact h40) (by omega) (by omega) (by rw [mk _ hf2]; exact hk)
        rw [e1, e2, e3] at hst
        refine ⟨_, _, _, _, (e.trans e').trans (KK_l hst), wr t0 hf2, fun k k0 k1 => (mu_k (by omega)).trans ((hkeep2 k k0 (by omega)).trans (hkeep k k0 k1)), ?_⟩
        rw [mu_s]
        refine BP_c (BP_or hB hB2) fun f => ?_
        rw [TrB_s, if_neg (show ¬ b 150 (216 + 4 * n) = 1 by omega), if_neg (show ¬ b 150 (216 + 4 * n) = 2 by omega), if_pos hw]
end EV2
end
section
/-! Sentences: of which forms it may be said. -/
section SD
variable {X : KO} {ρ : Nat → Int32} {a y : MM} {s M : Int}
set_option maxRecDepth 16384 in
theorem s30_s {m : MM} {k x n p : Int} (h1 : m 0 1 = 3) : S30_39 m 0 k x n p = (if m 3 7 ≤ p then .inr (1, 0, (n, p)) else if jand x (jshl 1 p) = 0 then .inl (n, s32 (p + 1)) else if n = k then .inr (2, p, (n, p)) else .inl (s32 (n + 1), s32 (p + 1))) := by
  unfold S30_39
  rw [h1]
set_option maxRecDepth 16384 in
/-- the model's loop, the class's bits given -/
theorem said_m (hC : C2 a y) (hM : M ≤ 60) {kd wh nu : Int → Int} {K : Nat} {i j c x : Int} (hR : Rep kd wh nu (fun k => y 150 (216 + k)) M K i j (y 150 215) c) (hB : BP x (a 3 7) (TrB y K (y 150 215))) {m : MM} (m1 : m 0 1 = 3) (m7 : m 3 7 = a 3 7) {k : Int} : ∀ (N : Nat) {n p : Int} {o : Instr × List (Nat × Int) × MM}, 0 ≤ n → n ≤ p → p ≤ a 3 7 → n = sm (gC x) p.toNat → MR X ρ 4 0 0 qP267 N 22 [148, k, n, p] [] y o → o = (.ireturn, [(1, if k = -1 then cpop x else if (L30_39 m 0 k x n p).1 = 1 then -1 else (L30_39 m 0 k x n p).2.1)], y) := by
  intro N
  obtain ⟨e7, n0, n8⟩ := hC.1.2.1.f
  have h14 := hC.1.2.1.bn
  induction N using Nat.strongRecOn with
  | ind N ih =>
    intro n p o c0 c1 c2 cn h
    rcases s267_22 h with ⟨d, A⟩ | ⟨d, v, y4, hr, -, A⟩
    · rw [h14, ← e7] at d
      have ep : p = a 3 7 := by omega
      have e : L30_39 m 0 k x n p = (1, 0, (n, p)) := Lp_inr (f := K30_39 m 0 k x n p) (s := (n, p)) (by
        show S30_39 m 0 k x n p = _
        rw [s30_s m1, if_pos (by omega)])
      have hz := sm_z (g := gC x) p.toNat 8 (by omega) (fun j j0 j8 => by
        unfold gC
        rw [if_pos]
        exact (hB.2 j (by omega) (by omega)).mpr (fun q => by omega))
      rw [gC_pop hB.1.1 hB.1.2, ← cn] at hz
      rw [e, hz]
      rcases A with ⟨d1, A⟩ | ⟨d1, A⟩
      · rw [A, if_pos d1]
      · rw [A, if_neg d1]; rfl
    · rw [h14, ← e7] at d
      rw [h14] at hr
      obtain ⟨e4, q⟩ := holds_ok hM h14 (by omega) (by omega) K hR hr
      subst e4
      have hb := hB.2 p (by omega) (by omega)
      have ec : sm (gC x) (p + 1).toNat = sm (gC x) p.toNat + gC x p := by
        have : (p + 1).toNat = p.toNat + 1 := by omega
        rw [this]
        show sm (gC x) p.toNat + gC x ((p.toNat : Nat) : Int) = _
        rw [Int.toNat_of_nonneg (by omega)]
      have ep : s32 (p + 1) = p + 1 := s32_id (by omega) (by omega)
      have en : s32 (n + 1) = n + 1 := s32_id (by omega) (by omega)
      rw [ep, en] at A
      rcases A with ⟨d1, N1, eN, A⟩ | ⟨d1, A⟩
      · have hj : jand x (jshl 1 p) = 0 := hb.mpr (fun z => by
          rcases q with ⟨e, _⟩ | ⟨_, q⟩
          · rw [d1] at e; injection e with e1 _; injection e1 with _ e1; exact absurd e1 (by decide)
          · exact q z.2)
        have e : L30_39 m 0 k x n p = L30_39 m 0 k x n (p + 1) := Lp_inl (f := K30_39 m 0 k x n p) (s := (n, p)) (s' := (n, p + 1)) (by
          show S30_39 m 0 k x n p = _
          rw [s30_s m1, if_neg (by omega), if_pos hj, ep])
        rw [e]
        exact ih N1 (by omega) c0 (by omega) (by omega) (by rw [ec, ← cn]; unfold gC; rw [if_pos hj]; omega) A
      · have hP : TrB y4 K (y4 150 215) p := by
          rcases q with ⟨_, q⟩ | ⟨e, _⟩
          · exact q
          · injection e with e1 _; injection e1 with _ e1; exact absurd e1 d1
        have hj : ¬ jand x (jshl 1 p) = 0 := fun z => hb.mp z ⟨by omega, hP⟩
        rcases A with ⟨d2, A⟩ | ⟨d2, N1, eN, A⟩
        · have e : L30_39 m 0 k x n p = (2, p, (n, p)) := Lp_inr (f := K30_39 m 0 k x n p) (s := (n, p)) (by
            show S30_39 m 0 k x n p = _
            rw [s30_s m1, if_neg (by omega), if_neg hj, if_pos d2])
          rw [A, e, if_neg (by omega)]
          rfl
        · have e : L30_39 m 0 k x n p = L30_39 m 0 k x (n + 1) (p + 1) := Lp_inl (f := K30_39 m 0 k x n p) (s := (n, p)) (s' := (n + 1, p + 1)) (by
            show S30_39 m 0 k x n p = _
            rw [s30_s m1, if_neg (by omega), if_neg hj, if_neg d2, ep, en])
          rw [e]
          exact ih N1 (by omega) (by omega) (by omega) (by omega) (by rw [ec, ← cn]; unfold gC; rw [if_neg hj]) A
set_option maxRecDepth 16384 in
/-- the class's answer -/
theorem f90_ok (hC : C2 a y) (hl : LSx a s) (hs : Sl s) (h40 : a s 4 ≤ 40) {K : Nat} {n c : Int} (hR : Rep (a (s + 1)) (a (s + 2)) (a (s + 3)) (fun k => y 150 (216 + k)) M K 0 (a s 4) n c) (hc : c ≤ 20) : BP (f90 a s 15) (a 3 7) (TrB y K n) ∧ Fr (FAn s) a (g90 a s 15) := by
  have a9 : a 15 0 = 3 := hC.1.2.1.1.2.2.1
  obtain ⟨y5, y6, y7, m', e, hf, -, hB⟩ := eval_ok (z3 := 0) (z4 := 0) (z5 := 0) (z6 := 0) (z7 := 0) hC hl hs h40 rfl K (t := 0) (x5 := 0) (x6 := 0) (x7 := 0) hR (by decide) (by omega) (by decide) (by omega) (Fr.rf _ _)
  have e : L90_17 a s 15 (s32 (jshl 1 (a 3 7) - 1)) 0 0 0 0 0 = (1, 0, (1, a s 4, y5, y6, y7, m')) := by
    refine Eq.trans e (Lp_inr ?_)
    exact st_end (show m' s 4 ≤ a s 4 by rw [hf s 4 (by unfold FAn; omega)]; omega)
  unfold f90 g90
  rw [a9, e]
  dsimp only
  rw [if_neg (by decide), if_neg (by decide), hf s 3 (by unfold FAn; omega), hl.2.1]
  exact ⟨hB, hf⟩
set_option maxRecDepth 16384 in
/-- both answers -/
theorem said_eq (hC : C2 a y) (hl : LSx a s) (hs : Sl s) (h40 : a s 4 ≤ 40) (h5 : a s 5 ≠ 0) (h11 : a 0 11 = s) {K : Nat} {c : Int} (hM : M ≤ 60) (hR : Rep (a (s + 1)) (a (s + 2)) (a (s + 3)) (fun k => y 150 (216 + k)) M K 0 (a s 4) (y 150 215) c) (hc : c ≤ 20) {N : Nat} {k : Int} {o : Instr × List (Nat × Int) × MM} (h : MR X ρ 4 0 0 qP267 N 22 [148, k, 0, 0] [] y o) : o = (.ireturn, [(1, f30 a 0 k)], y) := by
  obtain ⟨hB, hf⟩ := f90_ok hC hl hs h40 hR hc
  have hd := hC.1.1
  obtain ⟨-, n0, n8⟩ := hC.1.2.1.f
  have hs' := hs
  unfold Sl at hs'
  have e := said_m hC hM hR hB (m := g90 a s 15) (k := k) ((hf 0 1 (by unfold FAn; omega)).trans hd.1) (hf 3 7 (by unfold FAn; omega)) N (n := 0) (p := 0) (by decide) (by decide) n0 rfl h
  rw [e]
  unfold f30 f93
  rw [h11, hd.2.1, if_neg h5, if_pos rfl, f296_k]
end SD
end
section
/-! Sentences: what is written of a sentence on both sides. -/
set_option maxRecDepth 16384 in
/-- the code from i to j says what the node n says -/
def RpS (s : Int) (a b : MM) (i j n c : Int) : Prop := ∃ K : Nat, Rep (a (s + 1)) (a (s + 2)) (a (s + 3)) (b 166) (b 148 41) K i j n c
set_option maxRecDepth 16384 in
/-- what was written stays -/
def Gw (s : Int) (a b a' b' : MM) : Prop := (a s 4 ≤ a' s 4 ∧ ∀ k, 0 ≤ k → k < a s 4 → a' (s + 1) k = a (s + 1) k ∧ a' (s + 2) k = a (s + 2) k ∧ a' (s + 3) k = a (s + 3) k) ∧ b 148 41 ≤ b' 148 41 ∧ ∀ k, 0 ≤ k → k < 4 * b 148 41 → b' 166 k = b 166 k
set_option maxRecDepth 16384 in
theorem Gw.rf (s : Int) (a b : MM) : Gw s a b a b := ⟨⟨Int.le_refl _, fun _ _ _ => ⟨rfl, rfl, rfl⟩⟩, Int.le_refl _, fun _ _ _ => rfl⟩
set_option maxRecDepth 16384 in
theorem Gw.tr {s : Int} {a b a1 b1 a2 b2 : MM} (h : Gw s a b a1 b1) (q : Gw s a1 b1 a2 b2) : Gw s a b a2 b2 := by
  obtain ⟨⟨h1, h2⟩, h3, h4⟩ := h
  obtain ⟨⟨q1, q2⟩, q3, q4⟩ := q
  refine ⟨⟨by omega, fun k k0 k1 => ?_⟩, by omega, fun k k0 k1 => (q4 k k0 (by omega)).trans (h4 k k0 k1)⟩
  obtain ⟨x1, x2, x3⟩ := h2 k k0 k1
  obtain ⟨y1, y2, y3⟩ := q2 k k0 (by omega)
  exact ⟨y1.trans x1, y2.trans x2, y3.trans x3⟩
set_option maxRecDepth 16384 in
/-- nothing of it touched -/
theorem Gw.of {s : Int} {a b a' b' : MM} (h4 : a' s 4 = a s 4) (ha : ∀ k, a' (s + 1) k = a (s + 1) k ∧ a' (s + 2) k = a (s + 2) k ∧ a' (s + 3) k = a (s + 3) k) (hb : b' 148 41 = b 148 41) (h6 : ∀ k, b' 166 k = b 166 k) : Gw s a b a' b' := ⟨⟨by omega, fun k _ _ => ha k⟩, by omega, fun k _ _ => h6 k⟩
set_option maxRecDepth 16384 in
theorem RpS.gw {s : Int} {a b a' b' : MM} {i j n c : Int} (h : RpS s a b i j n c) (g : Gw s a b a' b') (i0 : 0 ≤ i) (hj : j ≤ a s 4) : RpS s a' b' i j n c := by
  obtain ⟨K, h⟩ := h
  obtain ⟨⟨g1, g2⟩, g3, g4⟩ := g
  exact ⟨K, Rep_up g3 K K (Nat.le_refl _) (Rep_fr K (Int.le_refl i) (fun k k0 k1 => g2 k (by omega) (by omega)) (fun k k0 k1 => g4 k k0 k1) h)⟩
set_option maxRecDepth 16384 in
theorem RpS.lt {s : Int} {a b : MM} {i j n c : Int} (h : RpS s a b i j n c) : i < j ∧ 1 ≤ c := by
  obtain ⟨K, h⟩ := h
  exact Rep_lt K h
set_option maxRecDepth 16384 in
theorem RpS.leaf {s : Int} {a b : MM} {i n : Int} (n0 : 0 ≤ n) (n1 : n < b 148 41) (h : Leaf (a (s + 1) i) (a (s + 2) i) (a (s + 3) i) (b 166 (4 * n)) (b 166 (4 * n + 1)) (b 166 (4 * n + 2)) (b 166 (4 * n + 3))) : RpS s a b i (i + 1) n 1 := ⟨1, ⟨n0, n1⟩, Or.inl ⟨rfl, rfl, h⟩⟩
set_option maxRecDepth 16384 in
theorem RpS.not {s : Int} {a b : MM} {i j n n' c : Int} (h : RpS s a b i j n c) (n0 : 0 ≤ n') (n1 : n' < b 148 41) (hk : a (s + 1) j = 0) (hw : b 166 (4 * n') = 1) (hx : b 166 (4 * n' + 1) = n) : RpS s a b i (j + 1) n' c := by
  obtain ⟨K, h⟩ := h
  have e : j + 1 - 1 = j := by omega
  refine ⟨K + 1, ⟨n0, n1⟩, Or.inr (Or.inl ⟨by rw [e]; exact hk, hw, ?_⟩)⟩
  rw [e, hx]
  exact h
set_option maxRecDepth 16384 in
theorem RpS.two {s : Int} {a b : MM} {i m j n1 n2 n' c1 c2 : Int} (h1 : RpS s a b i m n1 c1) (h2 : RpS s a b m j n2 c2) (n0 : 0 ≤ n') (nn : n' < b 148 41) (hkw : (a (s + 1) j = 1 ∧ b 166 (4 * n') = 2) ∨ (a (s + 1) j = 2 ∧ b 166 (4 * n') = 3)) (hx : b 166 (4 * n' + 1) = n1) (hy : b 166 (4 * n' + 2) = n2) : RpS s a b i (j + 1) n' (c1 + c2) := by
  obtain ⟨K1, h1⟩ := h1
  obtain ⟨K2, h2⟩ := h2
  have e : j + 1 - 1 = j := by omega
  refine ⟨K1 + K2 + 1, ⟨n0, nn⟩, Or.inr (Or.inr ⟨m, c1, c2, by rw [e]; exact hkw, rfl, ?_, ?_⟩)⟩
  · rw [hx]
    exact Rep_up (Int.le_refl _) K1 (K1 + K2) (by omega) h1
  · rw [hy, e]
    exact Rep_up (Int.le_refl _) K2 (K1 + K2) (by omega) h2
set_option maxRecDepth 16384 in
/-- the class writes a step -/
theorem g101_v {s : Int} (hs : Sl s) {m : MM} (hl : LSe m s) (h3 : m (s + 1) (-1) = 40) (l0 : 0 ≤ m s 4) (l1 : m s 4 < 40) (k x v : Int) : (g101 m s k x v) (s + 1) (m s 4) = s32 k ∧ (g101 m s k x v) (s + 2) (m s 4) = s32 x ∧ (g101 m s k x v) (s + 3) (m s 4) = s32 v ∧ ∀ j, j ≠ m s 4 → (g101 m s k x v) (s + 1) j = m (s + 1) j ∧ (g101 m s k x v) (s + 2) j = m (s + 2) j ∧ (g101 m s k x v) (s + 3) j = m (s + 3) j := by
  obtain ⟨e0, e1, e2⟩ := hl
  unfold Sl at hs
  unfold g101
  rw [e0, h3, if_neg (show ¬ s + 1 = 1000050 by omega), s32_id (z := 40) (by decide) (by decide), if_neg (show ¬ m s 4 < 0 by omega), if_pos l1]
  have r1 : ∀ j, (mu m (s + 1) (m s 4) (s32 k)) s j = m s j := fun j => mu_a (by omega)
  rw [r1, r1, e1]
  have r2 : ∀ j, (mu (mu m (s + 1) (m s 4) (s32 k)) (s + 2) (m s 4) (s32 x)) s j = m s j := fun j => (mu_a (by omega)).trans (r1 j)
  rw [r2, r2, e2]
  have r3 : ∀ j, (mu (mu (mu m (s + 1) (m s 4) (s32 k)) (s + 2) (m s 4) (s32 x)) (s + 3) (m s 4) (s32 v)) s j = m s j := fun j => (mu_a (by omega)).trans (r2 j)
  rw [r3]
  have n1 : ∀ (y : MM) (z j : Int), (mu y s 4 z) (s + 1) j = y (s + 1) j := fun y z j => mu_a (by omega)
  have n2 : ∀ (y : MM) (z j : Int), (mu y s 4 z) (s + 2) j = y (s + 2) j := fun y z j => mu_a (by omega)
  have n3 : ∀ (y : MM) (z j : Int), (mu y s 4 z) (s + 3) j = y (s + 3) j := fun y z j => mu_a (by omega)
  refine ⟨?_, ?_, ?_, fun j hj => ⟨?_, ?_, ?_⟩⟩
  · rw [n1, mu_a (by omega), mu_a (by omega), mu_s]
  · rw [n2, mu_a (by omega), mu_s]
  · rw [n3, mu_s]
  · rw [n1, mu_a (by omega), mu_a (by omega), mu_k hj]
  · rw [n2, mu_a (by omega), mu_k hj, mu_a (by omega)]
  · rw [n3, mu_k hj, mu_a (by omega), mu_a (by omega)]
set_option maxRecDepth 16384 in
/-- the reference writes a node, told -/
theorem g268_v {b : MM} (h40 : b 148 40 = 166) (m0 : 0 ≤ b 148 41) (m1 : b 148 41 < 60) (p q r v : Int) : (g268 b 148 p q r v) 148 41 = b 148 41 + 1 ∧ f268 b 148 p q r v = b 148 41 ∧ (g268 b 148 p q r v) 166 (4 * b 148 41) = s32 p ∧ (g268 b 148 p q r v) 166 (4 * b 148 41 + 1) = s32 q ∧ (g268 b 148 p q r v) 166 (4 * b 148 41 + 2) = s32 r ∧ (g268 b 148 p q r v) 166 (4 * b 148 41 + 3) = s32 v ∧ ∀ k, k < 4 * b 148 41 → (g268 b 148 p q r v) 166 k = b 166 k := by
  have e0 : s32 (4 * b 148 41) = 4 * b 148 41 := s32_id (by omega) (by omega)
  have e1 : s32 (4 * b 148 41 + 1) = 4 * b 148 41 + 1 := s32_id (by omega) (by omega)
  have e2 : s32 (4 * b 148 41 + 2) = 4 * b 148 41 + 2 := s32_id (by omega) (by omega)
  have e3 : s32 (4 * b 148 41 + 3) = 4 * b 148 41 + 3 := s32_id (by omega) (by omega)
  have e4 : s32 (b 148 41 + 1) = b 148 41 + 1 := s32_id (by omega) (by omega)
  have e5 : s32 (b 148 41 + 1 - 1) = b 148 41 := by rw [s32_id (by omega) (by omega)]; omega
  have r0 : ∀ (y : MM) (j z i : Int), (mu y 166 j z) 148 i = y 148 i := fun y j z i => mu_a (by decide)
  unfold g268 f268
  rw [h40]
  simp only [r0, h40, e0, e1, e2, e3, e4, mu_s, e5]
  have n0 : ∀ (y : MM) (z i : Int), (mu y 148 41 z) 166 i = y 166 i := fun y z i => mu_a (by decide)
  refine ⟨trivial, trivial, ?_, ?_, ?_, ?_, fun k hk => ?_⟩
  · rw [n0, mu_k (by omega), mu_k (by omega), mu_k (by omega), mu_s]
  · rw [n0, mu_k (by omega), mu_k (by omega), mu_s]
  · rw [n0, mu_k (by omega), mu_s]
  · rw [n0, mu_s]
  · rw [n0, mu_k (by omega), mu_k (by omega), mu_k (by omega), mu_k (by omega)]
set_option maxRecDepth 16384 in
/-- a step written on both sides, told -/
theorem wrR {X : KO} {t : Int → Int} {L s : Int} (hs : Sl s) {a b z : MM} (h : SCx X t L s a b) (l0 : 0 ≤ a s 4) (l1 : a s 4 < 40) (m0 : 0 ≤ b 148 41) (m1 : b 148 41 < 60) (k x v p q r u : Int) (hz : Fr (fun x k => x = 148 ∧ k = 44) (g268 b 148 p q r u) z) : Gw s a b (g101 a s k x v) z ∧ z 148 41 = b 148 41 + 1 ∧ ((g101 a s k x v) (s + 1) (a s 4) = s32 k ∧ (g101 a s k x v) (s + 2) (a s 4) = s32 x ∧ (g101 a s k x v) (s + 3) (a s 4) = s32 v) ∧ z 166 (4 * b 148 41) = s32 p ∧ z 166 (4 * b 148 41 + 1) = s32 q ∧ z 166 (4 * b 148 41 + 2) = s32 r ∧ z 166 (4 * b 148 41 + 3) = s32 u := by
  obtain ⟨-, -, c3, -⟩ := g101_c hs h.2.2.1.1 h.2.2.1.2 l0 l1 k x v
  obtain ⟨d1, d2, d3, d4⟩ := g101_v hs h.2.2.1.1 h.2.2.1.2 l0 l1 k x v
  obtain ⟨w1, -, w3, w4, w5, w6, w7⟩ := g268_v h.2.2.2 m0 m1 p q r u
  have z6 : ∀ k, z 166 k = (g268 b 148 p q r u) 166 k := fun k => hz 166 k (by omega)
  have z41 : z 148 41 = b 148 41 + 1 := (hz 148 41 (by omega)).trans w1
  exact ⟨⟨⟨by omega, fun k k0 k1 => d4 k (by omega)⟩, by omega, fun k k0 k1 => (z6 k).trans (w7 k k1)⟩, z41, ⟨d1, d2, d3⟩, (z6 _).trans w3, (z6 _).trans w4, (z6 _).trans w5, (z6 _).trans w6⟩
end
section
/-! Sentences: a leaf read, with what it says. -/
set_option maxRecDepth 16384 in
def RLr (X : KO) (t : Int → Int) (L s : Int) (a b a' b' : MM) (v v' : Int) : Prop := Fr (PA s) a a' ∧ Fr PB b b' ∧ ((v = 0 ∧ v' = 0 ∧ FL a' b') ∨ (v = 1 ∧ v' = 1 ∧ SCx X t L s a' b' ∧ a' s 5 = a s 5 ∧ b' 148 42 = b 148 42 ∧ a' s 4 = a s 4 + 1 ∧ b' 148 43 = b 148 43 ∧ Gw s a b a' b' ∧ b' 148 41 = b 148 41 + 1 ∧ RpS s a' b' (a s 4) (a s 4 + 1) (b' 148 44) 1))
set_option maxRecDepth 16384 in
/-- a leaf written on both sides -/
theorem wrL {X : KO} {t : Int → Int} {L s : Int} (hs : Sl s) {a b z : MM} (h : SCx X t L s a b) (l0 : 0 ≤ a s 4) (l1 : a s 4 < 40) (m0 : 0 ≤ b 148 41) (m1 : b 148 41 < 60) {k x v p q r u : Int} (hz : z = mu (g268 b 148 p q r u) 148 44 (f268 b 148 p q r u)) (hL : Leaf (s32 k) (s32 x) (s32 v) (s32 p) (s32 q) (s32 r) (s32 u)) : Gw s a b (g101 a s k x v) z ∧ z 148 41 = b 148 41 + 1 ∧ RpS s (g101 a s k x v) z (a s 4) (a s 4 + 1) (z 148 44) 1 := by
  have fz : Fr (fun x k => x = 148 ∧ k = 44) (g268 b 148 p q r u) z := by rw [hz]; exact (Fr.rf _ _).mu ⟨rfl, rfl⟩
  obtain ⟨r1, r2, ⟨r3, r4, r5⟩, r6, r7, r8, r9⟩ := wrR hs h l0 l1 m0 m1 k x v p q r u fz
  have e44 : z 148 44 = b 148 41 := by rw [hz, mu_s]; exact (g268_v h.2.2.2 m0 m1 p q r u).2.1
  refine ⟨r1, r2, ?_⟩
  rw [e44]
  refine RpS.leaf m0 (by omega) ?_
  rw [r3, r4, r5, r6, r7, r8, r9]
  exact hL
set_option maxRecDepth 16384 in
theorem leafPr {X : KO} {ρ : Nat → Int32} {t : Int → Int} {L s : Int} (hX : XW X) (hs : Sl s) {a a' b b' : MM} {v v' wd W : Int} (h : SCx X t L s a b) (l0 : 0 ≤ a s 4) (l1 : a s 4 < 40) (hw : (qer X wd 1000019 ∧ W = 24) ∨ (¬ qer X wd 1000019 ∧ qer X wd 1000020 ∧ W = 25) ∨ (¬ qer X wd 1000019 ∧ ¬ qer X wd 1000020 ∧ W = 26)) (m0 : 0 ≤ b 148 41) (m1 : b 148 41 < 60) (ra : Run X ρ 99 [(1, s), (1, 1), (1, 3), (1, wd)] a [(1, v)] a') (rb : Run X ρ 255 [(1, 148), (1, W)] b [(1, v')] b') : RLr X t L s a b a' b' v v' := by
  obtain ⟨N, ig, ra⟩ := Run_CR ra rfl
  have ra : MR X ρ 5 0 0 qP99 N 0 [s, 1, 3, wd, 0] [] a (ig, [(1, v)], a') := ra
  obtain ⟨M, ig', rb⟩ := Run_CR rb rfl
  have rb : MR X ρ 2 0 0 qP255 M 0 [148, W] [] b (ig', [(1, v')], b') := rb
  obtain ⟨v4, m2, r2, A⟩ := s99_0 ra
  obtain ⟨v6, m4, r4, hv6, B⟩ := s255_0 rb
  rcases persS h r2 r4 with ⟨e1, e2, e3, e4, e5⟩ | ⟨e1, e2, e3, e4⟩
  · rcases A with ⟨-, A⟩ | ⟨c, _⟩
    · rcases B with ⟨-, B⟩ | ⟨c, _⟩
      · cases A; cases B
        exact ⟨PT_PA e4, PM_PB e5, Or.inl ⟨rfl, rfl, e3⟩⟩
      · exact absurd e2 c
    · exact absurd e1 c
  · rcases A with ⟨c, _⟩ | ⟨-, m7, r7, A⟩
    · exact absurd c e1
    rcases B with ⟨c, _⟩ | ⟨-, y11, f11, y12, f12, B⟩
    · omega
    rw [e3] at r7
    obtain ⟨g1, g2, g3, g4, g5⟩ := SC_go hX hs h ((Fr.rf _ _).mu ⟨rfl, rfl⟩) r7 e4
    have hz : Fr (fun x k => x = 148 ∧ k = 44) (g268 m4 148 (s32 (50 + W)) (m4 148 13) 0 0) y12 := by rw [f12, f11]; exact (Fr.rf _ _).mu ⟨rfl, rfl⟩
    have s5 : m7 s 5 = a s 5 := g2 _ _ (by unfold P148; unfold Sl at hs; omega)
    have s4 : m7 s 4 = a s 4 := g2 _ _ (by unfold P148; unfold Sl at hs; omega)
    have b42 : m4 148 42 = b 148 42 := by rw [g3 148 42 (by unfold P195; omega)]; exact mu_k (by decide)
    have b43 : m4 148 43 = b 148 43 := by rw [g3 148 43 (by unfold P195; omega)]; exact mu_k (by decide)
    have b41 : m4 148 41 = b 148 41 := by rw [g3 148 41 (by unfold P195; omega)]; exact mu_k (by decide)
    have b13 : m4 148 13 = v4 := by rw [g3 148 13 (by unfold P195; omega)]; exact mu_s _ _ _ _
    have hG : Gw s a b m7 m4 := Gw.of s4 (fun k => ⟨g2 _ _ (by unfold P148; unfold Sl at hs; omega), g2 _ _ (by unfold P148; unfold Sl at hs; omega), g2 _ _ (by unfold P148; unfold Sl at hs; omega)⟩) b41 (fun k => (g3 _ _ (by unfold P195; omega)).trans (mu_a (by decide)))
    have e50 : s32 (50 + W) = 50 + W := s32_id (by omega) (by omega)
    have fin : ∀ k x u : Int, (ig, [(1, v)], a') = ((.ireturn, [(1, f101 m7 s k x u)], g101 m7 s k x u) : Instr × List (Nat × Int) × MM) → Leaf (s32 k) (s32 x) (s32 u) (s32 (s32 (50 + W))) (s32 (m4 148 13)) (s32 0) (s32 0) → RLr X t L s a b a' b' v v' := fun k x u e hL => by
      obtain ⟨y1, y2, y3⟩ := wrL hs g1 (k := k) (x := x) (v := u) (p := s32 (50 + W)) (q := m4 148 13) (r := 0) (u := 0) (z := y12) (by omega) (by omega) (by omega) (by omega) (by rw [f12, f11]) hL
      rw [s4] at y3
      obtain ⟨w1, w2, w3, w4, w5, w6, w7, w8⟩ := wrS hs g1 (by omega) (by omega) k x u _ _ _ _ hz
      cases B
      rw [w1] at e
      cases e
      exact ⟨g4.tr w3, g5.tr w4, Or.inr ⟨rfl, rfl, w2, by rw [w5, s5], by rw [w6, b42], by rw [w7, s4], by rw [w8, b43], hG.tr y1, by rw [y2, b41], y3⟩⟩
    have i5 : s32 5 = 5 := s32_id (by decide) (by decide)
    have i6 : s32 6 = 6 := s32_id (by decide) (by decide)
    have i7 : s32 7 = 7 := s32_id (by decide) (by decide)
    rw [e50, e50, b13] at fin
    rcases A with ⟨c, y, ey, A⟩ | ⟨c, A⟩
    · rw [ey] at A
      refine fin _ _ _ A ?_
      rw [i5]
      rcases hw with ⟨-, hw⟩ | ⟨q, _⟩ | ⟨q, _⟩
      · exact Or.inr (Or.inr (Or.inl ⟨rfl, by omega, rfl⟩))
      · exact absurd c q
      · exact absurd c q
    · rcases A with ⟨d, y, ey, A⟩ | ⟨d, y, ey, A⟩
      · rw [ey] at A
        refine fin _ _ _ A ?_
        rw [i6]
        rcases hw with ⟨q, _⟩ | ⟨-, -, hw⟩ | ⟨-, q, _⟩
        · exact absurd q c
        · exact Or.inr (Or.inr (Or.inr (Or.inl ⟨rfl, by omega, rfl⟩)))
        · exact absurd d q
      · rw [ey] at A
        refine fin _ _ _ A ?_
        rw [i7]
        rcases hw with ⟨q, _⟩ | ⟨-, q, _⟩ | ⟨-, -, hw⟩
        · exact absurd q c
        · exact absurd q d
        · exact Or.inr (Or.inr (Or.inr (Or.inr (Or.inl ⟨rfl, by omega, rfl⟩))))
set_option maxRecDepth 16384 in
theorem leafNr {X : KO} {ρ : Nat → Int32} {t : Int → Int} {L s : Int} (hX : XW X) (hs : Sl s) {a a' b b' : MM} {v v' wd W : Int} (h : SCx X t L s a b) (l0 : 0 ≤ a s 4) (l1 : a s 4 < 40) (hw : (qer X wd 1000022 ∧ W = 27) ∨ (¬ qer X wd 1000022 ∧ qer X wd 1000023 ∧ W = 28) ∨ (¬ qer X wd 1000022 ∧ ¬ qer X wd 1000023 ∧ W = 29)) (m0 : 0 ≤ b 148 41) (m1 : b 148 41 < 60) (ra : Run X ρ 96 [(1, s), (1, 1), (1, wd)] a [(1, v)] a') (rb : Run X ρ 243 [(1, 148), (1, W)] b [(1, v')] b') : RLr X t L s a b a' b' v v' := by
  obtain ⟨N, ig, ra⟩ := Run_CR ra rfl
  have ra : MR X ρ 5 0 0 qP96 N 0 [s, 1, wd, 0, 0] [] a (ig, [(1, v)], a') := ra
  obtain ⟨M, ig', rb⟩ := Run_CR rb rfl
  have rb : MR X ρ 3 0 0 qP243 M 0 [148, W, 0] [] b (ig', [(1, v')], b') := rb
  have A := h96 ra
  have B := h243 rb
  have p1 := h.1.1.2
  rw [← mark_ok p1 60, ← mark_ok p1 61, ← mark_ok p1 62] at B
  rcases A with ⟨c, A⟩ | ⟨c, A⟩
  · rcases B with ⟨-, B⟩ | ⟨d, _⟩
    · cases A; cases B
      exact ⟨PT_PA (Fr_158 _ _), PM_PB (Fr_168 _ _), Or.inl ⟨rfl, rfl, bad_ok p1 (by decide) (Or.inl rfl)⟩⟩
    · rcases d with d | d | d
      · exact absurd c.1 d
      · exact absurd c.2.1 d
      · exact absurd c.2.2 d
  · rcases B with ⟨d, _⟩ | ⟨-, B⟩
    · rcases c with c | c | c
      · exact absurd d.1 c
      · exact absurd d.2.1 c
      · exact absurd d.2.2 c
    obtain ⟨m8, r8, y15, e15, A⟩ := A
    obtain ⟨n8, q8, v13, n11, q11, hv, B⟩ := B
    obtain ⟨g1, g2, g3, g4, g5⟩ := SC_go hX hs h (Fr.rf _ _) r8 q8
    rcases numT (by decide) g1.1 q11 with ⟨z1, z2, z3, z4, z5⟩ | ⟨u, z1, u0, u1, u2, z2, z3, z4⟩
    · have z2 : v13 = 0 := by injection z2 with a1 a2; injection a1
      rcases A with ⟨-, A⟩ | ⟨c, _⟩
      · rcases B with ⟨-, B⟩ | ⟨c, _⟩
        · cases A; cases B
          rw [e15]
          exact ⟨g4.tr (PT_PA z4), g5.tr (PM_PB z5), Or.inl ⟨rfl, rfl, z3⟩⟩
        · exact absurd z2 c
      · exact absurd z1 c
    · have z3 : v13 = 1 := by injection z3 with a1 a2; injection a1
      rcases A with ⟨c, _⟩ | ⟨-, m18, r18, A⟩
      · omega
      rcases B with ⟨c, _⟩ | ⟨-, y20, f20, y21, f21, B⟩
      · omega
      rw [e15, z2] at r18
      obtain ⟨k1, k2, k3, k4, k5⟩ := SC_go hX hs g1 ((Fr.rf _ _).mu ⟨rfl, rfl⟩) r18 z4
      have hz : Fr (fun x k => x = 148 ∧ k = 44) (g268 n11 148 (s32 (50 + W)) 0 (n11 148 13) (b 148 9)) y21 := by rw [f21, f20]; exact (Fr.rf _ _).mu ⟨rfl, rfl⟩
      have s5 : m18 s 5 = a s 5 := by rw [k2 _ _ (by unfold P148; unfold Sl at hs; omega), g2 _ _ (by unfold P148; unfold Sl at hs; omega)]
      have s4 : m18 s 4 = a s 4 := by rw [k2 _ _ (by unfold P148; unfold Sl at hs; omega), g2 _ _ (by unfold P148; unfold Sl at hs; omega)]
      have b42 : n11 148 42 = b 148 42 := by rw [k3 148 42 (by unfold P195; omega), mu_k (by decide), g3 148 42 (by unfold P195; omega)]
      have b43 : n11 148 43 = b 148 43 := by rw [k3 148 43 (by unfold P195; omega), mu_k (by decide), g3 148 43 (by unfold P195; omega)]
      have b41 : n11 148 41 = b 148 41 := by rw [k3 148 41 (by unfold P195; omega), mu_k (by decide), g3 148 41 (by unfold P195; omega)]
      have b13 : n11 148 13 = u := by rw [k3 148 13 (by unfold P195; omega), mu_s]
      have b9 : b 148 9 = a 1 6 := by
        have k4 : a 1 4 = 3 := by
          by_cases q : a 1 4 = 3
          · exact q
          · exfalso
            have z : ∀ x, f152 a 1 x = 0 := fun x => by unfold f152; rw [if_neg q]
            rcases c with c | c | c
            · exact c (z _)
            · exact c (z _)
            · exact c (z _)
        rcases p1.2.2 with q | q | q | q | q
        · omega
        · omega
        · omega
        · omega
        · exact q.2.2.symm
      have hG : Gw s a b m18 n11 := Gw.of s4 (fun k => ⟨(k2 _ _ (by unfold P148; unfold Sl at hs; omega)).trans (g2 _ _ (by unfold P148; unfold Sl at hs; omega)), (k2 _ _ (by unfold P148; unfold Sl at hs; omega)).trans (g2 _ _ (by unfold P148; unfold Sl at hs; omega)), (k2 _ _ (by unfold P148; unfold Sl at hs; omega)).trans (g2 _ _ (by unfold P148; unfold Sl at hs; omega))⟩) b41 (fun k => (k3 _ _ (by unfold P195; omega)).trans ((mu_a (by decide)).trans (g3 _ _ (by unfold P195; omega))))
      have e50 : s32 (50 + W) = 50 + W := s32_id (by omega) (by omega)
      have fin : ∀ k x u : Int, (ig, [(1, v)], a') = ((.ireturn, [(1, f101 m18 s k x u)], g101 m18 s k x u) : Instr × List (Nat × Int) × MM) → Leaf (s32 k) (s32 x) (s32 u) (s32 (s32 (50 + W))) (s32 0) (s32 (n11 148 13)) (s32 (b 148 9)) → RLr X t L s a b a' b' v v' := fun k x u e hL => by
        obtain ⟨y1, y2, y3⟩ := wrL hs k1 (k := k) (x := x) (v := u) (p := s32 (50 + W)) (q := 0) (r := n11 148 13) (u := b 148 9) (z := y21) (by omega) (by omega) (by omega) (by omega) (by rw [f21, f20]) hL
        rw [s4] at y3
        obtain ⟨w1, w2, w3, w4, w5, w6, w7, w8⟩ := wrS hs k1 (by omega) (by omega) k x u _ _ _ _ hz
        cases B
        rw [w1] at e
        cases e
        exact ⟨(g4.tr k4).tr w3, (g5.tr k5).tr w4, Or.inr ⟨rfl, rfl, w2, by rw [w5, s5], by rw [w6, b42], by rw [w7, s4], by rw [w8, b43], hG.tr y1, by rw [y2, b41], y3⟩⟩
      have i8 : s32 8 = 8 := s32_id (by decide) (by decide)
      have i9 : s32 9 = 9 := s32_id (by decide) (by decide)
      have i10 : s32 10 = 10 := s32_id (by decide) (by decide)
      rw [e50, e50, b13, b9] at fin
      rw [z1] at A
      rcases A with ⟨c, y, ey, A⟩ | ⟨c, A⟩
      · rw [ey] at A
        refine fin _ _ _ A ?_
        rw [i8]
        rcases hw with ⟨-, hw⟩ | ⟨q, _⟩ | ⟨q, _⟩
        · exact Or.inr (Or.inr (Or.inr (Or.inr (Or.inr (Or.inl ⟨rfl, by omega, rfl, rfl⟩)))))
        · exact absurd c q
        · exact absurd c q
      · rcases A with ⟨d, y, ey, A⟩ | ⟨d, y, ey, A⟩
        · rw [ey] at A
          refine fin _ _ _ A ?_
          rw [i9]
          rcases hw with ⟨q, _⟩ | ⟨-, -, hw⟩ | ⟨-, q, _⟩
          · exact absurd q c
          · exact Or.inr (Or.inr (Or.inr (Or.inr (Or.inr (Or.inr (Or.inl ⟨rfl, by omega, rfl, rfl⟩))))))
          · exact absurd d q
        · rw [ey] at A
          refine fin _ _ _ A ?_
          rw [i10]
          rcases hw with ⟨q, _⟩ | ⟨-, q, _⟩ | ⟨-, -, hw⟩
          · exact absurd q c
          · exact absurd q d
          · exact Or.inr (Or.inr (Or.inr (Or.inr (Or.inr (Or.inr (Or.inr ⟨rfl, by omega, rfl, rfl⟩))))))
end
section
/-! Sentences: ONEs read, with what they say. -/
set_option maxRecDepth 16384 in
def RRr (X : KO) (t : Int → Int) (L s : Int) (a b a' b' : MM) (v v' o l w : Int) : Prop := Fr (PA s) a a' ∧ Fr PB b b' ∧ ((v = 0 ∧ v' = 0 ∧ FL a' b') ∨ (v = 1 ∧ v' = 1 ∧ SCx X t L s a' b' ∧ ∃ o' l', SNx s a' b' o' l' w ∧ o + 1 ≤ o' ∧ l' - l ≤ 2 * (o' - o) - 1 ∧ Gw s a b a' b' ∧ b' 148 41 = l' ∧ ∃ c, RpS s a' b' l l' (b' 148 44) c ∧ c ≤ o' - o))
set_option maxRecDepth 16384 in
theorem RpS.n {s : Int} {a b : MM} {i j n c : Int} (h : RpS s a b i j n c) : 0 ≤ n ∧ n < b 148 41 := by
  obtain ⟨K, h⟩ := h
  cases K with
  | zero => exact h.elim
  | succ K => exact h.1
set_option maxRecDepth 16384 in
def H1r (X : KO) (ρ : Nat → Int32) (t : Int → Int) (L s w : Int) : Prop := ∀ (a a' b b' : MM) (v v' o l : Int), SCx X t L s a b → SNx s a b o l w → b 148 41 = l → Run X ρ 97 [(1, s), (1, 1), (1, 3), (1, w)] a [(1, v)] a' → Run X ρ 261 [(1, 148)] b [(1, v')] b' → RRr X t L s a b a' b' v v' o l w
set_option maxRecDepth 16384 in
def H2r (X : KO) (ρ : Nat → Int32) (t : Int → Int) (L s w : Int) : Prop := ∀ (a a' b b' : MM) (v v' o l : Int), SCx X t L s a b → SNx s a b o l w → b 148 41 = l → Run X ρ 95 [(1, s), (1, 1), (1, 3), (1, w)] a [(1, v)] a' → Run X ρ 256 [(1, 148)] b [(1, v')] b' → RRr X t L s a b a' b' v v' o l w
set_option maxRecDepth 16384 in
/-- out of a part within, one less deep -/
theorem outSr {X : KO} {t : Int → Int} {L s : Int} (hs : Sl s) {a b y z a' b1 b' : MM} {v v' o l w : Int} (fa : Fr (PA s) a y) (fb : Fr PB b z) (w1 : 1 ≤ w) (w8 : w ≤ 8) (o0 : 0 ≤ o) (h : Fr (PA s) y a' ∧ Fr PB z b1 ∧ ((v = 0 ∧ v' = 0 ∧ FL a' b1) ∨ (v = 1 ∧ v' = 1 ∧ SCx X t L s a' b1 ∧ ∃ o' l', (a' s 5 = o' ∧ b1 148 42 = o' ∧ o' ≤ 20) ∧ (a' s 4 = l' ∧ 0 ≤ l') ∧ b1 148 43 = w ∧ o + 1 ≤ o' ∧ l' - l ≤ 2 * (o' - o) - 1 ∧ Gw s a b a' b1 ∧ b1 148 41 = l' ∧ ∃ c, RpS s a' b1 l l' (b1 148 44) c ∧ c ≤ o' - o))) (l0 : 0 ≤ l) (hl : l ≤ 2 * o) (e : b' = mu b1 148 43 (s32 (b1 148 43 - 1))) : RRr X t L s a b a' b' v v' o l w := by
  obtain ⟨h1, h2, h3⟩ := h
  have f0 : Fr PB0 b1 b' := by rw [e]; exact (Fr.rf _ _).mu (Or.inl ⟨rfl, by decide, by decide⟩)
  refine ⟨fa.tr h1, (fb.tr h2).tr (f0.mo fun x k q => Or.inr q), ?_⟩
  have e41 : b' 148 41 = b1 148 41 := by rw [e, mu_k (by decide)]
  have hG : Gw s a' b1 a' b' := Gw.of rfl (fun _ => ⟨rfl, rfl, rfl⟩) e41 (fun k => by rw [e]; exact mu_a (by decide))
  rcases h3 with ⟨q1, q2, q3⟩ | ⟨q1, q2, q3, o', l', ⟨g1, g2, g4⟩, ⟨g5, g6⟩, g8, g11, g12, g13, g14, c, g15, g16⟩
  · exact Or.inl ⟨q1, q2, by rw [e]; exact FL_43 q3⟩
  · refine Or.inr ⟨q1, q2, SC_0 hs q3 (Fr.rf _ _) f0, o', l', ⟨⟨g1, ?_, by omega, g4⟩, ⟨g5, g6, by omega⟩, ?_, by omega, by omega⟩, g11, g12, g13.tr hG, by rw [e41, g14], c, ?_, g16⟩
    · rw [e, mu_k (by decide)]; exact g2
    · rw [e, mu_s, g8, s32_id (by omega) (by omega)]
    · have := g15.gw hG l0 (by omega)
      rw [e, mu_k (by decide)]
      rw [e] at this
      exact this
set_option maxRecDepth 16384 in
theorem one_Hr {X : KO} {ρ : Nat → Int32} {t : Int → Int} {L s w : Int} (hX : XW X) (hS : XS X) (hs : Sl s) (ih : w ≤ 8 → H1r X ρ t L s (w + 1) ∧ H2r X ρ t L s (w + 1)) : H1r X ρ t L s w := by
  intro a a' b b' v v' o l hC hN hM ra rb
  obtain ⟨N, ig, ra⟩ := Run_CR ra rfl
  have ra : MR X ρ 5 0 0 qP97 N 0 [s, 1, 3, w, 0] [] a (ig, [(1, v)], a') := ra
  obtain ⟨M, ig', rb⟩ := Run_CR rb rfl
  have rb : MR X ρ 4 0 0 qP261 M 0 [148, 0, 0, 0] [] b (ig', [(1, v')], b') := rb
  have A := h97 ra
  have B := h261 rb
  have p1 := hC.1.1.2
  have hs' := hs
  unfold Sl at hs'
  have eW := L261_c b (f215 b 148 40)
  have em := mark_ok p1 40
  rw [← em] at B
  rw [← em] at eW
  generalize (L261_10 b 148 (f152 a 1 40) 18 0).2.2 = W at B eW
  obtain ⟨⟨n1, n2, n3, n4⟩, ⟨n5, n6, n7⟩, n8, n9, n10⟩ := hN
  have s1 : (1 : Int) ≠ s := by omega
  have np5 : ¬ P148 s 5 := by unfold P148; omega
  have np4 : ¬ P148 s 4 := by unfold P148; omega
  have np1 : ∀ k, ¬ P148 (s + 1) k := fun k => by unfold P148; omega
  have np2 : ∀ k, ¬ P148 (s + 2) k := fun k => by unfold P148; omega
  have np3 : ∀ k, ¬ P148 (s + 3) k := fun k => by unfold P148; omega
  have bad4 : ∀ (x y : MM) (u u' : Int), a 1 4 ≠ 4 → u = 0 → u' = 0 → x = g158 a 1 4 → y = g168 b 148 4 → RRr X t L s a b x y u u' o l w := fun x y u u' h4 e1 e2 e3 e4 => by
    rw [e3, e4]
    exact ⟨PT_PA (Fr_158 _ _), PM_PB (Fr_168 _ _), Or.inl ⟨e1, e2, bad_ok p1 (by decide) (Or.inr h4)⟩⟩
  rcases A with ⟨c1, c2, A⟩ | ⟨c, A⟩
  · -- no ONE begins here
    have hz : ∀ i, 18 ≤ i → i ≤ 29 → f217 b 148 i = 0 := fun i i0 i1 => by
      by_cases k1 : a 1 4 = 1
      · exact (f86_w (WQ_ok hS p1 k1)).1 (c2 k1) i i0 i1
      · exact f217_k p1 k1 i
    rcases B with ⟨d1, d2, B⟩ | ⟨d, _⟩
    · cases A; cases B
      exact ⟨PT_PA (Fr_158 _ _), PM_PB (Fr_168 _ _), Or.inl ⟨rfl, rfl, bad_ok p1 (by decide) (Or.inl rfl)⟩⟩
    · rcases d with d | d
      · exact absurd c1 d
      · rcases eW with ⟨e1, e2, e3⟩ | ⟨e1, -⟩
        · exact absurd (hz W e1 e2) e3
        · omega
  · have h4 : a 1 4 ≠ 4 := by
      rcases c with c | c
      · intro q
        apply c
        unfold f152
        rw [if_neg (by omega)]
      · omega
    have B : RO261 X ρ W b (ig', [(1, v')], b') := by
      rcases B with ⟨d1, d2, -⟩ | ⟨-, B⟩
      · rcases c with c | ⟨k1, c⟩
        · exact absurd d1 c
        · obtain ⟨i, i0, i1, i2⟩ := (f86_w (WQ_ok hS p1 k1)).2 c
          rcases eW with ⟨-, e2, -⟩ | ⟨-, e3⟩
          · omega
          · exact absurd (e3 i i0 i1) i2
      · exact B
    unfold RO97 at A
    unfold RO261 at B
    rw [n1] at A
    rw [n2, n8, ← em] at B
    rcases A with ⟨c20, y, ey, A⟩ | ⟨c20, A⟩
    · rcases B with ⟨d, y', ey', B⟩ | ⟨d, _⟩
      · rw [f168_0] at B
        cases A; cases B
        exact bad4 _ _ _ _ h4 rfl rfl ey ey'
      · omega
    rcases B with ⟨d, _⟩ | ⟨-, B⟩
    · omega
    rcases A with ⟨c9, z1, ez, A⟩ | ⟨c9, y, ey, A⟩
    · rcases B with ⟨d, _⟩ | ⟨-, y67, e67, y68, e68, m70, r70, B⟩
      · omega
      obtain ⟨ih1, ih2⟩ := ih c9
      rw [s32_id (z := o + 1) (by omega) (by omega)] at ez e67
      have e43 : y67 148 43 = w - 1 := by rw [e67, mu_k (by decide)]; exact n8
      rw [e43, show w - 1 + 1 = w by omega, s32_id (z := w) (by omega) (by omega)] at e68
      have fa0 : Fr (PA0 s) a z1 := by rw [ez]; exact (Fr.rf _ _).mu (Or.inl ⟨rfl, Or.inr rfl⟩)
      have fb0 : Fr PB0 b y68 := by rw [e68, e67]; exact ((Fr.rf _ _).mu (Or.inl ⟨rfl, by decide, by decide⟩)).mu (Or.inl ⟨rfl, by decide, by decide⟩)
      have hC1 := SC_0 hs hC fa0 fb0
      have z1k : ∀ k, z1 1 k = a 1 k := fun k => by rw [ez]; exact mu_a s1
      have zs5 : z1 s 5 = o + 1 := by rw [ez, mu_s]
      have zs4 : z1 s 4 = l := by rw [ez, mu_k (by decide)]; exact n5
      have y42 : y68 148 42 = o + 1 := by rw [e68, mu_k (by decide), e67, mu_s]
      have y43 : y68 148 43 = w := by rw [e68, mu_s]
      have zk : ∀ x k, x ≠ s → z1 x k = a x k := fun x k hx => by rw [ez]; exact mu_a hx
      have y41 : y68 148 41 = b 148 41 := by rw [e68, mu_k (by decide), e67, mu_k (by decide)]
      have y166 : ∀ k, y68 166 k = b 166 k := fun k => by rw [e68, mu_a (by decide), e67, mu_a (by decide)]
      have e152 : f152 z1 1 40 = f152 a 1 40 := by unfold f152; rw [z1k, z1k]
      have e155 : f155 X z1 1 1000017 = f155 X a 1 1000017 := by unfold f155; rw [z1k, z1k]
      rw [e152, e155, z1k 8] at A
      have fa1 : Fr (PA s) a z1 := fa0.mo fun x k q => Or.inr q
      have fb1 : Fr PB b y68 := fb0.mo fun x k q => Or.inr q
      -- what follows once a token is gone behind
      have gone : ∀ z2, Run X ρ 148 [(1, 1)] z1 [] z2 → SCx X t L s z2 m70 ∧ Fr (PA s) a z2 ∧ Fr PB b m70 ∧ z2 s 5 = o + 1 ∧ z2 s 4 = l ∧ m70 148 42 = o + 1 ∧ m70 148 43 = w ∧ Gw s a b z2 m70 ∧ m70 148 41 = l := fun z2 r2 => by
        obtain ⟨g1, g2, g3, g4, g5⟩ := SC_go hX hs hC1 (Fr.rf _ _) r2 r70
        have e41 : m70 148 41 = b 148 41 := (g3 _ _ (by unfold P195; omega)).trans y41
        exact ⟨g1, fa1.tr g4, fb1.tr g5, by rw [g2 _ _ np5]; exact zs5, by rw [g2 _ _ np4]; exact zs4, by rw [g3 148 42 (by unfold P195; omega)]; exact y42, by rw [g3 148 43 (by unfold P195; omega)]; exact y43, Gw.of (by rw [g2 _ _ np4, zs4, n5]) (fun k => ⟨(g2 _ _ (np1 k)).trans (zk _ k (by omega)), (g2 _ _ (np2 k)).trans (zk _ k (by omega)), (g2 _ _ (np3 k)).trans (zk _ k (by omega))⟩) e41 (fun k => (g3 _ _ (by unfold P195; omega)).trans (y166 k)), by rw [e41, hM]⟩
      -- a leaf
      have leaf : ∀ (z2 b1 : MM) (u u' : Int), Run X ρ 148 [(1, 1)] z1 [] z2 → RLr X t L s z2 m70 a' b1 u u' → b' = mu b1 148 43 (s32 (b1 148 43 - 1)) → RRr X t L s a b a' b' u u' o l w := fun z2 b1 u u' r2 hR e => by
        obtain ⟨g1, g2, g3, g4, g5, g6, g7, g8, g9⟩ := gone z2 r2
        obtain ⟨q1, q2, q3⟩ := hR
        refine outSr hs g2 g3 n9 c9 n3 ⟨q1, q2, ?_⟩ n6 n7 e
        rcases q3 with q3 | ⟨k1, k2, k3, k4, k5, k6, k7, k8, k9, k10⟩
        · exact Or.inl q3
        · exact Or.inr ⟨k1, k2, k3, o + 1, l + 1, ⟨by rw [k4, g4], by rw [k5, g6], by omega⟩, ⟨by rw [k6, g5], by omega⟩, by rw [k7, g7], by omega, by omega, g8.tr k8, by rw [k9, g9], 1, by rw [g5] at k10; exact k10, by omega⟩
      -- a ONE with others within
      have outer : ∀ (u u' : Int) (b1 : MM), Run X ρ 98 [(1, s), (1, 1), (1, 3), (1, w)] z1 [(1, u)] a' → ((f155 X a 1 1000017 = 0 ∧ Run X ρ 242 [(1, 148)] m70 [(1, u')] b1) ∨ (¬ f155 X a 1 1000017 = 0 ∧ Run X ρ 253 [(1, 148)] m70 [(1, u')] b1)) → b' = mu b1 148 43 (s32 (b1 148 43 - 1)) → RRr X t L s a b a' b' u u' o l w := fun u u' b1 r98 hb e => by
        obtain ⟨Na, iga, r98⟩ := Run_CR r98 rfl
        have r98 : MR X ρ 5 0 0 qP98 Na 0 [s, 1, 3, w, 0] [] z1 (iga, [(1, u)], a') := r98
        obtain ⟨m7, r7, C⟩ := s98_0 r98
        rw [e155, s32_id (z := w + 1) (by omega) (by omega)] at C
        obtain ⟨g1, g2, g3, g4, g5, g6, g7, g8, g9⟩ := gone m7 r7
        have hN1 : SNx s m7 m70 (o + 1) l (w + 1) := ⟨⟨g4, g6, by omega, by omega⟩, ⟨g5, n6, by omega⟩, by omega, by omega, by omega⟩
        refine outSr hs g2 g3 n9 c9 n3 ?_ n6 n7 e
        rcases hb with ⟨d, r242⟩ | ⟨d, r253⟩
        · -- brackets
          rcases C with ⟨-, v13, m11, r95, hv, C⟩ | ⟨q, _⟩
          · obtain ⟨Nb, igb, r242⟩ := Run_CR r242 rfl
            have r242 : MR X ρ 1 0 0 qP242 Nb 0 [148] [] m70 (igb, [(1, u')], b1) := r242
            obtain ⟨v4, n2', r256, hv4, D⟩ := s242_0 r242
            obtain ⟨k1, k2, k3⟩ := ih2 _ _ _ _ _ _ _ _ g1 hN1 g9 r95 r256
            rcases k3 with ⟨x1, x2, x3⟩ | ⟨x1, x2, x3, o', l', ⟨⟨q1, q2, q3, q4⟩, ⟨q5, q6, q7⟩, q8, q9, q10⟩, q11, q12, q13, q14, cc, q15, q16⟩
            · rcases C with ⟨-, C⟩ | ⟨q, _⟩
              · rcases D with ⟨-, D⟩ | ⟨q, _⟩
                · cases C; cases D
                  exact ⟨k1, k2, Or.inl ⟨rfl, rfl, x3⟩⟩
                · exact absurd x2 q
              · exact absurd x1 q
            · rcases C with ⟨q, _⟩ | ⟨-, C⟩
              · omega
              rcases D with ⟨q, _⟩ | ⟨-, D⟩
              · omega
              rw [← mark_ok x3.1.1.2 41] at D
              rcases C with ⟨y1, y, ey, C⟩ | ⟨y1, m22, r22, C⟩
              · rcases D with ⟨-, y', ey', D⟩ | ⟨q, _⟩
                · rw [f168_0] at D
                  cases C; cases D
                  rw [ey, ey']
                  exact ⟨k1.tr (PT_PA (Fr_158 _ _)), k2.tr (PM_PB (Fr_168 _ _)), Or.inl ⟨rfl, rfl, bad_ok x3.1.1.2 (by decide) (Or.inl rfl)⟩⟩
                · exact absurd y1 q
              · rcases D with ⟨q, _⟩ | ⟨-, m13, r13, D⟩
                · exact absurd q y1
                · cases C; cases D
                  obtain ⟨j1, j2, j3, j4, j5⟩ := SC_go hX hs x3 (Fr.rf _ _) r22 r13
                  have e41 := j3 148 41 (by unfold P195; omega)
                  have hG2 := Gw.of (s := s) (j2 _ _ np4) (fun k => ⟨j2 _ k (np1 k), j2 _ k (np2 k), j2 _ k (np3 k)⟩) e41 (fun k => j3 166 k (by unfold P195; omega))
                  exact ⟨k1.tr j4, k2.tr j5, Or.inr ⟨rfl, rfl, j1, o', l', ⟨by rw [j2 _ _ np5]; exact q1, by rw [j3 148 42 (by unfold P195; omega)]; exact q2, q4⟩, ⟨by rw [j2 _ _ np4]; exact q5, q6⟩, by rw [j3 148 43 (by unfold P195; omega), q8]; omega, by omega, by omega, (g8.tr q13).tr hG2, by rw [e41, q14], cc, by rw [j3 148 44 (by unfold P195; omega)]; exact q15.gw hG2 n6 (by omega), by omega⟩⟩
          · exact absurd d q
        · -- not
          rcases C with ⟨q, _⟩ | ⟨-, v33, m31, r97, hv, C⟩
          · exact absurd q d
          · obtain ⟨Nb, igb, r253⟩ := Run_CR r253 rfl
            have r253 : MR X ρ 1 0 0 qP253 Nb 0 [148] [] m70 (igb, [(1, u')], b1) := r253
            obtain ⟨v4, n2', r261, hv4, D⟩ := s253_0 r253
            obtain ⟨k1, k2, k3⟩ := ih1 _ _ _ _ _ _ _ _ g1 hN1 g9 r97 r261
            rcases k3 with ⟨x1, x2, x3⟩ | ⟨x1, x2, x3, o', l', ⟨⟨q1, q2, q3, q4⟩, ⟨q5, q6, q7⟩, q8, q9, q10⟩, q11, q12, q13, q14, cc, q15, q16⟩
            · rcases C with ⟨-, C⟩ | ⟨q, _⟩
              · rcases D with ⟨-, D⟩ | ⟨q, _⟩
                · cases C; cases D
                  exact ⟨k1, k2, Or.inl ⟨rfl, rfl, x3⟩⟩
                · exact absurd x2 q
              · exact absurd x1 q
            · rcases C with ⟨q, _⟩ | ⟨-, y40, e40, C⟩
              · omega
              rcases D with ⟨q, _⟩ | ⟨-, y11, f11, y12, f12, D⟩
              · omega
              have hz : Fr (fun x k => x = 148 ∧ k = 44) (g268 n2' 148 1 (n2' 148 44) 0 0) y12 := by rw [f12, f11]; exact (Fr.rf _ _).mu ⟨rfl, rfl⟩
              obtain ⟨j1, j2, j3, j4, j5, j6, j7, j8⟩ := wrS hs x3 (by omega) (by omega) 0 0 0 _ _ _ _ hz
              obtain ⟨r1, r2, ⟨r3, -, -⟩, r6, r7, -⟩ := wrR hs x3 (by omega) (by omega) (by omega) (by omega) 0 0 0 _ _ _ _ hz
              have e44 : y12 148 44 = n2' 148 41 := by rw [f12, mu_s]; exact (g268_v x3.2.2.2 (by omega) (by omega) _ _ _ _).2.1
              have hn := q15.n
              rw [s32_id (z := 0) (by decide) (by decide)] at r3
              rw [s32_id (z := 1) (by decide) (by decide)] at r6
              rw [s32_id (z := n2' 148 44) (by omega) (by omega)] at r7
              rw [q5] at r3
              have hR := (q15.gw r1 n6 (by omega)).not (n' := n2' 148 41) (by omega) (by omega) r3 r6 r7
              rw [← e44] at hR
              rcases C with ⟨q, _⟩ | ⟨-, C⟩
              · rw [j1] at q; exact absurd q (by decide)
              · cases C; cases D
                rw [e40]
                exact ⟨k1.tr j3, k2.tr j4, Or.inr ⟨rfl, rfl, j2, o', l' + 1, ⟨by rw [j5]; exact q1, by rw [j6]; exact q2, q4⟩, ⟨by rw [j7, q5], by omega⟩, by rw [j8, q8]; omega, by omega, by omega, (g8.tr q13).tr r1, by rw [r2, q14], cc, hR, by omega⟩⟩
      rcases A with ⟨mk, A⟩ | ⟨mk, z19, z20, r98, hv, A⟩
      · rcases B with ⟨-, B⟩ | ⟨q, _⟩
        · obtain ⟨k1, k86⟩ : a 1 4 = 1 ∧ ¬ f86 X a (a 1 8) = 0 := by
            rcases c with c | c
            · exact absurd mk c
            · exact c
          have hW := WQ_ok hS p1 k1
          obtain ⟨i, i0, i1, i2⟩ := (f86_w hW).2 k86
          obtain ⟨W0, W1, W2⟩ : 18 ≤ W ∧ W ≤ 29 ∧ ¬ f217 b 148 W = 0 := by
            rcases eW with h | ⟨-, e3⟩
            · exact h
            · exact absurd (e3 i i0 i1) i2
          have is : ∀ i : Int, 0 ≤ i → i < 30 → (¬ f217 b 148 i = 0 ↔ W = i) := fun i j0 j1 => ⟨fun h => word_1 (by omega) (by omega) j0 j1 W2 h, fun h => by rw [← h]; exact W2⟩
          obtain ⟨h1, h2, h3, h4', h5, h6, h7, h8, h9, h10, h11, h12⟩ := hW
          rw [is 18 (by decide) (by decide)] at h1
          rw [is 23 (by decide) (by decide)] at h2
          rw [is 24 (by decide) (by decide)] at h3
          rw [is 25 (by decide) (by decide)] at h4'
          rw [is 26 (by decide) (by decide)] at h5
          rw [is 27 (by decide) (by decide)] at h6
          rw [is 28 (by decide) (by decide)] at h7
          rw [is 29 (by decide) (by decide)] at h8
          rw [is 19 (by decide) (by decide)] at h9
          rw [is 20 (by decide) (by decide)] at h10
          rw [is 21 (by decide) (by decide)] at h11
          rw [is 22 (by decide) (by decide)] at h12
          have e18 : f155 X a 1 1000017 = 0 ↔ ¬ W = 18 := by
            unfold f155
            rw [if_pos k1, ← h1]
            by_cases q : qer X (a 1 8) 1000017
            · rw [if_pos q]; exact ⟨fun z => absurd z (by decide), fun z => absurd q z⟩
            · rw [if_neg q]; exact ⟨fun _ => q, fun _ => rfl⟩
          rcases A with ⟨nn, z2, r2, A⟩ | ⟨nn, z17, z18, r98, hv, A⟩
          · have nW := e18.mp nn
            rcases B with ⟨q, _⟩ | ⟨-, B⟩
            · exact absurd q nW
            obtain ⟨g1, g2, g3, g4, g5, g6, g7, g8, g9⟩ := gone z2 r2
            have pers : ∀ (u : Int) (y : MM), Run X ρ 99 [(1, s), (1, 1), (1, 3), (1, a 1 8)] z2 [(1, u)] y → (ig, [(1, v)], a') = ((.ireturn, [(1, u)], y) : Instr × List (Nat × Int) × MM) → 24 ≤ W → W ≤ 26 → RRr X t L s a b a' b' v v' o l w := fun u y r e q1 q2 => by
              rcases B with ⟨-, B⟩ | ⟨q, _⟩
              · rcases B with ⟨q, _⟩ | ⟨-, v84, m82, r82, hv8, y85, e85, B⟩
                · omega
                · cases e; cases B
                  exact leaf z2 _ _ _ r2 (leafPr hX hs g1 (by omega) (by omega) (by rw [h3, h4']; omega) (by omega) (by omega) r r82) e85
              · omega
            have nums : ∀ (u : Int) (y : MM), Run X ρ 96 [(1, s), (1, 1), (1, a 1 8)] z2 [(1, u)] y → (ig, [(1, v)], a') = ((.ireturn, [(1, u)], y) : Instr × List (Nat × Int) × MM) → 27 ≤ W → RRr X t L s a b a' b' v v' o l w := fun u y r e q1 => by
              rcases B with ⟨-, B⟩ | ⟨q, _⟩
              · rcases B with ⟨-, v79, m77, r77, hv7, y80, e80, B⟩ | ⟨q, _⟩
                · cases e; cases B
                  exact leaf z2 _ _ _ r2 (leafNr hX hs g1 (by omega) (by omega) (by rw [h6, h7]; omega) (by omega) (by omega) r r77) e80
                · omega
              · omega
            have plain : ∀ (k x u : Int), (ig, [(1, v)], a') = ((.ireturn, [(1, f101 z2 s k x u)], g101 z2 s k x u) : Instr × List (Nat × Int) × MM) → W < 24 → Leaf (s32 k) (s32 x) (s32 u) (s32 (s32 (50 + W))) (s32 0) (s32 0) (s32 0) → RRr X t L s a b a' b' v v' o l w := fun k x u e q1 hL => by
              rcases B with ⟨q, _⟩ | ⟨-, y91, e91, y92, e92, y93, e93, B⟩
              · omega
              · have hz : Fr (fun x k => x = 148 ∧ k = 44) (g268 m70 148 (s32 (50 + W)) 0 0 0) y92 := by rw [e92, e91]; exact (Fr.rf _ _).mu ⟨rfl, rfl⟩
                obtain ⟨j1, j2, j3, j4, j5, j6, j7, j8⟩ := wrS hs g1 (by omega) (by omega) k x u _ _ _ _ hz
                obtain ⟨y1, y2, y3⟩ := wrL hs g1 (k := k) (x := x) (v := u) (p := s32 (50 + W)) (q := 0) (r := 0) (u := 0) (z := y92) (by omega) (by omega) (by omega) (by omega) (by rw [e92, e91]) hL
                rw [j1] at e
                cases e; cases B
                exact leaf z2 y92 1 1 r2 ⟨j3, j4, Or.inr ⟨rfl, rfl, j2, j5, j6, j7, j8, y1, y2, y3⟩⟩ e93
            rcases A with ⟨q, u, y, r, hu, A⟩ | ⟨q3, A⟩
            · have := h3.mp q; exact pers u y r A (by omega) (by omega)
            rcases A with ⟨q, u, y, r, hu, A⟩ | ⟨q4, A⟩
            · have := h4'.mp q; exact pers u y r A (by omega) (by omega)
            rcases A with ⟨q, u, y, r, hu, A⟩ | ⟨q5, A⟩
            · have := h5.mp q; exact pers u y r A (by omega) (by omega)
            rcases A with ⟨q, u, y, r, hu, A⟩ | ⟨q6, A⟩
            · have := h6.mp q; exact nums u y r A (by omega)
            rcases A with ⟨q, u, y, r, hu, A⟩ | ⟨q7, A⟩
            · have := h7.mp q; exact nums u y r A (by omega)
            rcases A with ⟨q, u, y, r, hu, A⟩ | ⟨q8, A⟩
            · have := h8.mp q; exact nums u y r A (by omega)
            have x3 : ¬ W = 24 := fun z => q3 (h3.mpr z)
            have x4 : ¬ W = 25 := fun z => q4 (h4'.mpr z)
            have x5 : ¬ W = 26 := fun z => q5 (h5.mpr z)
            have x6 : ¬ W = 27 := fun z => q6 (h6.mpr z)
            have x7 : ¬ W = 28 := fun z => q7 (h7.mpr z)
            have x8 : ¬ W = 29 := fun z => q8 (h8.mpr z)
            have e50 : s32 (s32 (50 + W)) = 50 + W := by rw [s32_id (z := 50 + W) (by omega) (by omega), s32_id (by omega) (by omega)]
            rw [e50] at plain
            rcases A with ⟨q, y, ey, A⟩ | ⟨q, y, ey, A⟩
            · rw [ey] at A
              have := h2.mp q
              exact plain _ _ _ A (by omega) (Or.inr (Or.inl ⟨s32_id (by decide) (by decide), by omega⟩))
            · rw [ey] at A
              have x2 : ¬ W = 23 := fun z => q (h2.mpr z)
              have e92 : f92 X z2 (a 1 8) = W - 19 := by
                unfold f92
                by_cases d1 : W = 19
                · rw [if_pos (h9.mpr d1)]; omega
                rw [if_neg (fun z => d1 (h9.mp z))]
                by_cases d2 : W = 20
                · rw [if_pos (h10.mpr d2)]; omega
                rw [if_neg (fun z => d2 (h10.mp z))]
                by_cases d3 : W = 21
                · rw [if_pos (h11.mpr d3)]; omega
                rw [if_neg (fun z => d3 (h11.mp z)), if_pos (h12.mpr (by omega))]; omega
              refine plain _ _ _ A (by omega) (Or.inl ⟨s32_id (by decide) (by decide), ?_, ?_, ?_⟩)
              · rw [e92, s32_id (by omega) (by omega)]; omega
              · rw [e92, s32_id (by omega) (by omega)]; omega
              · rw [e92, s32_id (by omega) (by omega)]; omega
          · have eW : W = 18 := Decidable.of_not_not fun z => nn (e18.mpr z)
            rcases B with ⟨-, v97, m95, r95, hv9, y98, e98, B⟩ | ⟨q, _⟩
            · cases A; cases B
              exact outer _ _ _ r98 (Or.inr ⟨nn, r95⟩) e98
            · exact absurd eW q
        · exact absurd mk q
      · rcases B with ⟨q, _⟩ | ⟨-, v102, m100, r100, hv1, y103, e103, B⟩
        · exact absurd q mk
        · have nn : f155 X a 1 1000017 = 0 := by
            unfold f155
            rw [if_neg (fun q => mk (by unfold f152; rw [if_neg (by omega)]))]
          cases A; cases B
          exact outer _ _ _ r98 (Or.inl ⟨nn, r100⟩) e103
    · rcases B with ⟨d, y', ey', B⟩ | ⟨d, _⟩
      · rw [f168_0] at B
        cases A; cases B
        exact bad4 _ _ _ _ h4 rfl rfl ey ey'
      · omega
end
