/-! Questions: served. -/
set_option maxRecDepth 16384 in
theorem jor_jand0 (x y M : Int) : jand (jor x y) M = 0 ↔ jand x M = 0 ∧ jand y M = 0 := by
  rw [jand_eq, jand_eq, jand_eq, jor_eq]
  unfold o32
  rw [i32_z, i32_z, i32_z, Int32.toBitVec_and, Int32.toBitVec_and, Int32.toBitVec_and, Int32.ofInt_toInt, Int32.toBitVec_or]
  generalize (Int32.ofInt x).toBitVec = A
  generalize (Int32.ofInt y).toBitVec = B
  generalize (Int32.ofInt M).toBitVec = C
  constructor
  · intro h
    constructor
    · ext i hi
      have := congrArg (fun z => z.getLsbD i) h
      simp only [BitVec.getLsbD_and, BitVec.getLsbD_or] at this
      simp only [BitVec.getElem_and, BitVec.getElem_zero, BitVec.getLsbD_zero, BitVec.getLsbD_eq_getElem hi] at this ⊢
      revert this
      cases A[i] <;> cases B[i] <;> cases C[i] <;> simp
    · ext i hi
      have := congrArg (fun z => z.getLsbD i) h
      simp only [BitVec.getLsbD_and, BitVec.getLsbD_or] at this
      simp only [BitVec.getElem_and, BitVec.getElem_zero, BitVec.getLsbD_zero, BitVec.getLsbD_eq_getElem hi] at this ⊢
      revert this
      cases A[i] <;> cases B[i] <;> cases C[i] <;> simp
  · rintro ⟨h1, h2⟩
    ext i hi
    have t1 := congrArg (fun z => z.getLsbD i) h1
    have t2 := congrArg (fun z => z.getLsbD i) h2
    simp only [BitVec.getLsbD_and] at t1 t2
    simp only [BitVec.getElem_and, BitVec.getElem_or, BitVec.getElem_zero, BitVec.getLsbD_zero, BitVec.getLsbD_eq_getElem hi] at t1 t2 ⊢
    revert t1 t2
    cases A[i] <;> cases B[i] <;> cases C[i] <;> simp
set_option maxRecDepth 16384 in
theorem jand_c (x y : Int) : jand x y = jand y x := by
  rw [jand_eq, jand_eq]
  show (Int32.ofInt x &&& Int32.ofInt y).toInt = (Int32.ofInt y &&& Int32.ofInt x).toInt
  rw [Int32.and_comm]
set_option maxRecDepth 16384 in
theorem jand_0 (M : Int) : jand 0 M = 0 := by
  rw [jand_eq]
  unfold o32
  rw [i32_z, Int32.toBitVec_and]
  simp
set_option maxRecDepth 16384 in
/-- who is wanted for a hurt -/
def Hc (a : MM) (s f j : Int) : Prop := j ≠ a 6 f ∧ j ≠ f128 a s f ∧ jand (a 8 j) (jshl 1 (a 6 f)) = 0
set_option maxRecDepth 16384 in
theorem f84_8 {a b : MM} {s : Int} (h : Sx a b s) {j : Int} (j0 : 0 ≤ j) (j1 : j < a 3 6) : f84 a 3 j = a 8 j := by
  have e73 : ¬ f73 a 3 j = 0 := fun q => by
    rw [q73 h j] at q
    exact (q213i h).mp q ⟨j0, j1⟩
  obtain ⟨-, -, -, -, r4⟩ := h.1.1
  unfold f84
  rw [if_neg e73]
  first
    | rw [r4]; rfl
    | (have : a 3 4 = 8 := by first | exact r4 | omega
       rw [this])
set_option maxRecDepth 16384 in
theorem q144 {a b : MM} {s : Int} (h : Sx a b s) {f M : Int} (f0 : 0 ≤ f) (f1 : f < a 3 7) : jand (f144 a s f) M = 0 ↔ ∀ j, 0 ≤ j → j < a 3 6 → Hc a s f j → jand (jshl 1 j) M = 0 := by
  obtain ⟨e, e0, e8⟩ := h.p
  have hs0 := h.le
  have h66 := q66 h f0 f1
  unfold f144
  rw [hs0, h66.1]
  unfold L144_21
  refine Lp_ind (f := K144_21 a s f (a 6 f) (f128 a s f) 0 0) (P := fun x => 0 ≤ x.2 ∧ x.2 ≤ a 3 6 ∧ (jand x.1 M = 0 ↔ ∀ j, 0 ≤ j → j < x.2 → Hc a s f j → jand (jshl 1 j) M = 0)) (Q := fun t => jand t.2.2.1 M = 0 ↔ ∀ j, 0 ≤ j → j < a 3 6 → Hc a s f j → jand (jshl 1 j) M = 0) (fun x => (a 3 6 - x.2).toNat) ?_ (0, 0) ⟨Int.le_refl _, e0, ⟨fun _ j j0 j1 => by dsimp only at j1; omega, fun _ => jand_0 M⟩⟩
  rintro ⟨x, i⟩ ⟨c2, c3, c4⟩
  dsimp only at c2 c3 c4
  have eA : K144_21 a s f (a 6 f) (f128 a s f) 0 0 (x, i) = S144_21 a s f (a 6 f) (f128 a s f) x i := rfl
  rw [eA]
  unfold S144_21
  rw [hs0]
  by_cases c : a 3 6 ≤ i
  · rw [if_pos c]
    refine Or.inr ⟨_, rfl, ?_⟩
    have : i = a 3 6 := by omega
    rw [this] at c4
    exact c4
  · rw [if_neg c, s32_id (z := i + 1) (by omega) (by omega), f84_8 h c2 (by omega)]
    left
    have skip : ¬ Hc a s f i → (jand x M = 0 ↔ ∀ j, 0 ≤ j → j < i + 1 → Hc a s f j → jand (jshl 1 j) M = 0) := fun n => by
      rw [c4]
      exact ⟨fun q j j0 j1 hj => by
        by_cases d : j = i
        · rw [d] at hj
          exact absurd hj n
        · exact q j j0 (by omega) hj, fun q j j0 j1 => q j j0 (by omega)⟩
    by_cases d1 : i = a 6 f
    · rw [if_pos d1]
      exact ⟨_, rfl, ⟨by dsimp only; omega, by dsimp only; omega, skip (fun q => q.1 d1)⟩, by dsimp only; omega⟩
    · rw [if_neg d1]
      by_cases d2 : i = f128 a s f
      · rw [if_pos d2]
        exact ⟨_, rfl, ⟨by dsimp only; omega, by dsimp only; omega, skip (fun q => q.2.1 d2)⟩, by dsimp only; omega⟩
      · rw [if_neg d2]
        by_cases d3 : jand (a 8 i) (jshl 1 (a 6 f)) = 0
        · rw [if_pos d3]
          refine ⟨_, rfl, ⟨by dsimp only; omega, by dsimp only; omega, ?_⟩, by dsimp only; omega⟩
          dsimp only
          rw [jor_jand0, c4]
          exact ⟨fun q j j0 j1 hj => by
            by_cases d : j = i
            · rw [d]; exact q.2
            · exact q.1 j j0 (by omega) hj, fun q => ⟨fun j j0 j1 => q j j0 (by omega), q i c2 (by omega) ⟨d1, d2, d3⟩⟩⟩
        · rw [if_neg d3]
          exact ⟨_, rfl, ⟨by dsimp only; omega, by dsimp only; omega, skip (fun q => d3 q.2.2)⟩, by dsimp only; omega⟩
set_option maxRecDepth 16384 in
theorem q216 {a b : MM} {s : Int} (h : Sx a b s) {f j : Int} (f0 : 0 ≤ f) (f1 : f < a 3 7) (j0 : 0 ≤ j) (j1 : j < a 3 6) : f216 b 148 j f (f204 b 148 f) = 0 ↔ ¬ Hc a s f j := by
  obtain ⟨e, e0, e8⟩ := h.p
  have hab := h.ab f0 f1
  have h66 := q66 h f0 f1
  have hac : a 8 j = b 150 (4 + j) := (h.2.1.2.2.2.1 j j0 (by omega)).1.trans (by rw [Int.zero_add])
  unfold f216 Hc
  rw [h.bn, h66.2, ← q128 h f0 f1, s32_id (z := 4 + j) (by omega) (by omega), ← hac]
  have hk := has_ok b (a 8 j) (a 6 f) hab.2.1 hab.2.2
  by_cases d1 : j = a 6 f
  · rw [if_pos d1]
    exact ⟨fun _ q => q.1 d1, fun _ => rfl⟩
  · rw [if_neg d1]
    by_cases d2 : j = f128 a s f
    · rw [if_pos d2]
      exact ⟨fun _ q => q.2.1 d2, fun _ => rfl⟩
    · rw [if_neg d2]
      by_cases d3 : f199 b (a 8 j) (a 6 f) = 0
      · rw [if_pos d3]
        exact ⟨fun q => absurd q (by decide), fun q => absurd ⟨d1, d2, hk.mp d3⟩ q⟩
      · rw [if_neg d3]
        exact ⟨fun _ q => d3 (hk.mpr q.2.2), fun _ => rfl⟩
set_option maxRecDepth 16384 in
theorem q201 {a b : MM} {s : Int} (h : Sx a b s) {f M : Int} (f0 : 0 ≤ f) (f1 : f < a 3 7) : f201 b 148 f M = 0 ↔ ∀ j, 0 ≤ j → j < a 3 6 → Hc a s f j → f199 b M j = 0 := by
  obtain ⟨e, e0, e8⟩ := h.p
  have hb := h.bn
  unfold f201
  have key : ∀ t : Nat × Int × Int, ((t.1 = 1 ∧ ∀ j, 0 ≤ j → j < a 3 6 → Hc a s f j → f199 b M j = 0) ∨ (t.1 = 2 ∧ t.2.1 = 1 ∧ ∃ j, 0 ≤ j ∧ j < a 3 6 ∧ Hc a s f j ∧ ¬ f199 b M j = 0)) → ((if t.1 = 1 then (0 : Int) else t.2.1) = 0 ↔ ∀ j, 0 ≤ j → j < a 3 6 → Hc a s f j → f199 b M j = 0) := by
    rintro t (⟨t1, t2⟩ | ⟨t1, t2, j, j0, j1, j2, j3⟩)
    · rw [if_pos t1]
      exact ⟨fun _ => t2, fun _ => rfl⟩
    · rw [if_neg (by omega), t2]
      exact ⟨fun q => absurd q (by decide), fun q => absurd (q j j0 j1 j2) j3⟩
  refine key _ ?_
  unfold L201_2
  refine Lp_ind (f := K201_2 b 148 f M 0) (P := fun x => 0 ≤ x ∧ x ≤ a 3 6 ∧ ∀ j, 0 ≤ j → j < x → Hc a s f j → f199 b M j = 0) (Q := fun t => (t.1 = 1 ∧ ∀ j, 0 ≤ j → j < a 3 6 → Hc a s f j → f199 b M j = 0) ∨ (t.1 = 2 ∧ t.2.1 = 1 ∧ ∃ j, 0 ≤ j ∧ j < a 3 6 ∧ Hc a s f j ∧ ¬ f199 b M j = 0)) (fun x => (a 3 6 - x).toNat) ?_ 0 ⟨Int.le_refl _, e0, fun j j0 j1 => by omega⟩
  rintro i ⟨c2, c3, c4⟩
  have eA : K201_2 b 148 f M 0 i = S201_2 b 148 f M i := rfl
  rw [eA]
  unfold S201_2
  rw [hb, ← e]
  by_cases c : a 3 6 ≤ i
  · rw [if_pos c]
    have : i = a 3 6 := by omega
    rw [this] at c4
    exact Or.inr ⟨_, rfl, Or.inl ⟨rfl, c4⟩⟩
  · have q := q216 h (f := f) (j := i) f0 f1 c2 (by omega)
    rw [if_neg c, s32_id (z := i + 1) (by omega) (by omega)]
    have ext1 : (Hc a s f i → f199 b M i = 0) → ∀ j, 0 ≤ j → j < i + 1 → Hc a s f j → f199 b M j = 0 := fun n j j0 j1 hj => by
      by_cases d : j = i
      · rw [d] at hj ⊢
        exact n hj
      · exact c4 j j0 (by omega) hj
    by_cases d1 : f199 b M i = 0
    · rw [if_pos d1]
      exact Or.inl ⟨_, rfl, ⟨by omega, by omega, ext1 (fun _ => d1)⟩, by omega⟩
    · rw [if_neg d1]
      by_cases d2 : f216 b 148 i f (f204 b 148 f) = 0
      · rw [if_pos d2]
        exact Or.inl ⟨_, rfl, ⟨by omega, by omega, ext1 (fun z => absurd z (q.mp d2))⟩, by omega⟩
      · rw [if_neg d2]
        refine Or.inr ⟨_, rfl, Or.inr ⟨rfl, rfl, i, c2, by omega, ?_, d1⟩⟩
        by_cases z : Hc a s f i
        · exact z
        · exact absurd (q.mpr z) d2
set_option maxRecDepth 16384 in
/-- served: counted alike -/
theorem served_eq {a b : MM} {s : Int} (h : Sx a b s) {M M' : Int} (hM : ∀ j, 0 ≤ j → j < a 3 6 → (jand (jshl 1 j) M = 0 ↔ f199 b M' j = 0)) {f : Int} (f0 : 0 ≤ f) (f1 : f < a 3 7) : jand (f144 a s f) M = 0 ↔ f201 b 148 f M' = 0 := by
  rw [q144 h f0 f1, q201 h f0 f1]
  exact ⟨fun q j j0 j1 hj => (hM j j0 j1).mp (q j j0 j1 hj), fun q j j0 j1 hj => (hM j j0 j1).mpr (q j j0 j1 hj)⟩
set_option maxRecDepth 16384 in
theorem jand_m1 (x : Int) (h : s32 x = x) : jand x (-1) = x := by
  rw [jand_eq]
  show (Int32.ofInt x &&& Int32.ofInt (-1)).toInt = x
  have : Int32.ofInt x &&& Int32.ofInt (-1) = Int32.ofInt x := by
    rw [← Int32.toBitVec_inj, Int32.toBitVec_and]
    have : (Int32.ofInt (-1)).toBitVec = BitVec.allOnes 32 := by decide
    rw [this, BitVec.and_allOnes]
  rw [this, ← s32_eq]
  exact h
set_option maxRecDepth 16384 in
theorem full_bit (m : MM) (n : Nat) (hn : n < 9) (j : Nat) (hj : j < n) : ¬ f199 m (s32 (jshl 1 (n : Int) - 1)) (j : Int) = 0 := by
  have key : ∀ n : Nat, n < 9 → ∀ j : Nat, j < n → ¬ (if o32 (fun a b => a &&& b) (o32 (fun a b => a >>> (b &&& 31)) (Int32.ofInt (o32 (fun a b => a <<< (b &&& 31)) 1 (n : Int) - 1)).toInt (j : Int)) 1 = 1 then (1 : Int) else 0) = 0 := by decide
  unfold f199
  rw [jand_eq, jshr_eq, s32_eq, jshl_eq]
  exact key n hn j hj
