/-! feed() puts the same bytes down on both sides. -/
set_option maxRecDepth 16384 in
theorem b255 : ∀ i : Nat, i < 32 → (255#32).getLsbD i = decide (i < 8) := by decide
set_option maxRecDepth 16384 in
theorem byte_bv (y : BitVec 32) : ((y.signExtend 8).signExtend 32) &&& 255#32 = y &&& 255#32 := by
  apply BitVec.eq_of_getLsbD_eq
  intro i hi
  rw [BitVec.getLsbD_and, BitVec.getLsbD_and, b255 i hi]
  by_cases h : i < 8
  · rw [BitVec.getLsbD_signExtend, BitVec.getLsbD_signExtend]
    simp [h, hi]
  · simp [h]
set_option maxRecDepth 16384 in
theorem nar_b (x : Int32) : vp_nar .byte x = x.toInt8.toInt32 := rfl
set_option maxRecDepth 16384 in
theorem byte_ok (y : Int) : jand (jbst 2 (ji2b y)) 255 = jand y 255 := by
  rw [jand_eq, jand_eq, jbst_eq, ji2b_eq]
  show o32 (fun a b => a &&& b) ((vp_nar .byte (Int32.ofInt ((Int32.ofInt y).toInt8.toInt32).toInt)).toInt) 255 = _
  rw [Int32.ofInt_toInt, nar_b]
  unfold o32
  rw [Int32.ofInt_toInt]
  congr 1
  apply Int32.toBitVec_inj.mp
  rw [Int32.toBitVec_and, Int32.toBitVec_and]
  rw [show (Int32.ofInt 255).toBitVec = 255#32 by decide, Int8.toBitVec_toInt32, Int32.toBitVec_toInt8, Int8.toBitVec_toInt32, Int32.toBitVec_toInt8, byte_bv, byte_bv]
set_option maxRecDepth 16384 in
theorem s32_jand (a b : Int) : s32 (jand a b) = jand a b := by
  rw [jand_eq]
  unfold o32
  exact s32_id (Int32.le_toInt _) (Int32.toInt_lt _)
set_option maxRecDepth 16384 in
/-- the tapes, all over -/
def TJ (a b : MM) (L : Int) : Prop := a 1 0 = 2 ∧ a 2 (-1) = 940 ∧ a 2 (-2) = 2 ∧ b 148 1 = 149 ∧ a 1 1 = L ∧ b 148 2 = L ∧ 0 ≤ L ∧ ∀ j, 0 ≤ j → j < 940 → jand (a 2 j) 255 = b 149 j
set_option maxRecDepth 16384 in
theorem add_pair {X : KO} {ρ : Nat → Int32} {x : Int} {o o' : Instr × List (Nat × Int) × MM} : ∀ (k : Nat) (N M : Nat) (a b : MM) (L : Int), k ≤ 4 → MR X ρ 3 0 0 qP147 N 3 [1, x, 8 * (k : Int) - 8] [] a o → MR X ρ 3 0 0 qP176 M 3 [148, x, 8 * (k : Int) - 8] [] b o' → TJ a b L → L + k ≤ 940 → TJ o.2.2 o'.2.2 (L + k) ∧ o.2.2 0 0 = a 0 0 := by
  intro k
  induction k with
  | zero =>
    intro N M a b L _ ha hb h hL
    rcases i147_3 ha with ⟨_, ha⟩ | ⟨c, _⟩
    · rcases i176_3 hb with ⟨_, hb⟩ | ⟨c, _⟩
      · rw [ha, hb]
        show TJ a b (L + 0) ∧ a 0 0 = a 0 0
        rw [Int.add_zero]
        exact ⟨h, rfl⟩
      · omega
    · omega
  | succ k ih =>
    intro N M a b L hk ha hb h hL
    obtain ⟨h1, h2, h3, h4, h5, h6, h7, h8⟩ := h
    have es : s32 ((8 * ((k + 1 : Nat) : Int) - 8) + (-8)) = 8 * (k : Int) - 8 := by
      rw [s32_id (by omega) (by omega)]
      omega
    have hL1 : ((k + 1 : Nat) : Int) = (k : Int) + 1 := rfl
    have A := i147_3 ha
    have B := i176_3 hb
    rw [es] at A B
    rw [h1, h2, h3, h5] at A
    rw [h4, h6] at B
    have e30 : (if (2 : Int) = 1000050 then 30 else s32 940) = 940 := by
      rw [if_neg (by decide)]
      exact s32_id (by decide) (by decide)
    rw [e30] at A
    rcases A with ⟨c, _⟩ | ⟨_, A⟩
    · omega
    rcases B with ⟨c, _⟩ | ⟨_, M', e, B⟩
    · omega
    rcases A with ⟨c, _⟩ | ⟨_, A⟩
    · omega
    rcases A with ⟨c, _⟩ | ⟨_, N', e', A⟩
    · omega
    have w1 : (mu a 2 L (jbst 2 (ji2b (jushr x (8 * ((k + 1 : Nat) : Int) - 8))))) 1 1 = L := by rw [mu_a (by decide)]; exact h5
    have w2 : (mu b 149 L (s32 (jand (jushr x (8 * ((k + 1 : Nat) : Int) - 8)) 255))) 148 2 = L := by rw [mu_a (by decide)]; exact h6
    rw [w1, s32_id (z := L + 1) (by omega) (by omega)] at A
    rw [w2, s32_id (z := L + 1) (by omega) (by omega), s32_jand] at B
    have hn : TJ (mu (mu a 2 L (jbst 2 (ji2b (jushr x (8 * ((k + 1 : Nat) : Int) - 8))))) 1 1 (L + 1)) (mu (mu b 149 L (jand (jushr x (8 * ((k + 1 : Nat) : Int) - 8)) 255)) 148 2 (L + 1)) (L + 1) := by
      refine ⟨?_, ?_, ?_, ?_, mu_s _ _ _ _, mu_s _ _ _ _, by omega, fun j j1 j2 => ?_⟩
      · rw [mu_k (by decide), mu_a (by decide)]; exact h1
      · rw [mu_a (by decide), mu_k (by omega)]; exact h2
      · rw [mu_a (by decide), mu_k (by omega)]; exact h3
      · rw [mu_k (by decide), mu_a (by decide)]; exact h4
      · rw [mu_a (by decide), mu_a (b := 149) (by decide)]
        by_cases d : j = L
        · rw [d, mu_s, mu_s, byte_ok]
        · rw [mu_k d, mu_k d]; exact h8 j j1 j2
    obtain ⟨g1, g2⟩ := ih N' M' _ _ (L + 1) (by omega) A B hn (by omega)
    refine ⟨?_, ?_⟩
    · rw [show L + ((k + 1 : Nat) : Int) = L + 1 + (k : Int) by omega]
      exact g1
    · rw [g2, mu_a (by decide), mu_a (by decide)]
set_option maxRecDepth 16384 in
theorem byte4 {X : KO} {ρ : Nat → Int32} {x : Int} {a a' b b' : MM} {rl rl' : List (Nat × Int)} {L : Int} (h : TJ a b L) (hL : L + 4 ≤ 940) (ra : Run X ρ 147 [(1, 1), (1, x)] a rl a') (rb : Run X ρ 176 [(1, 148), (1, x)] b rl' b') : TJ a' b' (L + 4) ∧ a' 0 0 = a 0 0 := by
  obtain ⟨N, ig, ra⟩ := Run_CR ra rfl
  have ra : MR X ρ 3 0 0 qP147 N 0 [1, x, 0] [] a (ig, rl, a') := ra
  obtain ⟨M, ig', rb⟩ := Run_CR rb rfl
  have rb : MR X ρ 3 0 0 qP176 M 0 [148, x, 0] [] b (ig', rl', b') := rb
  exact add_pair 4 N M a b L (Nat.le_refl _) (i147_0 ra) (i176_0 rb) h hL
set_option maxRecDepth 16384 in
theorem feed_pair {X : KO} {ρ : Nat → Int32} {x1 x2 x3 x4 x5 : Int} {a a' b b' : MM} {rl rl' : List (Nat × Int)} {L : Int} (h0 : a 0 0 = 1) (h : TJ a b L) (hL : L ≤ 940) (ra : Run X ρ 15 [(1, 0), (1, x1), (1, x2), (1, x3), (1, x4), (1, x5)] a rl a') (rb : Run X ρ 189 [(1, 148), (1, x1), (1, x2), (1, x3), (1, x4), (1, x5)] b rl' b') : ∃ L', TJ a' b' L' ∧ rl = rl' := by
  obtain ⟨N, ig, ra⟩ := Run_CR ra rfl
  have ra : MR X ρ 6 0 0 qP15 N 0 [0, x1, x2, x3, x4, x5] [] a (ig, rl, a') := ra
  obtain ⟨M, ig', rb⟩ := Run_CR rb rfl
  have rb : MR X ρ 6 0 0 qP189 M 0 [148, x1, x2, x3, x4, x5] [] b (ig', rl', b') := rb
  obtain ⟨h1, h2, h3, h4, h5, h6, h7, h8⟩ := h
  have A := i15_0 ra
  have B := i189_0 rb
  have hb0 : TJ a (mu b 148 0 0) L := ⟨h1, h2, h3, by rw [mu_k (by decide)]; exact h4, h5, by rw [mu_k (by decide)]; exact h6, h7, fun j j1 j2 => by rw [mu_a (by decide)]; exact h8 j j1 j2⟩
  have eb : (mu b 148 0 0) 148 2 = L := hb0.2.2.2.2.2.1
  rw [eb, s32_id (z := L + 20) (by omega) (by omega)] at B
  rw [h0, h5, s32_id (z := L + 20) (by omega) (by omega)] at A
  rcases A with ⟨c, m3, r3, m6, r6, m9, r9, m12, r12, m15, r15, A⟩ | ⟨c, A⟩
  · rcases B with ⟨d, n3, q3, n6, q6, n9, q9, n12, q12, n15, q15, B⟩ | ⟨d, _⟩
    · obtain ⟨t1, e1⟩ := byte4 hb0 (by omega) r3 q3
      rw [e1, h0] at r6
      obtain ⟨t2, e2⟩ := byte4 t1 (by omega) r6 q6
      rw [e2, e1, h0] at r9
      obtain ⟨t3, e3⟩ := byte4 t2 (by omega) r9 q9
      rw [e3, e2, e1, h0] at r12
      obtain ⟨t4, e4⟩ := byte4 t3 (by omega) r12 q12
      rw [e4, e3, e2, e1, h0] at r15
      obtain ⟨t5, e5⟩ := byte4 t4 (by omega) r15 q15
      cases A; cases B
      refine ⟨_, t5, ?_⟩
      rw [e5, e4, e3, e2, e1, h0, t5.2.2.2.2.1, t5.2.2.2.2.2.1]
    · exact absurd c d
  · rcases B with ⟨d, _⟩ | ⟨d, B⟩
    · exact absurd d c
    · cases A; cases B
      exact ⟨_, hb0, rfl⟩
