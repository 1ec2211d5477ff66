/-! office() with all that is so. -/
set_option maxRecDepth 16384 in
theorem off_fr {a y : MM} {b b2 : MM} (F : ∀ x k, ¬ VA2 x k → ¬ (x = 0 ∧ k = 13) → x ≠ 1 → y x k = a x k) (G : Fr VB2 b b2) (h : C2 a b) : C2 y b2 := by
  refine C2_fr h (fun x k q => F x k ?_ ?_ ?_) (fun x k q => G x k ?_)
  · unfold VA2; unfold PCs at q; omega
  · unfold PCs at q; omega
  · unfold PCs at q; omega
  · unfold VB2; unfold PJs at q; omega
set_option maxRecDepth 16384 in
theorem office_c2 {X : KO} {ρ : Nat → Int32} {a a' b b' : MM} {rl rl' : List (Nat × Int)} {L : Int} (hX : XW X) (hS : XS X) (h : C2 a b) (h11 : S11 a) (hA : OffA a) (hB : OffB b) (hT : TapeR a b L) (hr : a' 3 8 = 0 ∨ a' 3 8 = 1) (hy : ∀ k, 0 ≤ k → k < 8 → s32 (a' 8 k) = a' 8 k) (h7 : s32 (a' 15 7) = a' 15 7) (ra : Run X ρ 25 [(1, 0)] a rl a') (rb : Run X ρ 230 [(1, 148)] b rl' b') : C2 a' b' := by
  have hA' := hA
  obtain ⟨z0, z2, z4, -, -, ⟨q0, q1, q2, q3, q4, -⟩, -⟩ := hA
  obtain ⟨N, ig, ra⟩ := Run_CR ra rfl
  have ra : MR X ρ 2 0 0 qP25 N 0 [0, 0] [] a (ig, rl, a') := ra
  obtain ⟨M, ig', rb⟩ := Run_CR rb rfl
  have rb : MR X ρ 3 0 0 qP230 M 0 [148, 0, 0] [] b (ig', rl', b') := rb
  obtain ⟨v4, m2, r83, y5, e5, y6, e6, A⟩ := q25_0 ra
  rw [z0, z2, z4] at r83
  have key : Fr VA2 a m2 → (∀ x k, ¬ (x = 0 ∧ k = 13) → ¬ (x = 1 ∧ k = 1) → y6 x k = m2 x k) ∧ y6 0 13 = m2 1 9 := fun F => by
    have x0 : m2 0 0 = 1 := by rw [F 0 0 (by unfold VA2; omega)]; exact z0
    rw [x0] at e5
    have x5 : y5 0 0 = 1 := by rw [e5, mu_k (by decide)]; exact x0
    rw [x5] at e6
    refine ⟨fun x k n1 n2 => ?_, ?_⟩
    · rw [e6]
      have t : mu y5 1 1 0 x k = y5 x k := if_neg n2
      rw [t, e5]
      exact if_neg n1
    · rw [e6, mu_a (by decide), e5, mu_s]
  have fr6 : Fr VA2 a m2 → ∀ x k, ¬ VA2 x k → ¬ (x = 0 ∧ k = 13) → x ≠ 1 → y6 x k = a x k := fun F x k n1 n2 n3 => by
    rw [(key F).1 x k n2 (by omega)]
    exact F x k n1
  rcases text_ok2 hX hS hA' hB hT r83 rb with ⟨p1, p2, p3, p4, p5⟩ | ⟨k, M', b2, p1, p2, p3, p4, p5, p6, p7, p8⟩
  · have p5 : Fr VB2 b b' := p5
    obtain ⟨-, -, d3⟩ := p2
    rcases A with ⟨c, _⟩ | ⟨_, A⟩
    · rw [(key p4).2] at c
      exact absurd c d3
    · have A : a' = y6 := congrArg (fun z => z.2.2) A
      rw [A]
      exact off_fr (fr6 p4) p5 h
  · have hst : y6 0 13 = 0 := by rw [(key p4).2]; exact p2.2.2.1
    rcases A with ⟨_, m9, r9, m12, r12, m15, r15, m18, r18, A⟩ | ⟨c, _⟩
    · have A : a' = m18 := congrArg (fun z => z.2.2) A
      subst A
      have hc := off_fr (fr6 p4) p5 h
      obtain ⟨⟨⟨d1, d2, d3, d4⟩, hS6, hU⟩, hN, hI, hJ, hK⟩ := hc
      have hJ' := hJ
      obtain ⟨j1, j2, j3, j4⟩ := hJ
      obtain ⟨i6, i7, i8, i9⟩ := hI.2.2.2
      have hI' := hI
      have t0 : ∀ x k, (x = 9 ∧ 0 ≤ k ∧ k < 5) ∨ (x = 0 ∧ k ≠ 13) → y6 x k = a x k := fun x k q => fr6 p4 x k (by unfold VA2; omega) (by omega) (by omega)
      have l9 : LRo y6 9 := by
        refine ⟨?_, ?_, ?_, ?_, ?_⟩ <;> rw [t0 _ _ (by omega)] <;> assumption
      have t11 : S11 y6 := by unfold S11; rw [t0 0 11 (by omega)]; exact h11
      have S6 := hS6
      obtain ⟨⟨y1, y2, y3, y4, y7, y8, y9⟩, -, -⟩ := hS6
      obtain ⟨o1, o2, o3, ⟨o4, o5⟩, o6, o7, o8, o9⟩ := off_cls d1 (by rw [t0 _ _ (by omega)]; exact z2) d2 d4 d3 t11 y1 l9 y2 i7 r9 r12 r15 r18
      -- y6 is m2 at the texts' places
      have k6 : ∀ x k, x ≠ 0 → x ≠ 1 → y6 x k = m2 x k := fun x k n1 n2 => (key p4).1 x k (by omega) (by omega)
      -- the reference
      have w15 : b2 148 15 = 151 := p2.2.1.2.1.1
      have w20 : b2 148 20 = 156 := p2.2.1.2.1.2
      obtain ⟨m1, -, eb, F1, v1, v2⟩ := B230_tail y4 w15 j2 w20 p3
      have eb : b' = mu (g280 m1 148) 148 23 0 := eb
      have w14 : m1 148 14 = 150 := by rw [F1 148 14 (by omega)]; exact y4
      obtain ⟨x1, x2, x3, x4, x5, x6, x7, x8, x9⟩ := off_mod w14 F1 v1 v2
      rw [← eb] at x1 x2 x3 x4 x5 x6 x7 x8 x9
      obtain ⟨-, -, ⟨c1, c2, c3, c4, c5, c6⟩, ⟨n1, n2⟩, hg, hs, hf, ⟨-, u2, u3, -⟩⟩ := p2.2.1
      have a6 : a' 3 6 = m2 9 6 := by rw [o2 6 (by decide) (by decide)]; exact k6 _ _ (by decide) (by decide)
      have a7 : a' 3 7 = m2 9 7 := by rw [o2 7 (by decide) (by decide)]; exact k6 _ _ (by decide) (by decide)
      have a8 : a' 3 8 = m2 9 8 := by rw [o2 8 (by decide) (by decide)]; exact k6 _ _ (by decide) (by decide)
      have row : ∀ i k, 1 ≤ i → i ≤ 5 → 0 ≤ k → k < 8 → a' (3 + i) k = m2 (9 + i) k := fun i k i0 i1 k0 k1 => by rw [o3 i k i0 i1 k0 k1]; exact k6 _ _ (by omega) (by omega)
      have row2 : ∀ i k, 2 ≤ i → i ≤ 5 → 0 ≤ k → k < 8 → a' (15 + i) k = m2 (22 + i) k := fun i k i0 i1 k0 k1 => by rw [o7 i k i0 i1 k0 k1]; exact k6 _ _ (by omega) (by omega)
      have hRo : Ro a' b' 3 150 0 := by
        refine ⟨⟨?_, ?_, ?_⟩, ⟨?_, ?_, ?_⟩, ⟨?_, hr⟩, fun k k0 k1 => ⟨?_, hy k k0 k1⟩, fun k k0 k1 => ?_⟩
        · rw [x2 0 (by decide) (by decide), ← c1, a6]; exact (s32_id (by omega) (by omega)).symm
        · rw [a6]; exact c2
        · rw [a6]; exact c3
        · show _ = b' 150 1
          rw [x2 1 (by decide) (by decide), ← c4, a7]; exact (s32_id (by omega) (by omega)).symm
        · rw [a7]; exact c5
        · rw [a7]; exact c6
        · show _ = b' 150 2
          rw [x2 2 (by decide) (by decide), ← u2, ← a8]; exact (s32_id (by omega) (by omega)).symm
        · have e1 : a' (3 + 5) k = m2 14 k := row 5 k (by decide) (by decide) k0 k1
          show _ = b' 150 (4 + k)
          rw [x2 (4 + k) (by omega) (by omega), ← hs k k0 k1, ← e1]; exact (hy k k0 k1).symm
        · rw [a7] at k1
          obtain ⟨g1, g2, g3, g4, g5, g6⟩ := hf k k0 k1
          have e1 : a' (3 + 3) k = m2 12 k := row 3 k (by decide) (by decide) k0 (by omega)
          have e2 : a' (3 + 4) k = m2 13 k := row 4 k (by decide) (by decide) k0 (by omega)
          rw [e1, e2]
          refine ⟨⟨?_, g3, g4⟩, ?_, g5, g6⟩
          · show _ = b' 150 (76 + k)
            rw [x2 (76 + k) (by omega) (by omega), ← g1]; exact (s32_id (by omega) (by omega)).symm
          · show _ = b' 150 (84 + k)
            rw [x2 (84 + k) (by omega) (by omega), ← g2]; exact (s32_id (by omega) (by omega)).symm
      have hSn : Sn a' b' 3 15 150 0 := by
        refine ⟨⟨?_, ?_, ?_⟩, ⟨?_, h7⟩, fun k k0 k1 => ?_, fun p p0 p1 => ?_, fun f f0 f1 => ?_⟩
        · show _ = b' 150 92
          rw [x4, o5, k6 _ _ (by decide) (by decide)]; exact p8
        · rw [o5, k6 _ _ (by decide) (by decide), p8]; decide
        · rw [o5, k6 _ _ (by decide) (by decide), p8]; decide
        · show _ = b' 150 93
          have e1 : a' 15 7 = m2 22 7 := by rw [o4]; exact k6 _ _ (by decide) (by decide)
          rw [x5, ← u3, ← e1]; exact h7.symm
        · have e1 : a' (15 + 1) k = m2 23 k := by
            show a' 16 k = _
            rw [o6 k k0 k1]; exact k6 _ _ (by decide) (by decide)
          obtain ⟨g1, g2, g3, g4⟩ := hg k k0 k1
          rw [e1]
          refine ⟨?_, g2, g3, g4⟩
          show _ = b' 150 (94 + k)
          rw [x6 k k0 k1, ← g1]; exact (s32_id (by omega) (by omega)).symm
        · obtain ⟨g1, g2, g3⟩ := p6 p p0 p1
          obtain ⟨t1, t2, t3, t4⟩ := x8 p p0 p1
          have e1 : a' (15 + 2) p = m2 24 p := row2 2 p (by decide) (by decide) p0 p1
          have e2 : a' (15 + 3) p = m2 25 p := row2 3 p (by decide) (by decide) p0 p1
          rw [e1, e2, g1, g2]
          refine ⟨⟨?_, by decide, by decide⟩, ?_, s32_0⟩
          · show _ = b' 150 (198 + p)
            rw [t3]
          · show _ = b' 150 (206 + p)
            rw [t4]
        · rw [a7] at f1
          obtain ⟨g1, g2, g3⟩ := p6 f f0 (by omega)
          obtain ⟨t1, t2, t3, t4⟩ := x8 f f0 (by omega)
          obtain ⟨w1, w2, w3, w4, w5, w6⟩ := hf f f0 f1
          have e4 : a' (15 + 4) f = 0 := by rw [row2 4 f (by decide) (by decide) f0 (by omega)]; exact g3
          have e2 : a' (3 + 4) f = m2 13 f := row 4 f (by decide) (by decide) f0 (by omega)
          have e3 : a' (3 + 3) f = m2 12 f := row 3 f (by decide) (by decide) f0 (by omega)
          have e6 : ∀ j, 0 ≤ j → j < 24 → a' (15 + 6) j = -1 := fun j j0 j1 => by
            show a' 21 j = _
            rw [o8 j j0 j1, k6 _ _ (by decide) (by decide)]; exact p7 j j0 j1
          refine ⟨⟨?_, ?_, ?_⟩, fun q => ?_, fun q => ?_, fun _ _ => ?_, fun j j0 j1 => ⟨?_, ?_, ?_, fun q => ?_⟩, ?_⟩
          · show _ = b' 150 (182 + f)
            rw [e4, t1]
          · rw [e4]; decide
          · rw [e4]; decide
          · rw [e4] at q; exact absurd q (by decide)
          · rw [e4] at q; exact absurd q (by decide)
          · show b' 150 (190 + f) = _
            rw [t2, ← w2, e2]; exact s32_id (by omega) (by omega)
          · show _ = b' 150 (158 + (3 * f + j))
            rw [e6 _ (by omega) (by omega), x7 _ (by omega) (by omega)]
          · rw [e6 _ (by omega) (by omega)]; decide
          · rw [e6 _ (by omega) (by omega)]; decide
          · rw [e4] at q; exact absurd q (by decide)
          · rw [e6 _ (by omega) (by omega), e3]; omega
      have hNm : Nm a' b' 3 155 0 := by
        refine ⟨fun k k0 k1 => ?_, fun k k0 k1 => ?_⟩
        · rw [a6] at k1
          have e1 : a' (3 + 1) k = m2 10 k := row 1 k (by decide) (by decide) k0 (by omega)
          rw [e1, Int.zero_add, x3 k k0 (by omega)]; exact n1 k k0 k1
        · rw [a7] at k1
          have e1 : a' (3 + 2) k = m2 11 k := row 2 k (by decide) (by decide) k0 (by omega)
          have e2 : (0 : Int) + 8 + k = 8 + k := by omega
          rw [e1, e2, x3 (8 + k) (by omega) (by omega)]; exact n2 k k0 k1
      have ea : ∀ x k, (x < 3 ∨ (8 < x ∧ x < 15) ∨ (21 < x ∧ x < 29) ∨ (29 < x ∧ x < 100) ∨ (108 < x ∧ x < 117) ∨ (120 < x ∧ x < 136) ∨ 139 < x ∨ (x = 3 ∧ k < 5) ∨ (x = 15 ∧ k < 7) ∨ (15 ≤ x ∧ x ≤ 21 ∧ k < 0) ∨ (x = 29 ∧ k ≠ 2) ∨ ((x = 100 ∨ x = 105 ∨ x = 117 ∨ x = 136) ∧ k < 4)) → a' x k = y6 x k := fun x k q => o1 x k (by unfold Pof PRo PSt; omega)
      have ebb : ∀ x k, x ≠ 150 → x ≠ 155 → ¬ (x = 148 ∧ k = 23) → b' x k = b2 x k := fun x k q1 q2 q3 => x1 x k (by omega)
      obtain ⟨⟨t1, t2, t3, t4⟩, ⟨t5, t6⟩, ⟨t7, t8, t9⟩, t10, -⟩ := hU
      refine ⟨⟨⟨?_, ?_, ?_, ?_⟩, ⟨⟨?_, ?_, ?_, ?_, y7, y8, ?_⟩, hRo, hSn⟩, ⟨⟨?_, ?_, fun i i0 i8 => ?_, fun i i0 i8 => ?_⟩, ⟨?_, ?_⟩, ⟨?_, ?_, ?_⟩, ?_, fun j q1 q2 => ?_⟩⟩, hNm, LayI_fr hI' fun x j q => ea x j (by omega), LayJ_fr hJ' fun j q1 q2 => ebb _ _ (by decide) (by decide) (by omega), fun i q1 q2 => ?_⟩
      · rw [ea _ _ (by omega)]; exact d1
      · rw [ea _ _ (by omega)]; exact d2
      · rw [ea _ _ (by omega)]; exact d3
      · rw [ea _ _ (by omega)]; exact d4
      · exact LRo_fr y1 fun j _ _ => ea _ _ (by omega)
      · exact LSt_fr y2 fun j _ _ => ea _ _ (by omega)
      · rw [ea _ _ (by omega)]; exact y3
      · rw [ebb _ _ (by decide) (by decide) (by decide)]; exact y4
      · rw [ea _ _ (by omega)]; exact y9
      · rw [ea _ _ (by omega)]; exact t1
      · rw [ea _ _ (by omega)]; exact t2
      · rw [ea _ _ (by omega)]; exact t3 i i0 i8
      · exact LSt_fr (t4 i i0 i8) fun j _ _ => ea _ _ (by omega)
      · rw [ea _ _ (by omega)]; exact t5
      · rw [ea _ _ (by omega)]; exact t6
      · rw [o9, x9]
      · rw [o9]; decide
      · rw [o9]; decide
      · rw [ebb _ _ (by decide) (by decide) (by decide)]; exact t10
      · rw [o9] at q2; omega
      · exact Ik_fr (hK i q1 q2) (fun x j r1 r2 _ _ => ea x j (by omega)) (fun j r1 r2 => ebb _ _ (by decide) (by decide) (by omega)) (fun j r1 r2 => ebb _ _ (by decide) (by decide) (by omega)) (ebb _ _ (by decide) (by decide) (by omega))
    · exact absurd hst c
