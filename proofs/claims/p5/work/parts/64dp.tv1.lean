/-! Which fault, after every call that tells one. -/
set_option maxRecDepth 16384 in
theorem office_fault {X : KO} {ρ : Nat → Int32} {a a' b b' : MM} {rl rl' : List (Nat × Int)} {L : Int} (hX : XW X) (hS : XS X) (h : C2 a b) (h11 : S11 a) (hA : OffA a) (hB : OffB b) (hT : TapeR a b L) (ra : Run X ρ 25 [(1, 0)] a rl a') (rb : Run X ρ 230 [(1, 148)] b rl' b') : a' 0 13 = b' 148 10 := by
  have hA' := hA
  obtain ⟨z0, z2, z4, -, -, ⟨q0, q1, q2, q3, q4, -⟩, -⟩ := hA
  obtain ⟨N, ig, ra⟩ := Run_CR ra rfl
  have ra : MR X ρ 2 0 0 qP25 N 0 [0, 0] [] a (ig, rl, a') := ra
  obtain ⟨M, ig', rb⟩ := Run_CR rb rfl
  have rb : MR X ρ 3 0 0 qP230 M 0 [148, 0, 0] [] b (ig', rl', b') := rb
  obtain ⟨v4, m2, r83, y5, e5, y6, e6, A⟩ := q25_0 ra
  rw [z0, z2, z4] at r83
  have key : Fr VA2 a m2 → (∀ x k, ¬ (x = 0 ∧ k = 13) → ¬ (x = 1 ∧ k = 1) → y6 x k = m2 x k) ∧ y6 0 13 = m2 1 9 := fun F => by
    have x0 : m2 0 0 = 1 := by rw [F 0 0 (by unfold VA2; omega)]; exact z0
    rw [x0] at e5
    have x5 : y5 0 0 = 1 := by rw [e5, mu_k (by decide)]; exact x0
    rw [x5] at e6
    refine ⟨fun x k n1 n2 => ?_, ?_⟩
    · rw [e6]
      have t : mu y5 1 1 0 x k = y5 x k := if_neg n2
      rw [t, e5]
      exact if_neg n1
    · rw [e6, mu_a (by decide), e5, mu_s]
  have fr6 : Fr VA2 a m2 → ∀ x k, ¬ VA2 x k → ¬ (x = 0 ∧ k = 13) → x ≠ 1 → y6 x k = a x k := fun F x k n1 n2 n3 => by
    rw [(key F).1 x k n2 (by omega)]
    exact F x k n1
  rcases text_ok2 hX hS hA' hB hT r83 rb with ⟨p1, p2, p3, p4, p5⟩ | ⟨k, M', b2, p1, p2, p3, p4, p5, p6, p7, p8⟩
  · have p5 : Fr VB2 b b' := p5
    obtain ⟨d1, -, d3⟩ := p2
    have d1 : m2 1 9 = b' 148 10 := d1
    rcases A with ⟨c, _⟩ | ⟨_, A⟩
    · rw [(key p4).2] at c
      exact absurd c d3
    · have A : a' = y6 := congrArg (fun z => z.2.2) A
      rw [A, (key p4).2]
      exact d1
  · have hst : y6 0 13 = 0 := by rw [(key p4).2]; exact p2.2.2.1
    rcases A with ⟨_, m9, r9, m12, r12, m15, r15, m18, r18, A⟩ | ⟨c, _⟩
    · have A : a' = m18 := congrArg (fun z => z.2.2) A
      subst A
      have hc := off_fr (fr6 p4) p5 h
      obtain ⟨⟨⟨d1, d2, d3, d4⟩, hS6, hU⟩, hN, hI, hJ, hK⟩ := hc
      have hJ' := hJ
      obtain ⟨j1, j2, j3, j4⟩ := hJ
      obtain ⟨i6, i7, i8, i9⟩ := hI.2.2.2
      have hI' := hI
      have t0 : ∀ x k, (x = 9 ∧ 0 ≤ k ∧ k < 5) ∨ (x = 0 ∧ k ≠ 13) → y6 x k = a x k := fun x k q => fr6 p4 x k (by unfold VA2; omega) (by omega) (by omega)
      have l9 : LRo y6 9 := by
        refine ⟨?_, ?_, ?_, ?_, ?_⟩ <;> rw [t0 _ _ (by omega)] <;> assumption
      have t11 : S11 y6 := by unfold S11; rw [t0 0 11 (by omega)]; exact h11
      have S6 := hS6
      obtain ⟨⟨y1, y2, y3, y4, y7, y8, y9⟩, -, -⟩ := hS6
      obtain ⟨o1, o2, o3, ⟨o4, o5⟩, o6, o7, o8, o9⟩ := off_cls d1 (by rw [t0 _ _ (by omega)]; exact z2) d2 d4 d3 t11 y1 l9 y2 i7 r9 r12 r15 r18
      -- y6 is m2 at the texts' places
      have k6 : ∀ x k, x ≠ 0 → x ≠ 1 → y6 x k = m2 x k := fun x k n1 n2 => (key p4).1 x k (by omega) (by omega)
      -- the reference
      have w15 : b2 148 15 = 151 := p2.2.1.2.1.1
      have w20 : b2 148 20 = 156 := p2.2.1.2.1.2
      obtain ⟨m1, -, eb, F1, v1, v2⟩ := B230_tail y4 w15 j2 w20 p3
      have eb : b' = mu (g280 m1 148) 148 23 0 := eb
      have w14 : m1 148 14 = 150 := by rw [F1 148 14 (by omega)]; exact y4
      obtain ⟨x1, x2, x3, x4, x5, x6, x7, x8, x9⟩ := off_mod w14 F1 v1 v2
      rw [← eb] at x1 x2 x3 x4 x5 x6 x7 x8 x9
      rw [o1 0 13 (by unfold Pof PRo PSt; omega), hst, x1 148 10 (by omega)]
      exact p2.2.2.2.symm
    · exact absurd hst c
set_option maxRecDepth 16384 in
theorem book_fault {X : KO} {ρ : Nat → Int32} {a a' b b' : MM} {rl rl' : List (Nat × Int)} {L lv : Int} (hX : XW X) (hS : XS X) (hc : C2 a b) (hl : BLay a b) (hT : TapeR a b L) (t00 : a 0 0 = 1) (t10 : a 0 10 = 96) (t0 : a 1 0 = 2) (t1 : a 2 (-1) = 940) (u1 : b 148 1 = 149) (u18 : b 148 18 = 154) (u37 : b 148 37 = 165) (ra : Run X ρ 3 [(1, 0), (1, lv)] a rl a') (rb : Run X ρ 171 [(1, 148), (1, lv)] b rl' b') (hE : a 0 13 = b 148 10) : a' 0 13 = b' 148 10 := by
  obtain ⟨N, ig, ra⟩ := Run_CR ra rfl
  have ra : MR X ρ 3 0 0 qP3 N 0 [0, lv, 0] [] a (ig, rl, a') := ra
  obtain ⟨M, ig', rb⟩ := Run_CR rb rfl
  have rb : MR X ρ 4 0 0 qP171 M 0 [148, lv, 0, 0] [] b (ig', rl', b') := rb
  have A := k3_0 ra
  rw [t00, t10, hc.1.1.1] at A
  by_cases hlv : lv = 0 ∨ lv = 1
  · -- read
    have A' : ∃ m3, Run X ρ 55 [(1, 96), (1, 1), (1, 3)] a [] m3 ∧ (∃ y5, y5 = mu m3 0 13 (m3 (m3 0 0) 9) ∧ (∃ y6, y6 = mu y5 (y5 0 0) 1 0 ∧ ((((y6 0 13) = 0) ∧ (∃ y13, y13 = g113 y6 (y6 0 4) (y6 0 3) ∧ (((lv = 0) ∧ (∃ y33, y33 = g47 y13 (y13 0 10) (y13 0 4) ∧ ((ig, rl, a') = ((.ireturn, [(1, f47 y13 (y13 0 10) (y13 0 4))], y33) : Instr × List (Nat × Int) × MM)))) ∨ (¬ (lv = 0) ∧ (∃ y20, y20 = g47 y13 (y13 0 10) (y13 0 3) ∧ ((((y20 (y20 0 10) 6) ≤ 0) ∧ ((ig, rl, a') = ((.ireturn, [(1, f47 y13 (y13 0 10) (y13 0 3))], y20) : Instr × List (Nat × Int) × MM))) ∨ (¬ ((y20 (y20 0 10) 6) ≤ 0) ∧ (∃ y27, y27 = g162 y20 (y20 0 5) (y20 0 4) ∧ ((ig, rl, a') = ((.ireturn, [(1, f47 y13 (y13 0 10) (y13 0 3))], y27) : Instr × List (Nat × Int) × MM)))))))))) ∨ (¬ ((y6 0 13) = 0) ∧ ((ig, rl, a') = ((.ireturn, [(1, s32 ((-2) - (y6 (y6 0 0) 10)))], y6) : Instr × List (Nat × Int) × MM)))))) := by
      rcases A with ⟨-, A⟩ | ⟨c, A⟩
      · exact A
      · rcases A with ⟨-, A⟩ | ⟨d, _⟩
        · exact A
        · omega
    clear A
    obtain ⟨m3, r3, y5, e5, y6, e6, A⟩ := A'
    obtain ⟨fr, R⟩ := readT hX hS hc hl hT t0 t1 u1 hlv r3 rb
    have x00 : m3 0 0 = 1 := by rw [fr 0 0 (by unfold Wa2 WA; omega)]; exact t00
    rw [x00] at e5
    have x5 : y5 0 0 = 1 := by rw [e5, mu_k (by decide)]; exact x00
    rw [x5] at e6
    have f6 : ∀ x k, ¬ (x = 0 ∧ k = 13) → ¬ (x = 1 ∧ k = 1) → y6 x k = m3 x k := fun x k n1 n2 => by
      rw [e6]
      have t : mu y5 1 1 0 x k = y5 x k := if_neg n2
      rw [t, e5]
      exact if_neg n1
    have z13 : y6 0 13 = m3 1 9 := by rw [e6, mu_a (by decide), e5, mu_s]
    rcases R with ⟨R1, R2, R3⟩ | ⟨M', b1, R1, R2, R3, R4, R5, R6, R7, R8⟩
    · -- a fault
      rcases A with ⟨c, _⟩ | ⟨_, A⟩
      · rw [z13] at c; exact absurd c R1.2.2
      · have A2 : a' = y6 := congrArg (fun z => z.2.2) A
        have A1 : rl = [(1, s32 ((-2) - (y6 (y6 0 0) 10)))] := congrArg (fun z => z.2.1) A
        have R2 : rl' = [(1, s32 (-2 - b' 148 11))] := R2
        rw [A2, z13]
        exact R1.1
    · -- read well
      obtain ⟨⟨R1p, R19, R110⟩, hC, hL⟩ := R1
      rcases A with ⟨_, y13, e13, A⟩ | ⟨c, _⟩
      · have w14 := hC.1.2.1.bn
        have w18 : b1 148 18 = 154 := by rw [R7 _ _ (by unfold Wb2; omega)]; exact u18
        have w37 : b1 148 37 = 165 := by rw [R7 _ _ (by unfold Wb2; omega)]; exact u37
        rw [L219_ok w18 w14] at R6
        have Fn : Fr (fun x k => x = 154 ∧ 0 ≤ k) b1 (fm b1 154 (0 + 0) (0 + 122) (fun j => s32 (b1 150 (92 + j)))) := (Fr.rf _ _).fl fun j j0 j1 => ⟨rfl, by omega⟩
        have Vn : ∀ j, 0 ≤ j → j < 122 → (fm b1 154 (0 + 0) (0 + 122) (fun j => s32 (b1 150 (92 + j)))) 154 j = s32 (b1 150 (92 + j)) := fun j j0 j1 => fm_i (by omega) (by omega)
        revert R6 Fn Vn
        generalize fm b1 154 (0 + 0) (0 + 122) (fun j => s32 (b1 150 (92 + j))) = n1
        intro R6 Fn Vn
        have en : ∀ x k, x ≠ 154 → n1 x k = b1 x k := fun x k q => Fn x k (by omega)
        have hC6 : C2 y6 n1 := C2_fr hC (fun x k q => f6 x k (by unfold PCs at q; omega) (by unfold PCs at q; omega)) (fun x k q => en x k (by unfold PJs at q; omega))
        have hL6 : BLay y6 n1 := by
          obtain ⟨⟨q1, q2, q3, q4, q5, q6⟩, q7⟩ := hL
          refine ⟨⟨?_, ?_, ?_, ?_, ?_, ?_⟩, ?_⟩
          · rw [f6 _ _ (by omega) (by omega)]; exact q1
          · rw [f6 _ _ (by omega) (by omega)]; exact q2
          · rw [f6 _ _ (by omega) (by omega)]; exact q3
          · rw [f6 _ _ (by omega) (by omega)]; exact q4
          · rw [f6 _ _ (by omega) (by omega)]; exact q5
          · rw [f6 _ _ (by omega) (by omega)]; exact q6
          · rw [en _ _ (by decide)]; exact q7
        obtain ⟨T1, T2⟩ := trial_ok hC6
        rw [hC6.1.1.2.2.2, hC6.1.1.2.1] at e13
        rw [← e13] at T1 T2
        have p13 : ∀ x k, x < 22 ∨ (x = 22 ∧ k < 7) ∨ 28 < x ∨ k < 0 → y13 x k = y6 x k := fun x k q => T2 x k (by unfold PSt; omega)
        have hL13 : BLay y13 n1 := by
          obtain ⟨⟨q1, q2, q3, q4, q5, q6⟩, q7⟩ := hL6
          refine ⟨⟨?_, ?_, ?_, ?_, ?_, ?_⟩, q7⟩
          · rw [p13 _ _ (by omega)]; exact q1
          · rw [p13 _ _ (by omega)]; exact q2
          · rw [p13 _ _ (by omega)]; exact q3
          · rw [p13 _ _ (by omega)]; exact q4
          · rw [p13 _ _ (by omega)]; exact q5
          · rw [p13 _ _ (by omega)]; exact q6
        have hC13 : C2 y13 n1 := C2_fr hC6 (fun x k q => p13 x k (by unfold PCs at q; omega)) (fun _ _ _ => rfl)
        have cnt3 : y13 96 3 = m3 96 3 := by rw [p13 _ _ (by omega), f6 _ _ (by omega) (by omega)]
        have cnt8 : n1 148 38 = m3 96 3 := by rw [en _ _ (by decide), R2]
        have hv13 : ∀ i, 0 ≤ i → i < m3 96 3 → Lv y13 n1 i := fun i i0 i1 => by
          have q := R5 i i0 i1
          unfold Lv Is at *
          have e : ∀ x k, x = 97 ∨ x = 98 ∨ x = 99 ∨ x = 3 → y13 x k = m3 x k := fun x k q => by rw [p13 _ _ (by omega), f6 _ _ (by omega) (by omega)]
          rw [e 97 i (by omega), e 98 i (by omega), e 99 i (by omega), e 3 6 (by omega), e 3 7 (by omega), en 164 _ (by decide), en 164 _ (by decide), en 164 _ (by decide)]
          exact q
        have w37' : n1 148 37 = 165 := by rw [en _ _ (by decide)]; exact w37
        have w18' : n1 148 18 = 154 := by rw [en _ _ (by decide)]; exact w18
        have x10 : y13 0 10 = 96 := by rw [p13 _ _ (by omega), f6 _ _ (by omega) (by omega), fr _ _ (by unfold Wa2 WA; omega)]; exact t10
        have hSn := hC13.1.2.1
        -- what was so, from beside
        have hAs : ∀ (aa bb : MM), (∀ x k, (x = 15 ∧ 7 ≤ k) ∨ (16 ≤ x ∧ x ≤ 21 ∧ 0 ≤ k) ∨ (3 ≤ x ∧ x ≤ 8 ∧ 0 ≤ k) → aa x k = y13 x k) → (∀ k, 0 ≤ k → k < 122 → bb 150 (92 + k) = s32 (n1 154 k)) → Sn aa bb 3 15 150 0 := fun aa bb h1 h2 => by
          refine Sn_cp hSn.2.2 (h1 _ _ (by omega)) hSn.f.2.2 (fun f f0 f1 => (hSn.sp f0 f1).2) (fun f f0 f1 => ⟨h1 _ _ (by omega), h1 _ _ (by omega)⟩) ⟨h1 _ _ (by omega), h1 _ _ (by omega)⟩ (fun j q1 q2 => h1 _ _ (by omega)) (fun i j q1 q2 q3 q4 => h1 _ _ (by omega)) (fun j q1 q2 => h1 _ _ (by omega)) (fun j q1 q2 => Or.inr ?_)
          have := h2 (j - 92) (by omega) (by omega)
          rw [show 92 + (j - 92) = j by omega, Vn (j - 92) (by omega) (by omega), show 92 + (j - 92) = j by omega, s32_s32, ← en 150 _ (by decide)] at this
          rw [Int.zero_add]
          exact this
        rcases A with ⟨l0, y33, e33, A⟩ | ⟨l0, y20, e20, A⟩
        · -- judged
          rw [hC13.1.1.2.2.2, x10] at e33 A
          obtain ⟨n', y11, k, w, g1, g2, g3, g4, g5, g6, g7, g8, g9⟩ := thruG (Or.inr rfl) T1 hL13 cnt3 cnt8 w37' R3 R4 hv13 R6
          rw [← e33] at g1 g2 g7 g9
          cases A
          skip
          have g6 : b' = g281 y11 148 (if lv = 1 ∧ 0 < k then 1 else 0) := g6
          skip
          rw [if_neg (show ¬ (lv = 1 ∧ 0 < k) by omega)] at g6
          have eg : g281 y11 148 0 = (L281_2 y11 148 0 0 0).2.2.2.2 := rfl
          rw [eg] at g6
          obtain ⟨s1, s2⟩ := swap_ok (b := y11) (z := 0) (by rw [g4 _ _ (by omega), g3 _ _ (by unfold Qb; omega)]; exact w18') (by rw [g4 _ _ (by omega), g3 _ _ (by unfold Qb; omega)]; exact hC13.1.2.1.bn)
          rw [← g6] at s1 s2
          have z0 : y13 0 13 = 0 := by rw [p13 _ _ (by omega), z13]; exact R19
          have q0 : n1 148 10 = 0 := by rw [en _ _ (by decide)]; exact R110
          rw [g2 0 13 (by unfold Qa; omega), z0, s1 148 10 (by omega), g4 148 10 (by omega), g3 148 10 (by unfold Qb; omega), q0]
        · -- lived
          have l1 : lv = 1 := by omega
          rw [hC13.1.1.2.1, x10] at e20 A
          obtain ⟨n', y11, k, w, g1, g2, g3, g4, g5, g6, g7, g8, g9⟩ := thruG (Or.inl rfl) hSn hL13 cnt3 cnt8 w37' R3 R4 hv13 R6
          rw [← e20] at g1 g2 g7 g9
          have ea : ∀ x j, x < 15 ∨ (x = 15 ∧ j < 7) ∨ (21 < x ∧ x < 96) ∨ 96 < x ∨ j < 0 ∨ (x = 96 ∧ j < 4) → y20 x j = y13 x j := fun x j q => g2 x j (by unfold Qa; omega)
          have z10 : y20 0 10 = 96 := by rw [ea _ _ (by omega)]; exact x10
          rw [z10, g7] at A
          have q18 : y11 148 18 = 154 := by rw [g4 _ _ (by omega), g3 _ _ (by unfold Qb; omega)]; exact w18'
          have q14 : y11 148 14 = 150 := by rw [g4 _ _ (by omega), g3 _ _ (by unfold Qb; omega)]; exact hC13.1.2.1.bn
          rcases A with ⟨c, A⟩ | ⟨c, y27, e27, A⟩
          · cases A
            skip
            have g6 : b' = g281 y11 148 (if lv = 1 ∧ 0 < k then 1 else 0) := g6
            skip
            rw [if_neg (show ¬ (lv = 1 ∧ 0 < k) by omega)] at g6
            have eg : g281 y11 148 0 = (L281_2 y11 148 0 0 0).2.2.2.2 := rfl
            rw [eg] at g6
            obtain ⟨s1, s2⟩ := swap_ok (b := y11) (z := 0) q18 q14
            rw [← g6] at s1 s2
            have z0 : y13 0 13 = 0 := by rw [p13 _ _ (by omega), z13]; exact R19
            have q0 : n1 148 10 = 0 := by rw [en _ _ (by decide)]; exact R110
            rw [g2 0 13 (by unfold Qa; omega), z0, s1 148 10 (by omega), g4 148 10 (by omega), g3 148 10 (by unfold Qb; omega), q0]
          · have z5 : y20 0 5 = 29 := by rw [ea _ _ (by omega)]; exact hC13.1.1.2.2.1
            have z4 : y20 0 4 = 22 := by rw [ea _ _ (by omega)]; exact hC13.1.1.2.2.2
            rw [z5, z4] at e27
            cases A
            skip
            have g6 : b' = g281 y11 148 (if lv = 1 ∧ 0 < k then 1 else 0) := g6
            skip
            rw [if_pos (show lv = 1 ∧ 0 < k by omega)] at g6
            have eg : g281 y11 148 1 = g284 (g276 ((L281_2 y11 148 1 0 0).2.2.2.2) 148) 148 := rfl
            rw [eg] at g6
            obtain ⟨s1, s2⟩ := swap_ok (b := y11) (z := 1) q18 q14
            revert s1 s2 g6
            generalize (L281_2 y11 148 1 0 0).2.2.2.2 = n2
            intro g6 s1 s2
            have eb : ∀ x j, x ≠ 154 → x ≠ 165 → ¬ (x = 148 ∧ j = 39) → ¬ (x = 150 ∧ 92 ≤ j) → n2 x j = n1 x j := fun x j q1 q2 q3 q4 => by rw [s1 _ _ (by omega), g4 _ _ (by omega), g3 _ _ (by unfold Qb; omega)]
            -- the standing beside is what was so
            have hT2 : Sn y20 n2 3 22 150 0 := by
              refine Sn_cp T1.2.2 (ea _ _ (by omega)) T1.f.2.2 (fun f f0 f1 => (T1.sp f0 f1).2) (fun f f0 f1 => ⟨ea _ _ (by omega), ea _ _ (by omega)⟩) ⟨ea _ _ (by omega), ea _ _ (by omega)⟩ (fun j q1 q2 => ea _ _ (by omega)) (fun i j q1 q2 q3 q4 => ea _ _ (by omega)) (fun j q1 q2 => ea _ _ (by omega)) (fun j q1 q2 => Or.inr ?_)
              have := (s2 (j - 92) (by omega) (by omega)).1
              rw [g4 _ _ (by omega), g3 _ _ (by unfold Qb; omega), Vn (j - 92) (by omega) (by omega), show 92 + (j - 92) = j by omega, s32_s32, ← en 150 _ (by decide)] at this
              rw [Int.zero_add]
              exact this
            have hS22 : Sx y20 n2 22 := Sx_mk T1 (fun x j q0 q1 j0 => ea x j (by omega)) (fun j j0 j1 => ea _ _ (by omega)) (ea _ _ (by omega)) (eb _ _ (by decide) (by decide) (by decide) (by decide)) (fun j j0 j1 => eb _ _ (by decide) (by decide) (by omega) (by omega)) hT2
            have hU2 : Un y20 n2 := Un_fr hC13.1.2.2 (fun x j q => ea x j (by omega)) (fun j => eb _ _ (by decide) (by decide) (by omega) (by omega)) (eb _ _ (by decide) (by decide) (by omega) (by omega)) (eb _ _ (by decide) (by decide) (by omega) (by omega))
            obtain ⟨k1, k2, k3, k4⟩ := p_keep hS22 (Or.inr rfl) hU2
            rw [← e27] at k1 k2 k4
            rw [L284_ok (by rw [k3 _ _ (by unfold Qv; omega), s1 _ _ (by omega)]; exact q18) k4.bn] at g6
            have Fb' : Fr (fun x j => x = 150 ∧ 92 ≤ j ∧ j < 214) (g276 n2 148) b' := by rw [g6]; exact (Fr.rf _ _).fl fun j j0 j1 => ⟨rfl, by omega, by omega⟩
            have z0 : y13 0 13 = 0 := by rw [p13 _ _ (by omega), z13]; exact R19
            have q0 : n1 148 10 = 0 := by rw [en _ _ (by decide)]; exact R110
            rw [k2 0 13 (by unfold Qu; omega), g2 0 13 (by unfold Qa; omega), z0, Fb' 148 10 (by omega), k3 148 10 (by unfold Qv; omega), s1 148 10 (by omega), g4 148 10 (by omega), g3 148 10 (by unfold Qb; omega), q0]
      · rw [z13] at c; exact absurd R19 c
  · -- neither
    rcases A with ⟨c, _⟩ | ⟨_, A⟩
    · exact absurd (Or.inl c) hlv
    · rcases A with ⟨c, _⟩ | ⟨_, A⟩
      · exact absurd (Or.inr c) hlv
      · obtain ⟨y1, e1, B⟩ := k171_0 rb
        have e9 : f209 y1 lv 0 1 = 0 := by
          rcases f209_01 y1 lv with ⟨c, d⟩ | ⟨c, d⟩
          · exact c
          · omega
        rcases B with ⟨_, B⟩ | ⟨d, _⟩
        · cases A; cases B
          rw [e1]
          rw [mu_k (by decide)]
          exact hE
        · exact absurd e9 d
