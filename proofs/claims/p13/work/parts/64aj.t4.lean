set_option maxRecDepth 16384 in
theorem i147_0 {X : KO} {ρ : Nat → Int32} {m : MM} {N : Nat} {o : Instr × List (Nat × Int) × MM} {a0 a1 : Int} (h : MR X ρ 3 0 0 qP147 N 0 [a0, a1, 0] [] m o) : (MR X ρ 3 0 0 qP147 N 3 [a0, a1, 24] [] m o) := by
  have h := CR_bipush h rfl rfl
  have h : MR X ρ 3 0 0 qP147 N 2 [a0, a1, 0] [(1, 24)] m o := h
  have h := CR_istore_n h rfl (Nat.le_of_ble_eq_true rfl)
  have h : MR X ρ 3 0 0 qP147 N 3 [a0, a1, 24] [] m o := h
  exact h
set_option maxRecDepth 16384 in
theorem i147_3 {X : KO} {ρ : Nat → Int32} {m : MM} {N : Nat} {o : Instr × List (Nat × Int) × MM} {b0 b1 b2 : Int} (h : MR X ρ 3 0 0 qP147 N 3 [b0, b1, b2] [] m o) : (((b2 < 0) ∧ (o = (.return_, [], m))) ∨ (¬ (b2 < 0) ∧ ((((m b0 1) < 0) ∧ (∃ N3, N = N3 + 1 ∧ MR X ρ 3 0 0 qP147 N3 3 [b0, b1, s32 (b2 + (-8))] [] m o)) ∨ (¬ ((m b0 1) < 0) ∧ ((((if m b0 0 = 1000050 then 30 else s32 (m (m b0 0) (-1))) ≤ (m b0 1)) ∧ (∃ N5, N = N5 + 1 ∧ MR X ρ 3 0 0 qP147 N5 3 [b0, b1, s32 (b2 + (-8))] [] m o)) ∨ (¬ ((if m b0 0 = 1000050 then 30 else s32 (m (m b0 0) (-1))) ≤ (m b0 1)) ∧ (∃ N6, N = N6 + 1 ∧ MR X ρ 3 0 0 qP147 N6 3 [b0, b1, s32 (b2 + (-8))] [] (mu (mu m (m b0 0) (m b0 1) (jbst (m (m b0 0) (-2)) (ji2b (jushr b1 b2)))) b0 1 (s32 (((mu m (m b0 0) (m b0 1) (jbst (m (m b0 0) (-2)) (ji2b (jushr b1 b2)))) b0 1) + 1))) o))))))) := by
  have h := CR_iload_n h rfl
  have h : MR X ρ 3 0 0 qP147 N 4 [b0, b1, b2] [(1, b2)] m o := h
  rcases MR_if h rfl rfl with ⟨c1, h⟩ | ⟨c1, h⟩
  ·
    have c1 : b2 < 0 := c1
    refine Or.inl ⟨c1, ?_⟩
    have h : MR X ρ 3 0 0 qP147 N 55 [b0, b1, b2] [] m o := h
    exact CR_end h rfl rfl
  ·
    have c1 : ¬ (b2 < 0) := c1
    refine Or.inr ⟨c1, ?_⟩
    have h : MR X ρ 3 0 0 qP147 N 7 [b0, b1, b2] [] m o := h
    have h := CR_aload_n h rfl
    have h : MR X ρ 3 0 0 qP147 N 8 [b0, b1, b2] [(1, b0)] m o := h
    have h := CR_getf h rfl (by decide)
    have h : MR X ρ 3 0 0 qP147 N 11 [b0, b1, b2] [(1, m b0 1)] m o := h
    rcases MR_if h rfl rfl with ⟨c2, h⟩ | ⟨c2, h⟩
    ·
      have c2 : (m b0 1) < 0 := c2
      refine Or.inl ⟨c2, ?_⟩
      have h : MR X ρ 3 0 0 qP147 N 49 [b0, b1, b2] [] m o := h
      have h := CR_inc h rfl (Nat.le_of_ble_eq_true rfl)
      have h : MR X ρ 3 0 0 qP147 N 52 [b0, b1, s32 (b2 + (-8))] [] m o := h
      obtain ⟨N3, eN3, h⟩ := CR_goto h rfl rfl
      have h : MR X ρ 3 0 0 qP147 N3 3 [b0, b1, s32 (b2 + (-8))] [] m o := h
      exact ⟨N3, eN3, h⟩
    ·
      have c2 : ¬ ((m b0 1) < 0) := c2
      refine Or.inr ⟨c2, ?_⟩
      have h : MR X ρ 3 0 0 qP147 N 14 [b0, b1, b2] [] m o := h
      have h := CR_aload_n h rfl
      have h : MR X ρ 3 0 0 qP147 N 15 [b0, b1, b2] [(1, b0)] m o := h
      have h := CR_getf h rfl (by decide)
      have h : MR X ρ 3 0 0 qP147 N 18 [b0, b1, b2] [(1, m b0 1)] m o := h
      have h := CR_aload_n h rfl
      have h : MR X ρ 3 0 0 qP147 N 19 [b0, b1, b2] [(1, b0), (1, m b0 1)] m o := h
      have h := CR_getf h rfl (by decide)
      have h : MR X ρ 3 0 0 qP147 N 22 [b0, b1, b2] [(1, m b0 0), (1, m b0 1)] m o := h
      have h := CR_alen rfl h rfl
      have h : MR X ρ 3 0 0 qP147 N 23 [b0, b1, b2] [(1, if m b0 0 = 1000050 then 30 else s32 (m (m b0 0) (-1))), (1, m b0 1)] m o := h
      rcases MR_icmp h rfl rfl with ⟨c4, h⟩ | ⟨c4, h⟩
      ·
        have c4 : (if m b0 0 = 1000050 then 30 else s32 (m (m b0 0) (-1))) ≤ (m b0 1) := c4
        refine Or.inl ⟨c4, ?_⟩
        have h : MR X ρ 3 0 0 qP147 N 49 [b0, b1, b2] [] m o := h
        have h := CR_inc h rfl (Nat.le_of_ble_eq_true rfl)
        have h : MR X ρ 3 0 0 qP147 N 52 [b0, b1, s32 (b2 + (-8))] [] m o := h
        obtain ⟨N5, eN5, h⟩ := CR_goto h rfl rfl
        have h : MR X ρ 3 0 0 qP147 N5 3 [b0, b1, s32 (b2 + (-8))] [] m o := h
        exact ⟨N5, eN5, h⟩
      ·
        have c4 : ¬ ((if m b0 0 = 1000050 then 30 else s32 (m (m b0 0) (-1))) ≤ (m b0 1)) := c4
        refine Or.inr ⟨c4, ?_⟩
        have h : MR X ρ 3 0 0 qP147 N 26 [b0, b1, b2] [] m o := h
        have h := CR_aload_n h rfl
        have h : MR X ρ 3 0 0 qP147 N 27 [b0, b1, b2] [(1, b0)] m o := h
        have h := CR_getf h rfl (by decide)
        have h : MR X ρ 3 0 0 qP147 N 30 [b0, b1, b2] [(1, m b0 0)] m o := h
        have h := CR_aload_n h rfl
        have h : MR X ρ 3 0 0 qP147 N 31 [b0, b1, b2] [(1, b0), (1, m b0 0)] m o := h
        have h := CR_getf h rfl (by decide)
        have h : MR X ρ 3 0 0 qP147 N 34 [b0, b1, b2] [(1, m b0 1), (1, m b0 0)] m o := h
        have h := CR_iload_n h rfl
        have h : MR X ρ 3 0 0 qP147 N 35 [b0, b1, b2] [(1, b1), (1, m b0 1), (1, m b0 0)] m o := h
        have h := CR_iload_n h rfl
        have h : MR X ρ 3 0 0 qP147 N 36 [b0, b1, b2] [(1, b2), (1, b1), (1, m b0 1), (1, m b0 0)] m o := h
        have h := CR_iushr h rfl
        have h : MR X ρ 3 0 0 qP147 N 37 [b0, b1, b2] [(1, jushr b1 b2), (1, m b0 1), (1, m b0 0)] m o := h
        have h := CR_i2b h rfl
        have h : MR X ρ 3 0 0 qP147 N 38 [b0, b1, b2] [(1, ji2b (jushr b1 b2)), (1, m b0 1), (1, m b0 0)] m o := h
        have h := CR_bastore h rfl
        have h : MR X ρ 3 0 0 qP147 N 39 [b0, b1, b2] [] (mu m (m b0 0) (m b0 1) (jbst (m (m b0 0) (-2)) (ji2b (jushr b1 b2)))) o := h
        have h := CR_aload_n h rfl
        have h : MR X ρ 3 0 0 qP147 N 40 [b0, b1, b2] [(1, b0)] (mu m (m b0 0) (m b0 1) (jbst (m (m b0 0) (-2)) (ji2b (jushr b1 b2)))) o := h
        have h := CR_dup h rfl
        have h : MR X ρ 3 0 0 qP147 N 41 [b0, b1, b2] [(1, b0), (1, b0)] (mu m (m b0 0) (m b0 1) (jbst (m (m b0 0) (-2)) (ji2b (jushr b1 b2)))) o := h
        have h := CR_getf h rfl (by decide)
        have h : MR X ρ 3 0 0 qP147 N 44 [b0, b1, b2] [(1, (mu m (m b0 0) (m b0 1) (jbst (m (m b0 0) (-2)) (ji2b (jushr b1 b2)))) b0 1), (1, b0)] (mu m (m b0 0) (m b0 1) (jbst (m (m b0 0) (-2)) (ji2b (jushr b1 b2)))) o := h
        have h := CR_iconst h rfl rfl
        have h : MR X ρ 3 0 0 qP147 N 45 [b0, b1, b2] [(1, 1), (1, (mu m (m b0 0) (m b0 1) (jbst (m (m b0 0) (-2)) (ji2b (jushr b1 b2)))) b0 1), (1, b0)] (mu m (m b0 0) (m b0 1) (jbst (m (m b0 0) (-2)) (ji2b (jushr b1 b2)))) o := h
        have h := CR_iadd h rfl
        have h : MR X ρ 3 0 0 qP147 N 46 [b0, b1, b2] [(1, s32 (((mu m (m b0 0) (m b0 1) (jbst (m (m b0 0) (-2)) (ji2b (jushr b1 b2)))) b0 1) + 1)), (1, b0)] (mu m (m b0 0) (m b0 1) (jbst (m (m b0 0) (-2)) (ji2b (jushr b1 b2)))) o := h
        have h := CR_putf h rfl
        have h : MR X ρ 3 0 0 qP147 N 49 [b0, b1, b2] [] (mu (mu m (m b0 0) (m b0 1) (jbst (m (m b0 0) (-2)) (ji2b (jushr b1 b2)))) b0 1 (s32 (((mu m (m b0 0) (m b0 1) (jbst (m (m b0 0) (-2)) (ji2b (jushr b1 b2)))) b0 1) + 1))) o := h
        have h := CR_inc h rfl (Nat.le_of_ble_eq_true rfl)
        have h : MR X ρ 3 0 0 qP147 N 52 [b0, b1, s32 (b2 + (-8))] [] (mu (mu m (m b0 0) (m b0 1) (jbst (m (m b0 0) (-2)) (ji2b (jushr b1 b2)))) b0 1 (s32 (((mu m (m b0 0) (m b0 1) (jbst (m (m b0 0) (-2)) (ji2b (jushr b1 b2)))) b0 1) + 1))) o := h
        obtain ⟨N6, eN6, h⟩ := CR_goto h rfl rfl
        have h : MR X ρ 3 0 0 qP147 N6 3 [b0, b1, s32 (b2 + (-8))] [] (mu (mu m (m b0 0) (m b0 1) (jbst (m (m b0 0) (-2)) (ji2b (jushr b1 b2)))) b0 1 (s32 (((mu m (m b0 0) (m b0 1) (jbst (m (m b0 0) (-2)) (ji2b (jushr b1 b2)))) b0 1) + 1))) o := h
        exact ⟨N6, eN6, h⟩
set_option maxRecDepth 16384 in
theorem i15_0 {X : KO} {ρ : Nat → Int32} {m : MM} {N : Nat} {o : Instr × List (Nat × Int) × MM} {a0 a1 a2 a3 a4 a5 : Int} (h : MR X ρ 6 0 0 qP15 N 0 [a0, a1, a2, a3, a4, a5] [] m o) : ((((s32 ((m (m a0 0) 1) + 20)) ≤ 940) ∧ (∃ m3, Run X ρ 147 [(1, m a0 0), (1, a1)] m [] m3 ∧ (∃ m6, Run X ρ 147 [(1, m3 a0 0), (1, a2)] m3 [] m6 ∧ (∃ m9, Run X ρ 147 [(1, m6 a0 0), (1, a3)] m6 [] m9 ∧ (∃ m12, Run X ρ 147 [(1, m9 a0 0), (1, a4)] m9 [] m12 ∧ (∃ m15, Run X ρ 147 [(1, m12 a0 0), (1, a5)] m12 [] m15 ∧ (o = (.ireturn, [(1, m15 (m15 a0 0) 1)], m15)))))))) ∨ (¬ ((s32 ((m (m a0 0) 1) + 20)) ≤ 940) ∧ (o = (.ireturn, [(1, -1)], m)))) := by
  have h := CR_aload_n h rfl
  have h : MR X ρ 6 0 0 qP15 N 1 [a0, a1, a2, a3, a4, a5] [(1, a0)] m o := h
  have h := CR_getf h rfl (by decide)
  have h : MR X ρ 6 0 0 qP15 N 4 [a0, a1, a2, a3, a4, a5] [(1, m a0 0)] m o := h
  have h := CR_getf h rfl (by decide)
  have h : MR X ρ 6 0 0 qP15 N 7 [a0, a1, a2, a3, a4, a5] [(1, m (m a0 0) 1)] m o := h
  have h := CR_bipush h rfl rfl
  have h : MR X ρ 6 0 0 qP15 N 9 [a0, a1, a2, a3, a4, a5] [(1, 20), (1, m (m a0 0) 1)] m o := h
  have h := CR_iadd h rfl
  have h : MR X ρ 6 0 0 qP15 N 10 [a0, a1, a2, a3, a4, a5] [(1, s32 ((m (m a0 0) 1) + 20))] m o := h
  have h := CR_sipush h rfl rfl
  have h : MR X ρ 6 0 0 qP15 N 13 [a0, a1, a2, a3, a4, a5] [(1, 940), (1, s32 ((m (m a0 0) 1) + 20))] m o := h
  rcases MR_icmp h rfl rfl with ⟨c1, h⟩ | ⟨c1, h⟩
  ·
    have c1 : (s32 ((m (m a0 0) 1) + 20)) ≤ 940 := c1
    refine Or.inl ⟨c1, ?_⟩
    have h : MR X ρ 6 0 0 qP15 N 18 [a0, a1, a2, a3, a4, a5] [] m o := h
    have h := CR_aload_n h rfl
    have h : MR X ρ 6 0 0 qP15 N 19 [a0, a1, a2, a3, a4, a5] [(1, a0)] m o := h
    have h := CR_getf h rfl (by decide)
    have h : MR X ρ 6 0 0 qP15 N 22 [a0, a1, a2, a3, a4, a5] [(1, m a0 0)] m o := h
    have h := CR_iload_n h rfl
    have h : MR X ρ 6 0 0 qP15 N 23 [a0, a1, a2, a3, a4, a5] [(1, a1), (1, m a0 0)] m o := h
    obtain ⟨r2, m3, q4, h⟩ := MR_invV h rfl rfl
    have q4 : Run X ρ 147 [(1, m a0 0), (1, a1)] m r2 m3 := q4
    obtain rfl := Run_v q4 rfl
    have h : MR X ρ 6 0 0 qP15 N 26 [a0, a1, a2, a3, a4, a5] [] m3 o := h
    refine ⟨m3, q4, ?_⟩
    have h := CR_aload_n h rfl
    have h : MR X ρ 6 0 0 qP15 N 27 [a0, a1, a2, a3, a4, a5] [(1, a0)] m3 o := h
    have h := CR_getf h rfl (by decide)
    have h : MR X ρ 6 0 0 qP15 N 30 [a0, a1, a2, a3, a4, a5] [(1, m3 a0 0)] m3 o := h
    have h := CR_iload_n h rfl
    have h : MR X ρ 6 0 0 qP15 N 31 [a0, a1, a2, a3, a4, a5] [(1, a2), (1, m3 a0 0)] m3 o := h
    obtain ⟨r5, m6, q7, h⟩ := MR_invV h rfl rfl
    have q7 : Run X ρ 147 [(1, m3 a0 0), (1, a2)] m3 r5 m6 := q7
    obtain rfl := Run_v q7 rfl
    have h : MR X ρ 6 0 0 qP15 N 34 [a0, a1, a2, a3, a4, a5] [] m6 o := h
    refine ⟨m6, q7, ?_⟩
    have h := CR_aload_n h rfl
    have h : MR X ρ 6 0 0 qP15 N 35 [a0, a1, a2, a3, a4, a5] [(1, a0)] m6 o := h
    have h := CR_getf h rfl (by decide)
    have h : MR X ρ 6 0 0 qP15 N 38 [a0, a1, a2, a3, a4, a5] [(1, m6 a0 0)] m6 o := h
    have h := CR_iload_n h rfl
    have h : MR X ρ 6 0 0 qP15 N 39 [a0, a1, a2, a3, a4, a5] [(1, a3), (1, m6 a0 0)] m6 o := h
    obtain ⟨r8, m9, q10, h⟩ := MR_invV h rfl rfl
    have q10 : Run X ρ 147 [(1, m6 a0 0), (1, a3)] m6 r8 m9 := q10
    obtain rfl := Run_v q10 rfl
    have h : MR X ρ 6 0 0 qP15 N 42 [a0, a1, a2, a3, a4, a5] [] m9 o := h
    refine ⟨m9, q10, ?_⟩
    have h := CR_aload_n h rfl
    have h : MR X ρ 6 0 0 qP15 N 43 [a0, a1, a2, a3, a4, a5] [(1, a0)] m9 o := h
    have h := CR_getf h rfl (by decide)
    have h : MR X ρ 6 0 0 qP15 N 46 [a0, a1, a2, a3, a4, a5] [(1, m9 a0 0)] m9 o := h
    have h := CR_iload h rfl
    have h : MR X ρ 6 0 0 qP15 N 48 [a0, a1, a2, a3, a4, a5] [(1, a4), (1, m9 a0 0)] m9 o := h
    obtain ⟨r11, m12, q13, h⟩ := MR_invV h rfl rfl
    have q13 : Run X ρ 147 [(1, m9 a0 0), (1, a4)] m9 r11 m12 := q13
    obtain rfl := Run_v q13 rfl
    have h : MR X ρ 6 0 0 qP15 N 51 [a0, a1, a2, a3, a4, a5] [] m12 o := h
    refine ⟨m12, q13, ?_⟩
    have h := CR_aload_n h rfl
    have h : MR X ρ 6 0 0 qP15 N 52 [a0, a1, a2, a3, a4, a5] [(1, a0)] m12 o := h
    have h := CR_getf h rfl (by decide)
    have h : MR X ρ 6 0 0 qP15 N 55 [a0, a1, a2, a3, a4, a5] [(1, m12 a0 0)] m12 o := h
    have h := CR_iload h rfl
    have h : MR X ρ 6 0 0 qP15 N 57 [a0, a1, a2, a3, a4, a5] [(1, a5), (1, m12 a0 0)] m12 o := h
    obtain ⟨r14, m15, q16, h⟩ := MR_invV h rfl rfl
    have q16 : Run X ρ 147 [(1, m12 a0 0), (1, a5)] m12 r14 m15 := q16
    obtain rfl := Run_v q16 rfl
    have h : MR X ρ 6 0 0 qP15 N 60 [a0, a1, a2, a3, a4, a5] [] m15 o := h
    refine ⟨m15, q16, ?_⟩
    have h := CR_aload_n h rfl
    have h : MR X ρ 6 0 0 qP15 N 61 [a0, a1, a2, a3, a4, a5] [(1, a0)] m15 o := h
    have h := CR_getf h rfl (by decide)
    have h : MR X ρ 6 0 0 qP15 N 64 [a0, a1, a2, a3, a4, a5] [(1, m15 a0 0)] m15 o := h
    have h := CR_getf h rfl (by decide)
    have h : MR X ρ 6 0 0 qP15 N 67 [a0, a1, a2, a3, a4, a5] [(1, m15 (m15 a0 0) 1)] m15 o := h
    exact CR_end h rfl rfl
  ·
    have c1 : ¬ ((s32 ((m (m a0 0) 1) + 20)) ≤ 940) := c1
    refine Or.inr ⟨c1, ?_⟩
    have h : MR X ρ 6 0 0 qP15 N 16 [a0, a1, a2, a3, a4, a5] [] m o := h
    have h := CR_iconst h rfl rfl
    have h : MR X ρ 6 0 0 qP15 N 17 [a0, a1, a2, a3, a4, a5] [(1, -1)] m o := h
    exact CR_end h rfl rfl
set_option maxRecDepth 16384 in
theorem i176_0 {X : KO} {ρ : Nat → Int32} {m : MM} {N : Nat} {o : Instr × List (Nat × Int) × MM} {a0 a1 : Int} (h : MR X ρ 3 0 0 qP176 N 0 [a0, a1, 0] [] m o) : (MR X ρ 3 0 0 qP176 N 3 [a0, a1, 24] [] m o) := by
  have h := CR_bipush h rfl rfl
  have h : MR X ρ 3 0 0 qP176 N 2 [a0, a1, 0] [(1, 24)] m o := h
  have h := CR_istore_n h rfl (Nat.le_of_ble_eq_true rfl)
  have h : MR X ρ 3 0 0 qP176 N 3 [a0, a1, 24] [] m o := h
  exact h
set_option maxRecDepth 16384 in
theorem i176_3 {X : KO} {ρ : Nat → Int32} {m : MM} {N : Nat} {o : Instr × List (Nat × Int) × MM} {b0 b1 b2 : Int} (h : MR X ρ 3 0 0 qP176 N 3 [b0, b1, b2] [] m o) : (((b2 < 0) ∧ (o = (.return_, [], m))) ∨ (¬ (b2 < 0) ∧ (∃ N2, N = N2 + 1 ∧ MR X ρ 3 0 0 qP176 N2 3 [b0, b1, s32 (b2 + (-8))] [] (mu (mu m (m b0 1) (m b0 2) (s32 (jand (jushr b1 b2) 255))) b0 2 (s32 (((mu m (m b0 1) (m b0 2) (s32 (jand (jushr b1 b2) 255))) b0 2) + 1))) o))) := by
  have h := CR_iload_n h rfl
  have h : MR X ρ 3 0 0 qP176 N 4 [b0, b1, b2] [(1, b2)] m o := h
  rcases MR_if h rfl rfl with ⟨c1, h⟩ | ⟨c1, h⟩
  ·
    have c1 : b2 < 0 := c1
    refine Or.inl ⟨c1, ?_⟩
    have h : MR X ρ 3 0 0 qP176 N 39 [b0, b1, b2] [] m o := h
    exact CR_end h rfl rfl
  ·
    have c1 : ¬ (b2 < 0) := c1
    refine Or.inr ⟨c1, ?_⟩
    have h : MR X ρ 3 0 0 qP176 N 7 [b0, b1, b2] [] m o := h
    have h := CR_aload_n h rfl
    have h : MR X ρ 3 0 0 qP176 N 8 [b0, b1, b2] [(1, b0)] m o := h
    have h := CR_getf h rfl (by decide)
    have h : MR X ρ 3 0 0 qP176 N 11 [b0, b1, b2] [(1, m b0 1)] m o := h
    have h := CR_aload_n h rfl
    have h : MR X ρ 3 0 0 qP176 N 12 [b0, b1, b2] [(1, b0), (1, m b0 1)] m o := h
    have h := CR_getf h rfl (by decide)
    have h : MR X ρ 3 0 0 qP176 N 15 [b0, b1, b2] [(1, m b0 2), (1, m b0 1)] m o := h
    have h := CR_iload_n h rfl
    have h : MR X ρ 3 0 0 qP176 N 16 [b0, b1, b2] [(1, b1), (1, m b0 2), (1, m b0 1)] m o := h
    have h := CR_iload_n h rfl
    have h : MR X ρ 3 0 0 qP176 N 17 [b0, b1, b2] [(1, b2), (1, b1), (1, m b0 2), (1, m b0 1)] m o := h
    have h := CR_iushr h rfl
    have h : MR X ρ 3 0 0 qP176 N 18 [b0, b1, b2] [(1, jushr b1 b2), (1, m b0 2), (1, m b0 1)] m o := h
    have h := CR_sipush h rfl rfl
    have h : MR X ρ 3 0 0 qP176 N 21 [b0, b1, b2] [(1, 255), (1, jushr b1 b2), (1, m b0 2), (1, m b0 1)] m o := h
    have h := CR_iand h rfl
    have h : MR X ρ 3 0 0 qP176 N 22 [b0, b1, b2] [(1, jand (jushr b1 b2) 255), (1, m b0 2), (1, m b0 1)] m o := h
    have h := CR_iastore_ h rfl
    have h : MR X ρ 3 0 0 qP176 N 23 [b0, b1, b2] [] (mu m (m b0 1) (m b0 2) (s32 (jand (jushr b1 b2) 255))) o := h
    have h := CR_aload_n h rfl
    have h : MR X ρ 3 0 0 qP176 N 24 [b0, b1, b2] [(1, b0)] (mu m (m b0 1) (m b0 2) (s32 (jand (jushr b1 b2) 255))) o := h
    have h := CR_dup h rfl
    have h : MR X ρ 3 0 0 qP176 N 25 [b0, b1, b2] [(1, b0), (1, b0)] (mu m (m b0 1) (m b0 2) (s32 (jand (jushr b1 b2) 255))) o := h
    have h := CR_getf h rfl (by decide)
    have h : MR X ρ 3 0 0 qP176 N 28 [b0, b1, b2] [(1, (mu m (m b0 1) (m b0 2) (s32 (jand (jushr b1 b2) 255))) b0 2), (1, b0)] (mu m (m b0 1) (m b0 2) (s32 (jand (jushr b1 b2) 255))) o := h
    have h := CR_iconst h rfl rfl
    have h : MR X ρ 3 0 0 qP176 N 29 [b0, b1, b2] [(1, 1), (1, (mu m (m b0 1) (m b0 2) (s32 (jand (jushr b1 b2) 255))) b0 2), (1, b0)] (mu m (m b0 1) (m b0 2) (s32 (jand (jushr b1 b2) 255))) o := h
    have h := CR_iadd h rfl
    have h : MR X ρ 3 0 0 qP176 N 30 [b0, b1, b2] [(1, s32 (((mu m (m b0 1) (m b0 2) (s32 (jand (jushr b1 b2) 255))) b0 2) + 1)), (1, b0)] (mu m (m b0 1) (m b0 2) (s32 (jand (jushr b1 b2) 255))) o := h
    have h := CR_putf h rfl
    have h : MR X ρ 3 0 0 qP176 N 33 [b0, b1, b2] [] (mu (mu m (m b0 1) (m b0 2) (s32 (jand (jushr b1 b2) 255))) b0 2 (s32 (((mu m (m b0 1) (m b0 2) (s32 (jand (jushr b1 b2) 255))) b0 2) + 1))) o := h
    have h := CR_inc h rfl (Nat.le_of_ble_eq_true rfl)
    have h : MR X ρ 3 0 0 qP176 N 36 [b0, b1, s32 (b2 + (-8))] [] (mu (mu m (m b0 1) (m b0 2) (s32 (jand (jushr b1 b2) 255))) b0 2 (s32 (((mu m (m b0 1) (m b0 2) (s32 (jand (jushr b1 b2) 255))) b0 2) + 1))) o := h
    obtain ⟨N2, eN2, h⟩ := CR_goto h rfl rfl
    have h : MR X ρ 3 0 0 qP176 N2 3 [b0, b1, s32 (b2 + (-8))] [] (mu (mu m (m b0 1) (m b0 2) (s32 (jand (jushr b1 b2) 255))) b0 2 (s32 (((mu m (m b0 1) (m b0 2) (s32 (jand (jushr b1 b2) 255))) b0 2) + 1))) o := h
    exact ⟨N2, eN2, h⟩
set_option maxRecDepth 16384 in
theorem i189_0 {X : KO} {ρ : Nat → Int32} {m : MM} {N : Nat} {o : Instr × List (Nat × Int) × MM} {a0 a1 a2 a3 a4 a5 : Int} (h : MR X ρ 6 0 0 qP189 N 0 [a0, a1, a2, a3, a4, a5] [] m o) : ((((s32 (((mu m a0 0 0) a0 2) + 20)) ≤ 940) ∧ (∃ m3, Run X ρ 176 [(1, a0), (1, a1)] (mu m a0 0 0) [] m3 ∧ (∃ m6, Run X ρ 176 [(1, a0), (1, a2)] m3 [] m6 ∧ (∃ m9, Run X ρ 176 [(1, a0), (1, a3)] m6 [] m9 ∧ (∃ m12, Run X ρ 176 [(1, a0), (1, a4)] m9 [] m12 ∧ (∃ m15, Run X ρ 176 [(1, a0), (1, a5)] m12 [] m15 ∧ (o = (.ireturn, [(1, m15 a0 2)], m15)))))))) ∨ (¬ ((s32 (((mu m a0 0 0) a0 2) + 20)) ≤ 940) ∧ (o = (.ireturn, [(1, -1)], mu m a0 0 0)))) := by
  have h := CR_aload_n h rfl
  have h : MR X ρ 6 0 0 qP189 N 1 [a0, a1, a2, a3, a4, a5] [(1, a0)] m o := h
  have h := CR_iconst h rfl rfl
  have h : MR X ρ 6 0 0 qP189 N 2 [a0, a1, a2, a3, a4, a5] [(1, 0), (1, a0)] m o := h
  have h := CR_putf h rfl
  have h : MR X ρ 6 0 0 qP189 N 5 [a0, a1, a2, a3, a4, a5] [] (mu m a0 0 0) o := h
  have h := CR_aload_n h rfl
  have h : MR X ρ 6 0 0 qP189 N 6 [a0, a1, a2, a3, a4, a5] [(1, a0)] (mu m a0 0 0) o := h
  have h := CR_getf h rfl (by decide)
  have h : MR X ρ 6 0 0 qP189 N 9 [a0, a1, a2, a3, a4, a5] [(1, (mu m a0 0 0) a0 2)] (mu m a0 0 0) o := h
  have h := CR_bipush h rfl rfl
  have h : MR X ρ 6 0 0 qP189 N 11 [a0, a1, a2, a3, a4, a5] [(1, 20), (1, (mu m a0 0 0) a0 2)] (mu m a0 0 0) o := h
  have h := CR_iadd h rfl
  have h : MR X ρ 6 0 0 qP189 N 12 [a0, a1, a2, a3, a4, a5] [(1, s32 (((mu m a0 0 0) a0 2) + 20))] (mu m a0 0 0) o := h
  have h := CR_sipush h rfl rfl
  have h : MR X ρ 6 0 0 qP189 N 15 [a0, a1, a2, a3, a4, a5] [(1, 940), (1, s32 (((mu m a0 0 0) a0 2) + 20))] (mu m a0 0 0) o := h
  rcases MR_icmp h rfl rfl with ⟨c1, h⟩ | ⟨c1, h⟩
  ·
    have c1 : (s32 (((mu m a0 0 0) a0 2) + 20)) ≤ 940 := c1
    refine Or.inl ⟨c1, ?_⟩
    have h : MR X ρ 6 0 0 qP189 N 20 [a0, a1, a2, a3, a4, a5] [] (mu m a0 0 0) o := h
    have h := CR_aload_n h rfl
    have h : MR X ρ 6 0 0 qP189 N 21 [a0, a1, a2, a3, a4, a5] [(1, a0)] (mu m a0 0 0) o := h
    have h := CR_iload_n h rfl
    have h : MR X ρ 6 0 0 qP189 N 22 [a0, a1, a2, a3, a4, a5] [(1, a1), (1, a0)] (mu m a0 0 0) o := h
    obtain ⟨r2, m3, q4, h⟩ := MR_invV h rfl rfl
    have q4 : Run X ρ 176 [(1, a0), (1, a1)] (mu m a0 0 0) r2 m3 := q4
    obtain rfl := Run_v q4 rfl
    have h : MR X ρ 6 0 0 qP189 N 25 [a0, a1, a2, a3, a4, a5] [] m3 o := h
    refine ⟨m3, q4, ?_⟩
    have h := CR_aload_n h rfl
    have h : MR X ρ 6 0 0 qP189 N 26 [a0, a1, a2, a3, a4, a5] [(1, a0)] m3 o := h
    have h := CR_iload_n h rfl
    have h : MR X ρ 6 0 0 qP189 N 27 [a0, a1, a2, a3, a4, a5] [(1, a2), (1, a0)] m3 o := h
    obtain ⟨r5, m6, q7, h⟩ := MR_invV h rfl rfl
    have q7 : Run X ρ 176 [(1, a0), (1, a2)] m3 r5 m6 := q7
    obtain rfl := Run_v q7 rfl
    have h : MR X ρ 6 0 0 qP189 N 30 [a0, a1, a2, a3, a4, a5] [] m6 o := h
    refine ⟨m6, q7, ?_⟩
    have h := CR_aload_n h rfl
    have h : MR X ρ 6 0 0 qP189 N 31 [a0, a1, a2, a3, a4, a5] [(1, a0)] m6 o := h
    have h := CR_iload_n h rfl
    have h : MR X ρ 6 0 0 qP189 N 32 [a0, a1, a2, a3, a4, a5] [(1, a3), (1, a0)] m6 o := h
    obtain ⟨r8, m9, q10, h⟩ := MR_invV h rfl rfl
    have q10 : Run X ρ 176 [(1, a0), (1, a3)] m6 r8 m9 := q10
    obtain rfl := Run_v q10 rfl
    have h : MR X ρ 6 0 0 qP189 N 35 [a0, a1, a2, a3, a4, a5] [] m9 o := h
    refine ⟨m9, q10, ?_⟩
    have h := CR_aload_n h rfl
    have h : MR X ρ 6 0 0 qP189 N 36 [a0, a1, a2, a3, a4, a5] [(1, a0)] m9 o := h
    have h := CR_iload h rfl
    have h : MR X ρ 6 0 0 qP189 N 38 [a0, a1, a2, a3, a4, a5] [(1, a4), (1, a0)] m9 o := h
    obtain ⟨r11, m12, q13, h⟩ := MR_invV h rfl rfl
    have q13 : Run X ρ 176 [(1, a0), (1, a4)] m9 r11 m12 := q13
    obtain rfl := Run_v q13 rfl
    have h : MR X ρ 6 0 0 qP189 N 41 [a0, a1, a2, a3, a4, a5] [] m12 o := h
    refine ⟨m12, q13, ?_⟩
    have h := CR_aload_n h rfl
    have h : MR X ρ 6 0 0 qP189 N 42 [a0, a1, a2, a3, a4, a5] [(1, a0)] m12 o := h
    have h := CR_iload h rfl
    have h : MR X ρ 6 0 0 qP189 N 44 [a0, a1, a2, a3, a4, a5] [(1, a5), (1, a0)] m12 o := h
    obtain ⟨r14, m15, q16, h⟩ := MR_invV h rfl rfl
    have q16 : Run X ρ 176 [(1, a0), (1, a5)] m12 r14 m15 := q16
    obtain rfl := Run_v q16 rfl
    have h : MR X ρ 6 0 0 qP189 N 47 [a0, a1, a2, a3, a4, a5] [] m15 o := h
    refine ⟨m15, q16, ?_⟩
    have h := CR_aload_n h rfl
    have h : MR X ρ 6 0 0 qP189 N 48 [a0, a1, a2, a3, a4, a5] [(1, a0)] m15 o := h
    have h := CR_getf h rfl (by decide)
    have h : MR X ρ 6 0 0 qP189 N 51 [a0, a1, a2, a3, a4, a5] [(1, m15 a0 2)] m15 o := h
    exact CR_end h rfl rfl
  ·
    have c1 : ¬ ((s32 (((mu m a0 0 0) a0 2) + 20)) ≤ 940) := c1
    refine Or.inr ⟨c1, ?_⟩
    have h : MR X ρ 6 0 0 qP189 N 18 [a0, a1, a2, a3, a4, a5] [] (mu m a0 0 0) o := h
    have h := CR_iconst h rfl rfl
    have h : MR X ρ 6 0 0 qP189 N 19 [a0, a1, a2, a3, a4, a5] [(1, -1)] (mu m a0 0 0) o := h
    exact CR_end h rfl rfl
