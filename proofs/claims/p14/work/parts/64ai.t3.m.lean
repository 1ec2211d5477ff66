section
set_option maxRecDepth 16384 in
theorem i68_0 {X : KO} {ρ : Nat → Int32} {m : MM} {N : Nat} {o : Instr × List (Nat × Int) × MM} {a0 : Int} (h : MR X ρ 2 0 0 qP68 N 0 [a0, 0] [] m o) : (MR X ρ 2 0 0 qP68 N 2 [a0, 0] [] m o) := by
  have h := CR_iconst h rfl rfl
  have h : MR X ρ 2 0 0 qP68 N 1 [a0, 0] [(1, 0)] m o := h
  have h := CR_istore_n h rfl (Nat.le_of_ble_eq_true rfl)
  have h : MR X ρ 2 0 0 qP68 N 2 [a0, 0] [] m o := h
  exact h
set_option maxRecDepth 16384 in
theorem i68_2 {X : KO} {ρ : Nat → Int32} {m : MM} {N : Nat} {o : Instr × List (Nat × Int) × MM} {b0 b1 : Int} (h : MR X ρ 2 0 0 qP68 N 2 [b0, b1] [] m o) : (((8 ≤ b1) ∧ (o = (.return_, [], mu (mu (mu (mu m b0 5 0) b0 6 0) b0 7 0) b0 8 0))) ∨ (¬ (8 ≤ b1) ∧ (∃ N2, N = N2 + 1 ∧ MR X ρ 2 0 0 qP68 N2 2 [b0, s32 (b1 + 1)] [] (mu m (m b0 4) b1 (s32 0)) o))) := by
  have h := CR_iload_n h rfl
  have h : MR X ρ 2 0 0 qP68 N 3 [b0, b1] [(1, b1)] m o := h
  have h := CR_bipush h rfl rfl
  have h : MR X ρ 2 0 0 qP68 N 5 [b0, b1] [(1, 8), (1, b1)] m o := h
  rcases MR_icmp h rfl rfl with ⟨c1, h⟩ | ⟨c1, h⟩
  ·
    have c1 : 8 ≤ b1 := c1
    refine Or.inl ⟨c1, ?_⟩
    have h : MR X ρ 2 0 0 qP68 N 21 [b0, b1] [] m o := h
    have h := CR_aload_n h rfl
    have h : MR X ρ 2 0 0 qP68 N 22 [b0, b1] [(1, b0)] m o := h
    have h := CR_iconst h rfl rfl
    have h : MR X ρ 2 0 0 qP68 N 23 [b0, b1] [(1, 0), (1, b0)] m o := h
    have h := CR_putf h rfl
    have h : MR X ρ 2 0 0 qP68 N 26 [b0, b1] [] (mu m b0 5 0) o := h
    have h := CR_aload_n h rfl
    have h : MR X ρ 2 0 0 qP68 N 27 [b0, b1] [(1, b0)] (mu m b0 5 0) o := h
    have h := CR_iconst h rfl rfl
    have h : MR X ρ 2 0 0 qP68 N 28 [b0, b1] [(1, 0), (1, b0)] (mu m b0 5 0) o := h
    have h := CR_putf h rfl
    have h : MR X ρ 2 0 0 qP68 N 31 [b0, b1] [] (mu (mu m b0 5 0) b0 6 0) o := h
    have h := CR_aload_n h rfl
    have h : MR X ρ 2 0 0 qP68 N 32 [b0, b1] [(1, b0)] (mu (mu m b0 5 0) b0 6 0) o := h
    have h := CR_iconst h rfl rfl
    have h : MR X ρ 2 0 0 qP68 N 33 [b0, b1] [(1, 0), (1, b0)] (mu (mu m b0 5 0) b0 6 0) o := h
    have h := CR_putf h rfl
    have h : MR X ρ 2 0 0 qP68 N 36 [b0, b1] [] (mu (mu (mu m b0 5 0) b0 6 0) b0 7 0) o := h
    have h := CR_aload_n h rfl
    have h : MR X ρ 2 0 0 qP68 N 37 [b0, b1] [(1, b0)] (mu (mu (mu m b0 5 0) b0 6 0) b0 7 0) o := h
    have h := CR_iconst h rfl rfl
    have h : MR X ρ 2 0 0 qP68 N 38 [b0, b1] [(1, 0), (1, b0)] (mu (mu (mu m b0 5 0) b0 6 0) b0 7 0) o := h
    have h := CR_putf h rfl
    have h : MR X ρ 2 0 0 qP68 N 41 [b0, b1] [] (mu (mu (mu (mu m b0 5 0) b0 6 0) b0 7 0) b0 8 0) o := h
    exact CR_end h rfl rfl
  ·
    have c1 : ¬ (8 ≤ b1) := c1
    refine Or.inr ⟨c1, ?_⟩
    have h : MR X ρ 2 0 0 qP68 N 8 [b0, b1] [] m o := h
    have h := CR_aload_n h rfl
    have h : MR X ρ 2 0 0 qP68 N 9 [b0, b1] [(1, b0)] m o := h
    have h := CR_getf h rfl (by decide)
    have h : MR X ρ 2 0 0 qP68 N 12 [b0, b1] [(1, m b0 4)] m o := h
    have h := CR_iload_n h rfl
    have h : MR X ρ 2 0 0 qP68 N 13 [b0, b1] [(1, b1), (1, m b0 4)] m o := h
    have h := CR_iconst h rfl rfl
    have h : MR X ρ 2 0 0 qP68 N 14 [b0, b1] [(1, 0), (1, b1), (1, m b0 4)] m o := h
    have h := CR_iastore_ h rfl
    have h : MR X ρ 2 0 0 qP68 N 15 [b0, b1] [] (mu m (m b0 4) b1 (s32 0)) o := h
    have h := CR_inc h rfl (Nat.le_of_ble_eq_true rfl)
    have h : MR X ρ 2 0 0 qP68 N 18 [b0, s32 (b1 + 1)] [] (mu m (m b0 4) b1 (s32 0)) o := h
    obtain ⟨N2, eN2, h⟩ := CR_goto h rfl rfl
    have h : MR X ρ 2 0 0 qP68 N2 2 [b0, s32 (b1 + 1)] [] (mu m (m b0 4) b1 (s32 0)) o := h
    exact ⟨N2, eN2, h⟩
set_option maxRecDepth 16384 in
theorem i111_0 {X : KO} {ρ : Nat → Int32} {m : MM} {N : Nat} {o : Instr × List (Nat × Int) × MM} {a0 : Int} (h : MR X ρ 1 0 0 qP111 N 0 [a0] [] m o) : (∃ m2, Run X ρ 140 [(1, a0)] m [] m2 ∧ (o = (.return_, [], m2))) := by
  have h := CR_aload_n h rfl
  have h : MR X ρ 1 0 0 qP111 N 1 [a0] [(1, a0)] m o := h
  obtain ⟨r1, m2, q3, h⟩ := MR_invV h rfl rfl
  have q3 : Run X ρ 140 [(1, a0)] m r1 m2 := q3
  obtain rfl := Run_v q3 rfl
  have h : MR X ρ 1 0 0 qP111 N 4 [a0] [] m2 o := h
  refine ⟨m2, q3, ?_⟩
  exact CR_end h rfl rfl
set_option maxRecDepth 16384 in
theorem i140_0 {X : KO} {ρ : Nat → Int32} {m : MM} {N : Nat} {o : Instr × List (Nat × Int) × MM} {a0 : Int} (h : MR X ρ 1 0 0 qP140 N 0 [a0] [] m o) : (∃ m2, Run X ρ 297 [(1, m a0 1), (1, 0)] m [] m2 ∧ (∃ m5, Run X ρ 297 [(1, m2 a0 2), (1, -1)] m2 [] m5 ∧ (∃ m8, Run X ρ 297 [(1, m5 a0 3), (1, 0)] m5 [] m8 ∧ (∃ m11, Run X ρ 297 [(1, m8 a0 4), (1, 0)] m8 [] m11 ∧ (∃ m14, Run X ρ 297 [(1, m11 a0 5), (1, 0)] m11 [] m14 ∧ (∃ m17, Run X ρ 297 [(1, m14 a0 6), (1, -1)] m14 [] m17 ∧ (o = (.return_, [], mu (mu m17 a0 7 0) a0 8 0)))))))) := by
  have h := CR_aload_n h rfl
  have h : MR X ρ 1 0 0 qP140 N 1 [a0] [(1, a0)] m o := h
  have h := CR_getf h rfl (by decide)
  have h : MR X ρ 1 0 0 qP140 N 4 [a0] [(1, m a0 1)] m o := h
  have h := CR_iconst h rfl rfl
  have h : MR X ρ 1 0 0 qP140 N 5 [a0] [(1, 0), (1, m a0 1)] m o := h
  obtain ⟨r1, m2, q3, h⟩ := MR_invS h rfl rfl
  have q3 : Run X ρ 297 [(1, m a0 1), (1, 0)] m r1 m2 := q3
  obtain rfl := Run_v q3 rfl
  have h : MR X ρ 1 0 0 qP140 N 8 [a0] [] m2 o := h
  refine ⟨m2, q3, ?_⟩
  have h := CR_aload_n h rfl
  have h : MR X ρ 1 0 0 qP140 N 9 [a0] [(1, a0)] m2 o := h
  have h := CR_getf h rfl (by decide)
  have h : MR X ρ 1 0 0 qP140 N 12 [a0] [(1, m2 a0 2)] m2 o := h
  have h := CR_iconst h rfl rfl
  have h : MR X ρ 1 0 0 qP140 N 13 [a0] [(1, -1), (1, m2 a0 2)] m2 o := h
  obtain ⟨r4, m5, q6, h⟩ := MR_invS h rfl rfl
  have q6 : Run X ρ 297 [(1, m2 a0 2), (1, -1)] m2 r4 m5 := q6
  obtain rfl := Run_v q6 rfl
  have h : MR X ρ 1 0 0 qP140 N 16 [a0] [] m5 o := h
  refine ⟨m5, q6, ?_⟩
  have h := CR_aload_n h rfl
  have h : MR X ρ 1 0 0 qP140 N 17 [a0] [(1, a0)] m5 o := h
  have h := CR_getf h rfl (by decide)
  have h : MR X ρ 1 0 0 qP140 N 20 [a0] [(1, m5 a0 3)] m5 o := h
  have h := CR_iconst h rfl rfl
  have h : MR X ρ 1 0 0 qP140 N 21 [a0] [(1, 0), (1, m5 a0 3)] m5 o := h
  obtain ⟨r7, m8, q9, h⟩ := MR_invS h rfl rfl
  have q9 : Run X ρ 297 [(1, m5 a0 3), (1, 0)] m5 r7 m8 := q9
  obtain rfl := Run_v q9 rfl
  have h : MR X ρ 1 0 0 qP140 N 24 [a0] [] m8 o := h
  refine ⟨m8, q9, ?_⟩
  have h := CR_aload_n h rfl
  have h : MR X ρ 1 0 0 qP140 N 25 [a0] [(1, a0)] m8 o := h
  have h := CR_getf h rfl (by decide)
  have h : MR X ρ 1 0 0 qP140 N 28 [a0] [(1, m8 a0 4)] m8 o := h
  have h := CR_iconst h rfl rfl
  have h : MR X ρ 1 0 0 qP140 N 29 [a0] [(1, 0), (1, m8 a0 4)] m8 o := h
  obtain ⟨r10, m11, q12, h⟩ := MR_invS h rfl rfl
  have q12 : Run X ρ 297 [(1, m8 a0 4), (1, 0)] m8 r10 m11 := q12
  obtain rfl := Run_v q12 rfl
  have h : MR X ρ 1 0 0 qP140 N 32 [a0] [] m11 o := h
  refine ⟨m11, q12, ?_⟩
  have h := CR_aload_n h rfl
  have h : MR X ρ 1 0 0 qP140 N 33 [a0] [(1, a0)] m11 o := h
  have h := CR_getf h rfl (by decide)
  have h : MR X ρ 1 0 0 qP140 N 36 [a0] [(1, m11 a0 5)] m11 o := h
  have h := CR_iconst h rfl rfl
  have h : MR X ρ 1 0 0 qP140 N 37 [a0] [(1, 0), (1, m11 a0 5)] m11 o := h
  obtain ⟨r13, m14, q15, h⟩ := MR_invS h rfl rfl
  have q15 : Run X ρ 297 [(1, m11 a0 5), (1, 0)] m11 r13 m14 := q15
  obtain rfl := Run_v q15 rfl
  have h : MR X ρ 1 0 0 qP140 N 40 [a0] [] m14 o := h
  refine ⟨m14, q15, ?_⟩
  have h := CR_aload_n h rfl
  have h : MR X ρ 1 0 0 qP140 N 41 [a0] [(1, a0)] m14 o := h
  have h := CR_getf h rfl (by decide)
  have h : MR X ρ 1 0 0 qP140 N 44 [a0] [(1, m14 a0 6)] m14 o := h
  have h := CR_iconst h rfl rfl
  have h : MR X ρ 1 0 0 qP140 N 45 [a0] [(1, -1), (1, m14 a0 6)] m14 o := h
  obtain ⟨r16, m17, q18, h⟩ := MR_invS h rfl rfl
  have q18 : Run X ρ 297 [(1, m14 a0 6), (1, -1)] m14 r16 m17 := q18
  obtain rfl := Run_v q18 rfl
  have h : MR X ρ 1 0 0 qP140 N 48 [a0] [] m17 o := h
  refine ⟨m17, q18, ?_⟩
  have h := CR_aload_n h rfl
  have h : MR X ρ 1 0 0 qP140 N 49 [a0] [(1, a0)] m17 o := h
  have h := CR_iconst h rfl rfl
  have h : MR X ρ 1 0 0 qP140 N 50 [a0] [(1, 0), (1, a0)] m17 o := h
  have h := CR_putf h rfl
  have h : MR X ρ 1 0 0 qP140 N 53 [a0] [] (mu m17 a0 7 0) o := h
  have h := CR_aload_n h rfl
  have h : MR X ρ 1 0 0 qP140 N 54 [a0] [(1, a0)] (mu m17 a0 7 0) o := h
  have h := CR_iconst h rfl rfl
  have h : MR X ρ 1 0 0 qP140 N 55 [a0] [(1, 0), (1, a0)] (mu m17 a0 7 0) o := h
  have h := CR_putf h rfl
  have h : MR X ρ 1 0 0 qP140 N 58 [a0] [] (mu (mu m17 a0 7 0) a0 8 0) o := h
  exact CR_end h rfl rfl
set_option maxRecDepth 16384 in
theorem i83_0 {X : KO} {ρ : Nat → Int32} {m : MM} {N : Nat} {o : Instr × List (Nat × Int) × MM} {a0 a1 a2 : Int} (h : MR X ρ 4 0 0 qP83 N 0 [a0, a1, a2, 0] [] m o) : (∃ m2, Run X ρ 68 [(1, a0)] m [] m2 ∧ (∃ m5, Run X ρ 111 [(1, a2)] m2 [] m5 ∧ (∃ m8, Run X ρ 149 [(1, a1), (1, 900)] m5 [] m8 ∧ (MR X ρ 4 0 0 qP83 N 17 [a0, a1, a2, 0] [] m8 o)))) := by
  have h := CR_aload_n h rfl
  have h : MR X ρ 4 0 0 qP83 N 1 [a0, a1, a2, 0] [(1, a0)] m o := h
  obtain ⟨r1, m2, q3, h⟩ := MR_invV h rfl rfl
  have q3 : Run X ρ 68 [(1, a0)] m r1 m2 := q3
  obtain rfl := Run_v q3 rfl
  have h : MR X ρ 4 0 0 qP83 N 4 [a0, a1, a2, 0] [] m2 o := h
  refine ⟨m2, q3, ?_⟩
  have h := CR_aload_n h rfl
  have h : MR X ρ 4 0 0 qP83 N 5 [a0, a1, a2, 0] [(1, a2)] m2 o := h
  obtain ⟨r4, m5, q6, h⟩ := MR_invV h rfl rfl
  have q6 : Run X ρ 111 [(1, a2)] m2 r4 m5 := q6
  obtain rfl := Run_v q6 rfl
  have h : MR X ρ 4 0 0 qP83 N 8 [a0, a1, a2, 0] [] m5 o := h
  refine ⟨m5, q6, ?_⟩
  have h := CR_aload_n h rfl
  have h : MR X ρ 4 0 0 qP83 N 9 [a0, a1, a2, 0] [(1, a1)] m5 o := h
  have h := CR_sipush h rfl rfl
  have h : MR X ρ 4 0 0 qP83 N 12 [a0, a1, a2, 0] [(1, 900), (1, a1)] m5 o := h
  obtain ⟨r7, m8, q9, h⟩ := MR_invV h rfl rfl
  have q9 : Run X ρ 149 [(1, a1), (1, 900)] m5 r7 m8 := q9
  obtain rfl := Run_v q9 rfl
  have h : MR X ρ 4 0 0 qP83 N 15 [a0, a1, a2, 0] [] m8 o := h
  refine ⟨m8, q9, ?_⟩
  have h := CR_iconst h rfl rfl
  have h : MR X ρ 4 0 0 qP83 N 16 [a0, a1, a2, 0] [(1, 0)] m8 o := h
  have h := CR_istore_n h rfl (Nat.le_of_ble_eq_true rfl)
  have h : MR X ρ 4 0 0 qP83 N 17 [a0, a1, a2, 0] [] m8 o := h
  exact h
set_option maxRecDepth 16384 in
theorem i83_17 {X : KO} {ρ : Nat → Int32} {m : MM} {N : Nat} {o : Instr × List (Nat × Int) × MM} {b0 b1 b2 b3 : Int} (h : MR X ρ 4 0 0 qP83 N 17 [b0, b1, b2, b3] [] m o) : (((900 ≤ b3) ∧ (o = (.ireturn, [(1, b3)], m))) ∨ (¬ (900 ≤ b3) ∧ ((((m b1 4) = 0) ∧ (o = (.ireturn, [(1, b3)], m))) ∨ (¬ ((m b1 4) = 0) ∧ (∃ v6 m4, Run X ρ 79 [(1, b0), (1, b1), (1, b2)] m [(1, v6)] m4 ∧ (v6 = 0 ∨ v6 = 1) ∧ (((v6 = 0) ∧ (o = (.ireturn, [(1, -1)], m4))) ∨ (¬ (v6 = 0) ∧ (∃ N8, N = N8 + 1 ∧ MR X ρ 4 0 0 qP83 N8 17 [b0, b1, b2, s32 (b3 + 1)] [] m4 o)))))))) := by
  have h := CR_iload_n h rfl
  have h : MR X ρ 4 0 0 qP83 N 18 [b0, b1, b2, b3] [(1, b3)] m o := h
  have h := CR_sipush h rfl rfl
  have h : MR X ρ 4 0 0 qP83 N 21 [b0, b1, b2, b3] [(1, 900), (1, b3)] m o := h
  rcases MR_icmp h rfl rfl with ⟨c1, h⟩ | ⟨c1, h⟩
  ·
    have c1 : 900 ≤ b3 := c1
    refine Or.inl ⟨c1, ?_⟩
    have h : MR X ρ 4 0 0 qP83 N 48 [b0, b1, b2, b3] [] m o := h
    have h := CR_iload_n h rfl
    have h : MR X ρ 4 0 0 qP83 N 49 [b0, b1, b2, b3] [(1, b3)] m o := h
    exact CR_end h rfl rfl
  ·
    have c1 : ¬ (900 ≤ b3) := c1
    refine Or.inr ⟨c1, ?_⟩
    have h : MR X ρ 4 0 0 qP83 N 24 [b0, b1, b2, b3] [] m o := h
    have h := CR_aload_n h rfl
    have h : MR X ρ 4 0 0 qP83 N 25 [b0, b1, b2, b3] [(1, b1)] m o := h
    have h := CR_getf h rfl (by decide)
    have h : MR X ρ 4 0 0 qP83 N 28 [b0, b1, b2, b3] [(1, m b1 4)] m o := h
    rcases MR_if h rfl rfl with ⟨c2, h⟩ | ⟨c2, h⟩
    ·
      have c2 : (m b1 4) = 0 := c2
      refine Or.inl ⟨c2, ?_⟩
      have h : MR X ρ 4 0 0 qP83 N 48 [b0, b1, b2, b3] [] m o := h
      have h := CR_iload_n h rfl
      have h : MR X ρ 4 0 0 qP83 N 49 [b0, b1, b2, b3] [(1, b3)] m o := h
      exact CR_end h rfl rfl
    ·
      have c2 : ¬ ((m b1 4) = 0) := c2
      refine Or.inr ⟨c2, ?_⟩
      have h : MR X ρ 4 0 0 qP83 N 31 [b0, b1, b2, b3] [] m o := h
      have h := CR_aload_n h rfl
      have h : MR X ρ 4 0 0 qP83 N 32 [b0, b1, b2, b3] [(1, b0)] m o := h
      have h := CR_aload_n h rfl
      have h : MR X ρ 4 0 0 qP83 N 33 [b0, b1, b2, b3] [(1, b1), (1, b0)] m o := h
      have h := CR_aload_n h rfl
      have h : MR X ρ 4 0 0 qP83 N 34 [b0, b1, b2, b3] [(1, b2), (1, b1), (1, b0)] m o := h
      obtain ⟨r3, m4, q5, h⟩ := MR_invV h rfl rfl
      have q5 : Run X ρ 79 [(1, b0), (1, b1), (1, b2)] m r3 m4 := q5
      obtain ⟨v6, rfl, zv6⟩ := Run_z q5 rfl
      have h : MR X ρ 4 0 0 qP83 N 37 [b0, b1, b2, b3] [(1, v6)] m4 o := h
      refine ⟨v6, m4, q5, zv6, ?_⟩
      rcases MR_if h rfl rfl with ⟨c7, h⟩ | ⟨c7, h⟩
      ·
        have c7 : ¬ (v6 = 0) := c7
        refine Or.inr ⟨c7, ?_⟩
        have h : MR X ρ 4 0 0 qP83 N 42 [b0, b1, b2, b3] [] m4 o := h
        have h := CR_inc h rfl (Nat.le_of_ble_eq_true rfl)
        have h : MR X ρ 4 0 0 qP83 N 45 [b0, b1, b2, s32 (b3 + 1)] [] m4 o := h
        obtain ⟨N8, eN8, h⟩ := CR_goto h rfl rfl
        have h : MR X ρ 4 0 0 qP83 N8 17 [b0, b1, b2, s32 (b3 + 1)] [] m4 o := h
        exact ⟨N8, eN8, h⟩
      ·
        have c7 : v6 = 0 := Decidable.of_not_not (show ¬ ¬ (v6 = 0) from c7)
        refine Or.inl ⟨c7, ?_⟩
        have h : MR X ρ 4 0 0 qP83 N 40 [b0, b1, b2, b3] [] m4 o := h
        have h := CR_iconst h rfl rfl
        have h : MR X ρ 4 0 0 qP83 N 41 [b0, b1, b2, b3] [(1, -1)] m4 o := h
        exact CR_end h rfl rfl
set_option maxRecDepth 16384 in
theorem i25_0 {X : KO} {ρ : Nat → Int32} {m : MM} {N : Nat} {o : Instr × List (Nat × Int) × MM} {a0 : Int} (h : MR X ρ 2 0 0 qP25 N 0 [a0, 0] [] m o) : (∃ v4 m2, Run X ρ 83 [(1, m a0 2), (1, m a0 0), (1, m a0 4)] m [(1, v4)] m2 ∧ (((((mu (mu m2 a0 13 (m2 (m2 a0 0) 9)) ((mu m2 a0 13 (m2 (m2 a0 0) 9)) a0 0) 1 0) a0 13) = 0) ∧ (o = (.ireturn, [(1, v4)], g161 (g89 (g113 (g67 (mu (mu m2 a0 13 (m2 (m2 a0 0) 9)) ((mu m2 a0 13 (m2 (m2 a0 0) 9)) a0 0) 1 0) ((mu (mu m2 a0 13 (m2 (m2 a0 0) 9)) ((mu m2 a0 13 (m2 (m2 a0 0) 9)) a0 0) 1 0) a0 1) ((mu (mu m2 a0 13 (m2 (m2 a0 0) 9)) ((mu m2 a0 13 (m2 (m2 a0 0) 9)) a0 0) 1 0) a0 2)) ((g67 (mu (mu m2 a0 13 (m2 (m2 a0 0) 9)) ((mu m2 a0 13 (m2 (m2 a0 0) 9)) a0 0) 1 0) ((mu (mu m2 a0 13 (m2 (m2 a0 0) 9)) ((mu m2 a0 13 (m2 (m2 a0 0) 9)) a0 0) 1 0) a0 1) ((mu (mu m2 a0 13 (m2 (m2 a0 0) 9)) ((mu m2 a0 13 (m2 (m2 a0 0) 9)) a0 0) 1 0) a0 2)) a0 3) ((g67 (mu (mu m2 a0 13 (m2 (m2 a0 0) 9)) ((mu m2 a0 13 (m2 (m2 a0 0) 9)) a0 0) 1 0) ((mu (mu m2 a0 13 (m2 (m2 a0 0) 9)) ((mu m2 a0 13 (m2 (m2 a0 0) 9)) a0 0) 1 0) a0 1) ((mu (mu m2 a0 13 (m2 (m2 a0 0) 9)) ((mu m2 a0 13 (m2 (m2 a0 0) 9)) a0 0) 1 0) a0 2)) a0 4)) ((g113 (g67 (mu (mu m2 a0 13 (m2 (m2 a0 0) 9)) ((mu m2 a0 13 (m2 (m2 a0 0) 9)) a0 0) 1 0) ((mu (mu m2 a0 13 (m2 (m2 a0 0) 9)) ((mu m2 a0 13 (m2 (m2 a0 0) 9)) a0 0) 1 0) a0 1) ((mu (mu m2 a0 13 (m2 (m2 a0 0) 9)) ((mu m2 a0 13 (m2 (m2 a0 0) 9)) a0 0) 1 0) a0 2)) ((g67 (mu (mu m2 a0 13 (m2 (m2 a0 0) 9)) ((mu m2 a0 13 (m2 (m2 a0 0) 9)) a0 0) 1 0) ((mu (mu m2 a0 13 (m2 (m2 a0 0) 9)) ((mu m2 a0 13 (m2 (m2 a0 0) 9)) a0 0) 1 0) a0 1) ((mu (mu m2 a0 13 (m2 (m2 a0 0) 9)) ((mu m2 a0 13 (m2 (m2 a0 0) 9)) a0 0) 1 0) a0 2)) a0 3) ((g67 (mu (mu m2 a0 13 (m2 (m2 a0 0) 9)) ((mu m2 a0 13 (m2 (m2 a0 0) 9)) a0 0) 1 0) ((mu (mu m2 a0 13 (m2 (m2 a0 0) 9)) ((mu m2 a0 13 (m2 (m2 a0 0) 9)) a0 0) 1 0) a0 1) ((mu (mu m2 a0 13 (m2 (m2 a0 0) 9)) ((mu m2 a0 13 (m2 (m2 a0 0) 9)) a0 0) 1 0) a0 2)) a0 4)) a0 11)) ((g89 (g113 (g67 (mu (mu m2 a0 13 (m2 (m2 a0 0) 9)) ((mu m2 a0 13 (m2 (m2 a0 0) 9)) a0 0) 1 0) ((mu (mu m2 a0 13 (m2 (m2 a0 0) 9)) ((mu m2 a0 13 (m2 (m2 a0 0) 9)) a0 0) 1 0) a0 1) ((mu (mu m2 a0 13 (m2 (m2 a0 0) 9)) ((mu m2 a0 13 (m2 (m2 a0 0) 9)) a0 0) 1 0) a0 2)) ((g67 (mu (mu m2 a0 13 (m2 (m2 a0 0) 9)) ((mu m2 a0 13 (m2 (m2 a0 0) 9)) a0 0) 1 0) ((mu (mu m2 a0 13 (m2 (m2 a0 0) 9)) ((mu m2 a0 13 (m2 (m2 a0 0) 9)) a0 0) 1 0) a0 1) ((mu (mu m2 a0 13 (m2 (m2 a0 0) 9)) ((mu m2 a0 13 (m2 (m2 a0 0) 9)) a0 0) 1 0) a0 2)) a0 3) ((g67 (mu (mu m2 a0 13 (m2 (m2 a0 0) 9)) ((mu m2 a0 13 (m2 (m2 a0 0) 9)) a0 0) 1 0) ((mu (mu m2 a0 13 (m2 (m2 a0 0) 9)) ((mu m2 a0 13 (m2 (m2 a0 0) 9)) a0 0) 1 0) a0 1) ((mu (mu m2 a0 13 (m2 (m2 a0 0) 9)) ((mu m2 a0 13 (m2 (m2 a0 0) 9)) a0 0) 1 0) a0 2)) a0 4)) ((g113 (g67 (mu (mu m2 a0 13 (m2 (m2 a0 0) 9)) ((mu m2 a0 13 (m2 (m2 a0 0) 9)) a0 0) 1 0) ((mu (mu m2 a0 13 (m2 (m2 a0 0) 9)) ((mu m2 a0 13 (m2 (m2 a0 0) 9)) a0 0) 1 0) a0 1) ((mu (mu m2 a0 13 (m2 (m2 a0 0) 9)) ((mu m2 a0 13 (m2 (m2 a0 0) 9)) a0 0) 1 0) a0 2)) ((g67 (mu (mu m2 a0 13 (m2 (m2 a0 0) 9)) ((mu m2 a0 13 (m2 (m2 a0 0) 9)) a0 0) 1 0) ((mu (mu m2 a0 13 (m2 (m2 a0 0) 9)) ((mu m2 a0 13 (m2 (m2 a0 0) 9)) a0 0) 1 0) a0 1) ((mu (mu m2 a0 13 (m2 (m2 a0 0) 9)) ((mu m2 a0 13 (m2 (m2 a0 0) 9)) a0 0) 1 0) a0 2)) a0 3) ((g67 (mu (mu m2 a0 13 (m2 (m2 a0 0) 9)) ((mu m2 a0 13 (m2 (m2 a0 0) 9)) a0 0) 1 0) ((mu (mu m2 a0 13 (m2 (m2 a0 0) 9)) ((mu m2 a0 13 (m2 (m2 a0 0) 9)) a0 0) 1 0) a0 1) ((mu (mu m2 a0 13 (m2 (m2 a0 0) 9)) ((mu m2 a0 13 (m2 (m2 a0 0) 9)) a0 0) 1 0) a0 2)) a0 4)) a0 11)) a0 5)))) ∨ (¬ (((mu (mu m2 a0 13 (m2 (m2 a0 0) 9)) ((mu m2 a0 13 (m2 (m2 a0 0) 9)) a0 0) 1 0) a0 13) = 0) ∧ (o = (.ireturn, [(1, s32 ((-1) - ((mu (mu m2 a0 13 (m2 (m2 a0 0) 9)) ((mu m2 a0 13 (m2 (m2 a0 0) 9)) a0 0) 1 0) ((mu (mu m2 a0 13 (m2 (m2 a0 0) 9)) ((mu m2 a0 13 (m2 (m2 a0 0) 9)) a0 0) 1 0) a0 0) 10)))], mu (mu m2 a0 13 (m2 (m2 a0 0) 9)) ((mu m2 a0 13 (m2 (m2 a0 0) 9)) a0 0) 1 0))))) := by
  have h := CR_aload_n h rfl
  have h : MR X ρ 2 0 0 qP25 N 1 [a0, 0] [(1, a0)] m o := h
  have h := CR_getf h rfl (by decide)
  have h : MR X ρ 2 0 0 qP25 N 4 [a0, 0] [(1, m a0 2)] m o := h
  have h := CR_aload_n h rfl
  have h : MR X ρ 2 0 0 qP25 N 5 [a0, 0] [(1, a0), (1, m a0 2)] m o := h
  have h := CR_getf h rfl (by decide)
  have h : MR X ρ 2 0 0 qP25 N 8 [a0, 0] [(1, m a0 0), (1, m a0 2)] m o := h
  have h := CR_aload_n h rfl
  have h : MR X ρ 2 0 0 qP25 N 9 [a0, 0] [(1, a0), (1, m a0 0), (1, m a0 2)] m o := h
  have h := CR_getf h rfl (by decide)
  have h : MR X ρ 2 0 0 qP25 N 12 [a0, 0] [(1, m a0 4), (1, m a0 0), (1, m a0 2)] m o := h
  obtain ⟨r1, m2, q3, h⟩ := MR_invV h rfl rfl
  have q3 : Run X ρ 83 [(1, m a0 2), (1, m a0 0), (1, m a0 4)] m r1 m2 := q3
  obtain ⟨v4, rfl⟩ := Run_i q3 rfl
  have h : MR X ρ 2 0 0 qP25 N 15 [a0, 0] [(1, v4)] m2 o := h
  refine ⟨v4, m2, q3, ?_⟩
  have h := CR_istore_n h rfl (Nat.le_of_ble_eq_true rfl)
  have h : MR X ρ 2 0 0 qP25 N 16 [a0, v4] [] m2 o := h
  have h := CR_aload_n h rfl
  have h : MR X ρ 2 0 0 qP25 N 17 [a0, v4] [(1, a0)] m2 o := h
  have h := CR_aload_n h rfl
  have h : MR X ρ 2 0 0 qP25 N 18 [a0, v4] [(1, a0), (1, a0)] m2 o := h
  have h := CR_getf h rfl (by decide)
  have h : MR X ρ 2 0 0 qP25 N 21 [a0, v4] [(1, m2 a0 0), (1, a0)] m2 o := h
  have h := CR_getf h rfl (by decide)
  have h : MR X ρ 2 0 0 qP25 N 24 [a0, v4] [(1, m2 (m2 a0 0) 9), (1, a0)] m2 o := h
  have h := CR_putf h rfl
  have h : MR X ρ 2 0 0 qP25 N 27 [a0, v4] [] (mu m2 a0 13 (m2 (m2 a0 0) 9)) o := h
  have h := CR_aload_n h rfl
  have h : MR X ρ 2 0 0 qP25 N 28 [a0, v4] [(1, a0)] (mu m2 a0 13 (m2 (m2 a0 0) 9)) o := h
  have h := CR_getf h rfl (by decide)
  have h : MR X ρ 2 0 0 qP25 N 31 [a0, v4] [(1, (mu m2 a0 13 (m2 (m2 a0 0) 9)) a0 0)] (mu m2 a0 13 (m2 (m2 a0 0) 9)) o := h
  have h := CR_iconst h rfl rfl
  have h : MR X ρ 2 0 0 qP25 N 32 [a0, v4] [(1, 0), (1, (mu m2 a0 13 (m2 (m2 a0 0) 9)) a0 0)] (mu m2 a0 13 (m2 (m2 a0 0) 9)) o := h
  have h := CR_putf h rfl
  have h : MR X ρ 2 0 0 qP25 N 35 [a0, v4] [] (mu (mu m2 a0 13 (m2 (m2 a0 0) 9)) ((mu m2 a0 13 (m2 (m2 a0 0) 9)) a0 0) 1 0) o := h
  have h := CR_aload_n h rfl
  have h : MR X ρ 2 0 0 qP25 N 36 [a0, v4] [(1, a0)] (mu (mu m2 a0 13 (m2 (m2 a0 0) 9)) ((mu m2 a0 13 (m2 (m2 a0 0) 9)) a0 0) 1 0) o := h
  have h := CR_getf h rfl (by decide)
  have h : MR X ρ 2 0 0 qP25 N 39 [a0, v4] [(1, (mu (mu m2 a0 13 (m2 (m2 a0 0) 9)) ((mu m2 a0 13 (m2 (m2 a0 0) 9)) a0 0) 1 0) a0 13)] (mu (mu m2 a0 13 (m2 (m2 a0 0) 9)) ((mu m2 a0 13 (m2 (m2 a0 0) 9)) a0 0) 1 0) o := h
  rcases MR_if h rfl rfl with ⟨c5, h⟩ | ⟨c5, h⟩
  ·
    have c5 : ((mu (mu m2 a0 13 (m2 (m2 a0 0) 9)) ((mu m2 a0 13 (m2 (m2 a0 0) 9)) a0 0) 1 0) a0 13) = 0 := c5
    refine Or.inl ⟨c5, ?_⟩
    have h : MR X ρ 2 0 0 qP25 N 52 [a0, v4] [] (mu (mu m2 a0 13 (m2 (m2 a0 0) 9)) ((mu m2 a0 13 (m2 (m2 a0 0) 9)) a0 0) 1 0) o := h
    have h := CR_aload_n h rfl
    have h : MR X ρ 2 0 0 qP25 N 53 [a0, v4] [(1, a0)] (mu (mu m2 a0 13 (m2 (m2 a0 0) 9)) ((mu m2 a0 13 (m2 (m2 a0 0) 9)) a0 0) 1 0) o := h
    have h := CR_getf h rfl (by decide)
    have h : MR X ρ 2 0 0 qP25 N 56 [a0, v4] [(1, (mu (mu m2 a0 13 (m2 (m2 a0 0) 9)) ((mu m2 a0 13 (m2 (m2 a0 0) 9)) a0 0) 1 0) a0 1)] (mu (mu m2 a0 13 (m2 (m2 a0 0) 9)) ((mu m2 a0 13 (m2 (m2 a0 0) 9)) a0 0) 1 0) o := h
    have h := CR_aload_n h rfl
    have h : MR X ρ 2 0 0 qP25 N 57 [a0, v4] [(1, a0), (1, (mu (mu m2 a0 13 (m2 (m2 a0 0) 9)) ((mu m2 a0 13 (m2 (m2 a0 0) 9)) a0 0) 1 0) a0 1)] (mu (mu m2 a0 13 (m2 (m2 a0 0) 9)) ((mu m2 a0 13 (m2 (m2 a0 0) 9)) a0 0) 1 0) o := h
    have h := CR_getf h rfl (by decide)
    have h : MR X ρ 2 0 0 qP25 N 60 [a0, v4] [(1, (mu (mu m2 a0 13 (m2 (m2 a0 0) 9)) ((mu m2 a0 13 (m2 (m2 a0 0) 9)) a0 0) 1 0) a0 2), (1, (mu (mu m2 a0 13 (m2 (m2 a0 0) 9)) ((mu m2 a0 13 (m2 (m2 a0 0) 9)) a0 0) 1 0) a0 1)] (mu (mu m2 a0 13 (m2 (m2 a0 0) 9)) ((mu m2 a0 13 (m2 (m2 a0 0) 9)) a0 0) 1 0) o := h
    obtain ⟨r6, m7, q8, h⟩ := MR_invV h rfl rfl
    have q8 : Run X ρ 67 [(1, (mu (mu m2 a0 13 (m2 (m2 a0 0) 9)) ((mu m2 a0 13 (m2 (m2 a0 0) 9)) a0 0) 1 0) a0 1), (1, (mu (mu m2 a0 13 (m2 (m2 a0 0) 9)) ((mu m2 a0 13 (m2 (m2 a0 0) 9)) a0 0) 1 0) a0 2)] (mu (mu m2 a0 13 (m2 (m2 a0 0) 9)) ((mu m2 a0 13 (m2 (m2 a0 0) 9)) a0 0) 1 0) r6 m7 := q8
    obtain ⟨e9, e10⟩ := d67 q8
    rw [e9, e10] at h
    have h : MR X ρ 2 0 0 qP25 N 63 [a0, v4] [] (g67 (mu (mu m2 a0 13 (m2 (m2 a0 0) 9)) ((mu m2 a0 13 (m2 (m2 a0 0) 9)) a0 0) 1 0) ((mu (mu m2 a0 13 (m2 (m2 a0 0) 9)) ((mu m2 a0 13 (m2 (m2 a0 0) 9)) a0 0) 1 0) a0 1) ((mu (mu m2 a0 13 (m2 (m2 a0 0) 9)) ((mu m2 a0 13 (m2 (m2 a0 0) 9)) a0 0) 1 0) a0 2)) o := h
    have h := CR_aload_n h rfl
    have h : MR X ρ 2 0 0 qP25 N 64 [a0, v4] [(1, a0)] (g67 (mu (mu m2 a0 13 (m2 (m2 a0 0) 9)) ((mu m2 a0 13 (m2 (m2 a0 0) 9)) a0 0) 1 0) ((mu (mu m2 a0 13 (m2 (m2 a0 0) 9)) ((mu m2 a0 13 (m2 (m2 a0 0) 9)) a0 0) 1 0) a0 1) ((mu (mu m2 a0 13 (m2 (m2 a0 0) 9)) ((mu m2 a0 13 (m2 (m2 a0 0) 9)) a0 0) 1 0) a0 2)) o := h
    have h := CR_getf h rfl (by decide)
    have h : MR X ρ 2 0 0 qP25 N 67 [a0, v4] [(1, (g67 (mu (mu m2 a0 13 (m2 (m2 a0 0) 9)) ((mu m2 a0 13 (m2 (m2 a0 0) 9)) a0 0) 1 0) ((mu (mu m2 a0 13 (m2 (m2 a0 0) 9)) ((mu m2 a0 13 (m2 (m2 a0 0) 9)) a0 0) 1 0) a0 1) ((mu (mu m2 a0 13 (m2 (m2 a0 0) 9)) ((mu m2 a0 13 (m2 (m2 a0 0) 9)) a0 0) 1 0) a0 2)) a0 3)] (g67 (mu (mu m2 a0 13 (m2 (m2 a0 0) 9)) ((mu m2 a0 13 (m2 (m2 a0 0) 9)) a0 0) 1 0) ((mu (mu m2 a0 13 (m2 (m2 a0 0) 9)) ((mu m2 a0 13 (m2 (m2 a0 0) 9)) a0 0) 1 0) a0 1) ((mu (mu m2 a0 13 (m2 (m2 a0 0) 9)) ((mu m2 a0 13 (m2 (m2 a0 0) 9)) a0 0) 1 0) a0 2)) o := h
    have h := CR_aload_n h rfl
    have h : MR X ρ 2 0 0 qP25 N 68 [a0, v4] [(1, a0), (1, (g67 (mu (mu m2 a0 13 (m2 (m2 a0 0) 9)) ((mu m2 a0 13 (m2 (m2 a0 0) 9)) a0 0) 1 0) ((mu (mu m2 a0 13 (m2 (m2 a0 0) 9)) ((mu m2 a0 13 (m2 (m2 a0 0) 9)) a0 0) 1 0) a0 1) ((mu (mu m2 a0 13 (m2 (m2 a0 0) 9)) ((mu m2 a0 13 (m2 (m2 a0 0) 9)) a0 0) 1 0) a0 2)) a0 3)] (g67 (mu (mu m2 a0 13 (m2 (m2 a0 0) 9)) ((mu m2 a0 13 (m2 (m2 a0 0) 9)) a0 0) 1 0) ((mu (mu m2 a0 13 (m2 (m2 a0 0) 9)) ((mu m2 a0 13 (m2 (m2 a0 0) 9)) a0 0) 1 0) a0 1) ((mu (mu m2 a0 13 (m2 (m2 a0 0) 9)) ((mu m2 a0 13 (m2 (m2 a0 0) 9)) a0 0) 1 0) a0 2)) o := h
    have h := CR_getf h rfl (by decide)
    have h : MR X ρ 2 0 0 qP25 N 71 [a0, v4] [(1, (g67 (mu (mu m2 a0 13 (m2 (m2 a0 0) 9)) ((mu m2 a0 13 (m2 (m2 a0 0) 9)) a0 0) 1 0) ((mu (mu m2 a0 13 (m2 (m2 a0 0) 9)) ((mu m2 a0 13 (m2 (m2 a0 0) 9)) a0 0) 1 0) a0 1) ((mu (mu m2 a0 13 (m2 (m2 a0 0) 9)) ((mu m2 a0 13 (m2 (m2 a0 0) 9)) a0 0) 1 0) a0 2)) a0 4), (1, (g67 (mu (mu m2 a0 13 (m2 (m2 a0 0) 9)) ((mu m2 a0 13 (m2 (m2 a0 0) 9)) a0 0) 1 0) ((mu (mu m2 a0 13 (m2 (m2 a0 0) 9)) ((mu m2 a0 13 (m2 (m2 a0 0) 9)) a0 0) 1 0) a0 1) ((mu (mu m2 a0 13 (m2 (m2 a0 0) 9)) ((mu m2 a0 13 (m2 (m2 a0 0) 9)) a0 0) 1 0) a0 2)) a0 3)] (g67 (mu (mu m2 a0 13 (m2 (m2 a0 0) 9)) ((mu m2 a0 13 (m2 (m2 a0 0) 9)) a0 0) 1 0) ((mu (mu m2 a0 13 (m2 (m2 a0 0) 9)) ((mu m2 a0 13 (m2 (m2 a0 0) 9)) a0 0) 1 0) a0 1) ((mu (mu m2 a0 13 (m2 (m2 a0 0) 9)) ((mu m2 a0 13 (m2 (m2 a0 0) 9)) a0 0) 1 0) a0 2)) o := h
    obtain ⟨r11, m12, q13, h⟩ := MR_invV h rfl rfl
    have q13 : Run X ρ 113 [(1, (g67 (mu (mu m2 a0 13 (m2 (m2 a0 0) 9)) ((mu m2 a0 13 (m2 (m2 a0 0) 9)) a0 0) 1 0) ((mu (mu m2 a0 13 (m2 (m2 a0 0) 9)) ((mu m2 a0 13 (m2 (m2 a0 0) 9)) a0 0) 1 0) a0 1) ((mu (mu m2 a0 13 (m2 (m2 a0 0) 9)) ((mu m2 a0 13 (m2 (m2 a0 0) 9)) a0 0) 1 0) a0 2)) a0 3), (1, (g67 (mu (mu m2 a0 13 (m2 (m2 a0 0) 9)) ((mu m2 a0 13 (m2 (m2 a0 0) 9)) a0 0) 1 0) ((mu (mu m2 a0 13 (m2 (m2 a0 0) 9)) ((mu m2 a0 13 (m2 (m2 a0 0) 9)) a0 0) 1 0) a0 1) ((mu (mu m2 a0 13 (m2 (m2 a0 0) 9)) ((mu m2 a0 13 (m2 (m2 a0 0) 9)) a0 0) 1 0) a0 2)) a0 4)] (g67 (mu (mu m2 a0 13 (m2 (m2 a0 0) 9)) ((mu m2 a0 13 (m2 (m2 a0 0) 9)) a0 0) 1 0) ((mu (mu m2 a0 13 (m2 (m2 a0 0) 9)) ((mu m2 a0 13 (m2 (m2 a0 0) 9)) a0 0) 1 0) a0 1) ((mu (mu m2 a0 13 (m2 (m2 a0 0) 9)) ((mu m2 a0 13 (m2 (m2 a0 0) 9)) a0 0) 1 0) a0 2)) r11 m12 := q13
    obtain ⟨e14, e15⟩ := d113 q13
    rw [e14, e15] at h
    have h : MR X ρ 2 0 0 qP25 N 74 [a0, v4] [] (g113 (g67 (mu (mu m2 a0 13 (m2 (m2 a0 0) 9)) ((mu m2 a0 13 (m2 (m2 a0 0) 9)) a0 0) 1 0) ((mu (mu m2 a0 13 (m2 (m2 a0 0) 9)) ((mu m2 a0 13 (m2 (m2 a0 0) 9)) a0 0) 1 0) a0 1) ((mu (mu m2 a0 13 (m2 (m2 a0 0) 9)) ((mu m2 a0 13 (m2 (m2 a0 0) 9)) a0 0) 1 0) a0 2)) ((g67 (mu (mu m2 a0 13 (m2 (m2 a0 0) 9)) ((mu m2 a0 13 (m2 (m2 a0 0) 9)) a0 0) 1 0) ((mu (mu m2 a0 13 (m2 (m2 a0 0) 9)) ((mu m2 a0 13 (m2 (m2 a0 0) 9)) a0 0) 1 0) a0 1) ((mu (mu m2 a0 13 (m2 (m2 a0 0) 9)) ((mu m2 a0 13 (m2 (m2 a0 0) 9)) a0 0) 1 0) a0 2)) a0 3) ((g67 (mu (mu m2 a0 13 (m2 (m2 a0 0) 9)) ((mu m2 a0 13 (m2 (m2 a0 0) 9)) a0 0) 1 0) ((mu (mu m2 a0 13 (m2 (m2 a0 0) 9)) ((mu m2 a0 13 (m2 (m2 a0 0) 9)) a0 0) 1 0) a0 1) ((mu (mu m2 a0 13 (m2 (m2 a0 0) 9)) ((mu m2 a0 13 (m2 (m2 a0 0) 9)) a0 0) 1 0) a0 2)) a0 4)) o := h
    have h := CR_aload_n h rfl
    have h : MR X ρ 2 0 0 qP25 N 75 [a0, v4] [(1, a0)] (g113 (g67 (mu (mu m2 a0 13 (m2 (m2 a0 0) 9)) ((mu m2 a0 13 (m2 (m2 a0 0) 9)) a0 0) 1 0) ((mu (mu m2 a0 13 (m2 (m2 a0 0) 9)) ((mu m2 a0 13 (m2 (m2 a0 0) 9)) a0 0) 1 0) a0 1) ((mu (mu m2 a0 13 (m2 (m2 a0 0) 9)) ((mu m2 a0 13 (m2 (m2 a0 0) 9)) a0 0) 1 0) a0 2)) ((g67 (mu (mu m2 a0 13 (m2 (m2 a0 0) 9)) ((mu m2 a0 13 (m2 (m2 a0 0) 9)) a0 0) 1 0) ((mu (mu m2 a0 13 (m2 (m2 a0 0) 9)) ((mu m2 a0 13 (m2 (m2 a0 0) 9)) a0 0) 1 0) a0 1) ((mu (mu m2 a0 13 (m2 (m2 a0 0) 9)) ((mu m2 a0 13 (m2 (m2 a0 0) 9)) a0 0) 1 0) a0 2)) a0 3) ((g67 (mu (mu m2 a0 13 (m2 (m2 a0 0) 9)) ((mu m2 a0 13 (m2 (m2 a0 0) 9)) a0 0) 1 0) ((mu (mu m2 a0 13 (m2 (m2 a0 0) 9)) ((mu m2 a0 13 (m2 (m2 a0 0) 9)) a0 0) 1 0) a0 1) ((mu (mu m2 a0 13 (m2 (m2 a0 0) 9)) ((mu m2 a0 13 (m2 (m2 a0 0) 9)) a0 0) 1 0) a0 2)) a0 4)) o := h
    have h := CR_getf h rfl (by decide)
    have h : MR X ρ 2 0 0 qP25 N 78 [a0, v4] [(1, (g113 (g67 (mu (mu m2 a0 13 (m2 (m2 a0 0) 9)) ((mu m2 a0 13 (m2 (m2 a0 0) 9)) a0 0) 1 0) ((mu (mu m2 a0 13 (m2 (m2 a0 0) 9)) ((mu m2 a0 13 (m2 (m2 a0 0) 9)) a0 0) 1 0) a0 1) ((mu (mu m2 a0 13 (m2 (m2 a0 0) 9)) ((mu m2 a0 13 (m2 (m2 a0 0) 9)) a0 0) 1 0) a0 2)) ((g67 (mu (mu m2 a0 13 (m2 (m2 a0 0) 9)) ((mu m2 a0 13 (m2 (m2 a0 0) 9)) a0 0) 1 0) ((mu (mu m2 a0 13 (m2 (m2 a0 0) 9)) ((mu m2 a0 13 (m2 (m2 a0 0) 9)) a0 0) 1 0) a0 1) ((mu (mu m2 a0 13 (m2 (m2 a0 0) 9)) ((mu m2 a0 13 (m2 (m2 a0 0) 9)) a0 0) 1 0) a0 2)) a0 3) ((g67 (mu (mu m2 a0 13 (m2 (m2 a0 0) 9)) ((mu m2 a0 13 (m2 (m2 a0 0) 9)) a0 0) 1 0) ((mu (mu m2 a0 13 (m2 (m2 a0 0) 9)) ((mu m2 a0 13 (m2 (m2 a0 0) 9)) a0 0) 1 0) a0 1) ((mu (mu m2 a0 13 (m2 (m2 a0 0) 9)) ((mu m2 a0 13 (m2 (m2 a0 0) 9)) a0 0) 1 0) a0 2)) a0 4)) a0 11)] (g113 (g67 (mu (mu m2 a0 13 (m2 (m2 a0 0) 9)) ((mu m2 a0 13 (m2 (m2 a0 0) 9)) a0 0) 1 0) ((mu (mu m2 a0 13 (m2 (m2 a0 0) 9)) ((mu m2 a0 13 (m2 (m2 a0 0) 9)) a0 0) 1 0) a0 1) ((mu (mu m2 a0 13 (m2 (m2 a0 0) 9)) ((mu m2 a0 13 (m2 (m2 a0 0) 9)) a0 0) 1 0) a0 2)) ((g67 (mu (mu m2 a0 13 (m2 (m2 a0 0) 9)) ((mu m2 a0 13 (m2 (m2 a0 0) 9)) a0 0) 1 0) ((mu (mu m2 a0 13 (m2 (m2 a0 0) 9)) ((mu m2 a0 13 (m2 (m2 a0 0) 9)) a0 0) 1 0) a0 1) ((mu (mu m2 a0 13 (m2 (m2 a0 0) 9)) ((mu m2 a0 13 (m2 (m2 a0 0) 9)) a0 0) 1 0) a0 2)) a0 3) ((g67 (mu (mu m2 a0 13 (m2 (m2 a0 0) 9)) ((mu m2 a0 13 (m2 (m2 a0 0) 9)) a0 0) 1 0) ((mu (mu m2 a0 13 (m2 (m2 a0 0) 9)) ((mu m2 a0 13 (m2 (m2 a0 0) 9)) a0 0) 1 0) a0 1) ((mu (mu m2 a0 13 (m2 (m2 a0 0) 9)) ((mu m2 a0 13 (m2 (m2 a0 0) 9)) a0 0) 1 0) a0 2)) a0 4)) o := h
    obtain ⟨r16, m17, q18, h⟩ := MR_invV h rfl rfl
    have q18 : Run X ρ 89 [(1, (g113 (g67 (mu (mu m2 a0 13 (m2 (m2 a0 0) 9)) ((mu m2 a0 13 (m2 (m2 a0 0) 9)) a0 0) 1 0) ((mu (mu m2 a0 13 (m2 (m2 a0 0) 9)) ((mu m2 a0 13 (m2 (m2 a0 0) 9)) a0 0) 1 0) a0 1) ((mu (mu m2 a0 13 (m2 (m2 a0 0) 9)) ((mu m2 a0 13 (m2 (m2 a0 0) 9)) a0 0) 1 0) a0 2)) ((g67 (mu (mu m2 a0 13 (m2 (m2 a0 0) 9)) ((mu m2 a0 13 (m2 (m2 a0 0) 9)) a0 0) 1 0) ((mu (mu m2 a0 13 (m2 (m2 a0 0) 9)) ((mu m2 a0 13 (m2 (m2 a0 0) 9)) a0 0) 1 0) a0 1) ((mu (mu m2 a0 13 (m2 (m2 a0 0) 9)) ((mu m2 a0 13 (m2 (m2 a0 0) 9)) a0 0) 1 0) a0 2)) a0 3) ((g67 (mu (mu m2 a0 13 (m2 (m2 a0 0) 9)) ((mu m2 a0 13 (m2 (m2 a0 0) 9)) a0 0) 1 0) ((mu (mu m2 a0 13 (m2 (m2 a0 0) 9)) ((mu m2 a0 13 (m2 (m2 a0 0) 9)) a0 0) 1 0) a0 1) ((mu (mu m2 a0 13 (m2 (m2 a0 0) 9)) ((mu m2 a0 13 (m2 (m2 a0 0) 9)) a0 0) 1 0) a0 2)) a0 4)) a0 11)] (g113 (g67 (mu (mu m2 a0 13 (m2 (m2 a0 0) 9)) ((mu m2 a0 13 (m2 (m2 a0 0) 9)) a0 0) 1 0) ((mu (mu m2 a0 13 (m2 (m2 a0 0) 9)) ((mu m2 a0 13 (m2 (m2 a0 0) 9)) a0 0) 1 0) a0 1) ((mu (mu m2 a0 13 (m2 (m2 a0 0) 9)) ((mu m2 a0 13 (m2 (m2 a0 0) 9)) a0 0) 1 0) a0 2)) ((g67 (mu (mu m2 a0 13 (m2 (m2 a0 0) 9)) ((mu m2 a0 13 (m2 (m2 a0 0) 9)) a0 0) 1 0) ((mu (mu m2 a0 13 (m2 (m2 a0 0) 9)) ((mu m2 a0 13 (m2 (m2 a0 0) 9)) a0 0) 1 0) a0 1) ((mu (mu m2 a0 13 (m2 (m2 a0 0) 9)) ((mu m2 a0 13 (m2 (m2 a0 0) 9)) a0 0) 1 0) a0 2)) a0 3) ((g67 (mu (mu m2 a0 13 (m2 (m2 a0 0) 9)) ((mu m2 a0 13 (m2 (m2 a0 0) 9)) a0 0) 1 0) ((mu (mu m2 a0 13 (m2 (m2 a0 0) 9)) ((mu m2 a0 13 (m2 (m2 a0 0) 9)) a0 0) 1 0) a0 1) ((mu (mu m2 a0 13 (m2 (m2 a0 0) 9)) ((mu m2 a0 13 (m2 (m2 a0 0) 9)) a0 0) 1 0) a0 2)) a0 4)) r16 m17 := q18
    obtain ⟨e19, e20⟩ := d89 q18
    rw [e19, e20] at h
    have h : MR X ρ 2 0 0 qP25 N 81 [a0, v4] [] (g89 (g113 (g67 (mu (mu m2 a0 13 (m2 (m2 a0 0) 9)) ((mu m2 a0 13 (m2 (m2 a0 0) 9)) a0 0) 1 0) ((mu (mu m2 a0 13 (m2 (m2 a0 0) 9)) ((mu m2 a0 13 (m2 (m2 a0 0) 9)) a0 0) 1 0) a0 1) ((mu (mu m2 a0 13 (m2 (m2 a0 0) 9)) ((mu m2 a0 13 (m2 (m2 a0 0) 9)) a0 0) 1 0) a0 2)) ((g67 (mu (mu m2 a0 13 (m2 (m2 a0 0) 9)) ((mu m2 a0 13 (m2 (m2 a0 0) 9)) a0 0) 1 0) ((mu (mu m2 a0 13 (m2 (m2 a0 0) 9)) ((mu m2 a0 13 (m2 (m2 a0 0) 9)) a0 0) 1 0) a0 1) ((mu (mu m2 a0 13 (m2 (m2 a0 0) 9)) ((mu m2 a0 13 (m2 (m2 a0 0) 9)) a0 0) 1 0) a0 2)) a0 3) ((g67 (mu (mu m2 a0 13 (m2 (m2 a0 0) 9)) ((mu m2 a0 13 (m2 (m2 a0 0) 9)) a0 0) 1 0) ((mu (mu m2 a0 13 (m2 (m2 a0 0) 9)) ((mu m2 a0 13 (m2 (m2 a0 0) 9)) a0 0) 1 0) a0 1) ((mu (mu m2 a0 13 (m2 (m2 a0 0) 9)) ((mu m2 a0 13 (m2 (m2 a0 0) 9)) a0 0) 1 0) a0 2)) a0 4)) ((g113 (g67 (mu (mu m2 a0 13 (m2 (m2 a0 0) 9)) ((mu m2 a0 13 (m2 (m2 a0 0) 9)) a0 0) 1 0) ((mu (mu m2 a0 13 (m2 (m2 a0 0) 9)) ((mu m2 a0 13 (m2 (m2 a0 0) 9)) a0 0) 1 0) a0 1) ((mu (mu m2 a0 13 (m2 (m2 a0 0) 9)) ((mu m2 a0 13 (m2 (m2 a0 0) 9)) a0 0) 1 0) a0 2)) ((g67 (mu (mu m2 a0 13 (m2 (m2 a0 0) 9)) ((mu m2 a0 13 (m2 (m2 a0 0) 9)) a0 0) 1 0) ((mu (mu m2 a0 13 (m2 (m2 a0 0) 9)) ((mu m2 a0 13 (m2 (m2 a0 0) 9)) a0 0) 1 0) a0 1) ((mu (mu m2 a0 13 (m2 (m2 a0 0) 9)) ((mu m2 a0 13 (m2 (m2 a0 0) 9)) a0 0) 1 0) a0 2)) a0 3) ((g67 (mu (mu m2 a0 13 (m2 (m2 a0 0) 9)) ((mu m2 a0 13 (m2 (m2 a0 0) 9)) a0 0) 1 0) ((mu (mu m2 a0 13 (m2 (m2 a0 0) 9)) ((mu m2 a0 13 (m2 (m2 a0 0) 9)) a0 0) 1 0) a0 1) ((mu (mu m2 a0 13 (m2 (m2 a0 0) 9)) ((mu m2 a0 13 (m2 (m2 a0 0) 9)) a0 0) 1 0) a0 2)) a0 4)) a0 11)) o := h
    have h := CR_aload_n h rfl
    have h : MR X ρ 2 0 0 qP25 N 82 [a0, v4] [(1, a0)] (g89 (g113 (g67 (mu (mu m2 a0 13 (m2 (m2 a0 0) 9)) ((mu m2 a0 13 (m2 (m2 a0 0) 9)) a0 0) 1 0) ((mu (mu m2 a0 13 (m2 (m2 a0 0) 9)) ((mu m2 a0 13 (m2 (m2 a0 0) 9)) a0 0) 1 0) a0 1) ((mu (mu m2 a0 13 (m2 (m2 a0 0) 9)) ((mu m2 a0 13 (m2 (m2 a0 0) 9)) a0 0) 1 0) a0 2)) ((g67 (mu (mu m2 a0 13 (m2 (m2 a0 0) 9)) ((mu m2 a0 13 (m2 (m2 a0 0) 9)) a0 0) 1 0) ((mu (mu m2 a0 13 (m2 (m2 a0 0) 9)) ((mu m2 a0 13 (m2 (m2 a0 0) 9)) a0 0) 1 0) a0 1) ((mu (mu m2 a0 13 (m2 (m2 a0 0) 9)) ((mu m2 a0 13 (m2 (m2 a0 0) 9)) a0 0) 1 0) a0 2)) a0 3) ((g67 (mu (mu m2 a0 13 (m2 (m2 a0 0) 9)) ((mu m2 a0 13 (m2 (m2 a0 0) 9)) a0 0) 1 0) ((mu (mu m2 a0 13 (m2 (m2 a0 0) 9)) ((mu m2 a0 13 (m2 (m2 a0 0) 9)) a0 0) 1 0) a0 1) ((mu (mu m2 a0 13 (m2 (m2 a0 0) 9)) ((mu m2 a0 13 (m2 (m2 a0 0) 9)) a0 0) 1 0) a0 2)) a0 4)) ((g113 (g67 (mu (mu m2 a0 13 (m2 (m2 a0 0) 9)) ((mu m2 a0 13 (m2 (m2 a0 0) 9)) a0 0) 1 0) ((mu (mu m2 a0 13 (m2 (m2 a0 0) 9)) ((mu m2 a0 13 (m2 (m2 a0 0) 9)) a0 0) 1 0) a0 1) ((mu (mu m2 a0 13 (m2 (m2 a0 0) 9)) ((mu m2 a0 13 (m2 (m2 a0 0) 9)) a0 0) 1 0) a0 2)) ((g67 (mu (mu m2 a0 13 (m2 (m2 a0 0) 9)) ((mu m2 a0 13 (m2 (m2 a0 0) 9)) a0 0) 1 0) ((mu (mu m2 a0 13 (m2 (m2 a0 0) 9)) ((mu m2 a0 13 (m2 (m2 a0 0) 9)) a0 0) 1 0) a0 1) ((mu (mu m2 a0 13 (m2 (m2 a0 0) 9)) ((mu m2 a0 13 (m2 (m2 a0 0) 9)) a0 0) 1 0) a0 2)) a0 3) ((g67 (mu (mu m2 a0 13 (m2 (m2 a0 0) 9)) ((mu m2 a0 13 (m2 (m2 a0 0) 9)) a0 0) 1 0) ((mu (mu m2 a0 13 (m2 (m2 a0 0) 9)) ((mu m2 a0 13 (m2 (m2 a0 0) 9)) a0 0) 1 0) a0 1) ((mu (mu m2 a0 13 (m2 (m2 a0 0) 9)) ((mu m2 a0 13 (m2 (m2 a0 0) 9)) a0 0) 1 0) a0 2)) a0 4)) a0 11)) o := h
    have h := CR_getf h rfl (by decide)
    have h : MR X ρ 2 0 0 qP25 N 85 [a0, v4] [(1, (g89 (g113 (g67 (mu (mu m2 a0 13 (m2 (m2 a0 0) 9)) ((mu m2 a0 13 (m2 (m2 a0 0) 9)) a0 0) 1 0) ((mu (mu m2 a0 13 (m2 (m2 a0 0) 9)) ((mu m2 a0 13 (m2 (m2 a0 0) 9)) a0 0) 1 0) a0 1) ((mu (mu m2 a0 13 (m2 (m2 a0 0) 9)) ((mu m2 a0 13 (m2 (m2 a0 0) 9)) a0 0) 1 0) a0 2)) ((g67 (mu (mu m2 a0 13 (m2 (m2 a0 0) 9)) ((mu m2 a0 13 (m2 (m2 a0 0) 9)) a0 0) 1 0) ((mu (mu m2 a0 13 (m2 (m2 a0 0) 9)) ((mu m2 a0 13 (m2 (m2 a0 0) 9)) a0 0) 1 0) a0 1) ((mu (mu m2 a0 13 (m2 (m2 a0 0) 9)) ((mu m2 a0 13 (m2 (m2 a0 0) 9)) a0 0) 1 0) a0 2)) a0 3) ((g67 (mu (mu m2 a0 13 (m2 (m2 a0 0) 9)) ((mu m2 a0 13 (m2 (m2 a0 0) 9)) a0 0) 1 0) ((mu (mu m2 a0 13 (m2 (m2 a0 0) 9)) ((mu m2 a0 13 (m2 (m2 a0 0) 9)) a0 0) 1 0) a0 1) ((mu (mu m2 a0 13 (m2 (m2 a0 0) 9)) ((mu m2 a0 13 (m2 (m2 a0 0) 9)) a0 0) 1 0) a0 2)) a0 4)) ((g113 (g67 (mu (mu m2 a0 13 (m2 (m2 a0 0) 9)) ((mu m2 a0 13 (m2 (m2 a0 0) 9)) a0 0) 1 0) ((mu (mu m2 a0 13 (m2 (m2 a0 0) 9)) ((mu m2 a0 13 (m2 (m2 a0 0) 9)) a0 0) 1 0) a0 1) ((mu (mu m2 a0 13 (m2 (m2 a0 0) 9)) ((mu m2 a0 13 (m2 (m2 a0 0) 9)) a0 0) 1 0) a0 2)) ((g67 (mu (mu m2 a0 13 (m2 (m2 a0 0) 9)) ((mu m2 a0 13 (m2 (m2 a0 0) 9)) a0 0) 1 0) ((mu (mu m2 a0 13 (m2 (m2 a0 0) 9)) ((mu m2 a0 13 (m2 (m2 a0 0) 9)) a0 0) 1 0) a0 1) ((mu (mu m2 a0 13 (m2 (m2 a0 0) 9)) ((mu m2 a0 13 (m2 (m2 a0 0) 9)) a0 0) 1 0) a0 2)) a0 3) ((g67 (mu (mu m2 a0 13 (m2 (m2 a0 0) 9)) ((mu m2 a0 13 (m2 (m2 a0 0) 9)) a0 0) 1 0) ((mu (mu m2 a0 13 (m2 (m2 a0 0) 9)) ((mu m2 a0 13 (m2 (m2 a0 0) 9)) a0 0) 1 0) a0 1) ((mu (mu m2 a0 13 (m2 (m2 a0 0) 9)) ((mu m2 a0 13 (m2 (m2 a0 0) 9)) a0 0) 1 0) a0 2)) a0 4)) a0 11)) a0 5)] (g89 (g113 (g67 (mu (mu m2 a0 13 (m2 (m2 a0 0) 9)) ((mu m2 a0 13 (m2 (m2 a0 0) 9)) a0 0) 1 0) ((mu (mu m2 a0 13 (m2 (m2 a0 0) 9)) ((mu m2 a0 13 (m2 (m2 a0 0) 9)) a0 0) 1 0) a0 1) ((mu (mu m2 a0 13 (m2 (m2 a0 0) 9)) ((mu m2 a0 13 (m2 (m2 a0 0) 9)) a0 0) 1 0) a0 2)) ((g67 (mu (mu m2 a0 13 (m2 (m2 a0 0) 9)) ((mu m2 a0 13 (m2 (m2 a0 0) 9)) a0 0) 1 0) ((mu (mu m2 a0 13 (m2 (m2 a0 0) 9)) ((mu m2 a0 13 (m2 (m2 a0 0) 9)) a0 0) 1 0) a0 1) ((mu (mu m2 a0 13 (m2 (m2 a0 0) 9)) ((mu m2 a0 13 (m2 (m2 a0 0) 9)) a0 0) 1 0) a0 2)) a0 3) ((g67 (mu (mu m2 a0 13 (m2 (m2 a0 0) 9)) ((mu m2 a0 13 (m2 (m2 a0 0) 9)) a0 0) 1 0) ((mu (mu m2 a0 13 (m2 (m2 a0 0) 9)) ((mu m2 a0 13 (m2 (m2 a0 0) 9)) a0 0) 1 0) a0 1) ((mu (mu m2 a0 13 (m2 (m2 a0 0) 9)) ((mu m2 a0 13 (m2 (m2 a0 0) 9)) a0 0) 1 0) a0 2)) a0 4)) ((g113 (g67 (mu (mu m2 a0 13 (m2 (m2 a0 0) 9)) ((mu m2 a0 13 (m2 (m2 a0 0) 9)) a0 0) 1 0) ((mu (mu m2 a0 13 (m2 (m2 a0 0) 9)) ((mu m2 a0 13 (m2 (m2 a0 0) 9)) a0 0) 1 0) a0 1) ((mu (mu m2 a0 13 (m2 (m2 a0 0) 9)) ((mu m2 a0 13 (m2 (m2 a0 0) 9)) a0 0) 1 0) a0 2)) ((g67 (mu (mu m2 a0 13 (m2 (m2 a0 0) 9)) ((mu m2 a0 13 (m2 (m2 a0 0) 9)) a0 0) 1 0) ((mu (mu m2 a0 13 (m2 (m2 a0 0) 9)) ((mu m2 a0 13 (m2 (m2 a0 0) 9)) a0 0) 1 0) a0 1) ((mu (mu m2 a0 13 (m2 (m2 a0 0) 9)) ((mu m2 a0 13 (m2 (m2 a0 0) 9)) a0 0) 1 0) a0 2)) a0 3) ((g67 (mu (mu m2 a0 13 (m2 (m2 a0 0) 9)) ((mu m2 a0 13 (m2 (m2 a0 0) 9)) a0 0) 1 0) ((mu (mu m2 a0 13 (m2 (m2 a0 0) 9)) ((mu m2 a0 13 (m2 (m2 a0 0) 9)) a0 0) 1 0) a0 1) ((mu (mu m2 a0 13 (m2 (m2 a0 0) 9)) ((mu m2 a0 13 (m2 (m2 a0 0) 9)) a0 0) 1 0) a0 2)) a0 4)) a0 11)) o := h
    obtain ⟨r21, m22, q23, h⟩ := MR_invV h rfl rfl
    have q23 : Run X ρ 161 [(1, (g89 (g113 (g67 (mu (mu m2 a0 13 (m2 (m2 a0 0) 9)) ((mu m2 a0 13 (m2 (m2 a0 0) 9)) a0 0) 1 0) ((mu (mu m2 a0 13 (m2 (m2 a0 0) 9)) ((mu m2 a0 13 (m2 (m2 a0 0) 9)) a0 0) 1 0) a0 1) ((mu (mu m2 a0 13 (m2 (m2 a0 0) 9)) ((mu m2 a0 13 (m2 (m2 a0 0) 9)) a0 0) 1 0) a0 2)) ((g67 (mu (mu m2 a0 13 (m2 (m2 a0 0) 9)) ((mu m2 a0 13 (m2 (m2 a0 0) 9)) a0 0) 1 0) ((mu (mu m2 a0 13 (m2 (m2 a0 0) 9)) ((mu m2 a0 13 (m2 (m2 a0 0) 9)) a0 0) 1 0) a0 1) ((mu (mu m2 a0 13 (m2 (m2 a0 0) 9)) ((mu m2 a0 13 (m2 (m2 a0 0) 9)) a0 0) 1 0) a0 2)) a0 3) ((g67 (mu (mu m2 a0 13 (m2 (m2 a0 0) 9)) ((mu m2 a0 13 (m2 (m2 a0 0) 9)) a0 0) 1 0) ((mu (mu m2 a0 13 (m2 (m2 a0 0) 9)) ((mu m2 a0 13 (m2 (m2 a0 0) 9)) a0 0) 1 0) a0 1) ((mu (mu m2 a0 13 (m2 (m2 a0 0) 9)) ((mu m2 a0 13 (m2 (m2 a0 0) 9)) a0 0) 1 0) a0 2)) a0 4)) ((g113 (g67 (mu (mu m2 a0 13 (m2 (m2 a0 0) 9)) ((mu m2 a0 13 (m2 (m2 a0 0) 9)) a0 0) 1 0) ((mu (mu m2 a0 13 (m2 (m2 a0 0) 9)) ((mu m2 a0 13 (m2 (m2 a0 0) 9)) a0 0) 1 0) a0 1) ((mu (mu m2 a0 13 (m2 (m2 a0 0) 9)) ((mu m2 a0 13 (m2 (m2 a0 0) 9)) a0 0) 1 0) a0 2)) ((g67 (mu (mu m2 a0 13 (m2 (m2 a0 0) 9)) ((mu m2 a0 13 (m2 (m2 a0 0) 9)) a0 0) 1 0) ((mu (mu m2 a0 13 (m2 (m2 a0 0) 9)) ((mu m2 a0 13 (m2 (m2 a0 0) 9)) a0 0) 1 0) a0 1) ((mu (mu m2 a0 13 (m2 (m2 a0 0) 9)) ((mu m2 a0 13 (m2 (m2 a0 0) 9)) a0 0) 1 0) a0 2)) a0 3) ((g67 (mu (mu m2 a0 13 (m2 (m2 a0 0) 9)) ((mu m2 a0 13 (m2 (m2 a0 0) 9)) a0 0) 1 0) ((mu (mu m2 a0 13 (m2 (m2 a0 0) 9)) ((mu m2 a0 13 (m2 (m2 a0 0) 9)) a0 0) 1 0) a0 1) ((mu (mu m2 a0 13 (m2 (m2 a0 0) 9)) ((mu m2 a0 13 (m2 (m2 a0 0) 9)) a0 0) 1 0) a0 2)) a0 4)) a0 11)) a0 5)] (g89 (g113 (g67 (mu (mu m2 a0 13 (m2 (m2 a0 0) 9)) ((mu m2 a0 13 (m2 (m2 a0 0) 9)) a0 0) 1 0) ((mu (mu m2 a0 13 (m2 (m2 a0 0) 9)) ((mu m2 a0 13 (m2 (m2 a0 0) 9)) a0 0) 1 0) a0 1) ((mu (mu m2 a0 13 (m2 (m2 a0 0) 9)) ((mu m2 a0 13 (m2 (m2 a0 0) 9)) a0 0) 1 0) a0 2)) ((g67 (mu (mu m2 a0 13 (m2 (m2 a0 0) 9)) ((mu m2 a0 13 (m2 (m2 a0 0) 9)) a0 0) 1 0) ((mu (mu m2 a0 13 (m2 (m2 a0 0) 9)) ((mu m2 a0 13 (m2 (m2 a0 0) 9)) a0 0) 1 0) a0 1) ((mu (mu m2 a0 13 (m2 (m2 a0 0) 9)) ((mu m2 a0 13 (m2 (m2 a0 0) 9)) a0 0) 1 0) a0 2)) a0 3) ((g67 (mu (mu m2 a0 13 (m2 (m2 a0 0) 9)) ((mu m2 a0 13 (m2 (m2 a0 0) 9)) a0 0) 1 0) ((mu (mu m2 a0 13 (m2 (m2 a0 0) 9)) ((mu m2 a0 13 (m2 (m2 a0 0) 9)) a0 0) 1 0) a0 1) ((mu (mu m2 a0 13 (m2 (m2 a0 0) 9)) ((mu m2 a0 13 (m2 (m2 a0 0) 9)) a0 0) 1 0) a0 2)) a0 4)) ((g113 (g67 (mu (mu m2 a0 13 (m2 (m2 a0 0) 9)) ((mu m2 a0 13 (m2 (m2 a0 0) 9)) a0 0) 1 0) ((mu (mu m2 a0 13 (m2 (m2 a0 0) 9)) ((mu m2 a0 13 (m2 (m2 a0 0) 9)) a0 0) 1 0) a0 1) ((mu (mu m2 a0 13 (m2 (m2 a0 0) 9)) ((mu m2 a0 13 (m2 (m2 a0 0) 9)) a0 0) 1 0) a0 2)) ((g67 (mu (mu m2 a0 13 (m2 (m2 a0 0) 9)) ((mu m2 a0 13 (m2 (m2 a0 0) 9)) a0 0) 1 0) ((mu (mu m2 a0 13 (m2 (m2 a0 0) 9)) ((mu m2 a0 13 (m2 (m2 a0 0) 9)) a0 0) 1 0) a0 1) ((mu (mu m2 a0 13 (m2 (m2 a0 0) 9)) ((mu m2 a0 13 (m2 (m2 a0 0) 9)) a0 0) 1 0) a0 2)) a0 3) ((g67 (mu (mu m2 a0 13 (m2 (m2 a0 0) 9)) ((mu m2 a0 13 (m2 (m2 a0 0) 9)) a0 0) 1 0) ((mu (mu m2 a0 13 (m2 (m2 a0 0) 9)) ((mu m2 a0 13 (m2 (m2 a0 0) 9)) a0 0) 1 0) a0 1) ((mu (mu m2 a0 13 (m2 (m2 a0 0) 9)) ((mu m2 a0 13 (m2 (m2 a0 0) 9)) a0 0) 1 0) a0 2)) a0 4)) a0 11)) r21 m22 := q23
    obtain ⟨e24, e25⟩ := d161 q23
    rw [e24, e25] at h
    have h : MR X ρ 2 0 0 qP25 N 88 [a0, v4] [] (g161 (g89 (g113 (g67 (mu (mu m2 a0 13 (m2 (m2 a0 0) 9)) ((mu m2 a0 13 (m2 (m2 a0 0) 9)) a0 0) 1 0) ((mu (mu m2 a0 13 (m2 (m2 a0 0) 9)) ((mu m2 a0 13 (m2 (m2 a0 0) 9)) a0 0) 1 0) a0 1) ((mu (mu m2 a0 13 (m2 (m2 a0 0) 9)) ((mu m2 a0 13 (m2 (m2 a0 0) 9)) a0 0) 1 0) a0 2)) ((g67 (mu (mu m2 a0 13 (m2 (m2 a0 0) 9)) ((mu m2 a0 13 (m2 (m2 a0 0) 9)) a0 0) 1 0) ((mu (mu m2 a0 13 (m2 (m2 a0 0) 9)) ((mu m2 a0 13 (m2 (m2 a0 0) 9)) a0 0) 1 0) a0 1) ((mu (mu m2 a0 13 (m2 (m2 a0 0) 9)) ((mu m2 a0 13 (m2 (m2 a0 0) 9)) a0 0) 1 0) a0 2)) a0 3) ((g67 (mu (mu m2 a0 13 (m2 (m2 a0 0) 9)) ((mu m2 a0 13 (m2 (m2 a0 0) 9)) a0 0) 1 0) ((mu (mu m2 a0 13 (m2 (m2 a0 0) 9)) ((mu m2 a0 13 (m2 (m2 a0 0) 9)) a0 0) 1 0) a0 1) ((mu (mu m2 a0 13 (m2 (m2 a0 0) 9)) ((mu m2 a0 13 (m2 (m2 a0 0) 9)) a0 0) 1 0) a0 2)) a0 4)) ((g113 (g67 (mu (mu m2 a0 13 (m2 (m2 a0 0) 9)) ((mu m2 a0 13 (m2 (m2 a0 0) 9)) a0 0) 1 0) ((mu (mu m2 a0 13 (m2 (m2 a0 0) 9)) ((mu m2 a0 13 (m2 (m2 a0 0) 9)) a0 0) 1 0) a0 1) ((mu (mu m2 a0 13 (m2 (m2 a0 0) 9)) ((mu m2 a0 13 (m2 (m2 a0 0) 9)) a0 0) 1 0) a0 2)) ((g67 (mu (mu m2 a0 13 (m2 (m2 a0 0) 9)) ((mu m2 a0 13 (m2 (m2 a0 0) 9)) a0 0) 1 0) ((mu (mu m2 a0 13 (m2 (m2 a0 0) 9)) ((mu m2 a0 13 (m2 (m2 a0 0) 9)) a0 0) 1 0) a0 1) ((mu (mu m2 a0 13 (m2 (m2 a0 0) 9)) ((mu m2 a0 13 (m2 (m2 a0 0) 9)) a0 0) 1 0) a0 2)) a0 3) ((g67 (mu (mu m2 a0 13 (m2 (m2 a0 0) 9)) ((mu m2 a0 13 (m2 (m2 a0 0) 9)) a0 0) 1 0) ((mu (mu m2 a0 13 (m2 (m2 a0 0) 9)) ((mu m2 a0 13 (m2 (m2 a0 0) 9)) a0 0) 1 0) a0 1) ((mu (mu m2 a0 13 (m2 (m2 a0 0) 9)) ((mu m2 a0 13 (m2 (m2 a0 0) 9)) a0 0) 1 0) a0 2)) a0 4)) a0 11)) ((g89 (g113 (g67 (mu (mu m2 a0 13 (m2 (m2 a0 0) 9)) ((mu m2 a0 13 (m2 (m2 a0 0) 9)) a0 0) 1 0) ((mu (mu m2 a0 13 (m2 (m2 a0 0) 9)) ((mu m2 a0 13 (m2 (m2 a0 0) 9)) a0 0) 1 0) a0 1) ((mu (mu m2 a0 13 (m2 (m2 a0 0) 9)) ((mu m2 a0 13 (m2 (m2 a0 0) 9)) a0 0) 1 0) a0 2)) ((g67 (mu (mu m2 a0 13 (m2 (m2 a0 0) 9)) ((mu m2 a0 13 (m2 (m2 a0 0) 9)) a0 0) 1 0) ((mu (mu m2 a0 13 (m2 (m2 a0 0) 9)) ((mu m2 a0 13 (m2 (m2 a0 0) 9)) a0 0) 1 0) a0 1) ((mu (mu m2 a0 13 (m2 (m2 a0 0) 9)) ((mu m2 a0 13 (m2 (m2 a0 0) 9)) a0 0) 1 0) a0 2)) a0 3) ((g67 (mu (mu m2 a0 13 (m2 (m2 a0 0) 9)) ((mu m2 a0 13 (m2 (m2 a0 0) 9)) a0 0) 1 0) ((mu (mu m2 a0 13 (m2 (m2 a0 0) 9)) ((mu m2 a0 13 (m2 (m2 a0 0) 9)) a0 0) 1 0) a0 1) ((mu (mu m2 a0 13 (m2 (m2 a0 0) 9)) ((mu m2 a0 13 (m2 (m2 a0 0) 9)) a0 0) 1 0) a0 2)) a0 4)) ((g113 (g67 (mu (mu m2 a0 13 (m2 (m2 a0 0) 9)) ((mu m2 a0 13 (m2 (m2 a0 0) 9)) a0 0) 1 0) ((mu (mu m2 a0 13 (m2 (m2 a0 0) 9)) ((mu m2 a0 13 (m2 (m2 a0 0) 9)) a0 0) 1 0) a0 1) ((mu (mu m2 a0 13 (m2 (m2 a0 0) 9)) ((mu m2 a0 13 (m2 (m2 a0 0) 9)) a0 0) 1 0) a0 2)) ((g67 (mu (mu m2 a0 13 (m2 (m2 a0 0) 9)) ((mu m2 a0 13 (m2 (m2 a0 0) 9)) a0 0) 1 0) ((mu (mu m2 a0 13 (m2 (m2 a0 0) 9)) ((mu m2 a0 13 (m2 (m2 a0 0) 9)) a0 0) 1 0) a0 1) ((mu (mu m2 a0 13 (m2 (m2 a0 0) 9)) ((mu m2 a0 13 (m2 (m2 a0 0) 9)) a0 0) 1 0) a0 2)) a0 3) ((g67 (mu (mu m2 a0 13 (m2 (m2 a0 0) 9)) ((mu m2 a0 13 (m2 (m2 a0 0) 9)) a0 0) 1 0) ((mu (mu m2 a0 13 (m2 (m2 a0 0) 9)) ((mu m2 a0 13 (m2 (m2 a0 0) 9)) a0 0) 1 0) a0 1) ((mu (mu m2 a0 13 (m2 (m2 a0 0) 9)) ((mu m2 a0 13 (m2 (m2 a0 0) 9)) a0 0) 1 0) a0 2)) a0 4)) a0 11)) a0 5)) o := h
    have h := CR_iload_n h rfl
    have h : MR X ρ 2 0 0 qP25 N 89 [a0, v4] [(1, v4)] (g161 (g89 (g113 (g67 (mu (mu m2 a0 13 (m2 (m2 a0 0) 9)) ((mu m2 a0 13 (m2 (m2 a0 0) 9)) a0 0) 1 0) ((mu (mu m2 a0 13 (m2 (m2 a0 0) 9)) ((mu m2 a0 13 (m2 (m2 a0 0) 9)) a0 0) 1 0) a0 1) ((mu (mu m2 a0 13 (m2 (m2 a0 0) 9)) ((mu m2 a0 13 (m2 (m2 a0 0) 9)) a0 0) 1 0) a0 2)) ((g67 (mu (mu m2 a0 13 (m2 (m2 a0 0) 9)) ((mu m2 a0 13 (m2 (m2 a0 0) 9)) a0 0) 1 0) ((mu (mu m2 a0 13 (m2 (m2 a0 0) 9)) ((mu m2 a0 13 (m2 (m2 a0 0) 9)) a0 0) 1 0) a0 1) ((mu (mu m2 a0 13 (m2 (m2 a0 0) 9)) ((mu m2 a0 13 (m2 (m2 a0 0) 9)) a0 0) 1 0) a0 2)) a0 3) ((g67 (mu (mu m2 a0 13 (m2 (m2 a0 0) 9)) ((mu m2 a0 13 (m2 (m2 a0 0) 9)) a0 0) 1 0) ((mu (mu m2 a0 13 (m2 (m2 a0 0) 9)) ((mu m2 a0 13 (m2 (m2 a0 0) 9)) a0 0) 1 0) a0 1) ((mu (mu m2 a0 13 (m2 (m2 a0 0) 9)) ((mu m2 a0 13 (m2 (m2 a0 0) 9)) a0 0) 1 0) a0 2)) a0 4)) ((g113 (g67 (mu (mu m2 a0 13 (m2 (m2 a0 0) 9)) ((mu m2 a0 13 (m2 (m2 a0 0) 9)) a0 0) 1 0) ((mu (mu m2 a0 13 (m2 (m2 a0 0) 9)) ((mu m2 a0 13 (m2 (m2 a0 0) 9)) a0 0) 1 0) a0 1) ((mu (mu m2 a0 13 (m2 (m2 a0 0) 9)) ((mu m2 a0 13 (m2 (m2 a0 0) 9)) a0 0) 1 0) a0 2)) ((g67 (mu (mu m2 a0 13 (m2 (m2 a0 0) 9)) ((mu m2 a0 13 (m2 (m2 a0 0) 9)) a0 0) 1 0) ((mu (mu m2 a0 13 (m2 (m2 a0 0) 9)) ((mu m2 a0 13 (m2 (m2 a0 0) 9)) a0 0) 1 0) a0 1) ((mu (mu m2 a0 13 (m2 (m2 a0 0) 9)) ((mu m2 a0 13 (m2 (m2 a0 0) 9)) a0 0) 1 0) a0 2)) a0 3) ((g67 (mu (mu m2 a0 13 (m2 (m2 a0 0) 9)) ((mu m2 a0 13 (m2 (m2 a0 0) 9)) a0 0) 1 0) ((mu (mu m2 a0 13 (m2 (m2 a0 0) 9)) ((mu m2 a0 13 (m2 (m2 a0 0) 9)) a0 0) 1 0) a0 1) ((mu (mu m2 a0 13 (m2 (m2 a0 0) 9)) ((mu m2 a0 13 (m2 (m2 a0 0) 9)) a0 0) 1 0) a0 2)) a0 4)) a0 11)) ((g89 (g113 (g67 (mu (mu m2 a0 13 (m2 (m2 a0 0) 9)) ((mu m2 a0 13 (m2 (m2 a0 0) 9)) a0 0) 1 0) ((mu (mu m2 a0 13 (m2 (m2 a0 0) 9)) ((mu m2 a0 13 (m2 (m2 a0 0) 9)) a0 0) 1 0) a0 1) ((mu (mu m2 a0 13 (m2 (m2 a0 0) 9)) ((mu m2 a0 13 (m2 (m2 a0 0) 9)) a0 0) 1 0) a0 2)) ((g67 (mu (mu m2 a0 13 (m2 (m2 a0 0) 9)) ((mu m2 a0 13 (m2 (m2 a0 0) 9)) a0 0) 1 0) ((mu (mu m2 a0 13 (m2 (m2 a0 0) 9)) ((mu m2 a0 13 (m2 (m2 a0 0) 9)) a0 0) 1 0) a0 1) ((mu (mu m2 a0 13 (m2 (m2 a0 0) 9)) ((mu m2 a0 13 (m2 (m2 a0 0) 9)) a0 0) 1 0) a0 2)) a0 3) ((g67 (mu (mu m2 a0 13 (m2 (m2 a0 0) 9)) ((mu m2 a0 13 (m2 (m2 a0 0) 9)) a0 0) 1 0) ((mu (mu m2 a0 13 (m2 (m2 a0 0) 9)) ((mu m2 a0 13 (m2 (m2 a0 0) 9)) a0 0) 1 0) a0 1) ((mu (mu m2 a0 13 (m2 (m2 a0 0) 9)) ((mu m2 a0 13 (m2 (m2 a0 0) 9)) a0 0) 1 0) a0 2)) a0 4)) ((g113 (g67 (mu (mu m2 a0 13 (m2 (m2 a0 0) 9)) ((mu m2 a0 13 (m2 (m2 a0 0) 9)) a0 0) 1 0) ((mu (mu m2 a0 13 (m2 (m2 a0 0) 9)) ((mu m2 a0 13 (m2 (m2 a0 0) 9)) a0 0) 1 0) a0 1) ((mu (mu m2 a0 13 (m2 (m2 a0 0) 9)) ((mu m2 a0 13 (m2 (m2 a0 0) 9)) a0 0) 1 0) a0 2)) ((g67 (mu (mu m2 a0 13 (m2 (m2 a0 0) 9)) ((mu m2 a0 13 (m2 (m2 a0 0) 9)) a0 0) 1 0) ((mu (mu m2 a0 13 (m2 (m2 a0 0) 9)) ((mu m2 a0 13 (m2 (m2 a0 0) 9)) a0 0) 1 0) a0 1) ((mu (mu m2 a0 13 (m2 (m2 a0 0) 9)) ((mu m2 a0 13 (m2 (m2 a0 0) 9)) a0 0) 1 0) a0 2)) a0 3) ((g67 (mu (mu m2 a0 13 (m2 (m2 a0 0) 9)) ((mu m2 a0 13 (m2 (m2 a0 0) 9)) a0 0) 1 0) ((mu (mu m2 a0 13 (m2 (m2 a0 0) 9)) ((mu m2 a0 13 (m2 (m2 a0 0) 9)) a0 0) 1 0) a0 1) ((mu (mu m2 a0 13 (m2 (m2 a0 0) 9)) ((mu m2 a0 13 (m2 (m2 a0 0) 9)) a0 0) 1 0) a0 2)) a0 4)) a0 11)) a0 5)) o := h
    exact CR_end h rfl rfl
  ·
    have c5 : ¬ (((mu (mu m2 a0 13 (m2 (m2 a0 0) 9)) ((mu m2 a0 13 (m2 (m2 a0 0) 9)) a0 0) 1 0) a0 13) = 0) := c5
    refine Or.inr ⟨c5, ?_⟩
    have h : MR X ρ 2 0 0 qP25 N 42 [a0, v4] [] (mu (mu m2 a0 13 (m2 (m2 a0 0) 9)) ((mu m2 a0 13 (m2 (m2 a0 0) 9)) a0 0) 1 0) o := h
    have h := CR_iconst h rfl rfl
    have h : MR X ρ 2 0 0 qP25 N 43 [a0, v4] [(1, -1)] (mu (mu m2 a0 13 (m2 (m2 a0 0) 9)) ((mu m2 a0 13 (m2 (m2 a0 0) 9)) a0 0) 1 0) o := h
    have h := CR_aload_n h rfl
    have h : MR X ρ 2 0 0 qP25 N 44 [a0, v4] [(1, a0), (1, -1)] (mu (mu m2 a0 13 (m2 (m2 a0 0) 9)) ((mu m2 a0 13 (m2 (m2 a0 0) 9)) a0 0) 1 0) o := h
    have h := CR_getf h rfl (by decide)
    have h : MR X ρ 2 0 0 qP25 N 47 [a0, v4] [(1, (mu (mu m2 a0 13 (m2 (m2 a0 0) 9)) ((mu m2 a0 13 (m2 (m2 a0 0) 9)) a0 0) 1 0) a0 0), (1, -1)] (mu (mu m2 a0 13 (m2 (m2 a0 0) 9)) ((mu m2 a0 13 (m2 (m2 a0 0) 9)) a0 0) 1 0) o := h
    have h := CR_getf h rfl (by decide)
    have h : MR X ρ 2 0 0 qP25 N 50 [a0, v4] [(1, (mu (mu m2 a0 13 (m2 (m2 a0 0) 9)) ((mu m2 a0 13 (m2 (m2 a0 0) 9)) a0 0) 1 0) ((mu (mu m2 a0 13 (m2 (m2 a0 0) 9)) ((mu m2 a0 13 (m2 (m2 a0 0) 9)) a0 0) 1 0) a0 0) 10), (1, -1)] (mu (mu m2 a0 13 (m2 (m2 a0 0) 9)) ((mu m2 a0 13 (m2 (m2 a0 0) 9)) a0 0) 1 0) o := h
    have h := CR_isub h rfl
    have h : MR X ρ 2 0 0 qP25 N 51 [a0, v4] [(1, s32 ((-1) - ((mu (mu m2 a0 13 (m2 (m2 a0 0) 9)) ((mu m2 a0 13 (m2 (m2 a0 0) 9)) a0 0) 1 0) ((mu (mu m2 a0 13 (m2 (m2 a0 0) 9)) ((mu m2 a0 13 (m2 (m2 a0 0) 9)) a0 0) 1 0) a0 0) 10)))] (mu (mu m2 a0 13 (m2 (m2 a0 0) 9)) ((mu m2 a0 13 (m2 (m2 a0 0) 9)) a0 0) 1 0) o := h
    exact CR_end h rfl rfl
set_option maxRecDepth 16384 in
theorem i230_0 {X : KO} {ρ : Nat → Int32} {m : MM} {N : Nat} {o : Instr × List (Nat × Int) × MM} {a0 : Int} (h : MR X ρ 3 0 0 qP230 N 0 [a0, 0, 0] [] m o) : (∃ m2, Run X ρ 169 [(1, a0), (1, 900)] m [] m2 ∧ (MR X ρ 3 0 0 qP230 N 9 [a0, 0, 0] [] m2 o)) := by
  have h := CR_aload_n h rfl
  have h : MR X ρ 3 0 0 qP230 N 1 [a0, 0, 0] [(1, a0)] m o := h
  have h := CR_sipush h rfl rfl
  have h : MR X ρ 3 0 0 qP230 N 4 [a0, 0, 0] [(1, 900), (1, a0)] m o := h
  obtain ⟨r1, m2, q3, h⟩ := MR_invV h rfl rfl
  have q3 : Run X ρ 169 [(1, a0), (1, 900)] m r1 m2 := q3
  obtain rfl := Run_v q3 rfl
  have h : MR X ρ 3 0 0 qP230 N 7 [a0, 0, 0] [] m2 o := h
  refine ⟨m2, q3, ?_⟩
  have h := CR_iconst h rfl rfl
  have h : MR X ρ 3 0 0 qP230 N 8 [a0, 0, 0] [(1, 0)] m2 o := h
  have h := CR_istore_n h rfl (Nat.le_of_ble_eq_true rfl)
  have h : MR X ρ 3 0 0 qP230 N 9 [a0, 0, 0] [] m2 o := h
  exact h
set_option maxRecDepth 16384 in
theorem i230_9 {X : KO} {ρ : Nat → Int32} {m : MM} {N : Nat} {o : Instr × List (Nat × Int) × MM} {b0 b1 b2 : Int} (h : MR X ρ 3 0 0 qP230 N 9 [b0, b1, b2] [] m o) : (((92 ≤ b1) ∧ (MR X ρ 3 0 0 qP230 N 35 [b0, 0, b2] [] (mu m b0 24 0) o)) ∨ (¬ (92 ≤ b1) ∧ (∃ N2, N = N2 + 1 ∧ MR X ρ 3 0 0 qP230 N2 9 [b0, s32 (b1 + 1), b2] [] (mu m (m b0 15) b1 (s32 0)) o))) := by
  have h := CR_iload_n h rfl
  have h : MR X ρ 3 0 0 qP230 N 10 [b0, b1, b2] [(1, b1)] m o := h
  have h := CR_bipush h rfl rfl
  have h : MR X ρ 3 0 0 qP230 N 12 [b0, b1, b2] [(1, 92), (1, b1)] m o := h
  rcases MR_icmp h rfl rfl with ⟨c1, h⟩ | ⟨c1, h⟩
  ·
    have c1 : 92 ≤ b1 := c1
    refine Or.inl ⟨c1, ?_⟩
    have h : MR X ρ 3 0 0 qP230 N 28 [b0, b1, b2] [] m o := h
    have h := CR_aload_n h rfl
    have h : MR X ρ 3 0 0 qP230 N 29 [b0, b1, b2] [(1, b0)] m o := h
    have h := CR_iconst h rfl rfl
    have h : MR X ρ 3 0 0 qP230 N 30 [b0, b1, b2] [(1, 0), (1, b0)] m o := h
    have h := CR_putf h rfl
    have h : MR X ρ 3 0 0 qP230 N 33 [b0, b1, b2] [] (mu m b0 24 0) o := h
    have h := CR_iconst h rfl rfl
    have h : MR X ρ 3 0 0 qP230 N 34 [b0, b1, b2] [(1, 0)] (mu m b0 24 0) o := h
    have h := CR_istore_n h rfl (Nat.le_of_ble_eq_true rfl)
    have h : MR X ρ 3 0 0 qP230 N 35 [b0, 0, b2] [] (mu m b0 24 0) o := h
    exact h
  ·
    have c1 : ¬ (92 ≤ b1) := c1
    refine Or.inr ⟨c1, ?_⟩
    have h : MR X ρ 3 0 0 qP230 N 15 [b0, b1, b2] [] m o := h
    have h := CR_aload_n h rfl
    have h : MR X ρ 3 0 0 qP230 N 16 [b0, b1, b2] [(1, b0)] m o := h
    have h := CR_getf h rfl (by decide)
    have h : MR X ρ 3 0 0 qP230 N 19 [b0, b1, b2] [(1, m b0 15)] m o := h
    have h := CR_iload_n h rfl
    have h : MR X ρ 3 0 0 qP230 N 20 [b0, b1, b2] [(1, b1), (1, m b0 15)] m o := h
    have h := CR_iconst h rfl rfl
    have h : MR X ρ 3 0 0 qP230 N 21 [b0, b1, b2] [(1, 0), (1, b1), (1, m b0 15)] m o := h
    have h := CR_iastore_ h rfl
    have h : MR X ρ 3 0 0 qP230 N 22 [b0, b1, b2] [] (mu m (m b0 15) b1 (s32 0)) o := h
    have h := CR_inc h rfl (Nat.le_of_ble_eq_true rfl)
    have h : MR X ρ 3 0 0 qP230 N 25 [b0, s32 (b1 + 1), b2] [] (mu m (m b0 15) b1 (s32 0)) o := h
    obtain ⟨N2, eN2, h⟩ := CR_goto h rfl rfl
    have h : MR X ρ 3 0 0 qP230 N2 9 [b0, s32 (b1 + 1), b2] [] (mu m (m b0 15) b1 (s32 0)) o := h
    exact ⟨N2, eN2, h⟩
set_option maxRecDepth 16384 in
theorem i230_35 {X : KO} {ρ : Nat → Int32} {m : MM} {N : Nat} {o : Instr × List (Nat × Int) × MM} {b0 b1 b2 : Int} (h : MR X ρ 3 0 0 qP230 N 35 [b0, b1, b2] [] m o) : ((((m b0 7) = 0) ∧ (MR X ρ 3 0 0 qP230 N 71 [b0, b1, 0] [] m o)) ∨ (¬ ((m b0 7) = 0) ∧ (∃ v5 m3, Run X ρ 250 [(1, b0)] m [(1, v5)] m3 ∧ (v5 = 0 ∨ v5 = 1) ∧ (((v5 = 0) ∧ (o = (.ireturn, [(1, s32 ((-1) - (m3 b0 11)))], m3))) ∨ (¬ (v5 = 0) ∧ (∃ v10 m8, Run X ρ 245 [(1, b0)] m3 [(1, v10)] m8 ∧ (v10 = 0 ∨ v10 = 1) ∧ (((v10 = 0) ∧ (o = (.ireturn, [(1, s32 ((-1) - (m8 b0 11)))], m8))) ∨ (¬ (v10 = 0) ∧ (∃ N12, N = N12 + 1 ∧ MR X ρ 3 0 0 qP230 N12 35 [b0, s32 (b1 + 1), b2] [] m8 o))))))))) := by
  have h := CR_aload_n h rfl
  have h : MR X ρ 3 0 0 qP230 N 36 [b0, b1, b2] [(1, b0)] m o := h
  have h := CR_getf h rfl (by decide)
  have h : MR X ρ 3 0 0 qP230 N 39 [b0, b1, b2] [(1, m b0 7)] m o := h
  rcases MR_if h rfl rfl with ⟨c1, h⟩ | ⟨c1, h⟩
  ·
    have c1 : (m b0 7) = 0 := c1
    refine Or.inl ⟨c1, ?_⟩
    have h : MR X ρ 3 0 0 qP230 N 69 [b0, b1, b2] [] m o := h
    have h := CR_iconst h rfl rfl
    have h : MR X ρ 3 0 0 qP230 N 70 [b0, b1, b2] [(1, 0)] m o := h
    have h := CR_istore_n h rfl (Nat.le_of_ble_eq_true rfl)
    have h : MR X ρ 3 0 0 qP230 N 71 [b0, b1, 0] [] m o := h
    exact h
  ·
    have c1 : ¬ ((m b0 7) = 0) := c1
    refine Or.inr ⟨c1, ?_⟩
    have h : MR X ρ 3 0 0 qP230 N 42 [b0, b1, b2] [] m o := h
    have h := CR_aload_n h rfl
    have h : MR X ρ 3 0 0 qP230 N 43 [b0, b1, b2] [(1, b0)] m o := h
    obtain ⟨r2, m3, q4, h⟩ := MR_invV h rfl rfl
    have q4 : Run X ρ 250 [(1, b0)] m r2 m3 := q4
    obtain ⟨v5, rfl, zv5⟩ := Run_z q4 rfl
    have h : MR X ρ 3 0 0 qP230 N 46 [b0, b1, b2] [(1, v5)] m3 o := h
    refine ⟨v5, m3, q4, zv5, ?_⟩
    rcases MR_if h rfl rfl with ⟨c6, h⟩ | ⟨c6, h⟩
    ·
      have c6 : v5 = 0 := c6
      refine Or.inl ⟨c6, ?_⟩
      have h : MR X ρ 3 0 0 qP230 N 56 [b0, b1, b2] [] m3 o := h
      have h := CR_iconst h rfl rfl
      have h : MR X ρ 3 0 0 qP230 N 57 [b0, b1, b2] [(1, -1)] m3 o := h
      have h := CR_aload_n h rfl
      have h : MR X ρ 3 0 0 qP230 N 58 [b0, b1, b2] [(1, b0), (1, -1)] m3 o := h
      have h := CR_getf h rfl (by decide)
      have h : MR X ρ 3 0 0 qP230 N 61 [b0, b1, b2] [(1, m3 b0 11), (1, -1)] m3 o := h
      have h := CR_isub h rfl
      have h : MR X ρ 3 0 0 qP230 N 62 [b0, b1, b2] [(1, s32 ((-1) - (m3 b0 11)))] m3 o := h
      exact CR_end h rfl rfl
    ·
      have c6 : ¬ (v5 = 0) := c6
      refine Or.inr ⟨c6, ?_⟩
      have h : MR X ρ 3 0 0 qP230 N 49 [b0, b1, b2] [] m3 o := h
      have h := CR_aload_n h rfl
      have h : MR X ρ 3 0 0 qP230 N 50 [b0, b1, b2] [(1, b0)] m3 o := h
      obtain ⟨r7, m8, q9, h⟩ := MR_invV h rfl rfl
      have q9 : Run X ρ 245 [(1, b0)] m3 r7 m8 := q9
      obtain ⟨v10, rfl, zv10⟩ := Run_z q9 rfl
      have h : MR X ρ 3 0 0 qP230 N 53 [b0, b1, b2] [(1, v10)] m8 o := h
      refine ⟨v10, m8, q9, zv10, ?_⟩
      rcases MR_if h rfl rfl with ⟨c11, h⟩ | ⟨c11, h⟩
      ·
        have c11 : ¬ (v10 = 0) := c11
        refine Or.inr ⟨c11, ?_⟩
        have h : MR X ρ 3 0 0 qP230 N 63 [b0, b1, b2] [] m8 o := h
        have h := CR_inc h rfl (Nat.le_of_ble_eq_true rfl)
        have h : MR X ρ 3 0 0 qP230 N 66 [b0, s32 (b1 + 1), b2] [] m8 o := h
        obtain ⟨N12, eN12, h⟩ := CR_goto h rfl rfl
        have h : MR X ρ 3 0 0 qP230 N12 35 [b0, s32 (b1 + 1), b2] [] m8 o := h
        exact ⟨N12, eN12, h⟩
      ·
        have c11 : v10 = 0 := Decidable.of_not_not (show ¬ ¬ (v10 = 0) from c11)
        refine Or.inl ⟨c11, ?_⟩
        have h : MR X ρ 3 0 0 qP230 N 56 [b0, b1, b2] [] m8 o := h
        have h := CR_iconst h rfl rfl
        have h : MR X ρ 3 0 0 qP230 N 57 [b0, b1, b2] [(1, -1)] m8 o := h
        have h := CR_aload_n h rfl
        have h : MR X ρ 3 0 0 qP230 N 58 [b0, b1, b2] [(1, b0), (1, -1)] m8 o := h
        have h := CR_getf h rfl (by decide)
        have h : MR X ρ 3 0 0 qP230 N 61 [b0, b1, b2] [(1, m8 b0 11), (1, -1)] m8 o := h
        have h := CR_isub h rfl
        have h : MR X ρ 3 0 0 qP230 N 62 [b0, b1, b2] [(1, s32 ((-1) - (m8 b0 11)))] m8 o := h
        exact CR_end h rfl rfl
set_option maxRecDepth 16384 in
theorem i230_71 {X : KO} {ρ : Nat → Int32} {m : MM} {N : Nat} {o : Instr × List (Nat × Int) × MM} {b0 b1 b2 : Int} (h : MR X ρ 3 0 0 qP230 N 71 [b0, b1, b2] [] m o) : (((92 ≤ b2) ∧ (MR X ρ 3 0 0 qP230 N 97 [b0, b1, 0] [] m o)) ∨ (¬ (92 ≤ b2) ∧ (∃ N2, N = N2 + 1 ∧ MR X ρ 3 0 0 qP230 N2 71 [b0, b1, s32 (b2 + 1)] [] (mu m (m b0 14) b2 (s32 (m (m b0 15) b2))) o))) := by
  have h := CR_iload_n h rfl
  have h : MR X ρ 3 0 0 qP230 N 72 [b0, b1, b2] [(1, b2)] m o := h
  have h := CR_bipush h rfl rfl
  have h : MR X ρ 3 0 0 qP230 N 74 [b0, b1, b2] [(1, 92), (1, b2)] m o := h
  rcases MR_icmp h rfl rfl with ⟨c1, h⟩ | ⟨c1, h⟩
  ·
    have c1 : 92 ≤ b2 := c1
    refine Or.inl ⟨c1, ?_⟩
    have h : MR X ρ 3 0 0 qP230 N 95 [b0, b1, b2] [] m o := h
    have h := CR_iconst h rfl rfl
    have h : MR X ρ 3 0 0 qP230 N 96 [b0, b1, b2] [(1, 0)] m o := h
    have h := CR_istore_n h rfl (Nat.le_of_ble_eq_true rfl)
    have h : MR X ρ 3 0 0 qP230 N 97 [b0, b1, 0] [] m o := h
    exact h
  ·
    have c1 : ¬ (92 ≤ b2) := c1
    refine Or.inr ⟨c1, ?_⟩
    have h : MR X ρ 3 0 0 qP230 N 77 [b0, b1, b2] [] m o := h
    have h := CR_aload_n h rfl
    have h : MR X ρ 3 0 0 qP230 N 78 [b0, b1, b2] [(1, b0)] m o := h
    have h := CR_getf h rfl (by decide)
    have h : MR X ρ 3 0 0 qP230 N 81 [b0, b1, b2] [(1, m b0 14)] m o := h
    have h := CR_iload_n h rfl
    have h : MR X ρ 3 0 0 qP230 N 82 [b0, b1, b2] [(1, b2), (1, m b0 14)] m o := h
    have h := CR_aload_n h rfl
    have h : MR X ρ 3 0 0 qP230 N 83 [b0, b1, b2] [(1, b0), (1, b2), (1, m b0 14)] m o := h
    have h := CR_getf h rfl (by decide)
    have h : MR X ρ 3 0 0 qP230 N 86 [b0, b1, b2] [(1, m b0 15), (1, b2), (1, m b0 14)] m o := h
    have h := CR_iload_n h rfl
    have h : MR X ρ 3 0 0 qP230 N 87 [b0, b1, b2] [(1, b2), (1, m b0 15), (1, b2), (1, m b0 14)] m o := h
    have h := CR_iaload h rfl rfl
    have h : MR X ρ 3 0 0 qP230 N 88 [b0, b1, b2] [(1, m (m b0 15) b2), (1, b2), (1, m b0 14)] m o := h
    have h := CR_iastore_ h rfl
    have h : MR X ρ 3 0 0 qP230 N 89 [b0, b1, b2] [] (mu m (m b0 14) b2 (s32 (m (m b0 15) b2))) o := h
    have h := CR_inc h rfl (Nat.le_of_ble_eq_true rfl)
    have h : MR X ρ 3 0 0 qP230 N 92 [b0, b1, s32 (b2 + 1)] [] (mu m (m b0 14) b2 (s32 (m (m b0 15) b2))) o := h
    obtain ⟨N2, eN2, h⟩ := CR_goto h rfl rfl
    have h : MR X ρ 3 0 0 qP230 N2 71 [b0, b1, s32 (b2 + 1)] [] (mu m (m b0 14) b2 (s32 (m (m b0 15) b2))) o := h
    exact ⟨N2, eN2, h⟩
set_option maxRecDepth 16384 in
theorem i230_97 {X : KO} {ρ : Nat → Int32} {m : MM} {N : Nat} {o : Instr × List (Nat × Int) × MM} {b0 b1 b2 : Int} (h : MR X ρ 3 0 0 qP230 N 97 [b0, b1, b2] [] m o) : (((16 ≤ b2) ∧ (∃ m3, Run X ρ 280 [(1, b0)] m [] m3 ∧ (o = (.ireturn, [(1, b1)], mu m3 b0 23 0)))) ∨ (¬ (16 ≤ b2) ∧ (∃ N5, N = N5 + 1 ∧ MR X ρ 3 0 0 qP230 N5 97 [b0, b1, s32 (b2 + 1)] [] (mu m (m b0 19) b2 (m (m b0 20) b2)) o))) := by
  have h := CR_iload_n h rfl
  have h : MR X ρ 3 0 0 qP230 N 98 [b0, b1, b2] [(1, b2)] m o := h
  have h := CR_bipush h rfl rfl
  have h : MR X ρ 3 0 0 qP230 N 100 [b0, b1, b2] [(1, 16), (1, b2)] m o := h
  rcases MR_icmp h rfl rfl with ⟨c1, h⟩ | ⟨c1, h⟩
  ·
    have c1 : 16 ≤ b2 := c1
    refine Or.inl ⟨c1, ?_⟩
    have h : MR X ρ 3 0 0 qP230 N 121 [b0, b1, b2] [] m o := h
    have h := CR_aload_n h rfl
    have h : MR X ρ 3 0 0 qP230 N 122 [b0, b1, b2] [(1, b0)] m o := h
    obtain ⟨r2, m3, q4, h⟩ := MR_invV h rfl rfl
    have q4 : Run X ρ 280 [(1, b0)] m r2 m3 := q4
    obtain rfl := Run_v q4 rfl
    have h : MR X ρ 3 0 0 qP230 N 125 [b0, b1, b2] [] m3 o := h
    refine ⟨m3, q4, ?_⟩
    have h := CR_aload_n h rfl
    have h : MR X ρ 3 0 0 qP230 N 126 [b0, b1, b2] [(1, b0)] m3 o := h
    have h := CR_iconst h rfl rfl
    have h : MR X ρ 3 0 0 qP230 N 127 [b0, b1, b2] [(1, 0), (1, b0)] m3 o := h
    have h := CR_putf h rfl
    have h : MR X ρ 3 0 0 qP230 N 130 [b0, b1, b2] [] (mu m3 b0 23 0) o := h
    have h := CR_iload_n h rfl
    have h : MR X ρ 3 0 0 qP230 N 131 [b0, b1, b2] [(1, b1)] (mu m3 b0 23 0) o := h
    exact CR_end h rfl rfl
  ·
    have c1 : ¬ (16 ≤ b2) := c1
    refine Or.inr ⟨c1, ?_⟩
    have h : MR X ρ 3 0 0 qP230 N 103 [b0, b1, b2] [] m o := h
    have h := CR_aload_n h rfl
    have h : MR X ρ 3 0 0 qP230 N 104 [b0, b1, b2] [(1, b0)] m o := h
    have h := CR_getf h rfl (by decide)
    have h : MR X ρ 3 0 0 qP230 N 107 [b0, b1, b2] [(1, m b0 19)] m o := h
    have h := CR_iload_n h rfl
    have h : MR X ρ 3 0 0 qP230 N 108 [b0, b1, b2] [(1, b2), (1, m b0 19)] m o := h
    have h := CR_aload_n h rfl
    have h : MR X ρ 3 0 0 qP230 N 109 [b0, b1, b2] [(1, b0), (1, b2), (1, m b0 19)] m o := h
    have h := CR_getf h rfl (by decide)
    have h : MR X ρ 3 0 0 qP230 N 112 [b0, b1, b2] [(1, m b0 20), (1, b2), (1, m b0 19)] m o := h
    have h := CR_iload_n h rfl
    have h : MR X ρ 3 0 0 qP230 N 113 [b0, b1, b2] [(1, b2), (1, m b0 20), (1, b2), (1, m b0 19)] m o := h
    have h := CR_lald h rfl
    have h : MR X ρ 3 0 0 qP230 N 114 [b0, b1, b2] [(2, m (m b0 20) b2), (1, b2), (1, m b0 19)] m o := h
    have h := CR_last h rfl
    have h : MR X ρ 3 0 0 qP230 N 115 [b0, b1, b2] [] (mu m (m b0 19) b2 (m (m b0 20) b2)) o := h
    have h := CR_inc h rfl (Nat.le_of_ble_eq_true rfl)
    have h : MR X ρ 3 0 0 qP230 N 118 [b0, b1, s32 (b2 + 1)] [] (mu m (m b0 19) b2 (m (m b0 20) b2)) o := h
    obtain ⟨N5, eN5, h⟩ := CR_goto h rfl rfl
    have h : MR X ρ 3 0 0 qP230 N5 97 [b0, b1, s32 (b2 + 1)] [] (mu m (m b0 19) b2 (m (m b0 20) b2)) o := h
    exact ⟨N5, eN5, h⟩
end
section
set_option maxRecDepth 16384 in
theorem i147_0 {X : KO} {ρ : Nat → Int32} {m : MM} {N : Nat} {o : Instr × List (Nat × Int) × MM} {a0 a1 : Int} (h : MR X ρ 3 0 0 qP147 N 0 [a0, a1, 0] [] m o) : (MR X ρ 3 0 0 qP147 N 3 [a0, a1, 24] [] m o) := by
  have h := CR_bipush h rfl rfl
  have h : MR X ρ 3 0 0 qP147 N 2 [a0, a1, 0] [(1, 24)] m o := h
  have h := CR_istore_n h rfl (Nat.le_of_ble_eq_true rfl)
  have h : MR X ρ 3 0 0 qP147 N 3 [a0, a1, 24] [] m o := h
  exact h
set_option maxRecDepth 16384 in
theorem i147_3 {X : KO} {ρ : Nat → Int32} {m : MM} {N : Nat} {o : Instr × List (Nat × Int) × MM} {b0 b1 b2 : Int} (h : MR X ρ 3 0 0 qP147 N 3 [b0, b1, b2] [] m o) : (((b2 < 0) ∧ (o = (.return_, [], m))) ∨ (¬ (b2 < 0) ∧ ((((m b0 1) < 0) ∧ (∃ N3, N = N3 + 1 ∧ MR X ρ 3 0 0 qP147 N3 3 [b0, b1, s32 (b2 + (-8))] [] m o)) ∨ (¬ ((m b0 1) < 0) ∧ ((((if m b0 0 = 1000050 then 30 else s32 (m (m b0 0) (-1))) ≤ (m b0 1)) ∧ (∃ N5, N = N5 + 1 ∧ MR X ρ 3 0 0 qP147 N5 3 [b0, b1, s32 (b2 + (-8))] [] m o)) ∨ (¬ ((if m b0 0 = 1000050 then 30 else s32 (m (m b0 0) (-1))) ≤ (m b0 1)) ∧ (∃ N6, N = N6 + 1 ∧ MR X ρ 3 0 0 qP147 N6 3 [b0, b1, s32 (b2 + (-8))] [] (mu (mu m (m b0 0) (m b0 1) (jbst (m (m b0 0) (-2)) (ji2b (jushr b1 b2)))) b0 1 (s32 (((mu m (m b0 0) (m b0 1) (jbst (m (m b0 0) (-2)) (ji2b (jushr b1 b2)))) b0 1) + 1))) o))))))) := by
  have h := CR_iload_n h rfl
  have h : MR X ρ 3 0 0 qP147 N 4 [b0, b1, b2] [(1, b2)] m o := h
  rcases MR_if h rfl rfl with ⟨c1, h⟩ | ⟨c1, h⟩
  ·
    have c1 : b2 < 0 := c1
    refine Or.inl ⟨c1, ?_⟩
    have h : MR X ρ 3 0 0 qP147 N 55 [b0, b1, b2] [] m o := h
    exact CR_end h rfl rfl
  ·
    have c1 : ¬ (b2 < 0) := c1
    refine Or.inr ⟨c1, ?_⟩
    have h : MR X ρ 3 0 0 qP147 N 7 [b0, b1, b2] [] m o := h
    have h := CR_aload_n h rfl
    have h : MR X ρ 3 0 0 qP147 N 8 [b0, b1, b2] [(1, b0)] m o := h
    have h := CR_getf h rfl (by decide)
    have h : MR X ρ 3 0 0 qP147 N 11 [b0, b1, b2] [(1, m b0 1)] m o := h
    rcases MR_if h rfl rfl with ⟨c2, h⟩ | ⟨c2, h⟩
    ·
      have c2 : (m b0 1) < 0 := c2
      refine Or.inl ⟨c2, ?_⟩
      have h : MR X ρ 3 0 0 qP147 N 49 [b0, b1, b2] [] m o := h
      have h := CR_inc h rfl (Nat.le_of_ble_eq_true rfl)
      have h : MR X ρ 3 0 0 qP147 N 52 [b0, b1, s32 (b2 + (-8))] [] m o := h
      obtain ⟨N3, eN3, h⟩ := CR_goto h rfl rfl
      have h : MR X ρ 3 0 0 qP147 N3 3 [b0, b1, s32 (b2 + (-8))] [] m o := h
      exact ⟨N3, eN3, h⟩
    ·
      have c2 : ¬ ((m b0 1) < 0) := c2
      refine Or.inr ⟨c2, ?_⟩
      have h : MR X ρ 3 0 0 qP147 N 14 [b0, b1, b2] [] m o := h
      have h := CR_aload_n h rfl
      have h : MR X ρ 3 0 0 qP147 N 15 [b0, b1, b2] [(1, b0)] m o := h
      have h := CR_getf h rfl (by decide)
      have h : MR X ρ 3 0 0 qP147 N 18 [b0, b1, b2] [(1, m b0 1)] m o := h
      have h := CR_aload_n h rfl
      have h : MR X ρ 3 0 0 qP147 N 19 [b0, b1, b2] [(1, b0), (1, m b0 1)] m o := h
      have h := CR_getf h rfl (by decide)
      have h : MR X ρ 3 0 0 qP147 N 22 [b0, b1, b2] [(1, m b0 0), (1, m b0 1)] m o := h
      have h := CR_alen rfl h rfl
      have h : MR X ρ 3 0 0 qP147 N 23 [b0, b1, b2] [(1, if m b0 0 = 1000050 then 30 else s32 (m (m b0 0) (-1))), (1, m b0 1)] m o := h
      rcases MR_icmp h rfl rfl with ⟨c4, h⟩ | ⟨c4, h⟩
      ·
        have c4 : (if m b0 0 = 1000050 then 30 else s32 (m (m b0 0) (-1))) ≤ (m b0 1) := c4
        refine Or.inl ⟨c4, ?_⟩
        have h : MR X ρ 3 0 0 qP147 N 49 [b0, b1, b2] [] m o := h
        have h := CR_inc h rfl (Nat.le_of_ble_eq_true rfl)
        have h : MR X ρ 3 0 0 qP147 N 52 [b0, b1, s32 (b2 + (-8))] [] m o := h
        obtain ⟨N5, eN5, h⟩ := CR_goto h rfl rfl
        have h : MR X ρ 3 0 0 qP147 N5 3 [b0, b1, s32 (b2 + (-8))] [] m o := h
        exact ⟨N5, eN5, h⟩
      ·
        have c4 : ¬ ((if m b0 0 = 1000050 then 30 else s32 (m (m b0 0) (-1))) ≤ (m b0 1)) := c4
        refine Or.inr ⟨c4, ?_⟩
        have h : MR X ρ 3 0 0 qP147 N 26 [b0, b1, b2] [] m o := h
        have h := CR_aload_n h rfl
        have h : MR X ρ 3 0 0 qP147 N 27 [b0, b1, b2] [(1, b0)] m o := h
        have h := CR_getf h rfl (by decide)
        have h : MR X ρ 3 0 0 qP147 N 30 [b0, b1, b2] [(1, m b0 0)] m o := h
        have h := CR_aload_n h rfl
        have h : MR X ρ 3 0 0 qP147 N 31 [b0, b1, b2] [(1, b0), (1, m b0 0)] m o := h
        have h := CR_getf h rfl (by decide)
        have h : MR X ρ 3 0 0 qP147 N 34 [b0, b1, b2] [(1, m b0 1), (1, m b0 0)] m o := h
        have h := CR_iload_n h rfl
        have h : MR X ρ 3 0 0 qP147 N 35 [b0, b1, b2] [(1, b1), (1, m b0 1), (1, m b0 0)] m o := h
        have h := CR_iload_n h rfl
        have h : MR X ρ 3 0 0 qP147 N 36 [b0, b1, b2] [(1, b2), (1, b1), (1, m b0 1), (1, m b0 0)] m o := h
        have h := CR_iushr h rfl
        have h : MR X ρ 3 0 0 qP147 N 37 [b0, b1, b2] [(1, jushr b1 b2), (1, m b0 1), (1, m b0 0)] m o := h
        have h := CR_i2b h rfl
        have h : MR X ρ 3 0 0 qP147 N 38 [b0, b1, b2] [(1, ji2b (jushr b1 b2)), (1, m b0 1), (1, m b0 0)] m o := h
        have h := CR_bastore h rfl
        have h : MR X ρ 3 0 0 qP147 N 39 [b0, b1, b2] [] (mu m (m b0 0) (m b0 1) (jbst (m (m b0 0) (-2)) (ji2b (jushr b1 b2)))) o := h
        have h := CR_aload_n h rfl
        have h : MR X ρ 3 0 0 qP147 N 40 [b0, b1, b2] [(1, b0)] (mu m (m b0 0) (m b0 1) (jbst (m (m b0 0) (-2)) (ji2b (jushr b1 b2)))) o := h
        have h := CR_dup h rfl
        have h : MR X ρ 3 0 0 qP147 N 41 [b0, b1, b2] [(1, b0), (1, b0)] (mu m (m b0 0) (m b0 1) (jbst (m (m b0 0) (-2)) (ji2b (jushr b1 b2)))) o := h
        have h := CR_getf h rfl (by decide)
        have h : MR X ρ 3 0 0 qP147 N 44 [b0, b1, b2] [(1, (mu m (m b0 0) (m b0 1) (jbst (m (m b0 0) (-2)) (ji2b (jushr b1 b2)))) b0 1), (1, b0)] (mu m (m b0 0) (m b0 1) (jbst (m (m b0 0) (-2)) (ji2b (jushr b1 b2)))) o := h
        have h := CR_iconst h rfl rfl
        have h : MR X ρ 3 0 0 qP147 N 45 [b0, b1, b2] [(1, 1), (1, (mu m (m b0 0) (m b0 1) (jbst (m (m b0 0) (-2)) (ji2b (jushr b1 b2)))) b0 1), (1, b0)] (mu m (m b0 0) (m b0 1) (jbst (m (m b0 0) (-2)) (ji2b (jushr b1 b2)))) o := h
        have h := CR_iadd h rfl
        have h : MR X ρ 3 0 0 qP147 N 46 [b0, b1, b2] [(1, s32 (((mu m (m b0 0) (m b0 1) (jbst (m (m b0 0) (-2)) (ji2b (jushr b1 b2)))) b0 1) + 1)), (1, b0)] (mu m (m b0 0) (m b0 1) (jbst (m (m b0 0) (-2)) (ji2b (jushr b1 b2)))) o := h
        have h := CR_putf h rfl
        have h : MR X ρ 3 0 0 qP147 N 49 [b0, b1, b2] [] (mu (mu m (m b0 0) (m b0 1) (jbst (m (m b0 0) (-2)) (ji2b (jushr b1 b2)))) b0 1 (s32 (((mu m (m b0 0) (m b0 1) (jbst (m (m b0 0) (-2)) (ji2b (jushr b1 b2)))) b0 1) + 1))) o := h
        have h := CR_inc h rfl (Nat.le_of_ble_eq_true rfl)
        have h : MR X ρ 3 0 0 qP147 N 52 [b0, b1, s32 (b2 + (-8))] [] (mu (mu m (m b0 0) (m b0 1) (jbst (m (m b0 0) (-2)) (ji2b (jushr b1 b2)))) b0 1 (s32 (((mu m (m b0 0) (m b0 1) (jbst (m (m b0 0) (-2)) (ji2b (jushr b1 b2)))) b0 1) + 1))) o := h
        obtain ⟨N6, eN6, h⟩ := CR_goto h rfl rfl
        have h : MR X ρ 3 0 0 qP147 N6 3 [b0, b1, s32 (b2 + (-8))] [] (mu (mu m (m b0 0) (m b0 1) (jbst (m (m b0 0) (-2)) (ji2b (jushr b1 b2)))) b0 1 (s32 (((mu m (m b0 0) (m b0 1) (jbst (m (m b0 0) (-2)) (ji2b (jushr b1 b2)))) b0 1) + 1))) o := h
        exact ⟨N6, eN6, h⟩
set_option maxRecDepth 16384 in
theorem i15_0 {X : KO} {ρ : Nat → Int32} {m : MM} {N : Nat} {o : Instr × List (Nat × Int) × MM} {a0 a1 a2 a3 a4 a5 : Int} (h : MR X ρ 6 0 0 qP15 N 0 [a0, a1, a2, a3, a4, a5] [] m o) : ((((s32 ((m (m a0 0) 1) + 20)) ≤ 940) ∧ (∃ m3, Run X ρ 147 [(1, m a0 0), (1, a1)] m [] m3 ∧ (∃ m6, Run X ρ 147 [(1, m3 a0 0), (1, a2)] m3 [] m6 ∧ (∃ m9, Run X ρ 147 [(1, m6 a0 0), (1, a3)] m6 [] m9 ∧ (∃ m12, Run X ρ 147 [(1, m9 a0 0), (1, a4)] m9 [] m12 ∧ (∃ m15, Run X ρ 147 [(1, m12 a0 0), (1, a5)] m12 [] m15 ∧ (o = (.ireturn, [(1, m15 (m15 a0 0) 1)], m15)))))))) ∨ (¬ ((s32 ((m (m a0 0) 1) + 20)) ≤ 940) ∧ (o = (.ireturn, [(1, -1)], m)))) := by
  have h := CR_aload_n h rfl
  have h : MR X ρ 6 0 0 qP15 N 1 [a0, a1, a2, a3, a4, a5] [(1, a0)] m o := h
  have h := CR_getf h rfl (by decide)
  have h : MR X ρ 6 0 0 qP15 N 4 [a0, a1, a2, a3, a4, a5] [(1, m a0 0)] m o := h
  have h := CR_getf h rfl (by decide)
  have h : MR X ρ 6 0 0 qP15 N 7 [a0, a1, a2, a3, a4, a5] [(1, m (m a0 0) 1)] m o := h
  have h := CR_bipush h rfl rfl
  have h : MR X ρ 6 0 0 qP15 N 9 [a0, a1, a2, a3, a4, a5] [(1, 20), (1, m (m a0 0) 1)] m o := h
  have h := CR_iadd h rfl
  have h : MR X ρ 6 0 0 qP15 N 10 [a0, a1, a2, a3, a4, a5] [(1, s32 ((m (m a0 0) 1) + 20))] m o := h
  have h := CR_sipush h rfl rfl
  have h : MR X ρ 6 0 0 qP15 N 13 [a0, a1, a2, a3, a4, a5] [(1, 940), (1, s32 ((m (m a0 0) 1) + 20))] m o := h
  rcases MR_icmp h rfl rfl with ⟨c1, h⟩ | ⟨c1, h⟩
  ·
    have c1 : (s32 ((m (m a0 0) 1) + 20)) ≤ 940 := c1
    refine Or.inl ⟨c1, ?_⟩
    have h : MR X ρ 6 0 0 qP15 N 18 [a0, a1, a2, a3, a4, a5] [] m o := h
    have h := CR_aload_n h rfl
    have h : MR X ρ 6 0 0 qP15 N 19 [a0, a1, a2, a3, a4, a5] [(1, a0)] m o := h
    have h := CR_getf h rfl (by decide)
    have h : MR X ρ 6 0 0 qP15 N 22 [a0, a1, a2, a3, a4, a5] [(1, m a0 0)] m o := h
    have h := CR_iload_n h rfl
    have h : MR X ρ 6 0 0 qP15 N 23 [a0, a1, a2, a3, a4, a5] [(1, a1), (1, m a0 0)] m o := h
    obtain ⟨r2, m3, q4, h⟩ := MR_invV h rfl rfl
    have q4 : Run X ρ 147 [(1, m a0 0), (1, a1)] m r2 m3 := q4
    obtain rfl := Run_v q4 rfl
    have h : MR X ρ 6 0 0 qP15 N 26 [a0, a1, a2, a3, a4, a5] [] m3 o := h
    refine ⟨m3, q4, ?_⟩
    have h := CR_aload_n h rfl
    have h : MR X ρ 6 0 0 qP15 N 27 [a0, a1, a2, a3, a4, a5] [(1, a0)] m3 o := h
    have h := CR_getf h rfl (by decide)
    have h : MR X ρ 6 0 0 qP15 N 30 [a0, a1, a2, a3, a4, a5] [(1, m3 a0 0)] m3 o := h
    have h := CR_iload_n h rfl
    have h : MR X ρ 6 0 0 qP15 N 31 [a0, a1, a2, a3, a4, a5] [(1, a2), (1, m3 a0 0)] m3 o := h
    obtain ⟨r5, m6, q7, h⟩ := MR_invV h rfl rfl
    have q7 : Run X ρ 147 [(1, m3 a0 0), (1, a2)] m3 r5 m6 := q7
    obtain rfl := Run_v q7 rfl
    have h : MR X ρ 6 0 0 qP15 N 34 [a0, a1, a2, a3, a4, a5] [] m6 o := h
    refine ⟨m6, q7, ?_⟩
    have h := CR_aload_n h rfl
    have h : MR X ρ 6 0 0 qP15 N 35 [a0, a1, a2, a3, a4, a5] [(1, a0)] m6 o := h
    have h := CR_getf h rfl (by decide)
    have h : MR X ρ 6 0 0 qP15 N 38 [a0, a1, a2, a3, a4, a5] [(1, m6 a0 0)] m6 o := h
    have h := CR_iload_n h rfl
    have h : MR X ρ 6 0 0 qP15 N 39 [a0, a1, a2, a3, a4, a5] [(1, a3), (1, m6 a0 0)] m6 o := h
    obtain ⟨r8, m9, q10, h⟩ := MR_invV h rfl rfl
    have q10 : Run X ρ 147 [(1, m6 a0 0), (1, a3)] m6 r8 m9 := q10
    obtain rfl := Run_v q10 rfl
    have h : MR X ρ 6 0 0 qP15 N 42 [a0, a1, a2, a3, a4, a5] [] m9 o := h
    refine ⟨m9, q10, ?_⟩
    have h := CR_aload_n h rfl
    have h : MR X ρ 6 0 0 qP15 N 43 [a0, a1, a2, a3, a4, a5] [(1, a0)] m9 o := h
    have h := CR_getf h rfl (by decide)
    have h : MR X ρ 6 0 0 qP15 N 46 [a0, a1, a2, a3, a4, a5] [(1, m9 a0 0)] m9 o := h
    have h := CR_iload h rfl
    have h : MR X ρ 6 0 0 qP15 N 48 [a0, a1, a2, a3, a4, a5] [(1, a4), (1, m9 a0 0)] m9 o := h
    obtain ⟨r11, m12, q13, h⟩ := MR_invV h rfl rfl
    have q13 : Run X ρ 147 [(1, m9 a0 0), (1, a4)] m9 r11 m12 := q13
    obtain rfl := Run_v q13 rfl
    have h : MR X ρ 6 0 0 qP15 N 51 [a0, a1, a2, a3, a4, a5] [] m12 o := h
    refine ⟨m12, q13, ?_⟩
    have h := CR_aload_n h rfl
    have h : MR X ρ 6 0 0 qP15 N 52 [a0, a1, a2, a3, a4, a5] [(1, a0)] m12 o := h
    have h := CR_getf h rfl (by decide)
    have h : MR X ρ 6 0 0 qP15 N 55 [a0, a1, a2, a3, a4, a5] [(1, m12 a0 0)] m12 o := h
    have h := CR_iload h rfl
    have h : MR X ρ 6 0 0 qP15 N 57 [a0, a1, a2, a3, a4, a5] [(1, a5), (1, m12 a0 0)] m12 o := h
    obtain ⟨r14, m15, q16, h⟩ := MR_invV h rfl rfl
    have q16 : Run X ρ 147 [(1, m12 a0 0), (1, a5)] m12 r14 m15 := q16
    obtain rfl := Run_v q16 rfl
    have h : MR X ρ 6 0 0 qP15 N 60 [a0, a1, a2, a3, a4, a5] [] m15 o := h
    refine ⟨m15, q16, ?_⟩
    have h := CR_aload_n h rfl
    have h : MR X ρ 6 0 0 qP15 N 61 [a0, a1, a2, a3, a4, a5] [(1, a0)] m15 o := h
    have h := CR_getf h rfl (by decide)
    have h : MR X ρ 6 0 0 qP15 N 64 [a0, a1, a2, a3, a4, a5] [(1, m15 a0 0)] m15 o := h
    have h := CR_getf h rfl (by decide)
    have h : MR X ρ 6 0 0 qP15 N 67 [a0, a1, a2, a3, a4, a5] [(1, m15 (m15 a0 0) 1)] m15 o := h
    exact CR_end h rfl rfl
  ·
    have c1 : ¬ ((s32 ((m (m a0 0) 1) + 20)) ≤ 940) := c1
    refine Or.inr ⟨c1, ?_⟩
    have h : MR X ρ 6 0 0 qP15 N 16 [a0, a1, a2, a3, a4, a5] [] m o := h
    have h := CR_iconst h rfl rfl
    have h : MR X ρ 6 0 0 qP15 N 17 [a0, a1, a2, a3, a4, a5] [(1, -1)] m o := h
    exact CR_end h rfl rfl
set_option maxRecDepth 16384 in
theorem i176_0 {X : KO} {ρ : Nat → Int32} {m : MM} {N : Nat} {o : Instr × List (Nat × Int) × MM} {a0 a1 : Int} (h : MR X ρ 3 0 0 qP176 N 0 [a0, a1, 0] [] m o) : (MR X ρ 3 0 0 qP176 N 3 [a0, a1, 24] [] m o) := by
  have h := CR_bipush h rfl rfl
  have h : MR X ρ 3 0 0 qP176 N 2 [a0, a1, 0] [(1, 24)] m o := h
  have h := CR_istore_n h rfl (Nat.le_of_ble_eq_true rfl)
  have h : MR X ρ 3 0 0 qP176 N 3 [a0, a1, 24] [] m o := h
  exact h
set_option maxRecDepth 16384 in
theorem i176_3 {X : KO} {ρ : Nat → Int32} {m : MM} {N : Nat} {o : Instr × List (Nat × Int) × MM} {b0 b1 b2 : Int} (h : MR X ρ 3 0 0 qP176 N 3 [b0, b1, b2] [] m o) : (((b2 < 0) ∧ (o = (.return_, [], m))) ∨ (¬ (b2 < 0) ∧ (∃ N2, N = N2 + 1 ∧ MR X ρ 3 0 0 qP176 N2 3 [b0, b1, s32 (b2 + (-8))] [] (mu (mu m (m b0 1) (m b0 2) (s32 (jand (jushr b1 b2) 255))) b0 2 (s32 (((mu m (m b0 1) (m b0 2) (s32 (jand (jushr b1 b2) 255))) b0 2) + 1))) o))) := by
  have h := CR_iload_n h rfl
  have h : MR X ρ 3 0 0 qP176 N 4 [b0, b1, b2] [(1, b2)] m o := h
  rcases MR_if h rfl rfl with ⟨c1, h⟩ | ⟨c1, h⟩
  ·
    have c1 : b2 < 0 := c1
    refine Or.inl ⟨c1, ?_⟩
    have h : MR X ρ 3 0 0 qP176 N 39 [b0, b1, b2] [] m o := h
    exact CR_end h rfl rfl
  ·
    have c1 : ¬ (b2 < 0) := c1
    refine Or.inr ⟨c1, ?_⟩
    have h : MR X ρ 3 0 0 qP176 N 7 [b0, b1, b2] [] m o := h
    have h := CR_aload_n h rfl
    have h : MR X ρ 3 0 0 qP176 N 8 [b0, b1, b2] [(1, b0)] m o := h
    have h := CR_getf h rfl (by decide)
    have h : MR X ρ 3 0 0 qP176 N 11 [b0, b1, b2] [(1, m b0 1)] m o := h
    have h := CR_aload_n h rfl
    have h : MR X ρ 3 0 0 qP176 N 12 [b0, b1, b2] [(1, b0), (1, m b0 1)] m o := h
    have h := CR_getf h rfl (by decide)
    have h : MR X ρ 3 0 0 qP176 N 15 [b0, b1, b2] [(1, m b0 2), (1, m b0 1)] m o := h
    have h := CR_iload_n h rfl
    have h : MR X ρ 3 0 0 qP176 N 16 [b0, b1, b2] [(1, b1), (1, m b0 2), (1, m b0 1)] m o := h
    have h := CR_iload_n h rfl
    have h : MR X ρ 3 0 0 qP176 N 17 [b0, b1, b2] [(1, b2), (1, b1), (1, m b0 2), (1, m b0 1)] m o := h
    have h := CR_iushr h rfl
    have h : MR X ρ 3 0 0 qP176 N 18 [b0, b1, b2] [(1, jushr b1 b2), (1, m b0 2), (1, m b0 1)] m o := h
    have h := CR_sipush h rfl rfl
    have h : MR X ρ 3 0 0 qP176 N 21 [b0, b1, b2] [(1, 255), (1, jushr b1 b2), (1, m b0 2), (1, m b0 1)] m o := h
    have h := CR_iand h rfl
    have h : MR X ρ 3 0 0 qP176 N 22 [b0, b1, b2] [(1, jand (jushr b1 b2) 255), (1, m b0 2), (1, m b0 1)] m o := h
    have h := CR_iastore_ h rfl
    have h : MR X ρ 3 0 0 qP176 N 23 [b0, b1, b2] [] (mu m (m b0 1) (m b0 2) (s32 (jand (jushr b1 b2) 255))) o := h
    have h := CR_aload_n h rfl
    have h : MR X ρ 3 0 0 qP176 N 24 [b0, b1, b2] [(1, b0)] (mu m (m b0 1) (m b0 2) (s32 (jand (jushr b1 b2) 255))) o := h
    have h := CR_dup h rfl
    have h : MR X ρ 3 0 0 qP176 N 25 [b0, b1, b2] [(1, b0), (1, b0)] (mu m (m b0 1) (m b0 2) (s32 (jand (jushr b1 b2) 255))) o := h
    have h := CR_getf h rfl (by decide)
    have h : MR X ρ 3 0 0 qP176 N 28 [b0, b1, b2] [(1, (mu m (m b0 1) (m b0 2) (s32 (jand (jushr b1 b2) 255))) b0 2), (1, b0)] (mu m (m b0 1) (m b0 2) (s32 (jand (jushr b1 b2) 255))) o := h
    have h := CR_iconst h rfl rfl
    have h : MR X ρ 3 0 0 qP176 N 29 [b0, b1, b2] [(1, 1), (1, (mu m (m b0 1) (m b0 2) (s32 (jand (jushr b1 b2) 255))) b0 2), (1, b0)] (mu m (m b0 1) (m b0 2) (s32 (jand (jushr b1 b2) 255))) o := h
    have h := CR_iadd h rfl
    have h : MR X ρ 3 0 0 qP176 N 30 [b0, b1, b2] [(1, s32 (((mu m (m b0 1) (m b0 2) (s32 (jand (jushr b1 b2) 255))) b0 2) + 1)), (1, b0)] (mu m (m b0 1) (m b0 2) (s32 (jand (jushr b1 b2) 255))) o := h
    have h := CR_putf h rfl
    have h : MR X ρ 3 0 0 qP176 N 33 [b0, b1, b2] [] (mu (mu m (m b0 1) (m b0 2) (s32 (jand (jushr b1 b2) 255))) b0 2 (s32 (((mu m (m b0 1) (m b0 2) (s32 (jand (jushr b1 b2) 255))) b0 2) + 1))) o := h
    have h := CR_inc h rfl (Nat.le_of_ble_eq_true rfl)
    have h : MR X ρ 3 0 0 qP176 N 36 [b0, b1, s32 (b2 + (-8))] [] (mu (mu m (m b0 1) (m b0 2) (s32 (jand (jushr b1 b2) 255))) b0 2 (s32 (((mu m (m b0 1) (m b0 2) (s32 (jand (jushr b1 b2) 255))) b0 2) + 1))) o := h
    obtain ⟨N2, eN2, h⟩ := CR_goto h rfl rfl
    have h : MR X ρ 3 0 0 qP176 N2 3 [b0, b1, s32 (b2 + (-8))] [] (mu (mu m (m b0 1) (m b0 2) (s32 (jand (jushr b1 b2) 255))) b0 2 (s32 (((mu m (m b0 1) (m b0 2) (s32 (jand (jushr b1 b2) 255))) b0 2) + 1))) o := h
    exact ⟨N2, eN2, h⟩
set_option maxRecDepth 16384 in
theorem i189_0 {X : KO} {ρ : Nat → Int32} {m : MM} {N : Nat} {o : Instr × List (Nat × Int) × MM} {a0 a1 a2 a3 a4 a5 : Int} (h : MR X ρ 6 0 0 qP189 N 0 [a0, a1, a2, a3, a4, a5] [] m o) : ((((s32 (((mu m a0 0 0) a0 2) + 20)) ≤ 940) ∧ (∃ m3, Run X ρ 176 [(1, a0), (1, a1)] (mu m a0 0 0) [] m3 ∧ (∃ m6, Run X ρ 176 [(1, a0), (1, a2)] m3 [] m6 ∧ (∃ m9, Run X ρ 176 [(1, a0), (1, a3)] m6 [] m9 ∧ (∃ m12, Run X ρ 176 [(1, a0), (1, a4)] m9 [] m12 ∧ (∃ m15, Run X ρ 176 [(1, a0), (1, a5)] m12 [] m15 ∧ (o = (.ireturn, [(1, m15 a0 2)], m15)))))))) ∨ (¬ ((s32 (((mu m a0 0 0) a0 2) + 20)) ≤ 940) ∧ (o = (.ireturn, [(1, -1)], mu m a0 0 0)))) := by
  have h := CR_aload_n h rfl
  have h : MR X ρ 6 0 0 qP189 N 1 [a0, a1, a2, a3, a4, a5] [(1, a0)] m o := h
  have h := CR_iconst h rfl rfl
  have h : MR X ρ 6 0 0 qP189 N 2 [a0, a1, a2, a3, a4, a5] [(1, 0), (1, a0)] m o := h
  have h := CR_putf h rfl
  have h : MR X ρ 6 0 0 qP189 N 5 [a0, a1, a2, a3, a4, a5] [] (mu m a0 0 0) o := h
  have h := CR_aload_n h rfl
  have h : MR X ρ 6 0 0 qP189 N 6 [a0, a1, a2, a3, a4, a5] [(1, a0)] (mu m a0 0 0) o := h
  have h := CR_getf h rfl (by decide)
  have h : MR X ρ 6 0 0 qP189 N 9 [a0, a1, a2, a3, a4, a5] [(1, (mu m a0 0 0) a0 2)] (mu m a0 0 0) o := h
  have h := CR_bipush h rfl rfl
  have h : MR X ρ 6 0 0 qP189 N 11 [a0, a1, a2, a3, a4, a5] [(1, 20), (1, (mu m a0 0 0) a0 2)] (mu m a0 0 0) o := h
  have h := CR_iadd h rfl
  have h : MR X ρ 6 0 0 qP189 N 12 [a0, a1, a2, a3, a4, a5] [(1, s32 (((mu m a0 0 0) a0 2) + 20))] (mu m a0 0 0) o := h
  have h := CR_sipush h rfl rfl
  have h : MR X ρ 6 0 0 qP189 N 15 [a0, a1, a2, a3, a4, a5] [(1, 940), (1, s32 (((mu m a0 0 0) a0 2) + 20))] (mu m a0 0 0) o := h
  rcases MR_icmp h rfl rfl with ⟨c1, h⟩ | ⟨c1, h⟩
  ·
    have c1 : (s32 (((mu m a0 0 0) a0 2) + 20)) ≤ 940 := c1
    refine Or.inl ⟨c1, ?_⟩
    have h : MR X ρ 6 0 0 qP189 N 20 [a0, a1, a2, a3, a4, a5] [] (mu m a0 0 0) o := h
    have h := CR_aload_n h rfl
    have h : MR X ρ 6 0 0 qP189 N 21 [a0, a1, a2, a3, a4, a5] [(1, a0)] (mu m a0 0 0) o := h
    have h := CR_iload_n h rfl
    have h : MR X ρ 6 0 0 qP189 N 22 [a0, a1, a2, a3, a4, a5] [(1, a1), (1, a0)] (mu m a0 0 0) o := h
    obtain ⟨r2, m3, q4, h⟩ := MR_invV h rfl rfl
    have q4 : Run X ρ 176 [(1, a0), (1, a1)] (mu m a0 0 0) r2 m3 := q4
    obtain rfl := Run_v q4 rfl
    have h : MR X ρ 6 0 0 qP189 N 25 [a0, a1, a2, a3, a4, a5] [] m3 o := h
    refine ⟨m3, q4, ?_⟩
    have h := CR_aload_n h rfl
    have h : MR X ρ 6 0 0 qP189 N 26 [a0, a1, a2, a3, a4, a5] [(1, a0)] m3 o := h
    have h := CR_iload_n h rfl
    have h : MR X ρ 6 0 0 qP189 N 27 [a0, a1, a2, a3, a4, a5] [(1, a2), (1, a0)] m3 o := h
    obtain ⟨r5, m6, q7, h⟩ := MR_invV h rfl rfl
    have q7 : Run X ρ 176 [(1, a0), (1, a2)] m3 r5 m6 := q7
    obtain rfl := Run_v q7 rfl
    have h : MR X ρ 6 0 0 qP189 N 30 [a0, a1, a2, a3, a4, a5] [] m6 o := h
    refine ⟨m6, q7, ?_⟩
    have h := CR_aload_n h rfl
    have h : MR X ρ 6 0 0 qP189 N 31 [a0, a1, a2, a3, a4, a5] [(1, a0)] m6 o := h
    have h := CR_iload_n h rfl
    have h : MR X ρ 6 0 0 qP189 N 32 [a0, a1, a2, a3, a4, a5] [(1, a3), (1, a0)] m6 o := h
    obtain ⟨r8, m9, q10, h⟩ := MR_invV h rfl rfl
    have q10 : Run X ρ 176 [(1, a0), (1, a3)] m6 r8 m9 := q10
    obtain rfl := Run_v q10 rfl
    have h : MR X ρ 6 0 0 qP189 N 35 [a0, a1, a2, a3, a4, a5] [] m9 o := h
    refine ⟨m9, q10, ?_⟩
    have h := CR_aload_n h rfl
    have h : MR X ρ 6 0 0 qP189 N 36 [a0, a1, a2, a3, a4, a5] [(1, a0)] m9 o := h
    have h := CR_iload h rfl
    have h : MR X ρ 6 0 0 qP189 N 38 [a0, a1, a2, a3, a4, a5] [(1, a4), (1, a0)] m9 o := h
    obtain ⟨r11, m12, q13, h⟩ := MR_invV h rfl rfl
    have q13 : Run X ρ 176 [(1, a0), (1, a4)] m9 r11 m12 := q13
    obtain rfl := Run_v q13 rfl
    have h : MR X ρ 6 0 0 qP189 N 41 [a0, a1, a2, a3, a4, a5] [] m12 o := h
    refine ⟨m12, q13, ?_⟩
    have h := CR_aload_n h rfl
    have h : MR X ρ 6 0 0 qP189 N 42 [a0, a1, a2, a3, a4, a5] [(1, a0)] m12 o := h
    have h := CR_iload h rfl
    have h : MR X ρ 6 0 0 qP189 N 44 [a0, a1, a2, a3, a4, a5] [(1, a5), (1, a0)] m12 o := h
    obtain ⟨r14, m15, q16, h⟩ := MR_invV h rfl rfl
    have q16 : Run X ρ 176 [(1, a0), (1, a5)] m12 r14 m15 := q16
    obtain rfl := Run_v q16 rfl
    have h : MR X ρ 6 0 0 qP189 N 47 [a0, a1, a2, a3, a4, a5] [] m15 o := h
    refine ⟨m15, q16, ?_⟩
    have h := CR_aload_n h rfl
    have h : MR X ρ 6 0 0 qP189 N 48 [a0, a1, a2, a3, a4, a5] [(1, a0)] m15 o := h
    have h := CR_getf h rfl (by decide)
    have h : MR X ρ 6 0 0 qP189 N 51 [a0, a1, a2, a3, a4, a5] [(1, m15 a0 2)] m15 o := h
    exact CR_end h rfl rfl
  ·
    have c1 : ¬ ((s32 (((mu m a0 0 0) a0 2) + 20)) ≤ 940) := c1
    refine Or.inr ⟨c1, ?_⟩
    have h : MR X ρ 6 0 0 qP189 N 18 [a0, a1, a2, a3, a4, a5] [] (mu m a0 0 0) o := h
    have h := CR_iconst h rfl rfl
    have h : MR X ρ 6 0 0 qP189 N 19 [a0, a1, a2, a3, a4, a5] [(1, -1)] (mu m a0 0 0) o := h
    exact CR_end h rfl rfl
end
section
/-! Letters and digits: what a run of them spells, five bits or a digit of 27 a letter. -/
set_option maxRecDepth 16384 in
def isLt (c : Int) : Prop := 97 ≤ c ∧ c ≤ 122
set_option maxRecDepth 16384 in
def isDg (c : Int) : Prop := 48 ≤ c ∧ c ≤ 57
set_option maxRecDepth 16384 in
def p32 : List Int → Int := List.foldl (fun v c => v * 32 + (c - 96)) 0
set_option maxRecDepth 16384 in
def p27 : List Int → Int := List.foldl (fun v c => v * 27 + (c - 96)) 0
set_option maxRecDepth 16384 in
def p10 : List Int → Int := List.foldl (fun v c => v * 10 + (c - 48)) 0
set_option maxRecDepth 16384 in
theorem p32_s (cs : List Int) (c : Int) : p32 (cs ++ [c]) = p32 cs * 32 + (c - 96) := by
  unfold p32; rw [List.foldl_append]; rfl
set_option maxRecDepth 16384 in
theorem p27_s (cs : List Int) (c : Int) : p27 (cs ++ [c]) = p27 cs * 27 + (c - 96) := by
  unfold p27; rw [List.foldl_append]; rfl
set_option maxRecDepth 16384 in
theorem p10_s (cs : List Int) (c : Int) : p10 (cs ++ [c]) = p10 cs * 10 + (c - 48) := by
  unfold p10; rw [List.foldl_append]; rfl
set_option maxRecDepth 16384 in
/-- induction from the end -/
theorem snoc_ind {P : List Int → Prop} (h0 : P []) (h1 : ∀ cs c, P cs → P (cs ++ [c])) (cs : List Int) : P cs := by
  have key : ∀ n (l : List Int), l.length = n → P l := by
    intro n
    induction n with
    | zero => intro l hl; rw [List.length_eq_zero_iff.mp hl]; exact h0
    | succ n ih =>
      intro l hl
      have hne : l ≠ [] := fun e => by rw [e] at hl; cases hl
      rw [← List.dropLast_concat_getLast hne]
      exact h1 _ _ (ih _ (by rw [List.length_dropLast, hl]; rfl))
  exact key _ cs rfl
set_option maxRecDepth 16384 in
def allL (cs : List Int) : Prop := ∀ c ∈ cs, isLt c
set_option maxRecDepth 16384 in
theorem allL_s {cs : List Int} {c : Int} : allL (cs ++ [c]) ↔ allL cs ∧ isLt c := by
  unfold allL
  constructor
  · intro h
    exact ⟨fun x hx => h x (List.mem_append_left _ hx), h c (List.mem_append_right _ List.mem_cons_self)⟩
  · intro h x hx
    rcases List.mem_append.mp hx with hx | hx
    · exact h.1 x hx
    · rw [List.mem_singleton.mp hx]; exact h.2
set_option maxRecDepth 16384 in
theorem p32_pos {cs : List Int} : allL cs → 0 ≤ p32 cs ∧ (cs ≠ [] → 0 < p32 cs) := by
  induction cs using snoc_ind with
  | h0 => intro _; exact ⟨Int.le_refl _, fun h => absurd rfl h⟩
  | h1 cs c ih =>
    intro h
    obtain ⟨h1, h2, h3⟩ := allL_s.mp h
    have := (ih h1).1
    rw [p32_s]
    exact ⟨by omega, fun _ => by omega⟩
set_option maxRecDepth 16384 in
theorem p27_pos {cs : List Int} : allL cs → 0 ≤ p27 cs ∧ (cs ≠ [] → 0 < p27 cs) := by
  induction cs using snoc_ind with
  | h0 => intro _; exact ⟨Int.le_refl _, fun h => absurd rfl h⟩
  | h1 cs c ih =>
    intro h
    obtain ⟨h1, h2, h3⟩ := allL_s.mp h
    have := (ih h1).1
    rw [p27_s]
    exact ⟨by omega, fun _ => by omega⟩
set_option maxRecDepth 16384 in
theorem p32_inj : ∀ (cs ds : List Int), allL cs → allL ds → p32 cs = p32 ds → cs = ds := by
  intro cs
  induction cs using snoc_ind with
  | h0 =>
    intro ds _ hd h
    rcases ds.eq_nil_or_concat with rfl | ⟨d, x, rfl⟩ <;> try rw [List.concat_eq_append] at *
    · rfl
    · have := (p32_pos hd).2 (by simp)
      have h0 : p32 [] = 0 := rfl
      omega
  | h1 cs c ih =>
    intro ds hc hd h
    rcases ds.eq_nil_or_concat with rfl | ⟨ds, d, rfl⟩ <;> try rw [List.concat_eq_append] at *
    · have := (p32_pos hc).2 (by simp)
      have h0 : p32 [] = 0 := rfl
      omega
    · obtain ⟨c1, c2, c3⟩ := allL_s.mp hc
      obtain ⟨d1, d2, d3⟩ := allL_s.mp hd
      rw [p32_s, p32_s] at h
      have e1 : p32 cs = p32 ds := by omega
      have e2 : c = d := by omega
      rw [ih ds c1 d1 e1, e2]
set_option maxRecDepth 16384 in
theorem p27_inj : ∀ (cs ds : List Int), allL cs → allL ds → p27 cs = p27 ds → cs = ds := by
  intro cs
  induction cs using snoc_ind with
  | h0 =>
    intro ds _ hd h
    rcases ds.eq_nil_or_concat with rfl | ⟨d, x, rfl⟩ <;> try rw [List.concat_eq_append] at *
    · rfl
    · have := (p27_pos hd).2 (by simp)
      have h0 : p27 [] = 0 := rfl
      omega
  | h1 cs c ih =>
    intro ds hc hd h
    rcases ds.eq_nil_or_concat with rfl | ⟨ds, d, rfl⟩ <;> try rw [List.concat_eq_append] at *
    · have := (p27_pos hc).2 (by simp)
      have h0 : p27 [] = 0 := rfl
      omega
    · obtain ⟨c1, c2, c3⟩ := allL_s.mp hc
      obtain ⟨d1, d2, d3⟩ := allL_s.mp hd
      rw [p27_s, p27_s] at h
      have e1 : p27 cs = p27 ds := by omega
      have e2 : c = d := by omega
      rw [ih ds c1 d1 e1, e2]
set_option maxRecDepth 16384 in
/-- bounds, for at most seven letters -/
theorem p32_lt {cs : List Int} : allL cs → p32 cs < 32 ^ cs.length := by
  induction cs using snoc_ind with
  | h0 => intro _; show (0 : Int) < 1; decide
  | h1 cs c ih =>
    intro h
    obtain ⟨h1, h2, h3⟩ := allL_s.mp h
    have := ih h1
    rw [p32_s, List.length_append, List.length_singleton, Int.pow_succ]
    omega
set_option maxRecDepth 16384 in
theorem p27_lt {cs : List Int} : allL cs → p27 cs < 27 ^ cs.length := by
  induction cs using snoc_ind with
  | h0 => intro _; show (0 : Int) < 1; decide
  | h1 cs c ih =>
    intro h
    obtain ⟨h1, h2, h3⟩ := allL_s.mp h
    have := ih h1
    rw [p27_s, List.length_append, List.length_singleton, Int.pow_succ]
    omega
set_option maxRecDepth 16384 in
theorem pow_le7 (b : Int) (hb : 1 ≤ b) : ∀ n : Nat, n ≤ 7 → b ^ n ≤ b ^ 7 := by
  intro n hn
  obtain ⟨k, hk⟩ : ∃ k, 7 = n + k := ⟨7 - n, by omega⟩
  rw [hk]
  clear hn hk
  induction k with
  | zero => exact Int.le_refl _
  | succ k ih =>
    rw [← Nat.add_assoc, Int.pow_succ]
    have h0 : 0 ≤ b ^ (n + k) := Int.pow_nonneg (by omega)
    have : b ^ (n + k) * 1 ≤ b ^ (n + k) * b := Int.mul_le_mul_of_nonneg_left hb h0
    omega
set_option maxRecDepth 16384 in
theorem p32_7 {cs : List Int} (h : allL cs) (hn : cs.length ≤ 7) : 0 ≤ p32 cs ∧ p32 cs < 34359738368 := by
  have h1 := p32_lt h
  have h2 := pow_le7 32 (by decide) _ hn
  have : (32 : Int) ^ 7 = 34359738368 := by decide
  exact ⟨(p32_pos h).1, by omega⟩
set_option maxRecDepth 16384 in
theorem p27_7 {cs : List Int} (h : allL cs) (hn : cs.length ≤ 7) : 0 ≤ p27 cs ∧ p27 cs < 10460353203 := by
  have h1 := p27_lt h
  have h2 := pow_le7 27 (by decide) _ hn
  have : (27 : Int) ^ 7 = 10460353203 := by decide
  exact ⟨(p27_pos h).1, by omega⟩
set_option maxRecDepth 16384 in
/-- a name in both spellings -/
def NRel (x y : Int) : Prop := ∃ cs, allL cs ∧ cs ≠ [] ∧ cs.length ≤ 7 ∧ x = p32 cs ∧ y = p27 cs
set_option maxRecDepth 16384 in
theorem NRel_iff {x y x' y' : Int} (h : NRel x y) (h' : NRel x' y') : x = x' ↔ y = y' := by
  obtain ⟨cs, c1, c2, c3, rfl, rfl⟩ := h
  obtain ⟨ds, d1, d2, d3, rfl, rfl⟩ := h'
  constructor
  · intro e; rw [p32_inj cs ds c1 d1 e]
  · intro e; rw [p27_inj cs ds c1 d1 e]
/-! a run's counts and numbers -/
set_option maxRecDepth 16384 in
def allD (cs : List Int) : Prop := ∀ c ∈ cs, isDg c
set_option maxRecDepth 16384 in
theorem allD_s {cs : List Int} {c : Int} : allD (cs ++ [c]) ↔ allD cs ∧ isDg c := by
  unfold allD
  constructor
  · intro h
    exact ⟨fun x hx => h x (List.mem_append_left _ hx), h c (List.mem_append_right _ List.mem_cons_self)⟩
  · intro h x hx
    rcases List.mem_append.mp hx with hx | hx
    · exact h.1 x hx
    · rw [List.mem_singleton.mp hx]; exact h.2
set_option maxRecDepth 16384 in
theorem p10_lt {cs : List Int} : allD cs → 0 ≤ p10 cs ∧ p10 cs < 10 ^ cs.length := by
  induction cs using snoc_ind with
  | h0 => intro _; exact ⟨by decide, by show (0 : Int) < 1; decide⟩
  | h1 cs c ih =>
    intro h
    obtain ⟨h1, h2, h3⟩ := allD_s.mp h
    have := ih h1
    rw [p10_s, List.length_append, List.length_singleton, Int.pow_succ]
    omega
set_option maxRecDepth 16384 in
theorem p10_3 {cs : List Int} (h : allD cs) (hn : cs.length ≤ 3) : 0 ≤ p10 cs ∧ p10 cs < 1000 := by
  have h1 := p10_lt h
  have : ∀ n : Nat, n ≤ 3 → (10 : Int) ^ n ≤ 1000 := by decide
  have := this _ hn
  omega
set_option maxRecDepth 16384 in
/-- what lies from a place on -/
def sg (t : Int → Int) (i : Int) (n : Nat) : List Int := (List.range n).map (fun (k : Nat) => t (i + (k : Int)))
set_option maxRecDepth 16384 in
theorem sg_s (t : Int → Int) (i : Int) (n : Nat) : sg t i (n + 1) = sg t i n ++ [t (i + n)] := by
  unfold sg
  rw [List.range_succ, List.map_append]
  rfl
set_option maxRecDepth 16384 in
theorem sg_len (t : Int → Int) (i : Int) (n : Nat) : (sg t i n).length = n := by
  unfold sg
  rw [List.length_map, List.length_range]
set_option maxRecDepth 16384 in
theorem sg_mem {t : Int → Int} {i : Int} {n : Nat} {c : Int} (h : c ∈ sg t i n) : ∃ k : Nat, k < n ∧ c = t (i + k) := by
  unfold sg at h
  obtain ⟨k, hk, rfl⟩ := List.mem_map.mp h
  exact ⟨k, List.mem_range.mp hk, rfl⟩
set_option maxRecDepth 16384 in
theorem sg_at {t : Int → Int} {i : Int} {n k : Nat} (h : k < n) : t (i + k) ∈ sg t i n := by
  unfold sg
  exact List.mem_map.mpr ⟨k, List.mem_range.mpr h, rfl⟩
set_option maxRecDepth 16384 in
theorem sg_congr {t u : Int → Int} {i : Int} {n : Nat} (h : ∀ k : Nat, k < n → t (i + k) = u (i + k)) : sg t i n = sg u i n := by
  unfold sg
  exact List.map_congr_left fun k hk => h k (List.mem_range.mp hk)
set_option maxRecDepth 16384 in
/-- counts of letters and digits -/
def cL (cs : List Int) : Nat := cs.countP (fun c => decide (97 ≤ c ∧ c ≤ 122))
set_option maxRecDepth 16384 in
def cD (cs : List Int) : Nat := cs.countP (fun c => decide (48 ≤ c ∧ c ≤ 57))
set_option maxRecDepth 16384 in
theorem cL_s (cs : List Int) (c : Int) : cL (cs ++ [c]) = cL cs + (if 97 ≤ c ∧ c ≤ 122 then 1 else 0) := by
  unfold cL
  rw [List.countP_append, List.countP_singleton]
  by_cases h : 97 ≤ c ∧ c ≤ 122
  · rw [if_pos h, if_pos (decide_eq_true h)]
  · rw [if_neg h, if_neg (by rw [decide_eq_false h]; decide)]
set_option maxRecDepth 16384 in
theorem cD_s (cs : List Int) (c : Int) : cD (cs ++ [c]) = cD cs + (if 48 ≤ c ∧ c ≤ 57 then 1 else 0) := by
  unfold cD
  rw [List.countP_append, List.countP_singleton]
  by_cases h : 48 ≤ c ∧ c ≤ 57
  · rw [if_pos h, if_pos (decide_eq_true h)]
  · rw [if_neg h, if_neg (by rw [decide_eq_false h]; decide)]
set_option maxRecDepth 16384 in
def anA (c : Int) : Prop := isLt c ∨ isDg c
set_option maxRecDepth 16384 in
theorem allL_c : ∀ cs : List Int, (∀ c ∈ cs, anA c) → cL cs + cD cs = cs.length ∧ (allL cs ↔ cD cs = 0) ∧ (allD cs ↔ cL cs = 0) := by
  intro cs
  induction cs using snoc_ind with
  | h0 => intro _; exact ⟨rfl, ⟨fun _ => rfl, fun _ c hc => by cases hc⟩, ⟨fun _ => rfl, fun _ c hc => by cases hc⟩⟩
  | h1 cs c ih =>
    intro h
    obtain ⟨i1, i2, i3⟩ := ih (fun x hx => h x (List.mem_append_left _ hx))
    have hc : anA c := h c (List.mem_append_right _ List.mem_cons_self)
    rw [cL_s, cD_s, List.length_append, List.length_singleton, allL_s, allD_s, i2, i3]
    unfold anA isLt isDg at hc
    unfold isLt isDg
    rcases hc with hc | hc
    · rw [if_pos hc, if_neg (by omega)]
      omega
    · rw [if_neg (by omega), if_pos hc]
      omega
end
section
/-! The class's tape read: a run of letters and digits. -/
set_option maxRecDepth 16384 in
theorem mu_s (m : MM) (a k v : Int) : mu m a k v a k = v := if_pos ⟨rfl, rfl⟩
set_option maxRecDepth 16384 in
theorem mu_k {m : MM} {a k v b j : Int} (h : j ≠ k) : mu m a k v b j = m b j := if_neg (fun q => h q.2)
set_option maxRecDepth 16384 in
theorem mu_a {m : MM} {a k v b j : Int} (h : b ≠ a) : mu m a k v b j = m b j := if_neg (fun q => h q.1)
set_option maxRecDepth 16384 in
/-- nothing changed but some places -/
def Fr (P : Int → Int → Prop) (m m' : MM) : Prop := ∀ a k, ¬ P a k → m' a k = m a k
set_option maxRecDepth 16384 in
theorem Fr.rf (P : Int → Int → Prop) (m : MM) : Fr P m m := fun _ _ _ => rfl
set_option maxRecDepth 16384 in
theorem Fr.tr {P : Int → Int → Prop} {m m1 m2 : MM} (h1 : Fr P m m1) (h2 : Fr P m1 m2) : Fr P m m2 := fun a k h => (h2 a k h).trans (h1 a k h)
set_option maxRecDepth 16384 in
theorem Fr.mo {P Q : Int → Int → Prop} {m m1 : MM} (h : Fr P m m1) (hq : ∀ a k, P a k → Q a k) : Fr Q m m1 := fun a k hn => h a k (fun p => hn (hq a k p))
set_option maxRecDepth 16384 in
theorem Fr.mu {P : Int → Int → Prop} {m m1 : MM} (h : Fr P m m1) {a k v : Int} (hp : P a k) : Fr P m (mu m1 a k v) := fun b j hn => by
  show (if b = a ∧ j = k then v else m1 b j) = m b j
  rw [if_neg]
  · exact h b j hn
  · rintro ⟨rfl, rfl⟩
    exact hn hp
set_option maxRecDepth 16384 in
theorem f154_i (m : MM) (c : Int) : f154 m c = 0 ↔ ¬ isLt c := by
  unfold f154 isLt
  split
  · constructor
    · intro _; omega
    · intro _; rfl
  · split
    · constructor
      · intro _; omega
      · intro _; rfl
    · constructor
      · intro h; exact absurd h (by decide)
      · intro h; omega
set_option maxRecDepth 16384 in
theorem f151_i (m : MM) (c : Int) : f151 m c = 0 ↔ ¬ isDg c := by
  unfold f151 isDg
  split
  · constructor
    · intro _; omega
    · intro _; rfl
  · split
    · constructor
      · intro _; omega
      · intro _; rfl
    · constructor
      · intro h; exact absurd h (by decide)
      · intro h; omega
set_option maxRecDepth 16384 in
/-- the class's tape holds t, so long -/
def TA (m : MM) (t : Int → Int) (L : Int) : Prop := m 1 0 = 2 ∧ m 1 1 = L ∧ 0 ≤ L ∧ L ≤ 940 ∧ m 2 (-1) = 940 ∧ ∀ j, 0 ≤ j → j < L → jand (m 2 j) 255 = t j
set_option maxRecDepth 16384 in
theorem TA_mu {m : MM} {t : Int → Int} {L k v : Int} (h : TA m t L) (h0 : k ≠ 0) (h1 : k ≠ 1) : TA (mu m 1 k v) t L := by
  obtain ⟨a1, a2, a3, a4, a5, a6⟩ := h
  refine ⟨by rw [mu_k (fun e => h0 e.symm)]; exact a1, by rw [mu_k (fun e => h1 e.symm)]; exact a2, a3, a4, by rw [mu_a (by decide)]; exact a5, fun j hj hl => by rw [mu_a (by decide)]; exact a6 j hj hl⟩
set_option maxRecDepth 16384 in
theorem TA_fr {P : Int → Int → Prop} {m m' : MM} {t : Int → Int} {L : Int} (h : TA m t L) (hf : Fr P m m') (h0 : ¬ P 1 0) (h1 : ¬ P 1 1) (h2 : ∀ j, ¬ P 2 j) : TA m' t L := by
  obtain ⟨a1, a2, a3, a4, a5, a6⟩ := h
  exact ⟨by rw [hf _ _ h0]; exact a1, by rw [hf _ _ h1]; exact a2, a3, a4, by rw [hf _ _ (h2 _)]; exact a5, fun j hj hl => by rw [hf _ _ (h2 _)]; exact a6 j hj hl⟩
set_option maxRecDepth 16384 in
theorem signAt_in {m : MM} {t : Int → Int} {L i : Int} (h : TA m t L) (h0 : 0 ≤ i) (h1 : i < L) : f159 m 1 i = t i := by
  obtain ⟨a1, a2, a3, a4, a5, a6⟩ := h
  unfold f159
  rw [if_neg (by omega), if_neg (by rw [a2]; omega), a1, a5]
  rw [if_neg]
  · exact a6 i h0 h1
  · rw [if_neg (by decide), s32_id (by decide) (by decide)]
    omega
set_option maxRecDepth 16384 in
theorem signAt_out {m : MM} {t : Int → Int} {L i : Int} (h : TA m t L) (h1 : L ≤ i) : f159 m 1 i = -1 := by
  obtain ⟨a1, a2, a3, a4, a5, a6⟩ := h
  unfold f159
  by_cases c : i < 0
  · rw [if_pos c]
  · rw [if_neg c, if_pos (by rw [a2]; omega)]
set_option maxRecDepth 16384 in
/-- the words' letters -/
def wls : List (List Int) := [[112, 101, 114, 115, 111, 110], [114, 101, 116, 105, 114, 101, 100], [103, 114, 117, 100, 103, 101], [115, 104, 121], [102, 111, 114, 109], [114, 117, 108, 101], [100, 114, 97, 119, 101, 114], [97, 110, 121], [115, 105, 103, 110, 115], [115, 111, 102, 116, 101, 110, 115], [114, 101, 115, 101, 110, 116, 115], [114, 101, 116, 105, 114, 101, 115], [114, 101, 116, 117, 114, 110, 115], [118, 111, 105, 100], [108, 111, 100, 103, 101], [100, 97, 121], [111, 114], [97, 110, 100], [110, 111, 116], [111, 112, 101, 110], [102, 105, 108, 101, 100], [103, 114, 97, 110, 116, 101, 100], [118, 111, 105, 100, 101, 100], [99, 108, 101, 97, 114], [97, 98, 111, 117, 116], [104, 117, 114, 116, 115], [115, 105, 103, 110, 101, 100], [112, 97, 114, 116, 115], [100, 97, 121, 115], [110, 117, 109, 98, 101, 114]]
set_option maxRecDepth 16384 in
def wl (i : Nat) : List Int := wls.getD i []
set_option maxRecDepth 16384 in
theorem wl_ok : ∀ i : Nat, i < 30 → allL (wl i) ∧ wl i ≠ [] ∧ (wl i).length ≤ 7 := by
  have h : wls.all (fun l => l.all (fun c => decide (97 ≤ c) && decide (c ≤ 122)) && (!l.isEmpty && Nat.ble l.length 7)) = true := by decide
  have hl : wls.length = 30 := rfl
  intro i hi
  have hm : wl i ∈ wls := by
    unfold wl
    rw [List.getD_eq_getElem?_getD, List.getElem?_eq_getElem (by omega)]
    exact List.getElem_mem _
  have h1 := List.all_eq_true.mp h _ hm
  simp only [Bool.and_eq_true, Bool.not_eq_true'] at h1
  obtain ⟨h2, h3, h4⟩ := h1
  refine ⟨fun c hc => ?_, (fun e => by rw [e] at h3; cases h3), Nat.le_of_ble_eq_true h4⟩
  have h5 := Bool.and_eq_true_iff.mp (List.all_eq_true.mp h2 c hc)
  exact ⟨of_decide_eq_true h5.1, of_decide_eq_true h5.2⟩
set_option maxRecDepth 16384 in
theorem wl_inj : ∀ i j : Nat, i < 30 → j < 30 → wl i = wl j → i = j := by
  have h : ∀ i : Fin 30, ∀ j : Fin 30, wl i.val = wl j.val → i = j := by decide +kernel
  intro i j hi hj e
  exact congrArg Fin.val (h ⟨i, hi⟩ ⟨j, hj⟩ e)
set_option maxRecDepth 16384 in
/-- what is known of the words outside -/
def XW (X : KO) : Prop := ∀ i : Nat, i < 30 → (X.2 (1000100 + i)).toInt = p32 (wl i)
set_option maxRecDepth 16384 in
/-- what a run's letters mean -/
def Mean (v : Int) (x : Int) : Prop := (∃ i : Nat, i < 30 ∧ v = 1000100 + (i : Int) ∧ x = p32 (wl i)) ∨ (v = -1 ∧ ∀ i : Nat, i < 30 → x ≠ p32 (wl i))
set_option maxRecDepth 16384 in
theorem A150 {X : KO} {ρ : Nat → Int32} {m m' : MM} {rl : List (Nat × Int)} (hX : XW X) (h8 : m 1 8 = -1) (h : Run X ρ 150 [(1, 1)] m rl m') : rl = [] ∧ Fr (fun a k => a = 1 ∧ k = 8) m m' ∧ Mean (m' 1 8) (m 1 7) := by
  have hrl := Run_v h rfl
  refine ⟨hrl, ?_⟩
  obtain ⟨N, ig, h⟩ := Run_CR h rfl
  have h : MR X ρ 2 0 0 qP150 N 0 [1, 0] [] m (ig, rl, m') := h
  have h := i150_0 h
  have key : ∀ (N : Nat) (m1 : MM) (i : Nat), MR X ρ 2 0 0 qP150 N 2 [1, (i : Int)] [] m1 (ig, rl, m') → i ≤ 30 → Fr (fun a k => a = 1 ∧ k = 8) m m1 → ((∃ j : Nat, j < i ∧ m1 1 8 = 1000100 + (j : Int) ∧ m 1 7 = p32 (wl j)) ∨ (m1 1 8 = -1 ∧ ∀ j : Nat, j < i → m 1 7 ≠ p32 (wl j))) → Fr (fun a k => a = 1 ∧ k = 8) m m' ∧ Mean (m' 1 8) (m 1 7) := by
    intro N
    induction N with
    | zero =>
      intro m1 i h hi hf hM
      rcases i150_2 h with ⟨c, h⟩ | ⟨c, h⟩
      · cases h
        have : i = 30 := by omega
        subst this
        exact ⟨hf, hM⟩
      · rcases h with ⟨c2, _⟩ | ⟨c2, h⟩
        · omega
        rcases h with ⟨_, N', e, _⟩ | ⟨_, N', e, _⟩ <;> cases e
    | succ N ih =>
      intro m1 i h hi hf hM
      rcases i150_2 h with ⟨c, h⟩ | ⟨c, h⟩
      · cases h
        have : i = 30 := by omega
        subst this
        exact ⟨hf, hM⟩
      · have e7 : m1 1 7 = m 1 7 := hf 1 7 (by omega)
        have ew : (X.2 (1000100 + (i : Int)).toNat).toInt = p32 (wl i) := by
          rw [← hX i (by omega)]
          congr 2
        have en : s32 ((i : Int) + 1) = ((i + 1 : Nat) : Int) := by rw [s32_id (by omega) (by omega)]; rfl
        rcases h with ⟨c2, _⟩ | ⟨c2, h⟩
        · omega
        rw [ew, e7, en] at h
        rcases h with ⟨c3, N', e, h⟩ | ⟨c3, N', e, h⟩
        · cases e
          have e1 : p32 (wl i) = m 1 7 := by
            by_cases d1 : m 1 7 < p32 (wl i)
            · rw [if_pos d1] at c3; cases c3
            · rw [if_neg d1] at c3
              by_cases d2 : p32 (wl i) = m 1 7
              · exact d2
              · rw [if_neg d2] at c3; cases c3
          refine ih _ (i + 1) h (by omega) (hf.mu ⟨rfl, rfl⟩) (Or.inl ⟨i, by omega, mu_s _ _ _ _, e1.symm⟩)
        · cases e
          have e1 : m 1 7 ≠ p32 (wl i) := by
            intro d
            rw [if_neg (by omega), if_pos d.symm] at c3
            exact c3 rfl
          refine ih _ (i + 1) h (by omega) hf ?_
          rcases hM with ⟨j, j1, j2, j3⟩ | ⟨j1, j2⟩
          · exact Or.inl ⟨j, by omega, j2, j3⟩
          · refine Or.inr ⟨j1, fun j hj => ?_⟩
            by_cases d : j = i
            · rw [d]; exact e1
            · exact j2 j (by omega)
  exact key N m 0 h (by omega) (Fr.rf _ _) (Or.inr ⟨h8, fun j hj => absurd hj (by omega)⟩)
end
section
/-! The class's tape read: a run, a token. -/
set_option maxRecDepth 16384 in
/-- where a run of letters and digits ends -/
def REnd (t : Int → Int) (L s : Int) (n : Nat) : Prop := s + n ≤ L ∧ (∀ k : Nat, k < n → anA (t (s + k))) ∧ (s + n < L → ¬ anA (t (s + n)))
set_option maxRecDepth 16384 in
theorem REnd_u {t : Int → Int} {L s : Int} {n m : Nat} (h : REnd t L s n) (h' : REnd t L s m) : n = m := by
  obtain ⟨h1, h2, h3⟩ := h
  obtain ⟨g1, g2, g3⟩ := h'
  rcases Nat.lt_trichotomy n m with c | c | c
  · exact absurd (g2 n c) (h3 (by omega))
  · exact c
  · exact absurd (h2 m c) (g3 (by omega))
set_option maxRecDepth 16384 in
theorem mem_sg {t : Int → Int} {s : Int} {n : Nat} (h : ∀ k : Nat, k < n → anA (t (s + k))) : ∀ c ∈ sg t s n, anA c := fun c hc => by
  obtain ⟨k, hk, rfl⟩ := sg_mem hc
  exact h k hk
set_option maxRecDepth 16384 in
def P157 (a k : Int) : Prop := a = 1 ∧ (k = 3 ∨ k = 4 ∨ k = 6 ∨ k = 7 ∨ k = 8)
set_option maxRecDepth 16384 in
theorem A157_loop {X : KO} {ρ : Nat → Int32} {t : Int → Int} {L s : Int} {m0 : MM} {o : Instr × List (Nat × Int) × MM} (hL : L ≤ 940) (hs : 0 ≤ s) : ∀ (N : Nat) (m : MM) (b1 b2 b3 : Int) (n : Nat), MR X ρ 4 0 0 qP157 N 23 [1, b1, b2, b3] [] m o → TA m t L → Fr P157 m0 m → m 1 3 = s + n → s + n ≤ L → b1 = (cL (sg t s n) : Int) → b2 = (cD (sg t s n) : Int) → b3 = f159 m 1 (s + n) → (∀ k : Nat, k < n → anA (t (s + k))) → (n ≤ 7 → allL (sg t s n) → m 1 7 = p32 (sg t s n)) → (n ≤ 3 → allD (sg t s n) → m 1 6 = p10 (sg t s n)) → ∃ (N2 : Nat) (m2 : MM) (n2 : Nat) (b3 : Int), MR X ρ 4 0 0 qP157 N2 122 [1, (cL (sg t s n2) : Int), (cD (sg t s n2) : Int), b3] [] m2 o ∧ TA m2 t L ∧ Fr P157 m0 m2 ∧ m2 1 3 = s + n2 ∧ m2 1 8 = m 1 8 ∧ REnd t L s n2 ∧ (n2 ≤ 7 → allL (sg t s n2) → m2 1 7 = p32 (sg t s n2)) ∧ (n2 ≤ 3 → allD (sg t s n2) → m2 1 6 = p10 (sg t s n2)) := by
  intro N
  induction N with
  | zero =>
    intro m b1 b2 b3 n h hT hF h3 hn e1 e2 e3 ha h7 h6
    subst e1; subst e2
    have hend : ∀ (hq : s + n < L → ¬ anA (t (s + n))), MR X ρ 4 0 0 qP157 0 122 [1, (cL (sg t s n) : Int), (cD (sg t s n) : Int), b3] [] m o → ∃ (N2 : Nat) (m2 : MM) (n2 : Nat) (b3 : Int), MR X ρ 4 0 0 qP157 N2 122 [1, (cL (sg t s n2) : Int), (cD (sg t s n2) : Int), b3] [] m2 o ∧ TA m2 t L ∧ Fr P157 m0 m2 ∧ m2 1 3 = s + n2 ∧ m2 1 8 = m 1 8 ∧ REnd t L s n2 ∧ (n2 ≤ 7 → allL (sg t s n2) → m2 1 7 = p32 (sg t s n2)) ∧ (n2 ≤ 3 → allD (sg t s n2) → m2 1 6 = p10 (sg t s n2)) := fun hq h => ⟨0, m, n, b3, h, hT, hF, h3, rfl, ⟨hn, ha, hq⟩, h7, h6⟩
    have hgo : MR X ρ 4 0 0 qP157 0 48 [1, (cL (sg t s n) : Int), (cD (sg t s n) : Int), b3] [] m o → False := fun h => by
      rcases i157_48 h with ⟨_, h⟩ | ⟨_, h⟩
      · obtain ⟨N', e, _⟩ := i157_100 h; cases e
      · obtain ⟨N', e, _⟩ := i157_100 h; cases e
    rcases i157_23 h with ⟨c, h⟩ | ⟨c, h⟩
    · exact hend (fun q => by rw [hT.2.1, h3] at c; omega) h
    · rw [hT.2.1, h3] at c
      have e4 : b3 = t (s + n) := by rw [e3]; exact signAt_in hT (by omega) (by omega)
      rcases h with ⟨c2, h⟩ | ⟨c2, h⟩
      · rcases h with ⟨c3, h⟩ | ⟨c3, h⟩
        · refine hend (fun q hq => ?_) h
          rw [f154_i] at c2; rw [f151_i] at c3
          rw [e4] at c2 c3
          rcases hq with hq | hq
          · exact c2 hq
          · exact c3 hq
        · exact (hgo h).elim
      · exact (hgo h).elim
  | succ N ih =>
    intro m b1 b2 b3 n h hT hF h3 hn e1 e2 e3 ha h7 h6
    subst e1; subst e2
    have hend : ∀ (hq : s + n < L → ¬ anA (t (s + n))), MR X ρ 4 0 0 qP157 (N + 1) 122 [1, (cL (sg t s n) : Int), (cD (sg t s n) : Int), b3] [] m o → ∃ (N2 : Nat) (m2 : MM) (n2 : Nat) (b3 : Int), MR X ρ 4 0 0 qP157 N2 122 [1, (cL (sg t s n2) : Int), (cD (sg t s n2) : Int), b3] [] m2 o ∧ TA m2 t L ∧ Fr P157 m0 m2 ∧ m2 1 3 = s + n2 ∧ m2 1 8 = m 1 8 ∧ REnd t L s n2 ∧ (n2 ≤ 7 → allL (sg t s n2) → m2 1 7 = p32 (sg t s n2)) ∧ (n2 ≤ 3 → allD (sg t s n2) → m2 1 6 = p10 (sg t s n2)) := fun hq h => ⟨N + 1, m, n, b3, h, hT, hF, h3, rfl, ⟨hn, ha, hq⟩, h7, h6⟩
    have hlen : (sg t s n).length = n := sg_len t s n
    have hcnt := allL_c (sg t s n) (mem_sg ha)
    have hgo : s + n < L → b3 = t (s + n) → anA (t (s + n)) → MR X ρ 4 0 0 qP157 (N + 1) 48 [1, (cL (sg t s n) : Int), (cD (sg t s n) : Int), b3] [] m o → ∃ (N2 : Nat) (m2 : MM) (n2 : Nat) (b3 : Int), MR X ρ 4 0 0 qP157 N2 122 [1, (cL (sg t s n2) : Int), (cD (sg t s n2) : Int), b3] [] m2 o ∧ TA m2 t L ∧ Fr P157 m0 m2 ∧ m2 1 3 = s + n2 ∧ m2 1 8 = m 1 8 ∧ REnd t L s n2 ∧ (n2 ≤ 7 → allL (sg t s n2) → m2 1 7 = p32 (sg t s n2)) ∧ (n2 ≤ 3 → allD (sg t s n2) → m2 1 6 = p10 (sg t s n2)) := fun hlt e4 hc h => by
      have ha' : ∀ k : Nat, k < n + 1 → anA (t (s + k)) := fun k hk => by
        by_cases d : k = n
        · rw [d]; exact hc
        · exact ha k (by omega)
      have en : s + ((n + 1 : Nat) : Int) = s + (n : Int) + 1 := by omega
      rcases i157_48 h with ⟨c4, h⟩ | ⟨c4, h⟩
      · obtain ⟨N', e, h⟩ := i157_100 h
        cases e
        rw [f151_i, e4] at c4
        have hl : isLt (t (s + n)) := hc.resolve_right c4
        have hd0 : ¬ (48 ≤ t (s + n) ∧ t (s + n) ≤ 57) := c4
        have hl0 : 97 ≤ t (s + n) ∧ t (s + n) ≤ 122 := hl
        have k3 : (mu m 1 7 (s64 ((s64 ((m 1 7) * 32)) + (s32 ((s32 (b3 - 97)) + 1))))) 1 3 = s + n := by rw [mu_k (by decide)]; exact h3
        rw [k3, s32_id (z := s + n + 1) (by omega) (by omega), mu_s, ← en, s32_id (z := ((cL (sg t s n) : Nat) : Int) + 1) (by omega) (by omega)] at h
        refine (ih _ _ _ _ (n + 1) h (TA_mu (TA_mu hT (by decide) (by decide)) (by decide) (by decide)) ((hF.mu ⟨rfl, by omega⟩).mu ⟨rfl, by omega⟩) (mu_s _ _ _ _) (by omega) ?_ ?_ rfl ha' ?_ ?_).imp fun N2 q => q.imp fun m2 q => q.imp fun n2 q => q.imp fun b q => ⟨q.1, q.2.1, q.2.2.1, q.2.2.2.1, ?_, q.2.2.2.2.2⟩
        · rw [sg_s, cL_s, if_pos hl0]; rfl
        · rw [sg_s, cD_s, if_neg hd0]; rfl
        · intro hn7 hA
          rw [sg_s] at hA ⊢
          obtain ⟨A1, A2⟩ := allL_s.mp hA
          have e7 := h7 (by omega) A1
          have b7 := p32_7 A1 (by rw [hlen]; omega)
          rw [mu_k (by decide), mu_s, e7, e4, p32_s, s32_id (z := t (s + n) - 97) (by omega) (by omega), s32_id (z := t (s + n) - 97 + 1) (by omega) (by omega), s64_id (z := p32 (sg t s n) * 32) (by omega) (by omega), s64_id (by omega) (by omega)]
          omega
        · intro hn3 hA
          rw [sg_s] at hA
          exact absurd (allD_s.mp hA).2 c4
        · rw [q.2.2.2.2.1, mu_k (by decide), mu_k (by decide)]
      · obtain ⟨N', e, h⟩ := i157_100 h
        cases e
        rw [f151_i, e4] at c4
        have hd : isDg (t (s + n)) := Classical.not_not.mp c4
        have hd0 : 48 ≤ t (s + n) ∧ t (s + n) ≤ 57 := hd
        have hl0 : ¬ (97 ≤ t (s + n) ∧ t (s + n) ≤ 122) := by omega
        have k3 : (mu m 1 6 (s32 ((s32 ((m 1 6) * 10)) + (s32 (b3 - 48))))) 1 3 = s + n := by rw [mu_k (by decide)]; exact h3
        rw [k3, s32_id (z := s + n + 1) (by omega) (by omega), mu_s, ← en, s32_id (z := ((cD (sg t s n) : Nat) : Int) + 1) (by omega) (by omega)] at h
        refine (ih _ _ _ _ (n + 1) h (TA_mu (TA_mu hT (by decide) (by decide)) (by decide) (by decide)) ((hF.mu ⟨rfl, by omega⟩).mu ⟨rfl, by omega⟩) (mu_s _ _ _ _) (by omega) ?_ ?_ rfl ha' ?_ ?_).imp fun N2 q => q.imp fun m2 q => q.imp fun n2 q => q.imp fun b q => ⟨q.1, q.2.1, q.2.2.1, q.2.2.2.1, ?_, q.2.2.2.2.2⟩
        · rw [sg_s, cL_s, if_neg hl0]; rfl
        · rw [sg_s, cD_s, if_pos hd0]; rfl
        · intro hn7 hA
          rw [sg_s] at hA
          exact absurd (allL_s.mp hA).2 hl0
        · intro hn3 hA
          rw [sg_s] at hA ⊢
          obtain ⟨A1, A2⟩ := allD_s.mp hA
          have e6 := h6 (by omega) A1
          have b6 := p10_3 A1 (by rw [hlen]; omega)
          rw [mu_k (by decide), mu_s, e6, e4, p10_s, s32_id (z := t (s + n) - 48) (by omega) (by omega), s32_id (z := p10 (sg t s n) * 10) (by omega) (by omega), s32_id (by omega) (by omega)]
        · rw [q.2.2.2.2.1, mu_k (by decide), mu_k (by decide)]
    rcases i157_23 h with ⟨c, h⟩ | ⟨c, h⟩
    · exact hend (fun q => by rw [hT.2.1, h3] at c; omega) h
    · rw [hT.2.1, h3] at c
      have e4 : b3 = t (s + n) := by rw [e3]; exact signAt_in hT (by omega) (by omega)
      rcases h with ⟨c2, h⟩ | ⟨c2, h⟩
      · rw [f154_i, e4] at c2
        rcases h with ⟨c3, h⟩ | ⟨c3, h⟩
        · rw [f151_i, e4] at c3
          refine hend (fun q hq => ?_) h
          rcases hq with hq | hq
          · exact c2 hq
          · exact c3 hq
        · rw [f151_i, e4] at c3
          exact hgo (by omega) e4 (Or.inr (Classical.not_not.mp c3)) h
      · rw [f154_i, e4] at c2
        exact hgo (by omega) e4 (Or.inl (Classical.not_not.mp c2)) h
set_option maxRecDepth 16384 in
/-- what a run is, by what it has -/
def RunK (X : KO) (m' : MM) (cs : List Int) : Prop := (allL cs ∧ cs.length ≤ 7 ∧ m' 1 4 = 1 ∧ m' 1 7 = p32 cs ∧ Mean (m' 1 8) (p32 cs)) ∨ (allD cs ∧ cs ≠ [] ∧ cs.length ≤ 3 ∧ m' 1 4 = 2 ∧ m' 1 6 = p10 cs) ∨ (¬ (allL cs ∧ cs.length ≤ 7) ∧ ¬ (allD cs ∧ cs.length ≤ 3) ∧ m' 1 4 = 4)
set_option maxRecDepth 16384 in
theorem A157 {X : KO} {ρ : Nat → Int32} {t : Int → Int} {L s : Int} {m m' : MM} {rl : List (Nat × Int)} (hX : XW X) (h8 : m 1 8 = -1) (hT : TA m t L) (h3 : m 1 3 = s) (hs : 0 ≤ s) (hsL : s < L) (hc : anA (t s)) (h : Run X ρ 157 [(1, 1)] m rl m') : rl = [] ∧ Fr P157 m m' ∧ ∃ n : Nat, 0 < n ∧ m' 1 3 = s + n ∧ REnd t L s n ∧ RunK X m' (sg t s n) := by
  refine ⟨Run_v h rfl, ?_⟩
  obtain ⟨N, ig, h⟩ := Run_CR h rfl
  have h : MR X ρ 4 0 0 qP157 N 0 [1, 0, 0, 0] [] m (ig, rl, m') := h
  have h := i157_0 h
  have hT0 : TA (mu (mu m 1 7 0) 1 6 0) t L := TA_mu (TA_mu hT (by decide) (by decide)) (by decide) (by decide)
  have k3 : (mu (mu m 1 7 0) 1 6 0) 1 3 = s := by rw [mu_k (by decide), mu_k (by decide)]; exact h3
  have hL := hT.2.2.2.1
  obtain ⟨N2, m2, n, b3, h, hT2, hF, g3, g8, hR, g7, g6⟩ := A157_loop (m0 := m) (t := t) (L := L) (s := s) hL hs N _ _ _ _ 0 h hT0 (((Fr.rf _ _).mu ⟨rfl, by omega⟩).mu ⟨rfl, by omega⟩) (by rw [k3]; omega) (by omega) rfl rfl (by rw [k3]; congr 1; omega) (fun k hk => absurd hk (by omega)) (fun _ _ => by rw [mu_k (by decide), mu_s]; rfl) (fun _ _ => by rw [mu_s]; rfl)
  rw [mu_k (by decide), mu_k (by decide), h8] at g8
  have hn : 0 < n := by
    rcases Nat.eq_zero_or_pos n with e | e
    · subst e
      have := hR.2.2 (by omega)
      rw [show s + ((0 : Nat) : Int) = s by omega] at this
      exact absurd hc this
    · exact e
  have hlen : (sg t s n).length = n := sg_len t s n
  have hne : sg t s n ≠ [] := fun e => by rw [e] at hlen; simp at hlen; omega
  obtain ⟨q1, q2, q3⟩ := allL_c (sg t s n) (mem_sg hR.2.1)
  have h144 : ¬ (allL (sg t s n) ∧ (sg t s n).length ≤ 7) → MR X ρ 4 0 0 qP157 N2 144 [1, (cL (sg t s n) : Int), (cD (sg t s n) : Int), b3] [] m2 (ig, rl, m') → Fr P157 m m' ∧ ∃ n : Nat, 0 < n ∧ m' 1 3 = s + n ∧ REnd t L s n ∧ RunK X m' (sg t s n) := fun hno h => by
    rcases i157_144 h with ⟨c, h⟩ | ⟨c, h⟩
    · have hA : allD (sg t s n) := q3.mpr (by omega)
      rcases h with ⟨c2, h⟩ | ⟨c2, h⟩
      · cases h
        refine ⟨hF.mu ⟨rfl, by omega⟩, n, hn, by rw [mu_k (by decide)]; exact g3, hR, Or.inr (Or.inr ⟨hno, fun q => ?_, mu_s _ _ _ _⟩)⟩
        have := q.2
        omega
      · cases h
        refine ⟨hF.mu ⟨rfl, by omega⟩, n, hn, by rw [mu_k (by decide)]; exact g3, hR, Or.inr (Or.inl ⟨hA, hne, by omega, mu_s _ _ _ _, ?_⟩)⟩
        rw [mu_k (by decide)]
        exact g6 (by omega) hA
    · cases h
      refine ⟨hF.mu ⟨rfl, by omega⟩, n, hn, by rw [mu_k (by decide)]; exact g3, hR, Or.inr (Or.inr ⟨hno, fun q => ?_, mu_s _ _ _ _⟩)⟩
      have := q3.mp q.1
      omega
  rcases i157_122 h with ⟨c, h⟩ | ⟨c, h⟩
  · have hA : allL (sg t s n) := q2.mpr (by omega)
    rcases h with ⟨c2, h⟩ | ⟨c2, h⟩
    · exact h144 (fun q => by have := q.2; omega) h
    · obtain ⟨m4, hr, h⟩ := h
      cases h
      obtain ⟨-, f1, f2⟩ := A150 hX (by rw [mu_k (by decide)]; exact g8) hr
      have e7 := g7 (by omega) hA
      rw [mu_k (by decide), e7] at f2
      refine ⟨(hF.mu ⟨rfl, by omega⟩).tr (f1.mo (fun a k q => ⟨q.1, by omega⟩)), n, hn, ?_, hR, Or.inl ⟨hA, by omega, ?_, ?_, f2⟩⟩
      · rw [f1 1 3 (by omega), mu_k (by decide)]; exact g3
      · rw [f1 1 4 (by omega), mu_s]
      · rw [f1 1 7 (by omega), mu_k (by decide)]; exact e7
  · exact h144 (fun q => c (by have := q2.mp q.1; omega)) h
/-! the next token -/
set_option maxRecDepth 16384 in
def isWs (c : Int) : Prop := c = 32 ∨ c = 10
set_option maxRecDepth 16384 in
def isMk (c : Int) : Prop := c = 59 ∨ c = 60 ∨ c = 61 ∨ c = 62 ∨ c = 40 ∨ c = 41
set_option maxRecDepth 16384 in
/-- where the white ends -/
def SEnd (t : Int → Int) (L i j : Int) : Prop := i ≤ j ∧ j ≤ L ∧ (∀ k, i ≤ k → k < j → isWs (t k)) ∧ (j < L → ¬ isWs (t j))
set_option maxRecDepth 16384 in
theorem SEnd_u {t : Int → Int} {L i j j' : Int} (h : SEnd t L i j) (h' : SEnd t L i j') : j = j' := by
  obtain ⟨h1, h2, h3, h4⟩ := h
  obtain ⟨g1, g2, g3, g4⟩ := h'
  rcases Int.lt_trichotomy j j' with c | c | c
  · exact absurd (g3 j h1 c) (h4 (by omega))
  · exact c
  · exact absurd (h3 j' g1 c) (g4 (by omega))
set_option maxRecDepth 16384 in
def P148 (a k : Int) : Prop := a = 1 ∧ 3 ≤ k ∧ k ≤ 8
set_option maxRecDepth 16384 in
theorem A148_loop {X : KO} {ρ : Nat → Int32} {t : Int → Int} {L i : Int} {m0 : MM} {o : Instr × List (Nat × Int) × MM} (hL : L ≤ 940) (hi : 0 ≤ i) : ∀ (N : Nat) (m : MM) (b1 b2 j : Int), MR X ρ 3 0 0 qP148 N 9 [1, b1, b2] [] m o → TA m t L → Fr P148 m0 m → m 1 3 = j → i ≤ j → j ≤ L → b1 = f159 m 1 j → (∀ k, i ≤ k → k < j → isWs (t k)) → ∃ (N2 : Nat) (m2 : MM) (j2 : Int), MR X ρ 3 0 0 qP148 N2 54 [1, f159 m2 1 j2, b2] [] m2 o ∧ TA m2 t L ∧ Fr P148 m0 m2 ∧ m2 1 3 = j2 ∧ SEnd t L i j2 := by
  intro N
  induction N with
  | zero =>
    intro m b1 b2 j h hT hF h3 hj hjL e1 hw
    subst e1
    rcases i148_9 h with ⟨c, h⟩ | ⟨c, h⟩
    · exact ⟨0, m, j, h, hT, hF, h3, hj, hjL, hw, fun q => by rw [hT.2.1, h3] at c; omega⟩
    · rw [hT.2.1, h3] at c
      have e4 : f159 m 1 j = t j := signAt_in hT (by omega) (by omega)
      rcases h with ⟨c2, N', e, _⟩ | ⟨c2, h⟩
      · cases e
      · rcases h with ⟨c3, N', e, _⟩ | ⟨c3, h⟩
        · cases e
        · exact ⟨0, m, j, h, hT, hF, h3, hj, hjL, hw, fun q hq => by
            rw [e4] at c2 c3
            rcases hq with hq | hq
            · exact c2 hq
            · exact c3 hq⟩
  | succ N ih =>
    intro m b1 b2 j h hT hF h3 hj hjL e1 hw
    subst e1
    have hgo : j < L → isWs (t j) → MR X ρ 3 0 0 qP148 N 9 [1, f159 (mu m 1 3 (s32 ((m 1 3) + 1))) 1 ((mu m 1 3 (s32 ((m 1 3) + 1))) 1 3), b2] [] (mu m 1 3 (s32 ((m 1 3) + 1))) o → ∃ (N2 : Nat) (m2 : MM) (j2 : Int), MR X ρ 3 0 0 qP148 N2 54 [1, f159 m2 1 j2, b2] [] m2 o ∧ TA m2 t L ∧ Fr P148 m0 m2 ∧ m2 1 3 = j2 ∧ SEnd t L i j2 := fun hlt hc h => by
      rw [h3, s32_id (z := j + 1) (by omega) (by omega), mu_s] at h
      refine ih _ _ _ (j + 1) h (TA_mu hT (by decide) (by decide)) (hF.mu ⟨rfl, by omega⟩) (mu_s _ _ _ _) (by omega) (by omega) rfl (fun k k1 k2 => ?_)
      by_cases d : k = j
      · rw [d]; exact hc
      · exact hw k k1 (by omega)
    rcases i148_9 h with ⟨c, h⟩ | ⟨c, h⟩
    · exact ⟨N + 1, m, j, h, hT, hF, h3, hj, hjL, hw, fun q => by rw [hT.2.1, h3] at c; omega⟩
    · rw [hT.2.1, h3] at c
      have e4 : f159 m 1 j = t j := signAt_in hT (by omega) (by omega)
      rcases h with ⟨c2, N', e, h⟩ | ⟨c2, h⟩
      · cases e
        exact hgo (by omega) (Or.inl (by rw [← e4]; exact c2)) h
      · rcases h with ⟨c3, N', e, h⟩ | ⟨c3, h⟩
        · cases e
          exact hgo (by omega) (Or.inr (by rw [← e4]; exact c3)) h
        · exact ⟨N + 1, m, j, h, hT, hF, h3, hj, hjL, hw, fun q hq => by
            rw [e4] at c2 c3
            rcases hq with hq | hq
            · exact c2 hq
            · exact c3 hq⟩
set_option maxRecDepth 16384 in
/-- the token at a place: what the class's tape says of it -/
def TokA (X : KO) (m : MM) (t : Int → Int) (L most j : Int) : Prop :=
  (most < L ∧ most ≤ j ∧ m 1 4 = 4 ∧ m 1 5 = most ∧ m 1 3 = j) ∨
  (¬ (most < L ∧ most ≤ j) ∧ j = L ∧ m 1 4 = 0 ∧ m 1 5 = j ∧ m 1 3 = j) ∨
  (¬ (most < L ∧ most ≤ j) ∧ j < L ∧ anA (t j) ∧ m 1 5 = j ∧ ∃ n : Nat, 0 < n ∧ m 1 3 = j + n ∧ REnd t L j n ∧ RunK X m (sg t j n)) ∨
  (¬ (most < L ∧ most ≤ j) ∧ j < L ∧ ¬ anA (t j) ∧ isMk (t j) ∧ m 1 4 = 3 ∧ m 1 6 = t j ∧ m 1 5 = j ∧ m 1 3 = j + 1) ∨
  (¬ (most < L ∧ most ≤ j) ∧ j < L ∧ ¬ anA (t j) ∧ ¬ isMk (t j) ∧ m 1 4 = 4 ∧ m 1 5 = j ∧ m 1 3 = j + 1)
set_option maxRecDepth 16384 in
theorem A148 {X : KO} {ρ : Nat → Int32} {t : Int → Int} {L i most : Int} {m m' : MM} {rl : List (Nat × Int)} (hX : XW X) (hT : TA m t L) (h3 : m 1 3 = i) (hm : m 1 2 = most) (hi : 0 ≤ i) (hiL : i ≤ L) (h : Run X ρ 148 [(1, 1)] m rl m') : rl = [] ∧ Fr P148 m m' ∧ ∃ j, SEnd t L i j ∧ TokA X m' t L most j := by
  refine ⟨Run_v h rfl, ?_⟩
  obtain ⟨N, ig, h⟩ := Run_CR h rfl
  have h : MR X ρ 3 0 0 qP148 N 0 [1, 0, 0] [] m (ig, rl, m') := h
  have h := i148_0 h
  rw [h3] at h
  have hL := hT.2.2.2.1
  obtain ⟨N2, m2, j, h, hT2, hF, g3, hS⟩ := A148_loop (m0 := m) (t := t) (L := L) (i := i) hL hi N m _ 0 i h hT (Fr.rf _ _) h3 (Int.le_refl _) hiL rfl (fun k k1 k2 => by omega)
  have gm : m2 1 2 = most := by rw [hF 1 2 (by unfold P148; omega)]; exact hm
  obtain ⟨s1, s2, s3, s4⟩ := hS
  have hF1 : Fr P148 m (mu (mu m2 1 5 (m2 1 3)) 1 8 (-1)) := (hF.mu ⟨rfl, by omega, by omega⟩).mu ⟨rfl, by omega, by omega⟩
  have hT1 : TA (mu (mu m2 1 5 (m2 1 3)) 1 8 (-1)) t L := TA_mu (TA_mu hT2 (by decide) (by decide)) (by decide) (by decide)
  have k1 : (mu (mu m2 1 5 (m2 1 3)) 1 8 (-1)) 1 1 = L := hT1.2.1
  have k2 : (mu (mu m2 1 5 (m2 1 3)) 1 8 (-1)) 1 2 = most := by rw [mu_k (by decide), mu_k (by decide)]; exact gm
  have k3 : (mu (mu m2 1 5 (m2 1 3)) 1 8 (-1)) 1 3 = j := by rw [mu_k (by decide), mu_k (by decide)]; exact g3
  have k5 : (mu (mu m2 1 5 (m2 1 3)) 1 8 (-1)) 1 5 = j := by rw [mu_k (by decide), mu_s]; exact g3
  have k8 : (mu (mu m2 1 5 (m2 1 3)) 1 8 (-1)) 1 8 = -1 := mu_s _ _ _ _
  have h54 := i148_54 h
  generalize (mu (mu m2 1 5 (m2 1 3)) 1 8 (-1)) = m1 at *
  rw [k1, k2, k3] at h54
  have h124 : ¬ (most < L ∧ most ≤ j) → j < L → MR X ρ 3 0 0 qP148 N2 124 [1, f159 m2 1 j, 0] [] m1 (ig, rl, m') → Fr P148 m m' ∧ ∃ j, SEnd t L i j ∧ TokA X m' t L most j := fun hmo hj h => by
    have e4 : f159 m2 1 j = t j := signAt_in hT2 (by omega) hj
    rw [e4] at h
    have hrun : anA (t j) → ∀ mr, Run X ρ 157 [(1, 1)] m1 [] mr → m' = mr → Fr P148 m m' ∧ ∃ j, SEnd t L i j ∧ TokA X m' t L most j := fun hc mr hr e => by
      subst e
      obtain ⟨-, f1, n, n0, n1, n2, n3⟩ := A157 hX k8 hT1 k3 (by omega) hj hc hr
      refine ⟨hF1.tr (f1.mo (fun a k q => ⟨q.1, by have := q.2; omega, by have := q.2; omega⟩)), j, ⟨s1, s2, s3, s4⟩, Or.inr (Or.inr (Or.inl ⟨hmo, hj, hc, ?_, n, n0, n1, n2, n3⟩))⟩
      rw [f1 1 5 (by unfold P157; omega)]; exact k5
    rcases i148_124 h with ⟨c, h⟩ | ⟨c, h⟩
    · rw [f154_i] at c
      rcases h with ⟨c2, h⟩ | ⟨c2, mr, hr, h⟩
      · rw [f151_i] at c2
        have hna : ¬ anA (t j) := fun q => q.elim c c2
        have hmk : isMk (t j) → MR X ρ 3 0 0 qP148 N2 187 [1, t j, 1] [] m1 (ig, rl, m') → Fr P148 m m' ∧ ∃ j, SEnd t L i j ∧ TokA X m' t L most j := fun hk h => by
          rcases i148_187 h with ⟨c, h⟩ | ⟨c, h⟩
          · exact absurd c (by decide)
          · cases h
            refine ⟨((hF1.mu ⟨rfl, by omega, by omega⟩).mu ⟨rfl, by omega, by omega⟩).mu ⟨rfl, by omega, by omega⟩, j, ⟨s1, s2, s3, s4⟩, Or.inr (Or.inr (Or.inr (Or.inl ⟨hmo, hj, hna, hk, ?_, ?_, ?_, ?_⟩)))⟩
            · rw [mu_k (by decide), mu_k (by decide), mu_s]
            · rw [mu_k (by decide), mu_s]
            · rw [mu_k (by decide), mu_k (by decide), mu_k (by decide)]; exact k5
            · rw [mu_s, mu_k (by decide), mu_k (by decide), k3, s32_id (by omega) (by omega)]
        rcases i148_145 h with ⟨d, h⟩ | ⟨d1, h⟩
        · exact hmk (by unfold isMk; omega) h
        rcases h with ⟨d, h⟩ | ⟨d2, h⟩
        · exact hmk (by unfold isMk; omega) h
        rcases h with ⟨d, h⟩ | ⟨d3, h⟩
        · exact hmk (by unfold isMk; omega) h
        rcases h with ⟨d, h⟩ | ⟨d4, h⟩
        · exact hmk (by unfold isMk; omega) h
        rcases h with ⟨d, h⟩ | ⟨d5, h⟩
        · exact hmk (by unfold isMk; omega) h
        rcases h with ⟨d, h⟩ | ⟨d6, h⟩
        · exact hmk (by unfold isMk; omega) h
        rcases i148_187 h with ⟨c, h⟩ | ⟨c, h⟩
        · cases h
          refine ⟨((hF1.mu ⟨rfl, by omega, by omega⟩).mu ⟨rfl, by omega, by omega⟩).mu ⟨rfl, by omega, by omega⟩, j, ⟨s1, s2, s3, s4⟩, Or.inr (Or.inr (Or.inr (Or.inr ⟨hmo, hj, hna, by unfold isMk; omega, ?_, ?_, ?_⟩)))⟩
          · rw [mu_k (by decide), mu_k (by decide), mu_s]
          · rw [mu_k (by decide), mu_k (by decide), mu_k (by decide)]; exact k5
          · rw [mu_s, mu_k (by decide), mu_k (by decide), k3, s32_id (by omega) (by omega)]
        · exact absurd rfl c
      · rw [f151_i] at c2
        cases h
        exact hrun (Or.inr (Classical.not_not.mp c2)) _ hr rfl
    · rw [f154_i] at c
      obtain ⟨mr, hr, h⟩ := h
      cases h
      exact hrun (Or.inl (Classical.not_not.mp c)) _ hr rfl
  have hend : ¬ (most < L ∧ most ≤ j) → ¬ j < L → m' = mu m1 1 4 0 → Fr P148 m m' ∧ ∃ j, SEnd t L i j ∧ TokA X m' t L most j := fun hmo hj e => by
    subst e
    refine ⟨hF1.mu ⟨rfl, by omega, by omega⟩, j, ⟨s1, s2, s3, s4⟩, Or.inr (Or.inl ⟨hmo, by omega, mu_s _ _ _ _, ?_, ?_⟩)⟩
    · rw [mu_k (by decide)]; exact k5
    · rw [mu_k (by decide)]; exact k3
  rcases h54 with ⟨c, h⟩ | ⟨c, h⟩
  · rcases h with ⟨c2, h⟩ | ⟨c2, h⟩
    · exact h124 (by omega) c2 h
    · cases h
      exact hend (by omega) c2 rfl
  · rcases h with ⟨c2, h⟩ | ⟨c2, h⟩
    · rcases h with ⟨c3, h⟩ | ⟨c3, h⟩
      · exact h124 (by omega) c3 h
      · cases h
        exact hend (by omega) c3 rfl
    · cases h
      refine ⟨(hF1.mu ⟨rfl, by omega, by omega⟩).mu ⟨rfl, by omega, by omega⟩, j, ⟨s1, s2, s3, s4⟩, Or.inl ⟨by omega, by omega, ?_, ?_, ?_⟩⟩
      · rw [mu_k (by decide), mu_s]
      · rw [mu_s, mu_k (by decide)]; exact k2
      · rw [mu_k (by decide), mu_k (by decide)]; exact k3
end
section
/-! The reference's tape read: a token. -/
set_option maxRecDepth 16384 in
theorem f210_i (m : MM) (c : Int) : f210 m c = 0 ↔ ¬ isLt c := f154_i m c
set_option maxRecDepth 16384 in
theorem f207_i (m : MM) (c : Int) : f207 m c = 0 ↔ ¬ isDg c := f151_i m c
set_option maxRecDepth 16384 in
theorem f210_01 (m : MM) (c : Int) : f210 m c = 0 ∨ f210 m c = 1 := by
  unfold f210
  split
  · exact Or.inl rfl
  · split
    · exact Or.inl rfl
    · exact Or.inr rfl
set_option maxRecDepth 16384 in
/-- the reference's tape holds t, so long -/
def TB (m : MM) (t : Int → Int) (L : Int) : Prop := m 148 1 = 149 ∧ m 148 3 = L ∧ 0 ≤ L ∧ L ≤ 940 ∧ ∀ j, 0 ≤ j → j < L → m 149 j = t j
set_option maxRecDepth 16384 in
theorem TB_mu {m : MM} {t : Int → Int} {L k v : Int} (h : TB m t L) (h0 : k ≠ 1) (h1 : k ≠ 3) : TB (mu m 148 k v) t L := by
  obtain ⟨a1, a2, a3, a4, a6⟩ := h
  exact ⟨by rw [mu_k (fun e => h0 e.symm)]; exact a1, by rw [mu_k (fun e => h1 e.symm)]; exact a2, a3, a4, fun j hj hl => by rw [mu_a (by decide)]; exact a6 j hj hl⟩
set_option maxRecDepth 16384 in
theorem TB_fr {P : Int → Int → Prop} {m m' : MM} {t : Int → Int} {L : Int} (h : TB m t L) (hf : Fr P m m') (h0 : ¬ P 148 1) (h1 : ¬ P 148 3) (h2 : ∀ j, ¬ P 149 j) : TB m' t L := by
  obtain ⟨a1, a2, a3, a4, a6⟩ := h
  exact ⟨by rw [hf _ _ h0]; exact a1, by rw [hf _ _ h1]; exact a2, a3, a4, fun j hj hl => by rw [hf _ _ (h2 _)]; exact a6 j hj hl⟩
set_option maxRecDepth 16384 in
def P195 (a k : Int) : Prop := a = 148 ∧ (k = 5 ∨ k = 6 ∨ k = 7 ∨ k = 8 ∨ k = 9 ∨ k = 12)
set_option maxRecDepth 16384 in
theorem B195_loop {X : KO} {ρ : Nat → Int32} {t : Int → Int} {L i : Int} {m0 : MM} {o : Instr × List (Nat × Int) × MM} (hL : L ≤ 940) (hi : 0 ≤ i) : ∀ (N : Nat) (m : MM) (b1 b2 b3 b4 j : Int), MR X ρ 5 0 0 qP195 N 0 [148, b1, b2, b3, b4] [] m o → TB m t L → Fr P195 m0 m → m 148 5 = j → i ≤ j → j ≤ L → (∀ k, i ≤ k → k < j → isWs (t k)) → ∃ (N2 : Nat) (m2 : MM) (j2 : Int), MR X ρ 5 0 0 qP195 N2 52 [148, b1, b2, b3, b4] [] m2 o ∧ TB m2 t L ∧ Fr P195 m0 m2 ∧ m2 148 5 = j2 ∧ SEnd t L i j2 := by
  intro N
  induction N with
  | zero =>
    intro m b1 b2 b3 b4 j h hT hF h3 hj hjL hw
    rcases i195_0 h with ⟨c, h⟩ | ⟨c, h⟩
    · exact ⟨0, m, j, h, hT, hF, h3, hj, hjL, hw, fun q => by rw [hT.2.1, h3] at c; omega⟩
    · rw [hT.2.1, h3] at c
      have e4 : m 149 j = t j := hT.2.2.2.2 j (by omega) (by omega)
      rw [hT.1, h3, e4] at h
      rcases h with ⟨c2, N', e, _⟩ | ⟨c2, h⟩
      · cases e
      · rcases h with ⟨c3, N', e, _⟩ | ⟨c3, h⟩
        · cases e
        · exact ⟨0, m, j, h, hT, hF, h3, hj, hjL, hw, fun q hq => by
            rcases hq with hq | hq
            · exact c2 hq
            · exact c3 hq⟩
  | succ N ih =>
    intro m b1 b2 b3 b4 j h hT hF h3 hj hjL hw
    have hgo : j < L → isWs (t j) → MR X ρ 5 0 0 qP195 N 0 [148, b1, b2, b3, b4] [] (mu m 148 5 (s32 (j + 1))) o → ∃ (N2 : Nat) (m2 : MM) (j2 : Int), MR X ρ 5 0 0 qP195 N2 52 [148, b1, b2, b3, b4] [] m2 o ∧ TB m2 t L ∧ Fr P195 m0 m2 ∧ m2 148 5 = j2 ∧ SEnd t L i j2 := fun hlt hc h => by
      rw [s32_id (z := j + 1) (by omega) (by omega)] at h
      refine ih _ _ _ _ _ (j + 1) h (TB_mu hT (by decide) (by decide)) (hF.mu ⟨rfl, by omega⟩) (mu_s _ _ _ _) (by omega) (by omega) (fun k k1 k2 => ?_)
      by_cases d : k = j
      · rw [d]; exact hc
      · exact hw k k1 (by omega)
    rcases i195_0 h with ⟨c, h⟩ | ⟨c, h⟩
    · exact ⟨N + 1, m, j, h, hT, hF, h3, hj, hjL, hw, fun q => by rw [hT.2.1, h3] at c; omega⟩
    · rw [hT.2.1, h3] at c
      have e4 : m 149 j = t j := hT.2.2.2.2 j (by omega) (by omega)
      rw [hT.1, h3, e4] at h
      rcases h with ⟨c2, N', e, h⟩ | ⟨c2, h⟩
      · cases e
        exact hgo (by omega) (Or.inl c2) h
      · rcases h with ⟨c3, N', e, h⟩ | ⟨c3, h⟩
        · cases e
          exact hgo (by omega) (Or.inr c3) h
        · exact ⟨N + 1, m, j, h, hT, hF, h3, hj, hjL, hw, fun q hq => by
            rcases hq with hq | hq
            · exact c2 hq
            · exact c3 hq⟩
set_option maxRecDepth 16384 in
/-- whether all is of the first one's sort -/
def good (b2 : Int) (cs : List Int) : Prop := (b2 = 1 ∧ allL cs) ∨ (b2 = 0 ∧ allD cs)
set_option maxRecDepth 16384 in
theorem B195_run {X : KO} {ρ : Nat → Int32} {t : Int → Int} {L s : Int} {m0 : MM} {o : Instr × List (Nat × Int) × MM} {b1 b2 : Int} (hL : L ≤ 940) (hs : 0 ≤ s) (hb2 : b2 = 0 ∨ b2 = 1) : ∀ (N : Nat) (m : MM) (b3 b4 : Int) (n : Nat), MR X ρ 5 0 0 qP195 N 215 [148, b1, b2, b3, b4] [] m o → TB m t L → Fr P195 m0 m → m 148 5 = s + n → m 148 6 = s → s + n ≤ L → (b3 = 0 ∨ b3 = 1) → (b3 = 1 ↔ good b2 (sg t s n)) → (∀ k : Nat, k < n → anA (t (s + k))) → (n ≤ 7 → allL (sg t s n) → m 148 12 = p27 (sg t s n)) → (n ≤ 3 → allD (sg t s n) → m 148 8 = p10 (sg t s n)) → ∃ (N2 : Nat) (m2 : MM) (n2 : Nat) (b3 b4 : Int), MR X ρ 5 0 0 qP195 N2 350 [148, b1, b2, b3, b4] [] m2 o ∧ TB m2 t L ∧ Fr P195 m0 m2 ∧ m2 148 5 = s + n2 ∧ m2 148 6 = s ∧ REnd t L s n2 ∧ (b3 = 1 ↔ good b2 (sg t s n2)) ∧ (b3 = 0 ∨ b3 = 1) ∧ (n2 ≤ 7 → allL (sg t s n2) → m2 148 12 = p27 (sg t s n2)) ∧ (n2 ≤ 3 → allD (sg t s n2) → m2 148 8 = p10 (sg t s n2)) := by
  intro N
  induction N with
  | zero =>
    intro m b3 b4 n h hT hF h5 h6 hn hb3 hg ha h12 h8
    have hno : MR X ρ 5 0 0 qP195 0 243 [148, b1, b2, b3, b4] [] m o → False := fun h => by
      have h273 : ∀ b3 b4 m, MR X ρ 5 0 0 qP195 0 273 [148, b1, b2, b3, b4] [] m o → False := fun b3 b4 m h => by
        have h337 : ∀ m, MR X ρ 5 0 0 qP195 0 337 [148, b1, b2, b3, b4] [] m o → False := fun m h => by
          obtain ⟨N', e, _⟩ := i195_337 h; cases e
        have h307 : ∀ m, MR X ρ 5 0 0 qP195 0 307 [148, b1, b2, b3, b4] [] m o → False := fun m h => by
          rcases i195_307 h with ⟨_, h⟩ | ⟨_, h⟩ <;> exact h337 _ h
        rcases i195_273 h with ⟨_, h⟩ | ⟨_, h⟩ <;> exact h307 _ h
      rcases i195_243 h with ⟨_, h⟩ | ⟨_, h⟩
      · exact h273 _ _ _ h
      · rcases h with ⟨_, h⟩ | ⟨_, h⟩ <;> exact h273 _ _ _ h
    have hend : (s + n < L → ¬ anA (t (s + n))) → MR X ρ 5 0 0 qP195 0 350 [148, b1, b2, b3, b4] [] m o → ∃ (N2 : Nat) (m2 : MM) (n2 : Nat) (b3 b4 : Int), MR X ρ 5 0 0 qP195 N2 350 [148, b1, b2, b3, b4] [] m2 o ∧ TB m2 t L ∧ Fr P195 m0 m2 ∧ m2 148 5 = s + n2 ∧ m2 148 6 = s ∧ REnd t L s n2 ∧ (b3 = 1 ↔ good b2 (sg t s n2)) ∧ (b3 = 0 ∨ b3 = 1) ∧ (n2 ≤ 7 → allL (sg t s n2) → m2 148 12 = p27 (sg t s n2)) ∧ (n2 ≤ 3 → allD (sg t s n2) → m2 148 8 = p10 (sg t s n2)) := fun hq h => ⟨0, m, n, b3, b4, h, hT, hF, h5, h6, ⟨hn, ha, hq⟩, hg, hb3, h12, h8⟩
    have e4 : s + n < L → f285 m 148 (m 148 5) = t (s + n) := fun q => by
      unfold f285
      rw [h5, hT.2.1, if_neg (by omega), hT.1]
      exact hT.2.2.2.2 _ (by omega) q
    rcases i195_215 h with ⟨c, h⟩ | ⟨c, h⟩
    · rcases h with ⟨c2, h⟩ | ⟨c2, h⟩
      · refine hend (fun q hq => ?_) h
        rw [f210_i, e4 q] at c; rw [f207_i, e4 q] at c2
        exact hq.elim c c2
      · exact (hno h).elim
    · exact (hno h).elim
  | succ N ih =>
    intro m b3 b4 n h hT hF h5 h6 hn hb3 hg ha h12 h8
    have hlen : (sg t s n).length = n := sg_len t s n
    have hend : (s + n < L → ¬ anA (t (s + n))) → MR X ρ 5 0 0 qP195 (N + 1) 350 [148, b1, b2, b3, b4] [] m o → ∃ (N2 : Nat) (m2 : MM) (n2 : Nat) (b3 b4 : Int), MR X ρ 5 0 0 qP195 N2 350 [148, b1, b2, b3, b4] [] m2 o ∧ TB m2 t L ∧ Fr P195 m0 m2 ∧ m2 148 5 = s + n2 ∧ m2 148 6 = s ∧ REnd t L s n2 ∧ (b3 = 1 ↔ good b2 (sg t s n2)) ∧ (b3 = 0 ∨ b3 = 1) ∧ (n2 ≤ 7 → allL (sg t s n2) → m2 148 12 = p27 (sg t s n2)) ∧ (n2 ≤ 3 → allD (sg t s n2) → m2 148 8 = p10 (sg t s n2)) := fun hq h => ⟨N + 1, m, n, b3, b4, h, hT, hF, h5, h6, ⟨hn, ha, hq⟩, hg, hb3, h12, h8⟩
    have e4 : s + n < L → f285 m 148 (m 148 5) = t (s + n) := fun q => by
      unfold f285
      rw [h5, hT.2.1, if_neg (by omega), hT.1]
      exact hT.2.2.2.2 _ (by omega) q
    have hout : ¬ s + n < L → f285 m 148 (m 148 5) = 0 := fun q => by
      unfold f285
      rw [h5, hT.2.1, if_pos (by omega)]
    have hgo : s + n < L → anA (t (s + n)) → MR X ρ 5 0 0 qP195 (N + 1) 243 [148, b1, b2, b3, b4] [] m o → ∃ (N2 : Nat) (m2 : MM) (n2 : Nat) (b3 b4 : Int), MR X ρ 5 0 0 qP195 N2 350 [148, b1, b2, b3, b4] [] m2 o ∧ TB m2 t L ∧ Fr P195 m0 m2 ∧ m2 148 5 = s + n2 ∧ m2 148 6 = s ∧ REnd t L s n2 ∧ (b3 = 1 ↔ good b2 (sg t s n2)) ∧ (b3 = 0 ∨ b3 = 1) ∧ (n2 ≤ 7 → allL (sg t s n2) → m2 148 12 = p27 (sg t s n2)) ∧ (n2 ≤ 3 → allD (sg t s n2) → m2 148 8 = p10 (sg t s n2)) := fun hlt hc h => by
      have ec : m 149 (s + n) = t (s + n) := hT.2.2.2.2 _ (by omega) hlt
      have en : s + ((n + 1 : Nat) : Int) = s + (n : Int) + 1 := by omega
      have ha' : ∀ k : Nat, k < n + 1 → anA (t (s + k)) := fun k hk => by
        by_cases d : k = n
        · rw [d]; exact hc
        · exact ha k (by omega)
      have hb : 0 ≤ t (s + n) ∧ t (s + n) ≤ 122 := by
        unfold anA isLt isDg at hc
        omega
      -- the new flag
      have hnext : ∀ b3' : Int, (b3' = 0 ∨ b3' = 1) → (b3' = 1 ↔ good b2 (sg t s (n + 1))) → MR X ρ 5 0 0 qP195 (N + 1) 273 [148, b1, b2, b3', t (s + n)] [] m o → ∃ (N2 : Nat) (m2 : MM) (n2 : Nat) (b3 b4 : Int), MR X ρ 5 0 0 qP195 N2 350 [148, b1, b2, b3, b4] [] m2 o ∧ TB m2 t L ∧ Fr P195 m0 m2 ∧ m2 148 5 = s + n2 ∧ m2 148 6 = s ∧ REnd t L s n2 ∧ (b3 = 1 ↔ good b2 (sg t s n2)) ∧ (b3 = 0 ∨ b3 = 1) ∧ (n2 ≤ 7 → allL (sg t s n2) → m2 148 12 = p27 (sg t s n2)) ∧ (n2 ≤ 3 → allD (sg t s n2) → m2 148 8 = p10 (sg t s n2)) := fun b3' hb3' hg' h => by
        have hlast : ∀ m1 : MM, MR X ρ 5 0 0 qP195 (N + 1) 337 [148, b1, b2, b3', t (s + n)] [] m1 o → TB m1 t L → Fr P195 m0 m1 → m1 148 5 = s + n → m1 148 6 = s → (n + 1 ≤ 7 → allL (sg t s (n + 1)) → m1 148 12 = p27 (sg t s (n + 1))) → (n + 1 ≤ 3 → allD (sg t s (n + 1)) → m1 148 8 = p10 (sg t s (n + 1))) → ∃ (N2 : Nat) (m2 : MM) (n2 : Nat) (b3 b4 : Int), MR X ρ 5 0 0 qP195 N2 350 [148, b1, b2, b3, b4] [] m2 o ∧ TB m2 t L ∧ Fr P195 m0 m2 ∧ m2 148 5 = s + n2 ∧ m2 148 6 = s ∧ REnd t L s n2 ∧ (b3 = 1 ↔ good b2 (sg t s n2)) ∧ (b3 = 0 ∨ b3 = 1) ∧ (n2 ≤ 7 → allL (sg t s n2) → m2 148 12 = p27 (sg t s n2)) ∧ (n2 ≤ 3 → allD (sg t s n2) → m2 148 8 = p10 (sg t s n2)) := fun m1 h hT1 hF1 g5 g6 g12 g8 => by
          obtain ⟨N', e, h⟩ := i195_337 h
          cases e
          rw [g5, s32_id (z := s + n + 1) (by omega) (by omega), ← en] at h
          exact ih _ _ _ (n + 1) h (TB_mu hT1 (by decide) (by decide)) (hF1.mu ⟨rfl, by omega⟩) (mu_s _ _ _ _) (by rw [mu_k (by decide)]; exact g6) (by omega) hb3' hg' ha' (fun q1 q2 => by rw [mu_k (by decide)]; exact g12 q1 q2) (fun q1 q2 => by rw [mu_k (by decide)]; exact g8 q1 q2)
        have hmid : ∀ m1 : MM, MR X ρ 5 0 0 qP195 (N + 1) 307 [148, b1, b2, b3', t (s + n)] [] m1 o → TB m1 t L → Fr P195 m0 m1 → m1 148 5 = s + n → m1 148 6 = s → m1 148 8 = m 148 8 → (n + 1 ≤ 7 → allL (sg t s (n + 1)) → m1 148 12 = p27 (sg t s (n + 1))) → ∃ (N2 : Nat) (m2 : MM) (n2 : Nat) (b3 b4 : Int), MR X ρ 5 0 0 qP195 N2 350 [148, b1, b2, b3, b4] [] m2 o ∧ TB m2 t L ∧ Fr P195 m0 m2 ∧ m2 148 5 = s + n2 ∧ m2 148 6 = s ∧ REnd t L s n2 ∧ (b3 = 1 ↔ good b2 (sg t s n2)) ∧ (b3 = 0 ∨ b3 = 1) ∧ (n2 ≤ 7 → allL (sg t s n2) → m2 148 12 = p27 (sg t s n2)) ∧ (n2 ≤ 3 → allD (sg t s n2) → m2 148 8 = p10 (sg t s n2)) := fun m1 h hT1 hF1 g5 g6 g8 g12 => by
          have h3 := i195_307 h
          rw [g5, g6, s32_id (z := s + n - s) (by omega) (by omega)] at h3
          rcases h3 with ⟨c, h⟩ | ⟨c, h⟩
          · exact hlast m1 h hT1 hF1 g5 g6 g12 (fun q => absurd q (by omega))
          · refine hlast _ h (TB_mu hT1 (by decide) (by decide)) (hF1.mu ⟨rfl, by omega⟩) (by rw [mu_k (by decide)]; exact g5) (by rw [mu_k (by decide)]; exact g6) (fun q1 q2 => by rw [mu_k (by decide)]; exact g12 q1 q2) (fun q1 q2 => ?_)
            rw [sg_s] at q2 ⊢
            obtain ⟨A1, A2⟩ := allD_s.mp q2
            have A2 : 48 ≤ t (s + n) ∧ t (s + n) ≤ 57 := A2
            have e8 := h8 (by omega) A1
            have b8 := p10_3 A1 (by rw [hlen]; omega)
            rw [mu_s, g8, e8, p10_s, s32_id (z := 10 * p10 (sg t s n)) (by omega) (by omega), s32_id (z := 10 * p10 (sg t s n) + t (s + n)) (by omega) (by omega), s32_id (by omega) (by omega)]
            omega
        have h2 := i195_273 h
        rw [h5, h6, s32_id (z := s + n - s) (by omega) (by omega)] at h2
        rcases h2 with ⟨c, h⟩ | ⟨c, h⟩
        · exact hmid m h hT hF h5 h6 rfl (fun q => absurd q (by omega))
        · refine hmid _ h (TB_mu hT (by decide) (by decide)) (hF.mu ⟨rfl, by omega⟩) (by rw [mu_k (by decide)]; exact h5) (by rw [mu_k (by decide)]; exact h6) (by rw [mu_k (by decide)]) (fun q1 q2 => ?_)
          rw [sg_s] at q2 ⊢
          obtain ⟨A1, A2⟩ := allL_s.mp q2
          have A2 : 97 ≤ t (s + n) ∧ t (s + n) ≤ 122 := A2
          have e12 := h12 (by omega) A1
          have b12 := p27_7 A1 (by rw [hlen]; omega)
          rw [mu_s, e12, p27_s, s64_id (z := 27 * p27 (sg t s n)) (by omega) (by omega), s64_id (z := 27 * p27 (sg t s n) + t (s + n)) (by omega) (by omega), s64_id (by omega) (by omega)]
          omega
      have hgs : good b2 (sg t s (n + 1)) ↔ good b2 (sg t s n) ∧ ((b2 = 1 ∧ isLt (t (s + n))) ∨ (b2 = 0 ∧ isDg (t (s + n)))) := by
        unfold good
        rw [sg_s, allL_s, allD_s]
        constructor
        · rintro (⟨q1, q2, q3⟩ | ⟨q1, q2, q3⟩)
          · exact ⟨Or.inl ⟨q1, q2⟩, Or.inl ⟨q1, q3⟩⟩
          · exact ⟨Or.inr ⟨q1, q2⟩, Or.inr ⟨q1, q3⟩⟩
        · rintro ⟨q1 | q1, q2 | q2⟩
          · exact Or.inl ⟨q1.1, q1.2, q2.2⟩
          · exact absurd (q1.1.symm.trans q2.1) (by decide)
          · exact absurd (q1.1.symm.trans q2.1) (by decide)
          · exact Or.inr ⟨q1.1, q1.2, q2.2⟩
      have h1 := i195_243 h
      rw [hT.1, h5, ec] at h1
      rcases h1 with ⟨c, h⟩ | ⟨c, h⟩
      · refine hnext 0 (Or.inl rfl) ⟨fun q => absurd q (by decide), fun q => ?_⟩ h
        have := hg.mpr (hgs.mp q).1
        omega
      · have hb1 : b3 = 1 := by omega
        have hf := f210_i m (t (s + n))
        have hf2 := f210_01 m (t (s + n))
        rcases h with ⟨c2, h⟩ | ⟨c2, h⟩
        · refine hnext 1 (Or.inr rfl) ⟨fun _ => hgs.mpr ⟨hg.mp hb1, ?_⟩, fun _ => rfl⟩ h
          rcases hb2 with e | e
          · exact Or.inr ⟨e, hc.resolve_left (hf.mp (c2.trans e))⟩
          · exact Or.inl ⟨e, Classical.not_not.mp (fun q => by have := hf.mpr q; omega)⟩
        · refine hnext 0 (Or.inl rfl) ⟨fun q => absurd q (by decide), fun q => ?_⟩ h
          rcases (hgs.mp q).2 with ⟨q1, q2⟩ | ⟨q1, q2⟩
          · exfalso
            have : f210 m (t (s + n)) ≠ 0 := fun z => hf.mp z q2
            omega
          · exfalso
            have hnl : ¬ isLt (t (s + n)) := by unfold isLt; unfold isDg at q2; omega
            have := hf.mpr hnl
            omega
    rcases i195_215 h with ⟨c, h⟩ | ⟨c, h⟩
    · rcases h with ⟨c2, h⟩ | ⟨c2, h⟩
      · refine hend (fun q hq => ?_) h
        rw [f210_i, e4 q] at c; rw [f207_i, e4 q] at c2
        exact hq.elim c c2
      · have q : s + n < L := by
          by_cases q : s + n < L
          · exact q
          · rw [hout q] at c2; exact absurd (f207_i m 0 |>.mpr (by unfold isDg; omega)) c2
        rw [f207_i, e4 q] at c2
        exact hgo q (Or.inr (Classical.not_not.mp c2)) h
    · have q : s + n < L := by
        by_cases q : s + n < L
        · exact q
        · rw [hout q] at c; exact absurd (f210_i m 0 |>.mpr (by unfold isLt; omega)) c
      rw [f210_i, e4 q] at c
      exact hgo q (Or.inl (Classical.not_not.mp c)) h
set_option maxRecDepth 16384 in
def RunB (m' : MM) (cs : List Int) : Prop := (allL cs ∧ cs.length ≤ 7 ∧ m' 148 7 = 2 ∧ m' 148 12 = p27 cs) ∨ (allD cs ∧ cs ≠ [] ∧ cs.length ≤ 3 ∧ m' 148 7 = 3 ∧ m' 148 8 = p10 cs) ∨ (¬ (allL cs ∧ cs.length ≤ 7) ∧ ¬ (allD cs ∧ cs.length ≤ 3) ∧ m' 148 7 = 1)
set_option maxRecDepth 16384 in
/-- the token at a place: what the reference's tape says of it -/
def TokB (m : MM) (t : Int → Int) (L most j : Int) : Prop :=
  (most < L ∧ most ≤ j ∧ m 148 7 = 1 ∧ m 148 6 = most ∧ m 148 5 = j) ∨
  (¬ (most < L ∧ most ≤ j) ∧ j = L ∧ m 148 7 = 0 ∧ m 148 6 = j ∧ m 148 5 = j) ∨
  (¬ (most < L ∧ most ≤ j) ∧ j < L ∧ anA (t j) ∧ m 148 6 = j ∧ ∃ n : Nat, 0 < n ∧ m 148 5 = j + n ∧ REnd t L j n ∧ RunB m (sg t j n)) ∨
  (¬ (most < L ∧ most ≤ j) ∧ j < L ∧ ¬ anA (t j) ∧ isMk (t j) ∧ m 148 7 = 4 ∧ m 148 9 = t j ∧ m 148 6 = j ∧ m 148 5 = j + 1) ∨
  (¬ (most < L ∧ most ≤ j) ∧ j < L ∧ ¬ anA (t j) ∧ ¬ isMk (t j) ∧ m 148 7 = 1 ∧ m 148 6 = j ∧ m 148 5 = j + 1)
set_option maxRecDepth 16384 in
theorem B195 {X : KO} {ρ : Nat → Int32} {t : Int → Int} {L i most : Int} {m m' : MM} {rl : List (Nat × Int)} (hT : TB m t L) (h3 : m 148 5 = i) (hm : m 148 4 = most) (hi : 0 ≤ i) (hiL : i ≤ L) (h : Run X ρ 195 [(1, 148)] m rl m') : rl = [] ∧ Fr P195 m m' ∧ ∃ j, SEnd t L i j ∧ TokB m' t L most j := by
  refine ⟨Run_v h rfl, ?_⟩
  obtain ⟨N, ig, h⟩ := Run_CR h rfl
  have h : MR X ρ 5 0 0 qP195 N 0 [148, 0, 0, 0, 0] [] m (ig, rl, m') := h
  have hL := hT.2.2.2.1
  obtain ⟨N2, m2, j, h, hT2, hF, g3, hS⟩ := B195_loop (m0 := m) (t := t) (L := L) (i := i) hL hi N m _ _ _ _ i h hT (Fr.rf _ _) h3 (Int.le_refl _) hiL (fun k k1 k2 => by omega)
  have gm : m2 148 4 = most := by rw [hF 148 4 (by unfold P195; omega)]; exact hm
  obtain ⟨s1, s2, s3, s4⟩ := hS
  have hF1 : Fr P195 m (mu m2 148 6 (m2 148 5)) := hF.mu ⟨rfl, by omega⟩
  have hT1 : TB (mu m2 148 6 (m2 148 5)) t L := TB_mu hT2 (by decide) (by decide)
  have k1 : (mu m2 148 6 (m2 148 5)) 148 3 = L := hT1.2.1
  have k2 : (mu m2 148 6 (m2 148 5)) 148 4 = most := by rw [mu_k (by decide)]; exact gm
  have k3 : (mu m2 148 6 (m2 148 5)) 148 5 = j := by rw [mu_k (by decide)]; exact g3
  have k5 : (mu m2 148 6 (m2 148 5)) 148 6 = j := by rw [mu_s]; exact g3
  have h52 := i195_52 h
  generalize (mu m2 148 6 (m2 148 5)) = m1 at *
  rw [k1, k2, k3, k5] at h52
  have h113 : ¬ (most < L ∧ most ≤ j) → j < L → MR X ρ 5 0 0 qP195 N2 113 [148, 0, 0, 0, 0] [] m1 (ig, rl, m') → Fr P195 m m' ∧ ∃ j, SEnd t L i j ∧ TokB m' t L most j := fun hmo hj h => by
    have e4 : m1 149 j = t j := hT1.2.2.2.2 _ (by omega) hj
    have h := i195_113 h
    rw [hT1.1, k3, e4] at h
    have hrun : anA (t j) → MR X ρ 5 0 0 qP195 N2 198 [148, t j, 0, 0, 0] [] m1 (ig, rl, m') → Fr P195 m m' ∧ ∃ j, SEnd t L i j ∧ TokB m' t L most j := fun hc h => by
      have h := i195_198 h
      have hb2 := f210_01 m1 (t j)
      obtain ⟨N3, m3, n, b3, b4, h, hT3, hF3, g5, g6, hR, hg, hb3, g12, g8⟩ := B195_run (m0 := m) (t := t) (L := L) (s := j) hL (by omega) hb2 N2 _ 1 0 0 h (TB_mu (TB_mu hT1 (by decide) (by decide)) (by decide) (by decide)) ((hF1.mu ⟨rfl, by omega⟩).mu ⟨rfl, by omega⟩) (by rw [mu_k (by decide), mu_k (by decide), k3]; omega) (by rw [mu_k (by decide), mu_k (by decide), k5]) (by omega) (Or.inr rfl) ⟨fun _ => hb2.elim (fun e => Or.inr ⟨e, fun c hc => by cases hc⟩) (fun e => Or.inl ⟨e, fun c hc => by cases hc⟩), fun _ => rfl⟩ (fun k hk => absurd hk (by omega)) (fun _ _ => by rw [mu_k (by decide), mu_s]; rfl) (fun _ _ => by rw [mu_s]; rfl)
      have hn : 0 < n := by
        rcases Nat.eq_zero_or_pos n with e | e
        · subst e
          have := hR.2.2 (by omega)
          rw [show j + ((0 : Nat) : Int) = j by omega] at this
          exact absurd hc this
        · exact e
      have hlen : (sg t j n).length = n := sg_len t j n
      have hne : sg t j n ≠ [] := fun e => by rw [e] at hlen; simp at hlen; omega
      have hhd : t j ∈ sg t j n := by
        have := sg_at (t := t) (i := j) hn
        rw [show j + ((0 : Nat) : Int) = j by omega] at this
        exact this
      have nLD : allL (sg t j n) → allD (sg t j n) → False := fun p q => by
        have := p _ hhd
        have := q _ hhd
        unfold isLt isDg at *
        omega
      have hfin : ∀ v : Int, m' = mu m3 148 7 v → RunB (mu m3 148 7 v) (sg t j n) → Fr P195 m m' ∧ ∃ j, SEnd t L i j ∧ TokB m' t L most j := fun v e hB => by
        subst e
        refine ⟨hF3.mu ⟨rfl, by omega⟩, j, ⟨s1, s2, s3, s4⟩, Or.inr (Or.inr (Or.inl ⟨hmo, hj, hc, ?_, n, hn, ?_, hR, hB⟩))⟩
        · rw [mu_k (by decide)]; exact g6
        · rw [mu_k (by decide)]; exact g5
      have hgood : good (f210 m1 (t j)) (sg t j n) ↔ allL (sg t j n) ∨ allD (sg t j n) := by
        unfold good
        have hfi := f210_i m1 (t j)
        constructor
        · rintro (⟨_, q⟩ | ⟨_, q⟩)
          · exact Or.inl q
          · exact Or.inr q
        · rintro (q | q)
          · refine Or.inl ⟨hb2.resolve_left (fun z => hfi.mp z (q _ hhd)), q⟩
          · refine Or.inr ⟨hfi.mpr (fun z => ?_), q⟩
            have := q _ hhd
            unfold isLt isDg at *
            omega
      have h350 := i195_350 h
      rw [g5, g6, s32_id (z := j + n - j) (by have := hR.1; omega) (by have := hR.1; omega)] at h350
      rcases h350 with ⟨c, h⟩ | ⟨c, h⟩
      · cases h
        refine hfin 1 rfl (Or.inr (Or.inr ⟨fun q => ?_, fun q => ?_, mu_s _ _ _ _⟩))
        · have := hg.mpr (hgood.mpr (Or.inl q.1)); omega
        · have := hg.mpr (hgood.mpr (Or.inr q.1)); omega
      · have hgd := hg.mp (by omega)
        rcases h with ⟨c2, h⟩ | ⟨c2, h⟩
        · have hD : allD (sg t j n) := by
            rcases hgd with q | q
            · omega
            · exact q.2
          rcases h with ⟨c3, h⟩ | ⟨c3, h⟩
          · cases h
            exact hfin 3 rfl (Or.inr (Or.inl ⟨hD, hne, by omega, mu_s _ _ _ _, by rw [mu_k (by decide)]; exact g8 (by omega) hD⟩))
          · cases h
            exact hfin 1 rfl (Or.inr (Or.inr ⟨fun q => nLD q.1 hD, fun q => by have := q.2; omega, mu_s _ _ _ _⟩))
        · have hA : allL (sg t j n) := by
            rcases hgd with q | q
            · exact q.2
            · omega
          rcases h with ⟨c3, h⟩ | ⟨c3, h⟩
          · cases h
            exact hfin 2 rfl (Or.inl ⟨hA, by omega, mu_s _ _ _ _, by rw [mu_k (by decide)]; exact g12 (by omega) hA⟩)
          · cases h
            exact hfin 1 rfl (Or.inr (Or.inr ⟨fun q => by have := q.2; omega, fun q => nLD hA q.1, mu_s _ _ _ _⟩))
    rcases h with ⟨c, h⟩ | ⟨c, h⟩
    · rw [f210_i] at c
      rcases h with ⟨c2, h⟩ | ⟨c2, h⟩
      · rw [f207_i] at c2
        have hna : ¬ anA (t j) := fun q => q.elim c c2
        have hmk : isMk (t j) → m' = mu (mu (mu m1 148 7 4) 148 9 (t j)) 148 5 (s32 (((mu (mu m1 148 7 4) 148 9 (t j)) 148 5) + 1)) → Fr P195 m m' ∧ ∃ j, SEnd t L i j ∧ TokB m' t L most j := fun hk e => by
          subst e
          refine ⟨((hF1.mu ⟨rfl, by omega⟩).mu ⟨rfl, by omega⟩).mu ⟨rfl, by omega⟩, j, ⟨s1, s2, s3, s4⟩, Or.inr (Or.inr (Or.inr (Or.inl ⟨hmo, hj, hna, hk, ?_, ?_, ?_, ?_⟩)))⟩
          · rw [mu_k (by decide), mu_k (by decide), mu_s]
          · rw [mu_k (by decide), mu_s]
          · rw [mu_k (by decide), mu_k (by decide), mu_k (by decide)]; exact k5
          · rw [mu_s, mu_k (by decide), mu_k (by decide), k3, s32_id (by omega) (by omega)]
        rcases i195_137 h with ⟨d, h⟩ | ⟨d1, h⟩
        · cases h; exact hmk (by unfold isMk; omega) rfl
        rcases h with ⟨d, h⟩ | ⟨d2, h⟩
        · cases h; exact hmk (by unfold isMk; omega) rfl
        rcases h with ⟨d, h⟩ | ⟨d3, h⟩
        · cases h; exact hmk (by unfold isMk; omega) rfl
        rcases h with ⟨d, h⟩ | ⟨d4, h⟩
        · cases h; exact hmk (by unfold isMk; omega) rfl
        rcases h with ⟨d, h⟩ | ⟨d5, h⟩
        · cases h; exact hmk (by unfold isMk; omega) rfl
        rcases h with ⟨d, h⟩ | ⟨d6, h⟩
        · cases h; exact hmk (by unfold isMk; omega) rfl
        cases h
        refine ⟨((hF1.mu ⟨rfl, by omega⟩).mu ⟨rfl, by omega⟩).mu ⟨rfl, by omega⟩, j, ⟨s1, s2, s3, s4⟩, Or.inr (Or.inr (Or.inr (Or.inr ⟨hmo, hj, hna, by unfold isMk; omega, ?_, ?_, ?_⟩)))⟩
        · rw [mu_k (by decide), mu_k (by decide), mu_s]
        · rw [mu_k (by decide), mu_k (by decide), mu_k (by decide)]; exact k5
        · rw [mu_s, mu_k (by decide), mu_k (by decide), k3, s32_id (by omega) (by omega)]
      · rw [f207_i] at c2
        exact hrun (Or.inr (Classical.not_not.mp c2)) h
    · rw [f210_i] at c
      exact hrun (Or.inl (Classical.not_not.mp c)) h
  have hend : ¬ (most < L ∧ most ≤ j) → ¬ j < L → m' = mu m1 148 7 0 → Fr P195 m m' ∧ ∃ j, SEnd t L i j ∧ TokB m' t L most j := fun hmo hj e => by
    subst e
    refine ⟨hF1.mu ⟨rfl, by omega⟩, j, ⟨s1, s2, s3, s4⟩, Or.inr (Or.inl ⟨hmo, by omega, mu_s _ _ _ _, ?_, ?_⟩)⟩
    · rw [mu_k (by decide)]; exact k5
    · rw [mu_k (by decide)]; exact k3
  rcases h52 with ⟨c, h⟩ | ⟨c, h⟩
  · rcases h with ⟨c2, h⟩ | ⟨c2, h⟩
    · exact h113 (by omega) c2 h
    · cases h
      exact hend (by omega) c2 rfl
  · rcases h with ⟨c2, h⟩ | ⟨c2, h⟩
    · rcases h with ⟨c3, h⟩ | ⟨c3, h⟩
      · exact h113 (by omega) c3 h
      · cases h
        exact hend (by omega) c3 rfl
    · cases h
      refine ⟨(hF1.mu ⟨rfl, by omega⟩).mu ⟨rfl, by omega⟩, j, ⟨s1, s2, s3, s4⟩, Or.inl ⟨by omega, by omega, mu_s _ _ _ _, ?_, ?_⟩⟩
      · rw [mu_k (by decide), mu_s]
      · rw [mu_k (by decide), mu_k (by decide)]; exact k3
end
section
/-! Class and reference at the same token. -/
set_option maxRecDepth 16384 in
theorem f291_w (m : MM) : ∀ k : Nat, k < 30 → f291 m (k : Int) = p27 (wl k) := by
  have e : ∀ (k : Nat) (z : Int), f291 m (k : Int) = z → z = p27 (wl k) → f291 m (k : Int) = p27 (wl k) := fun k z h1 h2 => h1.trans h2
  intro k hk
  match k, hk with
  | 0, _ => refine e 0 _ (by simp (disch := decide) [f291, f278, s64_id]; rfl) (by decide)
  | 1, _ => refine e 1 _ (by simp (disch := decide) [f291, f278, s64_id]; rfl) (by decide)
  | 2, _ => refine e 2 _ (by simp (disch := decide) [f291, f278, s64_id]; rfl) (by decide)
  | 3, _ => refine e 3 _ (by simp (disch := decide) [f291, f278, s64_id]; rfl) (by decide)
  | 4, _ => refine e 4 _ (by simp (disch := decide) [f291, f278, s64_id]; rfl) (by decide)
  | 5, _ => refine e 5 _ (by simp (disch := decide) [f291, f278, s64_id]; rfl) (by decide)
  | 6, _ => refine e 6 _ (by simp (disch := decide) [f291, f278, s64_id]; rfl) (by decide)
  | 7, _ => refine e 7 _ (by simp (disch := decide) [f291, f278, s64_id]; rfl) (by decide)
  | 8, _ => refine e 8 _ (by simp (disch := decide) [f291, f278, s64_id]; rfl) (by decide)
  | 9, _ => refine e 9 _ (by simp (disch := decide) [f291, f278, s64_id]; rfl) (by decide)
  | 10, _ => refine e 10 _ (by simp (disch := decide) [f291, f278, s64_id]; rfl) (by decide)
  | 11, _ => refine e 11 _ (by simp (disch := decide) [f291, f278, s64_id]; rfl) (by decide)
  | 12, _ => refine e 12 _ (by simp (disch := decide) [f291, f278, s64_id]; rfl) (by decide)
  | 13, _ => refine e 13 _ (by simp (disch := decide) [f291, f278, s64_id]; rfl) (by decide)
  | 14, _ => refine e 14 _ (by simp (disch := decide) [f291, f278, s64_id]; rfl) (by decide)
  | 15, _ => refine e 15 _ (by simp (disch := decide) [f291, f278, s64_id]; rfl) (by decide)
  | 16, _ => refine e 16 _ (by simp (disch := decide) [f291, f278, s64_id]; rfl) (by decide)
  | 17, _ => refine e 17 _ (by simp (disch := decide) [f291, f278, s64_id]; rfl) (by decide)
  | 18, _ => refine e 18 _ (by simp (disch := decide) [f291, f278, s64_id]; rfl) (by decide)
  | 19, _ => refine e 19 _ (by simp (disch := decide) [f291, f278, s64_id]; rfl) (by decide)
  | 20, _ => refine e 20 _ (by simp (disch := decide) [f291, f278, s64_id]; rfl) (by decide)
  | 21, _ => refine e 21 _ (by simp (disch := decide) [f291, f278, s64_id]; rfl) (by decide)
  | 22, _ => refine e 22 _ (by simp (disch := decide) [f291, f278, s64_id]; rfl) (by decide)
  | 23, _ => refine e 23 _ (by simp (disch := decide) [f291, f278, s64_id]; rfl) (by decide)
  | 24, _ => refine e 24 _ (by simp (disch := decide) [f291, f278, s64_id]; rfl) (by decide)
  | 25, _ => refine e 25 _ (by simp (disch := decide) [f291, f278, s64_id]; rfl) (by decide)
  | 26, _ => refine e 26 _ (by simp (disch := decide) [f291, f278, s64_id]; rfl) (by decide)
  | 27, _ => refine e 27 _ (by simp (disch := decide) [f291, f278, s64_id]; rfl) (by decide)
  | 28, _ => refine e 28 _ (by simp (disch := decide) [f291, f278, s64_id]; rfl) (by decide)
  | 29, _ => refine e 29 _ (by simp (disch := decide) [f291, f278, s64_id]; rfl) (by decide)
  | n + 30, h => omega
set_option maxRecDepth 16384 in
/-- the statics' words -/
def swl : List Nat := [8, 9, 10, 11, 12, 13, 14, 15, 0, 2, 3, 4, 5, 1, 6, 7, 18, 23, 24, 25, 26, 27, 28, 29, 19, 20, 21, 22, 17, 16]
set_option maxRecDepth 16384 in
def XS (X : KO) : Prop := ∀ s i : Nat, s < 30 → i < 30 → (X.1 (1000100 + i) (1000001 + s) = true ↔ i = swl.getD s 0)
set_option maxRecDepth 16384 in
/-- the same token on both sides -/
def TKR (X : KO) (a b : MM) : Prop := a 1 5 = b 148 6 ∧ a 1 3 = b 148 5 ∧
  ((a 1 4 = 4 ∧ b 148 7 = 1) ∨ (a 1 4 = 0 ∧ b 148 7 = 0) ∨ (a 1 4 = 1 ∧ b 148 7 = 2 ∧ NRel (a 1 7) (b 148 12) ∧ Mean (a 1 8) (a 1 7)) ∨ (a 1 4 = 2 ∧ b 148 7 = 3 ∧ a 1 6 = b 148 8 ∧ 0 ≤ a 1 6 ∧ a 1 6 < 1000) ∨ (a 1 4 = 3 ∧ b 148 7 = 4 ∧ a 1 6 = b 148 9))
set_option maxRecDepth 16384 in
/-- both read the same text -/
def PR0 (t : Int → Int) (L most : Int) (a b : MM) : Prop := TA a t L ∧ TB b t L ∧ a 1 2 = most ∧ b 148 4 = most ∧ a 1 3 = b 148 5 ∧ 0 ≤ a 1 3 ∧ a 1 3 ≤ L
set_option maxRecDepth 16384 in
def PR (X : KO) (t : Int → Int) (L most : Int) (a b : MM) : Prop := PR0 t L most a b ∧ TKR X a b
set_option maxRecDepth 16384 in
theorem next_ok {X : KO} {ρ : Nat → Int32} {t : Int → Int} {L most : Int} {a a' b b' : MM} {rl rl' : List (Nat × Int)} (hX : XW X) (h : PR0 t L most a b) (ha : Run X ρ 148 [(1, 1)] a rl a') (hb : Run X ρ 195 [(1, 148)] b rl' b') : PR X t L most a' b' ∧ Fr P148 a a' ∧ Fr P195 b b' ∧ rl = [] ∧ rl' = [] := by
  obtain ⟨h1, h2, h3, h4, h5, h6, h7⟩ := h
  obtain ⟨r1, f1, j, s1, k1⟩ := A148 hX h1 rfl h3 h6 h7 ha
  obtain ⟨r2, f2, j2, s2, k2⟩ := B195 h2 h5.symm h4 h6 h7 hb
  have ej := SEnd_u s1 s2
  subst ej
  have hj := s1.2.1
  have hj0 : 0 ≤ j := by have := s1.1; omega
  have hTA : TA a' t L := TA_fr h1 f1 (by unfold P148; omega) (by unfold P148; omega) (by unfold P148; omega)
  have hTB : TB b' t L := TB_fr h2 f2 (by unfold P195; omega) (by unfold P195; omega) (by unfold P195; omega)
  have g3 : a' 1 2 = most := by rw [f1 1 2 (by unfold P148; omega)]; exact h3
  have g4 : b' 148 4 = most := by rw [f2 148 4 (by unfold P195; omega)]; exact h4
  suffices hk : 0 ≤ a' 1 3 ∧ a' 1 3 ≤ L ∧ TKR X a' b' from ⟨⟨⟨hTA, hTB, g3, g4, hk.2.2.2.1, hk.1, hk.2.1⟩, hk.2.2⟩, f1, f2, r1, r2⟩
  rcases k1 with ⟨p1, p2, p3, p4, p5⟩ | ⟨p1, p2, p3, p4, p5⟩ | ⟨p1, p2, p3, p4, n, p5, p6, p7, p8⟩ | ⟨p1, p2, p3, p4, p5, p6, p7, p8⟩ | ⟨p1, p2, p3, p4, p5, p6, p7⟩
  · rcases k2 with ⟨q1, q2, q3, q4, q5⟩ | ⟨q1, q2, q3, q4, q5⟩ | ⟨q1, q2, q3, q4, n2, q5, q6, q7, q8⟩ | ⟨q1, q2, q3, q4, q5, q6, q7, q8⟩ | ⟨q1, q2, q3, q4, q5, q6, q7⟩
    · exact ⟨by omega, by omega, by omega, by omega, Or.inl ⟨p3, q3⟩⟩
    · exact absurd ⟨p1, p2⟩ q1
    · exact absurd ⟨p1, p2⟩ q1
    · exact absurd ⟨p1, p2⟩ q1
    · exact absurd ⟨p1, p2⟩ q1
  · rcases k2 with ⟨q1, q2, q3, q4, q5⟩ | ⟨q1, q2, q3, q4, q5⟩ | ⟨q1, q2, q3, q4, n2, q5, q6, q7, q8⟩ | ⟨q1, q2, q3, q4, q5, q6, q7, q8⟩ | ⟨q1, q2, q3, q4, q5, q6, q7⟩
    · exact absurd ⟨q1, q2⟩ p1
    · exact ⟨by omega, by omega, by omega, by omega, Or.inr (Or.inl ⟨p3, q3⟩)⟩
    · omega
    · omega
    · omega
  · rcases k2 with ⟨q1, q2, q3, q4, q5⟩ | ⟨q1, q2, q3, q4, q5⟩ | ⟨q1, q2, q3, q4, n2, q5, q6, q7, q8⟩ | ⟨q1, q2, q3, q4, q5, q6, q7, q8⟩ | ⟨q1, q2, q3, q4, q5, q6, q7⟩
    · exact absurd ⟨q1, q2⟩ p1
    · omega
    · have en := REnd_u p7 q7
      subst en
      have hlen : (sg t j n).length = n := sg_len t j n
      have hne : sg t j n ≠ [] := fun e => by rw [e] at hlen; simp at hlen; omega
      have hL' := p7.1
      refine ⟨by omega, by omega, by omega, by omega, ?_⟩
      rcases p8 with ⟨u1, u2, u3, u4, u5⟩ | ⟨u1, u0, u2, u3, u4⟩ | ⟨u1, u2, u3⟩
      · rcases q8 with ⟨v1, v2, v3, v4⟩ | ⟨v1, v0, v2, v3, v4⟩ | ⟨v1, v2, v3⟩
        · exact Or.inr (Or.inr (Or.inl ⟨u3, v3, ⟨_, u1, hne, u2, u4, v4⟩, by rw [u4]; exact u5⟩))
        · exfalso
          obtain ⟨c, hc⟩ := List.exists_mem_of_ne_nil _ hne
          have d1 := u1 c hc
          have d2 := v1 c hc
          unfold isLt isDg at *
          omega
        · exact absurd ⟨u1, u2⟩ v1
      · rcases q8 with ⟨v1, v2, v3, v4⟩ | ⟨v1, v0, v2, v3, v4⟩ | ⟨v1, v2, v3⟩
        · exfalso
          obtain ⟨c, hc⟩ := List.exists_mem_of_ne_nil _ hne
          have d1 := u1 c hc
          have d2 := v1 c hc
          unfold isLt isDg at *
          omega
        · have := p10_3 u1 u2
          exact Or.inr (Or.inr (Or.inr (Or.inl ⟨u3, v3, u4.trans v4.symm, by omega, by omega⟩)))
        · exact absurd ⟨u1, u2⟩ v2
      · rcases q8 with ⟨v1, v2, v3, v4⟩ | ⟨v1, v0, v2, v3, v4⟩ | ⟨v1, v2, v3⟩
        · exact absurd ⟨v1, v2⟩ u1
        · exact absurd ⟨v1, v2⟩ u2
        · exact Or.inl ⟨u3, v3⟩
    · exact absurd p3 q3
    · exact absurd p3 q3
  · rcases k2 with ⟨q1, q2, q3, q4, q5⟩ | ⟨q1, q2, q3, q4, q5⟩ | ⟨q1, q2, q3, q4, n2, q5, q6, q7, q8⟩ | ⟨q1, q2, q3, q4, q5, q6, q7, q8⟩ | ⟨q1, q2, q3, q4, q5, q6, q7⟩
    · exact absurd ⟨q1, q2⟩ p1
    · omega
    · exact absurd q3 p3
    · exact ⟨by omega, by omega, by omega, by omega, Or.inr (Or.inr (Or.inr (Or.inr ⟨p5, q5, p6.trans q6.symm⟩)))⟩
    · exact absurd p4 q4
  · rcases k2 with ⟨q1, q2, q3, q4, q5⟩ | ⟨q1, q2, q3, q4, q5⟩ | ⟨q1, q2, q3, q4, n2, q5, q6, q7, q8⟩ | ⟨q1, q2, q3, q4, q5, q6, q7, q8⟩ | ⟨q1, q2, q3, q4, q5, q6, q7⟩
    · exact absurd ⟨q1, q2⟩ p1
    · omega
    · exact absurd q3 p3
    · exact absurd q4 p4
    · exact ⟨by omega, by omega, by omega, by omega, Or.inl ⟨p5, q5⟩⟩
set_option maxRecDepth 16384 in
/-- a token more is further on -/
def Prog (a a' : MM) : Prop := a 1 3 ≤ a' 1 3 ∧ (a' 1 4 ≠ 0 → a' 1 4 ≠ 4 → a 1 3 < a' 1 3)
set_option maxRecDepth 16384 in
theorem mon_ok {X : KO} {ρ : Nat → Int32} {t : Int → Int} {L most : Int} {a a' b : MM} {rl : List (Nat × Int)} (hX : XW X) (h : PR0 t L most a b) (ha : Run X ρ 148 [(1, 1)] a rl a') : Prog a a' := by
  obtain ⟨h1, h2, h3, h4, h5, h6, h7⟩ := h
  obtain ⟨r1, f1, j, s1, k1⟩ := A148 hX h1 rfl h3 h6 h7 ha
  have hj := s1.1
  rcases k1 with ⟨p1, p2, p3, p4, p5⟩ | ⟨p1, p2, p3, p4, p5⟩ | ⟨p1, p2, p3, p4, n, p5, p6, p7, p8⟩ | ⟨p1, p2, p3, p4, p5, p6, p7, p8⟩ | ⟨p1, p2, p3, p4, p5, p6, p7⟩
  · exact ⟨by omega, fun _ q => absurd p3 q⟩
  · exact ⟨by omega, fun q _ => absurd p3 q⟩
  · exact ⟨by omega, fun _ _ => by omega⟩
  · exact ⟨by omega, fun _ _ => by omega⟩
  · exact ⟨by omega, fun _ q => absurd p5 q⟩
/-! what is asked of a token -/
set_option maxRecDepth 16384 in
theorem word_ok {X : KO} (hX : XS X) {a b : MM} (h : TKR X a b) {s : Nat} (hs : s < 30) : f155 X a 1 ((1000001 + s : Nat) : Int) = f217 b 148 ((swl.getD s 0 : Nat) : Int) := by
  have hsw : swl.getD s 0 < 30 := by
    have : ∀ s : Fin 30, swl.getD s.val 0 < 30 := by decide
    exact this ⟨s, hs⟩
  obtain ⟨-, -, h⟩ := h
  unfold f155 f217
  rw [f291_w b _ hsw]
  rcases h with ⟨h1, h2⟩ | ⟨h1, h2⟩ | ⟨h1, h2, h3, h4⟩ | ⟨h1, h2, -⟩ | ⟨h1, h2, -⟩
  · rw [h1, h2, if_neg (by decide), if_neg (by decide)]
  · rw [h1, h2, if_neg (by decide), if_neg (by decide)]
  · rw [if_pos h1, if_pos h2]
    have hw := wl_ok _ hsw
    have hN : NRel (p32 (wl (swl.getD s 0))) (p27 (wl (swl.getD s 0))) := ⟨_, hw.1, hw.2.1, hw.2.2, rfl, rfl⟩
    have hiff := NRel_iff h3 hN
    have hq : qer X (a 1 8) ((1000001 + s : Nat) : Int) ↔ b 148 12 = p27 (wl (swl.getD s 0)) := by
      rw [← hiff]
      rcases h4 with ⟨i, i1, i2, i3⟩ | ⟨i1, i2⟩
      · rw [i2]
        constructor
        · rintro (q | ⟨-, -, q⟩)
          · omega
          · have e1 : (1000100 + (i : Int)).toNat = 1000100 + i := by omega
            have e2 : (((1000001 + s : Nat) : Int)).toNat = 1000001 + s := by omega
            rw [e1, e2] at q
            rw [i3, (hX s i hs i1).mp q]
        · intro q
          refine Or.inr ⟨by omega, by omega, ?_⟩
          have e1 : (1000100 + (i : Int)).toNat = 1000100 + i := by omega
          have e2 : (((1000001 + s : Nat) : Int)).toNat = 1000001 + s := by omega
          rw [e1, e2]
          refine (hX s i hs i1).mpr (wl_inj _ _ i1 hsw ?_)
          exact p32_inj _ _ (wl_ok i i1).1 hw.1 (i3.symm.trans q)
      · rw [i1]
        constructor
        · rintro (q | ⟨q, -⟩) <;> omega
        · intro q; exact absurd q (i2 _ hsw)
    by_cases c : b 148 12 = p27 (wl (swl.getD s 0))
    · rw [if_pos (hq.mpr c), c, if_pos (by rw [if_neg (Int.lt_irrefl _), if_pos rfl])]
    · rw [if_neg (fun q => c (hq.mp q)), if_neg]
      by_cases d : p27 (wl (swl.getD s 0)) < b 148 12
      · rw [if_pos d]; decide
      · rw [if_neg d, if_neg c]; decide
  · rw [h1, h2, if_neg (by decide), if_neg (by decide)]
  · rw [h1, h2, if_neg (by decide), if_neg (by decide)]
set_option maxRecDepth 16384 in
theorem mark_ok {X : KO} {a b : MM} (h : TKR X a b) (c : Int) : f152 a 1 c = f215 b 148 c := by
  obtain ⟨-, -, h⟩ := h
  unfold f152 f215
  rcases h with ⟨h1, h2⟩ | ⟨h1, h2⟩ | ⟨h1, h2, -⟩ | ⟨h1, h2, -⟩ | ⟨h1, h2, h3⟩
  · rw [h1, h2, if_neg (by decide), if_neg (by decide)]
  · rw [h1, h2, if_neg (by decide), if_neg (by decide)]
  · rw [h1, h2, if_neg (by decide), if_neg (by decide)]
  · rw [h1, h2, if_neg (by decide), if_neg (by decide)]
  · rw [if_pos h1, if_pos h2, h3]
set_option maxRecDepth 16384 in
/-- whether it is a name -/
theorem name_ok {X : KO} {ρ : Nat → Int32} {a b b' : MM} {rl : List (Nat × Int)} (h : TKR X a b) (hr : Run X ρ 211 [(1, 148)] b rl b') : rl = [(1, f153 a 1)] ∧ b' = b ∧ (f153 a 1 = 1 ∨ f153 a 1 = 0) ∧ (f153 a 1 = 1 → NRel (a 1 7) (b 148 12)) := by
  obtain ⟨-, -, h⟩ := h
  obtain ⟨N, ig, hr⟩ := Run_CR hr rfl
  have hr : MR X ρ 2 0 0 qP211 N 0 [148, 0] [] b (ig, rl, b') := hr
  have h0 := i211_0 hr
  have hno : ¬ b 148 7 = 2 → f153 a 1 = 0 → rl = [(1, f153 a 1)] ∧ b' = b ∧ (f153 a 1 = 1 ∨ f153 a 1 = 0) ∧ (f153 a 1 = 1 → NRel (a 1 7) (b 148 12)) := fun hb ha => by
    rcases h0 with ⟨c, _⟩ | ⟨c, h⟩
    · exact absurd c hb
    · cases h
      rw [ha]
      exact ⟨rfl, rfl, Or.inr rfl, fun q => absurd q (by decide)⟩
  rcases h with ⟨h1, h2⟩ | ⟨h1, h2⟩ | ⟨h1, h2, h3, h4⟩ | ⟨h1, h2, -⟩ | ⟨h1, h2, -⟩
  · exact hno (by rw [h2]; decide) (by unfold f153; rw [h1]; rfl)
  · exact hno (by rw [h2]; decide) (by unfold f153; rw [h1]; rfl)
  · rcases h0 with ⟨c, hr⟩ | ⟨c, _⟩
    · have key : ∀ (N : Nat) (i : Nat), MR X ρ 2 0 0 qP211 N 12 [148, (i : Int)] [] b (ig, rl, b') → i ≤ 30 → (∀ j : Nat, j < i → b 148 12 ≠ p27 (wl j)) → b' = b ∧ ((rl = [(1, 1)] ∧ ∀ j : Nat, j < 30 → b 148 12 ≠ p27 (wl j)) ∨ (rl = [(1, 0)] ∧ ∃ j : Nat, j < 30 ∧ b 148 12 = p27 (wl j))) := by
        intro N
        induction N with
        | zero =>
          intro i h hi hj
          rcases i211_12 h with ⟨d, h⟩ | ⟨d, h⟩
          · cases h
            exact ⟨rfl, Or.inl ⟨rfl, fun j hj2 => hj j (by omega)⟩⟩
          · rw [f291_w b i (by omega)] at h
            rcases h with ⟨d2, h⟩ | ⟨d2, N', e, _⟩
            · cases h
              refine ⟨rfl, Or.inr ⟨rfl, i, by omega, ?_⟩⟩
              by_cases q1 : p27 (wl i) < b 148 12
              · rw [if_pos q1] at d2; cases d2
              · rw [if_neg q1] at d2
                by_cases q2 : b 148 12 = p27 (wl i)
                · exact q2
                · rw [if_neg q2] at d2; cases d2
            · cases e
        | succ N ih =>
          intro i h hi hj
          rcases i211_12 h with ⟨d, h⟩ | ⟨d, h⟩
          · cases h
            exact ⟨rfl, Or.inl ⟨rfl, fun j hj2 => hj j (by omega)⟩⟩
          · rw [f291_w b i (by omega)] at h
            rcases h with ⟨d2, h⟩ | ⟨d2, N', e, h⟩
            · cases h
              refine ⟨rfl, Or.inr ⟨rfl, i, by omega, ?_⟩⟩
              by_cases q1 : p27 (wl i) < b 148 12
              · rw [if_pos q1] at d2; cases d2
              · rw [if_neg q1] at d2
                by_cases q2 : b 148 12 = p27 (wl i)
                · exact q2
                · rw [if_neg q2] at d2; cases d2
            · cases e
              rw [show s32 ((i : Int) + 1) = ((i + 1 : Nat) : Int) by rw [s32_id (by omega) (by omega)]; rfl] at h
              refine ih (i + 1) h (by omega) (fun j hj2 => ?_)
              by_cases q : j = i
              · rw [q]
                intro q2
                rw [if_neg (by omega), if_pos q2] at d2
                exact d2 rfl
              · exact hj j (by omega)
      obtain ⟨e1, e2⟩ := key N 0 hr (by omega) (fun j hj => absurd hj (by omega))
      have hm : f153 a 1 = if a 1 8 = -1 then 1 else 0 := by unfold f153; rw [if_pos h1]
      rcases e2 with ⟨e2, e3⟩ | ⟨e2, j, e3, e4⟩
      · have : a 1 8 = -1 := by
          rcases h4 with ⟨i, i1, i2, i3⟩ | ⟨i1, -⟩
          · exfalso
            have hw := wl_ok i i1
            exact e3 i i1 ((NRel_iff h3 ⟨_, hw.1, hw.2.1, hw.2.2, rfl, rfl⟩).mp i3)
          · exact i1
        rw [hm, if_pos this]
        exact ⟨e2, e1, Or.inl rfl, fun _ => h3⟩
      · have : ¬ a 1 8 = -1 := by
          rcases h4 with ⟨i, i1, i2, i3⟩ | ⟨-, i2⟩
          · omega
          · exfalso
            have hw := wl_ok j e3
            exact i2 j e3 ((NRel_iff h3 ⟨_, hw.1, hw.2.1, hw.2.2, rfl, rfl⟩).mpr e4)
        rw [hm, if_neg this]
        exact ⟨e2, e1, Or.inr rfl, fun q => absurd q (by decide)⟩
    · exact absurd h2 c
  · exact hno (by rw [h2]; decide) (by unfold f153; rw [h1]; rfl)
  · exact hno (by rw [h2]; decide) (by unfold f153; rw [h1]; rfl)
end
section
/-! The rosters that both read. -/
set_option maxRecDepth 16384 in
def LayA (a : MM) : Prop := a 9 0 = 10 ∧ a 9 1 = 11 ∧ a 9 2 = 12 ∧ a 9 3 = 13 ∧ a 9 4 = 14 ∧ a 22 1 = 23
set_option maxRecDepth 16384 in
def LayB (b : MM) : Prop := b 148 15 = 151 ∧ b 148 20 = 156
set_option maxRecDepth 16384 in
def CntR (a b : MM) : Prop := a 9 6 = b 151 0 ∧ 0 ≤ a 9 6 ∧ a 9 6 ≤ 8 ∧ a 9 7 = b 151 1 ∧ 0 ≤ a 9 7 ∧ a 9 7 ≤ 8
set_option maxRecDepth 16384 in
def NamR (a b : MM) : Prop := (∀ k, 0 ≤ k → k < a 9 6 → NRel (a 10 k) (b 156 k)) ∧ (∀ k, 0 ≤ k → k < a 9 7 → NRel (a 11 k) (b 156 (8 + k)))
set_option maxRecDepth 16384 in
def GruR (a b : MM) : Prop := ∀ k, 0 ≤ k → k < 64 → a 23 k = b 151 (12 + k) ∧ 0 ≤ a 23 k ∧ a 23 k ≤ 9 ∧ (k % 9 = 0 → a 23 k = 0)
set_option maxRecDepth 16384 in
def ShyR (a b : MM) : Prop := ∀ k, 0 ≤ k → k < 8 → a 14 k = b 151 (4 + k)
set_option maxRecDepth 16384 in
def FrmR (a b : MM) : Prop := ∀ k, 0 ≤ k → k < a 9 7 → a 12 k = b 151 (76 + k) ∧ a 13 k = b 151 (84 + k) ∧ 0 ≤ a 12 k ∧ a 12 k < 8 ∧ 1 ≤ a 13 k ∧ a 13 k ≤ 9
set_option maxRecDepth 16384 in
def RulR (a b : MM) : Prop := a 9 5 = b 148 24 ∧ a 9 8 = b 151 2 ∧ a 22 7 = b 151 3 ∧ (a 9 5 = 0 ∨ a 9 5 = 1)
set_option maxRecDepth 16384 in
def RR (a b : MM) : Prop := LayA a ∧ LayB b ∧ CntR a b ∧ NamR a b ∧ GruR a b ∧ ShyR a b ∧ FrmR a b ∧ RulR a b
set_option maxRecDepth 16384 in
/-- the places that tokens and faults are kept in -/
def PT (a k : Int) : Prop := a = 1 ∧ 3 ≤ k
set_option maxRecDepth 16384 in
def PM (a k : Int) : Prop := a = 148 ∧ 5 ≤ k ∧ k ≤ 13
set_option maxRecDepth 16384 in
theorem P148_PT (a k : Int) (h : P148 a k) : PT a k := ⟨h.1, h.2.1⟩
set_option maxRecDepth 16384 in
theorem P195_PM (a k : Int) (h : P195 a k) : PM a k := ⟨h.1, by have := h.2; omega, by have := h.2; omega⟩
set_option maxRecDepth 16384 in
theorem RR_fr {a a' b b' : MM} (h : RR a b) (ha : Fr PT a a') (hb : Fr PM b b') : RR a' b' := by
  obtain ⟨⟨l1, l2, l3, l4, l5, l6⟩, ⟨l7, l8⟩, ⟨c1, c2, c3, c4, c5, c6⟩, ⟨n1, n2⟩, hg, hs, hf, ⟨r1, r2, r3, r4⟩⟩ := h
  have ea : ∀ x k, x ≠ 1 → a' x k = a x k := fun x k hx => ha x k (fun q => hx q.1)
  have eb : ∀ x k, x ≠ 148 → b' x k = b x k := fun x k hx => hb x k (fun q => hx q.1)
  have eb2 : ∀ k, 13 < k → b' 148 k = b 148 k := fun k hk => hb 148 k (fun q => by have := q.2.2; omega)
  have e96 := ea 9 6 (by decide)
  have e97 := ea 9 7 (by decide)
  refine ⟨⟨by rw [ea _ _ (by decide)]; exact l1, by rw [ea _ _ (by decide)]; exact l2, by rw [ea _ _ (by decide)]; exact l3, by rw [ea _ _ (by decide)]; exact l4, by rw [ea _ _ (by decide)]; exact l5, by rw [ea _ _ (by decide)]; exact l6⟩, ⟨by rw [eb2 _ (by decide)]; exact l7, by rw [eb2 _ (by decide)]; exact l8⟩, ⟨?_, ?_, ?_, ?_, ?_, ?_⟩, ⟨fun k k1 k2 => ?_, fun k k1 k2 => ?_⟩, fun k k1 k2 => ?_, fun k k1 k2 => ?_, fun k k1 k2 => ?_, ⟨?_, ?_, ?_, ?_⟩⟩
  · rw [e96, eb _ _ (by decide)]; exact c1
  · rw [e96]; exact c2
  · rw [e96]; exact c3
  · rw [e97, eb _ _ (by decide)]; exact c4
  · rw [e97]; exact c5
  · rw [e97]; exact c6
  · rw [e96] at k2; rw [ea _ _ (by decide), eb _ _ (by decide)]; exact n1 k k1 k2
  · rw [e97] at k2; rw [ea _ _ (by decide), eb _ _ (by decide)]; exact n2 k k1 k2
  · rw [ea _ _ (by decide), eb _ _ (by decide)]; exact hg k k1 k2
  · rw [ea _ _ (by decide), eb _ _ (by decide)]; exact hs k k1 k2
  · rw [e97] at k2; rw [ea _ _ (by decide), ea _ _ (by decide), eb _ _ (by decide), eb _ _ (by decide)]; exact hf k k1 k2
  · rw [ea _ _ (by decide), eb2 _ (by decide)]; exact r1
  · rw [ea _ _ (by decide), eb _ _ (by decide)]; exact r2
  · rw [ea _ _ (by decide), eb _ _ (by decide)]; exact r3
  · rw [ea _ _ (by decide)]; exact r4
set_option maxRecDepth 16384 in
/-- a name looked up in a row of the class: the first place, or -1 -/
def Fnd (u : Int → Int) (n : Int) (x v : Int) : Prop := (v = -1 ∧ ∀ k, 0 ≤ k → k < n → u k ≠ x) ∨ (0 ≤ v ∧ v < n ∧ u v = x ∧ ∀ k, 0 ≤ k → k < v → u k ≠ x)
set_option maxRecDepth 16384 in
theorem Fnd_u {u u' : Int → Int} {n x x' v v' : Int} (hr : ∀ k, 0 ≤ k → k < n → (u k = x ↔ u' k = x')) (h : Fnd u n x v) (h' : Fnd u' n x' v') : v = v' := by
  rcases h with ⟨h1, h2⟩ | ⟨h1, h2, h3, h4⟩
  · rcases h' with ⟨g1, g2⟩ | ⟨g1, g2, g3, g4⟩
    · omega
    · exact absurd ((hr v' g1 g2).mpr g3) (h2 v' g1 g2)
  · rcases h' with ⟨g1, g2⟩ | ⟨g1, g2, g3, g4⟩
    · exact absurd ((hr v h1 h2).mp h3) (g2 v h1 h2)
    · rcases Int.lt_trichotomy v v' with c | c | c
      · exact absurd ((hr v h1 h2).mp h3) (g4 v h1 c)
      · exact c
      · exact absurd ((hr v' g1 g2).mpr g3) (h4 v' g1 c)
set_option maxRecDepth 16384 in
theorem cmp0 {x y : Int} : (if y < x then (1 : Int) else if x = y then 0 else -1) = 0 ↔ x = y := by
  by_cases h : y < x
  · rw [if_pos h]
    constructor
    · intro q; exact absurd q (by decide)
    · intro q; omega
  · rw [if_neg h]
    by_cases h2 : x = y
    · rw [if_pos h2]; exact ⟨fun _ => h2, fun _ => rfl⟩
    · rw [if_neg h2]
      constructor
      · intro q; exact absurd q (by decide)
      · intro q; exact absurd q h2
set_option maxRecDepth 16384 in
theorem A75 {X : KO} {ρ : Nat → Int32} {m m' : MM} {rl : List (Nat × Int)} {a0 x : Int} (h0 : 0 ≤ m a0 6) (h8 : m a0 6 ≤ 8) (h : Run X ρ 75 [(1, a0), (2, x)] m rl m') : m' = m ∧ ∃ v, rl = [(1, v)] ∧ Fnd (fun k => m (m a0 0) k) (m a0 6) x v := by
  obtain ⟨N, ig, h⟩ := Run_CR h rfl
  have h : MR X ρ 4 0 0 qP75 N 0 [a0, x, 0, 0] [] m (ig, rl, m') := h
  have h := i75_0 h
  have key : ∀ (N : Nat) (i : Int), MR X ρ 4 0 0 qP75 N 2 [a0, x, 0, i] [] m (ig, rl, m') → 0 ≤ i → i ≤ m a0 6 → (∀ k, 0 ≤ k → k < i → m (m a0 0) k ≠ x) → m' = m ∧ ∃ v, rl = [(1, v)] ∧ Fnd (fun k => m (m a0 0) k) (m a0 6) x v := by
    intro N
    induction N with
    | zero =>
      intro i h hi hi2 hk
      rcases i75_2 h with ⟨c, h⟩ | ⟨c, h⟩
      · cases h
        exact ⟨rfl, -1, rfl, Or.inl ⟨rfl, fun k k1 k2 => hk k k1 (by omega)⟩⟩
      rcases h with ⟨c2, _⟩ | ⟨c2, h⟩
      · omega
      rcases h with ⟨c3, h⟩ | ⟨c3, N', e, _⟩
      · cases h
        exact ⟨rfl, i, rfl, Or.inr ⟨hi, by omega, cmp0.mp c3, hk⟩⟩
      · cases e
    | succ N ih =>
      intro i h hi hi2 hk
      rcases i75_2 h with ⟨c, h⟩ | ⟨c, h⟩
      · cases h
        exact ⟨rfl, -1, rfl, Or.inl ⟨rfl, fun k k1 k2 => hk k k1 (by omega)⟩⟩
      rcases h with ⟨c2, _⟩ | ⟨c2, h⟩
      · omega
      rcases h with ⟨c3, h⟩ | ⟨c3, N', e, h⟩
      · cases h
        exact ⟨rfl, i, rfl, Or.inr ⟨hi, by omega, cmp0.mp c3, hk⟩⟩
      · cases e
        rw [s32_id (z := i + 1) (by omega) (by omega)] at h
        refine ih (i + 1) h (by omega) (by omega) (fun k k1 k2 => ?_)
        by_cases d : k = i
        · rw [d]; exact fun q => c3 (cmp0.mpr q)
        · exact hk k k1 (by omega)
  exact key N 0 h (Int.le_refl _) h0 (fun k k1 k2 => by omega)
set_option maxRecDepth 16384 in
theorem A70 {X : KO} {ρ : Nat → Int32} {m m' : MM} {rl : List (Nat × Int)} {a0 x : Int} (h0 : 0 ≤ m a0 7) (h8 : m a0 7 ≤ 8) (h : Run X ρ 70 [(1, a0), (2, x)] m rl m') : m' = m ∧ ∃ v, rl = [(1, v)] ∧ Fnd (fun k => m (m a0 1) k) (m a0 7) x v := by
  obtain ⟨N, ig, h⟩ := Run_CR h rfl
  have h : MR X ρ 4 0 0 qP70 N 0 [a0, x, 0, 0] [] m (ig, rl, m') := h
  have h := i70_0 h
  have key : ∀ (N : Nat) (i : Int), MR X ρ 4 0 0 qP70 N 2 [a0, x, 0, i] [] m (ig, rl, m') → 0 ≤ i → i ≤ m a0 7 → (∀ k, 0 ≤ k → k < i → m (m a0 1) k ≠ x) → m' = m ∧ ∃ v, rl = [(1, v)] ∧ Fnd (fun k => m (m a0 1) k) (m a0 7) x v := by
    intro N
    induction N with
    | zero =>
      intro i h hi hi2 hk
      rcases i70_2 h with ⟨c, h⟩ | ⟨c, h⟩
      · cases h
        exact ⟨rfl, -1, rfl, Or.inl ⟨rfl, fun k k1 k2 => hk k k1 (by omega)⟩⟩
      rcases h with ⟨c2, _⟩ | ⟨c2, h⟩
      · omega
      rcases h with ⟨c3, h⟩ | ⟨c3, N', e, _⟩
      · cases h
        exact ⟨rfl, i, rfl, Or.inr ⟨hi, by omega, cmp0.mp c3, hk⟩⟩
      · cases e
    | succ N ih =>
      intro i h hi hi2 hk
      rcases i70_2 h with ⟨c, h⟩ | ⟨c, h⟩
      · cases h
        exact ⟨rfl, -1, rfl, Or.inl ⟨rfl, fun k k1 k2 => hk k k1 (by omega)⟩⟩
      rcases h with ⟨c2, _⟩ | ⟨c2, h⟩
      · omega
      rcases h with ⟨c3, h⟩ | ⟨c3, N', e, h⟩
      · cases h
        exact ⟨rfl, i, rfl, Or.inr ⟨hi, by omega, cmp0.mp c3, hk⟩⟩
      · cases e
        rw [s32_id (z := i + 1) (by omega) (by omega)] at h
        refine ih (i + 1) h (by omega) (by omega) (fun k k1 k2 => ?_)
        by_cases d : k = i
        · rw [d]; exact fun q => c3 (cmp0.mpr q)
        · exact hk k k1 (by omega)
  exact key N 0 h (Int.le_refl _) h0 (fun k k1 k2 => by omega)
set_option maxRecDepth 16384 in
theorem B190 {X : KO} {ρ : Nat → Int32} {m m' : MM} {rl : List (Nat × Int)} {r base n x : Int} (hb : 0 ≤ base) (hb2 : base ≤ 8) (h0 : 0 ≤ n) (h8 : n ≤ 8) (h : Run X ρ 190 [(1, r), (1, base), (1, n), (2, x)] m rl m') : m' = m ∧ ∃ v, rl = [(1, v)] ∧ Fnd (fun k => m r (base + k)) n x v := by
  obtain ⟨N, ig, h⟩ := Run_CR h rfl
  have h : MR X ρ 6 0 0 qP190 N 0 [r, base, n, x, 0, 0] [] m (ig, rl, m') := h
  have h := i190_0 h
  have key : ∀ (N : Nat) (i : Int), MR X ρ 6 0 0 qP190 N 3 [r, base, n, x, 0, i] [] m (ig, rl, m') → 0 ≤ i → i ≤ n → (∀ k, 0 ≤ k → k < i → m r (base + k) ≠ x) → m' = m ∧ ∃ v, rl = [(1, v)] ∧ Fnd (fun k => m r (base + k)) n x v := by
    intro N
    induction N with
    | zero =>
      intro i h hi hi2 hk
      rcases i190_3 h with ⟨c, h⟩ | ⟨c, h⟩
      · cases h
        exact ⟨rfl, -1, rfl, Or.inl ⟨rfl, fun k k1 k2 => hk k k1 (by omega)⟩⟩
      rw [s32_id (z := base + i) (by omega) (by omega)] at h
      rcases h with ⟨c3, h⟩ | ⟨c3, N', e, _⟩
      · cases h
        exact ⟨rfl, i, rfl, Or.inr ⟨hi, by omega, cmp0.mp c3, hk⟩⟩
      · cases e
    | succ N ih =>
      intro i h hi hi2 hk
      rcases i190_3 h with ⟨c, h⟩ | ⟨c, h⟩
      · cases h
        exact ⟨rfl, -1, rfl, Or.inl ⟨rfl, fun k k1 k2 => hk k k1 (by omega)⟩⟩
      rw [s32_id (z := base + i) (by omega) (by omega)] at h
      rcases h with ⟨c3, h⟩ | ⟨c3, N', e, h⟩
      · cases h
        exact ⟨rfl, i, rfl, Or.inr ⟨hi, by omega, cmp0.mp c3, hk⟩⟩
      · cases e
        rw [s32_id (z := i + 1) (by omega) (by omega)] at h
        refine ih (i + 1) h (by omega) (by omega) (fun k k1 k2 => ?_)
        by_cases d : k = i
        · rw [d]; exact fun q => c3 (cmp0.mpr q)
        · exact hk k k1 (by omega)
  exact key N 0 h (Int.le_refl _) h0 (fun k k1 k2 => by omega)
set_option maxRecDepth 16384 in
/-- a person's name looked up on both sides -/
theorem person_ok {a b : MM} (h : RR a b) {x y v v' : Int} (hN : NRel x y) (h1 : Fnd (fun k => a (a 9 0) k) (a 9 6) x v) (h2 : Fnd (fun k => b (b 148 20) (0 + k)) (b (b 148 15) 0) y v') : v = v' ∧ (v = -1 ∨ (0 ≤ v ∧ v < a 9 6)) := by
  obtain ⟨⟨l1, -⟩, ⟨l7, l8⟩, ⟨c1, -⟩, ⟨n1, -⟩, -⟩ := h
  rw [l7, l8] at h2
  rw [l1] at h1
  rw [← c1] at h2
  refine ⟨Fnd_u (fun k k1 k2 => ?_) h1 h2, ?_⟩
  · rw [Int.zero_add]
    exact NRel_iff (n1 k k1 k2) hN
  · rcases h1 with ⟨e, _⟩ | ⟨e1, e2, _⟩
    · exact Or.inl e
    · exact Or.inr ⟨e1, e2⟩
set_option maxRecDepth 16384 in
theorem form_ok {a b : MM} (h : RR a b) {x y v v' : Int} (hN : NRel x y) (h1 : Fnd (fun k => a (a 9 1) k) (a 9 7) x v) (h2 : Fnd (fun k => b (b 148 20) (8 + k)) (b (b 148 15) 1) y v') : v = v' ∧ (v = -1 ∨ (0 ≤ v ∧ v < a 9 7)) := by
  obtain ⟨⟨-, l1, -⟩, ⟨l7, l8⟩, ⟨-, -, -, c1, -⟩, ⟨-, n1⟩, -⟩ := h
  rw [l7, l8] at h2
  rw [l1] at h1
  rw [← c1] at h2
  refine ⟨Fnd_u (fun k k1 k2 => NRel_iff (n1 k k1 k2) hN) h1 h2, ?_⟩
  rcases h1 with ⟨e, _⟩ | ⟨e1, e2, _⟩
  · exact Or.inl e
  · exact Or.inr ⟨e1, e2⟩
set_option maxRecDepth 16384 in
/-- both stopped at the same fault -/
def FL (a b : MM) : Prop := a 1 9 = b 148 10 ∧ a 1 10 = b 148 11 ∧ a 1 9 ≠ 0
set_option maxRecDepth 16384 in
theorem bad_ok {X : KO} {a b : MM} (h : TKR X a b) {k : Int} (hk : k ≠ 0) (h4 : k = 1 ∨ a 1 4 ≠ 4) : FL (g158 a 1 k) (g168 b 148 k) := by
  obtain ⟨h1, h2, h3⟩ := h
  have e1 : (g158 a 1 k) 1 9 = k := by unfold g158; rw [mu_k (by decide), mu_s]
  have e2 : (g158 a 1 k) 1 10 = a 1 5 := by unfold g158; rw [mu_s, mu_k (by decide)]
  have e3 : (g168 b 148 k) 148 10 = k := by
    unfold g168
    by_cases c : b 148 7 = 1
    · rw [if_pos c, mu_k (by decide), mu_s]
      rcases h4 with e | e
      · exact e.symm
      · exfalso
        rcases h3 with q | q | q | q | q
        · exact e q.1
        · have := q.2; omega
        · have := q.2.1; omega
        · have := q.2.1; omega
        · have := q.2.1; omega
    · rw [if_neg c, mu_k (by decide), mu_s]
  have e4 : (g168 b 148 k) 148 11 = b 148 6 := by
    unfold g168
    by_cases c : b 148 7 = 1
    · rw [if_pos c, mu_s, mu_k (by decide)]
    · rw [if_neg c, mu_s, mu_k (by decide)]
  exact ⟨e1.trans e3.symm, by rw [e2, e4]; exact h1, by rw [e1]; exact hk⟩
set_option maxRecDepth 16384 in
theorem f168_0 (b : MM) (k : Int) : f168 b 148 k = 0 := by
  unfold f168
  split <;> rfl
set_option maxRecDepth 16384 in
theorem Fr_158 (a : MM) (k : Int) : Fr PT a (g158 a 1 k) := ((Fr.rf _ _).mu ⟨rfl, by decide⟩).mu ⟨rfl, by decide⟩
set_option maxRecDepth 16384 in
theorem Fr_168 (b : MM) (k : Int) : Fr PM b (g168 b 148 k) := by
  unfold g168
  split
  · exact ((Fr.rf _ _).mu ⟨rfl, by decide, by decide⟩).mu ⟨rfl, by decide, by decide⟩
  · exact ((Fr.rf _ _).mu ⟨rfl, by decide, by decide⟩).mu ⟨rfl, by decide, by decide⟩
end
section
/-! Class and reference read a name, a number, a mark. -/
set_option maxRecDepth 16384 in
def ST (X : KO) (t : Int → Int) (L most : Int) (a b : MM) : Prop := PR X t L most a b ∧ RR a b ∧ a 1 9 = 0 ∧ b 148 10 = 0
set_option maxRecDepth 16384 in
theorem Fr.PT {a a' : MM} (h : Fr P148 a a') : Fr PT a a' := h.mo P148_PT
set_option maxRecDepth 16384 in
theorem Fr.PM {b b' : MM} (h : Fr P195 b b') : Fr PM b b' := h.mo P195_PM
set_option maxRecDepth 16384 in
/-- what a token rests on stays, where nothing of it is touched -/
theorem PR0_fr {P Q : Int → Int → Prop} {t : Int → Int} {L most : Int} {a a' b b' : MM} (h : PR0 t L most a b) (ha : Fr P a a') (hb : Fr Q b b') (hP : ∀ k, ¬ P 1 k) (hP2 : ∀ k, ¬ P 2 k) (hQ : ∀ k, 0 ≤ k → k ≤ 12 → ¬ Q 148 k) (hQ2 : ∀ k, ¬ Q 149 k) : PR0 t L most a' b' := by
  obtain ⟨h1, h2, h3, h4, h5, h6, h7⟩ := h
  have e := ha 1 3 (hP 3)
  exact ⟨TA_fr h1 ha (hP 0) (hP 1) hP2, TB_fr h2 hb (hQ 1 (by decide) (by decide)) (hQ 3 (by decide) (by decide)) hQ2, by rw [ha 1 2 (hP 2)]; exact h3, by rw [hb 148 4 (hQ 4 (by decide) (by decide))]; exact h4, by rw [e, hb 148 5 (hQ 5 (by decide) (by decide))]; exact h5, by rw [e]; exact h6, by rw [e]; exact h7⟩
set_option maxRecDepth 16384 in
theorem TKR_fr {X : KO} {P Q : Int → Int → Prop} {a a' b b' : MM} (h : TKR X a b) (ha : Fr P a a') (hb : Fr Q b b') (hP : ∀ k, ¬ P 1 k) (hQ : ∀ k, 0 ≤ k → k ≤ 12 → ¬ Q 148 k) : TKR X a' b' := by
  have ea : ∀ k, a' 1 k = a 1 k := fun k => ha 1 k (hP k)
  have eb : ∀ k, 0 ≤ k → k ≤ 12 → b' 148 k = b 148 k := fun k h1 h2 => hb 148 k (hQ k h1 h2)
  unfold TKR
  rw [ea, ea, ea, ea, ea, ea, eb 6 (by decide) (by decide), eb 5 (by decide) (by decide), eb 7 (by decide) (by decide), eb 12 (by decide) (by decide), eb 8 (by decide) (by decide), eb 9 (by decide) (by decide)]
  exact h
set_option maxRecDepth 16384 in
/-- the next token, from where only the texts need be alike -/
theorem nextST {X : KO} {ρ : Nat → Int32} {t : Int → Int} {L most : Int} {a a' b b' : MM} {rl rl' : List (Nat × Int)} (hX : XW X) (h : PR0 t L most a b) (hR : RR a b) (h9 : a 1 9 = 0) (h10 : b 148 10 = 0) (ha : Run X ρ 148 [(1, 1)] a rl a') (hb : Run X ρ 195 [(1, 148)] b rl' b') : ST X t L most a' b' ∧ Fr PT a a' ∧ Fr PM b b' := by
  obtain ⟨p1, f1, f2, -, -⟩ := next_ok hX h ha hb
  exact ⟨⟨p1, RR_fr hR f1.PT f2.PM, by rw [f1 1 9 (by unfold P148; omega)]; exact h9, by rw [f2 148 10 (by unfold P195; omega)]; exact h10⟩, f1.PT, f2.PM⟩
set_option maxRecDepth 16384 in
theorem mark_pair {X : KO} {ρ : Nat → Int32} {t : Int → Int} {L most : Int} {a a' b b' : MM} {rl rl' : List (Nat × Int)} (hX : XW X) (h : ST X t L most a b) (ha : Run X ρ 160 [(1, 1), (1, 59)] a rl a') (hb : Run X ρ 245 [(1, 148)] b rl' b') : Fr PT a a' ∧ Fr PM b b' ∧ ((rl = [(1, 0)] ∧ rl' = [(1, 0)] ∧ FL a' b') ∨ (rl = [(1, 1)] ∧ rl' = [(1, 1)] ∧ ST X t L most a' b')) := by
  obtain ⟨N, ig, ha⟩ := Run_CR ha rfl
  obtain ⟨M, ig', hb⟩ := Run_CR hb rfl
  have ha : MR X ρ 2 0 0 qP160 N 0 [1, 59] [] a (ig, rl, a') := ha
  have hb : MR X ρ 1 0 0 qP245 M 0 [148] [] b (ig', rl', b') := hb
  obtain ⟨⟨p0, p1⟩, hR, h9, h10⟩ := h
  have e := mark_ok p1 59
  have A := i160_0 ha
  have B := i245_0 hb
  rw [f168_0] at B
  rw [← e] at B
  rcases A with ⟨c, A⟩ | ⟨c, m8, r8, A⟩
  · rcases B with ⟨d, B⟩ | ⟨d, B⟩
    · cases A; cases B
      exact ⟨Fr_158 _ _, Fr_168 _ _, Or.inl ⟨rfl, rfl, bad_ok p1 (by decide) (Or.inl rfl)⟩⟩
    · exact absurd c d
  · rcases B with ⟨d, B⟩ | ⟨d, m9, r9, B⟩
    · exact absurd d c
    · cases A; cases B
      obtain ⟨s, f1, f2⟩ := nextST hX p0 hR h9 h10 r8 r9
      exact ⟨f1, f2, Or.inr ⟨rfl, rfl, s⟩⟩
set_option maxRecDepth 16384 in
theorem name_kind {a : MM} (h : f153 a 1 = 1) : a 1 4 ≠ 4 := by
  unfold f153 at h
  intro e
  rw [e, if_neg (by decide)] at h
  exact absurd h (by decide)
set_option maxRecDepth 16384 in
theorem person_pair {X : KO} {ρ : Nat → Int32} {t : Int → Int} {L most : Int} {a a' b b' : MM} {rl rl' : List (Nat × Int)} (h : ST X t L most a b) (ha : Run X ρ 76 [(1, 9), (1, 1)] a rl a') (hb : Run X ρ 212 [(1, 148)] b rl' b') : Fr PT a a' ∧ Fr PM b b' ∧ ((rl = [(1, -1)] ∧ rl' = [(1, 0)] ∧ FL a' b') ∨ ∃ v, rl = [(1, v)] ∧ rl' = [(1, 1)] ∧ 0 ≤ v ∧ v < a 9 6 ∧ a' = a ∧ b' = mu b 148 13 v) := by
  obtain ⟨N, ig, ha⟩ := Run_CR ha rfl
  obtain ⟨M, ig', hb⟩ := Run_CR hb rfl
  have ha : MR X ρ 3 0 0 qP76 N 0 [9, 1, 0] [] a (ig, rl, a') := ha
  have hb : MR X ρ 1 0 0 qP212 M 0 [148] [] b (ig', rl', b') := hb
  obtain ⟨⟨p0, p1⟩, hR, h9, h10⟩ := h
  have A := i76_0 ha
  obtain ⟨v4, m2, r2, -, B⟩ := i212_0 hb
  obtain ⟨e1, e2, e3, e4⟩ := name_ok p1 r2
  cases e1; have e2 := e2.symm; subst e2
  obtain ⟨hC1, hC2, hC3, hC4, hC5, hC6⟩ := hR.2.2.1
  rcases A with ⟨c, A⟩ | ⟨c, v, m20, r20, A⟩
  · rcases B with ⟨d, B⟩ | ⟨d, B⟩
    · rw [f168_0] at B
      cases A; cases B
      exact ⟨Fr_158 _ _, Fr_168 _ _, Or.inl ⟨rfl, rfl, bad_ok p1 (by decide) (Or.inl rfl)⟩⟩
    · exact absurd c d
  · rcases B with ⟨d, B⟩ | ⟨d, v9, m7, r7, B⟩
    · exact absurd d c
    · have hn : f153 a 1 = 1 := e3.resolve_right c
      obtain ⟨g1, w, g2, g3⟩ := A75 (by omega) (by omega) r20
      cases g2; have g1 := g1.symm; subst g1
      have hrd : b (b 148 15) 0 = a 9 6 := by rw [hR.2.1.1]; exact hC1.symm
      obtain ⟨g4, w', g5, g6⟩ := B190 (by decide) (by decide) (by rw [hrd]; omega) (by rw [hrd]; omega) r7
      cases g5; have g4 := g4.symm; subst g4
      obtain ⟨q1, q2⟩ := person_ok hR (e4 hn) g3 g6
      subst q1
      rw [mu_s] at B
      rcases A with ⟨c1, A⟩ | ⟨c1, A⟩
      · subst c1
        rcases A with ⟨c2, A⟩ | ⟨c2, A⟩
        · exact absurd c2 c
        · cases A
          rcases B with ⟨_, B⟩ | ⟨d1, _⟩
          · rcases B with ⟨_, B⟩ | ⟨d2, _⟩
            · cases B
              have hT : TKR X a (mu b 148 13 (-1)) := TKR_fr p1 (Fr.rf (fun _ _ => False) _) ((Fr.rf (fun x k => x = 148 ∧ k = 13) _).mu ⟨rfl, rfl⟩) (fun _ q => q) (fun k _ _ q => by omega)
              exact ⟨Fr_158 _ _, ((Fr.rf _ _).mu ⟨rfl, by decide, by decide⟩).tr (Fr_168 _ _), Or.inl ⟨rfl, rfl, bad_ok hT (by decide) (Or.inr (name_kind hn))⟩⟩
            · exact absurd (f168_0 _ _) d2
          · exact absurd rfl d1
      · cases A
        rcases B with ⟨d1, _⟩ | ⟨_, B⟩
        · exact absurd d1 c1
        · cases B
          exact ⟨Fr.rf _ _, (Fr.rf _ _).mu ⟨rfl, by decide, by decide⟩, Or.inr ⟨_, rfl, rfl, by omega, by omega, rfl, rfl⟩⟩
set_option maxRecDepth 16384 in
theorem new_pair {X : KO} {ρ : Nat → Int32} {t : Int → Int} {L most : Int} {a a' b b' : MM} {rl rl' : List (Nat × Int)} {slot : Int} (h : ST X t L most a b) (ha : Run X ρ 74 [(1, 9), (1, 1)] a rl a') (hb : Run X ρ 252 [(1, 148), (1, slot)] b rl' b') : (rl = [(1, 0)] ∧ rl' = [(1, 0)] ∧ FL a' b' ∧ Fr PT a a' ∧ Fr PM b b') ∨ (rl = [(1, 1)] ∧ rl' = [(1, 1)] ∧ a' = a ∧ NRel (a 1 7) (b 148 12) ∧ Run X ρ 195 [(1, 148)] (mu b 156 slot (b 148 12)) [] b') := by
  obtain ⟨N, ig, ha⟩ := Run_CR ha rfl
  obtain ⟨M, ig', hb⟩ := Run_CR hb rfl
  have ha : MR X ρ 2 0 0 qP74 N 0 [9, 1] [] a (ig, rl, a') := ha
  have hb : MR X ρ 2 0 0 qP252 M 0 [148, slot] [] b (ig', rl', b') := hb
  obtain ⟨⟨p0, p1⟩, hR, h9, h10⟩ := h
  have A := i74_0 ha
  obtain ⟨v4, m2, r2, -, B⟩ := i252_0 hb
  obtain ⟨e1, e2, e3, e4⟩ := name_ok p1 r2
  cases e1; have e2 := e2.symm; subst e2
  obtain ⟨hC1, hC2, hC3, hC4, hC5, hC6⟩ := hR.2.2.1
  rcases A with ⟨c, A⟩ | ⟨c, v, m8, r8, A⟩
  · rcases B with ⟨d, B⟩ | ⟨d, B⟩
    · rw [f168_0] at B
      cases A; cases B
      exact Or.inl ⟨rfl, rfl, bad_ok p1 (by decide) (Or.inl rfl), Fr_158 _ _, Fr_168 _ _⟩
    · exact absurd c d
  · rcases B with ⟨d, B⟩ | ⟨d, v9, m7, r7, B⟩
    · exact absurd d c
    · have hn : f153 a 1 = 1 := e3.resolve_right c
      obtain ⟨g1, w, g2, g3⟩ := A75 (by omega) (by omega) r8
      cases g2; have g1 := g1.symm; subst g1
      have hrd : b (b 148 15) 0 = a 9 6 := by rw [hR.2.1.1]; exact hC1.symm
      obtain ⟨g4, w', g5, g6⟩ := B190 (by decide) (by decide) (by rw [hrd]; omega) (by rw [hrd]; omega) r7
      cases g5; have g4 := g4.symm; subst g4
      obtain ⟨q1, -⟩ := person_ok hR (e4 hn) g3 g6
      subst q1
      rcases A with ⟨c1, v20, m18, r18, A⟩ | ⟨c1, A⟩
      · rcases B with ⟨d1, v19, m17, r17, B⟩ | ⟨d1, _⟩
        · obtain ⟨g1, w2, g2, g3⟩ := A70 (by omega) (by omega) r18
          cases g2; have g1 := g1.symm; subst g1
          have hrd2 : b (b 148 15) 1 = a 9 7 := by rw [hR.2.1.1]; exact hC4.symm
          obtain ⟨g4, w2', g5, g6⟩ := B190 (by decide) (by decide) (by rw [hrd2]; omega) (by rw [hrd2]; omega) r17
          cases g5; have g4 := g4.symm; subst g4
          obtain ⟨q1, -⟩ := form_ok hR (e4 hn) g3 g6
          subst q1
          rcases A with ⟨c2, A⟩ | ⟨c2, A⟩
          · rcases B with ⟨d2, m22, r22, B⟩ | ⟨d2, _⟩
            · cases A; cases B
              rw [hR.2.1.2] at r22
              exact Or.inr ⟨rfl, rfl, rfl, e4 hn, r22⟩
            · exact absurd c2 d2
          · rcases B with ⟨d2, _⟩ | ⟨d2, B⟩
            · exact absurd d2 c2
            · rw [f168_0] at B
              cases A; cases B
              exact Or.inl ⟨rfl, rfl, bad_ok p1 (by decide) (Or.inr (name_kind hn)), Fr_158 _ _, Fr_168 _ _⟩
        · exact absurd c1 d1
      · rcases B with ⟨d1, _⟩ | ⟨d1, B⟩
        · exact absurd d1 c1
        · rw [f168_0] at B
          cases A; cases B
          exact Or.inl ⟨rfl, rfl, bad_ok p1 (by decide) (Or.inr (name_kind hn)), Fr_158 _ _, Fr_168 _ _⟩
set_option maxRecDepth 16384 in
/-- a number between two: the class looks alone, the reference goes on -/
theorem num_pair {X : KO} {ρ : Nat → Int32} {t : Int → Int} {L most : Int} {a b b' : MM} {rl' : List (Nat × Int)} {lo hi : Int} (hlo : 0 ≤ lo) (h : ST X t L most a b) (hb : Run X ρ 254 [(1, 148), (1, lo), (1, hi)] b rl' b') : (f156 a 1 lo hi = -1 ∧ rl' = [(1, 0)] ∧ FL (g156 a 1 lo hi) b' ∧ Fr PT a (g156 a 1 lo hi) ∧ Fr PM b b') ∨ (∃ v, f156 a 1 lo hi = v ∧ lo ≤ v ∧ v ≤ hi ∧ v < 1000 ∧ g156 a 1 lo hi = a ∧ rl' = [(1, 1)] ∧ Run X ρ 195 [(1, 148)] (mu b 148 13 v) [] b') := by
  obtain ⟨M, ig', hb⟩ := Run_CR hb rfl
  have hb : MR X ρ 3 0 0 qP254 M 0 [148, lo, hi] [] b (ig', rl', b') := hb
  obtain ⟨⟨p0, p1⟩, hR, h9, h10⟩ := h
  have B := i254_0 hb
  have hno : ¬ a 1 4 = 2 → ¬ b 148 7 = 3 → (f156 a 1 lo hi = -1 ∧ rl' = [(1, 0)] ∧ FL (g156 a 1 lo hi) b' ∧ Fr PT a (g156 a 1 lo hi) ∧ Fr PM b b') := fun ha hb => by
    have e1 : f156 a 1 lo hi = -1 := by unfold f156; rw [if_neg ha]
    have e2 : g156 a 1 lo hi = g158 a 1 1 := by unfold g156; rw [if_neg ha]
    rcases B with ⟨d, _⟩ | ⟨d, B⟩
    · exact absurd d hb
    · rw [f168_0] at B
      cases B
      rw [e1, e2]
      exact ⟨rfl, rfl, bad_ok p1 (by decide) (Or.inl rfl), Fr_158 _ _, Fr_168 _ _⟩
  rcases p1.2.2 with ⟨h1, h2⟩ | ⟨h1, h2⟩ | ⟨h1, h2, -⟩ | ⟨h1, h2, h3, h4, h5⟩ | ⟨h1, h2, -⟩
  · exact Or.inl (hno (by omega) (by omega))
  · exact Or.inl (hno (by omega) (by omega))
  · exact Or.inl (hno (by omega) (by omega))
  · rcases B with ⟨d, B⟩ | ⟨d, _⟩
    · have e209 : f209 b (b 148 8) lo hi = 0 ↔ ¬ (lo ≤ a 1 6 ∧ a 1 6 ≤ hi) := by
        unfold f209
        rw [← h3]
        by_cases q1 : a 1 6 < lo
        · rw [if_pos q1]; exact ⟨fun _ => by omega, fun _ => rfl⟩
        · rw [if_neg q1]
          by_cases q2 : hi < a 1 6
          · rw [if_pos q2]; exact ⟨fun _ => by omega, fun _ => rfl⟩
          · rw [if_neg q2]; exact ⟨fun q => absurd q (by decide), fun q => by omega⟩
      rcases B with ⟨d1, B⟩ | ⟨d1, m9, r9, B⟩
      · rw [f168_0] at B
        cases B
        have hq := e209.mp d1
        left
        have e1 : f156 a 1 lo hi = -1 := by
          unfold f156
          rw [if_pos h1]
          by_cases q1 : a 1 6 < lo
          · rw [if_pos q1]
          · rw [if_neg q1, if_neg (by omega)]
        have e2 : g156 a 1 lo hi = g158 a 1 2 := by
          unfold g156
          rw [if_pos h1]
          by_cases q1 : a 1 6 < lo
          · rw [if_pos q1]
          · rw [if_neg q1, if_neg (by omega)]
        rw [e1, e2]
        exact ⟨rfl, rfl, bad_ok p1 (by decide) (Or.inr (by omega)), Fr_158 _ _, Fr_168 _ _⟩
      · cases B
        have hq := Classical.not_not.mp (fun z => d1 (e209.mpr z))
        right
        have e1 : f156 a 1 lo hi = a 1 6 := by
          unfold f156
          rw [if_pos h1, if_neg (by omega), if_pos (by omega)]
        have e2 : g156 a 1 lo hi = a := by
          unfold g156
          rw [if_pos h1, if_neg (by omega), if_pos (by omega)]
        rw [← h3] at r9
        exact ⟨a 1 6, e1, by omega, by omega, by omega, e2, rfl, r9⟩
    · exact absurd h2 d
  · exact Or.inl (hno (by omega) (by omega))
end
section
/-! Bits; the lines of an office. -/
set_option maxRecDepth 16384 in
theorem bt (x : BitVec 32) (i : Nat) (hi : i < 31) : (x &&& BitVec.twoPow 32 i = 0#32) ↔ ¬ ((x.sshiftRight i) &&& 1#32 = 1#32) := by
  have h1 : (x &&& BitVec.twoPow 32 i = 0#32) ↔ x.getLsbD i = false := by
    rw [BitVec.and_twoPow]
    cases h : x.getLsbD i with
    | false => simp
    | true =>
      simp only [if_true]
      constructor
      · intro e
        have := congrArg (fun z => z.getLsbD i) e
        simp [BitVec.getLsbD_twoPow] at this
        omega
      · intro e; cases e
  have h2 : ((x.sshiftRight i) &&& 1#32 = 1#32) ↔ x.getLsbD i = true := by
    rw [BitVec.and_one_eq_setWidth_ofBool_getLsbD, BitVec.getLsbD_sshiftRight]
    have e : (!decide (32 ≤ 0) && if i + 0 < 32 then x.getLsbD (i + 0) else x.msb) = x.getLsbD i := by
      rw [if_pos (by omega)]; simp
    rw [e]
    cases x.getLsbD i <;> simp
  rw [h1, h2]
  cases x.getLsbD i <;> simp
set_option maxRecDepth 16384 in
theorem i32_z {x : Int32} : x.toInt = 0 ↔ x.toBitVec = 0#32 := by
  rw [show (0 : Int) = (0 : Int32).toInt from by decide, Int32.toInt_inj, ← Int32.toBitVec_inj]
  rfl
set_option maxRecDepth 16384 in
theorem i32_one {x : Int32} : x.toInt = 1 ↔ x.toBitVec = 1#32 := by
  rw [show (1 : Int) = (1 : Int32).toInt from by decide, Int32.toInt_inj, ← Int32.toBitVec_inj]
  rfl
set_option maxRecDepth 16384 in
theorem bit_q (X : Int32) (q : Int) (i : Nat) (hi : i < 31) (h1 : (Int32.ofInt 1 <<< (Int32.ofInt q &&& 31)).toBitVec = BitVec.twoPow 32 i) (h2 : (Int32.ofInt q &&& 31).toBitVec.smod 32 = BitVec.ofNat 32 i) : (X &&& (Int32.ofInt 1 <<< (Int32.ofInt q &&& 31))).toInt = 0 ↔ ¬ ((X >>> (Int32.ofInt q &&& 31)) &&& Int32.ofInt 1).toInt = 1 := by
  rw [i32_z, i32_one, Int32.toBitVec_and, h1, Int32.toBitVec_and, Int32.toBitVec_shiftRight, h2]
  have e : X.toBitVec.sshiftRight' (BitVec.ofNat 32 i) = X.toBitVec.sshiftRight i := by
    show X.toBitVec.sshiftRight (BitVec.ofNat 32 i).toNat = _
    rw [BitVec.toNat_ofNat, Nat.mod_eq_of_lt (by omega)]
  rw [e]
  exact bt _ i hi
set_option maxRecDepth 16384 in
theorem has_ok (m : MM) (x q : Int) (h0 : 0 ≤ q) (h8 : q < 8) : f199 m x q = 0 ↔ jand x (jshl 1 q) = 0 := by
  have key : jand x (jshl 1 q) = 0 ↔ ¬ jand (jshr x q) 1 = 1 := by
    rw [jand_eq, jand_eq, jshl_eq, jshr_eq]
    unfold o32
    rw [Int32.ofInt_toInt, Int32.ofInt_toInt]
    obtain ⟨i, rfl⟩ : ∃ i : Nat, q = (i : Int) := ⟨q.toNat, by omega⟩
    have hi : i < 8 := by omega
    match i, hi with
    | 0, _ => exact bit_q _ _ 0 (by decide) (by decide) (by decide)
    | 1, _ => exact bit_q _ _ 1 (by decide) (by decide) (by decide)
    | 2, _ => exact bit_q _ _ 2 (by decide) (by decide) (by decide)
    | 3, _ => exact bit_q _ _ 3 (by decide) (by decide) (by decide)
    | 4, _ => exact bit_q _ _ 4 (by decide) (by decide) (by decide)
    | 5, _ => exact bit_q _ _ 5 (by decide) (by decide) (by decide)
    | 6, _ => exact bit_q _ _ 6 (by decide) (by decide) (by decide)
    | 7, _ => exact bit_q _ _ 7 (by decide) (by decide) (by decide)
    | n + 8, h => omega
  rw [key]
  unfold f199
  by_cases c : jand (jshr x q) 1 = 1
  · rw [if_pos c]; exact ⟨fun h => absurd h (by decide), fun h => absurd c h⟩
  · rw [if_neg c]; exact ⟨fun _ => c, fun _ => rfl⟩
set_option maxRecDepth 16384 in
theorem s32_jor (a b : Int) : s32 (jor a b) = jor a b := by
  rw [jor_eq]
  unfold o32
  exact s32_id (Int32.le_toInt _) (Int32.toInt_lt _)
set_option maxRecDepth 16384 in
/-- what lines may change -/
def VA (a k : Int) : Prop := (a = 1 ∧ 3 ≤ k) ∨ (a = 9 ∧ 5 ≤ k) ∨ (10 ≤ a ∧ a ≤ 14 ∧ 0 ≤ k) ∨ (a = 22 ∧ k = 7) ∨ (a = 23 ∧ 0 ≤ k)
set_option maxRecDepth 16384 in
def VB (a k : Int) : Prop := (a = 148 ∧ 5 ≤ k ∧ k ≤ 13) ∨ (a = 148 ∧ k = 24) ∨ (a = 151 ∧ 0 ≤ k) ∨ (a = 156 ∧ 0 ≤ k)
set_option maxRecDepth 16384 in
theorem Fr.va {a a' : MM} (h : Fr (fun a k => a = 1 ∧ 3 ≤ k) a a') : Fr VA a a' := h.mo (fun x k q => Or.inl q)
set_option maxRecDepth 16384 in
theorem Fr.vb {a a' : MM} (h : Fr (fun a k => a = 148 ∧ 5 ≤ k ∧ k ≤ 13) a a') : Fr VB a a' := h.mo (fun x k q => Or.inl q)
set_option maxRecDepth 16384 in
/-- how a line ends on both sides: at a fault, or at the mark -/
def LE (X : KO) (ρ : Nat → Int32) (t : Int → Int) (L : Int) (a a' b b1 : MM) (rl rl' : List (Nat × Int)) : Prop := (rl = [(1, 0)] ∧ rl' = [(1, 0)] ∧ FL a' b1 ∧ Fr VA a a' ∧ Fr VB b b1) ∨ (rl' = [(1, 1)] ∧ Fr VB b b1 ∧ ∃ a1, Fr VA a a1 ∧ Prog a a1 ∧ ST X t L 900 a1 b1 ∧ Run X ρ 160 [(1, 1), (1, 59)] a1 rl a')
set_option maxRecDepth 16384 in
theorem FL_fr {a a' b : MM} (h : FL a b) (h1 : a' 1 9 = a 1 9) (h2 : a' 1 10 = a 1 10) : FL a' b := by
  unfold FL
  rw [h1, h2]
  exact h
set_option maxRecDepth 16384 in
theorem rule_line {X : KO} {ρ : Nat → Int32} {t : Int → Int} {L : Int} {a a' b b1 : MM} {rl rl' : List (Nat × Int)} (hX : XW X) (hS : XS X) (h : ST X t L 900 a b) (h4 : a 1 4 ≠ 4) (ha : Run X ρ 81 [(1, 9), (1, 1)] a rl a') (hb : Run X ρ 260 [(1, 148)] b rl' b1) : LE X ρ t L a a' b b1 rl rl' := by
  obtain ⟨N, ig, ha⟩ := Run_CR ha rfl
  obtain ⟨M, ig', hb⟩ := Run_CR hb rfl
  have ha : MR X ρ 2 0 0 qP81 N 0 [9, 1] [] a (ig, rl, a') := ha
  have hb : MR X ρ 1 0 0 qP260 M 0 [148] [] b (ig', rl', b1) := hb
  obtain ⟨⟨p0, p1⟩, hR, h9, h10⟩ := h
  have A := i81_0 ha
  have B := i260_0 hb
  have hrt : a 9 5 = b 148 24 := hR.2.2.2.2.2.2.2.1
  rw [← hrt] at B
  rcases A with ⟨c, m3, r3, A⟩ | ⟨c, A⟩
  · rcases B with ⟨d, m3', r3', B⟩ | ⟨d, _⟩
    · -- the reference notes the rule ahead of the next token
      have e0 : PR0 t L 900 a (mu b 148 24 1) := PR0_fr p0 (Fr.rf (fun _ _ => False) _) ((Fr.rf (fun x k => x = 148 ∧ k = 24) _).mu ⟨rfl, rfl⟩) (fun _ q => q) (fun _ q => q) (fun k _ _ q => by omega) (fun k q => by omega)
      obtain ⟨⟨q0, q1⟩, f1, f2, -, -⟩ := next_ok hX e0 r3 r3'
      -- behind the token: rosters alike but for the rule
      have f2' : Fr VB b m3' := ((Fr.rf VB b).mu (v := 1) (Or.inr (Or.inl ⟨rfl, rfl⟩))).tr f2.PM.vb
      have f1' : Fr VA a m3 := f1.PT.va
      have hR0 : RR a b := hR
      obtain ⟨⟨l1, l2, l3, l4, l5, l6⟩, ⟨l7, l8⟩, ⟨c1, c2, c3, c4, c5, c6⟩, ⟨n1, n2⟩, hg, hs, hf, ⟨r1, r2, r3x, r4⟩⟩ := hR
      have ea : ∀ x k, x ≠ 1 → m3 x k = a x k := fun x k hx => f1.PT x k (fun q => hx q.1)
      have eb : ∀ x k, x ≠ 148 → m3' x k = b x k := fun x k hx => by rw [f2.PM x k (fun q => hx q.1), mu_a hx]
      have eb24 : m3' 148 24 = 1 := by rw [f2.PM 148 24 (fun q => by have := q.2.2; omega), mu_s]
      have eb15 : m3' 148 15 = 151 := by rw [f2.PM 148 15 (fun q => by have := q.2.2; omega), mu_k (by decide)]; exact l7
      have eb20 : m3' 148 20 = 156 := by rw [f2.PM 148 20 (fun q => by have := q.2.2; omega), mu_k (by decide)]; exact l8
      have g9 : m3 1 9 = 0 := by rw [f1 1 9 (by unfold P148; omega)]; exact h9
      have g10 : m3' 148 10 = 0 := by rw [f2 148 10 (by unfold P195; omega), mu_k (by decide)]; exact h10
      have w1 := word_ok hS q1 (s := 14) (by decide)
      have w2 := word_ok hS q1 (s := 15) (by decide)
      have w1 : f155 X m3 1 1000015 = f217 m3' 148 6 := w1
      have w2 : f155 X m3 1 1000016 = f217 m3' 148 7 := w2
      rw [← w1, ← w2] at B
      -- once the rule is written on both sides
      have hfin : ∀ (v : Int) (ma mb : MM), v = f155 X m3 1 1000016 → Run X ρ 148 [(1, 1)] (mu (mu m3 9 5 1) 9 8 (f155 X (mu m3 9 5 1) 1 1000016)) [] ma → Run X ρ 195 [(1, 148)] (mu m3' 151 2 v) [] mb → Run X ρ 160 [(1, 1), (1, 59)] ma rl a' → b1 = mb → rl' = [(1, 1)] → LE X ρ t L a a' b b1 rl rl' := by
        intro v ma mb hv ra rb rm e1 e2
        subst e1
        have hw : f155 X (mu m3 9 5 1) 1 1000016 = v := by
          rw [hv]
          unfold f155
          rw [mu_a (by decide), mu_a (by decide)]
        rw [hw] at ra
        have fa : Fr (fun x k => x = 9 ∧ (k = 5 ∨ k = 8)) m3 (mu (mu m3 9 5 1) 9 8 v) := ((Fr.rf _ _).mu ⟨rfl, Or.inl rfl⟩).mu ⟨rfl, Or.inr rfl⟩
        have fb : Fr (fun x k => x = 151 ∧ k = 2) m3' (mu m3' 151 2 v) := (Fr.rf _ _).mu ⟨rfl, rfl⟩
        have p0' : PR0 t L 900 (mu (mu m3 9 5 1) 9 8 v) (mu m3' 151 2 v) := PR0_fr q0 fa fb (fun k q => by omega) (fun k q => by omega) (fun k _ _ q => by omega) (fun k q => by omega)
        have hR' : RR (mu (mu m3 9 5 1) 9 8 v) (mu m3' 151 2 v) := by
          have ea' : ∀ x k, x ≠ 1 → ¬ (x = 9 ∧ (k = 5 ∨ k = 8)) → (mu (mu m3 9 5 1) 9 8 v) x k = a x k := fun x k hx hn => by rw [fa x k hn]; exact ea x k hx
          have eb' : ∀ x k, x ≠ 148 → ¬ (x = 151 ∧ k = 2) → (mu m3' 151 2 v) x k = b x k := fun x k hx hn => by rw [fb x k hn]; exact eb x k hx
          have e96 := ea' 9 6 (by decide) (by decide)
          have e97 := ea' 9 7 (by decide) (by decide)
          refine ⟨⟨?_, ?_, ?_, ?_, ?_, ?_⟩, ⟨?_, ?_⟩, ⟨?_, ?_, ?_, ?_, ?_, ?_⟩, ⟨fun k k1 k2 => ?_, fun k k1 k2 => ?_⟩, fun k k1 k2 => ?_, fun k k1 k2 => ?_, fun k k1 k2 => ?_, ⟨?_, ?_, ?_, ?_⟩⟩
          · rw [ea' _ _ (by decide) (by decide)]; exact l1
          · rw [ea' _ _ (by decide) (by decide)]; exact l2
          · rw [ea' _ _ (by decide) (by decide)]; exact l3
          · rw [ea' _ _ (by decide) (by decide)]; exact l4
          · rw [ea' _ _ (by decide) (by decide)]; exact l5
          · rw [ea' _ _ (by decide) (by decide)]; exact l6
          · rw [mu_a (by decide)]; exact eb15
          · rw [mu_a (by decide)]; exact eb20
          · rw [e96, eb' _ _ (by decide) (by decide)]; exact c1
          · rw [e96]; exact c2
          · rw [e96]; exact c3
          · rw [e97, eb' _ _ (by decide) (by decide)]; exact c4
          · rw [e97]; exact c5
          · rw [e97]; exact c6
          · rw [e96] at k2; rw [ea' _ _ (by decide) (by omega), eb' _ _ (by decide) (by omega)]; exact n1 k k1 k2
          · rw [e97] at k2; rw [ea' _ _ (by decide) (by omega), eb' _ _ (by decide) (by omega)]; exact n2 k k1 k2
          · rw [ea' _ _ (by decide) (by omega), eb' _ _ (by decide) (by omega)]; exact hg k k1 k2
          · rw [ea' _ _ (by decide) (by omega), eb' _ _ (by decide) (by omega)]; exact hs k k1 k2
          · rw [e97] at k2; rw [ea' _ _ (by decide) (by omega), ea' _ _ (by decide) (by omega), eb' _ _ (by decide) (by omega), eb' _ _ (by decide) (by omega)]; exact hf k k1 k2
          · rw [mu_k (by decide), mu_s, mu_a (by decide), eb24]
          · rw [mu_s, mu_s]
          · rw [ea' _ _ (by decide) (by decide), eb' _ _ (by decide) (by decide)]; exact r3x
          · rw [mu_k (by decide), mu_s]; exact Or.inr rfl
        have hP : Prog a ma := by
          have z1 := mon_ok hX p0 r3
          have z2 := mon_ok hX p0' ra
          unfold Prog at *
          rw [mu_a (by decide), mu_a (by decide)] at z2
          exact ⟨by omega, fun y1 y2 => by have := z2.2 y1 y2; omega⟩
        obtain ⟨s, g1, g2⟩ := nextST hX p0' hR' (by rw [mu_a (by decide), mu_a (by decide)]; exact g9) (by rw [mu_a (by decide)]; exact g10) ra rb
        exact Or.inr ⟨e2, (f2'.tr (fb.mo (fun x k q => Or.inr (Or.inr (Or.inl ⟨q.1, by omega⟩))))).tr g2.vb, ma, (f1'.tr (fa.mo (fun x k q => Or.inr (Or.inl ⟨q.1, by omega⟩)))).tr g1.va, hP, s, rm⟩
      have w01 : f155 X m3 1 1000016 = 0 ∨ f155 X m3 1 1000016 = 1 := by
        unfold f155
        split
        · split
          · exact Or.inr rfl
          · exact Or.inl rfl
        · exact Or.inl rfl
      rw [eb15] at B
      have z0 : s32 (0 : Int) = 0 := s32_id (by decide) (by decide)
      have z1 : s32 (1 : Int) = 1 := s32_id (by decide) (by decide)
      rw [z0, z1] at B
      rcases A with ⟨c1', A⟩ | ⟨c1', m17, r17, v22, m20, r20, _, A⟩
      · rcases B with ⟨d1, B⟩ | ⟨d1, _⟩
        · rcases A with ⟨c2', A⟩ | ⟨c2', m35, r35, v40, m38, r38, _, A⟩
          · rcases B with ⟨d2, B⟩ | ⟨d2, _⟩
            · rw [f168_0] at B
              cases A; cases B
              exact Or.inl ⟨rfl, rfl, bad_ok q1 (by decide) (Or.inl rfl), f1'.tr (Fr_158 _ _).va, f2'.tr (Fr_168 _ _).vb⟩
            · exact absurd c2' d2
          · rcases B with ⟨d2, _⟩ | ⟨d2, m36, r36, B⟩
            · exact absurd d2 c2'
            · cases A; cases B
              exact hfin 1 m35 _ (w01.resolve_left c2').symm r35 r36 r38 rfl rfl
        · exact absurd c1' d1
      · rcases B with ⟨d1, _⟩ | ⟨d1, B⟩
        · exact absurd d1 c1'
        · cases A
          rcases B with ⟨d2, m18, r18, B⟩ | ⟨d2, m21, r21, B⟩
          · cases B
            exact hfin 0 m17 _ d2.symm r17 r18 r20 rfl rfl
          · cases B
            exact hfin 1 m17 _ (w01.resolve_left d2).symm r17 r21 r20 rfl rfl
    · exact absurd c d
  · rcases B with ⟨d, _⟩ | ⟨d, B⟩
    · exact absurd d c
    · rw [f168_0] at B
      cases A; cases B
      exact Or.inl ⟨rfl, rfl, bad_ok p1 (by decide) (Or.inr h4), (Fr_158 _ _).va, (Fr_168 _ _).vb⟩
end
