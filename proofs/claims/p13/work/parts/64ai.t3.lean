set_option maxRecDepth 16384 in
theorem i68_0 {X : KO} {ρ : Nat → Int32} {m : MM} {N : Nat} {o : Instr × List (Nat × Int) × MM} {a0 : Int} (h : MR X ρ 2 0 0 qP68 N 0 [a0, 0] [] m o) : (MR X ρ 2 0 0 qP68 N 2 [a0, 0] [] m o) := by
  have h := CR_iconst h rfl rfl
  have h : MR X ρ 2 0 0 qP68 N 1 [a0, 0] [(1, 0)] m o := h
  have h := CR_istore_n h rfl (Nat.le_of_ble_eq_true rfl)
  have h : MR X ρ 2 0 0 qP68 N 2 [a0, 0] [] m o := h
  exact h
set_option maxRecDepth 16384 in
theorem i68_2 {X : KO} {ρ : Nat → Int32} {m : MM} {N : Nat} {o : Instr × List (Nat × Int) × MM} {b0 b1 : Int} (h : MR X ρ 2 0 0 qP68 N 2 [b0, b1] [] m o) : (((8 ≤ b1) ∧ (o = (.return_, [], mu (mu (mu (mu m b0 5 0) b0 6 0) b0 7 0) b0 8 0))) ∨ (¬ (8 ≤ b1) ∧ (∃ N2, N = N2 + 1 ∧ MR X ρ 2 0 0 qP68 N2 2 [b0, s32 (b1 + 1)] [] (mu m (m b0 4) b1 (s32 0)) o))) := by
  have h := CR_iload_n h rfl
  have h : MR X ρ 2 0 0 qP68 N 3 [b0, b1] [(1, b1)] m o := h
  have h := CR_bipush h rfl rfl
  have h : MR X ρ 2 0 0 qP68 N 5 [b0, b1] [(1, 8), (1, b1)] m o := h
  rcases MR_icmp h rfl rfl with ⟨c1, h⟩ | ⟨c1, h⟩
  ·
    have c1 : 8 ≤ b1 := c1
    refine Or.inl ⟨c1, ?_⟩
    have h : MR X ρ 2 0 0 qP68 N 21 [b0, b1] [] m o := h
    have h := CR_aload_n h rfl
    have h : MR X ρ 2 0 0 qP68 N 22 [b0, b1] [(1, b0)] m o := h
    have h := CR_iconst h rfl rfl
    have h : MR X ρ 2 0 0 qP68 N 23 [b0, b1] [(1, 0), (1, b0)] m o := h
    have h := CR_putf h rfl
    have h : MR X ρ 2 0 0 qP68 N 26 [b0, b1] [] (mu m b0 5 0) o := h
    have h := CR_aload_n h rfl
    have h : MR X ρ 2 0 0 qP68 N 27 [b0, b1] [(1, b0)] (mu m b0 5 0) o := h
    have h := CR_iconst h rfl rfl
    have h : MR X ρ 2 0 0 qP68 N 28 [b0, b1] [(1, 0), (1, b0)] (mu m b0 5 0) o := h
    have h := CR_putf h rfl
    have h : MR X ρ 2 0 0 qP68 N 31 [b0, b1] [] (mu (mu m b0 5 0) b0 6 0) o := h
    have h := CR_aload_n h rfl
    have h : MR X ρ 2 0 0 qP68 N 32 [b0, b1] [(1, b0)] (mu (mu m b0 5 0) b0 6 0) o := h
    have h := CR_iconst h rfl rfl
    have h : MR X ρ 2 0 0 qP68 N 33 [b0, b1] [(1, 0), (1, b0)] (mu (mu m b0 5 0) b0 6 0) o := h
    have h := CR_putf h rfl
    have h : MR X ρ 2 0 0 qP68 N 36 [b0, b1] [] (mu (mu (mu m b0 5 0) b0 6 0) b0 7 0) o := h
    have h := CR_aload_n h rfl
    have h : MR X ρ 2 0 0 qP68 N 37 [b0, b1] [(1, b0)] (mu (mu (mu m b0 5 0) b0 6 0) b0 7 0) o := h
    have h := CR_iconst h rfl rfl
    have h : MR X ρ 2 0 0 qP68 N 38 [b0, b1] [(1, 0), (1, b0)] (mu (mu (mu m b0 5 0) b0 6 0) b0 7 0) o := h
    have h := CR_putf h rfl
    have h : MR X ρ 2 0 0 qP68 N 41 [b0, b1] [] (mu (mu (mu (mu m b0 5 0) b0 6 0) b0 7 0) b0 8 0) o := h
    exact CR_end h rfl rfl
  ·
    have c1 : ¬ (8 ≤ b1) := c1
    refine Or.inr ⟨c1, ?_⟩
    have h : MR X ρ 2 0 0 qP68 N 8 [b0, b1] [] m o := h
    have h := CR_aload_n h rfl
    have h : MR X ρ 2 0 0 qP68 N 9 [b0, b1] [(1, b0)] m o := h
    have h := CR_getf h rfl (by decide)
    have h : MR X ρ 2 0 0 qP68 N 12 [b0, b1] [(1, m b0 4)] m o := h
    have h := CR_iload_n h rfl
    have h : MR X ρ 2 0 0 qP68 N 13 [b0, b1] [(1, b1), (1, m b0 4)] m o := h
    have h := CR_iconst h rfl rfl
    have h : MR X ρ 2 0 0 qP68 N 14 [b0, b1] [(1, 0), (1, b1), (1, m b0 4)] m o := h
    have h := CR_iastore_ h rfl
    have h : MR X ρ 2 0 0 qP68 N 15 [b0, b1] [] (mu m (m b0 4) b1 (s32 0)) o := h
    have h := CR_inc h rfl (Nat.le_of_ble_eq_true rfl)
    have h : MR X ρ 2 0 0 qP68 N 18 [b0, s32 (b1 + 1)] [] (mu m (m b0 4) b1 (s32 0)) o := h
    obtain ⟨N2, eN2, h⟩ := CR_goto h rfl rfl
    have h : MR X ρ 2 0 0 qP68 N2 2 [b0, s32 (b1 + 1)] [] (mu m (m b0 4) b1 (s32 0)) o := h
    exact ⟨N2, eN2, h⟩
set_option maxRecDepth 16384 in
theorem i111_0 {X : KO} {ρ : Nat → Int32} {m : MM} {N : Nat} {o : Instr × List (Nat × Int) × MM} {a0 : Int} (h : MR X ρ 1 0 0 qP111 N 0 [a0] [] m o) : (∃ m2, Run X ρ 140 [(1, a0)] m [] m2 ∧ (o = (.return_, [], m2))) := by
  have h := CR_aload_n h rfl
  have h : MR X ρ 1 0 0 qP111 N 1 [a0] [(1, a0)] m o := h
  obtain ⟨r1, m2, q3, h⟩ := MR_invV h rfl rfl
  have q3 : Run X ρ 140 [(1, a0)] m r1 m2 := q3
  obtain rfl := Run_v q3 rfl
  have h : MR X ρ 1 0 0 qP111 N 4 [a0] [] m2 o := h
  refine ⟨m2, q3, ?_⟩
  exact CR_end h rfl rfl
set_option maxRecDepth 16384 in
theorem i140_0 {X : KO} {ρ : Nat → Int32} {m : MM} {N : Nat} {o : Instr × List (Nat × Int) × MM} {a0 : Int} (h : MR X ρ 1 0 0 qP140 N 0 [a0] [] m o) : (∃ m2, Run X ρ 297 [(1, m a0 1), (1, 0)] m [] m2 ∧ (∃ m5, Run X ρ 297 [(1, m2 a0 2), (1, -1)] m2 [] m5 ∧ (∃ m8, Run X ρ 297 [(1, m5 a0 3), (1, 0)] m5 [] m8 ∧ (∃ m11, Run X ρ 297 [(1, m8 a0 4), (1, 0)] m8 [] m11 ∧ (∃ m14, Run X ρ 297 [(1, m11 a0 5), (1, 0)] m11 [] m14 ∧ (∃ m17, Run X ρ 297 [(1, m14 a0 6), (1, -1)] m14 [] m17 ∧ (o = (.return_, [], mu (mu m17 a0 7 0) a0 8 0)))))))) := by
  have h := CR_aload_n h rfl
  have h : MR X ρ 1 0 0 qP140 N 1 [a0] [(1, a0)] m o := h
  have h := CR_getf h rfl (by decide)
  have h : MR X ρ 1 0 0 qP140 N 4 [a0] [(1, m a0 1)] m o := h
  have h := CR_iconst h rfl rfl
  have h : MR X ρ 1 0 0 qP140 N 5 [a0] [(1, 0), (1, m a0 1)] m o := h
  obtain ⟨r1, m2, q3, h⟩ := MR_invS h rfl rfl
  have q3 : Run X ρ 297 [(1, m a0 1), (1, 0)] m r1 m2 := q3
  obtain rfl := Run_v q3 rfl
  have h : MR X ρ 1 0 0 qP140 N 8 [a0] [] m2 o := h
  refine ⟨m2, q3, ?_⟩
  have h := CR_aload_n h rfl
  have h : MR X ρ 1 0 0 qP140 N 9 [a0] [(1, a0)] m2 o := h
  have h := CR_getf h rfl (by decide)
  have h : MR X ρ 1 0 0 qP140 N 12 [a0] [(1, m2 a0 2)] m2 o := h
  have h := CR_iconst h rfl rfl
  have h : MR X ρ 1 0 0 qP140 N 13 [a0] [(1, -1), (1, m2 a0 2)] m2 o := h
  obtain ⟨r4, m5, q6, h⟩ := MR_invS h rfl rfl
  have q6 : Run X ρ 297 [(1, m2 a0 2), (1, -1)] m2 r4 m5 := q6
  obtain rfl := Run_v q6 rfl
  have h : MR X ρ 1 0 0 qP140 N 16 [a0] [] m5 o := h
  refine ⟨m5, q6, ?_⟩
  have h := CR_aload_n h rfl
  have h : MR X ρ 1 0 0 qP140 N 17 [a0] [(1, a0)] m5 o := h
  have h := CR_getf h rfl (by decide)
  have h : MR X ρ 1 0 0 qP140 N 20 [a0] [(1, m5 a0 3)] m5 o := h
  have h := CR_iconst h rfl rfl
  have h : MR X ρ 1 0 0 qP140 N 21 [a0] [(1, 0), (1, m5 a0 3)] m5 o := h
  obtain ⟨r7, m8, q9, h⟩ := MR_invS h rfl rfl
  have q9 : Run X ρ 297 [(1, m5 a0 3), (1, 0)] m5 r7 m8 := q9
  obtain rfl := Run_v q9 rfl
  have h : MR X ρ 1 0 0 qP140 N 24 [a0] [] m8 o := h
  refine ⟨m8, q9, ?_⟩
  have h := CR_aload_n h rfl
  have h : MR X ρ 1 0 0 qP140 N 25 [a0] [(1, a0)] m8 o := h
  have h := CR_getf h rfl (by decide)
  have h : MR X ρ 1 0 0 qP140 N 28 [a0] [(1, m8 a0 4)] m8 o := h
  have h := CR_iconst h rfl rfl
  have h : MR X ρ 1 0 0 qP140 N 29 [a0] [(1, 0), (1, m8 a0 4)] m8 o := h
  obtain ⟨r10, m11, q12, h⟩ := MR_invS h rfl rfl
  have q12 : Run X ρ 297 [(1, m8 a0 4), (1, 0)] m8 r10 m11 := q12
  obtain rfl := Run_v q12 rfl
  have h : MR X ρ 1 0 0 qP140 N 32 [a0] [] m11 o := h
  refine ⟨m11, q12, ?_⟩
  have h := CR_aload_n h rfl
  have h : MR X ρ 1 0 0 qP140 N 33 [a0] [(1, a0)] m11 o := h
  have h := CR_getf h rfl (by decide)
  have h : MR X ρ 1 0 0 qP140 N 36 [a0] [(1, m11 a0 5)] m11 o := h
  have h := CR_iconst h rfl rfl
  have h : MR X ρ 1 0 0 qP140 N 37 [a0] [(1, 0), (1, m11 a0 5)] m11 o := h
  obtain ⟨r13, m14, q15, h⟩ := MR_invS h rfl rfl
  have q15 : Run X ρ 297 [(1, m11 a0 5), (1, 0)] m11 r13 m14 := q15
  obtain rfl := Run_v q15 rfl
  have h : MR X ρ 1 0 0 qP140 N 40 [a0] [] m14 o := h
  refine ⟨m14, q15, ?_⟩
  have h := CR_aload_n h rfl
  have h : MR X ρ 1 0 0 qP140 N 41 [a0] [(1, a0)] m14 o := h
  have h := CR_getf h rfl (by decide)
  have h : MR X ρ 1 0 0 qP140 N 44 [a0] [(1, m14 a0 6)] m14 o := h
  have h := CR_iconst h rfl rfl
  have h : MR X ρ 1 0 0 qP140 N 45 [a0] [(1, -1), (1, m14 a0 6)] m14 o := h
  obtain ⟨r16, m17, q18, h⟩ := MR_invS h rfl rfl
  have q18 : Run X ρ 297 [(1, m14 a0 6), (1, -1)] m14 r16 m17 := q18
  obtain rfl := Run_v q18 rfl
  have h : MR X ρ 1 0 0 qP140 N 48 [a0] [] m17 o := h
  refine ⟨m17, q18, ?_⟩
  have h := CR_aload_n h rfl
  have h : MR X ρ 1 0 0 qP140 N 49 [a0] [(1, a0)] m17 o := h
  have h := CR_iconst h rfl rfl
  have h : MR X ρ 1 0 0 qP140 N 50 [a0] [(1, 0), (1, a0)] m17 o := h
  have h := CR_putf h rfl
  have h : MR X ρ 1 0 0 qP140 N 53 [a0] [] (mu m17 a0 7 0) o := h
  have h := CR_aload_n h rfl
  have h : MR X ρ 1 0 0 qP140 N 54 [a0] [(1, a0)] (mu m17 a0 7 0) o := h
  have h := CR_iconst h rfl rfl
  have h : MR X ρ 1 0 0 qP140 N 55 [a0] [(1, 0), (1, a0)] (mu m17 a0 7 0) o := h
  have h := CR_putf h rfl
  have h : MR X ρ 1 0 0 qP140 N 58 [a0] [] (mu (mu m17 a0 7 0) a0 8 0) o := h
  exact CR_end h rfl rfl
set_option maxRecDepth 16384 in
theorem i83_0 {X : KO} {ρ : Nat → Int32} {m : MM} {N : Nat} {o : Instr × List (Nat × Int) × MM} {a0 a1 a2 : Int} (h : MR X ρ 4 0 0 qP83 N 0 [a0, a1, a2, 0] [] m o) : (∃ m2, Run X ρ 68 [(1, a0)] m [] m2 ∧ (∃ m5, Run X ρ 111 [(1, a2)] m2 [] m5 ∧ (∃ m8, Run X ρ 149 [(1, a1), (1, 900)] m5 [] m8 ∧ (MR X ρ 4 0 0 qP83 N 17 [a0, a1, a2, 0] [] m8 o)))) := by
  have h := CR_aload_n h rfl
  have h : MR X ρ 4 0 0 qP83 N 1 [a0, a1, a2, 0] [(1, a0)] m o := h
  obtain ⟨r1, m2, q3, h⟩ := MR_invV h rfl rfl
  have q3 : Run X ρ 68 [(1, a0)] m r1 m2 := q3
  obtain rfl := Run_v q3 rfl
  have h : MR X ρ 4 0 0 qP83 N 4 [a0, a1, a2, 0] [] m2 o := h
  refine ⟨m2, q3, ?_⟩
  have h := CR_aload_n h rfl
  have h : MR X ρ 4 0 0 qP83 N 5 [a0, a1, a2, 0] [(1, a2)] m2 o := h
  obtain ⟨r4, m5, q6, h⟩ := MR_invV h rfl rfl
  have q6 : Run X ρ 111 [(1, a2)] m2 r4 m5 := q6
  obtain rfl := Run_v q6 rfl
  have h : MR X ρ 4 0 0 qP83 N 8 [a0, a1, a2, 0] [] m5 o := h
  refine ⟨m5, q6, ?_⟩
  have h := CR_aload_n h rfl
  have h : MR X ρ 4 0 0 qP83 N 9 [a0, a1, a2, 0] [(1, a1)] m5 o := h
  have h := CR_sipush h rfl rfl
  have h : MR X ρ 4 0 0 qP83 N 12 [a0, a1, a2, 0] [(1, 900), (1, a1)] m5 o := h
  obtain ⟨r7, m8, q9, h⟩ := MR_invV h rfl rfl
  have q9 : Run X ρ 149 [(1, a1), (1, 900)] m5 r7 m8 := q9
  obtain rfl := Run_v q9 rfl
  have h : MR X ρ 4 0 0 qP83 N 15 [a0, a1, a2, 0] [] m8 o := h
  refine ⟨m8, q9, ?_⟩
  have h := CR_iconst h rfl rfl
  have h : MR X ρ 4 0 0 qP83 N 16 [a0, a1, a2, 0] [(1, 0)] m8 o := h
  have h := CR_istore_n h rfl (Nat.le_of_ble_eq_true rfl)
  have h : MR X ρ 4 0 0 qP83 N 17 [a0, a1, a2, 0] [] m8 o := h
  exact h
set_option maxRecDepth 16384 in
theorem i83_17 {X : KO} {ρ : Nat → Int32} {m : MM} {N : Nat} {o : Instr × List (Nat × Int) × MM} {b0 b1 b2 b3 : Int} (h : MR X ρ 4 0 0 qP83 N 17 [b0, b1, b2, b3] [] m o) : (((900 ≤ b3) ∧ (o = (.ireturn, [(1, b3)], m))) ∨ (¬ (900 ≤ b3) ∧ ((((m b1 4) = 0) ∧ (o = (.ireturn, [(1, b3)], m))) ∨ (¬ ((m b1 4) = 0) ∧ (∃ v6 m4, Run X ρ 79 [(1, b0), (1, b1), (1, b2)] m [(1, v6)] m4 ∧ (v6 = 0 ∨ v6 = 1) ∧ (((v6 = 0) ∧ (o = (.ireturn, [(1, -1)], m4))) ∨ (¬ (v6 = 0) ∧ (∃ N8, N = N8 + 1 ∧ MR X ρ 4 0 0 qP83 N8 17 [b0, b1, b2, s32 (b3 + 1)] [] m4 o)))))))) := by
  have h := CR_iload_n h rfl
  have h : MR X ρ 4 0 0 qP83 N 18 [b0, b1, b2, b3] [(1, b3)] m o := h
  have h := CR_sipush h rfl rfl
  have h : MR X ρ 4 0 0 qP83 N 21 [b0, b1, b2, b3] [(1, 900), (1, b3)] m o := h
  rcases MR_icmp h rfl rfl with ⟨c1, h⟩ | ⟨c1, h⟩
  ·
    have c1 : 900 ≤ b3 := c1
    refine Or.inl ⟨c1, ?_⟩
    have h : MR X ρ 4 0 0 qP83 N 48 [b0, b1, b2, b3] [] m o := h
    have h := CR_iload_n h rfl
    have h : MR X ρ 4 0 0 qP83 N 49 [b0, b1, b2, b3] [(1, b3)] m o := h
    exact CR_end h rfl rfl
  ·
    have c1 : ¬ (900 ≤ b3) := c1
    refine Or.inr ⟨c1, ?_⟩
    have h : MR X ρ 4 0 0 qP83 N 24 [b0, b1, b2, b3] [] m o := h
    have h := CR_aload_n h rfl
    have h : MR X ρ 4 0 0 qP83 N 25 [b0, b1, b2, b3] [(1, b1)] m o := h
    have h := CR_getf h rfl (by decide)
    have h : MR X ρ 4 0 0 qP83 N 28 [b0, b1, b2, b3] [(1, m b1 4)] m o := h
    rcases MR_if h rfl rfl with ⟨c2, h⟩ | ⟨c2, h⟩
    ·
      have c2 : (m b1 4) = 0 := c2
      refine Or.inl ⟨c2, ?_⟩
      have h : MR X ρ 4 0 0 qP83 N 48 [b0, b1, b2, b3] [] m o := h
      have h := CR_iload_n h rfl
      have h : MR X ρ 4 0 0 qP83 N 49 [b0, b1, b2, b3] [(1, b3)] m o := h
      exact CR_end h rfl rfl
    ·
      have c2 : ¬ ((m b1 4) = 0) := c2
      refine Or.inr ⟨c2, ?_⟩
      have h : MR X ρ 4 0 0 qP83 N 31 [b0, b1, b2, b3] [] m o := h
      have h := CR_aload_n h rfl
      have h : MR X ρ 4 0 0 qP83 N 32 [b0, b1, b2, b3] [(1, b0)] m o := h
      have h := CR_aload_n h rfl
      have h : MR X ρ 4 0 0 qP83 N 33 [b0, b1, b2, b3] [(1, b1), (1, b0)] m o := h
      have h := CR_aload_n h rfl
      have h : MR X ρ 4 0 0 qP83 N 34 [b0, b1, b2, b3] [(1, b2), (1, b1), (1, b0)] m o := h
      obtain ⟨r3, m4, q5, h⟩ := MR_invV h rfl rfl
      have q5 : Run X ρ 79 [(1, b0), (1, b1), (1, b2)] m r3 m4 := q5
      obtain ⟨v6, rfl, zv6⟩ := Run_z q5 rfl
      have h : MR X ρ 4 0 0 qP83 N 37 [b0, b1, b2, b3] [(1, v6)] m4 o := h
      refine ⟨v6, m4, q5, zv6, ?_⟩
      rcases MR_if h rfl rfl with ⟨c7, h⟩ | ⟨c7, h⟩
      ·
        have c7 : ¬ (v6 = 0) := c7
        refine Or.inr ⟨c7, ?_⟩
        have h : MR X ρ 4 0 0 qP83 N 42 [b0, b1, b2, b3] [] m4 o := h
        have h := CR_inc h rfl (Nat.le_of_ble_eq_true rfl)
        have h : MR X ρ 4 0 0 qP83 N 45 [b0, b1, b2, s32 (b3 + 1)] [] m4 o := h
        obtain ⟨N8, eN8, h⟩ := CR_goto h rfl rfl
        have h : MR X ρ 4 0 0 qP83 N8 17 [b0, b1, b2, s32 (b3 + 1)] [] m4 o := h
        exact ⟨N8, eN8, h⟩
      ·
        have c7 : v6 = 0 := Decidable.of_not_not (show ¬ ¬ (v6 = 0) from c7)
        refine Or.inl ⟨c7, ?_⟩
        have h : MR X ρ 4 0 0 qP83 N 40 [b0, b1, b2, b3] [] m4 o := h
        have h := CR_iconst h rfl rfl
        have h : MR X ρ 4 0 0 qP83 N 41 [b0, b1, b2, b3] [(1, -1)] m4 o := h
        exact CR_end h rfl rfl
set_option maxRecDepth 16384 in
theorem i25_0 {X : KO} {ρ : Nat → Int32} {m : MM} {N : Nat} {o : Instr × List (Nat × Int) × MM} {a0 : Int} (h : MR X ρ 2 0 0 qP25 N 0 [a0, 0] [] m o) : (∃ v4 m2, Run X ρ 83 [(1, m a0 2), (1, m a0 0), (1, m a0 4)] m [(1, v4)] m2 ∧ (((((mu (mu m2 a0 13 (m2 (m2 a0 0) 9)) ((mu m2 a0 13 (m2 (m2 a0 0) 9)) a0 0) 1 0) a0 13) = 0) ∧ (o = (.ireturn, [(1, v4)], g161 (g89 (g113 (g67 (mu (mu m2 a0 13 (m2 (m2 a0 0) 9)) ((mu m2 a0 13 (m2 (m2 a0 0) 9)) a0 0) 1 0) ((mu (mu m2 a0 13 (m2 (m2 a0 0) 9)) ((mu m2 a0 13 (m2 (m2 a0 0) 9)) a0 0) 1 0) a0 1) ((mu (mu m2 a0 13 (m2 (m2 a0 0) 9)) ((mu m2 a0 13 (m2 (m2 a0 0) 9)) a0 0) 1 0) a0 2)) ((g67 (mu (mu m2 a0 13 (m2 (m2 a0 0) 9)) ((mu m2 a0 13 (m2 (m2 a0 0) 9)) a0 0) 1 0) ((mu (mu m2 a0 13 (m2 (m2 a0 0) 9)) ((mu m2 a0 13 (m2 (m2 a0 0) 9)) a0 0) 1 0) a0 1) ((mu (mu m2 a0 13 (m2 (m2 a0 0) 9)) ((mu m2 a0 13 (m2 (m2 a0 0) 9)) a0 0) 1 0) a0 2)) a0 3) ((g67 (mu (mu m2 a0 13 (m2 (m2 a0 0) 9)) ((mu m2 a0 13 (m2 (m2 a0 0) 9)) a0 0) 1 0) ((mu (mu m2 a0 13 (m2 (m2 a0 0) 9)) ((mu m2 a0 13 (m2 (m2 a0 0) 9)) a0 0) 1 0) a0 1) ((mu (mu m2 a0 13 (m2 (m2 a0 0) 9)) ((mu m2 a0 13 (m2 (m2 a0 0) 9)) a0 0) 1 0) a0 2)) a0 4)) ((g113 (g67 (mu (mu m2 a0 13 (m2 (m2 a0 0) 9)) ((mu m2 a0 13 (m2 (m2 a0 0) 9)) a0 0) 1 0) ((mu (mu m2 a0 13 (m2 (m2 a0 0) 9)) ((mu m2 a0 13 (m2 (m2 a0 0) 9)) a0 0) 1 0) a0 1) ((mu (mu m2 a0 13 (m2 (m2 a0 0) 9)) ((mu m2 a0 13 (m2 (m2 a0 0) 9)) a0 0) 1 0) a0 2)) ((g67 (mu (mu m2 a0 13 (m2 (m2 a0 0) 9)) ((mu m2 a0 13 (m2 (m2 a0 0) 9)) a0 0) 1 0) ((mu (mu m2 a0 13 (m2 (m2 a0 0) 9)) ((mu m2 a0 13 (m2 (m2 a0 0) 9)) a0 0) 1 0) a0 1) ((mu (mu m2 a0 13 (m2 (m2 a0 0) 9)) ((mu m2 a0 13 (m2 (m2 a0 0) 9)) a0 0) 1 0) a0 2)) a0 3) ((g67 (mu (mu m2 a0 13 (m2 (m2 a0 0) 9)) ((mu m2 a0 13 (m2 (m2 a0 0) 9)) a0 0) 1 0) ((mu (mu m2 a0 13 (m2 (m2 a0 0) 9)) ((mu m2 a0 13 (m2 (m2 a0 0) 9)) a0 0) 1 0) a0 1) ((mu (mu m2 a0 13 (m2 (m2 a0 0) 9)) ((mu m2 a0 13 (m2 (m2 a0 0) 9)) a0 0) 1 0) a0 2)) a0 4)) a0 11)) ((g89 (g113 (g67 (mu (mu m2 a0 13 (m2 (m2 a0 0) 9)) ((mu m2 a0 13 (m2 (m2 a0 0) 9)) a0 0) 1 0) ((mu (mu m2 a0 13 (m2 (m2 a0 0) 9)) ((mu m2 a0 13 (m2 (m2 a0 0) 9)) a0 0) 1 0) a0 1) ((mu (mu m2 a0 13 (m2 (m2 a0 0) 9)) ((mu m2 a0 13 (m2 (m2 a0 0) 9)) a0 0) 1 0) a0 2)) ((g67 (mu (mu m2 a0 13 (m2 (m2 a0 0) 9)) ((mu m2 a0 13 (m2 (m2 a0 0) 9)) a0 0) 1 0) ((mu (mu m2 a0 13 (m2 (m2 a0 0) 9)) ((mu m2 a0 13 (m2 (m2 a0 0) 9)) a0 0) 1 0) a0 1) ((mu (mu m2 a0 13 (m2 (m2 a0 0) 9)) ((mu m2 a0 13 (m2 (m2 a0 0) 9)) a0 0) 1 0) a0 2)) a0 3) ((g67 (mu (mu m2 a0 13 (m2 (m2 a0 0) 9)) ((mu m2 a0 13 (m2 (m2 a0 0) 9)) a0 0) 1 0) ((mu (mu m2 a0 13 (m2 (m2 a0 0) 9)) ((mu m2 a0 13 (m2 (m2 a0 0) 9)) a0 0) 1 0) a0 1) ((mu (mu m2 a0 13 (m2 (m2 a0 0) 9)) ((mu m2 a0 13 (m2 (m2 a0 0) 9)) a0 0) 1 0) a0 2)) a0 4)) ((g113 (g67 (mu (mu m2 a0 13 (m2 (m2 a0 0) 9)) ((mu m2 a0 13 (m2 (m2 a0 0) 9)) a0 0) 1 0) ((mu (mu m2 a0 13 (m2 (m2 a0 0) 9)) ((mu m2 a0 13 (m2 (m2 a0 0) 9)) a0 0) 1 0) a0 1) ((mu (mu m2 a0 13 (m2 (m2 a0 0) 9)) ((mu m2 a0 13 (m2 (m2 a0 0) 9)) a0 0) 1 0) a0 2)) ((g67 (mu (mu m2 a0 13 (m2 (m2 a0 0) 9)) ((mu m2 a0 13 (m2 (m2 a0 0) 9)) a0 0) 1 0) ((mu (mu m2 a0 13 (m2 (m2 a0 0) 9)) ((mu m2 a0 13 (m2 (m2 a0 0) 9)) a0 0) 1 0) a0 1) ((mu (mu m2 a0 13 (m2 (m2 a0 0) 9)) ((mu m2 a0 13 (m2 (m2 a0 0) 9)) a0 0) 1 0) a0 2)) a0 3) ((g67 (mu (mu m2 a0 13 (m2 (m2 a0 0) 9)) ((mu m2 a0 13 (m2 (m2 a0 0) 9)) a0 0) 1 0) ((mu (mu m2 a0 13 (m2 (m2 a0 0) 9)) ((mu m2 a0 13 (m2 (m2 a0 0) 9)) a0 0) 1 0) a0 1) ((mu (mu m2 a0 13 (m2 (m2 a0 0) 9)) ((mu m2 a0 13 (m2 (m2 a0 0) 9)) a0 0) 1 0) a0 2)) a0 4)) a0 11)) a0 5)))) ∨ (¬ (((mu (mu m2 a0 13 (m2 (m2 a0 0) 9)) ((mu m2 a0 13 (m2 (m2 a0 0) 9)) a0 0) 1 0) a0 13) = 0) ∧ (o = (.ireturn, [(1, s32 ((-1) - ((mu (mu m2 a0 13 (m2 (m2 a0 0) 9)) ((mu m2 a0 13 (m2 (m2 a0 0) 9)) a0 0) 1 0) ((mu (mu m2 a0 13 (m2 (m2 a0 0) 9)) ((mu m2 a0 13 (m2 (m2 a0 0) 9)) a0 0) 1 0) a0 0) 10)))], mu (mu m2 a0 13 (m2 (m2 a0 0) 9)) ((mu m2 a0 13 (m2 (m2 a0 0) 9)) a0 0) 1 0))))) := by
  have h := CR_aload_n h rfl
  have h : MR X ρ 2 0 0 qP25 N 1 [a0, 0] [(1, a0)] m o := h
  have h := CR_getf h rfl (by decide)
  have h : MR X ρ 2 0 0 qP25 N 4 [a0, 0] [(1, m a0 2)] m o := h
  have h := CR_aload_n h rfl
  have h : MR X ρ 2 0 0 qP25 N 5 [a0, 0] [(1, a0), (1, m a0 2)] m o := h
  have h := CR_getf h rfl (by decide)
  have h : MR X ρ 2 0 0 qP25 N 8 [a0, 0] [(1, m a0 0), (1, m a0 2)] m o := h
  have h := CR_aload_n h rfl
  have h : MR X ρ 2 0 0 qP25 N 9 [a0, 0] [(1, a0), (1, m a0 0), (1, m a0 2)] m o := h
  have h := CR_getf h rfl (by decide)
  have h : MR X ρ 2 0 0 qP25 N 12 [a0, 0] [(1, m a0 4), (1, m a0 0), (1, m a0 2)] m o := h
  obtain ⟨r1, m2, q3, h⟩ := MR_invV h rfl rfl
  have q3 : Run X ρ 83 [(1, m a0 2), (1, m a0 0), (1, m a0 4)] m r1 m2 := q3
  obtain ⟨v4, rfl⟩ := Run_i q3 rfl
  have h : MR X ρ 2 0 0 qP25 N 15 [a0, 0] [(1, v4)] m2 o := h
  refine ⟨v4, m2, q3, ?_⟩
  have h := CR_istore_n h rfl (Nat.le_of_ble_eq_true rfl)
  have h : MR X ρ 2 0 0 qP25 N 16 [a0, v4] [] m2 o := h
  have h := CR_aload_n h rfl
  have h : MR X ρ 2 0 0 qP25 N 17 [a0, v4] [(1, a0)] m2 o := h
  have h := CR_aload_n h rfl
  have h : MR X ρ 2 0 0 qP25 N 18 [a0, v4] [(1, a0), (1, a0)] m2 o := h
  have h := CR_getf h rfl (by decide)
  have h : MR X ρ 2 0 0 qP25 N 21 [a0, v4] [(1, m2 a0 0), (1, a0)] m2 o := h
  have h := CR_getf h rfl (by decide)
  have h : MR X ρ 2 0 0 qP25 N 24 [a0, v4] [(1, m2 (m2 a0 0) 9), (1, a0)] m2 o := h
  have h := CR_putf h rfl
  have h : MR X ρ 2 0 0 qP25 N 27 [a0, v4] [] (mu m2 a0 13 (m2 (m2 a0 0) 9)) o := h
  have h := CR_aload_n h rfl
  have h : MR X ρ 2 0 0 qP25 N 28 [a0, v4] [(1, a0)] (mu m2 a0 13 (m2 (m2 a0 0) 9)) o := h
  have h := CR_getf h rfl (by decide)
  have h : MR X ρ 2 0 0 qP25 N 31 [a0, v4] [(1, (mu m2 a0 13 (m2 (m2 a0 0) 9)) a0 0)] (mu m2 a0 13 (m2 (m2 a0 0) 9)) o := h
  have h := CR_iconst h rfl rfl
  have h : MR X ρ 2 0 0 qP25 N 32 [a0, v4] [(1, 0), (1, (mu m2 a0 13 (m2 (m2 a0 0) 9)) a0 0)] (mu m2 a0 13 (m2 (m2 a0 0) 9)) o := h
  have h := CR_putf h rfl
  have h : MR X ρ 2 0 0 qP25 N 35 [a0, v4] [] (mu (mu m2 a0 13 (m2 (m2 a0 0) 9)) ((mu m2 a0 13 (m2 (m2 a0 0) 9)) a0 0) 1 0) o := h
  have h := CR_aload_n h rfl
  have h : MR X ρ 2 0 0 qP25 N 36 [a0, v4] [(1, a0)] (mu (mu m2 a0 13 (m2 (m2 a0 0) 9)) ((mu m2 a0 13 (m2 (m2 a0 0) 9)) a0 0) 1 0) o := h
  have h := CR_getf h rfl (by decide)
  have h : MR X ρ 2 0 0 qP25 N 39 [a0, v4] [(1, (mu (mu m2 a0 13 (m2 (m2 a0 0) 9)) ((mu m2 a0 13 (m2 (m2 a0 0) 9)) a0 0) 1 0) a0 13)] (mu (mu m2 a0 13 (m2 (m2 a0 0) 9)) ((mu m2 a0 13 (m2 (m2 a0 0) 9)) a0 0) 1 0) o := h
  rcases MR_if h rfl rfl with ⟨c5, h⟩ | ⟨c5, h⟩
  ·
    have c5 : ((mu (mu m2 a0 13 (m2 (m2 a0 0) 9)) ((mu m2 a0 13 (m2 (m2 a0 0) 9)) a0 0) 1 0) a0 13) = 0 := c5
    refine Or.inl ⟨c5, ?_⟩
    have h : MR X ρ 2 0 0 qP25 N 52 [a0, v4] [] (mu (mu m2 a0 13 (m2 (m2 a0 0) 9)) ((mu m2 a0 13 (m2 (m2 a0 0) 9)) a0 0) 1 0) o := h
    have h := CR_aload_n h rfl
    have h : MR X ρ 2 0 0 qP25 N 53 [a0, v4] [(1, a0)] (mu (mu m2 a0 13 (m2 (m2 a0 0) 9)) ((mu m2 a0 13 (m2 (m2 a0 0) 9)) a0 0) 1 0) o := h
    have h := CR_getf h rfl (by decide)
    have h : MR X ρ 2 0 0 qP25 N 56 [a0, v4] [(1, (mu (mu m2 a0 13 (m2 (m2 a0 0) 9)) ((mu m2 a0 13 (m2 (m2 a0 0) 9)) a0 0) 1 0) a0 1)] (mu (mu m2 a0 13 (m2 (m2 a0 0) 9)) ((mu m2 a0 13 (m2 (m2 a0 0) 9)) a0 0) 1 0) o := h
    have h := CR_aload_n h rfl
    have h : MR X ρ 2 0 0 qP25 N 57 [a0, v4] [(1, a0), (1, (mu (mu m2 a0 13 (m2 (m2 a0 0) 9)) ((mu m2 a0 13 (m2 (m2 a0 0) 9)) a0 0) 1 0) a0 1)] (mu (mu m2 a0 13 (m2 (m2 a0 0) 9)) ((mu m2 a0 13 (m2 (m2 a0 0) 9)) a0 0) 1 0) o := h
    have h := CR_getf h rfl (by decide)
    have h : MR X ρ 2 0 0 qP25 N 60 [a0, v4] [(1, (mu (mu m2 a0 13 (m2 (m2 a0 0) 9)) ((mu m2 a0 13 (m2 (m2 a0 0) 9)) a0 0) 1 0) a0 2), (1, (mu (mu m2 a0 13 (m2 (m2 a0 0) 9)) ((mu m2 a0 13 (m2 (m2 a0 0) 9)) a0 0) 1 0) a0 1)] (mu (mu m2 a0 13 (m2 (m2 a0 0) 9)) ((mu m2 a0 13 (m2 (m2 a0 0) 9)) a0 0) 1 0) o := h
    obtain ⟨r6, m7, q8, h⟩ := MR_invV h rfl rfl
    have q8 : Run X ρ 67 [(1, (mu (mu m2 a0 13 (m2 (m2 a0 0) 9)) ((mu m2 a0 13 (m2 (m2 a0 0) 9)) a0 0) 1 0) a0 1), (1, (mu (mu m2 a0 13 (m2 (m2 a0 0) 9)) ((mu m2 a0 13 (m2 (m2 a0 0) 9)) a0 0) 1 0) a0 2)] (mu (mu m2 a0 13 (m2 (m2 a0 0) 9)) ((mu m2 a0 13 (m2 (m2 a0 0) 9)) a0 0) 1 0) r6 m7 := q8
    obtain ⟨e9, e10⟩ := d67 q8
    rw [e9, e10] at h
    have h : MR X ρ 2 0 0 qP25 N 63 [a0, v4] [] (g67 (mu (mu m2 a0 13 (m2 (m2 a0 0) 9)) ((mu m2 a0 13 (m2 (m2 a0 0) 9)) a0 0) 1 0) ((mu (mu m2 a0 13 (m2 (m2 a0 0) 9)) ((mu m2 a0 13 (m2 (m2 a0 0) 9)) a0 0) 1 0) a0 1) ((mu (mu m2 a0 13 (m2 (m2 a0 0) 9)) ((mu m2 a0 13 (m2 (m2 a0 0) 9)) a0 0) 1 0) a0 2)) o := h
    have h := CR_aload_n h rfl
    have h : MR X ρ 2 0 0 qP25 N 64 [a0, v4] [(1, a0)] (g67 (mu (mu m2 a0 13 (m2 (m2 a0 0) 9)) ((mu m2 a0 13 (m2 (m2 a0 0) 9)) a0 0) 1 0) ((mu (mu m2 a0 13 (m2 (m2 a0 0) 9)) ((mu m2 a0 13 (m2 (m2 a0 0) 9)) a0 0) 1 0) a0 1) ((mu (mu m2 a0 13 (m2 (m2 a0 0) 9)) ((mu m2 a0 13 (m2 (m2 a0 0) 9)) a0 0) 1 0) a0 2)) o := h
    have h := CR_getf h rfl (by decide)
    have h : MR X ρ 2 0 0 qP25 N 67 [a0, v4] [(1, (g67 (mu (mu m2 a0 13 (m2 (m2 a0 0) 9)) ((mu m2 a0 13 (m2 (m2 a0 0) 9)) a0 0) 1 0) ((mu (mu m2 a0 13 (m2 (m2 a0 0) 9)) ((mu m2 a0 13 (m2 (m2 a0 0) 9)) a0 0) 1 0) a0 1) ((mu (mu m2 a0 13 (m2 (m2 a0 0) 9)) ((mu m2 a0 13 (m2 (m2 a0 0) 9)) a0 0) 1 0) a0 2)) a0 3)] (g67 (mu (mu m2 a0 13 (m2 (m2 a0 0) 9)) ((mu m2 a0 13 (m2 (m2 a0 0) 9)) a0 0) 1 0) ((mu (mu m2 a0 13 (m2 (m2 a0 0) 9)) ((mu m2 a0 13 (m2 (m2 a0 0) 9)) a0 0) 1 0) a0 1) ((mu (mu m2 a0 13 (m2 (m2 a0 0) 9)) ((mu m2 a0 13 (m2 (m2 a0 0) 9)) a0 0) 1 0) a0 2)) o := h
    have h := CR_aload_n h rfl
    have h : MR X ρ 2 0 0 qP25 N 68 [a0, v4] [(1, a0), (1, (g67 (mu (mu m2 a0 13 (m2 (m2 a0 0) 9)) ((mu m2 a0 13 (m2 (m2 a0 0) 9)) a0 0) 1 0) ((mu (mu m2 a0 13 (m2 (m2 a0 0) 9)) ((mu m2 a0 13 (m2 (m2 a0 0) 9)) a0 0) 1 0) a0 1) ((mu (mu m2 a0 13 (m2 (m2 a0 0) 9)) ((mu m2 a0 13 (m2 (m2 a0 0) 9)) a0 0) 1 0) a0 2)) a0 3)] (g67 (mu (mu m2 a0 13 (m2 (m2 a0 0) 9)) ((mu m2 a0 13 (m2 (m2 a0 0) 9)) a0 0) 1 0) ((mu (mu m2 a0 13 (m2 (m2 a0 0) 9)) ((mu m2 a0 13 (m2 (m2 a0 0) 9)) a0 0) 1 0) a0 1) ((mu (mu m2 a0 13 (m2 (m2 a0 0) 9)) ((mu m2 a0 13 (m2 (m2 a0 0) 9)) a0 0) 1 0) a0 2)) o := h
    have h := CR_getf h rfl (by decide)
    have h : MR X ρ 2 0 0 qP25 N 71 [a0, v4] [(1, (g67 (mu (mu m2 a0 13 (m2 (m2 a0 0) 9)) ((mu m2 a0 13 (m2 (m2 a0 0) 9)) a0 0) 1 0) ((mu (mu m2 a0 13 (m2 (m2 a0 0) 9)) ((mu m2 a0 13 (m2 (m2 a0 0) 9)) a0 0) 1 0) a0 1) ((mu (mu m2 a0 13 (m2 (m2 a0 0) 9)) ((mu m2 a0 13 (m2 (m2 a0 0) 9)) a0 0) 1 0) a0 2)) a0 4), (1, (g67 (mu (mu m2 a0 13 (m2 (m2 a0 0) 9)) ((mu m2 a0 13 (m2 (m2 a0 0) 9)) a0 0) 1 0) ((mu (mu m2 a0 13 (m2 (m2 a0 0) 9)) ((mu m2 a0 13 (m2 (m2 a0 0) 9)) a0 0) 1 0) a0 1) ((mu (mu m2 a0 13 (m2 (m2 a0 0) 9)) ((mu m2 a0 13 (m2 (m2 a0 0) 9)) a0 0) 1 0) a0 2)) a0 3)] (g67 (mu (mu m2 a0 13 (m2 (m2 a0 0) 9)) ((mu m2 a0 13 (m2 (m2 a0 0) 9)) a0 0) 1 0) ((mu (mu m2 a0 13 (m2 (m2 a0 0) 9)) ((mu m2 a0 13 (m2 (m2 a0 0) 9)) a0 0) 1 0) a0 1) ((mu (mu m2 a0 13 (m2 (m2 a0 0) 9)) ((mu m2 a0 13 (m2 (m2 a0 0) 9)) a0 0) 1 0) a0 2)) o := h
    obtain ⟨r11, m12, q13, h⟩ := MR_invV h rfl rfl
    have q13 : Run X ρ 113 [(1, (g67 (mu (mu m2 a0 13 (m2 (m2 a0 0) 9)) ((mu m2 a0 13 (m2 (m2 a0 0) 9)) a0 0) 1 0) ((mu (mu m2 a0 13 (m2 (m2 a0 0) 9)) ((mu m2 a0 13 (m2 (m2 a0 0) 9)) a0 0) 1 0) a0 1) ((mu (mu m2 a0 13 (m2 (m2 a0 0) 9)) ((mu m2 a0 13 (m2 (m2 a0 0) 9)) a0 0) 1 0) a0 2)) a0 3), (1, (g67 (mu (mu m2 a0 13 (m2 (m2 a0 0) 9)) ((mu m2 a0 13 (m2 (m2 a0 0) 9)) a0 0) 1 0) ((mu (mu m2 a0 13 (m2 (m2 a0 0) 9)) ((mu m2 a0 13 (m2 (m2 a0 0) 9)) a0 0) 1 0) a0 1) ((mu (mu m2 a0 13 (m2 (m2 a0 0) 9)) ((mu m2 a0 13 (m2 (m2 a0 0) 9)) a0 0) 1 0) a0 2)) a0 4)] (g67 (mu (mu m2 a0 13 (m2 (m2 a0 0) 9)) ((mu m2 a0 13 (m2 (m2 a0 0) 9)) a0 0) 1 0) ((mu (mu m2 a0 13 (m2 (m2 a0 0) 9)) ((mu m2 a0 13 (m2 (m2 a0 0) 9)) a0 0) 1 0) a0 1) ((mu (mu m2 a0 13 (m2 (m2 a0 0) 9)) ((mu m2 a0 13 (m2 (m2 a0 0) 9)) a0 0) 1 0) a0 2)) r11 m12 := q13
    obtain ⟨e14, e15⟩ := d113 q13
    rw [e14, e15] at h
    have h : MR X ρ 2 0 0 qP25 N 74 [a0, v4] [] (g113 (g67 (mu (mu m2 a0 13 (m2 (m2 a0 0) 9)) ((mu m2 a0 13 (m2 (m2 a0 0) 9)) a0 0) 1 0) ((mu (mu m2 a0 13 (m2 (m2 a0 0) 9)) ((mu m2 a0 13 (m2 (m2 a0 0) 9)) a0 0) 1 0) a0 1) ((mu (mu m2 a0 13 (m2 (m2 a0 0) 9)) ((mu m2 a0 13 (m2 (m2 a0 0) 9)) a0 0) 1 0) a0 2)) ((g67 (mu (mu m2 a0 13 (m2 (m2 a0 0) 9)) ((mu m2 a0 13 (m2 (m2 a0 0) 9)) a0 0) 1 0) ((mu (mu m2 a0 13 (m2 (m2 a0 0) 9)) ((mu m2 a0 13 (m2 (m2 a0 0) 9)) a0 0) 1 0) a0 1) ((mu (mu m2 a0 13 (m2 (m2 a0 0) 9)) ((mu m2 a0 13 (m2 (m2 a0 0) 9)) a0 0) 1 0) a0 2)) a0 3) ((g67 (mu (mu m2 a0 13 (m2 (m2 a0 0) 9)) ((mu m2 a0 13 (m2 (m2 a0 0) 9)) a0 0) 1 0) ((mu (mu m2 a0 13 (m2 (m2 a0 0) 9)) ((mu m2 a0 13 (m2 (m2 a0 0) 9)) a0 0) 1 0) a0 1) ((mu (mu m2 a0 13 (m2 (m2 a0 0) 9)) ((mu m2 a0 13 (m2 (m2 a0 0) 9)) a0 0) 1 0) a0 2)) a0 4)) o := h
    have h := CR_aload_n h rfl
    have h : MR X ρ 2 0 0 qP25 N 75 [a0, v4] [(1, a0)] (g113 (g67 (mu (mu m2 a0 13 (m2 (m2 a0 0) 9)) ((mu m2 a0 13 (m2 (m2 a0 0) 9)) a0 0) 1 0) ((mu (mu m2 a0 13 (m2 (m2 a0 0) 9)) ((mu m2 a0 13 (m2 (m2 a0 0) 9)) a0 0) 1 0) a0 1) ((mu (mu m2 a0 13 (m2 (m2 a0 0) 9)) ((mu m2 a0 13 (m2 (m2 a0 0) 9)) a0 0) 1 0) a0 2)) ((g67 (mu (mu m2 a0 13 (m2 (m2 a0 0) 9)) ((mu m2 a0 13 (m2 (m2 a0 0) 9)) a0 0) 1 0) ((mu (mu m2 a0 13 (m2 (m2 a0 0) 9)) ((mu m2 a0 13 (m2 (m2 a0 0) 9)) a0 0) 1 0) a0 1) ((mu (mu m2 a0 13 (m2 (m2 a0 0) 9)) ((mu m2 a0 13 (m2 (m2 a0 0) 9)) a0 0) 1 0) a0 2)) a0 3) ((g67 (mu (mu m2 a0 13 (m2 (m2 a0 0) 9)) ((mu m2 a0 13 (m2 (m2 a0 0) 9)) a0 0) 1 0) ((mu (mu m2 a0 13 (m2 (m2 a0 0) 9)) ((mu m2 a0 13 (m2 (m2 a0 0) 9)) a0 0) 1 0) a0 1) ((mu (mu m2 a0 13 (m2 (m2 a0 0) 9)) ((mu m2 a0 13 (m2 (m2 a0 0) 9)) a0 0) 1 0) a0 2)) a0 4)) o := h
    have h := CR_getf h rfl (by decide)
    have h : MR X ρ 2 0 0 qP25 N 78 [a0, v4] [(1, (g113 (g67 (mu (mu m2 a0 13 (m2 (m2 a0 0) 9)) ((mu m2 a0 13 (m2 (m2 a0 0) 9)) a0 0) 1 0) ((mu (mu m2 a0 13 (m2 (m2 a0 0) 9)) ((mu m2 a0 13 (m2 (m2 a0 0) 9)) a0 0) 1 0) a0 1) ((mu (mu m2 a0 13 (m2 (m2 a0 0) 9)) ((mu m2 a0 13 (m2 (m2 a0 0) 9)) a0 0) 1 0) a0 2)) ((g67 (mu (mu m2 a0 13 (m2 (m2 a0 0) 9)) ((mu m2 a0 13 (m2 (m2 a0 0) 9)) a0 0) 1 0) ((mu (mu m2 a0 13 (m2 (m2 a0 0) 9)) ((mu m2 a0 13 (m2 (m2 a0 0) 9)) a0 0) 1 0) a0 1) ((mu (mu m2 a0 13 (m2 (m2 a0 0) 9)) ((mu m2 a0 13 (m2 (m2 a0 0) 9)) a0 0) 1 0) a0 2)) a0 3) ((g67 (mu (mu m2 a0 13 (m2 (m2 a0 0) 9)) ((mu m2 a0 13 (m2 (m2 a0 0) 9)) a0 0) 1 0) ((mu (mu m2 a0 13 (m2 (m2 a0 0) 9)) ((mu m2 a0 13 (m2 (m2 a0 0) 9)) a0 0) 1 0) a0 1) ((mu (mu m2 a0 13 (m2 (m2 a0 0) 9)) ((mu m2 a0 13 (m2 (m2 a0 0) 9)) a0 0) 1 0) a0 2)) a0 4)) a0 11)] (g113 (g67 (mu (mu m2 a0 13 (m2 (m2 a0 0) 9)) ((mu m2 a0 13 (m2 (m2 a0 0) 9)) a0 0) 1 0) ((mu (mu m2 a0 13 (m2 (m2 a0 0) 9)) ((mu m2 a0 13 (m2 (m2 a0 0) 9)) a0 0) 1 0) a0 1) ((mu (mu m2 a0 13 (m2 (m2 a0 0) 9)) ((mu m2 a0 13 (m2 (m2 a0 0) 9)) a0 0) 1 0) a0 2)) ((g67 (mu (mu m2 a0 13 (m2 (m2 a0 0) 9)) ((mu m2 a0 13 (m2 (m2 a0 0) 9)) a0 0) 1 0) ((mu (mu m2 a0 13 (m2 (m2 a0 0) 9)) ((mu m2 a0 13 (m2 (m2 a0 0) 9)) a0 0) 1 0) a0 1) ((mu (mu m2 a0 13 (m2 (m2 a0 0) 9)) ((mu m2 a0 13 (m2 (m2 a0 0) 9)) a0 0) 1 0) a0 2)) a0 3) ((g67 (mu (mu m2 a0 13 (m2 (m2 a0 0) 9)) ((mu m2 a0 13 (m2 (m2 a0 0) 9)) a0 0) 1 0) ((mu (mu m2 a0 13 (m2 (m2 a0 0) 9)) ((mu m2 a0 13 (m2 (m2 a0 0) 9)) a0 0) 1 0) a0 1) ((mu (mu m2 a0 13 (m2 (m2 a0 0) 9)) ((mu m2 a0 13 (m2 (m2 a0 0) 9)) a0 0) 1 0) a0 2)) a0 4)) o := h
    obtain ⟨r16, m17, q18, h⟩ := MR_invV h rfl rfl
    have q18 : Run X ρ 89 [(1, (g113 (g67 (mu (mu m2 a0 13 (m2 (m2 a0 0) 9)) ((mu m2 a0 13 (m2 (m2 a0 0) 9)) a0 0) 1 0) ((mu (mu m2 a0 13 (m2 (m2 a0 0) 9)) ((mu m2 a0 13 (m2 (m2 a0 0) 9)) a0 0) 1 0) a0 1) ((mu (mu m2 a0 13 (m2 (m2 a0 0) 9)) ((mu m2 a0 13 (m2 (m2 a0 0) 9)) a0 0) 1 0) a0 2)) ((g67 (mu (mu m2 a0 13 (m2 (m2 a0 0) 9)) ((mu m2 a0 13 (m2 (m2 a0 0) 9)) a0 0) 1 0) ((mu (mu m2 a0 13 (m2 (m2 a0 0) 9)) ((mu m2 a0 13 (m2 (m2 a0 0) 9)) a0 0) 1 0) a0 1) ((mu (mu m2 a0 13 (m2 (m2 a0 0) 9)) ((mu m2 a0 13 (m2 (m2 a0 0) 9)) a0 0) 1 0) a0 2)) a0 3) ((g67 (mu (mu m2 a0 13 (m2 (m2 a0 0) 9)) ((mu m2 a0 13 (m2 (m2 a0 0) 9)) a0 0) 1 0) ((mu (mu m2 a0 13 (m2 (m2 a0 0) 9)) ((mu m2 a0 13 (m2 (m2 a0 0) 9)) a0 0) 1 0) a0 1) ((mu (mu m2 a0 13 (m2 (m2 a0 0) 9)) ((mu m2 a0 13 (m2 (m2 a0 0) 9)) a0 0) 1 0) a0 2)) a0 4)) a0 11)] (g113 (g67 (mu (mu m2 a0 13 (m2 (m2 a0 0) 9)) ((mu m2 a0 13 (m2 (m2 a0 0) 9)) a0 0) 1 0) ((mu (mu m2 a0 13 (m2 (m2 a0 0) 9)) ((mu m2 a0 13 (m2 (m2 a0 0) 9)) a0 0) 1 0) a0 1) ((mu (mu m2 a0 13 (m2 (m2 a0 0) 9)) ((mu m2 a0 13 (m2 (m2 a0 0) 9)) a0 0) 1 0) a0 2)) ((g67 (mu (mu m2 a0 13 (m2 (m2 a0 0) 9)) ((mu m2 a0 13 (m2 (m2 a0 0) 9)) a0 0) 1 0) ((mu (mu m2 a0 13 (m2 (m2 a0 0) 9)) ((mu m2 a0 13 (m2 (m2 a0 0) 9)) a0 0) 1 0) a0 1) ((mu (mu m2 a0 13 (m2 (m2 a0 0) 9)) ((mu m2 a0 13 (m2 (m2 a0 0) 9)) a0 0) 1 0) a0 2)) a0 3) ((g67 (mu (mu m2 a0 13 (m2 (m2 a0 0) 9)) ((mu m2 a0 13 (m2 (m2 a0 0) 9)) a0 0) 1 0) ((mu (mu m2 a0 13 (m2 (m2 a0 0) 9)) ((mu m2 a0 13 (m2 (m2 a0 0) 9)) a0 0) 1 0) a0 1) ((mu (mu m2 a0 13 (m2 (m2 a0 0) 9)) ((mu m2 a0 13 (m2 (m2 a0 0) 9)) a0 0) 1 0) a0 2)) a0 4)) r16 m17 := q18
    obtain ⟨e19, e20⟩ := d89 q18
    rw [e19, e20] at h
    have h : MR X ρ 2 0 0 qP25 N 81 [a0, v4] [] (g89 (g113 (g67 (mu (mu m2 a0 13 (m2 (m2 a0 0) 9)) ((mu m2 a0 13 (m2 (m2 a0 0) 9)) a0 0) 1 0) ((mu (mu m2 a0 13 (m2 (m2 a0 0) 9)) ((mu m2 a0 13 (m2 (m2 a0 0) 9)) a0 0) 1 0) a0 1) ((mu (mu m2 a0 13 (m2 (m2 a0 0) 9)) ((mu m2 a0 13 (m2 (m2 a0 0) 9)) a0 0) 1 0) a0 2)) ((g67 (mu (mu m2 a0 13 (m2 (m2 a0 0) 9)) ((mu m2 a0 13 (m2 (m2 a0 0) 9)) a0 0) 1 0) ((mu (mu m2 a0 13 (m2 (m2 a0 0) 9)) ((mu m2 a0 13 (m2 (m2 a0 0) 9)) a0 0) 1 0) a0 1) ((mu (mu m2 a0 13 (m2 (m2 a0 0) 9)) ((mu m2 a0 13 (m2 (m2 a0 0) 9)) a0 0) 1 0) a0 2)) a0 3) ((g67 (mu (mu m2 a0 13 (m2 (m2 a0 0) 9)) ((mu m2 a0 13 (m2 (m2 a0 0) 9)) a0 0) 1 0) ((mu (mu m2 a0 13 (m2 (m2 a0 0) 9)) ((mu m2 a0 13 (m2 (m2 a0 0) 9)) a0 0) 1 0) a0 1) ((mu (mu m2 a0 13 (m2 (m2 a0 0) 9)) ((mu m2 a0 13 (m2 (m2 a0 0) 9)) a0 0) 1 0) a0 2)) a0 4)) ((g113 (g67 (mu (mu m2 a0 13 (m2 (m2 a0 0) 9)) ((mu m2 a0 13 (m2 (m2 a0 0) 9)) a0 0) 1 0) ((mu (mu m2 a0 13 (m2 (m2 a0 0) 9)) ((mu m2 a0 13 (m2 (m2 a0 0) 9)) a0 0) 1 0) a0 1) ((mu (mu m2 a0 13 (m2 (m2 a0 0) 9)) ((mu m2 a0 13 (m2 (m2 a0 0) 9)) a0 0) 1 0) a0 2)) ((g67 (mu (mu m2 a0 13 (m2 (m2 a0 0) 9)) ((mu m2 a0 13 (m2 (m2 a0 0) 9)) a0 0) 1 0) ((mu (mu m2 a0 13 (m2 (m2 a0 0) 9)) ((mu m2 a0 13 (m2 (m2 a0 0) 9)) a0 0) 1 0) a0 1) ((mu (mu m2 a0 13 (m2 (m2 a0 0) 9)) ((mu m2 a0 13 (m2 (m2 a0 0) 9)) a0 0) 1 0) a0 2)) a0 3) ((g67 (mu (mu m2 a0 13 (m2 (m2 a0 0) 9)) ((mu m2 a0 13 (m2 (m2 a0 0) 9)) a0 0) 1 0) ((mu (mu m2 a0 13 (m2 (m2 a0 0) 9)) ((mu m2 a0 13 (m2 (m2 a0 0) 9)) a0 0) 1 0) a0 1) ((mu (mu m2 a0 13 (m2 (m2 a0 0) 9)) ((mu m2 a0 13 (m2 (m2 a0 0) 9)) a0 0) 1 0) a0 2)) a0 4)) a0 11)) o := h
    have h := CR_aload_n h rfl
    have h : MR X ρ 2 0 0 qP25 N 82 [a0, v4] [(1, a0)] (g89 (g113 (g67 (mu (mu m2 a0 13 (m2 (m2 a0 0) 9)) ((mu m2 a0 13 (m2 (m2 a0 0) 9)) a0 0) 1 0) ((mu (mu m2 a0 13 (m2 (m2 a0 0) 9)) ((mu m2 a0 13 (m2 (m2 a0 0) 9)) a0 0) 1 0) a0 1) ((mu (mu m2 a0 13 (m2 (m2 a0 0) 9)) ((mu m2 a0 13 (m2 (m2 a0 0) 9)) a0 0) 1 0) a0 2)) ((g67 (mu (mu m2 a0 13 (m2 (m2 a0 0) 9)) ((mu m2 a0 13 (m2 (m2 a0 0) 9)) a0 0) 1 0) ((mu (mu m2 a0 13 (m2 (m2 a0 0) 9)) ((mu m2 a0 13 (m2 (m2 a0 0) 9)) a0 0) 1 0) a0 1) ((mu (mu m2 a0 13 (m2 (m2 a0 0) 9)) ((mu m2 a0 13 (m2 (m2 a0 0) 9)) a0 0) 1 0) a0 2)) a0 3) ((g67 (mu (mu m2 a0 13 (m2 (m2 a0 0) 9)) ((mu m2 a0 13 (m2 (m2 a0 0) 9)) a0 0) 1 0) ((mu (mu m2 a0 13 (m2 (m2 a0 0) 9)) ((mu m2 a0 13 (m2 (m2 a0 0) 9)) a0 0) 1 0) a0 1) ((mu (mu m2 a0 13 (m2 (m2 a0 0) 9)) ((mu m2 a0 13 (m2 (m2 a0 0) 9)) a0 0) 1 0) a0 2)) a0 4)) ((g113 (g67 (mu (mu m2 a0 13 (m2 (m2 a0 0) 9)) ((mu m2 a0 13 (m2 (m2 a0 0) 9)) a0 0) 1 0) ((mu (mu m2 a0 13 (m2 (m2 a0 0) 9)) ((mu m2 a0 13 (m2 (m2 a0 0) 9)) a0 0) 1 0) a0 1) ((mu (mu m2 a0 13 (m2 (m2 a0 0) 9)) ((mu m2 a0 13 (m2 (m2 a0 0) 9)) a0 0) 1 0) a0 2)) ((g67 (mu (mu m2 a0 13 (m2 (m2 a0 0) 9)) ((mu m2 a0 13 (m2 (m2 a0 0) 9)) a0 0) 1 0) ((mu (mu m2 a0 13 (m2 (m2 a0 0) 9)) ((mu m2 a0 13 (m2 (m2 a0 0) 9)) a0 0) 1 0) a0 1) ((mu (mu m2 a0 13 (m2 (m2 a0 0) 9)) ((mu m2 a0 13 (m2 (m2 a0 0) 9)) a0 0) 1 0) a0 2)) a0 3) ((g67 (mu (mu m2 a0 13 (m2 (m2 a0 0) 9)) ((mu m2 a0 13 (m2 (m2 a0 0) 9)) a0 0) 1 0) ((mu (mu m2 a0 13 (m2 (m2 a0 0) 9)) ((mu m2 a0 13 (m2 (m2 a0 0) 9)) a0 0) 1 0) a0 1) ((mu (mu m2 a0 13 (m2 (m2 a0 0) 9)) ((mu m2 a0 13 (m2 (m2 a0 0) 9)) a0 0) 1 0) a0 2)) a0 4)) a0 11)) o := h
    have h := CR_getf h rfl (by decide)
    have h : MR X ρ 2 0 0 qP25 N 85 [a0, v4] [(1, (g89 (g113 (g67 (mu (mu m2 a0 13 (m2 (m2 a0 0) 9)) ((mu m2 a0 13 (m2 (m2 a0 0) 9)) a0 0) 1 0) ((mu (mu m2 a0 13 (m2 (m2 a0 0) 9)) ((mu m2 a0 13 (m2 (m2 a0 0) 9)) a0 0) 1 0) a0 1) ((mu (mu m2 a0 13 (m2 (m2 a0 0) 9)) ((mu m2 a0 13 (m2 (m2 a0 0) 9)) a0 0) 1 0) a0 2)) ((g67 (mu (mu m2 a0 13 (m2 (m2 a0 0) 9)) ((mu m2 a0 13 (m2 (m2 a0 0) 9)) a0 0) 1 0) ((mu (mu m2 a0 13 (m2 (m2 a0 0) 9)) ((mu m2 a0 13 (m2 (m2 a0 0) 9)) a0 0) 1 0) a0 1) ((mu (mu m2 a0 13 (m2 (m2 a0 0) 9)) ((mu m2 a0 13 (m2 (m2 a0 0) 9)) a0 0) 1 0) a0 2)) a0 3) ((g67 (mu (mu m2 a0 13 (m2 (m2 a0 0) 9)) ((mu m2 a0 13 (m2 (m2 a0 0) 9)) a0 0) 1 0) ((mu (mu m2 a0 13 (m2 (m2 a0 0) 9)) ((mu m2 a0 13 (m2 (m2 a0 0) 9)) a0 0) 1 0) a0 1) ((mu (mu m2 a0 13 (m2 (m2 a0 0) 9)) ((mu m2 a0 13 (m2 (m2 a0 0) 9)) a0 0) 1 0) a0 2)) a0 4)) ((g113 (g67 (mu (mu m2 a0 13 (m2 (m2 a0 0) 9)) ((mu m2 a0 13 (m2 (m2 a0 0) 9)) a0 0) 1 0) ((mu (mu m2 a0 13 (m2 (m2 a0 0) 9)) ((mu m2 a0 13 (m2 (m2 a0 0) 9)) a0 0) 1 0) a0 1) ((mu (mu m2 a0 13 (m2 (m2 a0 0) 9)) ((mu m2 a0 13 (m2 (m2 a0 0) 9)) a0 0) 1 0) a0 2)) ((g67 (mu (mu m2 a0 13 (m2 (m2 a0 0) 9)) ((mu m2 a0 13 (m2 (m2 a0 0) 9)) a0 0) 1 0) ((mu (mu m2 a0 13 (m2 (m2 a0 0) 9)) ((mu m2 a0 13 (m2 (m2 a0 0) 9)) a0 0) 1 0) a0 1) ((mu (mu m2 a0 13 (m2 (m2 a0 0) 9)) ((mu m2 a0 13 (m2 (m2 a0 0) 9)) a0 0) 1 0) a0 2)) a0 3) ((g67 (mu (mu m2 a0 13 (m2 (m2 a0 0) 9)) ((mu m2 a0 13 (m2 (m2 a0 0) 9)) a0 0) 1 0) ((mu (mu m2 a0 13 (m2 (m2 a0 0) 9)) ((mu m2 a0 13 (m2 (m2 a0 0) 9)) a0 0) 1 0) a0 1) ((mu (mu m2 a0 13 (m2 (m2 a0 0) 9)) ((mu m2 a0 13 (m2 (m2 a0 0) 9)) a0 0) 1 0) a0 2)) a0 4)) a0 11)) a0 5)] (g89 (g113 (g67 (mu (mu m2 a0 13 (m2 (m2 a0 0) 9)) ((mu m2 a0 13 (m2 (m2 a0 0) 9)) a0 0) 1 0) ((mu (mu m2 a0 13 (m2 (m2 a0 0) 9)) ((mu m2 a0 13 (m2 (m2 a0 0) 9)) a0 0) 1 0) a0 1) ((mu (mu m2 a0 13 (m2 (m2 a0 0) 9)) ((mu m2 a0 13 (m2 (m2 a0 0) 9)) a0 0) 1 0) a0 2)) ((g67 (mu (mu m2 a0 13 (m2 (m2 a0 0) 9)) ((mu m2 a0 13 (m2 (m2 a0 0) 9)) a0 0) 1 0) ((mu (mu m2 a0 13 (m2 (m2 a0 0) 9)) ((mu m2 a0 13 (m2 (m2 a0 0) 9)) a0 0) 1 0) a0 1) ((mu (mu m2 a0 13 (m2 (m2 a0 0) 9)) ((mu m2 a0 13 (m2 (m2 a0 0) 9)) a0 0) 1 0) a0 2)) a0 3) ((g67 (mu (mu m2 a0 13 (m2 (m2 a0 0) 9)) ((mu m2 a0 13 (m2 (m2 a0 0) 9)) a0 0) 1 0) ((mu (mu m2 a0 13 (m2 (m2 a0 0) 9)) ((mu m2 a0 13 (m2 (m2 a0 0) 9)) a0 0) 1 0) a0 1) ((mu (mu m2 a0 13 (m2 (m2 a0 0) 9)) ((mu m2 a0 13 (m2 (m2 a0 0) 9)) a0 0) 1 0) a0 2)) a0 4)) ((g113 (g67 (mu (mu m2 a0 13 (m2 (m2 a0 0) 9)) ((mu m2 a0 13 (m2 (m2 a0 0) 9)) a0 0) 1 0) ((mu (mu m2 a0 13 (m2 (m2 a0 0) 9)) ((mu m2 a0 13 (m2 (m2 a0 0) 9)) a0 0) 1 0) a0 1) ((mu (mu m2 a0 13 (m2 (m2 a0 0) 9)) ((mu m2 a0 13 (m2 (m2 a0 0) 9)) a0 0) 1 0) a0 2)) ((g67 (mu (mu m2 a0 13 (m2 (m2 a0 0) 9)) ((mu m2 a0 13 (m2 (m2 a0 0) 9)) a0 0) 1 0) ((mu (mu m2 a0 13 (m2 (m2 a0 0) 9)) ((mu m2 a0 13 (m2 (m2 a0 0) 9)) a0 0) 1 0) a0 1) ((mu (mu m2 a0 13 (m2 (m2 a0 0) 9)) ((mu m2 a0 13 (m2 (m2 a0 0) 9)) a0 0) 1 0) a0 2)) a0 3) ((g67 (mu (mu m2 a0 13 (m2 (m2 a0 0) 9)) ((mu m2 a0 13 (m2 (m2 a0 0) 9)) a0 0) 1 0) ((mu (mu m2 a0 13 (m2 (m2 a0 0) 9)) ((mu m2 a0 13 (m2 (m2 a0 0) 9)) a0 0) 1 0) a0 1) ((mu (mu m2 a0 13 (m2 (m2 a0 0) 9)) ((mu m2 a0 13 (m2 (m2 a0 0) 9)) a0 0) 1 0) a0 2)) a0 4)) a0 11)) o := h
    obtain ⟨r21, m22, q23, h⟩ := MR_invV h rfl rfl
    have q23 : Run X ρ 161 [(1, (g89 (g113 (g67 (mu (mu m2 a0 13 (m2 (m2 a0 0) 9)) ((mu m2 a0 13 (m2 (m2 a0 0) 9)) a0 0) 1 0) ((mu (mu m2 a0 13 (m2 (m2 a0 0) 9)) ((mu m2 a0 13 (m2 (m2 a0 0) 9)) a0 0) 1 0) a0 1) ((mu (mu m2 a0 13 (m2 (m2 a0 0) 9)) ((mu m2 a0 13 (m2 (m2 a0 0) 9)) a0 0) 1 0) a0 2)) ((g67 (mu (mu m2 a0 13 (m2 (m2 a0 0) 9)) ((mu m2 a0 13 (m2 (m2 a0 0) 9)) a0 0) 1 0) ((mu (mu m2 a0 13 (m2 (m2 a0 0) 9)) ((mu m2 a0 13 (m2 (m2 a0 0) 9)) a0 0) 1 0) a0 1) ((mu (mu m2 a0 13 (m2 (m2 a0 0) 9)) ((mu m2 a0 13 (m2 (m2 a0 0) 9)) a0 0) 1 0) a0 2)) a0 3) ((g67 (mu (mu m2 a0 13 (m2 (m2 a0 0) 9)) ((mu m2 a0 13 (m2 (m2 a0 0) 9)) a0 0) 1 0) ((mu (mu m2 a0 13 (m2 (m2 a0 0) 9)) ((mu m2 a0 13 (m2 (m2 a0 0) 9)) a0 0) 1 0) a0 1) ((mu (mu m2 a0 13 (m2 (m2 a0 0) 9)) ((mu m2 a0 13 (m2 (m2 a0 0) 9)) a0 0) 1 0) a0 2)) a0 4)) ((g113 (g67 (mu (mu m2 a0 13 (m2 (m2 a0 0) 9)) ((mu m2 a0 13 (m2 (m2 a0 0) 9)) a0 0) 1 0) ((mu (mu m2 a0 13 (m2 (m2 a0 0) 9)) ((mu m2 a0 13 (m2 (m2 a0 0) 9)) a0 0) 1 0) a0 1) ((mu (mu m2 a0 13 (m2 (m2 a0 0) 9)) ((mu m2 a0 13 (m2 (m2 a0 0) 9)) a0 0) 1 0) a0 2)) ((g67 (mu (mu m2 a0 13 (m2 (m2 a0 0) 9)) ((mu m2 a0 13 (m2 (m2 a0 0) 9)) a0 0) 1 0) ((mu (mu m2 a0 13 (m2 (m2 a0 0) 9)) ((mu m2 a0 13 (m2 (m2 a0 0) 9)) a0 0) 1 0) a0 1) ((mu (mu m2 a0 13 (m2 (m2 a0 0) 9)) ((mu m2 a0 13 (m2 (m2 a0 0) 9)) a0 0) 1 0) a0 2)) a0 3) ((g67 (mu (mu m2 a0 13 (m2 (m2 a0 0) 9)) ((mu m2 a0 13 (m2 (m2 a0 0) 9)) a0 0) 1 0) ((mu (mu m2 a0 13 (m2 (m2 a0 0) 9)) ((mu m2 a0 13 (m2 (m2 a0 0) 9)) a0 0) 1 0) a0 1) ((mu (mu m2 a0 13 (m2 (m2 a0 0) 9)) ((mu m2 a0 13 (m2 (m2 a0 0) 9)) a0 0) 1 0) a0 2)) a0 4)) a0 11)) a0 5)] (g89 (g113 (g67 (mu (mu m2 a0 13 (m2 (m2 a0 0) 9)) ((mu m2 a0 13 (m2 (m2 a0 0) 9)) a0 0) 1 0) ((mu (mu m2 a0 13 (m2 (m2 a0 0) 9)) ((mu m2 a0 13 (m2 (m2 a0 0) 9)) a0 0) 1 0) a0 1) ((mu (mu m2 a0 13 (m2 (m2 a0 0) 9)) ((mu m2 a0 13 (m2 (m2 a0 0) 9)) a0 0) 1 0) a0 2)) ((g67 (mu (mu m2 a0 13 (m2 (m2 a0 0) 9)) ((mu m2 a0 13 (m2 (m2 a0 0) 9)) a0 0) 1 0) ((mu (mu m2 a0 13 (m2 (m2 a0 0) 9)) ((mu m2 a0 13 (m2 (m2 a0 0) 9)) a0 0) 1 0) a0 1) ((mu (mu m2 a0 13 (m2 (m2 a0 0) 9)) ((mu m2 a0 13 (m2 (m2 a0 0) 9)) a0 0) 1 0) a0 2)) a0 3) ((g67 (mu (mu m2 a0 13 (m2 (m2 a0 0) 9)) ((mu m2 a0 13 (m2 (m2 a0 0) 9)) a0 0) 1 0) ((mu (mu m2 a0 13 (m2 (m2 a0 0) 9)) ((mu m2 a0 13 (m2 (m2 a0 0) 9)) a0 0) 1 0) a0 1) ((mu (mu m2 a0 13 (m2 (m2 a0 0) 9)) ((mu m2 a0 13 (m2 (m2 a0 0) 9)) a0 0) 1 0) a0 2)) a0 4)) ((g113 (g67 (mu (mu m2 a0 13 (m2 (m2 a0 0) 9)) ((mu m2 a0 13 (m2 (m2 a0 0) 9)) a0 0) 1 0) ((mu (mu m2 a0 13 (m2 (m2 a0 0) 9)) ((mu m2 a0 13 (m2 (m2 a0 0) 9)) a0 0) 1 0) a0 1) ((mu (mu m2 a0 13 (m2 (m2 a0 0) 9)) ((mu m2 a0 13 (m2 (m2 a0 0) 9)) a0 0) 1 0) a0 2)) ((g67 (mu (mu m2 a0 13 (m2 (m2 a0 0) 9)) ((mu m2 a0 13 (m2 (m2 a0 0) 9)) a0 0) 1 0) ((mu (mu m2 a0 13 (m2 (m2 a0 0) 9)) ((mu m2 a0 13 (m2 (m2 a0 0) 9)) a0 0) 1 0) a0 1) ((mu (mu m2 a0 13 (m2 (m2 a0 0) 9)) ((mu m2 a0 13 (m2 (m2 a0 0) 9)) a0 0) 1 0) a0 2)) a0 3) ((g67 (mu (mu m2 a0 13 (m2 (m2 a0 0) 9)) ((mu m2 a0 13 (m2 (m2 a0 0) 9)) a0 0) 1 0) ((mu (mu m2 a0 13 (m2 (m2 a0 0) 9)) ((mu m2 a0 13 (m2 (m2 a0 0) 9)) a0 0) 1 0) a0 1) ((mu (mu m2 a0 13 (m2 (m2 a0 0) 9)) ((mu m2 a0 13 (m2 (m2 a0 0) 9)) a0 0) 1 0) a0 2)) a0 4)) a0 11)) r21 m22 := q23
    obtain ⟨e24, e25⟩ := d161 q23
    rw [e24, e25] at h
    have h : MR X ρ 2 0 0 qP25 N 88 [a0, v4] [] (g161 (g89 (g113 (g67 (mu (mu m2 a0 13 (m2 (m2 a0 0) 9)) ((mu m2 a0 13 (m2 (m2 a0 0) 9)) a0 0) 1 0) ((mu (mu m2 a0 13 (m2 (m2 a0 0) 9)) ((mu m2 a0 13 (m2 (m2 a0 0) 9)) a0 0) 1 0) a0 1) ((mu (mu m2 a0 13 (m2 (m2 a0 0) 9)) ((mu m2 a0 13 (m2 (m2 a0 0) 9)) a0 0) 1 0) a0 2)) ((g67 (mu (mu m2 a0 13 (m2 (m2 a0 0) 9)) ((mu m2 a0 13 (m2 (m2 a0 0) 9)) a0 0) 1 0) ((mu (mu m2 a0 13 (m2 (m2 a0 0) 9)) ((mu m2 a0 13 (m2 (m2 a0 0) 9)) a0 0) 1 0) a0 1) ((mu (mu m2 a0 13 (m2 (m2 a0 0) 9)) ((mu m2 a0 13 (m2 (m2 a0 0) 9)) a0 0) 1 0) a0 2)) a0 3) ((g67 (mu (mu m2 a0 13 (m2 (m2 a0 0) 9)) ((mu m2 a0 13 (m2 (m2 a0 0) 9)) a0 0) 1 0) ((mu (mu m2 a0 13 (m2 (m2 a0 0) 9)) ((mu m2 a0 13 (m2 (m2 a0 0) 9)) a0 0) 1 0) a0 1) ((mu (mu m2 a0 13 (m2 (m2 a0 0) 9)) ((mu m2 a0 13 (m2 (m2 a0 0) 9)) a0 0) 1 0) a0 2)) a0 4)) ((g113 (g67 (mu (mu m2 a0 13 (m2 (m2 a0 0) 9)) ((mu m2 a0 13 (m2 (m2 a0 0) 9)) a0 0) 1 0) ((mu (mu m2 a0 13 (m2 (m2 a0 0) 9)) ((mu m2 a0 13 (m2 (m2 a0 0) 9)) a0 0) 1 0) a0 1) ((mu (mu m2 a0 13 (m2 (m2 a0 0) 9)) ((mu m2 a0 13 (m2 (m2 a0 0) 9)) a0 0) 1 0) a0 2)) ((g67 (mu (mu m2 a0 13 (m2 (m2 a0 0) 9)) ((mu m2 a0 13 (m2 (m2 a0 0) 9)) a0 0) 1 0) ((mu (mu m2 a0 13 (m2 (m2 a0 0) 9)) ((mu m2 a0 13 (m2 (m2 a0 0) 9)) a0 0) 1 0) a0 1) ((mu (mu m2 a0 13 (m2 (m2 a0 0) 9)) ((mu m2 a0 13 (m2 (m2 a0 0) 9)) a0 0) 1 0) a0 2)) a0 3) ((g67 (mu (mu m2 a0 13 (m2 (m2 a0 0) 9)) ((mu m2 a0 13 (m2 (m2 a0 0) 9)) a0 0) 1 0) ((mu (mu m2 a0 13 (m2 (m2 a0 0) 9)) ((mu m2 a0 13 (m2 (m2 a0 0) 9)) a0 0) 1 0) a0 1) ((mu (mu m2 a0 13 (m2 (m2 a0 0) 9)) ((mu m2 a0 13 (m2 (m2 a0 0) 9)) a0 0) 1 0) a0 2)) a0 4)) a0 11)) ((g89 (g113 (g67 (mu (mu m2 a0 13 (m2 (m2 a0 0) 9)) ((mu m2 a0 13 (m2 (m2 a0 0) 9)) a0 0) 1 0) ((mu (mu m2 a0 13 (m2 (m2 a0 0) 9)) ((mu m2 a0 13 (m2 (m2 a0 0) 9)) a0 0) 1 0) a0 1) ((mu (mu m2 a0 13 (m2 (m2 a0 0) 9)) ((mu m2 a0 13 (m2 (m2 a0 0) 9)) a0 0) 1 0) a0 2)) ((g67 (mu (mu m2 a0 13 (m2 (m2 a0 0) 9)) ((mu m2 a0 13 (m2 (m2 a0 0) 9)) a0 0) 1 0) ((mu (mu m2 a0 13 (m2 (m2 a0 0) 9)) ((mu m2 a0 13 (m2 (m2 a0 0) 9)) a0 0) 1 0) a0 1) ((mu (mu m2 a0 13 (m2 (m2 a0 0) 9)) ((mu m2 a0 13 (m2 (m2 a0 0) 9)) a0 0) 1 0) a0 2)) a0 3) ((g67 (mu (mu m2 a0 13 (m2 (m2 a0 0) 9)) ((mu m2 a0 13 (m2 (m2 a0 0) 9)) a0 0) 1 0) ((mu (mu m2 a0 13 (m2 (m2 a0 0) 9)) ((mu m2 a0 13 (m2 (m2 a0 0) 9)) a0 0) 1 0) a0 1) ((mu (mu m2 a0 13 (m2 (m2 a0 0) 9)) ((mu m2 a0 13 (m2 (m2 a0 0) 9)) a0 0) 1 0) a0 2)) a0 4)) ((g113 (g67 (mu (mu m2 a0 13 (m2 (m2 a0 0) 9)) ((mu m2 a0 13 (m2 (m2 a0 0) 9)) a0 0) 1 0) ((mu (mu m2 a0 13 (m2 (m2 a0 0) 9)) ((mu m2 a0 13 (m2 (m2 a0 0) 9)) a0 0) 1 0) a0 1) ((mu (mu m2 a0 13 (m2 (m2 a0 0) 9)) ((mu m2 a0 13 (m2 (m2 a0 0) 9)) a0 0) 1 0) a0 2)) ((g67 (mu (mu m2 a0 13 (m2 (m2 a0 0) 9)) ((mu m2 a0 13 (m2 (m2 a0 0) 9)) a0 0) 1 0) ((mu (mu m2 a0 13 (m2 (m2 a0 0) 9)) ((mu m2 a0 13 (m2 (m2 a0 0) 9)) a0 0) 1 0) a0 1) ((mu (mu m2 a0 13 (m2 (m2 a0 0) 9)) ((mu m2 a0 13 (m2 (m2 a0 0) 9)) a0 0) 1 0) a0 2)) a0 3) ((g67 (mu (mu m2 a0 13 (m2 (m2 a0 0) 9)) ((mu m2 a0 13 (m2 (m2 a0 0) 9)) a0 0) 1 0) ((mu (mu m2 a0 13 (m2 (m2 a0 0) 9)) ((mu m2 a0 13 (m2 (m2 a0 0) 9)) a0 0) 1 0) a0 1) ((mu (mu m2 a0 13 (m2 (m2 a0 0) 9)) ((mu m2 a0 13 (m2 (m2 a0 0) 9)) a0 0) 1 0) a0 2)) a0 4)) a0 11)) a0 5)) o := h
    have h := CR_iload_n h rfl
    have h : MR X ρ 2 0 0 qP25 N 89 [a0, v4] [(1, v4)] (g161 (g89 (g113 (g67 (mu (mu m2 a0 13 (m2 (m2 a0 0) 9)) ((mu m2 a0 13 (m2 (m2 a0 0) 9)) a0 0) 1 0) ((mu (mu m2 a0 13 (m2 (m2 a0 0) 9)) ((mu m2 a0 13 (m2 (m2 a0 0) 9)) a0 0) 1 0) a0 1) ((mu (mu m2 a0 13 (m2 (m2 a0 0) 9)) ((mu m2 a0 13 (m2 (m2 a0 0) 9)) a0 0) 1 0) a0 2)) ((g67 (mu (mu m2 a0 13 (m2 (m2 a0 0) 9)) ((mu m2 a0 13 (m2 (m2 a0 0) 9)) a0 0) 1 0) ((mu (mu m2 a0 13 (m2 (m2 a0 0) 9)) ((mu m2 a0 13 (m2 (m2 a0 0) 9)) a0 0) 1 0) a0 1) ((mu (mu m2 a0 13 (m2 (m2 a0 0) 9)) ((mu m2 a0 13 (m2 (m2 a0 0) 9)) a0 0) 1 0) a0 2)) a0 3) ((g67 (mu (mu m2 a0 13 (m2 (m2 a0 0) 9)) ((mu m2 a0 13 (m2 (m2 a0 0) 9)) a0 0) 1 0) ((mu (mu m2 a0 13 (m2 (m2 a0 0) 9)) ((mu m2 a0 13 (m2 (m2 a0 0) 9)) a0 0) 1 0) a0 1) ((mu (mu m2 a0 13 (m2 (m2 a0 0) 9)) ((mu m2 a0 13 (m2 (m2 a0 0) 9)) a0 0) 1 0) a0 2)) a0 4)) ((g113 (g67 (mu (mu m2 a0 13 (m2 (m2 a0 0) 9)) ((mu m2 a0 13 (m2 (m2 a0 0) 9)) a0 0) 1 0) ((mu (mu m2 a0 13 (m2 (m2 a0 0) 9)) ((mu m2 a0 13 (m2 (m2 a0 0) 9)) a0 0) 1 0) a0 1) ((mu (mu m2 a0 13 (m2 (m2 a0 0) 9)) ((mu m2 a0 13 (m2 (m2 a0 0) 9)) a0 0) 1 0) a0 2)) ((g67 (mu (mu m2 a0 13 (m2 (m2 a0 0) 9)) ((mu m2 a0 13 (m2 (m2 a0 0) 9)) a0 0) 1 0) ((mu (mu m2 a0 13 (m2 (m2 a0 0) 9)) ((mu m2 a0 13 (m2 (m2 a0 0) 9)) a0 0) 1 0) a0 1) ((mu (mu m2 a0 13 (m2 (m2 a0 0) 9)) ((mu m2 a0 13 (m2 (m2 a0 0) 9)) a0 0) 1 0) a0 2)) a0 3) ((g67 (mu (mu m2 a0 13 (m2 (m2 a0 0) 9)) ((mu m2 a0 13 (m2 (m2 a0 0) 9)) a0 0) 1 0) ((mu (mu m2 a0 13 (m2 (m2 a0 0) 9)) ((mu m2 a0 13 (m2 (m2 a0 0) 9)) a0 0) 1 0) a0 1) ((mu (mu m2 a0 13 (m2 (m2 a0 0) 9)) ((mu m2 a0 13 (m2 (m2 a0 0) 9)) a0 0) 1 0) a0 2)) a0 4)) a0 11)) ((g89 (g113 (g67 (mu (mu m2 a0 13 (m2 (m2 a0 0) 9)) ((mu m2 a0 13 (m2 (m2 a0 0) 9)) a0 0) 1 0) ((mu (mu m2 a0 13 (m2 (m2 a0 0) 9)) ((mu m2 a0 13 (m2 (m2 a0 0) 9)) a0 0) 1 0) a0 1) ((mu (mu m2 a0 13 (m2 (m2 a0 0) 9)) ((mu m2 a0 13 (m2 (m2 a0 0) 9)) a0 0) 1 0) a0 2)) ((g67 (mu (mu m2 a0 13 (m2 (m2 a0 0) 9)) ((mu m2 a0 13 (m2 (m2 a0 0) 9)) a0 0) 1 0) ((mu (mu m2 a0 13 (m2 (m2 a0 0) 9)) ((mu m2 a0 13 (m2 (m2 a0 0) 9)) a0 0) 1 0) a0 1) ((mu (mu m2 a0 13 (m2 (m2 a0 0) 9)) ((mu m2 a0 13 (m2 (m2 a0 0) 9)) a0 0) 1 0) a0 2)) a0 3) ((g67 (mu (mu m2 a0 13 (m2 (m2 a0 0) 9)) ((mu m2 a0 13 (m2 (m2 a0 0) 9)) a0 0) 1 0) ((mu (mu m2 a0 13 (m2 (m2 a0 0) 9)) ((mu m2 a0 13 (m2 (m2 a0 0) 9)) a0 0) 1 0) a0 1) ((mu (mu m2 a0 13 (m2 (m2 a0 0) 9)) ((mu m2 a0 13 (m2 (m2 a0 0) 9)) a0 0) 1 0) a0 2)) a0 4)) ((g113 (g67 (mu (mu m2 a0 13 (m2 (m2 a0 0) 9)) ((mu m2 a0 13 (m2 (m2 a0 0) 9)) a0 0) 1 0) ((mu (mu m2 a0 13 (m2 (m2 a0 0) 9)) ((mu m2 a0 13 (m2 (m2 a0 0) 9)) a0 0) 1 0) a0 1) ((mu (mu m2 a0 13 (m2 (m2 a0 0) 9)) ((mu m2 a0 13 (m2 (m2 a0 0) 9)) a0 0) 1 0) a0 2)) ((g67 (mu (mu m2 a0 13 (m2 (m2 a0 0) 9)) ((mu m2 a0 13 (m2 (m2 a0 0) 9)) a0 0) 1 0) ((mu (mu m2 a0 13 (m2 (m2 a0 0) 9)) ((mu m2 a0 13 (m2 (m2 a0 0) 9)) a0 0) 1 0) a0 1) ((mu (mu m2 a0 13 (m2 (m2 a0 0) 9)) ((mu m2 a0 13 (m2 (m2 a0 0) 9)) a0 0) 1 0) a0 2)) a0 3) ((g67 (mu (mu m2 a0 13 (m2 (m2 a0 0) 9)) ((mu m2 a0 13 (m2 (m2 a0 0) 9)) a0 0) 1 0) ((mu (mu m2 a0 13 (m2 (m2 a0 0) 9)) ((mu m2 a0 13 (m2 (m2 a0 0) 9)) a0 0) 1 0) a0 1) ((mu (mu m2 a0 13 (m2 (m2 a0 0) 9)) ((mu m2 a0 13 (m2 (m2 a0 0) 9)) a0 0) 1 0) a0 2)) a0 4)) a0 11)) a0 5)) o := h
    exact CR_end h rfl rfl
  ·
    have c5 : ¬ (((mu (mu m2 a0 13 (m2 (m2 a0 0) 9)) ((mu m2 a0 13 (m2 (m2 a0 0) 9)) a0 0) 1 0) a0 13) = 0) := c5
    refine Or.inr ⟨c5, ?_⟩
    have h : MR X ρ 2 0 0 qP25 N 42 [a0, v4] [] (mu (mu m2 a0 13 (m2 (m2 a0 0) 9)) ((mu m2 a0 13 (m2 (m2 a0 0) 9)) a0 0) 1 0) o := h
    have h := CR_iconst h rfl rfl
    have h : MR X ρ 2 0 0 qP25 N 43 [a0, v4] [(1, -1)] (mu (mu m2 a0 13 (m2 (m2 a0 0) 9)) ((mu m2 a0 13 (m2 (m2 a0 0) 9)) a0 0) 1 0) o := h
    have h := CR_aload_n h rfl
    have h : MR X ρ 2 0 0 qP25 N 44 [a0, v4] [(1, a0), (1, -1)] (mu (mu m2 a0 13 (m2 (m2 a0 0) 9)) ((mu m2 a0 13 (m2 (m2 a0 0) 9)) a0 0) 1 0) o := h
    have h := CR_getf h rfl (by decide)
    have h : MR X ρ 2 0 0 qP25 N 47 [a0, v4] [(1, (mu (mu m2 a0 13 (m2 (m2 a0 0) 9)) ((mu m2 a0 13 (m2 (m2 a0 0) 9)) a0 0) 1 0) a0 0), (1, -1)] (mu (mu m2 a0 13 (m2 (m2 a0 0) 9)) ((mu m2 a0 13 (m2 (m2 a0 0) 9)) a0 0) 1 0) o := h
    have h := CR_getf h rfl (by decide)
    have h : MR X ρ 2 0 0 qP25 N 50 [a0, v4] [(1, (mu (mu m2 a0 13 (m2 (m2 a0 0) 9)) ((mu m2 a0 13 (m2 (m2 a0 0) 9)) a0 0) 1 0) ((mu (mu m2 a0 13 (m2 (m2 a0 0) 9)) ((mu m2 a0 13 (m2 (m2 a0 0) 9)) a0 0) 1 0) a0 0) 10), (1, -1)] (mu (mu m2 a0 13 (m2 (m2 a0 0) 9)) ((mu m2 a0 13 (m2 (m2 a0 0) 9)) a0 0) 1 0) o := h
    have h := CR_isub h rfl
    have h : MR X ρ 2 0 0 qP25 N 51 [a0, v4] [(1, s32 ((-1) - ((mu (mu m2 a0 13 (m2 (m2 a0 0) 9)) ((mu m2 a0 13 (m2 (m2 a0 0) 9)) a0 0) 1 0) ((mu (mu m2 a0 13 (m2 (m2 a0 0) 9)) ((mu m2 a0 13 (m2 (m2 a0 0) 9)) a0 0) 1 0) a0 0) 10)))] (mu (mu m2 a0 13 (m2 (m2 a0 0) 9)) ((mu m2 a0 13 (m2 (m2 a0 0) 9)) a0 0) 1 0) o := h
    exact CR_end h rfl rfl
set_option maxRecDepth 16384 in
theorem i230_0 {X : KO} {ρ : Nat → Int32} {m : MM} {N : Nat} {o : Instr × List (Nat × Int) × MM} {a0 : Int} (h : MR X ρ 3 0 0 qP230 N 0 [a0, 0, 0] [] m o) : (∃ m2, Run X ρ 169 [(1, a0), (1, 900)] m [] m2 ∧ (MR X ρ 3 0 0 qP230 N 9 [a0, 0, 0] [] m2 o)) := by
  have h := CR_aload_n h rfl
  have h : MR X ρ 3 0 0 qP230 N 1 [a0, 0, 0] [(1, a0)] m o := h
  have h := CR_sipush h rfl rfl
  have h : MR X ρ 3 0 0 qP230 N 4 [a0, 0, 0] [(1, 900), (1, a0)] m o := h
  obtain ⟨r1, m2, q3, h⟩ := MR_invV h rfl rfl
  have q3 : Run X ρ 169 [(1, a0), (1, 900)] m r1 m2 := q3
  obtain rfl := Run_v q3 rfl
  have h : MR X ρ 3 0 0 qP230 N 7 [a0, 0, 0] [] m2 o := h
  refine ⟨m2, q3, ?_⟩
  have h := CR_iconst h rfl rfl
  have h : MR X ρ 3 0 0 qP230 N 8 [a0, 0, 0] [(1, 0)] m2 o := h
  have h := CR_istore_n h rfl (Nat.le_of_ble_eq_true rfl)
  have h : MR X ρ 3 0 0 qP230 N 9 [a0, 0, 0] [] m2 o := h
  exact h
set_option maxRecDepth 16384 in
theorem i230_9 {X : KO} {ρ : Nat → Int32} {m : MM} {N : Nat} {o : Instr × List (Nat × Int) × MM} {b0 b1 b2 : Int} (h : MR X ρ 3 0 0 qP230 N 9 [b0, b1, b2] [] m o) : (((92 ≤ b1) ∧ (MR X ρ 3 0 0 qP230 N 35 [b0, 0, b2] [] (mu m b0 24 0) o)) ∨ (¬ (92 ≤ b1) ∧ (∃ N2, N = N2 + 1 ∧ MR X ρ 3 0 0 qP230 N2 9 [b0, s32 (b1 + 1), b2] [] (mu m (m b0 15) b1 (s32 0)) o))) := by
  have h := CR_iload_n h rfl
  have h : MR X ρ 3 0 0 qP230 N 10 [b0, b1, b2] [(1, b1)] m o := h
  have h := CR_bipush h rfl rfl
  have h : MR X ρ 3 0 0 qP230 N 12 [b0, b1, b2] [(1, 92), (1, b1)] m o := h
  rcases MR_icmp h rfl rfl with ⟨c1, h⟩ | ⟨c1, h⟩
  ·
    have c1 : 92 ≤ b1 := c1
    refine Or.inl ⟨c1, ?_⟩
    have h : MR X ρ 3 0 0 qP230 N 28 [b0, b1, b2] [] m o := h
    have h := CR_aload_n h rfl
    have h : MR X ρ 3 0 0 qP230 N 29 [b0, b1, b2] [(1, b0)] m o := h
    have h := CR_iconst h rfl rfl
    have h : MR X ρ 3 0 0 qP230 N 30 [b0, b1, b2] [(1, 0), (1, b0)] m o := h
    have h := CR_putf h rfl
    have h : MR X ρ 3 0 0 qP230 N 33 [b0, b1, b2] [] (mu m b0 24 0) o := h
    have h := CR_iconst h rfl rfl
    have h : MR X ρ 3 0 0 qP230 N 34 [b0, b1, b2] [(1, 0)] (mu m b0 24 0) o := h
    have h := CR_istore_n h rfl (Nat.le_of_ble_eq_true rfl)
    have h : MR X ρ 3 0 0 qP230 N 35 [b0, 0, b2] [] (mu m b0 24 0) o := h
    exact h
  ·
    have c1 : ¬ (92 ≤ b1) := c1
    refine Or.inr ⟨c1, ?_⟩
    have h : MR X ρ 3 0 0 qP230 N 15 [b0, b1, b2] [] m o := h
    have h := CR_aload_n h rfl
    have h : MR X ρ 3 0 0 qP230 N 16 [b0, b1, b2] [(1, b0)] m o := h
    have h := CR_getf h rfl (by decide)
    have h : MR X ρ 3 0 0 qP230 N 19 [b0, b1, b2] [(1, m b0 15)] m o := h
    have h := CR_iload_n h rfl
    have h : MR X ρ 3 0 0 qP230 N 20 [b0, b1, b2] [(1, b1), (1, m b0 15)] m o := h
    have h := CR_iconst h rfl rfl
    have h : MR X ρ 3 0 0 qP230 N 21 [b0, b1, b2] [(1, 0), (1, b1), (1, m b0 15)] m o := h
    have h := CR_iastore_ h rfl
    have h : MR X ρ 3 0 0 qP230 N 22 [b0, b1, b2] [] (mu m (m b0 15) b1 (s32 0)) o := h
    have h := CR_inc h rfl (Nat.le_of_ble_eq_true rfl)
    have h : MR X ρ 3 0 0 qP230 N 25 [b0, s32 (b1 + 1), b2] [] (mu m (m b0 15) b1 (s32 0)) o := h
    obtain ⟨N2, eN2, h⟩ := CR_goto h rfl rfl
    have h : MR X ρ 3 0 0 qP230 N2 9 [b0, s32 (b1 + 1), b2] [] (mu m (m b0 15) b1 (s32 0)) o := h
    exact ⟨N2, eN2, h⟩
set_option maxRecDepth 16384 in
theorem i230_35 {X : KO} {ρ : Nat → Int32} {m : MM} {N : Nat} {o : Instr × List (Nat × Int) × MM} {b0 b1 b2 : Int} (h : MR X ρ 3 0 0 qP230 N 35 [b0, b1, b2] [] m o) : ((((m b0 7) = 0) ∧ (MR X ρ 3 0 0 qP230 N 71 [b0, b1, 0] [] m o)) ∨ (¬ ((m b0 7) = 0) ∧ (∃ v5 m3, Run X ρ 250 [(1, b0)] m [(1, v5)] m3 ∧ (v5 = 0 ∨ v5 = 1) ∧ (((v5 = 0) ∧ (o = (.ireturn, [(1, s32 ((-1) - (m3 b0 11)))], m3))) ∨ (¬ (v5 = 0) ∧ (∃ v10 m8, Run X ρ 245 [(1, b0)] m3 [(1, v10)] m8 ∧ (v10 = 0 ∨ v10 = 1) ∧ (((v10 = 0) ∧ (o = (.ireturn, [(1, s32 ((-1) - (m8 b0 11)))], m8))) ∨ (¬ (v10 = 0) ∧ (∃ N12, N = N12 + 1 ∧ MR X ρ 3 0 0 qP230 N12 35 [b0, s32 (b1 + 1), b2] [] m8 o))))))))) := by
  have h := CR_aload_n h rfl
  have h : MR X ρ 3 0 0 qP230 N 36 [b0, b1, b2] [(1, b0)] m o := h
  have h := CR_getf h rfl (by decide)
  have h : MR X ρ 3 0 0 qP230 N 39 [b0, b1, b2] [(1, m b0 7)] m o := h
  rcases MR_if h rfl rfl with ⟨c1, h⟩ | ⟨c1, h⟩
  ·
    have c1 : (m b0 7) = 0 := c1
    refine Or.inl ⟨c1, ?_⟩
    have h : MR X ρ 3 0 0 qP230 N 69 [b0, b1, b2] [] m o := h
    have h := CR_iconst h rfl rfl
    have h : MR X ρ 3 0 0 qP230 N 70 [b0, b1, b2] [(1, 0)] m o := h
    have h := CR_istore_n h rfl (Nat.le_of_ble_eq_true rfl)
    have h : MR X ρ 3 0 0 qP230 N 71 [b0, b1, 0] [] m o := h
    exact h
  ·
    have c1 : ¬ ((m b0 7) = 0) := c1
    refine Or.inr ⟨c1, ?_⟩
    have h : MR X ρ 3 0 0 qP230 N 42 [b0, b1, b2] [] m o := h
    have h := CR_aload_n h rfl
    have h : MR X ρ 3 0 0 qP230 N 43 [b0, b1, b2] [(1, b0)] m o := h
    obtain ⟨r2, m3, q4, h⟩ := MR_invV h rfl rfl
    have q4 : Run X ρ 250 [(1, b0)] m r2 m3 := q4
    obtain ⟨v5, rfl, zv5⟩ := Run_z q4 rfl
    have h : MR X ρ 3 0 0 qP230 N 46 [b0, b1, b2] [(1, v5)] m3 o := h
    refine ⟨v5, m3, q4, zv5, ?_⟩
    rcases MR_if h rfl rfl with ⟨c6, h⟩ | ⟨c6, h⟩
    ·
      have c6 : v5 = 0 := c6
      refine Or.inl ⟨c6, ?_⟩
      have h : MR X ρ 3 0 0 qP230 N 56 [b0, b1, b2] [] m3 o := h
      have h := CR_iconst h rfl rfl
      have h : MR X ρ 3 0 0 qP230 N 57 [b0, b1, b2] [(1, -1)] m3 o := h
      have h := CR_aload_n h rfl
      have h : MR X ρ 3 0 0 qP230 N 58 [b0, b1, b2] [(1, b0), (1, -1)] m3 o := h
      have h := CR_getf h rfl (by decide)
      have h : MR X ρ 3 0 0 qP230 N 61 [b0, b1, b2] [(1, m3 b0 11), (1, -1)] m3 o := h
      have h := CR_isub h rfl
      have h : MR X ρ 3 0 0 qP230 N 62 [b0, b1, b2] [(1, s32 ((-1) - (m3 b0 11)))] m3 o := h
      exact CR_end h rfl rfl
    ·
      have c6 : ¬ (v5 = 0) := c6
      refine Or.inr ⟨c6, ?_⟩
      have h : MR X ρ 3 0 0 qP230 N 49 [b0, b1, b2] [] m3 o := h
      have h := CR_aload_n h rfl
      have h : MR X ρ 3 0 0 qP230 N 50 [b0, b1, b2] [(1, b0)] m3 o := h
      obtain ⟨r7, m8, q9, h⟩ := MR_invV h rfl rfl
      have q9 : Run X ρ 245 [(1, b0)] m3 r7 m8 := q9
      obtain ⟨v10, rfl, zv10⟩ := Run_z q9 rfl
      have h : MR X ρ 3 0 0 qP230 N 53 [b0, b1, b2] [(1, v10)] m8 o := h
      refine ⟨v10, m8, q9, zv10, ?_⟩
      rcases MR_if h rfl rfl with ⟨c11, h⟩ | ⟨c11, h⟩
      ·
        have c11 : ¬ (v10 = 0) := c11
        refine Or.inr ⟨c11, ?_⟩
        have h : MR X ρ 3 0 0 qP230 N 63 [b0, b1, b2] [] m8 o := h
        have h := CR_inc h rfl (Nat.le_of_ble_eq_true rfl)
        have h : MR X ρ 3 0 0 qP230 N 66 [b0, s32 (b1 + 1), b2] [] m8 o := h
        obtain ⟨N12, eN12, h⟩ := CR_goto h rfl rfl
        have h : MR X ρ 3 0 0 qP230 N12 35 [b0, s32 (b1 + 1), b2] [] m8 o := h
        exact ⟨N12, eN12, h⟩
      ·
        have c11 : v10 = 0 := Decidable.of_not_not (show ¬ ¬ (v10 = 0) from c11)
        refine Or.inl ⟨c11, ?_⟩
        have h : MR X ρ 3 0 0 qP230 N 56 [b0, b1, b2] [] m8 o := h
        have h := CR_iconst h rfl rfl
        have h : MR X ρ 3 0 0 qP230 N 57 [b0, b1, b2] [(1, -1)] m8 o := h
        have h := CR_aload_n h rfl
        have h : MR X ρ 3 0 0 qP230 N 58 [b0, b1, b2] [(1, b0), (1, -1)] m8 o := h
        have h := CR_getf h rfl (by decide)
        have h : MR X ρ 3 0 0 qP230 N 61 [b0, b1, b2] [(1, m8 b0 11), (1, -1)] m8 o := h
        have h := CR_isub h rfl
        have h : MR X ρ 3 0 0 qP230 N 62 [b0, b1, b2] [(1, s32 ((-1) - (m8 b0 11)))] m8 o := h
        exact CR_end h rfl rfl
set_option maxRecDepth 16384 in
theorem i230_71 {X : KO} {ρ : Nat → Int32} {m : MM} {N : Nat} {o : Instr × List (Nat × Int) × MM} {b0 b1 b2 : Int} (h : MR X ρ 3 0 0 qP230 N 71 [b0, b1, b2] [] m o) : (((92 ≤ b2) ∧ (MR X ρ 3 0 0 qP230 N 97 [b0, b1, 0] [] m o)) ∨ (¬ (92 ≤ b2) ∧ (∃ N2, N = N2 + 1 ∧ MR X ρ 3 0 0 qP230 N2 71 [b0, b1, s32 (b2 + 1)] [] (mu m (m b0 14) b2 (s32 (m (m b0 15) b2))) o))) := by
  have h := CR_iload_n h rfl
  have h : MR X ρ 3 0 0 qP230 N 72 [b0, b1, b2] [(1, b2)] m o := h
  have h := CR_bipush h rfl rfl
  have h : MR X ρ 3 0 0 qP230 N 74 [b0, b1, b2] [(1, 92), (1, b2)] m o := h
  rcases MR_icmp h rfl rfl with ⟨c1, h⟩ | ⟨c1, h⟩
  ·
    have c1 : 92 ≤ b2 := c1
    refine Or.inl ⟨c1, ?_⟩
    have h : MR X ρ 3 0 0 qP230 N 95 [b0, b1, b2] [] m o := h
    have h := CR_iconst h rfl rfl
    have h : MR X ρ 3 0 0 qP230 N 96 [b0, b1, b2] [(1, 0)] m o := h
    have h := CR_istore_n h rfl (Nat.le_of_ble_eq_true rfl)
    have h : MR X ρ 3 0 0 qP230 N 97 [b0, b1, 0] [] m o := h
    exact h
  ·
    have c1 : ¬ (92 ≤ b2) := c1
    refine Or.inr ⟨c1, ?_⟩
    have h : MR X ρ 3 0 0 qP230 N 77 [b0, b1, b2] [] m o := h
    have h := CR_aload_n h rfl
    have h : MR X ρ 3 0 0 qP230 N 78 [b0, b1, b2] [(1, b0)] m o := h
    have h := CR_getf h rfl (by decide)
    have h : MR X ρ 3 0 0 qP230 N 81 [b0, b1, b2] [(1, m b0 14)] m o := h
    have h := CR_iload_n h rfl
    have h : MR X ρ 3 0 0 qP230 N 82 [b0, b1, b2] [(1, b2), (1, m b0 14)] m o := h
    have h := CR_aload_n h rfl
    have h : MR X ρ 3 0 0 qP230 N 83 [b0, b1, b2] [(1, b0), (1, b2), (1, m b0 14)] m o := h
    have h := CR_getf h rfl (by decide)
    have h : MR X ρ 3 0 0 qP230 N 86 [b0, b1, b2] [(1, m b0 15), (1, b2), (1, m b0 14)] m o := h
    have h := CR_iload_n h rfl
    have h : MR X ρ 3 0 0 qP230 N 87 [b0, b1, b2] [(1, b2), (1, m b0 15), (1, b2), (1, m b0 14)] m o := h
    have h := CR_iaload h rfl rfl
    have h : MR X ρ 3 0 0 qP230 N 88 [b0, b1, b2] [(1, m (m b0 15) b2), (1, b2), (1, m b0 14)] m o := h
    have h := CR_iastore_ h rfl
    have h : MR X ρ 3 0 0 qP230 N 89 [b0, b1, b2] [] (mu m (m b0 14) b2 (s32 (m (m b0 15) b2))) o := h
    have h := CR_inc h rfl (Nat.le_of_ble_eq_true rfl)
    have h : MR X ρ 3 0 0 qP230 N 92 [b0, b1, s32 (b2 + 1)] [] (mu m (m b0 14) b2 (s32 (m (m b0 15) b2))) o := h
    obtain ⟨N2, eN2, h⟩ := CR_goto h rfl rfl
    have h : MR X ρ 3 0 0 qP230 N2 71 [b0, b1, s32 (b2 + 1)] [] (mu m (m b0 14) b2 (s32 (m (m b0 15) b2))) o := h
    exact ⟨N2, eN2, h⟩
set_option maxRecDepth 16384 in
theorem i230_97 {X : KO} {ρ : Nat → Int32} {m : MM} {N : Nat} {o : Instr × List (Nat × Int) × MM} {b0 b1 b2 : Int} (h : MR X ρ 3 0 0 qP230 N 97 [b0, b1, b2] [] m o) : (((16 ≤ b2) ∧ (∃ m3, Run X ρ 280 [(1, b0)] m [] m3 ∧ (o = (.ireturn, [(1, b1)], mu m3 b0 23 0)))) ∨ (¬ (16 ≤ b2) ∧ (∃ N5, N = N5 + 1 ∧ MR X ρ 3 0 0 qP230 N5 97 [b0, b1, s32 (b2 + 1)] [] (mu m (m b0 19) b2 (m (m b0 20) b2)) o))) := by
  have h := CR_iload_n h rfl
  have h : MR X ρ 3 0 0 qP230 N 98 [b0, b1, b2] [(1, b2)] m o := h
  have h := CR_bipush h rfl rfl
  have h : MR X ρ 3 0 0 qP230 N 100 [b0, b1, b2] [(1, 16), (1, b2)] m o := h
  rcases MR_icmp h rfl rfl with ⟨c1, h⟩ | ⟨c1, h⟩
  ·
    have c1 : 16 ≤ b2 := c1
    refine Or.inl ⟨c1, ?_⟩
    have h : MR X ρ 3 0 0 qP230 N 121 [b0, b1, b2] [] m o := h
    have h := CR_aload_n h rfl
    have h : MR X ρ 3 0 0 qP230 N 122 [b0, b1, b2] [(1, b0)] m o := h
    obtain ⟨r2, m3, q4, h⟩ := MR_invV h rfl rfl
    have q4 : Run X ρ 280 [(1, b0)] m r2 m3 := q4
    obtain rfl := Run_v q4 rfl
    have h : MR X ρ 3 0 0 qP230 N 125 [b0, b1, b2] [] m3 o := h
    refine ⟨m3, q4, ?_⟩
    have h := CR_aload_n h rfl
    have h : MR X ρ 3 0 0 qP230 N 126 [b0, b1, b2] [(1, b0)] m3 o := h
    have h := CR_iconst h rfl rfl
    have h : MR X ρ 3 0 0 qP230 N 127 [b0, b1, b2] [(1, 0), (1, b0)] m3 o := h
    have h := CR_putf h rfl
    have h : MR X ρ 3 0 0 qP230 N 130 [b0, b1, b2] [] (mu m3 b0 23 0) o := h
    have h := CR_iload_n h rfl
    have h : MR X ρ 3 0 0 qP230 N 131 [b0, b1, b2] [(1, b1)] (mu m3 b0 23 0) o := h
    exact CR_end h rfl rfl
  ·
    have c1 : ¬ (16 ≤ b2) := c1
    refine Or.inr ⟨c1, ?_⟩
    have h : MR X ρ 3 0 0 qP230 N 103 [b0, b1, b2] [] m o := h
    have h := CR_aload_n h rfl
    have h : MR X ρ 3 0 0 qP230 N 104 [b0, b1, b2] [(1, b0)] m o := h
    have h := CR_getf h rfl (by decide)
    have h : MR X ρ 3 0 0 qP230 N 107 [b0, b1, b2] [(1, m b0 19)] m o := h
    have h := CR_iload_n h rfl
    have h : MR X ρ 3 0 0 qP230 N 108 [b0, b1, b2] [(1, b2), (1, m b0 19)] m o := h
    have h := CR_aload_n h rfl
    have h : MR X ρ 3 0 0 qP230 N 109 [b0, b1, b2] [(1, b0), (1, b2), (1, m b0 19)] m o := h
    have h := CR_getf h rfl (by decide)
    have h : MR X ρ 3 0 0 qP230 N 112 [b0, b1, b2] [(1, m b0 20), (1, b2), (1, m b0 19)] m o := h
    have h := CR_iload_n h rfl
    have h : MR X ρ 3 0 0 qP230 N 113 [b0, b1, b2] [(1, b2), (1, m b0 20), (1, b2), (1, m b0 19)] m o := h
    have h := CR_lald h rfl
    have h : MR X ρ 3 0 0 qP230 N 114 [b0, b1, b2] [(2, m (m b0 20) b2), (1, b2), (1, m b0 19)] m o := h
    have h := CR_last h rfl
    have h : MR X ρ 3 0 0 qP230 N 115 [b0, b1, b2] [] (mu m (m b0 19) b2 (m (m b0 20) b2)) o := h
    have h := CR_inc h rfl (Nat.le_of_ble_eq_true rfl)
    have h : MR X ρ 3 0 0 qP230 N 118 [b0, b1, s32 (b2 + 1)] [] (mu m (m b0 19) b2 (m (m b0 20) b2)) o := h
    obtain ⟨N5, eN5, h⟩ := CR_goto h rfl rfl
    have h : MR X ρ 3 0 0 qP230 N5 97 [b0, b1, s32 (b2 + 1)] [] (mu m (m b0 19) b2 (m (m b0 20) b2)) o := h
    exact ⟨N5, eN5, h⟩
