set_option maxRecDepth 16384 in
theorem i157_0 {X : KO} {ρ : Nat → Int32} {m : MM} {N : Nat} {o : Instr × List (Nat × Int) × MM} {a0 : Int} (h : MR X ρ 4 0 0 qP157 N 0 [a0, 0, 0, 0] [] m o) : (MR X ρ 4 0 0 qP157 N 23 [a0, 0, 0, f159 (mu (mu m a0 7 0) a0 6 0) a0 ((mu (mu m a0 7 0) a0 6 0) a0 3)] [] (mu (mu m a0 7 0) a0 6 0) o) := by
  have h := CR_iconst h rfl rfl
  have h : MR X ρ 4 0 0 qP157 N 1 [a0, 0, 0, 0] [(1, 0)] m o := h
  have h := CR_istore_n h rfl (Nat.le_of_ble_eq_true rfl)
  have h : MR X ρ 4 0 0 qP157 N 2 [a0, 0, 0, 0] [] m o := h
  have h := CR_iconst h rfl rfl
  have h : MR X ρ 4 0 0 qP157 N 3 [a0, 0, 0, 0] [(1, 0)] m o := h
  have h := CR_istore_n h rfl (Nat.le_of_ble_eq_true rfl)
  have h : MR X ρ 4 0 0 qP157 N 4 [a0, 0, 0, 0] [] m o := h
  have h := CR_aload_n h rfl
  have h : MR X ρ 4 0 0 qP157 N 5 [a0, 0, 0, 0] [(1, a0)] m o := h
  have h := CR_lconst h rfl
  have h : MR X ρ 4 0 0 qP157 N 6 [a0, 0, 0, 0] [(2, 0), (1, a0)] m o := h
  have h := CR_putf h rfl
  have h : MR X ρ 4 0 0 qP157 N 9 [a0, 0, 0, 0] [] (mu m a0 7 0) o := h
  have h := CR_aload_n h rfl
  have h : MR X ρ 4 0 0 qP157 N 10 [a0, 0, 0, 0] [(1, a0)] (mu m a0 7 0) o := h
  have h := CR_iconst h rfl rfl
  have h : MR X ρ 4 0 0 qP157 N 11 [a0, 0, 0, 0] [(1, 0), (1, a0)] (mu m a0 7 0) o := h
  have h := CR_putf h rfl
  have h : MR X ρ 4 0 0 qP157 N 14 [a0, 0, 0, 0] [] (mu (mu m a0 7 0) a0 6 0) o := h
  have h := CR_aload_n h rfl
  have h : MR X ρ 4 0 0 qP157 N 15 [a0, 0, 0, 0] [(1, a0)] (mu (mu m a0 7 0) a0 6 0) o := h
  have h := CR_aload_n h rfl
  have h : MR X ρ 4 0 0 qP157 N 16 [a0, 0, 0, 0] [(1, a0), (1, a0)] (mu (mu m a0 7 0) a0 6 0) o := h
  have h := CR_getf h rfl (by decide)
  have h : MR X ρ 4 0 0 qP157 N 19 [a0, 0, 0, 0] [(1, (mu (mu m a0 7 0) a0 6 0) a0 3), (1, a0)] (mu (mu m a0 7 0) a0 6 0) o := h
  obtain ⟨r1, m2, q3, h⟩ := MR_invV h rfl rfl
  have q3 : Run X ρ 159 [(1, a0), (1, (mu (mu m a0 7 0) a0 6 0) a0 3)] (mu (mu m a0 7 0) a0 6 0) r1 m2 := q3
  obtain ⟨e4, e5⟩ := d159 q3
  rw [e4, e5] at h
  have h : MR X ρ 4 0 0 qP157 N 22 [a0, 0, 0, 0] [(1, f159 (mu (mu m a0 7 0) a0 6 0) a0 ((mu (mu m a0 7 0) a0 6 0) a0 3))] (mu (mu m a0 7 0) a0 6 0) o := h
  have h := CR_istore_n h rfl (Nat.le_of_ble_eq_true rfl)
  have h : MR X ρ 4 0 0 qP157 N 23 [a0, 0, 0, f159 (mu (mu m a0 7 0) a0 6 0) a0 ((mu (mu m a0 7 0) a0 6 0) a0 3)] [] (mu (mu m a0 7 0) a0 6 0) o := h
  exact h
set_option maxRecDepth 16384 in
theorem i157_23 {X : KO} {ρ : Nat → Int32} {m : MM} {N : Nat} {o : Instr × List (Nat × Int) × MM} {b0 b1 b2 b3 : Int} (h : MR X ρ 4 0 0 qP157 N 23 [b0, b1, b2, b3] [] m o) : ((((m b0 1) ≤ (m b0 3)) ∧ (MR X ρ 4 0 0 qP157 N 122 [b0, b1, b2, b3] [] m o)) ∨ (¬ ((m b0 1) ≤ (m b0 3)) ∧ ((((f154 m b3) = 0) ∧ ((((f151 m b3) = 0) ∧ (MR X ρ 4 0 0 qP157 N 122 [b0, b1, b2, b3] [] m o)) ∨ (¬ ((f151 m b3) = 0) ∧ (MR X ρ 4 0 0 qP157 N 48 [b0, b1, b2, b3] [] m o)))) ∨ (¬ ((f154 m b3) = 0) ∧ (MR X ρ 4 0 0 qP157 N 48 [b0, b1, b2, b3] [] m o))))) := by
  have h := CR_aload_n h rfl
  have h : MR X ρ 4 0 0 qP157 N 24 [b0, b1, b2, b3] [(1, b0)] m o := h
  have h := CR_getf h rfl (by decide)
  have h : MR X ρ 4 0 0 qP157 N 27 [b0, b1, b2, b3] [(1, m b0 3)] m o := h
  have h := CR_aload_n h rfl
  have h : MR X ρ 4 0 0 qP157 N 28 [b0, b1, b2, b3] [(1, b0), (1, m b0 3)] m o := h
  have h := CR_getf h rfl (by decide)
  have h : MR X ρ 4 0 0 qP157 N 31 [b0, b1, b2, b3] [(1, m b0 1), (1, m b0 3)] m o := h
  rcases MR_icmp h rfl rfl with ⟨c1, h⟩ | ⟨c1, h⟩
  ·
    have c1 : (m b0 1) ≤ (m b0 3) := c1
    refine Or.inl ⟨c1, ?_⟩
    have h : MR X ρ 4 0 0 qP157 N 122 [b0, b1, b2, b3] [] m o := h
    exact h
  ·
    have c1 : ¬ ((m b0 1) ≤ (m b0 3)) := c1
    refine Or.inr ⟨c1, ?_⟩
    have h : MR X ρ 4 0 0 qP157 N 34 [b0, b1, b2, b3] [] m o := h
    have h := CR_iload_n h rfl
    have h : MR X ρ 4 0 0 qP157 N 35 [b0, b1, b2, b3] [(1, b3)] m o := h
    obtain ⟨r2, m3, q4, h⟩ := MR_invS h rfl rfl
    have q4 : Run X ρ 154 [(1, b3)] m r2 m3 := q4
    obtain ⟨e5, e6⟩ := d154 q4
    rw [e5, e6] at h
    have h : MR X ρ 4 0 0 qP157 N 38 [b0, b1, b2, b3] [(1, f154 m b3)] m o := h
    rcases MR_if h rfl rfl with ⟨c7, h⟩ | ⟨c7, h⟩
    ·
      have c7 : ¬ ((f154 m b3) = 0) := c7
      refine Or.inr ⟨c7, ?_⟩
      have h : MR X ρ 4 0 0 qP157 N 48 [b0, b1, b2, b3] [] m o := h
      exact h
    ·
      have c7 : (f154 m b3) = 0 := Decidable.of_not_not (show ¬ ¬ ((f154 m b3) = 0) from c7)
      refine Or.inl ⟨c7, ?_⟩
      have h : MR X ρ 4 0 0 qP157 N 41 [b0, b1, b2, b3] [] m o := h
      have h := CR_iload_n h rfl
      have h : MR X ρ 4 0 0 qP157 N 42 [b0, b1, b2, b3] [(1, b3)] m o := h
      obtain ⟨r8, m9, q10, h⟩ := MR_invS h rfl rfl
      have q10 : Run X ρ 151 [(1, b3)] m r8 m9 := q10
      obtain ⟨e11, e12⟩ := d151 q10
      rw [e11, e12] at h
      have h : MR X ρ 4 0 0 qP157 N 45 [b0, b1, b2, b3] [(1, f151 m b3)] m o := h
      rcases MR_if h rfl rfl with ⟨c13, h⟩ | ⟨c13, h⟩
      ·
        have c13 : (f151 m b3) = 0 := c13
        refine Or.inl ⟨c13, ?_⟩
        have h : MR X ρ 4 0 0 qP157 N 122 [b0, b1, b2, b3] [] m o := h
        exact h
      ·
        have c13 : ¬ ((f151 m b3) = 0) := c13
        refine Or.inr ⟨c13, ?_⟩
        have h : MR X ρ 4 0 0 qP157 N 48 [b0, b1, b2, b3] [] m o := h
        exact h
set_option maxRecDepth 16384 in
theorem i157_48 {X : KO} {ρ : Nat → Int32} {m : MM} {N : Nat} {o : Instr × List (Nat × Int) × MM} {b0 b1 b2 b3 : Int} (h : MR X ρ 4 0 0 qP157 N 48 [b0, b1, b2, b3] [] m o) : ((((f151 m b3) = 0) ∧ (MR X ρ 4 0 0 qP157 N 100 [b0, s32 (b1 + 1), b2, b3] [] (mu m b0 7 (s64 ((s64 ((m b0 7) * 32)) + (s32 ((s32 (b3 - 97)) + 1))))) o)) ∨ (¬ ((f151 m b3) = 0) ∧ (MR X ρ 4 0 0 qP157 N 100 [b0, b1, s32 (b2 + 1), b3] [] (mu m b0 6 (s32 ((s32 ((m b0 6) * 10)) + (s32 (b3 - 48))))) o))) := by
  have h := CR_iload_n h rfl
  have h : MR X ρ 4 0 0 qP157 N 49 [b0, b1, b2, b3] [(1, b3)] m o := h
  obtain ⟨r1, m2, q3, h⟩ := MR_invS h rfl rfl
  have q3 : Run X ρ 151 [(1, b3)] m r1 m2 := q3
  obtain ⟨e4, e5⟩ := d151 q3
  rw [e4, e5] at h
  have h : MR X ρ 4 0 0 qP157 N 52 [b0, b1, b2, b3] [(1, f151 m b3)] m o := h
  rcases MR_if h rfl rfl with ⟨c6, h⟩ | ⟨c6, h⟩
  ·
    have c6 : (f151 m b3) = 0 := c6
    refine Or.inl ⟨c6, ?_⟩
    have h : MR X ρ 4 0 0 qP157 N 77 [b0, b1, b2, b3] [] m o := h
    have h := CR_inc h rfl (Nat.le_of_ble_eq_true rfl)
    have h : MR X ρ 4 0 0 qP157 N 80 [b0, s32 (b1 + 1), b2, b3] [] m o := h
    have h := CR_aload_n h rfl
    have h : MR X ρ 4 0 0 qP157 N 81 [b0, s32 (b1 + 1), b2, b3] [(1, b0)] m o := h
    have h := CR_aload_n h rfl
    have h : MR X ρ 4 0 0 qP157 N 82 [b0, s32 (b1 + 1), b2, b3] [(1, b0), (1, b0)] m o := h
    have h := CR_getf h rfl (by decide)
    have h : MR X ρ 4 0 0 qP157 N 85 [b0, s32 (b1 + 1), b2, b3] [(2, m b0 7), (1, b0)] m o := h
    have h := CR_ldc2w h rfl rfl
    have h : MR X ρ 4 0 0 qP157 N 88 [b0, s32 (b1 + 1), b2, b3] [(2, 32), (2, m b0 7), (1, b0)] m o := h
    have h := CR_lmul h rfl
    have h : MR X ρ 4 0 0 qP157 N 89 [b0, s32 (b1 + 1), b2, b3] [(2, s64 ((m b0 7) * 32)), (1, b0)] m o := h
    have h := CR_iload_n h rfl
    have h : MR X ρ 4 0 0 qP157 N 90 [b0, s32 (b1 + 1), b2, b3] [(1, b3), (2, s64 ((m b0 7) * 32)), (1, b0)] m o := h
    have h := CR_bipush h rfl rfl
    have h : MR X ρ 4 0 0 qP157 N 92 [b0, s32 (b1 + 1), b2, b3] [(1, 97), (1, b3), (2, s64 ((m b0 7) * 32)), (1, b0)] m o := h
    have h := CR_isub h rfl
    have h : MR X ρ 4 0 0 qP157 N 93 [b0, s32 (b1 + 1), b2, b3] [(1, s32 (b3 - 97)), (2, s64 ((m b0 7) * 32)), (1, b0)] m o := h
    have h := CR_iconst h rfl rfl
    have h : MR X ρ 4 0 0 qP157 N 94 [b0, s32 (b1 + 1), b2, b3] [(1, 1), (1, s32 (b3 - 97)), (2, s64 ((m b0 7) * 32)), (1, b0)] m o := h
    have h := CR_iadd h rfl
    have h : MR X ρ 4 0 0 qP157 N 95 [b0, s32 (b1 + 1), b2, b3] [(1, s32 ((s32 (b3 - 97)) + 1)), (2, s64 ((m b0 7) * 32)), (1, b0)] m o := h
    have h := CR_i2l h rfl
    have h : MR X ρ 4 0 0 qP157 N 96 [b0, s32 (b1 + 1), b2, b3] [(2, s32 ((s32 (b3 - 97)) + 1)), (2, s64 ((m b0 7) * 32)), (1, b0)] m o := h
    have h := CR_ladd h rfl
    have h : MR X ρ 4 0 0 qP157 N 97 [b0, s32 (b1 + 1), b2, b3] [(2, s64 ((s64 ((m b0 7) * 32)) + (s32 ((s32 (b3 - 97)) + 1)))), (1, b0)] m o := h
    have h := CR_putf h rfl
    have h : MR X ρ 4 0 0 qP157 N 100 [b0, s32 (b1 + 1), b2, b3] [] (mu m b0 7 (s64 ((s64 ((m b0 7) * 32)) + (s32 ((s32 (b3 - 97)) + 1))))) o := h
    exact h
  ·
    have c6 : ¬ ((f151 m b3) = 0) := c6
    refine Or.inr ⟨c6, ?_⟩
    have h : MR X ρ 4 0 0 qP157 N 55 [b0, b1, b2, b3] [] m o := h
    have h := CR_inc h rfl (Nat.le_of_ble_eq_true rfl)
    have h : MR X ρ 4 0 0 qP157 N 58 [b0, b1, s32 (b2 + 1), b3] [] m o := h
    have h := CR_aload_n h rfl
    have h : MR X ρ 4 0 0 qP157 N 59 [b0, b1, s32 (b2 + 1), b3] [(1, b0)] m o := h
    have h := CR_aload_n h rfl
    have h : MR X ρ 4 0 0 qP157 N 60 [b0, b1, s32 (b2 + 1), b3] [(1, b0), (1, b0)] m o := h
    have h := CR_getf h rfl (by decide)
    have h : MR X ρ 4 0 0 qP157 N 63 [b0, b1, s32 (b2 + 1), b3] [(1, m b0 6), (1, b0)] m o := h
    have h := CR_bipush h rfl rfl
    have h : MR X ρ 4 0 0 qP157 N 65 [b0, b1, s32 (b2 + 1), b3] [(1, 10), (1, m b0 6), (1, b0)] m o := h
    have h := CR_imul h rfl
    have h : MR X ρ 4 0 0 qP157 N 66 [b0, b1, s32 (b2 + 1), b3] [(1, s32 ((m b0 6) * 10)), (1, b0)] m o := h
    have h := CR_iload_n h rfl
    have h : MR X ρ 4 0 0 qP157 N 67 [b0, b1, s32 (b2 + 1), b3] [(1, b3), (1, s32 ((m b0 6) * 10)), (1, b0)] m o := h
    have h := CR_bipush h rfl rfl
    have h : MR X ρ 4 0 0 qP157 N 69 [b0, b1, s32 (b2 + 1), b3] [(1, 48), (1, b3), (1, s32 ((m b0 6) * 10)), (1, b0)] m o := h
    have h := CR_isub h rfl
    have h : MR X ρ 4 0 0 qP157 N 70 [b0, b1, s32 (b2 + 1), b3] [(1, s32 (b3 - 48)), (1, s32 ((m b0 6) * 10)), (1, b0)] m o := h
    have h := CR_iadd h rfl
    have h : MR X ρ 4 0 0 qP157 N 71 [b0, b1, s32 (b2 + 1), b3] [(1, s32 ((s32 ((m b0 6) * 10)) + (s32 (b3 - 48)))), (1, b0)] m o := h
    have h := CR_putf h rfl
    have h : MR X ρ 4 0 0 qP157 N 74 [b0, b1, s32 (b2 + 1), b3] [] (mu m b0 6 (s32 ((s32 ((m b0 6) * 10)) + (s32 (b3 - 48))))) o := h
    have h := CR_go h rfl rfl
    have h : MR X ρ 4 0 0 qP157 N 100 [b0, b1, s32 (b2 + 1), b3] [] (mu m b0 6 (s32 ((s32 ((m b0 6) * 10)) + (s32 (b3 - 48))))) o := h
    exact h
set_option maxRecDepth 16384 in
theorem i157_100 {X : KO} {ρ : Nat → Int32} {m : MM} {N : Nat} {o : Instr × List (Nat × Int) × MM} {b0 b1 b2 b3 : Int} (h : MR X ρ 4 0 0 qP157 N 100 [b0, b1, b2, b3] [] m o) : (∃ N6, N = N6 + 1 ∧ MR X ρ 4 0 0 qP157 N6 23 [b0, b1, b2, f159 (mu m b0 3 (s32 ((m b0 3) + 1))) b0 ((mu m b0 3 (s32 ((m b0 3) + 1))) b0 3)] [] (mu m b0 3 (s32 ((m b0 3) + 1))) o) := by
  have h := CR_aload_n h rfl
  have h : MR X ρ 4 0 0 qP157 N 101 [b0, b1, b2, b3] [(1, b0)] m o := h
  have h := CR_dup h rfl
  have h : MR X ρ 4 0 0 qP157 N 102 [b0, b1, b2, b3] [(1, b0), (1, b0)] m o := h
  have h := CR_getf h rfl (by decide)
  have h : MR X ρ 4 0 0 qP157 N 105 [b0, b1, b2, b3] [(1, m b0 3), (1, b0)] m o := h
  have h := CR_iconst h rfl rfl
  have h : MR X ρ 4 0 0 qP157 N 106 [b0, b1, b2, b3] [(1, 1), (1, m b0 3), (1, b0)] m o := h
  have h := CR_iadd h rfl
  have h : MR X ρ 4 0 0 qP157 N 107 [b0, b1, b2, b3] [(1, s32 ((m b0 3) + 1)), (1, b0)] m o := h
  have h := CR_putf h rfl
  have h : MR X ρ 4 0 0 qP157 N 110 [b0, b1, b2, b3] [] (mu m b0 3 (s32 ((m b0 3) + 1))) o := h
  have h := CR_aload_n h rfl
  have h : MR X ρ 4 0 0 qP157 N 111 [b0, b1, b2, b3] [(1, b0)] (mu m b0 3 (s32 ((m b0 3) + 1))) o := h
  have h := CR_aload_n h rfl
  have h : MR X ρ 4 0 0 qP157 N 112 [b0, b1, b2, b3] [(1, b0), (1, b0)] (mu m b0 3 (s32 ((m b0 3) + 1))) o := h
  have h := CR_getf h rfl (by decide)
  have h : MR X ρ 4 0 0 qP157 N 115 [b0, b1, b2, b3] [(1, (mu m b0 3 (s32 ((m b0 3) + 1))) b0 3), (1, b0)] (mu m b0 3 (s32 ((m b0 3) + 1))) o := h
  obtain ⟨r1, m2, q3, h⟩ := MR_invV h rfl rfl
  have q3 : Run X ρ 159 [(1, b0), (1, (mu m b0 3 (s32 ((m b0 3) + 1))) b0 3)] (mu m b0 3 (s32 ((m b0 3) + 1))) r1 m2 := q3
  obtain ⟨e4, e5⟩ := d159 q3
  rw [e4, e5] at h
  have h : MR X ρ 4 0 0 qP157 N 118 [b0, b1, b2, b3] [(1, f159 (mu m b0 3 (s32 ((m b0 3) + 1))) b0 ((mu m b0 3 (s32 ((m b0 3) + 1))) b0 3))] (mu m b0 3 (s32 ((m b0 3) + 1))) o := h
  have h := CR_istore_n h rfl (Nat.le_of_ble_eq_true rfl)
  have h : MR X ρ 4 0 0 qP157 N 119 [b0, b1, b2, f159 (mu m b0 3 (s32 ((m b0 3) + 1))) b0 ((mu m b0 3 (s32 ((m b0 3) + 1))) b0 3)] [] (mu m b0 3 (s32 ((m b0 3) + 1))) o := h
  obtain ⟨N6, eN6, h⟩ := CR_goto h rfl rfl
  have h : MR X ρ 4 0 0 qP157 N6 23 [b0, b1, b2, f159 (mu m b0 3 (s32 ((m b0 3) + 1))) b0 ((mu m b0 3 (s32 ((m b0 3) + 1))) b0 3)] [] (mu m b0 3 (s32 ((m b0 3) + 1))) o := h
  exact ⟨N6, eN6, h⟩
set_option maxRecDepth 16384 in
theorem i157_122 {X : KO} {ρ : Nat → Int32} {m : MM} {N : Nat} {o : Instr × List (Nat × Int) × MM} {b0 b1 b2 b3 : Int} (h : MR X ρ 4 0 0 qP157 N 122 [b0, b1, b2, b3] [] m o) : (((b2 = 0) ∧ (((7 < b1) ∧ (MR X ρ 4 0 0 qP157 N 144 [b0, b1, b2, b3] [] m o)) ∨ (¬ (7 < b1) ∧ (∃ m4, Run X ρ 150 [(1, b0)] (mu m b0 4 1) [] m4 ∧ (o = (.return_, [], m4)))))) ∨ (¬ (b2 = 0) ∧ (MR X ρ 4 0 0 qP157 N 144 [b0, b1, b2, b3] [] m o))) := by
  have h := CR_iload_n h rfl
  have h : MR X ρ 4 0 0 qP157 N 123 [b0, b1, b2, b3] [(1, b2)] m o := h
  rcases MR_if h rfl rfl with ⟨c1, h⟩ | ⟨c1, h⟩
  ·
    have c1 : ¬ (b2 = 0) := c1
    refine Or.inr ⟨c1, ?_⟩
    have h : MR X ρ 4 0 0 qP157 N 144 [b0, b1, b2, b3] [] m o := h
    exact h
  ·
    have c1 : b2 = 0 := Decidable.of_not_not (show ¬ ¬ (b2 = 0) from c1)
    refine Or.inl ⟨c1, ?_⟩
    have h : MR X ρ 4 0 0 qP157 N 126 [b0, b1, b2, b3] [] m o := h
    have h := CR_iload_n h rfl
    have h : MR X ρ 4 0 0 qP157 N 127 [b0, b1, b2, b3] [(1, b1)] m o := h
    have h := CR_bipush h rfl rfl
    have h : MR X ρ 4 0 0 qP157 N 129 [b0, b1, b2, b3] [(1, 7), (1, b1)] m o := h
    rcases MR_icmp h rfl rfl with ⟨c2, h⟩ | ⟨c2, h⟩
    ·
      have c2 : 7 < b1 := c2
      refine Or.inl ⟨c2, ?_⟩
      have h : MR X ρ 4 0 0 qP157 N 144 [b0, b1, b2, b3] [] m o := h
      exact h
    ·
      have c2 : ¬ (7 < b1) := c2
      refine Or.inr ⟨c2, ?_⟩
      have h : MR X ρ 4 0 0 qP157 N 132 [b0, b1, b2, b3] [] m o := h
      have h := CR_aload_n h rfl
      have h : MR X ρ 4 0 0 qP157 N 133 [b0, b1, b2, b3] [(1, b0)] m o := h
      have h := CR_iconst h rfl rfl
      have h : MR X ρ 4 0 0 qP157 N 134 [b0, b1, b2, b3] [(1, 1), (1, b0)] m o := h
      have h := CR_putf h rfl
      have h : MR X ρ 4 0 0 qP157 N 137 [b0, b1, b2, b3] [] (mu m b0 4 1) o := h
      have h := CR_aload_n h rfl
      have h : MR X ρ 4 0 0 qP157 N 138 [b0, b1, b2, b3] [(1, b0)] (mu m b0 4 1) o := h
      obtain ⟨r3, m4, q5, h⟩ := MR_invV h rfl rfl
      have q5 : Run X ρ 150 [(1, b0)] (mu m b0 4 1) r3 m4 := q5
      obtain rfl := Run_v q5 rfl
      have h : MR X ρ 4 0 0 qP157 N 141 [b0, b1, b2, b3] [] m4 o := h
      refine ⟨m4, q5, ?_⟩
      have h := CR_go h rfl rfl
      have h : MR X ρ 4 0 0 qP157 N 162 [b0, b1, b2, b3] [] m4 o := h
      exact CR_end h rfl rfl
set_option maxRecDepth 16384 in
theorem i157_144 {X : KO} {ρ : Nat → Int32} {m : MM} {N : Nat} {o : Instr × List (Nat × Int) × MM} {b0 b1 b2 b3 : Int} (h : MR X ρ 4 0 0 qP157 N 144 [b0, b1, b2, b3] [] m o) : (((b1 = 0) ∧ (((3 < b2) ∧ (o = (.return_, [], mu m b0 4 4))) ∨ (¬ (3 < b2) ∧ (o = (.return_, [], mu m b0 4 2))))) ∨ (¬ (b1 = 0) ∧ (o = (.return_, [], mu m b0 4 4)))) := by
  have h := CR_aload_n h rfl
  have h : MR X ρ 4 0 0 qP157 N 145 [b0, b1, b2, b3] [(1, b0)] m o := h
  have h := CR_iload_n h rfl
  have h : MR X ρ 4 0 0 qP157 N 146 [b0, b1, b2, b3] [(1, b1), (1, b0)] m o := h
  rcases MR_if h rfl rfl with ⟨c1, h⟩ | ⟨c1, h⟩
  ·
    have c1 : ¬ (b1 = 0) := c1
    refine Or.inr ⟨c1, ?_⟩
    have h : MR X ρ 4 0 0 qP157 N 158 [b0, b1, b2, b3] [(1, b0)] m o := h
    have h := CR_iconst h rfl rfl
    have h : MR X ρ 4 0 0 qP157 N 159 [b0, b1, b2, b3] [(1, 4), (1, b0)] m o := h
    have h := CR_putf h rfl
    have h : MR X ρ 4 0 0 qP157 N 162 [b0, b1, b2, b3] [] (mu m b0 4 4) o := h
    exact CR_end h rfl rfl
  ·
    have c1 : b1 = 0 := Decidable.of_not_not (show ¬ ¬ (b1 = 0) from c1)
    refine Or.inl ⟨c1, ?_⟩
    have h : MR X ρ 4 0 0 qP157 N 149 [b0, b1, b2, b3] [(1, b0)] m o := h
    have h := CR_iload_n h rfl
    have h : MR X ρ 4 0 0 qP157 N 150 [b0, b1, b2, b3] [(1, b2), (1, b0)] m o := h
    have h := CR_iconst h rfl rfl
    have h : MR X ρ 4 0 0 qP157 N 151 [b0, b1, b2, b3] [(1, 3), (1, b2), (1, b0)] m o := h
    rcases MR_icmp h rfl rfl with ⟨c2, h⟩ | ⟨c2, h⟩
    ·
      have c2 : 3 < b2 := c2
      refine Or.inl ⟨c2, ?_⟩
      have h : MR X ρ 4 0 0 qP157 N 158 [b0, b1, b2, b3] [(1, b0)] m o := h
      have h := CR_iconst h rfl rfl
      have h : MR X ρ 4 0 0 qP157 N 159 [b0, b1, b2, b3] [(1, 4), (1, b0)] m o := h
      have h := CR_putf h rfl
      have h : MR X ρ 4 0 0 qP157 N 162 [b0, b1, b2, b3] [] (mu m b0 4 4) o := h
      exact CR_end h rfl rfl
    ·
      have c2 : ¬ (3 < b2) := c2
      refine Or.inr ⟨c2, ?_⟩
      have h : MR X ρ 4 0 0 qP157 N 154 [b0, b1, b2, b3] [(1, b0)] m o := h
      have h := CR_iconst h rfl rfl
      have h : MR X ρ 4 0 0 qP157 N 155 [b0, b1, b2, b3] [(1, 2), (1, b0)] m o := h
      have h := CR_go h rfl rfl
      have h : MR X ρ 4 0 0 qP157 N 159 [b0, b1, b2, b3] [(1, 2), (1, b0)] m o := h
      have h := CR_putf h rfl
      have h : MR X ρ 4 0 0 qP157 N 162 [b0, b1, b2, b3] [] (mu m b0 4 2) o := h
      exact CR_end h rfl rfl
set_option maxRecDepth 16384 in
theorem i148_0 {X : KO} {ρ : Nat → Int32} {m : MM} {N : Nat} {o : Instr × List (Nat × Int) × MM} {a0 : Int} (h : MR X ρ 3 0 0 qP148 N 0 [a0, 0, 0] [] m o) : (MR X ρ 3 0 0 qP148 N 9 [a0, f159 m a0 (m a0 3), 0] [] m o) := by
  have h := CR_aload_n h rfl
  have h : MR X ρ 3 0 0 qP148 N 1 [a0, 0, 0] [(1, a0)] m o := h
  have h := CR_aload_n h rfl
  have h : MR X ρ 3 0 0 qP148 N 2 [a0, 0, 0] [(1, a0), (1, a0)] m o := h
  have h := CR_getf h rfl (by decide)
  have h : MR X ρ 3 0 0 qP148 N 5 [a0, 0, 0] [(1, m a0 3), (1, a0)] m o := h
  obtain ⟨r1, m2, q3, h⟩ := MR_invV h rfl rfl
  have q3 : Run X ρ 159 [(1, a0), (1, m a0 3)] m r1 m2 := q3
  obtain ⟨e4, e5⟩ := d159 q3
  rw [e4, e5] at h
  have h : MR X ρ 3 0 0 qP148 N 8 [a0, 0, 0] [(1, f159 m a0 (m a0 3))] m o := h
  have h := CR_istore_n h rfl (Nat.le_of_ble_eq_true rfl)
  have h : MR X ρ 3 0 0 qP148 N 9 [a0, f159 m a0 (m a0 3), 0] [] m o := h
  exact h
set_option maxRecDepth 16384 in
theorem i148_9 {X : KO} {ρ : Nat → Int32} {m : MM} {N : Nat} {o : Instr × List (Nat × Int) × MM} {b0 b1 b2 : Int} (h : MR X ρ 3 0 0 qP148 N 9 [b0, b1, b2] [] m o) : ((((m b0 1) ≤ (m b0 3)) ∧ (MR X ρ 3 0 0 qP148 N 54 [b0, b1, b2] [] m o)) ∨ (¬ ((m b0 1) ≤ (m b0 3)) ∧ (((b1 = 32) ∧ (∃ N8, N = N8 + 1 ∧ MR X ρ 3 0 0 qP148 N8 9 [b0, f159 (mu m b0 3 (s32 ((m b0 3) + 1))) b0 ((mu m b0 3 (s32 ((m b0 3) + 1))) b0 3), b2] [] (mu m b0 3 (s32 ((m b0 3) + 1))) o)) ∨ (¬ (b1 = 32) ∧ (((b1 = 10) ∧ (∃ N15, N = N15 + 1 ∧ MR X ρ 3 0 0 qP148 N15 9 [b0, f159 (mu m b0 3 (s32 ((m b0 3) + 1))) b0 ((mu m b0 3 (s32 ((m b0 3) + 1))) b0 3), b2] [] (mu m b0 3 (s32 ((m b0 3) + 1))) o)) ∨ (¬ (b1 = 10) ∧ (MR X ρ 3 0 0 qP148 N 54 [b0, b1, b2] [] m o))))))) := by
  have h := CR_aload_n h rfl
  have h : MR X ρ 3 0 0 qP148 N 10 [b0, b1, b2] [(1, b0)] m o := h
  have h := CR_getf h rfl (by decide)
  have h : MR X ρ 3 0 0 qP148 N 13 [b0, b1, b2] [(1, m b0 3)] m o := h
  have h := CR_aload_n h rfl
  have h : MR X ρ 3 0 0 qP148 N 14 [b0, b1, b2] [(1, b0), (1, m b0 3)] m o := h
  have h := CR_getf h rfl (by decide)
  have h : MR X ρ 3 0 0 qP148 N 17 [b0, b1, b2] [(1, m b0 1), (1, m b0 3)] m o := h
  rcases MR_icmp h rfl rfl with ⟨c1, h⟩ | ⟨c1, h⟩
  ·
    have c1 : (m b0 1) ≤ (m b0 3) := c1
    refine Or.inl ⟨c1, ?_⟩
    have h : MR X ρ 3 0 0 qP148 N 54 [b0, b1, b2] [] m o := h
    exact h
  ·
    have c1 : ¬ ((m b0 1) ≤ (m b0 3)) := c1
    refine Or.inr ⟨c1, ?_⟩
    have h : MR X ρ 3 0 0 qP148 N 20 [b0, b1, b2] [] m o := h
    have h := CR_iload_n h rfl
    have h : MR X ρ 3 0 0 qP148 N 21 [b0, b1, b2] [(1, b1)] m o := h
    have h := CR_bipush h rfl rfl
    have h : MR X ρ 3 0 0 qP148 N 23 [b0, b1, b2] [(1, 32), (1, b1)] m o := h
    rcases MR_icmp h rfl rfl with ⟨c2, h⟩ | ⟨c2, h⟩
    ·
      have c2 : b1 = 32 := c2
      refine Or.inl ⟨c2, ?_⟩
      have h : MR X ρ 3 0 0 qP148 N 32 [b0, b1, b2] [] m o := h
      have h := CR_aload_n h rfl
      have h : MR X ρ 3 0 0 qP148 N 33 [b0, b1, b2] [(1, b0)] m o := h
      have h := CR_dup h rfl
      have h : MR X ρ 3 0 0 qP148 N 34 [b0, b1, b2] [(1, b0), (1, b0)] m o := h
      have h := CR_getf h rfl (by decide)
      have h : MR X ρ 3 0 0 qP148 N 37 [b0, b1, b2] [(1, m b0 3), (1, b0)] m o := h
      have h := CR_iconst h rfl rfl
      have h : MR X ρ 3 0 0 qP148 N 38 [b0, b1, b2] [(1, 1), (1, m b0 3), (1, b0)] m o := h
      have h := CR_iadd h rfl
      have h : MR X ρ 3 0 0 qP148 N 39 [b0, b1, b2] [(1, s32 ((m b0 3) + 1)), (1, b0)] m o := h
      have h := CR_putf h rfl
      have h : MR X ρ 3 0 0 qP148 N 42 [b0, b1, b2] [] (mu m b0 3 (s32 ((m b0 3) + 1))) o := h
      have h := CR_aload_n h rfl
      have h : MR X ρ 3 0 0 qP148 N 43 [b0, b1, b2] [(1, b0)] (mu m b0 3 (s32 ((m b0 3) + 1))) o := h
      have h := CR_aload_n h rfl
      have h : MR X ρ 3 0 0 qP148 N 44 [b0, b1, b2] [(1, b0), (1, b0)] (mu m b0 3 (s32 ((m b0 3) + 1))) o := h
      have h := CR_getf h rfl (by decide)
      have h : MR X ρ 3 0 0 qP148 N 47 [b0, b1, b2] [(1, (mu m b0 3 (s32 ((m b0 3) + 1))) b0 3), (1, b0)] (mu m b0 3 (s32 ((m b0 3) + 1))) o := h
      obtain ⟨r3, m4, q5, h⟩ := MR_invV h rfl rfl
      have q5 : Run X ρ 159 [(1, b0), (1, (mu m b0 3 (s32 ((m b0 3) + 1))) b0 3)] (mu m b0 3 (s32 ((m b0 3) + 1))) r3 m4 := q5
      obtain ⟨e6, e7⟩ := d159 q5
      rw [e6, e7] at h
      have h : MR X ρ 3 0 0 qP148 N 50 [b0, b1, b2] [(1, f159 (mu m b0 3 (s32 ((m b0 3) + 1))) b0 ((mu m b0 3 (s32 ((m b0 3) + 1))) b0 3))] (mu m b0 3 (s32 ((m b0 3) + 1))) o := h
      have h := CR_istore_n h rfl (Nat.le_of_ble_eq_true rfl)
      have h : MR X ρ 3 0 0 qP148 N 51 [b0, f159 (mu m b0 3 (s32 ((m b0 3) + 1))) b0 ((mu m b0 3 (s32 ((m b0 3) + 1))) b0 3), b2] [] (mu m b0 3 (s32 ((m b0 3) + 1))) o := h
      obtain ⟨N8, eN8, h⟩ := CR_goto h rfl rfl
      have h : MR X ρ 3 0 0 qP148 N8 9 [b0, f159 (mu m b0 3 (s32 ((m b0 3) + 1))) b0 ((mu m b0 3 (s32 ((m b0 3) + 1))) b0 3), b2] [] (mu m b0 3 (s32 ((m b0 3) + 1))) o := h
      exact ⟨N8, eN8, h⟩
    ·
      have c2 : ¬ (b1 = 32) := c2
      refine Or.inr ⟨c2, ?_⟩
      have h : MR X ρ 3 0 0 qP148 N 26 [b0, b1, b2] [] m o := h
      have h := CR_iload_n h rfl
      have h : MR X ρ 3 0 0 qP148 N 27 [b0, b1, b2] [(1, b1)] m o := h
      have h := CR_bipush h rfl rfl
      have h : MR X ρ 3 0 0 qP148 N 29 [b0, b1, b2] [(1, 10), (1, b1)] m o := h
      rcases MR_icmp h rfl rfl with ⟨c9, h⟩ | ⟨c9, h⟩
      ·
        have c9 : ¬ (b1 = 10) := c9
        refine Or.inr ⟨c9, ?_⟩
        have h : MR X ρ 3 0 0 qP148 N 54 [b0, b1, b2] [] m o := h
        exact h
      ·
        have c9 : b1 = 10 := Decidable.of_not_not (show ¬ ¬ (b1 = 10) from c9)
        refine Or.inl ⟨c9, ?_⟩
        have h : MR X ρ 3 0 0 qP148 N 32 [b0, b1, b2] [] m o := h
        have h := CR_aload_n h rfl
        have h : MR X ρ 3 0 0 qP148 N 33 [b0, b1, b2] [(1, b0)] m o := h
        have h := CR_dup h rfl
        have h : MR X ρ 3 0 0 qP148 N 34 [b0, b1, b2] [(1, b0), (1, b0)] m o := h
        have h := CR_getf h rfl (by decide)
        have h : MR X ρ 3 0 0 qP148 N 37 [b0, b1, b2] [(1, m b0 3), (1, b0)] m o := h
        have h := CR_iconst h rfl rfl
        have h : MR X ρ 3 0 0 qP148 N 38 [b0, b1, b2] [(1, 1), (1, m b0 3), (1, b0)] m o := h
        have h := CR_iadd h rfl
        have h : MR X ρ 3 0 0 qP148 N 39 [b0, b1, b2] [(1, s32 ((m b0 3) + 1)), (1, b0)] m o := h
        have h := CR_putf h rfl
        have h : MR X ρ 3 0 0 qP148 N 42 [b0, b1, b2] [] (mu m b0 3 (s32 ((m b0 3) + 1))) o := h
        have h := CR_aload_n h rfl
        have h : MR X ρ 3 0 0 qP148 N 43 [b0, b1, b2] [(1, b0)] (mu m b0 3 (s32 ((m b0 3) + 1))) o := h
        have h := CR_aload_n h rfl
        have h : MR X ρ 3 0 0 qP148 N 44 [b0, b1, b2] [(1, b0), (1, b0)] (mu m b0 3 (s32 ((m b0 3) + 1))) o := h
        have h := CR_getf h rfl (by decide)
        have h : MR X ρ 3 0 0 qP148 N 47 [b0, b1, b2] [(1, (mu m b0 3 (s32 ((m b0 3) + 1))) b0 3), (1, b0)] (mu m b0 3 (s32 ((m b0 3) + 1))) o := h
        obtain ⟨r10, m11, q12, h⟩ := MR_invV h rfl rfl
        have q12 : Run X ρ 159 [(1, b0), (1, (mu m b0 3 (s32 ((m b0 3) + 1))) b0 3)] (mu m b0 3 (s32 ((m b0 3) + 1))) r10 m11 := q12
        obtain ⟨e13, e14⟩ := d159 q12
        rw [e13, e14] at h
        have h : MR X ρ 3 0 0 qP148 N 50 [b0, b1, b2] [(1, f159 (mu m b0 3 (s32 ((m b0 3) + 1))) b0 ((mu m b0 3 (s32 ((m b0 3) + 1))) b0 3))] (mu m b0 3 (s32 ((m b0 3) + 1))) o := h
        have h := CR_istore_n h rfl (Nat.le_of_ble_eq_true rfl)
        have h : MR X ρ 3 0 0 qP148 N 51 [b0, f159 (mu m b0 3 (s32 ((m b0 3) + 1))) b0 ((mu m b0 3 (s32 ((m b0 3) + 1))) b0 3), b2] [] (mu m b0 3 (s32 ((m b0 3) + 1))) o := h
        obtain ⟨N15, eN15, h⟩ := CR_goto h rfl rfl
        have h : MR X ρ 3 0 0 qP148 N15 9 [b0, f159 (mu m b0 3 (s32 ((m b0 3) + 1))) b0 ((mu m b0 3 (s32 ((m b0 3) + 1))) b0 3), b2] [] (mu m b0 3 (s32 ((m b0 3) + 1))) o := h
        exact ⟨N15, eN15, h⟩
set_option maxRecDepth 16384 in
theorem i148_54 {X : KO} {ρ : Nat → Int32} {m : MM} {N : Nat} {o : Instr × List (Nat × Int) × MM} {b0 b1 b2 : Int} (h : MR X ρ 3 0 0 qP148 N 54 [b0, b1, b2] [] m o) : (((((mu (mu m b0 5 (m b0 3)) b0 8 (-1)) b0 1) ≤ ((mu (mu m b0 5 (m b0 3)) b0 8 (-1)) b0 2)) ∧ (((((mu (mu m b0 5 (m b0 3)) b0 8 (-1)) b0 3) < ((mu (mu m b0 5 (m b0 3)) b0 8 (-1)) b0 1)) ∧ (MR X ρ 3 0 0 qP148 N 124 [b0, b1, b2] [] (mu (mu m b0 5 (m b0 3)) b0 8 (-1)) o)) ∨ (¬ (((mu (mu m b0 5 (m b0 3)) b0 8 (-1)) b0 3) < ((mu (mu m b0 5 (m b0 3)) b0 8 (-1)) b0 1)) ∧ (o = (.return_, [], mu (mu (mu m b0 5 (m b0 3)) b0 8 (-1)) b0 4 0))))) ∨ (¬ (((mu (mu m b0 5 (m b0 3)) b0 8 (-1)) b0 1) ≤ ((mu (mu m b0 5 (m b0 3)) b0 8 (-1)) b0 2)) ∧ (((((mu (mu m b0 5 (m b0 3)) b0 8 (-1)) b0 3) < ((mu (mu m b0 5 (m b0 3)) b0 8 (-1)) b0 2)) ∧ (((((mu (mu m b0 5 (m b0 3)) b0 8 (-1)) b0 3) < ((mu (mu m b0 5 (m b0 3)) b0 8 (-1)) b0 1)) ∧ (MR X ρ 3 0 0 qP148 N 124 [b0, b1, b2] [] (mu (mu m b0 5 (m b0 3)) b0 8 (-1)) o)) ∨ (¬ (((mu (mu m b0 5 (m b0 3)) b0 8 (-1)) b0 3) < ((mu (mu m b0 5 (m b0 3)) b0 8 (-1)) b0 1)) ∧ (o = (.return_, [], mu (mu (mu m b0 5 (m b0 3)) b0 8 (-1)) b0 4 0))))) ∨ (¬ (((mu (mu m b0 5 (m b0 3)) b0 8 (-1)) b0 3) < ((mu (mu m b0 5 (m b0 3)) b0 8 (-1)) b0 2)) ∧ (o = (.return_, [], mu (mu (mu (mu m b0 5 (m b0 3)) b0 8 (-1)) b0 4 4) b0 5 ((mu (mu (mu m b0 5 (m b0 3)) b0 8 (-1)) b0 4 4) b0 2))))))) := by
  have h := CR_aload_n h rfl
  have h : MR X ρ 3 0 0 qP148 N 55 [b0, b1, b2] [(1, b0)] m o := h
  have h := CR_aload_n h rfl
  have h : MR X ρ 3 0 0 qP148 N 56 [b0, b1, b2] [(1, b0), (1, b0)] m o := h
  have h := CR_getf h rfl (by decide)
  have h : MR X ρ 3 0 0 qP148 N 59 [b0, b1, b2] [(1, m b0 3), (1, b0)] m o := h
  have h := CR_putf h rfl
  have h : MR X ρ 3 0 0 qP148 N 62 [b0, b1, b2] [] (mu m b0 5 (m b0 3)) o := h
  have h := CR_aload_n h rfl
  have h : MR X ρ 3 0 0 qP148 N 63 [b0, b1, b2] [(1, b0)] (mu m b0 5 (m b0 3)) o := h
  have h := CR_anull h rfl
  have h : MR X ρ 3 0 0 qP148 N 64 [b0, b1, b2] [(1, -1), (1, b0)] (mu m b0 5 (m b0 3)) o := h
  have h := CR_putf h rfl
  have h : MR X ρ 3 0 0 qP148 N 67 [b0, b1, b2] [] (mu (mu m b0 5 (m b0 3)) b0 8 (-1)) o := h
  have h := CR_aload_n h rfl
  have h : MR X ρ 3 0 0 qP148 N 68 [b0, b1, b2] [(1, b0)] (mu (mu m b0 5 (m b0 3)) b0 8 (-1)) o := h
  have h := CR_getf h rfl (by decide)
  have h : MR X ρ 3 0 0 qP148 N 71 [b0, b1, b2] [(1, (mu (mu m b0 5 (m b0 3)) b0 8 (-1)) b0 1)] (mu (mu m b0 5 (m b0 3)) b0 8 (-1)) o := h
  have h := CR_aload_n h rfl
  have h : MR X ρ 3 0 0 qP148 N 72 [b0, b1, b2] [(1, b0), (1, (mu (mu m b0 5 (m b0 3)) b0 8 (-1)) b0 1)] (mu (mu m b0 5 (m b0 3)) b0 8 (-1)) o := h
  have h := CR_getf h rfl (by decide)
  have h : MR X ρ 3 0 0 qP148 N 75 [b0, b1, b2] [(1, (mu (mu m b0 5 (m b0 3)) b0 8 (-1)) b0 2), (1, (mu (mu m b0 5 (m b0 3)) b0 8 (-1)) b0 1)] (mu (mu m b0 5 (m b0 3)) b0 8 (-1)) o := h
  rcases MR_icmp h rfl rfl with ⟨c1, h⟩ | ⟨c1, h⟩
  ·
    have c1 : ((mu (mu m b0 5 (m b0 3)) b0 8 (-1)) b0 1) ≤ ((mu (mu m b0 5 (m b0 3)) b0 8 (-1)) b0 2) := c1
    refine Or.inl ⟨c1, ?_⟩
    have h : MR X ρ 3 0 0 qP148 N 105 [b0, b1, b2] [] (mu (mu m b0 5 (m b0 3)) b0 8 (-1)) o := h
    have h := CR_aload_n h rfl
    have h : MR X ρ 3 0 0 qP148 N 106 [b0, b1, b2] [(1, b0)] (mu (mu m b0 5 (m b0 3)) b0 8 (-1)) o := h
    have h := CR_getf h rfl (by decide)
    have h : MR X ρ 3 0 0 qP148 N 109 [b0, b1, b2] [(1, (mu (mu m b0 5 (m b0 3)) b0 8 (-1)) b0 3)] (mu (mu m b0 5 (m b0 3)) b0 8 (-1)) o := h
    have h := CR_aload_n h rfl
    have h : MR X ρ 3 0 0 qP148 N 110 [b0, b1, b2] [(1, b0), (1, (mu (mu m b0 5 (m b0 3)) b0 8 (-1)) b0 3)] (mu (mu m b0 5 (m b0 3)) b0 8 (-1)) o := h
    have h := CR_getf h rfl (by decide)
    have h : MR X ρ 3 0 0 qP148 N 113 [b0, b1, b2] [(1, (mu (mu m b0 5 (m b0 3)) b0 8 (-1)) b0 1), (1, (mu (mu m b0 5 (m b0 3)) b0 8 (-1)) b0 3)] (mu (mu m b0 5 (m b0 3)) b0 8 (-1)) o := h
    rcases MR_icmp h rfl rfl with ⟨c2, h⟩ | ⟨c2, h⟩
    ·
      have c2 : ((mu (mu m b0 5 (m b0 3)) b0 8 (-1)) b0 3) < ((mu (mu m b0 5 (m b0 3)) b0 8 (-1)) b0 1) := c2
      refine Or.inl ⟨c2, ?_⟩
      have h : MR X ρ 3 0 0 qP148 N 124 [b0, b1, b2] [] (mu (mu m b0 5 (m b0 3)) b0 8 (-1)) o := h
      exact h
    ·
      have c2 : ¬ (((mu (mu m b0 5 (m b0 3)) b0 8 (-1)) b0 3) < ((mu (mu m b0 5 (m b0 3)) b0 8 (-1)) b0 1)) := c2
      refine Or.inr ⟨c2, ?_⟩
      have h : MR X ρ 3 0 0 qP148 N 116 [b0, b1, b2] [] (mu (mu m b0 5 (m b0 3)) b0 8 (-1)) o := h
      have h := CR_aload_n h rfl
      have h : MR X ρ 3 0 0 qP148 N 117 [b0, b1, b2] [(1, b0)] (mu (mu m b0 5 (m b0 3)) b0 8 (-1)) o := h
      have h := CR_iconst h rfl rfl
      have h : MR X ρ 3 0 0 qP148 N 118 [b0, b1, b2] [(1, 0), (1, b0)] (mu (mu m b0 5 (m b0 3)) b0 8 (-1)) o := h
      have h := CR_putf h rfl
      have h : MR X ρ 3 0 0 qP148 N 121 [b0, b1, b2] [] (mu (mu (mu m b0 5 (m b0 3)) b0 8 (-1)) b0 4 0) o := h
      have h := CR_go h rfl rfl
      have h : MR X ρ 3 0 0 qP148 N 215 [b0, b1, b2] [] (mu (mu (mu m b0 5 (m b0 3)) b0 8 (-1)) b0 4 0) o := h
      exact CR_end h rfl rfl
  ·
    have c1 : ¬ (((mu (mu m b0 5 (m b0 3)) b0 8 (-1)) b0 1) ≤ ((mu (mu m b0 5 (m b0 3)) b0 8 (-1)) b0 2)) := c1
    refine Or.inr ⟨c1, ?_⟩
    have h : MR X ρ 3 0 0 qP148 N 78 [b0, b1, b2] [] (mu (mu m b0 5 (m b0 3)) b0 8 (-1)) o := h
    have h := CR_aload_n h rfl
    have h : MR X ρ 3 0 0 qP148 N 79 [b0, b1, b2] [(1, b0)] (mu (mu m b0 5 (m b0 3)) b0 8 (-1)) o := h
    have h := CR_getf h rfl (by decide)
    have h : MR X ρ 3 0 0 qP148 N 82 [b0, b1, b2] [(1, (mu (mu m b0 5 (m b0 3)) b0 8 (-1)) b0 3)] (mu (mu m b0 5 (m b0 3)) b0 8 (-1)) o := h
    have h := CR_aload_n h rfl
    have h : MR X ρ 3 0 0 qP148 N 83 [b0, b1, b2] [(1, b0), (1, (mu (mu m b0 5 (m b0 3)) b0 8 (-1)) b0 3)] (mu (mu m b0 5 (m b0 3)) b0 8 (-1)) o := h
    have h := CR_getf h rfl (by decide)
    have h : MR X ρ 3 0 0 qP148 N 86 [b0, b1, b2] [(1, (mu (mu m b0 5 (m b0 3)) b0 8 (-1)) b0 2), (1, (mu (mu m b0 5 (m b0 3)) b0 8 (-1)) b0 3)] (mu (mu m b0 5 (m b0 3)) b0 8 (-1)) o := h
    rcases MR_icmp h rfl rfl with ⟨c3, h⟩ | ⟨c3, h⟩
    ·
      have c3 : ((mu (mu m b0 5 (m b0 3)) b0 8 (-1)) b0 3) < ((mu (mu m b0 5 (m b0 3)) b0 8 (-1)) b0 2) := c3
      refine Or.inl ⟨c3, ?_⟩
      have h : MR X ρ 3 0 0 qP148 N 105 [b0, b1, b2] [] (mu (mu m b0 5 (m b0 3)) b0 8 (-1)) o := h
      have h := CR_aload_n h rfl
      have h : MR X ρ 3 0 0 qP148 N 106 [b0, b1, b2] [(1, b0)] (mu (mu m b0 5 (m b0 3)) b0 8 (-1)) o := h
      have h := CR_getf h rfl (by decide)
      have h : MR X ρ 3 0 0 qP148 N 109 [b0, b1, b2] [(1, (mu (mu m b0 5 (m b0 3)) b0 8 (-1)) b0 3)] (mu (mu m b0 5 (m b0 3)) b0 8 (-1)) o := h
      have h := CR_aload_n h rfl
      have h : MR X ρ 3 0 0 qP148 N 110 [b0, b1, b2] [(1, b0), (1, (mu (mu m b0 5 (m b0 3)) b0 8 (-1)) b0 3)] (mu (mu m b0 5 (m b0 3)) b0 8 (-1)) o := h
      have h := CR_getf h rfl (by decide)
      have h : MR X ρ 3 0 0 qP148 N 113 [b0, b1, b2] [(1, (mu (mu m b0 5 (m b0 3)) b0 8 (-1)) b0 1), (1, (mu (mu m b0 5 (m b0 3)) b0 8 (-1)) b0 3)] (mu (mu m b0 5 (m b0 3)) b0 8 (-1)) o := h
      rcases MR_icmp h rfl rfl with ⟨c4, h⟩ | ⟨c4, h⟩
      ·
        have c4 : ((mu (mu m b0 5 (m b0 3)) b0 8 (-1)) b0 3) < ((mu (mu m b0 5 (m b0 3)) b0 8 (-1)) b0 1) := c4
        refine Or.inl ⟨c4, ?_⟩
        have h : MR X ρ 3 0 0 qP148 N 124 [b0, b1, b2] [] (mu (mu m b0 5 (m b0 3)) b0 8 (-1)) o := h
        exact h
      ·
        have c4 : ¬ (((mu (mu m b0 5 (m b0 3)) b0 8 (-1)) b0 3) < ((mu (mu m b0 5 (m b0 3)) b0 8 (-1)) b0 1)) := c4
        refine Or.inr ⟨c4, ?_⟩
        have h : MR X ρ 3 0 0 qP148 N 116 [b0, b1, b2] [] (mu (mu m b0 5 (m b0 3)) b0 8 (-1)) o := h
        have h := CR_aload_n h rfl
        have h : MR X ρ 3 0 0 qP148 N 117 [b0, b1, b2] [(1, b0)] (mu (mu m b0 5 (m b0 3)) b0 8 (-1)) o := h
        have h := CR_iconst h rfl rfl
        have h : MR X ρ 3 0 0 qP148 N 118 [b0, b1, b2] [(1, 0), (1, b0)] (mu (mu m b0 5 (m b0 3)) b0 8 (-1)) o := h
        have h := CR_putf h rfl
        have h : MR X ρ 3 0 0 qP148 N 121 [b0, b1, b2] [] (mu (mu (mu m b0 5 (m b0 3)) b0 8 (-1)) b0 4 0) o := h
        have h := CR_go h rfl rfl
        have h : MR X ρ 3 0 0 qP148 N 215 [b0, b1, b2] [] (mu (mu (mu m b0 5 (m b0 3)) b0 8 (-1)) b0 4 0) o := h
        exact CR_end h rfl rfl
    ·
      have c3 : ¬ (((mu (mu m b0 5 (m b0 3)) b0 8 (-1)) b0 3) < ((mu (mu m b0 5 (m b0 3)) b0 8 (-1)) b0 2)) := c3
      refine Or.inr ⟨c3, ?_⟩
      have h : MR X ρ 3 0 0 qP148 N 89 [b0, b1, b2] [] (mu (mu m b0 5 (m b0 3)) b0 8 (-1)) o := h
      have h := CR_aload_n h rfl
      have h : MR X ρ 3 0 0 qP148 N 90 [b0, b1, b2] [(1, b0)] (mu (mu m b0 5 (m b0 3)) b0 8 (-1)) o := h
      have h := CR_iconst h rfl rfl
      have h : MR X ρ 3 0 0 qP148 N 91 [b0, b1, b2] [(1, 4), (1, b0)] (mu (mu m b0 5 (m b0 3)) b0 8 (-1)) o := h
      have h := CR_putf h rfl
      have h : MR X ρ 3 0 0 qP148 N 94 [b0, b1, b2] [] (mu (mu (mu m b0 5 (m b0 3)) b0 8 (-1)) b0 4 4) o := h
      have h := CR_aload_n h rfl
      have h : MR X ρ 3 0 0 qP148 N 95 [b0, b1, b2] [(1, b0)] (mu (mu (mu m b0 5 (m b0 3)) b0 8 (-1)) b0 4 4) o := h
      have h := CR_aload_n h rfl
      have h : MR X ρ 3 0 0 qP148 N 96 [b0, b1, b2] [(1, b0), (1, b0)] (mu (mu (mu m b0 5 (m b0 3)) b0 8 (-1)) b0 4 4) o := h
      have h := CR_getf h rfl (by decide)
      have h : MR X ρ 3 0 0 qP148 N 99 [b0, b1, b2] [(1, (mu (mu (mu m b0 5 (m b0 3)) b0 8 (-1)) b0 4 4) b0 2), (1, b0)] (mu (mu (mu m b0 5 (m b0 3)) b0 8 (-1)) b0 4 4) o := h
      have h := CR_putf h rfl
      have h : MR X ρ 3 0 0 qP148 N 102 [b0, b1, b2] [] (mu (mu (mu (mu m b0 5 (m b0 3)) b0 8 (-1)) b0 4 4) b0 5 ((mu (mu (mu m b0 5 (m b0 3)) b0 8 (-1)) b0 4 4) b0 2)) o := h
      have h := CR_go h rfl rfl
      have h : MR X ρ 3 0 0 qP148 N 215 [b0, b1, b2] [] (mu (mu (mu (mu m b0 5 (m b0 3)) b0 8 (-1)) b0 4 4) b0 5 ((mu (mu (mu m b0 5 (m b0 3)) b0 8 (-1)) b0 4 4) b0 2)) o := h
      exact CR_end h rfl rfl
set_option maxRecDepth 16384 in
theorem i148_124 {X : KO} {ρ : Nat → Int32} {m : MM} {N : Nat} {o : Instr × List (Nat × Int) × MM} {b0 b1 b2 : Int} (h : MR X ρ 3 0 0 qP148 N 124 [b0, b1, b2] [] m o) : ((((f154 m b1) = 0) ∧ ((((f151 m b1) = 0) ∧ (MR X ρ 3 0 0 qP148 N 145 [b0, b1, b2] [] m o)) ∨ (¬ ((f151 m b1) = 0) ∧ (∃ m17, Run X ρ 157 [(1, b0)] m [] m17 ∧ (o = (.return_, [], m17)))))) ∨ (¬ ((f154 m b1) = 0) ∧ (∃ m8, Run X ρ 157 [(1, b0)] m [] m8 ∧ (o = (.return_, [], m8))))) := by
  have h := CR_iload_n h rfl
  have h : MR X ρ 3 0 0 qP148 N 125 [b0, b1, b2] [(1, b1)] m o := h
  obtain ⟨r1, m2, q3, h⟩ := MR_invS h rfl rfl
  have q3 : Run X ρ 154 [(1, b1)] m r1 m2 := q3
  obtain ⟨e4, e5⟩ := d154 q3
  rw [e4, e5] at h
  have h : MR X ρ 3 0 0 qP148 N 128 [b0, b1, b2] [(1, f154 m b1)] m o := h
  rcases MR_if h rfl rfl with ⟨c6, h⟩ | ⟨c6, h⟩
  ·
    have c6 : ¬ ((f154 m b1) = 0) := c6
    refine Or.inr ⟨c6, ?_⟩
    have h : MR X ρ 3 0 0 qP148 N 138 [b0, b1, b2] [] m o := h
    have h := CR_aload_n h rfl
    have h : MR X ρ 3 0 0 qP148 N 139 [b0, b1, b2] [(1, b0)] m o := h
    obtain ⟨r7, m8, q9, h⟩ := MR_invV h rfl rfl
    have q9 : Run X ρ 157 [(1, b0)] m r7 m8 := q9
    obtain rfl := Run_v q9 rfl
    have h : MR X ρ 3 0 0 qP148 N 142 [b0, b1, b2] [] m8 o := h
    refine ⟨m8, q9, ?_⟩
    have h := CR_go h rfl rfl
    have h : MR X ρ 3 0 0 qP148 N 215 [b0, b1, b2] [] m8 o := h
    exact CR_end h rfl rfl
  ·
    have c6 : (f154 m b1) = 0 := Decidable.of_not_not (show ¬ ¬ ((f154 m b1) = 0) from c6)
    refine Or.inl ⟨c6, ?_⟩
    have h : MR X ρ 3 0 0 qP148 N 131 [b0, b1, b2] [] m o := h
    have h := CR_iload_n h rfl
    have h : MR X ρ 3 0 0 qP148 N 132 [b0, b1, b2] [(1, b1)] m o := h
    obtain ⟨r10, m11, q12, h⟩ := MR_invS h rfl rfl
    have q12 : Run X ρ 151 [(1, b1)] m r10 m11 := q12
    obtain ⟨e13, e14⟩ := d151 q12
    rw [e13, e14] at h
    have h : MR X ρ 3 0 0 qP148 N 135 [b0, b1, b2] [(1, f151 m b1)] m o := h
    rcases MR_if h rfl rfl with ⟨c15, h⟩ | ⟨c15, h⟩
    ·
      have c15 : (f151 m b1) = 0 := c15
      refine Or.inl ⟨c15, ?_⟩
      have h : MR X ρ 3 0 0 qP148 N 145 [b0, b1, b2] [] m o := h
      exact h
    ·
      have c15 : ¬ ((f151 m b1) = 0) := c15
      refine Or.inr ⟨c15, ?_⟩
      have h : MR X ρ 3 0 0 qP148 N 138 [b0, b1, b2] [] m o := h
      have h := CR_aload_n h rfl
      have h : MR X ρ 3 0 0 qP148 N 139 [b0, b1, b2] [(1, b0)] m o := h
      obtain ⟨r16, m17, q18, h⟩ := MR_invV h rfl rfl
      have q18 : Run X ρ 157 [(1, b0)] m r16 m17 := q18
      obtain rfl := Run_v q18 rfl
      have h : MR X ρ 3 0 0 qP148 N 142 [b0, b1, b2] [] m17 o := h
      refine ⟨m17, q18, ?_⟩
      have h := CR_go h rfl rfl
      have h : MR X ρ 3 0 0 qP148 N 215 [b0, b1, b2] [] m17 o := h
      exact CR_end h rfl rfl
set_option maxRecDepth 16384 in
theorem i148_145 {X : KO} {ρ : Nat → Int32} {m : MM} {N : Nat} {o : Instr × List (Nat × Int) × MM} {b0 b1 b2 : Int} (h : MR X ρ 3 0 0 qP148 N 145 [b0, b1, b2] [] m o) : (((b1 = 59) ∧ (MR X ρ 3 0 0 qP148 N 187 [b0, b1, 1] [] m o)) ∨ (¬ (b1 = 59) ∧ (((b1 = 60) ∧ (MR X ρ 3 0 0 qP148 N 187 [b0, b1, 1] [] m o)) ∨ (¬ (b1 = 60) ∧ (((b1 = 61) ∧ (MR X ρ 3 0 0 qP148 N 187 [b0, b1, 1] [] m o)) ∨ (¬ (b1 = 61) ∧ (((b1 = 62) ∧ (MR X ρ 3 0 0 qP148 N 187 [b0, b1, 1] [] m o)) ∨ (¬ (b1 = 62) ∧ (((b1 = 40) ∧ (MR X ρ 3 0 0 qP148 N 187 [b0, b1, 1] [] m o)) ∨ (¬ (b1 = 40) ∧ (((b1 = 41) ∧ (MR X ρ 3 0 0 qP148 N 187 [b0, b1, 1] [] m o)) ∨ (¬ (b1 = 41) ∧ (MR X ρ 3 0 0 qP148 N 187 [b0, b1, 0] [] m o))))))))))))) := by
  have h := CR_iload_n h rfl
  have h : MR X ρ 3 0 0 qP148 N 146 [b0, b1, b2] [(1, b1)] m o := h
  have h := CR_bipush h rfl rfl
  have h : MR X ρ 3 0 0 qP148 N 148 [b0, b1, b2] [(1, 59), (1, b1)] m o := h
  rcases MR_icmp h rfl rfl with ⟨c1, h⟩ | ⟨c1, h⟩
  ·
    have c1 : b1 = 59 := c1
    refine Or.inl ⟨c1, ?_⟩
    have h : MR X ρ 3 0 0 qP148 N 181 [b0, b1, b2] [] m o := h
    have h := CR_iconst h rfl rfl
    have h : MR X ρ 3 0 0 qP148 N 182 [b0, b1, b2] [(1, 1)] m o := h
    have h := CR_go h rfl rfl
    have h : MR X ρ 3 0 0 qP148 N 186 [b0, b1, b2] [(1, 1)] m o := h
    have h := CR_istore_n h rfl (Nat.le_of_ble_eq_true rfl)
    have h : MR X ρ 3 0 0 qP148 N 187 [b0, b1, 1] [] m o := h
    exact h
  ·
    have c1 : ¬ (b1 = 59) := c1
    refine Or.inr ⟨c1, ?_⟩
    have h : MR X ρ 3 0 0 qP148 N 151 [b0, b1, b2] [] m o := h
    have h := CR_iload_n h rfl
    have h : MR X ρ 3 0 0 qP148 N 152 [b0, b1, b2] [(1, b1)] m o := h
    have h := CR_bipush h rfl rfl
    have h : MR X ρ 3 0 0 qP148 N 154 [b0, b1, b2] [(1, 60), (1, b1)] m o := h
    rcases MR_icmp h rfl rfl with ⟨c2, h⟩ | ⟨c2, h⟩
    ·
      have c2 : b1 = 60 := c2
      refine Or.inl ⟨c2, ?_⟩
      have h : MR X ρ 3 0 0 qP148 N 181 [b0, b1, b2] [] m o := h
      have h := CR_iconst h rfl rfl
      have h : MR X ρ 3 0 0 qP148 N 182 [b0, b1, b2] [(1, 1)] m o := h
      have h := CR_go h rfl rfl
      have h : MR X ρ 3 0 0 qP148 N 186 [b0, b1, b2] [(1, 1)] m o := h
      have h := CR_istore_n h rfl (Nat.le_of_ble_eq_true rfl)
      have h : MR X ρ 3 0 0 qP148 N 187 [b0, b1, 1] [] m o := h
      exact h
    ·
      have c2 : ¬ (b1 = 60) := c2
      refine Or.inr ⟨c2, ?_⟩
      have h : MR X ρ 3 0 0 qP148 N 157 [b0, b1, b2] [] m o := h
      have h := CR_iload_n h rfl
      have h : MR X ρ 3 0 0 qP148 N 158 [b0, b1, b2] [(1, b1)] m o := h
      have h := CR_bipush h rfl rfl
      have h : MR X ρ 3 0 0 qP148 N 160 [b0, b1, b2] [(1, 61), (1, b1)] m o := h
      rcases MR_icmp h rfl rfl with ⟨c3, h⟩ | ⟨c3, h⟩
      ·
        have c3 : b1 = 61 := c3
        refine Or.inl ⟨c3, ?_⟩
        have h : MR X ρ 3 0 0 qP148 N 181 [b0, b1, b2] [] m o := h
        have h := CR_iconst h rfl rfl
        have h : MR X ρ 3 0 0 qP148 N 182 [b0, b1, b2] [(1, 1)] m o := h
        have h := CR_go h rfl rfl
        have h : MR X ρ 3 0 0 qP148 N 186 [b0, b1, b2] [(1, 1)] m o := h
        have h := CR_istore_n h rfl (Nat.le_of_ble_eq_true rfl)
        have h : MR X ρ 3 0 0 qP148 N 187 [b0, b1, 1] [] m o := h
        exact h
      ·
        have c3 : ¬ (b1 = 61) := c3
        refine Or.inr ⟨c3, ?_⟩
        have h : MR X ρ 3 0 0 qP148 N 163 [b0, b1, b2] [] m o := h
        have h := CR_iload_n h rfl
        have h : MR X ρ 3 0 0 qP148 N 164 [b0, b1, b2] [(1, b1)] m o := h
        have h := CR_bipush h rfl rfl
        have h : MR X ρ 3 0 0 qP148 N 166 [b0, b1, b2] [(1, 62), (1, b1)] m o := h
        rcases MR_icmp h rfl rfl with ⟨c4, h⟩ | ⟨c4, h⟩
        ·
          have c4 : b1 = 62 := c4
          refine Or.inl ⟨c4, ?_⟩
          have h : MR X ρ 3 0 0 qP148 N 181 [b0, b1, b2] [] m o := h
          have h := CR_iconst h rfl rfl
          have h : MR X ρ 3 0 0 qP148 N 182 [b0, b1, b2] [(1, 1)] m o := h
          have h := CR_go h rfl rfl
          have h : MR X ρ 3 0 0 qP148 N 186 [b0, b1, b2] [(1, 1)] m o := h
          have h := CR_istore_n h rfl (Nat.le_of_ble_eq_true rfl)
          have h : MR X ρ 3 0 0 qP148 N 187 [b0, b1, 1] [] m o := h
          exact h
        ·
          have c4 : ¬ (b1 = 62) := c4
          refine Or.inr ⟨c4, ?_⟩
          have h : MR X ρ 3 0 0 qP148 N 169 [b0, b1, b2] [] m o := h
          have h := CR_iload_n h rfl
          have h : MR X ρ 3 0 0 qP148 N 170 [b0, b1, b2] [(1, b1)] m o := h
          have h := CR_bipush h rfl rfl
          have h : MR X ρ 3 0 0 qP148 N 172 [b0, b1, b2] [(1, 40), (1, b1)] m o := h
          rcases MR_icmp h rfl rfl with ⟨c5, h⟩ | ⟨c5, h⟩
          ·
            have c5 : b1 = 40 := c5
            refine Or.inl ⟨c5, ?_⟩
            have h : MR X ρ 3 0 0 qP148 N 181 [b0, b1, b2] [] m o := h
            have h := CR_iconst h rfl rfl
            have h : MR X ρ 3 0 0 qP148 N 182 [b0, b1, b2] [(1, 1)] m o := h
            have h := CR_go h rfl rfl
            have h : MR X ρ 3 0 0 qP148 N 186 [b0, b1, b2] [(1, 1)] m o := h
            have h := CR_istore_n h rfl (Nat.le_of_ble_eq_true rfl)
            have h : MR X ρ 3 0 0 qP148 N 187 [b0, b1, 1] [] m o := h
            exact h
          ·
            have c5 : ¬ (b1 = 40) := c5
            refine Or.inr ⟨c5, ?_⟩
            have h : MR X ρ 3 0 0 qP148 N 175 [b0, b1, b2] [] m o := h
            have h := CR_iload_n h rfl
            have h : MR X ρ 3 0 0 qP148 N 176 [b0, b1, b2] [(1, b1)] m o := h
            have h := CR_bipush h rfl rfl
            have h : MR X ρ 3 0 0 qP148 N 178 [b0, b1, b2] [(1, 41), (1, b1)] m o := h
            rcases MR_icmp h rfl rfl with ⟨c6, h⟩ | ⟨c6, h⟩
            ·
              have c6 : ¬ (b1 = 41) := c6
              refine Or.inr ⟨c6, ?_⟩
              have h : MR X ρ 3 0 0 qP148 N 185 [b0, b1, b2] [] m o := h
              have h := CR_iconst h rfl rfl
              have h : MR X ρ 3 0 0 qP148 N 186 [b0, b1, b2] [(1, 0)] m o := h
              have h := CR_istore_n h rfl (Nat.le_of_ble_eq_true rfl)
              have h : MR X ρ 3 0 0 qP148 N 187 [b0, b1, 0] [] m o := h
              exact h
            ·
              have c6 : b1 = 41 := Decidable.of_not_not (show ¬ ¬ (b1 = 41) from c6)
              refine Or.inl ⟨c6, ?_⟩
              have h : MR X ρ 3 0 0 qP148 N 181 [b0, b1, b2] [] m o := h
              have h := CR_iconst h rfl rfl
              have h : MR X ρ 3 0 0 qP148 N 182 [b0, b1, b2] [(1, 1)] m o := h
              have h := CR_go h rfl rfl
              have h : MR X ρ 3 0 0 qP148 N 186 [b0, b1, b2] [(1, 1)] m o := h
              have h := CR_istore_n h rfl (Nat.le_of_ble_eq_true rfl)
              have h : MR X ρ 3 0 0 qP148 N 187 [b0, b1, 1] [] m o := h
              exact h
set_option maxRecDepth 16384 in
theorem i148_187 {X : KO} {ρ : Nat → Int32} {m : MM} {N : Nat} {o : Instr × List (Nat × Int) × MM} {b0 b1 b2 : Int} (h : MR X ρ 3 0 0 qP148 N 187 [b0, b1, b2] [] m o) : (((b2 = 0) ∧ (o = (.return_, [], mu (mu (mu m b0 4 4) b0 6 b1) b0 3 (s32 (((mu (mu m b0 4 4) b0 6 b1) b0 3) + 1))))) ∨ (¬ (b2 = 0) ∧ (o = (.return_, [], mu (mu (mu m b0 4 3) b0 6 b1) b0 3 (s32 (((mu (mu m b0 4 3) b0 6 b1) b0 3) + 1)))))) := by
  have h := CR_aload_n h rfl
  have h : MR X ρ 3 0 0 qP148 N 188 [b0, b1, b2] [(1, b0)] m o := h
  have h := CR_iload_n h rfl
  have h : MR X ρ 3 0 0 qP148 N 189 [b0, b1, b2] [(1, b2), (1, b0)] m o := h
  rcases MR_if h rfl rfl with ⟨c1, h⟩ | ⟨c1, h⟩
  ·
    have c1 : b2 = 0 := c1
    refine Or.inl ⟨c1, ?_⟩
    have h : MR X ρ 3 0 0 qP148 N 196 [b0, b1, b2] [(1, b0)] m o := h
    have h := CR_iconst h rfl rfl
    have h : MR X ρ 3 0 0 qP148 N 197 [b0, b1, b2] [(1, 4), (1, b0)] m o := h
    have h := CR_putf h rfl
    have h : MR X ρ 3 0 0 qP148 N 200 [b0, b1, b2] [] (mu m b0 4 4) o := h
    have h := CR_aload_n h rfl
    have h : MR X ρ 3 0 0 qP148 N 201 [b0, b1, b2] [(1, b0)] (mu m b0 4 4) o := h
    have h := CR_iload_n h rfl
    have h : MR X ρ 3 0 0 qP148 N 202 [b0, b1, b2] [(1, b1), (1, b0)] (mu m b0 4 4) o := h
    have h := CR_putf h rfl
    have h : MR X ρ 3 0 0 qP148 N 205 [b0, b1, b2] [] (mu (mu m b0 4 4) b0 6 b1) o := h
    have h := CR_aload_n h rfl
    have h : MR X ρ 3 0 0 qP148 N 206 [b0, b1, b2] [(1, b0)] (mu (mu m b0 4 4) b0 6 b1) o := h
    have h := CR_dup h rfl
    have h : MR X ρ 3 0 0 qP148 N 207 [b0, b1, b2] [(1, b0), (1, b0)] (mu (mu m b0 4 4) b0 6 b1) o := h
    have h := CR_getf h rfl (by decide)
    have h : MR X ρ 3 0 0 qP148 N 210 [b0, b1, b2] [(1, (mu (mu m b0 4 4) b0 6 b1) b0 3), (1, b0)] (mu (mu m b0 4 4) b0 6 b1) o := h
    have h := CR_iconst h rfl rfl
    have h : MR X ρ 3 0 0 qP148 N 211 [b0, b1, b2] [(1, 1), (1, (mu (mu m b0 4 4) b0 6 b1) b0 3), (1, b0)] (mu (mu m b0 4 4) b0 6 b1) o := h
    have h := CR_iadd h rfl
    have h : MR X ρ 3 0 0 qP148 N 212 [b0, b1, b2] [(1, s32 (((mu (mu m b0 4 4) b0 6 b1) b0 3) + 1)), (1, b0)] (mu (mu m b0 4 4) b0 6 b1) o := h
    have h := CR_putf h rfl
    have h : MR X ρ 3 0 0 qP148 N 215 [b0, b1, b2] [] (mu (mu (mu m b0 4 4) b0 6 b1) b0 3 (s32 (((mu (mu m b0 4 4) b0 6 b1) b0 3) + 1))) o := h
    exact CR_end h rfl rfl
  ·
    have c1 : ¬ (b2 = 0) := c1
    refine Or.inr ⟨c1, ?_⟩
    have h : MR X ρ 3 0 0 qP148 N 192 [b0, b1, b2] [(1, b0)] m o := h
    have h := CR_iconst h rfl rfl
    have h : MR X ρ 3 0 0 qP148 N 193 [b0, b1, b2] [(1, 3), (1, b0)] m o := h
    have h := CR_go h rfl rfl
    have h : MR X ρ 3 0 0 qP148 N 197 [b0, b1, b2] [(1, 3), (1, b0)] m o := h
    have h := CR_putf h rfl
    have h : MR X ρ 3 0 0 qP148 N 200 [b0, b1, b2] [] (mu m b0 4 3) o := h
    have h := CR_aload_n h rfl
    have h : MR X ρ 3 0 0 qP148 N 201 [b0, b1, b2] [(1, b0)] (mu m b0 4 3) o := h
    have h := CR_iload_n h rfl
    have h : MR X ρ 3 0 0 qP148 N 202 [b0, b1, b2] [(1, b1), (1, b0)] (mu m b0 4 3) o := h
    have h := CR_putf h rfl
    have h : MR X ρ 3 0 0 qP148 N 205 [b0, b1, b2] [] (mu (mu m b0 4 3) b0 6 b1) o := h
    have h := CR_aload_n h rfl
    have h : MR X ρ 3 0 0 qP148 N 206 [b0, b1, b2] [(1, b0)] (mu (mu m b0 4 3) b0 6 b1) o := h
    have h := CR_dup h rfl
    have h : MR X ρ 3 0 0 qP148 N 207 [b0, b1, b2] [(1, b0), (1, b0)] (mu (mu m b0 4 3) b0 6 b1) o := h
    have h := CR_getf h rfl (by decide)
    have h : MR X ρ 3 0 0 qP148 N 210 [b0, b1, b2] [(1, (mu (mu m b0 4 3) b0 6 b1) b0 3), (1, b0)] (mu (mu m b0 4 3) b0 6 b1) o := h
    have h := CR_iconst h rfl rfl
    have h : MR X ρ 3 0 0 qP148 N 211 [b0, b1, b2] [(1, 1), (1, (mu (mu m b0 4 3) b0 6 b1) b0 3), (1, b0)] (mu (mu m b0 4 3) b0 6 b1) o := h
    have h := CR_iadd h rfl
    have h : MR X ρ 3 0 0 qP148 N 212 [b0, b1, b2] [(1, s32 (((mu (mu m b0 4 3) b0 6 b1) b0 3) + 1)), (1, b0)] (mu (mu m b0 4 3) b0 6 b1) o := h
    have h := CR_putf h rfl
    have h : MR X ρ 3 0 0 qP148 N 215 [b0, b1, b2] [] (mu (mu (mu m b0 4 3) b0 6 b1) b0 3 (s32 (((mu (mu m b0 4 3) b0 6 b1) b0 3) + 1))) o := h
    exact CR_end h rfl rfl
set_option maxRecDepth 16384 in
theorem i150_0 {X : KO} {ρ : Nat → Int32} {m : MM} {N : Nat} {o : Instr × List (Nat × Int) × MM} {a0 : Int} (h : MR X ρ 2 0 0 qP150 N 0 [a0, 0] [] m o) : (MR X ρ 2 0 0 qP150 N 2 [a0, 0] [] m o) := by
  have h := CR_iconst h rfl rfl
  have h : MR X ρ 2 0 0 qP150 N 1 [a0, 0] [(1, 0)] m o := h
  have h := CR_istore_n h rfl (Nat.le_of_ble_eq_true rfl)
  have h : MR X ρ 2 0 0 qP150 N 2 [a0, 0] [] m o := h
  exact h
set_option maxRecDepth 16384 in
theorem i150_2 {X : KO} {ρ : Nat → Int32} {m : MM} {N : Nat} {o : Instr × List (Nat × Int) × MM} {b0 b1 : Int} (h : MR X ρ 2 0 0 qP150 N 2 [b0, b1] [] m o) : (((30 ≤ b1) ∧ (o = (.return_, [], m))) ∨ (¬ (30 ≤ b1) ∧ ((((1000100 + b1) < 1000000) ∧ True) ∨ (¬ ((1000100 + b1) < 1000000) ∧ ((((if (m b0 7) < ((X.2 (1000100 + b1).toNat).toInt) then 1 else if ((X.2 (1000100 + b1).toNat).toInt) = (m b0 7) then 0 else -1) = 0) ∧ (∃ N5, N = N5 + 1 ∧ MR X ρ 2 0 0 qP150 N5 2 [b0, s32 (b1 + 1)] [] (mu m b0 8 (1000100 + b1)) o)) ∨ (¬ ((if (m b0 7) < ((X.2 (1000100 + b1).toNat).toInt) then 1 else if ((X.2 (1000100 + b1).toNat).toInt) = (m b0 7) then 0 else -1) = 0) ∧ (∃ N4, N = N4 + 1 ∧ MR X ρ 2 0 0 qP150 N4 2 [b0, s32 (b1 + 1)] [] m o))))))) := by
  have h := CR_iload_n h rfl
  have h : MR X ρ 2 0 0 qP150 N 3 [b0, b1] [(1, b1)] m o := h
  have h := CR_getstatic h rfl
  have h : MR X ρ 2 0 0 qP150 N 6 [b0, b1] [(1, 1000050), (1, b1)] m o := h
  have h := CR_alen rfl h rfl
  have h : MR X ρ 2 0 0 qP150 N 7 [b0, b1] [(1, 30), (1, b1)] m o := h
  rcases MR_icmp h rfl rfl with ⟨c1, h⟩ | ⟨c1, h⟩
  ·
    have c1 : 30 ≤ b1 := c1
    refine Or.inl ⟨c1, ?_⟩
    have h : MR X ρ 2 0 0 qP150 N 41 [b0, b1] [] m o := h
    exact CR_end h rfl rfl
  ·
    have c1 : ¬ (30 ≤ b1) := c1
    refine Or.inr ⟨c1, ?_⟩
    have h : MR X ρ 2 0 0 qP150 N 10 [b0, b1] [] m o := h
    have h := CR_getstatic h rfl
    have h : MR X ρ 2 0 0 qP150 N 13 [b0, b1] [(1, 1000050)] m o := h
    have h := CR_iload_n h rfl
    have h : MR X ρ 2 0 0 qP150 N 14 [b0, b1] [(1, b1), (1, 1000050)] m o := h
    have h := CR_aald h rfl
    have h : MR X ρ 2 0 0 qP150 N 15 [b0, b1] [(1, 1000100 + b1)] m o := h
    rcases CR_getw h rfl rfl with ⟨w2, h⟩ | w2
    ·
      have w2 : ¬ ((1000100 + b1) < 1000000) := w2
      refine Or.inr ⟨w2, ?_⟩
      have h : MR X ρ 2 0 0 qP150 N 18 [b0, b1] [(2, (X.2 (1000100 + b1).toNat).toInt)] m o := h
      have h := CR_aload_n h rfl
      have h : MR X ρ 2 0 0 qP150 N 19 [b0, b1] [(1, b0), (2, (X.2 (1000100 + b1).toNat).toInt)] m o := h
      have h := CR_getf h rfl (by decide)
      have h : MR X ρ 2 0 0 qP150 N 22 [b0, b1] [(2, m b0 7), (2, (X.2 (1000100 + b1).toNat).toInt)] m o := h
      have h := CR_lcmp h rfl
      have h : MR X ρ 2 0 0 qP150 N 23 [b0, b1] [(1, if (m b0 7) < ((X.2 (1000100 + b1).toNat).toInt) then 1 else if ((X.2 (1000100 + b1).toNat).toInt) = (m b0 7) then 0 else -1)] m o := h
      rcases MR_if h rfl rfl with ⟨c3, h⟩ | ⟨c3, h⟩
      ·
        have c3 : ¬ ((if (m b0 7) < ((X.2 (1000100 + b1).toNat).toInt) then 1 else if ((X.2 (1000100 + b1).toNat).toInt) = (m b0 7) then 0 else -1) = 0) := c3
        refine Or.inr ⟨c3, ?_⟩
        have h : MR X ρ 2 0 0 qP150 N 35 [b0, b1] [] m o := h
        have h := CR_inc h rfl (Nat.le_of_ble_eq_true rfl)
        have h : MR X ρ 2 0 0 qP150 N 38 [b0, s32 (b1 + 1)] [] m o := h
        obtain ⟨N4, eN4, h⟩ := CR_goto h rfl rfl
        have h : MR X ρ 2 0 0 qP150 N4 2 [b0, s32 (b1 + 1)] [] m o := h
        exact ⟨N4, eN4, h⟩
      ·
        have c3 : (if (m b0 7) < ((X.2 (1000100 + b1).toNat).toInt) then 1 else if ((X.2 (1000100 + b1).toNat).toInt) = (m b0 7) then 0 else -1) = 0 := Decidable.of_not_not (show ¬ ¬ ((if (m b0 7) < ((X.2 (1000100 + b1).toNat).toInt) then 1 else if ((X.2 (1000100 + b1).toNat).toInt) = (m b0 7) then 0 else -1) = 0) from c3)
        refine Or.inl ⟨c3, ?_⟩
        have h : MR X ρ 2 0 0 qP150 N 26 [b0, b1] [] m o := h
        have h := CR_aload_n h rfl
        have h : MR X ρ 2 0 0 qP150 N 27 [b0, b1] [(1, b0)] m o := h
        have h := CR_getstatic h rfl
        have h : MR X ρ 2 0 0 qP150 N 30 [b0, b1] [(1, 1000050), (1, b0)] m o := h
        have h := CR_iload_n h rfl
        have h : MR X ρ 2 0 0 qP150 N 31 [b0, b1] [(1, b1), (1, 1000050), (1, b0)] m o := h
        have h := CR_aald h rfl
        have h : MR X ρ 2 0 0 qP150 N 32 [b0, b1] [(1, 1000100 + b1), (1, b0)] m o := h
        have h := CR_putf h rfl
        have h : MR X ρ 2 0 0 qP150 N 35 [b0, b1] [] (mu m b0 8 (1000100 + b1)) o := h
        have h := CR_inc h rfl (Nat.le_of_ble_eq_true rfl)
        have h : MR X ρ 2 0 0 qP150 N 38 [b0, s32 (b1 + 1)] [] (mu m b0 8 (1000100 + b1)) o := h
        obtain ⟨N5, eN5, h⟩ := CR_goto h rfl rfl
        have h : MR X ρ 2 0 0 qP150 N5 2 [b0, s32 (b1 + 1)] [] (mu m b0 8 (1000100 + b1)) o := h
        exact ⟨N5, eN5, h⟩
    ·
      have w2 : (1000100 + b1) < 1000000 := w2
      refine Or.inl ⟨w2, ?_⟩
      exact trivial
set_option maxRecDepth 16384 in
theorem i195_0 {X : KO} {ρ : Nat → Int32} {m : MM} {N : Nat} {o : Instr × List (Nat × Int) × MM} {b0 b1 b2 b3 b4 : Int} (h : MR X ρ 5 0 0 qP195 N 0 [b0, b1, b2, b3, b4] [] m o) : ((((m b0 3) ≤ (m b0 5)) ∧ (MR X ρ 5 0 0 qP195 N 52 [b0, b1, b2, b3, b4] [] m o)) ∨ (¬ ((m b0 3) ≤ (m b0 5)) ∧ ((((m (m b0 1) (m b0 5)) = 32) ∧ (∃ N3, N = N3 + 1 ∧ MR X ρ 5 0 0 qP195 N3 0 [b0, b1, b2, b3, b4] [] (mu m b0 5 (s32 ((m b0 5) + 1))) o)) ∨ (¬ ((m (m b0 1) (m b0 5)) = 32) ∧ ((((m (m b0 1) (m b0 5)) = 10) ∧ (∃ N5, N = N5 + 1 ∧ MR X ρ 5 0 0 qP195 N5 0 [b0, b1, b2, b3, b4] [] (mu m b0 5 (s32 ((m b0 5) + 1))) o)) ∨ (¬ ((m (m b0 1) (m b0 5)) = 10) ∧ (MR X ρ 5 0 0 qP195 N 52 [b0, b1, b2, b3, b4] [] m o))))))) := by
  have h := CR_aload_n h rfl
  have h : MR X ρ 5 0 0 qP195 N 1 [b0, b1, b2, b3, b4] [(1, b0)] m o := h
  have h := CR_getf h rfl (by decide)
  have h : MR X ρ 5 0 0 qP195 N 4 [b0, b1, b2, b3, b4] [(1, m b0 5)] m o := h
  have h := CR_aload_n h rfl
  have h : MR X ρ 5 0 0 qP195 N 5 [b0, b1, b2, b3, b4] [(1, b0), (1, m b0 5)] m o := h
  have h := CR_getf h rfl (by decide)
  have h : MR X ρ 5 0 0 qP195 N 8 [b0, b1, b2, b3, b4] [(1, m b0 3), (1, m b0 5)] m o := h
  rcases MR_icmp h rfl rfl with ⟨c1, h⟩ | ⟨c1, h⟩
  ·
    have c1 : (m b0 3) ≤ (m b0 5) := c1
    refine Or.inl ⟨c1, ?_⟩
    have h : MR X ρ 5 0 0 qP195 N 52 [b0, b1, b2, b3, b4] [] m o := h
    exact h
  ·
    have c1 : ¬ ((m b0 3) ≤ (m b0 5)) := c1
    refine Or.inr ⟨c1, ?_⟩
    have h : MR X ρ 5 0 0 qP195 N 11 [b0, b1, b2, b3, b4] [] m o := h
    have h := CR_aload_n h rfl
    have h : MR X ρ 5 0 0 qP195 N 12 [b0, b1, b2, b3, b4] [(1, b0)] m o := h
    have h := CR_getf h rfl (by decide)
    have h : MR X ρ 5 0 0 qP195 N 15 [b0, b1, b2, b3, b4] [(1, m b0 1)] m o := h
    have h := CR_aload_n h rfl
    have h : MR X ρ 5 0 0 qP195 N 16 [b0, b1, b2, b3, b4] [(1, b0), (1, m b0 1)] m o := h
    have h := CR_getf h rfl (by decide)
    have h : MR X ρ 5 0 0 qP195 N 19 [b0, b1, b2, b3, b4] [(1, m b0 5), (1, m b0 1)] m o := h
    have h := CR_iaload h rfl rfl
    have h : MR X ρ 5 0 0 qP195 N 20 [b0, b1, b2, b3, b4] [(1, m (m b0 1) (m b0 5))] m o := h
    have h := CR_bipush h rfl rfl
    have h : MR X ρ 5 0 0 qP195 N 22 [b0, b1, b2, b3, b4] [(1, 32), (1, m (m b0 1) (m b0 5))] m o := h
    rcases MR_icmp h rfl rfl with ⟨c2, h⟩ | ⟨c2, h⟩
    ·
      have c2 : (m (m b0 1) (m b0 5)) = 32 := c2
      refine Or.inl ⟨c2, ?_⟩
      have h : MR X ρ 5 0 0 qP195 N 39 [b0, b1, b2, b3, b4] [] m o := h
      have h := CR_aload_n h rfl
      have h : MR X ρ 5 0 0 qP195 N 40 [b0, b1, b2, b3, b4] [(1, b0)] m o := h
      have h := CR_dup h rfl
      have h : MR X ρ 5 0 0 qP195 N 41 [b0, b1, b2, b3, b4] [(1, b0), (1, b0)] m o := h
      have h := CR_getf h rfl (by decide)
      have h : MR X ρ 5 0 0 qP195 N 44 [b0, b1, b2, b3, b4] [(1, m b0 5), (1, b0)] m o := h
      have h := CR_iconst h rfl rfl
      have h : MR X ρ 5 0 0 qP195 N 45 [b0, b1, b2, b3, b4] [(1, 1), (1, m b0 5), (1, b0)] m o := h
      have h := CR_iadd h rfl
      have h : MR X ρ 5 0 0 qP195 N 46 [b0, b1, b2, b3, b4] [(1, s32 ((m b0 5) + 1)), (1, b0)] m o := h
      have h := CR_putf h rfl
      have h : MR X ρ 5 0 0 qP195 N 49 [b0, b1, b2, b3, b4] [] (mu m b0 5 (s32 ((m b0 5) + 1))) o := h
      obtain ⟨N3, eN3, h⟩ := CR_goto h rfl rfl
      have h : MR X ρ 5 0 0 qP195 N3 0 [b0, b1, b2, b3, b4] [] (mu m b0 5 (s32 ((m b0 5) + 1))) o := h
      exact ⟨N3, eN3, h⟩
    ·
      have c2 : ¬ ((m (m b0 1) (m b0 5)) = 32) := c2
      refine Or.inr ⟨c2, ?_⟩
      have h : MR X ρ 5 0 0 qP195 N 25 [b0, b1, b2, b3, b4] [] m o := h
      have h := CR_aload_n h rfl
      have h : MR X ρ 5 0 0 qP195 N 26 [b0, b1, b2, b3, b4] [(1, b0)] m o := h
      have h := CR_getf h rfl (by decide)
      have h : MR X ρ 5 0 0 qP195 N 29 [b0, b1, b2, b3, b4] [(1, m b0 1)] m o := h
      have h := CR_aload_n h rfl
      have h : MR X ρ 5 0 0 qP195 N 30 [b0, b1, b2, b3, b4] [(1, b0), (1, m b0 1)] m o := h
      have h := CR_getf h rfl (by decide)
      have h : MR X ρ 5 0 0 qP195 N 33 [b0, b1, b2, b3, b4] [(1, m b0 5), (1, m b0 1)] m o := h
      have h := CR_iaload h rfl rfl
      have h : MR X ρ 5 0 0 qP195 N 34 [b0, b1, b2, b3, b4] [(1, m (m b0 1) (m b0 5))] m o := h
      have h := CR_bipush h rfl rfl
      have h : MR X ρ 5 0 0 qP195 N 36 [b0, b1, b2, b3, b4] [(1, 10), (1, m (m b0 1) (m b0 5))] m o := h
      rcases MR_icmp h rfl rfl with ⟨c4, h⟩ | ⟨c4, h⟩
      ·
        have c4 : ¬ ((m (m b0 1) (m b0 5)) = 10) := c4
        refine Or.inr ⟨c4, ?_⟩
        have h : MR X ρ 5 0 0 qP195 N 52 [b0, b1, b2, b3, b4] [] m o := h
        exact h
      ·
        have c4 : (m (m b0 1) (m b0 5)) = 10 := Decidable.of_not_not (show ¬ ¬ ((m (m b0 1) (m b0 5)) = 10) from c4)
        refine Or.inl ⟨c4, ?_⟩
        have h : MR X ρ 5 0 0 qP195 N 39 [b0, b1, b2, b3, b4] [] m o := h
        have h := CR_aload_n h rfl
        have h : MR X ρ 5 0 0 qP195 N 40 [b0, b1, b2, b3, b4] [(1, b0)] m o := h
        have h := CR_dup h rfl
        have h : MR X ρ 5 0 0 qP195 N 41 [b0, b1, b2, b3, b4] [(1, b0), (1, b0)] m o := h
        have h := CR_getf h rfl (by decide)
        have h : MR X ρ 5 0 0 qP195 N 44 [b0, b1, b2, b3, b4] [(1, m b0 5), (1, b0)] m o := h
        have h := CR_iconst h rfl rfl
        have h : MR X ρ 5 0 0 qP195 N 45 [b0, b1, b2, b3, b4] [(1, 1), (1, m b0 5), (1, b0)] m o := h
        have h := CR_iadd h rfl
        have h : MR X ρ 5 0 0 qP195 N 46 [b0, b1, b2, b3, b4] [(1, s32 ((m b0 5) + 1)), (1, b0)] m o := h
        have h := CR_putf h rfl
        have h : MR X ρ 5 0 0 qP195 N 49 [b0, b1, b2, b3, b4] [] (mu m b0 5 (s32 ((m b0 5) + 1))) o := h
        obtain ⟨N5, eN5, h⟩ := CR_goto h rfl rfl
        have h : MR X ρ 5 0 0 qP195 N5 0 [b0, b1, b2, b3, b4] [] (mu m b0 5 (s32 ((m b0 5) + 1))) o := h
        exact ⟨N5, eN5, h⟩
set_option maxRecDepth 16384 in
theorem i195_52 {X : KO} {ρ : Nat → Int32} {m : MM} {N : Nat} {o : Instr × List (Nat × Int) × MM} {b0 b1 b2 b3 b4 : Int} (h : MR X ρ 5 0 0 qP195 N 52 [b0, b1, b2, b3, b4] [] m o) : (((((mu m b0 6 (m b0 5)) b0 3) ≤ ((mu m b0 6 (m b0 5)) b0 4)) ∧ (((((mu m b0 6 (m b0 5)) b0 5) < ((mu m b0 6 (m b0 5)) b0 3)) ∧ (MR X ρ 5 0 0 qP195 N 113 [b0, b1, b2, b3, b4] [] (mu m b0 6 (m b0 5)) o)) ∨ (¬ (((mu m b0 6 (m b0 5)) b0 5) < ((mu m b0 6 (m b0 5)) b0 3)) ∧ (o = (.return_, [], mu (mu m b0 6 (m b0 5)) b0 7 0))))) ∨ (¬ (((mu m b0 6 (m b0 5)) b0 3) ≤ ((mu m b0 6 (m b0 5)) b0 4)) ∧ (((((mu m b0 6 (m b0 5)) b0 6) < ((mu m b0 6 (m b0 5)) b0 4)) ∧ (((((mu m b0 6 (m b0 5)) b0 5) < ((mu m b0 6 (m b0 5)) b0 3)) ∧ (MR X ρ 5 0 0 qP195 N 113 [b0, b1, b2, b3, b4] [] (mu m b0 6 (m b0 5)) o)) ∨ (¬ (((mu m b0 6 (m b0 5)) b0 5) < ((mu m b0 6 (m b0 5)) b0 3)) ∧ (o = (.return_, [], mu (mu m b0 6 (m b0 5)) b0 7 0))))) ∨ (¬ (((mu m b0 6 (m b0 5)) b0 6) < ((mu m b0 6 (m b0 5)) b0 4)) ∧ (o = (.return_, [], mu (mu (mu m b0 6 (m b0 5)) b0 6 ((mu m b0 6 (m b0 5)) b0 4)) b0 7 1)))))) := by
  have h := CR_aload_n h rfl
  have h : MR X ρ 5 0 0 qP195 N 53 [b0, b1, b2, b3, b4] [(1, b0)] m o := h
  have h := CR_aload_n h rfl
  have h : MR X ρ 5 0 0 qP195 N 54 [b0, b1, b2, b3, b4] [(1, b0), (1, b0)] m o := h
  have h := CR_getf h rfl (by decide)
  have h : MR X ρ 5 0 0 qP195 N 57 [b0, b1, b2, b3, b4] [(1, m b0 5), (1, b0)] m o := h
  have h := CR_putf h rfl
  have h : MR X ρ 5 0 0 qP195 N 60 [b0, b1, b2, b3, b4] [] (mu m b0 6 (m b0 5)) o := h
  have h := CR_aload_n h rfl
  have h : MR X ρ 5 0 0 qP195 N 61 [b0, b1, b2, b3, b4] [(1, b0)] (mu m b0 6 (m b0 5)) o := h
  have h := CR_getf h rfl (by decide)
  have h : MR X ρ 5 0 0 qP195 N 64 [b0, b1, b2, b3, b4] [(1, (mu m b0 6 (m b0 5)) b0 3)] (mu m b0 6 (m b0 5)) o := h
  have h := CR_aload_n h rfl
  have h : MR X ρ 5 0 0 qP195 N 65 [b0, b1, b2, b3, b4] [(1, b0), (1, (mu m b0 6 (m b0 5)) b0 3)] (mu m b0 6 (m b0 5)) o := h
  have h := CR_getf h rfl (by decide)
  have h : MR X ρ 5 0 0 qP195 N 68 [b0, b1, b2, b3, b4] [(1, (mu m b0 6 (m b0 5)) b0 4), (1, (mu m b0 6 (m b0 5)) b0 3)] (mu m b0 6 (m b0 5)) o := h
  rcases MR_icmp h rfl rfl with ⟨c1, h⟩ | ⟨c1, h⟩
  ·
    have c1 : ((mu m b0 6 (m b0 5)) b0 3) ≤ ((mu m b0 6 (m b0 5)) b0 4) := c1
    refine Or.inl ⟨c1, ?_⟩
    have h : MR X ρ 5 0 0 qP195 N 96 [b0, b1, b2, b3, b4] [] (mu m b0 6 (m b0 5)) o := h
    have h := CR_aload_n h rfl
    have h : MR X ρ 5 0 0 qP195 N 97 [b0, b1, b2, b3, b4] [(1, b0)] (mu m b0 6 (m b0 5)) o := h
    have h := CR_getf h rfl (by decide)
    have h : MR X ρ 5 0 0 qP195 N 100 [b0, b1, b2, b3, b4] [(1, (mu m b0 6 (m b0 5)) b0 5)] (mu m b0 6 (m b0 5)) o := h
    have h := CR_aload_n h rfl
    have h : MR X ρ 5 0 0 qP195 N 101 [b0, b1, b2, b3, b4] [(1, b0), (1, (mu m b0 6 (m b0 5)) b0 5)] (mu m b0 6 (m b0 5)) o := h
    have h := CR_getf h rfl (by decide)
    have h : MR X ρ 5 0 0 qP195 N 104 [b0, b1, b2, b3, b4] [(1, (mu m b0 6 (m b0 5)) b0 3), (1, (mu m b0 6 (m b0 5)) b0 5)] (mu m b0 6 (m b0 5)) o := h
    rcases MR_icmp h rfl rfl with ⟨c2, h⟩ | ⟨c2, h⟩
    ·
      have c2 : ((mu m b0 6 (m b0 5)) b0 5) < ((mu m b0 6 (m b0 5)) b0 3) := c2
      refine Or.inl ⟨c2, ?_⟩
      have h : MR X ρ 5 0 0 qP195 N 113 [b0, b1, b2, b3, b4] [] (mu m b0 6 (m b0 5)) o := h
      exact h
    ·
      have c2 : ¬ (((mu m b0 6 (m b0 5)) b0 5) < ((mu m b0 6 (m b0 5)) b0 3)) := c2
      refine Or.inr ⟨c2, ?_⟩
      have h : MR X ρ 5 0 0 qP195 N 107 [b0, b1, b2, b3, b4] [] (mu m b0 6 (m b0 5)) o := h
      have h := CR_aload_n h rfl
      have h : MR X ρ 5 0 0 qP195 N 108 [b0, b1, b2, b3, b4] [(1, b0)] (mu m b0 6 (m b0 5)) o := h
      have h := CR_iconst h rfl rfl
      have h : MR X ρ 5 0 0 qP195 N 109 [b0, b1, b2, b3, b4] [(1, 0), (1, b0)] (mu m b0 6 (m b0 5)) o := h
      have h := CR_putf h rfl
      have h : MR X ρ 5 0 0 qP195 N 112 [b0, b1, b2, b3, b4] [] (mu (mu m b0 6 (m b0 5)) b0 7 0) o := h
      exact CR_end h rfl rfl
  ·
    have c1 : ¬ (((mu m b0 6 (m b0 5)) b0 3) ≤ ((mu m b0 6 (m b0 5)) b0 4)) := c1
    refine Or.inr ⟨c1, ?_⟩
    have h : MR X ρ 5 0 0 qP195 N 71 [b0, b1, b2, b3, b4] [] (mu m b0 6 (m b0 5)) o := h
    have h := CR_aload_n h rfl
    have h : MR X ρ 5 0 0 qP195 N 72 [b0, b1, b2, b3, b4] [(1, b0)] (mu m b0 6 (m b0 5)) o := h
    have h := CR_getf h rfl (by decide)
    have h : MR X ρ 5 0 0 qP195 N 75 [b0, b1, b2, b3, b4] [(1, (mu m b0 6 (m b0 5)) b0 6)] (mu m b0 6 (m b0 5)) o := h
    have h := CR_aload_n h rfl
    have h : MR X ρ 5 0 0 qP195 N 76 [b0, b1, b2, b3, b4] [(1, b0), (1, (mu m b0 6 (m b0 5)) b0 6)] (mu m b0 6 (m b0 5)) o := h
    have h := CR_getf h rfl (by decide)
    have h : MR X ρ 5 0 0 qP195 N 79 [b0, b1, b2, b3, b4] [(1, (mu m b0 6 (m b0 5)) b0 4), (1, (mu m b0 6 (m b0 5)) b0 6)] (mu m b0 6 (m b0 5)) o := h
    rcases MR_icmp h rfl rfl with ⟨c3, h⟩ | ⟨c3, h⟩
    ·
      have c3 : ((mu m b0 6 (m b0 5)) b0 6) < ((mu m b0 6 (m b0 5)) b0 4) := c3
      refine Or.inl ⟨c3, ?_⟩
      have h : MR X ρ 5 0 0 qP195 N 96 [b0, b1, b2, b3, b4] [] (mu m b0 6 (m b0 5)) o := h
      have h := CR_aload_n h rfl
      have h : MR X ρ 5 0 0 qP195 N 97 [b0, b1, b2, b3, b4] [(1, b0)] (mu m b0 6 (m b0 5)) o := h
      have h := CR_getf h rfl (by decide)
      have h : MR X ρ 5 0 0 qP195 N 100 [b0, b1, b2, b3, b4] [(1, (mu m b0 6 (m b0 5)) b0 5)] (mu m b0 6 (m b0 5)) o := h
      have h := CR_aload_n h rfl
      have h : MR X ρ 5 0 0 qP195 N 101 [b0, b1, b2, b3, b4] [(1, b0), (1, (mu m b0 6 (m b0 5)) b0 5)] (mu m b0 6 (m b0 5)) o := h
      have h := CR_getf h rfl (by decide)
      have h : MR X ρ 5 0 0 qP195 N 104 [b0, b1, b2, b3, b4] [(1, (mu m b0 6 (m b0 5)) b0 3), (1, (mu m b0 6 (m b0 5)) b0 5)] (mu m b0 6 (m b0 5)) o := h
      rcases MR_icmp h rfl rfl with ⟨c4, h⟩ | ⟨c4, h⟩
      ·
        have c4 : ((mu m b0 6 (m b0 5)) b0 5) < ((mu m b0 6 (m b0 5)) b0 3) := c4
        refine Or.inl ⟨c4, ?_⟩
        have h : MR X ρ 5 0 0 qP195 N 113 [b0, b1, b2, b3, b4] [] (mu m b0 6 (m b0 5)) o := h
        exact h
      ·
        have c4 : ¬ (((mu m b0 6 (m b0 5)) b0 5) < ((mu m b0 6 (m b0 5)) b0 3)) := c4
        refine Or.inr ⟨c4, ?_⟩
        have h : MR X ρ 5 0 0 qP195 N 107 [b0, b1, b2, b3, b4] [] (mu m b0 6 (m b0 5)) o := h
        have h := CR_aload_n h rfl
        have h : MR X ρ 5 0 0 qP195 N 108 [b0, b1, b2, b3, b4] [(1, b0)] (mu m b0 6 (m b0 5)) o := h
        have h := CR_iconst h rfl rfl
        have h : MR X ρ 5 0 0 qP195 N 109 [b0, b1, b2, b3, b4] [(1, 0), (1, b0)] (mu m b0 6 (m b0 5)) o := h
        have h := CR_putf h rfl
        have h : MR X ρ 5 0 0 qP195 N 112 [b0, b1, b2, b3, b4] [] (mu (mu m b0 6 (m b0 5)) b0 7 0) o := h
        exact CR_end h rfl rfl
    ·
      have c3 : ¬ (((mu m b0 6 (m b0 5)) b0 6) < ((mu m b0 6 (m b0 5)) b0 4)) := c3
      refine Or.inr ⟨c3, ?_⟩
      have h : MR X ρ 5 0 0 qP195 N 82 [b0, b1, b2, b3, b4] [] (mu m b0 6 (m b0 5)) o := h
      have h := CR_aload_n h rfl
      have h : MR X ρ 5 0 0 qP195 N 83 [b0, b1, b2, b3, b4] [(1, b0)] (mu m b0 6 (m b0 5)) o := h
      have h := CR_aload_n h rfl
      have h : MR X ρ 5 0 0 qP195 N 84 [b0, b1, b2, b3, b4] [(1, b0), (1, b0)] (mu m b0 6 (m b0 5)) o := h
      have h := CR_getf h rfl (by decide)
      have h : MR X ρ 5 0 0 qP195 N 87 [b0, b1, b2, b3, b4] [(1, (mu m b0 6 (m b0 5)) b0 4), (1, b0)] (mu m b0 6 (m b0 5)) o := h
      have h := CR_putf h rfl
      have h : MR X ρ 5 0 0 qP195 N 90 [b0, b1, b2, b3, b4] [] (mu (mu m b0 6 (m b0 5)) b0 6 ((mu m b0 6 (m b0 5)) b0 4)) o := h
      have h := CR_aload_n h rfl
      have h : MR X ρ 5 0 0 qP195 N 91 [b0, b1, b2, b3, b4] [(1, b0)] (mu (mu m b0 6 (m b0 5)) b0 6 ((mu m b0 6 (m b0 5)) b0 4)) o := h
      have h := CR_iconst h rfl rfl
      have h : MR X ρ 5 0 0 qP195 N 92 [b0, b1, b2, b3, b4] [(1, 1), (1, b0)] (mu (mu m b0 6 (m b0 5)) b0 6 ((mu m b0 6 (m b0 5)) b0 4)) o := h
      have h := CR_putf h rfl
      have h : MR X ρ 5 0 0 qP195 N 95 [b0, b1, b2, b3, b4] [] (mu (mu (mu m b0 6 (m b0 5)) b0 6 ((mu m b0 6 (m b0 5)) b0 4)) b0 7 1) o := h
      exact CR_end h rfl rfl
set_option maxRecDepth 16384 in
theorem i195_113 {X : KO} {ρ : Nat → Int32} {m : MM} {N : Nat} {o : Instr × List (Nat × Int) × MM} {b0 b1 b2 b3 b4 : Int} (h : MR X ρ 5 0 0 qP195 N 113 [b0, b1, b2, b3, b4] [] m o) : ((((f210 m (m (m b0 1) (m b0 5))) = 0) ∧ ((((f207 m (m (m b0 1) (m b0 5))) = 0) ∧ (MR X ρ 5 0 0 qP195 N 137 [b0, m (m b0 1) (m b0 5), b2, b3, b4] [] m o)) ∨ (¬ ((f207 m (m (m b0 1) (m b0 5))) = 0) ∧ (MR X ρ 5 0 0 qP195 N 198 [b0, m (m b0 1) (m b0 5), b2, b3, b4] [] m o)))) ∨ (¬ ((f210 m (m (m b0 1) (m b0 5))) = 0) ∧ (MR X ρ 5 0 0 qP195 N 198 [b0, m (m b0 1) (m b0 5), b2, b3, b4] [] m o))) := by
  have h := CR_aload_n h rfl
  have h : MR X ρ 5 0 0 qP195 N 114 [b0, b1, b2, b3, b4] [(1, b0)] m o := h
  have h := CR_getf h rfl (by decide)
  have h : MR X ρ 5 0 0 qP195 N 117 [b0, b1, b2, b3, b4] [(1, m b0 1)] m o := h
  have h := CR_aload_n h rfl
  have h : MR X ρ 5 0 0 qP195 N 118 [b0, b1, b2, b3, b4] [(1, b0), (1, m b0 1)] m o := h
  have h := CR_getf h rfl (by decide)
  have h : MR X ρ 5 0 0 qP195 N 121 [b0, b1, b2, b3, b4] [(1, m b0 5), (1, m b0 1)] m o := h
  have h := CR_iaload h rfl rfl
  have h : MR X ρ 5 0 0 qP195 N 122 [b0, b1, b2, b3, b4] [(1, m (m b0 1) (m b0 5))] m o := h
  have h := CR_istore_n h rfl (Nat.le_of_ble_eq_true rfl)
  have h : MR X ρ 5 0 0 qP195 N 123 [b0, m (m b0 1) (m b0 5), b2, b3, b4] [] m o := h
  have h := CR_iload_n h rfl
  have h : MR X ρ 5 0 0 qP195 N 124 [b0, m (m b0 1) (m b0 5), b2, b3, b4] [(1, m (m b0 1) (m b0 5))] m o := h
  obtain ⟨r1, m2, q3, h⟩ := MR_invS h rfl rfl
  have q3 : Run X ρ 210 [(1, m (m b0 1) (m b0 5))] m r1 m2 := q3
  obtain ⟨e4, e5⟩ := d210 q3
  rw [e4, e5] at h
  have h : MR X ρ 5 0 0 qP195 N 127 [b0, m (m b0 1) (m b0 5), b2, b3, b4] [(1, f210 m (m (m b0 1) (m b0 5)))] m o := h
  rcases MR_if h rfl rfl with ⟨c6, h⟩ | ⟨c6, h⟩
  ·
    have c6 : ¬ ((f210 m (m (m b0 1) (m b0 5))) = 0) := c6
    refine Or.inr ⟨c6, ?_⟩
    have h : MR X ρ 5 0 0 qP195 N 198 [b0, m (m b0 1) (m b0 5), b2, b3, b4] [] m o := h
    exact h
  ·
    have c6 : (f210 m (m (m b0 1) (m b0 5))) = 0 := Decidable.of_not_not (show ¬ ¬ ((f210 m (m (m b0 1) (m b0 5))) = 0) from c6)
    refine Or.inl ⟨c6, ?_⟩
    have h : MR X ρ 5 0 0 qP195 N 130 [b0, m (m b0 1) (m b0 5), b2, b3, b4] [] m o := h
    have h := CR_iload_n h rfl
    have h : MR X ρ 5 0 0 qP195 N 131 [b0, m (m b0 1) (m b0 5), b2, b3, b4] [(1, m (m b0 1) (m b0 5))] m o := h
    obtain ⟨r7, m8, q9, h⟩ := MR_invS h rfl rfl
    have q9 : Run X ρ 207 [(1, m (m b0 1) (m b0 5))] m r7 m8 := q9
    obtain ⟨e10, e11⟩ := d207 q9
    rw [e10, e11] at h
    have h : MR X ρ 5 0 0 qP195 N 134 [b0, m (m b0 1) (m b0 5), b2, b3, b4] [(1, f207 m (m (m b0 1) (m b0 5)))] m o := h
    rcases MR_if h rfl rfl with ⟨c12, h⟩ | ⟨c12, h⟩
    ·
      have c12 : ¬ ((f207 m (m (m b0 1) (m b0 5))) = 0) := c12
      refine Or.inr ⟨c12, ?_⟩
      have h : MR X ρ 5 0 0 qP195 N 198 [b0, m (m b0 1) (m b0 5), b2, b3, b4] [] m o := h
      exact h
    ·
      have c12 : (f207 m (m (m b0 1) (m b0 5))) = 0 := Decidable.of_not_not (show ¬ ¬ ((f207 m (m (m b0 1) (m b0 5))) = 0) from c12)
      refine Or.inl ⟨c12, ?_⟩
      have h : MR X ρ 5 0 0 qP195 N 137 [b0, m (m b0 1) (m b0 5), b2, b3, b4] [] m o := h
      exact h
set_option maxRecDepth 16384 in
theorem i195_137 {X : KO} {ρ : Nat → Int32} {m : MM} {N : Nat} {o : Instr × List (Nat × Int) × MM} {b0 b1 b2 b3 b4 : Int} (h : MR X ρ 5 0 0 qP195 N 137 [b0, b1, b2, b3, b4] [] m o) : (((b1 = 59) ∧ (o = (.return_, [], mu (mu (mu m b0 7 4) b0 9 b1) b0 5 (s32 (((mu (mu m b0 7 4) b0 9 b1) b0 5) + 1))))) ∨ (¬ (b1 = 59) ∧ (((b1 = 60) ∧ (o = (.return_, [], mu (mu (mu m b0 7 4) b0 9 b1) b0 5 (s32 (((mu (mu m b0 7 4) b0 9 b1) b0 5) + 1))))) ∨ (¬ (b1 = 60) ∧ (((b1 = 61) ∧ (o = (.return_, [], mu (mu (mu m b0 7 4) b0 9 b1) b0 5 (s32 (((mu (mu m b0 7 4) b0 9 b1) b0 5) + 1))))) ∨ (¬ (b1 = 61) ∧ (((b1 = 62) ∧ (o = (.return_, [], mu (mu (mu m b0 7 4) b0 9 b1) b0 5 (s32 (((mu (mu m b0 7 4) b0 9 b1) b0 5) + 1))))) ∨ (¬ (b1 = 62) ∧ (((b1 = 40) ∧ (o = (.return_, [], mu (mu (mu m b0 7 4) b0 9 b1) b0 5 (s32 (((mu (mu m b0 7 4) b0 9 b1) b0 5) + 1))))) ∨ (¬ (b1 = 40) ∧ (((b1 = 41) ∧ (o = (.return_, [], mu (mu (mu m b0 7 4) b0 9 b1) b0 5 (s32 (((mu (mu m b0 7 4) b0 9 b1) b0 5) + 1))))) ∨ (¬ (b1 = 41) ∧ (o = (.return_, [], mu (mu (mu m b0 7 1) b0 9 b1) b0 5 (s32 (((mu (mu m b0 7 1) b0 9 b1) b0 5) + 1)))))))))))))))) := by
  have h := CR_aload_n h rfl
  have h : MR X ρ 5 0 0 qP195 N 138 [b0, b1, b2, b3, b4] [(1, b0)] m o := h
  have h := CR_iload_n h rfl
  have h : MR X ρ 5 0 0 qP195 N 139 [b0, b1, b2, b3, b4] [(1, b1), (1, b0)] m o := h
  have h := CR_bipush h rfl rfl
  have h : MR X ρ 5 0 0 qP195 N 141 [b0, b1, b2, b3, b4] [(1, 59), (1, b1), (1, b0)] m o := h
  rcases MR_icmp h rfl rfl with ⟨c1, h⟩ | ⟨c1, h⟩
  ·
    have c1 : b1 = 59 := c1
    refine Or.inl ⟨c1, ?_⟩
    have h : MR X ρ 5 0 0 qP195 N 174 [b0, b1, b2, b3, b4] [(1, b0)] m o := h
    have h := CR_iconst h rfl rfl
    have h : MR X ρ 5 0 0 qP195 N 175 [b0, b1, b2, b3, b4] [(1, 4), (1, b0)] m o := h
    have h := CR_go h rfl rfl
    have h : MR X ρ 5 0 0 qP195 N 179 [b0, b1, b2, b3, b4] [(1, 4), (1, b0)] m o := h
    have h := CR_putf h rfl
    have h : MR X ρ 5 0 0 qP195 N 182 [b0, b1, b2, b3, b4] [] (mu m b0 7 4) o := h
    have h := CR_aload_n h rfl
    have h : MR X ρ 5 0 0 qP195 N 183 [b0, b1, b2, b3, b4] [(1, b0)] (mu m b0 7 4) o := h
    have h := CR_iload_n h rfl
    have h : MR X ρ 5 0 0 qP195 N 184 [b0, b1, b2, b3, b4] [(1, b1), (1, b0)] (mu m b0 7 4) o := h
    have h := CR_putf h rfl
    have h : MR X ρ 5 0 0 qP195 N 187 [b0, b1, b2, b3, b4] [] (mu (mu m b0 7 4) b0 9 b1) o := h
    have h := CR_aload_n h rfl
    have h : MR X ρ 5 0 0 qP195 N 188 [b0, b1, b2, b3, b4] [(1, b0)] (mu (mu m b0 7 4) b0 9 b1) o := h
    have h := CR_dup h rfl
    have h : MR X ρ 5 0 0 qP195 N 189 [b0, b1, b2, b3, b4] [(1, b0), (1, b0)] (mu (mu m b0 7 4) b0 9 b1) o := h
    have h := CR_getf h rfl (by decide)
    have h : MR X ρ 5 0 0 qP195 N 192 [b0, b1, b2, b3, b4] [(1, (mu (mu m b0 7 4) b0 9 b1) b0 5), (1, b0)] (mu (mu m b0 7 4) b0 9 b1) o := h
    have h := CR_iconst h rfl rfl
    have h : MR X ρ 5 0 0 qP195 N 193 [b0, b1, b2, b3, b4] [(1, 1), (1, (mu (mu m b0 7 4) b0 9 b1) b0 5), (1, b0)] (mu (mu m b0 7 4) b0 9 b1) o := h
    have h := CR_iadd h rfl
    have h : MR X ρ 5 0 0 qP195 N 194 [b0, b1, b2, b3, b4] [(1, s32 (((mu (mu m b0 7 4) b0 9 b1) b0 5) + 1)), (1, b0)] (mu (mu m b0 7 4) b0 9 b1) o := h
    have h := CR_putf h rfl
    have h : MR X ρ 5 0 0 qP195 N 197 [b0, b1, b2, b3, b4] [] (mu (mu (mu m b0 7 4) b0 9 b1) b0 5 (s32 (((mu (mu m b0 7 4) b0 9 b1) b0 5) + 1))) o := h
    exact CR_end h rfl rfl
  ·
    have c1 : ¬ (b1 = 59) := c1
    refine Or.inr ⟨c1, ?_⟩
    have h : MR X ρ 5 0 0 qP195 N 144 [b0, b1, b2, b3, b4] [(1, b0)] m o := h
    have h := CR_iload_n h rfl
    have h : MR X ρ 5 0 0 qP195 N 145 [b0, b1, b2, b3, b4] [(1, b1), (1, b0)] m o := h
    have h := CR_bipush h rfl rfl
    have h : MR X ρ 5 0 0 qP195 N 147 [b0, b1, b2, b3, b4] [(1, 60), (1, b1), (1, b0)] m o := h
    rcases MR_icmp h rfl rfl with ⟨c2, h⟩ | ⟨c2, h⟩
    ·
      have c2 : b1 = 60 := c2
      refine Or.inl ⟨c2, ?_⟩
      have h : MR X ρ 5 0 0 qP195 N 174 [b0, b1, b2, b3, b4] [(1, b0)] m o := h
      have h := CR_iconst h rfl rfl
      have h : MR X ρ 5 0 0 qP195 N 175 [b0, b1, b2, b3, b4] [(1, 4), (1, b0)] m o := h
      have h := CR_go h rfl rfl
      have h : MR X ρ 5 0 0 qP195 N 179 [b0, b1, b2, b3, b4] [(1, 4), (1, b0)] m o := h
      have h := CR_putf h rfl
      have h : MR X ρ 5 0 0 qP195 N 182 [b0, b1, b2, b3, b4] [] (mu m b0 7 4) o := h
      have h := CR_aload_n h rfl
      have h : MR X ρ 5 0 0 qP195 N 183 [b0, b1, b2, b3, b4] [(1, b0)] (mu m b0 7 4) o := h
      have h := CR_iload_n h rfl
      have h : MR X ρ 5 0 0 qP195 N 184 [b0, b1, b2, b3, b4] [(1, b1), (1, b0)] (mu m b0 7 4) o := h
      have h := CR_putf h rfl
      have h : MR X ρ 5 0 0 qP195 N 187 [b0, b1, b2, b3, b4] [] (mu (mu m b0 7 4) b0 9 b1) o := h
      have h := CR_aload_n h rfl
      have h : MR X ρ 5 0 0 qP195 N 188 [b0, b1, b2, b3, b4] [(1, b0)] (mu (mu m b0 7 4) b0 9 b1) o := h
      have h := CR_dup h rfl
      have h : MR X ρ 5 0 0 qP195 N 189 [b0, b1, b2, b3, b4] [(1, b0), (1, b0)] (mu (mu m b0 7 4) b0 9 b1) o := h
      have h := CR_getf h rfl (by decide)
      have h : MR X ρ 5 0 0 qP195 N 192 [b0, b1, b2, b3, b4] [(1, (mu (mu m b0 7 4) b0 9 b1) b0 5), (1, b0)] (mu (mu m b0 7 4) b0 9 b1) o := h
      have h := CR_iconst h rfl rfl
      have h : MR X ρ 5 0 0 qP195 N 193 [b0, b1, b2, b3, b4] [(1, 1), (1, (mu (mu m b0 7 4) b0 9 b1) b0 5), (1, b0)] (mu (mu m b0 7 4) b0 9 b1) o := h
      have h := CR_iadd h rfl
      have h : MR X ρ 5 0 0 qP195 N 194 [b0, b1, b2, b3, b4] [(1, s32 (((mu (mu m b0 7 4) b0 9 b1) b0 5) + 1)), (1, b0)] (mu (mu m b0 7 4) b0 9 b1) o := h
      have h := CR_putf h rfl
      have h : MR X ρ 5 0 0 qP195 N 197 [b0, b1, b2, b3, b4] [] (mu (mu (mu m b0 7 4) b0 9 b1) b0 5 (s32 (((mu (mu m b0 7 4) b0 9 b1) b0 5) + 1))) o := h
      exact CR_end h rfl rfl
    ·
      have c2 : ¬ (b1 = 60) := c2
      refine Or.inr ⟨c2, ?_⟩
      have h : MR X ρ 5 0 0 qP195 N 150 [b0, b1, b2, b3, b4] [(1, b0)] m o := h
      have h := CR_iload_n h rfl
      have h : MR X ρ 5 0 0 qP195 N 151 [b0, b1, b2, b3, b4] [(1, b1), (1, b0)] m o := h
      have h := CR_bipush h rfl rfl
      have h : MR X ρ 5 0 0 qP195 N 153 [b0, b1, b2, b3, b4] [(1, 61), (1, b1), (1, b0)] m o := h
      rcases MR_icmp h rfl rfl with ⟨c3, h⟩ | ⟨c3, h⟩
      ·
        have c3 : b1 = 61 := c3
        refine Or.inl ⟨c3, ?_⟩
        have h : MR X ρ 5 0 0 qP195 N 174 [b0, b1, b2, b3, b4] [(1, b0)] m o := h
        have h := CR_iconst h rfl rfl
        have h : MR X ρ 5 0 0 qP195 N 175 [b0, b1, b2, b3, b4] [(1, 4), (1, b0)] m o := h
        have h := CR_go h rfl rfl
        have h : MR X ρ 5 0 0 qP195 N 179 [b0, b1, b2, b3, b4] [(1, 4), (1, b0)] m o := h
        have h := CR_putf h rfl
        have h : MR X ρ 5 0 0 qP195 N 182 [b0, b1, b2, b3, b4] [] (mu m b0 7 4) o := h
        have h := CR_aload_n h rfl
        have h : MR X ρ 5 0 0 qP195 N 183 [b0, b1, b2, b3, b4] [(1, b0)] (mu m b0 7 4) o := h
        have h := CR_iload_n h rfl
        have h : MR X ρ 5 0 0 qP195 N 184 [b0, b1, b2, b3, b4] [(1, b1), (1, b0)] (mu m b0 7 4) o := h
        have h := CR_putf h rfl
        have h : MR X ρ 5 0 0 qP195 N 187 [b0, b1, b2, b3, b4] [] (mu (mu m b0 7 4) b0 9 b1) o := h
        have h := CR_aload_n h rfl
        have h : MR X ρ 5 0 0 qP195 N 188 [b0, b1, b2, b3, b4] [(1, b0)] (mu (mu m b0 7 4) b0 9 b1) o := h
        have h := CR_dup h rfl
        have h : MR X ρ 5 0 0 qP195 N 189 [b0, b1, b2, b3, b4] [(1, b0), (1, b0)] (mu (mu m b0 7 4) b0 9 b1) o := h
        have h := CR_getf h rfl (by decide)
        have h : MR X ρ 5 0 0 qP195 N 192 [b0, b1, b2, b3, b4] [(1, (mu (mu m b0 7 4) b0 9 b1) b0 5), (1, b0)] (mu (mu m b0 7 4) b0 9 b1) o := h
        have h := CR_iconst h rfl rfl
        have h : MR X ρ 5 0 0 qP195 N 193 [b0, b1, b2, b3, b4] [(1, 1), (1, (mu (mu m b0 7 4) b0 9 b1) b0 5), (1, b0)] (mu (mu m b0 7 4) b0 9 b1) o := h
        have h := CR_iadd h rfl
        have h : MR X ρ 5 0 0 qP195 N 194 [b0, b1, b2, b3, b4] [(1, s32 (((mu (mu m b0 7 4) b0 9 b1) b0 5) + 1)), (1, b0)] (mu (mu m b0 7 4) b0 9 b1) o := h
        have h := CR_putf h rfl
        have h : MR X ρ 5 0 0 qP195 N 197 [b0, b1, b2, b3, b4] [] (mu (mu (mu m b0 7 4) b0 9 b1) b0 5 (s32 (((mu (mu m b0 7 4) b0 9 b1) b0 5) + 1))) o := h
        exact CR_end h rfl rfl
      ·
        have c3 : ¬ (b1 = 61) := c3
        refine Or.inr ⟨c3, ?_⟩
        have h : MR X ρ 5 0 0 qP195 N 156 [b0, b1, b2, b3, b4] [(1, b0)] m o := h
        have h := CR_iload_n h rfl
        have h : MR X ρ 5 0 0 qP195 N 157 [b0, b1, b2, b3, b4] [(1, b1), (1, b0)] m o := h
        have h := CR_bipush h rfl rfl
        have h : MR X ρ 5 0 0 qP195 N 159 [b0, b1, b2, b3, b4] [(1, 62), (1, b1), (1, b0)] m o := h
        rcases MR_icmp h rfl rfl with ⟨c4, h⟩ | ⟨c4, h⟩
        ·
          have c4 : b1 = 62 := c4
          refine Or.inl ⟨c4, ?_⟩
          have h : MR X ρ 5 0 0 qP195 N 174 [b0, b1, b2, b3, b4] [(1, b0)] m o := h
          have h := CR_iconst h rfl rfl
          have h : MR X ρ 5 0 0 qP195 N 175 [b0, b1, b2, b3, b4] [(1, 4), (1, b0)] m o := h
          have h := CR_go h rfl rfl
          have h : MR X ρ 5 0 0 qP195 N 179 [b0, b1, b2, b3, b4] [(1, 4), (1, b0)] m o := h
          have h := CR_putf h rfl
          have h : MR X ρ 5 0 0 qP195 N 182 [b0, b1, b2, b3, b4] [] (mu m b0 7 4) o := h
          have h := CR_aload_n h rfl
          have h : MR X ρ 5 0 0 qP195 N 183 [b0, b1, b2, b3, b4] [(1, b0)] (mu m b0 7 4) o := h
          have h := CR_iload_n h rfl
          have h : MR X ρ 5 0 0 qP195 N 184 [b0, b1, b2, b3, b4] [(1, b1), (1, b0)] (mu m b0 7 4) o := h
          have h := CR_putf h rfl
          have h : MR X ρ 5 0 0 qP195 N 187 [b0, b1, b2, b3, b4] [] (mu (mu m b0 7 4) b0 9 b1) o := h
          have h := CR_aload_n h rfl
          have h : MR X ρ 5 0 0 qP195 N 188 [b0, b1, b2, b3, b4] [(1, b0)] (mu (mu m b0 7 4) b0 9 b1) o := h
          have h := CR_dup h rfl
          have h : MR X ρ 5 0 0 qP195 N 189 [b0, b1, b2, b3, b4] [(1, b0), (1, b0)] (mu (mu m b0 7 4) b0 9 b1) o := h
          have h := CR_getf h rfl (by decide)
          have h : MR X ρ 5 0 0 qP195 N 192 [b0, b1, b2, b3, b4] [(1, (mu (mu m b0 7 4) b0 9 b1) b0 5), (1, b0)] (mu (mu m b0 7 4) b0 9 b1) o := h
          have h := CR_iconst h rfl rfl
          have h : MR X ρ 5 0 0 qP195 N 193 [b0, b1, b2, b3, b4] [(1, 1), (1, (mu (mu m b0 7 4) b0 9 b1) b0 5), (1, b0)] (mu (mu m b0 7 4) b0 9 b1) o := h
          have h := CR_iadd h rfl
          have h : MR X ρ 5 0 0 qP195 N 194 [b0, b1, b2, b3, b4] [(1, s32 (((mu (mu m b0 7 4) b0 9 b1) b0 5) + 1)), (1, b0)] (mu (mu m b0 7 4) b0 9 b1) o := h
          have h := CR_putf h rfl
          have h : MR X ρ 5 0 0 qP195 N 197 [b0, b1, b2, b3, b4] [] (mu (mu (mu m b0 7 4) b0 9 b1) b0 5 (s32 (((mu (mu m b0 7 4) b0 9 b1) b0 5) + 1))) o := h
          exact CR_end h rfl rfl
        ·
          have c4 : ¬ (b1 = 62) := c4
          refine Or.inr ⟨c4, ?_⟩
          have h : MR X ρ 5 0 0 qP195 N 162 [b0, b1, b2, b3, b4] [(1, b0)] m o := h
          have h := CR_iload_n h rfl
          have h : MR X ρ 5 0 0 qP195 N 163 [b0, b1, b2, b3, b4] [(1, b1), (1, b0)] m o := h
          have h := CR_bipush h rfl rfl
          have h : MR X ρ 5 0 0 qP195 N 165 [b0, b1, b2, b3, b4] [(1, 40), (1, b1), (1, b0)] m o := h
          rcases MR_icmp h rfl rfl with ⟨c5, h⟩ | ⟨c5, h⟩
          ·
            have c5 : b1 = 40 := c5
            refine Or.inl ⟨c5, ?_⟩
            have h : MR X ρ 5 0 0 qP195 N 174 [b0, b1, b2, b3, b4] [(1, b0)] m o := h
            have h := CR_iconst h rfl rfl
            have h : MR X ρ 5 0 0 qP195 N 175 [b0, b1, b2, b3, b4] [(1, 4), (1, b0)] m o := h
            have h := CR_go h rfl rfl
            have h : MR X ρ 5 0 0 qP195 N 179 [b0, b1, b2, b3, b4] [(1, 4), (1, b0)] m o := h
            have h := CR_putf h rfl
            have h : MR X ρ 5 0 0 qP195 N 182 [b0, b1, b2, b3, b4] [] (mu m b0 7 4) o := h
            have h := CR_aload_n h rfl
            have h : MR X ρ 5 0 0 qP195 N 183 [b0, b1, b2, b3, b4] [(1, b0)] (mu m b0 7 4) o := h
            have h := CR_iload_n h rfl
            have h : MR X ρ 5 0 0 qP195 N 184 [b0, b1, b2, b3, b4] [(1, b1), (1, b0)] (mu m b0 7 4) o := h
            have h := CR_putf h rfl
            have h : MR X ρ 5 0 0 qP195 N 187 [b0, b1, b2, b3, b4] [] (mu (mu m b0 7 4) b0 9 b1) o := h
            have h := CR_aload_n h rfl
            have h : MR X ρ 5 0 0 qP195 N 188 [b0, b1, b2, b3, b4] [(1, b0)] (mu (mu m b0 7 4) b0 9 b1) o := h
            have h := CR_dup h rfl
            have h : MR X ρ 5 0 0 qP195 N 189 [b0, b1, b2, b3, b4] [(1, b0), (1, b0)] (mu (mu m b0 7 4) b0 9 b1) o := h
            have h := CR_getf h rfl (by decide)
            have h : MR X ρ 5 0 0 qP195 N 192 [b0, b1, b2, b3, b4] [(1, (mu (mu m b0 7 4) b0 9 b1) b0 5), (1, b0)] (mu (mu m b0 7 4) b0 9 b1) o := h
            have h := CR_iconst h rfl rfl
            have h : MR X ρ 5 0 0 qP195 N 193 [b0, b1, b2, b3, b4] [(1, 1), (1, (mu (mu m b0 7 4) b0 9 b1) b0 5), (1, b0)] (mu (mu m b0 7 4) b0 9 b1) o := h
            have h := CR_iadd h rfl
            have h : MR X ρ 5 0 0 qP195 N 194 [b0, b1, b2, b3, b4] [(1, s32 (((mu (mu m b0 7 4) b0 9 b1) b0 5) + 1)), (1, b0)] (mu (mu m b0 7 4) b0 9 b1) o := h
            have h := CR_putf h rfl
            have h : MR X ρ 5 0 0 qP195 N 197 [b0, b1, b2, b3, b4] [] (mu (mu (mu m b0 7 4) b0 9 b1) b0 5 (s32 (((mu (mu m b0 7 4) b0 9 b1) b0 5) + 1))) o := h
            exact CR_end h rfl rfl
          ·
            have c5 : ¬ (b1 = 40) := c5
            refine Or.inr ⟨c5, ?_⟩
            have h : MR X ρ 5 0 0 qP195 N 168 [b0, b1, b2, b3, b4] [(1, b0)] m o := h
            have h := CR_iload_n h rfl
            have h : MR X ρ 5 0 0 qP195 N 169 [b0, b1, b2, b3, b4] [(1, b1), (1, b0)] m o := h
            have h := CR_bipush h rfl rfl
            have h : MR X ρ 5 0 0 qP195 N 171 [b0, b1, b2, b3, b4] [(1, 41), (1, b1), (1, b0)] m o := h
            rcases MR_icmp h rfl rfl with ⟨c6, h⟩ | ⟨c6, h⟩
            ·
              have c6 : ¬ (b1 = 41) := c6
              refine Or.inr ⟨c6, ?_⟩
              have h : MR X ρ 5 0 0 qP195 N 178 [b0, b1, b2, b3, b4] [(1, b0)] m o := h
              have h := CR_iconst h rfl rfl
              have h : MR X ρ 5 0 0 qP195 N 179 [b0, b1, b2, b3, b4] [(1, 1), (1, b0)] m o := h
              have h := CR_putf h rfl
              have h : MR X ρ 5 0 0 qP195 N 182 [b0, b1, b2, b3, b4] [] (mu m b0 7 1) o := h
              have h := CR_aload_n h rfl
              have h : MR X ρ 5 0 0 qP195 N 183 [b0, b1, b2, b3, b4] [(1, b0)] (mu m b0 7 1) o := h
              have h := CR_iload_n h rfl
              have h : MR X ρ 5 0 0 qP195 N 184 [b0, b1, b2, b3, b4] [(1, b1), (1, b0)] (mu m b0 7 1) o := h
              have h := CR_putf h rfl
              have h : MR X ρ 5 0 0 qP195 N 187 [b0, b1, b2, b3, b4] [] (mu (mu m b0 7 1) b0 9 b1) o := h
              have h := CR_aload_n h rfl
              have h : MR X ρ 5 0 0 qP195 N 188 [b0, b1, b2, b3, b4] [(1, b0)] (mu (mu m b0 7 1) b0 9 b1) o := h
              have h := CR_dup h rfl
              have h : MR X ρ 5 0 0 qP195 N 189 [b0, b1, b2, b3, b4] [(1, b0), (1, b0)] (mu (mu m b0 7 1) b0 9 b1) o := h
              have h := CR_getf h rfl (by decide)
              have h : MR X ρ 5 0 0 qP195 N 192 [b0, b1, b2, b3, b4] [(1, (mu (mu m b0 7 1) b0 9 b1) b0 5), (1, b0)] (mu (mu m b0 7 1) b0 9 b1) o := h
              have h := CR_iconst h rfl rfl
              have h : MR X ρ 5 0 0 qP195 N 193 [b0, b1, b2, b3, b4] [(1, 1), (1, (mu (mu m b0 7 1) b0 9 b1) b0 5), (1, b0)] (mu (mu m b0 7 1) b0 9 b1) o := h
              have h := CR_iadd h rfl
              have h : MR X ρ 5 0 0 qP195 N 194 [b0, b1, b2, b3, b4] [(1, s32 (((mu (mu m b0 7 1) b0 9 b1) b0 5) + 1)), (1, b0)] (mu (mu m b0 7 1) b0 9 b1) o := h
              have h := CR_putf h rfl
              have h : MR X ρ 5 0 0 qP195 N 197 [b0, b1, b2, b3, b4] [] (mu (mu (mu m b0 7 1) b0 9 b1) b0 5 (s32 (((mu (mu m b0 7 1) b0 9 b1) b0 5) + 1))) o := h
              exact CR_end h rfl rfl
            ·
              have c6 : b1 = 41 := Decidable.of_not_not (show ¬ ¬ (b1 = 41) from c6)
              refine Or.inl ⟨c6, ?_⟩
              have h : MR X ρ 5 0 0 qP195 N 174 [b0, b1, b2, b3, b4] [(1, b0)] m o := h
              have h := CR_iconst h rfl rfl
              have h : MR X ρ 5 0 0 qP195 N 175 [b0, b1, b2, b3, b4] [(1, 4), (1, b0)] m o := h
              have h := CR_go h rfl rfl
              have h : MR X ρ 5 0 0 qP195 N 179 [b0, b1, b2, b3, b4] [(1, 4), (1, b0)] m o := h
              have h := CR_putf h rfl
              have h : MR X ρ 5 0 0 qP195 N 182 [b0, b1, b2, b3, b4] [] (mu m b0 7 4) o := h
              have h := CR_aload_n h rfl
              have h : MR X ρ 5 0 0 qP195 N 183 [b0, b1, b2, b3, b4] [(1, b0)] (mu m b0 7 4) o := h
              have h := CR_iload_n h rfl
              have h : MR X ρ 5 0 0 qP195 N 184 [b0, b1, b2, b3, b4] [(1, b1), (1, b0)] (mu m b0 7 4) o := h
              have h := CR_putf h rfl
              have h : MR X ρ 5 0 0 qP195 N 187 [b0, b1, b2, b3, b4] [] (mu (mu m b0 7 4) b0 9 b1) o := h
              have h := CR_aload_n h rfl
              have h : MR X ρ 5 0 0 qP195 N 188 [b0, b1, b2, b3, b4] [(1, b0)] (mu (mu m b0 7 4) b0 9 b1) o := h
              have h := CR_dup h rfl
              have h : MR X ρ 5 0 0 qP195 N 189 [b0, b1, b2, b3, b4] [(1, b0), (1, b0)] (mu (mu m b0 7 4) b0 9 b1) o := h
              have h := CR_getf h rfl (by decide)
              have h : MR X ρ 5 0 0 qP195 N 192 [b0, b1, b2, b3, b4] [(1, (mu (mu m b0 7 4) b0 9 b1) b0 5), (1, b0)] (mu (mu m b0 7 4) b0 9 b1) o := h
              have h := CR_iconst h rfl rfl
              have h : MR X ρ 5 0 0 qP195 N 193 [b0, b1, b2, b3, b4] [(1, 1), (1, (mu (mu m b0 7 4) b0 9 b1) b0 5), (1, b0)] (mu (mu m b0 7 4) b0 9 b1) o := h
              have h := CR_iadd h rfl
              have h : MR X ρ 5 0 0 qP195 N 194 [b0, b1, b2, b3, b4] [(1, s32 (((mu (mu m b0 7 4) b0 9 b1) b0 5) + 1)), (1, b0)] (mu (mu m b0 7 4) b0 9 b1) o := h
              have h := CR_putf h rfl
              have h : MR X ρ 5 0 0 qP195 N 197 [b0, b1, b2, b3, b4] [] (mu (mu (mu m b0 7 4) b0 9 b1) b0 5 (s32 (((mu (mu m b0 7 4) b0 9 b1) b0 5) + 1))) o := h
              exact CR_end h rfl rfl
set_option maxRecDepth 16384 in
theorem i195_198 {X : KO} {ρ : Nat → Int32} {m : MM} {N : Nat} {o : Instr × List (Nat × Int) × MM} {b0 b1 b2 b3 b4 : Int} (h : MR X ρ 5 0 0 qP195 N 198 [b0, b1, b2, b3, b4] [] m o) : (MR X ρ 5 0 0 qP195 N 215 [b0, b1, f210 m b1, 1, b4] [] (mu (mu m b0 12 0) b0 8 0) o) := by
  have h := CR_iload_n h rfl
  have h : MR X ρ 5 0 0 qP195 N 199 [b0, b1, b2, b3, b4] [(1, b1)] m o := h
  obtain ⟨r1, m2, q3, h⟩ := MR_invS h rfl rfl
  have q3 : Run X ρ 210 [(1, b1)] m r1 m2 := q3
  obtain ⟨e4, e5⟩ := d210 q3
  rw [e4, e5] at h
  have h : MR X ρ 5 0 0 qP195 N 202 [b0, b1, b2, b3, b4] [(1, f210 m b1)] m o := h
  have h := CR_istore_n h rfl (Nat.le_of_ble_eq_true rfl)
  have h : MR X ρ 5 0 0 qP195 N 203 [b0, b1, f210 m b1, b3, b4] [] m o := h
  have h := CR_iconst h rfl rfl
  have h : MR X ρ 5 0 0 qP195 N 204 [b0, b1, f210 m b1, b3, b4] [(1, 1)] m o := h
  have h := CR_istore_n h rfl (Nat.le_of_ble_eq_true rfl)
  have h : MR X ρ 5 0 0 qP195 N 205 [b0, b1, f210 m b1, 1, b4] [] m o := h
  have h := CR_aload_n h rfl
  have h : MR X ρ 5 0 0 qP195 N 206 [b0, b1, f210 m b1, 1, b4] [(1, b0)] m o := h
  have h := CR_lconst h rfl
  have h : MR X ρ 5 0 0 qP195 N 207 [b0, b1, f210 m b1, 1, b4] [(2, 0), (1, b0)] m o := h
  have h := CR_putf h rfl
  have h : MR X ρ 5 0 0 qP195 N 210 [b0, b1, f210 m b1, 1, b4] [] (mu m b0 12 0) o := h
  have h := CR_aload_n h rfl
  have h : MR X ρ 5 0 0 qP195 N 211 [b0, b1, f210 m b1, 1, b4] [(1, b0)] (mu m b0 12 0) o := h
  have h := CR_iconst h rfl rfl
  have h : MR X ρ 5 0 0 qP195 N 212 [b0, b1, f210 m b1, 1, b4] [(1, 0), (1, b0)] (mu m b0 12 0) o := h
  have h := CR_putf h rfl
  have h : MR X ρ 5 0 0 qP195 N 215 [b0, b1, f210 m b1, 1, b4] [] (mu (mu m b0 12 0) b0 8 0) o := h
  exact h
set_option maxRecDepth 16384 in
theorem i195_215 {X : KO} {ρ : Nat → Int32} {m : MM} {N : Nat} {o : Instr × List (Nat × Int) × MM} {b0 b1 b2 b3 b4 : Int} (h : MR X ρ 5 0 0 qP195 N 215 [b0, b1, b2, b3, b4] [] m o) : ((((f210 m (f285 m b0 (m b0 5))) = 0) ∧ ((((f207 m (f285 m b0 (m b0 5))) = 0) ∧ (MR X ρ 5 0 0 qP195 N 350 [b0, b1, b2, b3, b4] [] m o)) ∨ (¬ ((f207 m (f285 m b0 (m b0 5))) = 0) ∧ (MR X ρ 5 0 0 qP195 N 243 [b0, b1, b2, b3, b4] [] m o)))) ∨ (¬ ((f210 m (f285 m b0 (m b0 5))) = 0) ∧ (MR X ρ 5 0 0 qP195 N 243 [b0, b1, b2, b3, b4] [] m o))) := by
  have h := CR_aload_n h rfl
  have h : MR X ρ 5 0 0 qP195 N 216 [b0, b1, b2, b3, b4] [(1, b0)] m o := h
  have h := CR_aload_n h rfl
  have h : MR X ρ 5 0 0 qP195 N 217 [b0, b1, b2, b3, b4] [(1, b0), (1, b0)] m o := h
  have h := CR_getf h rfl (by decide)
  have h : MR X ρ 5 0 0 qP195 N 220 [b0, b1, b2, b3, b4] [(1, m b0 5), (1, b0)] m o := h
  obtain ⟨r1, m2, q3, h⟩ := MR_invV h rfl rfl
  have q3 : Run X ρ 285 [(1, b0), (1, m b0 5)] m r1 m2 := q3
  obtain ⟨e4, e5⟩ := d285 q3
  rw [e4, e5] at h
  have h : MR X ρ 5 0 0 qP195 N 223 [b0, b1, b2, b3, b4] [(1, f285 m b0 (m b0 5))] m o := h
  obtain ⟨r6, m7, q8, h⟩ := MR_invS h rfl rfl
  have q8 : Run X ρ 210 [(1, f285 m b0 (m b0 5))] m r6 m7 := q8
  obtain ⟨e9, e10⟩ := d210 q8
  rw [e9, e10] at h
  have h : MR X ρ 5 0 0 qP195 N 226 [b0, b1, b2, b3, b4] [(1, f210 m (f285 m b0 (m b0 5)))] m o := h
  rcases MR_if h rfl rfl with ⟨c11, h⟩ | ⟨c11, h⟩
  ·
    have c11 : ¬ ((f210 m (f285 m b0 (m b0 5))) = 0) := c11
    refine Or.inr ⟨c11, ?_⟩
    have h : MR X ρ 5 0 0 qP195 N 243 [b0, b1, b2, b3, b4] [] m o := h
    exact h
  ·
    have c11 : (f210 m (f285 m b0 (m b0 5))) = 0 := Decidable.of_not_not (show ¬ ¬ ((f210 m (f285 m b0 (m b0 5))) = 0) from c11)
    refine Or.inl ⟨c11, ?_⟩
    have h : MR X ρ 5 0 0 qP195 N 229 [b0, b1, b2, b3, b4] [] m o := h
    have h := CR_aload_n h rfl
    have h : MR X ρ 5 0 0 qP195 N 230 [b0, b1, b2, b3, b4] [(1, b0)] m o := h
    have h := CR_aload_n h rfl
    have h : MR X ρ 5 0 0 qP195 N 231 [b0, b1, b2, b3, b4] [(1, b0), (1, b0)] m o := h
    have h := CR_getf h rfl (by decide)
    have h : MR X ρ 5 0 0 qP195 N 234 [b0, b1, b2, b3, b4] [(1, m b0 5), (1, b0)] m o := h
    obtain ⟨r12, m13, q14, h⟩ := MR_invV h rfl rfl
    have q14 : Run X ρ 285 [(1, b0), (1, m b0 5)] m r12 m13 := q14
    obtain ⟨e15, e16⟩ := d285 q14
    rw [e15, e16] at h
    have h : MR X ρ 5 0 0 qP195 N 237 [b0, b1, b2, b3, b4] [(1, f285 m b0 (m b0 5))] m o := h
    obtain ⟨r17, m18, q19, h⟩ := MR_invS h rfl rfl
    have q19 : Run X ρ 207 [(1, f285 m b0 (m b0 5))] m r17 m18 := q19
    obtain ⟨e20, e21⟩ := d207 q19
    rw [e20, e21] at h
    have h : MR X ρ 5 0 0 qP195 N 240 [b0, b1, b2, b3, b4] [(1, f207 m (f285 m b0 (m b0 5)))] m o := h
    rcases MR_if h rfl rfl with ⟨c22, h⟩ | ⟨c22, h⟩
    ·
      have c22 : (f207 m (f285 m b0 (m b0 5))) = 0 := c22
      refine Or.inl ⟨c22, ?_⟩
      have h : MR X ρ 5 0 0 qP195 N 350 [b0, b1, b2, b3, b4] [] m o := h
      exact h
    ·
      have c22 : ¬ ((f207 m (f285 m b0 (m b0 5))) = 0) := c22
      refine Or.inr ⟨c22, ?_⟩
      have h : MR X ρ 5 0 0 qP195 N 243 [b0, b1, b2, b3, b4] [] m o := h
      exact h
set_option maxRecDepth 16384 in
theorem i195_243 {X : KO} {ρ : Nat → Int32} {m : MM} {N : Nat} {o : Instr × List (Nat × Int) × MM} {b0 b1 b2 b3 b4 : Int} (h : MR X ρ 5 0 0 qP195 N 243 [b0, b1, b2, b3, b4] [] m o) : (((b3 = 0) ∧ (MR X ρ 5 0 0 qP195 N 273 [b0, b1, b2, 0, m (m b0 1) (m b0 5)] [] m o)) ∨ (¬ (b3 = 0) ∧ ((((f210 m (m (m b0 1) (m b0 5))) = b2) ∧ (MR X ρ 5 0 0 qP195 N 273 [b0, b1, b2, 1, m (m b0 1) (m b0 5)] [] m o)) ∨ (¬ ((f210 m (m (m b0 1) (m b0 5))) = b2) ∧ (MR X ρ 5 0 0 qP195 N 273 [b0, b1, b2, 0, m (m b0 1) (m b0 5)] [] m o))))) := by
  have h := CR_aload_n h rfl
  have h : MR X ρ 5 0 0 qP195 N 244 [b0, b1, b2, b3, b4] [(1, b0)] m o := h
  have h := CR_getf h rfl (by decide)
  have h : MR X ρ 5 0 0 qP195 N 247 [b0, b1, b2, b3, b4] [(1, m b0 1)] m o := h
  have h := CR_aload_n h rfl
  have h : MR X ρ 5 0 0 qP195 N 248 [b0, b1, b2, b3, b4] [(1, b0), (1, m b0 1)] m o := h
  have h := CR_getf h rfl (by decide)
  have h : MR X ρ 5 0 0 qP195 N 251 [b0, b1, b2, b3, b4] [(1, m b0 5), (1, m b0 1)] m o := h
  have h := CR_iaload h rfl rfl
  have h : MR X ρ 5 0 0 qP195 N 252 [b0, b1, b2, b3, b4] [(1, m (m b0 1) (m b0 5))] m o := h
  have h := CR_istore h rfl (Nat.le_of_ble_eq_true rfl)
  have h : MR X ρ 5 0 0 qP195 N 254 [b0, b1, b2, b3, m (m b0 1) (m b0 5)] [] m o := h
  have h := CR_iload_n h rfl
  have h : MR X ρ 5 0 0 qP195 N 255 [b0, b1, b2, b3, m (m b0 1) (m b0 5)] [(1, b3)] m o := h
  rcases MR_if h rfl rfl with ⟨c1, h⟩ | ⟨c1, h⟩
  ·
    have c1 : b3 = 0 := c1
    refine Or.inl ⟨c1, ?_⟩
    have h : MR X ρ 5 0 0 qP195 N 271 [b0, b1, b2, b3, m (m b0 1) (m b0 5)] [] m o := h
    have h := CR_iconst h rfl rfl
    have h : MR X ρ 5 0 0 qP195 N 272 [b0, b1, b2, b3, m (m b0 1) (m b0 5)] [(1, 0)] m o := h
    have h := CR_istore_n h rfl (Nat.le_of_ble_eq_true rfl)
    have h : MR X ρ 5 0 0 qP195 N 273 [b0, b1, b2, 0, m (m b0 1) (m b0 5)] [] m o := h
    exact h
  ·
    have c1 : ¬ (b3 = 0) := c1
    refine Or.inr ⟨c1, ?_⟩
    have h : MR X ρ 5 0 0 qP195 N 258 [b0, b1, b2, b3, m (m b0 1) (m b0 5)] [] m o := h
    have h := CR_iload h rfl
    have h : MR X ρ 5 0 0 qP195 N 260 [b0, b1, b2, b3, m (m b0 1) (m b0 5)] [(1, m (m b0 1) (m b0 5))] m o := h
    obtain ⟨r2, m3, q4, h⟩ := MR_invS h rfl rfl
    have q4 : Run X ρ 210 [(1, m (m b0 1) (m b0 5))] m r2 m3 := q4
    obtain ⟨e5, e6⟩ := d210 q4
    rw [e5, e6] at h
    have h : MR X ρ 5 0 0 qP195 N 263 [b0, b1, b2, b3, m (m b0 1) (m b0 5)] [(1, f210 m (m (m b0 1) (m b0 5)))] m o := h
    have h := CR_iload_n h rfl
    have h : MR X ρ 5 0 0 qP195 N 264 [b0, b1, b2, b3, m (m b0 1) (m b0 5)] [(1, b2), (1, f210 m (m (m b0 1) (m b0 5)))] m o := h
    rcases MR_icmp h rfl rfl with ⟨c7, h⟩ | ⟨c7, h⟩
    ·
      have c7 : ¬ ((f210 m (m (m b0 1) (m b0 5))) = b2) := c7
      refine Or.inr ⟨c7, ?_⟩
      have h : MR X ρ 5 0 0 qP195 N 271 [b0, b1, b2, b3, m (m b0 1) (m b0 5)] [] m o := h
      have h := CR_iconst h rfl rfl
      have h : MR X ρ 5 0 0 qP195 N 272 [b0, b1, b2, b3, m (m b0 1) (m b0 5)] [(1, 0)] m o := h
      have h := CR_istore_n h rfl (Nat.le_of_ble_eq_true rfl)
      have h : MR X ρ 5 0 0 qP195 N 273 [b0, b1, b2, 0, m (m b0 1) (m b0 5)] [] m o := h
      exact h
    ·
      have c7 : (f210 m (m (m b0 1) (m b0 5))) = b2 := Decidable.of_not_not (show ¬ ¬ ((f210 m (m (m b0 1) (m b0 5))) = b2) from c7)
      refine Or.inl ⟨c7, ?_⟩
      have h : MR X ρ 5 0 0 qP195 N 267 [b0, b1, b2, b3, m (m b0 1) (m b0 5)] [] m o := h
      have h := CR_iconst h rfl rfl
      have h : MR X ρ 5 0 0 qP195 N 268 [b0, b1, b2, b3, m (m b0 1) (m b0 5)] [(1, 1)] m o := h
      have h := CR_go h rfl rfl
      have h : MR X ρ 5 0 0 qP195 N 272 [b0, b1, b2, b3, m (m b0 1) (m b0 5)] [(1, 1)] m o := h
      have h := CR_istore_n h rfl (Nat.le_of_ble_eq_true rfl)
      have h : MR X ρ 5 0 0 qP195 N 273 [b0, b1, b2, 1, m (m b0 1) (m b0 5)] [] m o := h
      exact h
set_option maxRecDepth 16384 in
theorem i195_273 {X : KO} {ρ : Nat → Int32} {m : MM} {N : Nat} {o : Instr × List (Nat × Int) × MM} {b0 b1 b2 b3 b4 : Int} (h : MR X ρ 5 0 0 qP195 N 273 [b0, b1, b2, b3, b4] [] m o) : (((7 ≤ (s32 ((m b0 5) - (m b0 6)))) ∧ (MR X ρ 5 0 0 qP195 N 307 [b0, b1, b2, b3, b4] [] m o)) ∨ (¬ (7 ≤ (s32 ((m b0 5) - (m b0 6)))) ∧ (MR X ρ 5 0 0 qP195 N 307 [b0, b1, b2, b3, b4] [] (mu m b0 12 (s64 ((s64 ((s64 (27 * (m b0 12))) + b4)) - 96))) o))) := by
  have h := CR_aload_n h rfl
  have h : MR X ρ 5 0 0 qP195 N 274 [b0, b1, b2, b3, b4] [(1, b0)] m o := h
  have h := CR_getf h rfl (by decide)
  have h : MR X ρ 5 0 0 qP195 N 277 [b0, b1, b2, b3, b4] [(1, m b0 5)] m o := h
  have h := CR_aload_n h rfl
  have h : MR X ρ 5 0 0 qP195 N 278 [b0, b1, b2, b3, b4] [(1, b0), (1, m b0 5)] m o := h
  have h := CR_getf h rfl (by decide)
  have h : MR X ρ 5 0 0 qP195 N 281 [b0, b1, b2, b3, b4] [(1, m b0 6), (1, m b0 5)] m o := h
  have h := CR_isub h rfl
  have h : MR X ρ 5 0 0 qP195 N 282 [b0, b1, b2, b3, b4] [(1, s32 ((m b0 5) - (m b0 6)))] m o := h
  have h := CR_bipush h rfl rfl
  have h : MR X ρ 5 0 0 qP195 N 284 [b0, b1, b2, b3, b4] [(1, 7), (1, s32 ((m b0 5) - (m b0 6)))] m o := h
  rcases MR_icmp h rfl rfl with ⟨c1, h⟩ | ⟨c1, h⟩
  ·
    have c1 : 7 ≤ (s32 ((m b0 5) - (m b0 6))) := c1
    refine Or.inl ⟨c1, ?_⟩
    have h : MR X ρ 5 0 0 qP195 N 307 [b0, b1, b2, b3, b4] [] m o := h
    exact h
  ·
    have c1 : ¬ (7 ≤ (s32 ((m b0 5) - (m b0 6)))) := c1
    refine Or.inr ⟨c1, ?_⟩
    have h : MR X ρ 5 0 0 qP195 N 287 [b0, b1, b2, b3, b4] [] m o := h
    have h := CR_aload_n h rfl
    have h : MR X ρ 5 0 0 qP195 N 288 [b0, b1, b2, b3, b4] [(1, b0)] m o := h
    have h := CR_ldc2w h rfl rfl
    have h : MR X ρ 5 0 0 qP195 N 291 [b0, b1, b2, b3, b4] [(2, 27), (1, b0)] m o := h
    have h := CR_aload_n h rfl
    have h : MR X ρ 5 0 0 qP195 N 292 [b0, b1, b2, b3, b4] [(1, b0), (2, 27), (1, b0)] m o := h
    have h := CR_getf h rfl (by decide)
    have h : MR X ρ 5 0 0 qP195 N 295 [b0, b1, b2, b3, b4] [(2, m b0 12), (2, 27), (1, b0)] m o := h
    have h := CR_lmul h rfl
    have h : MR X ρ 5 0 0 qP195 N 296 [b0, b1, b2, b3, b4] [(2, s64 (27 * (m b0 12))), (1, b0)] m o := h
    have h := CR_iload h rfl
    have h : MR X ρ 5 0 0 qP195 N 298 [b0, b1, b2, b3, b4] [(1, b4), (2, s64 (27 * (m b0 12))), (1, b0)] m o := h
    have h := CR_i2l h rfl
    have h : MR X ρ 5 0 0 qP195 N 299 [b0, b1, b2, b3, b4] [(2, b4), (2, s64 (27 * (m b0 12))), (1, b0)] m o := h
    have h := CR_ladd h rfl
    have h : MR X ρ 5 0 0 qP195 N 300 [b0, b1, b2, b3, b4] [(2, s64 ((s64 (27 * (m b0 12))) + b4)), (1, b0)] m o := h
    have h := CR_ldc2w h rfl rfl
    have h : MR X ρ 5 0 0 qP195 N 303 [b0, b1, b2, b3, b4] [(2, 96), (2, s64 ((s64 (27 * (m b0 12))) + b4)), (1, b0)] m o := h
    have h := CR_lsub h rfl
    have h : MR X ρ 5 0 0 qP195 N 304 [b0, b1, b2, b3, b4] [(2, s64 ((s64 ((s64 (27 * (m b0 12))) + b4)) - 96)), (1, b0)] m o := h
    have h := CR_putf h rfl
    have h : MR X ρ 5 0 0 qP195 N 307 [b0, b1, b2, b3, b4] [] (mu m b0 12 (s64 ((s64 ((s64 (27 * (m b0 12))) + b4)) - 96))) o := h
    exact h
set_option maxRecDepth 16384 in
theorem i195_307 {X : KO} {ρ : Nat → Int32} {m : MM} {N : Nat} {o : Instr × List (Nat × Int) × MM} {b0 b1 b2 b3 b4 : Int} (h : MR X ρ 5 0 0 qP195 N 307 [b0, b1, b2, b3, b4] [] m o) : (((3 ≤ (s32 ((m b0 5) - (m b0 6)))) ∧ (MR X ρ 5 0 0 qP195 N 337 [b0, b1, b2, b3, b4] [] m o)) ∨ (¬ (3 ≤ (s32 ((m b0 5) - (m b0 6)))) ∧ (MR X ρ 5 0 0 qP195 N 337 [b0, b1, b2, b3, b4] [] (mu m b0 8 (s32 ((s32 ((s32 (10 * (m b0 8))) + b4)) - 48))) o))) := by
  have h := CR_aload_n h rfl
  have h : MR X ρ 5 0 0 qP195 N 308 [b0, b1, b2, b3, b4] [(1, b0)] m o := h
  have h := CR_getf h rfl (by decide)
  have h : MR X ρ 5 0 0 qP195 N 311 [b0, b1, b2, b3, b4] [(1, m b0 5)] m o := h
  have h := CR_aload_n h rfl
  have h : MR X ρ 5 0 0 qP195 N 312 [b0, b1, b2, b3, b4] [(1, b0), (1, m b0 5)] m o := h
  have h := CR_getf h rfl (by decide)
  have h : MR X ρ 5 0 0 qP195 N 315 [b0, b1, b2, b3, b4] [(1, m b0 6), (1, m b0 5)] m o := h
  have h := CR_isub h rfl
  have h : MR X ρ 5 0 0 qP195 N 316 [b0, b1, b2, b3, b4] [(1, s32 ((m b0 5) - (m b0 6)))] m o := h
  have h := CR_iconst h rfl rfl
  have h : MR X ρ 5 0 0 qP195 N 317 [b0, b1, b2, b3, b4] [(1, 3), (1, s32 ((m b0 5) - (m b0 6)))] m o := h
  rcases MR_icmp h rfl rfl with ⟨c1, h⟩ | ⟨c1, h⟩
  ·
    have c1 : 3 ≤ (s32 ((m b0 5) - (m b0 6))) := c1
    refine Or.inl ⟨c1, ?_⟩
    have h : MR X ρ 5 0 0 qP195 N 337 [b0, b1, b2, b3, b4] [] m o := h
    exact h
  ·
    have c1 : ¬ (3 ≤ (s32 ((m b0 5) - (m b0 6)))) := c1
    refine Or.inr ⟨c1, ?_⟩
    have h : MR X ρ 5 0 0 qP195 N 320 [b0, b1, b2, b3, b4] [] m o := h
    have h := CR_aload_n h rfl
    have h : MR X ρ 5 0 0 qP195 N 321 [b0, b1, b2, b3, b4] [(1, b0)] m o := h
    have h := CR_bipush h rfl rfl
    have h : MR X ρ 5 0 0 qP195 N 323 [b0, b1, b2, b3, b4] [(1, 10), (1, b0)] m o := h
    have h := CR_aload_n h rfl
    have h : MR X ρ 5 0 0 qP195 N 324 [b0, b1, b2, b3, b4] [(1, b0), (1, 10), (1, b0)] m o := h
    have h := CR_getf h rfl (by decide)
    have h : MR X ρ 5 0 0 qP195 N 327 [b0, b1, b2, b3, b4] [(1, m b0 8), (1, 10), (1, b0)] m o := h
    have h := CR_imul h rfl
    have h : MR X ρ 5 0 0 qP195 N 328 [b0, b1, b2, b3, b4] [(1, s32 (10 * (m b0 8))), (1, b0)] m o := h
    have h := CR_iload h rfl
    have h : MR X ρ 5 0 0 qP195 N 330 [b0, b1, b2, b3, b4] [(1, b4), (1, s32 (10 * (m b0 8))), (1, b0)] m o := h
    have h := CR_iadd h rfl
    have h : MR X ρ 5 0 0 qP195 N 331 [b0, b1, b2, b3, b4] [(1, s32 ((s32 (10 * (m b0 8))) + b4)), (1, b0)] m o := h
    have h := CR_bipush h rfl rfl
    have h : MR X ρ 5 0 0 qP195 N 333 [b0, b1, b2, b3, b4] [(1, 48), (1, s32 ((s32 (10 * (m b0 8))) + b4)), (1, b0)] m o := h
    have h := CR_isub h rfl
    have h : MR X ρ 5 0 0 qP195 N 334 [b0, b1, b2, b3, b4] [(1, s32 ((s32 ((s32 (10 * (m b0 8))) + b4)) - 48)), (1, b0)] m o := h
    have h := CR_putf h rfl
    have h : MR X ρ 5 0 0 qP195 N 337 [b0, b1, b2, b3, b4] [] (mu m b0 8 (s32 ((s32 ((s32 (10 * (m b0 8))) + b4)) - 48))) o := h
    exact h
set_option maxRecDepth 16384 in
theorem i195_337 {X : KO} {ρ : Nat → Int32} {m : MM} {N : Nat} {o : Instr × List (Nat × Int) × MM} {b0 b1 b2 b3 b4 : Int} (h : MR X ρ 5 0 0 qP195 N 337 [b0, b1, b2, b3, b4] [] m o) : (∃ N1, N = N1 + 1 ∧ MR X ρ 5 0 0 qP195 N1 215 [b0, b1, b2, b3, b4] [] (mu m b0 5 (s32 ((m b0 5) + 1))) o) := by
  have h := CR_aload_n h rfl
  have h : MR X ρ 5 0 0 qP195 N 338 [b0, b1, b2, b3, b4] [(1, b0)] m o := h
  have h := CR_dup h rfl
  have h : MR X ρ 5 0 0 qP195 N 339 [b0, b1, b2, b3, b4] [(1, b0), (1, b0)] m o := h
  have h := CR_getf h rfl (by decide)
  have h : MR X ρ 5 0 0 qP195 N 342 [b0, b1, b2, b3, b4] [(1, m b0 5), (1, b0)] m o := h
  have h := CR_iconst h rfl rfl
  have h : MR X ρ 5 0 0 qP195 N 343 [b0, b1, b2, b3, b4] [(1, 1), (1, m b0 5), (1, b0)] m o := h
  have h := CR_iadd h rfl
  have h : MR X ρ 5 0 0 qP195 N 344 [b0, b1, b2, b3, b4] [(1, s32 ((m b0 5) + 1)), (1, b0)] m o := h
  have h := CR_putf h rfl
  have h : MR X ρ 5 0 0 qP195 N 347 [b0, b1, b2, b3, b4] [] (mu m b0 5 (s32 ((m b0 5) + 1))) o := h
  obtain ⟨N1, eN1, h⟩ := CR_goto h rfl rfl
  have h : MR X ρ 5 0 0 qP195 N1 215 [b0, b1, b2, b3, b4] [] (mu m b0 5 (s32 ((m b0 5) + 1))) o := h
  exact ⟨N1, eN1, h⟩
set_option maxRecDepth 16384 in
theorem i195_350 {X : KO} {ρ : Nat → Int32} {m : MM} {N : Nat} {o : Instr × List (Nat × Int) × MM} {b0 b1 b2 b3 b4 : Int} (h : MR X ρ 5 0 0 qP195 N 350 [b0, b1, b2, b3, b4] [] m o) : (((b3 = 0) ∧ (o = (.return_, [], mu m b0 7 1))) ∨ (¬ (b3 = 0) ∧ (((b2 = 0) ∧ ((((s32 ((m b0 5) - (m b0 6))) ≤ 3) ∧ (o = (.return_, [], mu m b0 7 3))) ∨ (¬ ((s32 ((m b0 5) - (m b0 6))) ≤ 3) ∧ (o = (.return_, [], mu m b0 7 1))))) ∨ (¬ (b2 = 0) ∧ ((((s32 ((m b0 5) - (m b0 6))) ≤ 7) ∧ (o = (.return_, [], mu m b0 7 2))) ∨ (¬ ((s32 ((m b0 5) - (m b0 6))) ≤ 7) ∧ (o = (.return_, [], mu m b0 7 1)))))))) := by
  have h := CR_aload_n h rfl
  have h : MR X ρ 5 0 0 qP195 N 351 [b0, b1, b2, b3, b4] [(1, b0)] m o := h
  have h := CR_iload_n h rfl
  have h : MR X ρ 5 0 0 qP195 N 352 [b0, b1, b2, b3, b4] [(1, b3), (1, b0)] m o := h
  rcases MR_if h rfl rfl with ⟨c1, h⟩ | ⟨c1, h⟩
  ·
    have c1 : b3 = 0 := c1
    refine Or.inl ⟨c1, ?_⟩
    have h : MR X ρ 5 0 0 qP195 N 377 [b0, b1, b2, b3, b4] [(1, b0)] m o := h
    have h := CR_iconst h rfl rfl
    have h : MR X ρ 5 0 0 qP195 N 378 [b0, b1, b2, b3, b4] [(1, 1), (1, b0)] m o := h
    have h := CR_go h rfl rfl
    have h : MR X ρ 5 0 0 qP195 N 390 [b0, b1, b2, b3, b4] [(1, 1), (1, b0)] m o := h
    have h := CR_putf h rfl
    have h : MR X ρ 5 0 0 qP195 N 393 [b0, b1, b2, b3, b4] [] (mu m b0 7 1) o := h
    exact CR_end h rfl rfl
  ·
    have c1 : ¬ (b3 = 0) := c1
    refine Or.inr ⟨c1, ?_⟩
    have h : MR X ρ 5 0 0 qP195 N 355 [b0, b1, b2, b3, b4] [(1, b0)] m o := h
    have h := CR_aload_n h rfl
    have h : MR X ρ 5 0 0 qP195 N 356 [b0, b1, b2, b3, b4] [(1, b0), (1, b0)] m o := h
    have h := CR_getf h rfl (by decide)
    have h : MR X ρ 5 0 0 qP195 N 359 [b0, b1, b2, b3, b4] [(1, m b0 5), (1, b0)] m o := h
    have h := CR_aload_n h rfl
    have h : MR X ρ 5 0 0 qP195 N 360 [b0, b1, b2, b3, b4] [(1, b0), (1, m b0 5), (1, b0)] m o := h
    have h := CR_getf h rfl (by decide)
    have h : MR X ρ 5 0 0 qP195 N 363 [b0, b1, b2, b3, b4] [(1, m b0 6), (1, m b0 5), (1, b0)] m o := h
    have h := CR_isub h rfl
    have h : MR X ρ 5 0 0 qP195 N 364 [b0, b1, b2, b3, b4] [(1, s32 ((m b0 5) - (m b0 6))), (1, b0)] m o := h
    have h := CR_iload_n h rfl
    have h : MR X ρ 5 0 0 qP195 N 365 [b0, b1, b2, b3, b4] [(1, b2), (1, s32 ((m b0 5) - (m b0 6))), (1, b0)] m o := h
    rcases MR_if h rfl rfl with ⟨c2, h⟩ | ⟨c2, h⟩
    ·
      have c2 : b2 = 0 := c2
      refine Or.inl ⟨c2, ?_⟩
      have h : MR X ρ 5 0 0 qP195 N 373 [b0, b1, b2, b3, b4] [(1, s32 ((m b0 5) - (m b0 6))), (1, b0)] m o := h
      have h := CR_iconst h rfl rfl
      have h : MR X ρ 5 0 0 qP195 N 374 [b0, b1, b2, b3, b4] [(1, 3), (1, s32 ((m b0 5) - (m b0 6))), (1, b0)] m o := h
      rcases MR_icmp h rfl rfl with ⟨c3, h⟩ | ⟨c3, h⟩
      ·
        have c3 : (s32 ((m b0 5) - (m b0 6))) ≤ 3 := c3
        refine Or.inl ⟨c3, ?_⟩
        have h : MR X ρ 5 0 0 qP195 N 381 [b0, b1, b2, b3, b4] [(1, b0)] m o := h
        have h := CR_iload_n h rfl
        have h : MR X ρ 5 0 0 qP195 N 382 [b0, b1, b2, b3, b4] [(1, b2), (1, b0)] m o := h
        rcases MR_if h rfl rfl with ⟨c4, h⟩ | ⟨c4, h⟩
        ·
          have h : MR X ρ 5 0 0 qP195 N 389 [b0, b1, b2, b3, b4] [(1, b0)] m o := h
          have h := CR_iconst h rfl rfl
          have h : MR X ρ 5 0 0 qP195 N 390 [b0, b1, b2, b3, b4] [(1, 3), (1, b0)] m o := h
          have h := CR_putf h rfl
          have h : MR X ρ 5 0 0 qP195 N 393 [b0, b1, b2, b3, b4] [] (mu m b0 7 3) o := h
          exact CR_end h rfl rfl
        · exact absurd c2 (show ¬ (b2 = 0) from c4)
      ·
        have c3 : ¬ ((s32 ((m b0 5) - (m b0 6))) ≤ 3) := c3
        refine Or.inr ⟨c3, ?_⟩
        have h : MR X ρ 5 0 0 qP195 N 377 [b0, b1, b2, b3, b4] [(1, b0)] m o := h
        have h := CR_iconst h rfl rfl
        have h : MR X ρ 5 0 0 qP195 N 378 [b0, b1, b2, b3, b4] [(1, 1), (1, b0)] m o := h
        have h := CR_go h rfl rfl
        have h : MR X ρ 5 0 0 qP195 N 390 [b0, b1, b2, b3, b4] [(1, 1), (1, b0)] m o := h
        have h := CR_putf h rfl
        have h : MR X ρ 5 0 0 qP195 N 393 [b0, b1, b2, b3, b4] [] (mu m b0 7 1) o := h
        exact CR_end h rfl rfl
    ·
      have c2 : ¬ (b2 = 0) := c2
      refine Or.inr ⟨c2, ?_⟩
      have h : MR X ρ 5 0 0 qP195 N 368 [b0, b1, b2, b3, b4] [(1, s32 ((m b0 5) - (m b0 6))), (1, b0)] m o := h
      have h := CR_bipush h rfl rfl
      have h : MR X ρ 5 0 0 qP195 N 370 [b0, b1, b2, b3, b4] [(1, 7), (1, s32 ((m b0 5) - (m b0 6))), (1, b0)] m o := h
      have h := CR_go h rfl rfl
      have h : MR X ρ 5 0 0 qP195 N 374 [b0, b1, b2, b3, b4] [(1, 7), (1, s32 ((m b0 5) - (m b0 6))), (1, b0)] m o := h
      rcases MR_icmp h rfl rfl with ⟨c5, h⟩ | ⟨c5, h⟩
      ·
        have c5 : (s32 ((m b0 5) - (m b0 6))) ≤ 7 := c5
        refine Or.inl ⟨c5, ?_⟩
        have h : MR X ρ 5 0 0 qP195 N 381 [b0, b1, b2, b3, b4] [(1, b0)] m o := h
        have h := CR_iload_n h rfl
        have h : MR X ρ 5 0 0 qP195 N 382 [b0, b1, b2, b3, b4] [(1, b2), (1, b0)] m o := h
        rcases MR_if h rfl rfl with ⟨c6, h⟩ | ⟨c6, h⟩
        · exact absurd (show b2 = 0 from c6) c2
        ·
          have h : MR X ρ 5 0 0 qP195 N 385 [b0, b1, b2, b3, b4] [(1, b0)] m o := h
          have h := CR_iconst h rfl rfl
          have h : MR X ρ 5 0 0 qP195 N 386 [b0, b1, b2, b3, b4] [(1, 2), (1, b0)] m o := h
          have h := CR_go h rfl rfl
          have h : MR X ρ 5 0 0 qP195 N 390 [b0, b1, b2, b3, b4] [(1, 2), (1, b0)] m o := h
          have h := CR_putf h rfl
          have h : MR X ρ 5 0 0 qP195 N 393 [b0, b1, b2, b3, b4] [] (mu m b0 7 2) o := h
          exact CR_end h rfl rfl
      ·
        have c5 : ¬ ((s32 ((m b0 5) - (m b0 6))) ≤ 7) := c5
        refine Or.inr ⟨c5, ?_⟩
        have h : MR X ρ 5 0 0 qP195 N 377 [b0, b1, b2, b3, b4] [(1, b0)] m o := h
        have h := CR_iconst h rfl rfl
        have h : MR X ρ 5 0 0 qP195 N 378 [b0, b1, b2, b3, b4] [(1, 1), (1, b0)] m o := h
        have h := CR_go h rfl rfl
        have h : MR X ρ 5 0 0 qP195 N 390 [b0, b1, b2, b3, b4] [(1, 1), (1, b0)] m o := h
        have h := CR_putf h rfl
        have h : MR X ρ 5 0 0 qP195 N 393 [b0, b1, b2, b3, b4] [] (mu m b0 7 1) o := h
        exact CR_end h rfl rfl
set_option maxRecDepth 16384 in
theorem i211_0 {X : KO} {ρ : Nat → Int32} {m : MM} {N : Nat} {o : Instr × List (Nat × Int) × MM} {a0 : Int} (h : MR X ρ 2 0 0 qP211 N 0 [a0, 0] [] m o) : ((((m a0 7) = 2) ∧ (MR X ρ 2 0 0 qP211 N 12 [a0, 0] [] m o)) ∨ (¬ ((m a0 7) = 2) ∧ (o = (.ireturn, [(1, 0)], m)))) := by
  have h := CR_aload_n h rfl
  have h : MR X ρ 2 0 0 qP211 N 1 [a0, 0] [(1, a0)] m o := h
  have h := CR_getf h rfl (by decide)
  have h : MR X ρ 2 0 0 qP211 N 4 [a0, 0] [(1, m a0 7)] m o := h
  have h := CR_iconst h rfl rfl
  have h : MR X ρ 2 0 0 qP211 N 5 [a0, 0] [(1, 2), (1, m a0 7)] m o := h
  rcases MR_icmp h rfl rfl with ⟨c1, h⟩ | ⟨c1, h⟩
  ·
    have c1 : (m a0 7) = 2 := c1
    refine Or.inl ⟨c1, ?_⟩
    have h : MR X ρ 2 0 0 qP211 N 10 [a0, 0] [] m o := h
    have h := CR_iconst h rfl rfl
    have h : MR X ρ 2 0 0 qP211 N 11 [a0, 0] [(1, 0)] m o := h
    have h := CR_istore_n h rfl (Nat.le_of_ble_eq_true rfl)
    have h : MR X ρ 2 0 0 qP211 N 12 [a0, 0] [] m o := h
    exact h
  ·
    have c1 : ¬ ((m a0 7) = 2) := c1
    refine Or.inr ⟨c1, ?_⟩
    have h : MR X ρ 2 0 0 qP211 N 8 [a0, 0] [] m o := h
    have h := CR_iconst h rfl rfl
    have h : MR X ρ 2 0 0 qP211 N 9 [a0, 0] [(1, 0)] m o := h
    exact CR_end h rfl rfl
set_option maxRecDepth 16384 in
theorem i211_12 {X : KO} {ρ : Nat → Int32} {m : MM} {N : Nat} {o : Instr × List (Nat × Int) × MM} {b0 b1 : Int} (h : MR X ρ 2 0 0 qP211 N 12 [b0, b1] [] m o) : (((29 < b1) ∧ (o = (.ireturn, [(1, 1)], m))) ∨ (¬ (29 < b1) ∧ ((((if (f291 m b1) < (m b0 12) then 1 else if (m b0 12) = (f291 m b1) then 0 else -1) = 0) ∧ (o = (.ireturn, [(1, 0)], m))) ∨ (¬ ((if (f291 m b1) < (m b0 12) then 1 else if (m b0 12) = (f291 m b1) then 0 else -1) = 0) ∧ (∃ N8, N = N8 + 1 ∧ MR X ρ 2 0 0 qP211 N8 12 [b0, s32 (b1 + 1)] [] m o))))) := by
  have h := CR_iload_n h rfl
  have h : MR X ρ 2 0 0 qP211 N 13 [b0, b1] [(1, b1)] m o := h
  have h := CR_bipush h rfl rfl
  have h : MR X ρ 2 0 0 qP211 N 15 [b0, b1] [(1, 29), (1, b1)] m o := h
  rcases MR_icmp h rfl rfl with ⟨c1, h⟩ | ⟨c1, h⟩
  ·
    have c1 : 29 < b1 := c1
    refine Or.inl ⟨c1, ?_⟩
    have h : MR X ρ 2 0 0 qP211 N 38 [b0, b1] [] m o := h
    have h := CR_iconst h rfl rfl
    have h : MR X ρ 2 0 0 qP211 N 39 [b0, b1] [(1, 1)] m o := h
    exact CR_end h rfl rfl
  ·
    have c1 : ¬ (29 < b1) := c1
    refine Or.inr ⟨c1, ?_⟩
    have h : MR X ρ 2 0 0 qP211 N 18 [b0, b1] [] m o := h
    have h := CR_aload_n h rfl
    have h : MR X ρ 2 0 0 qP211 N 19 [b0, b1] [(1, b0)] m o := h
    have h := CR_getf h rfl (by decide)
    have h : MR X ρ 2 0 0 qP211 N 22 [b0, b1] [(2, m b0 12)] m o := h
    have h := CR_iload_n h rfl
    have h : MR X ρ 2 0 0 qP211 N 23 [b0, b1] [(1, b1), (2, m b0 12)] m o := h
    obtain ⟨r2, m3, q4, h⟩ := MR_invS h rfl rfl
    have q4 : Run X ρ 291 [(1, b1)] m r2 m3 := q4
    obtain ⟨e5, e6⟩ := d291 q4
    rw [e5, e6] at h
    have h : MR X ρ 2 0 0 qP211 N 26 [b0, b1] [(2, f291 m b1), (2, m b0 12)] m o := h
    have h := CR_lcmp h rfl
    have h : MR X ρ 2 0 0 qP211 N 27 [b0, b1] [(1, if (f291 m b1) < (m b0 12) then 1 else if (m b0 12) = (f291 m b1) then 0 else -1)] m o := h
    rcases MR_if h rfl rfl with ⟨c7, h⟩ | ⟨c7, h⟩
    ·
      have c7 : ¬ ((if (f291 m b1) < (m b0 12) then 1 else if (m b0 12) = (f291 m b1) then 0 else -1) = 0) := c7
      refine Or.inr ⟨c7, ?_⟩
      have h : MR X ρ 2 0 0 qP211 N 32 [b0, b1] [] m o := h
      have h := CR_inc h rfl (Nat.le_of_ble_eq_true rfl)
      have h : MR X ρ 2 0 0 qP211 N 35 [b0, s32 (b1 + 1)] [] m o := h
      obtain ⟨N8, eN8, h⟩ := CR_goto h rfl rfl
      have h : MR X ρ 2 0 0 qP211 N8 12 [b0, s32 (b1 + 1)] [] m o := h
      exact ⟨N8, eN8, h⟩
    ·
      have c7 : (if (f291 m b1) < (m b0 12) then 1 else if (m b0 12) = (f291 m b1) then 0 else -1) = 0 := Decidable.of_not_not (show ¬ ¬ ((if (f291 m b1) < (m b0 12) then 1 else if (m b0 12) = (f291 m b1) then 0 else -1) = 0) from c7)
      refine Or.inl ⟨c7, ?_⟩
      have h : MR X ρ 2 0 0 qP211 N 30 [b0, b1] [] m o := h
      have h := CR_iconst h rfl rfl
      have h : MR X ρ 2 0 0 qP211 N 31 [b0, b1] [(1, 0)] m o := h
      exact CR_end h rfl rfl
set_option maxRecDepth 16384 in
theorem i190_0 {X : KO} {ρ : Nat → Int32} {m : MM} {N : Nat} {o : Instr × List (Nat × Int) × MM} {a0 a1 a2 a3 : Int} (h : MR X ρ 6 0 0 qP190 N 0 [a0, a1, a2, a3, 0, 0] [] m o) : (MR X ρ 6 0 0 qP190 N 3 [a0, a1, a2, a3, 0, 0] [] m o) := by
  have h := CR_iconst h rfl rfl
  have h : MR X ρ 6 0 0 qP190 N 1 [a0, a1, a2, a3, 0, 0] [(1, 0)] m o := h
  have h := CR_istore h rfl (Nat.le_of_ble_eq_true rfl)
  have h : MR X ρ 6 0 0 qP190 N 3 [a0, a1, a2, a3, 0, 0] [] m o := h
  exact h
set_option maxRecDepth 16384 in
theorem i190_3 {X : KO} {ρ : Nat → Int32} {m : MM} {N : Nat} {o : Instr × List (Nat × Int) × MM} {b0 b1 b2 b3 b4 b5 : Int} (h : MR X ρ 6 0 0 qP190 N 3 [b0, b1, b2, b3, b4, b5] [] m o) : (((b2 ≤ b5) ∧ (o = (.ireturn, [(1, -1)], m))) ∨ (¬ (b2 ≤ b5) ∧ ((((if b3 < (m b0 (s32 (b1 + b5))) then 1 else if (m b0 (s32 (b1 + b5))) = b3 then 0 else -1) = 0) ∧ (o = (.ireturn, [(1, b5)], m))) ∨ (¬ ((if b3 < (m b0 (s32 (b1 + b5))) then 1 else if (m b0 (s32 (b1 + b5))) = b3 then 0 else -1) = 0) ∧ (∃ N3, N = N3 + 1 ∧ MR X ρ 6 0 0 qP190 N3 3 [b0, b1, b2, b3, b4, s32 (b5 + 1)] [] m o))))) := by
  have h := CR_iload h rfl
  have h : MR X ρ 6 0 0 qP190 N 5 [b0, b1, b2, b3, b4, b5] [(1, b5)] m o := h
  have h := CR_iload_n h rfl
  have h : MR X ρ 6 0 0 qP190 N 6 [b0, b1, b2, b3, b4, b5] [(1, b2), (1, b5)] m o := h
  rcases MR_icmp h rfl rfl with ⟨c1, h⟩ | ⟨c1, h⟩
  ·
    have c1 : b2 ≤ b5 := c1
    refine Or.inl ⟨c1, ?_⟩
    have h : MR X ρ 6 0 0 qP190 N 29 [b0, b1, b2, b3, b4, b5] [] m o := h
    have h := CR_iconst h rfl rfl
    have h : MR X ρ 6 0 0 qP190 N 30 [b0, b1, b2, b3, b4, b5] [(1, -1)] m o := h
    exact CR_end h rfl rfl
  ·
    have c1 : ¬ (b2 ≤ b5) := c1
    refine Or.inr ⟨c1, ?_⟩
    have h : MR X ρ 6 0 0 qP190 N 9 [b0, b1, b2, b3, b4, b5] [] m o := h
    have h := CR_aload_n h rfl
    have h : MR X ρ 6 0 0 qP190 N 10 [b0, b1, b2, b3, b4, b5] [(1, b0)] m o := h
    have h := CR_iload_n h rfl
    have h : MR X ρ 6 0 0 qP190 N 11 [b0, b1, b2, b3, b4, b5] [(1, b1), (1, b0)] m o := h
    have h := CR_iload h rfl
    have h : MR X ρ 6 0 0 qP190 N 13 [b0, b1, b2, b3, b4, b5] [(1, b5), (1, b1), (1, b0)] m o := h
    have h := CR_iadd h rfl
    have h : MR X ρ 6 0 0 qP190 N 14 [b0, b1, b2, b3, b4, b5] [(1, s32 (b1 + b5)), (1, b0)] m o := h
    have h := CR_lald h rfl
    have h : MR X ρ 6 0 0 qP190 N 15 [b0, b1, b2, b3, b4, b5] [(2, m b0 (s32 (b1 + b5)))] m o := h
    have h := CR_lload_n h rfl
    have h : MR X ρ 6 0 0 qP190 N 16 [b0, b1, b2, b3, b4, b5] [(2, b3), (2, m b0 (s32 (b1 + b5)))] m o := h
    have h := CR_lcmp h rfl
    have h : MR X ρ 6 0 0 qP190 N 17 [b0, b1, b2, b3, b4, b5] [(1, if b3 < (m b0 (s32 (b1 + b5))) then 1 else if (m b0 (s32 (b1 + b5))) = b3 then 0 else -1)] m o := h
    rcases MR_if h rfl rfl with ⟨c2, h⟩ | ⟨c2, h⟩
    ·
      have c2 : ¬ ((if b3 < (m b0 (s32 (b1 + b5))) then 1 else if (m b0 (s32 (b1 + b5))) = b3 then 0 else -1) = 0) := c2
      refine Or.inr ⟨c2, ?_⟩
      have h : MR X ρ 6 0 0 qP190 N 23 [b0, b1, b2, b3, b4, b5] [] m o := h
      have h := CR_inc h rfl (Nat.le_of_ble_eq_true rfl)
      have h : MR X ρ 6 0 0 qP190 N 26 [b0, b1, b2, b3, b4, s32 (b5 + 1)] [] m o := h
      obtain ⟨N3, eN3, h⟩ := CR_goto h rfl rfl
      have h : MR X ρ 6 0 0 qP190 N3 3 [b0, b1, b2, b3, b4, s32 (b5 + 1)] [] m o := h
      exact ⟨N3, eN3, h⟩
    ·
      have c2 : (if b3 < (m b0 (s32 (b1 + b5))) then 1 else if (m b0 (s32 (b1 + b5))) = b3 then 0 else -1) = 0 := Decidable.of_not_not (show ¬ ¬ ((if b3 < (m b0 (s32 (b1 + b5))) then 1 else if (m b0 (s32 (b1 + b5))) = b3 then 0 else -1) = 0) from c2)
      refine Or.inl ⟨c2, ?_⟩
      have h : MR X ρ 6 0 0 qP190 N 20 [b0, b1, b2, b3, b4, b5] [] m o := h
      have h := CR_iload h rfl
      have h : MR X ρ 6 0 0 qP190 N 22 [b0, b1, b2, b3, b4, b5] [(1, b5)] m o := h
      exact CR_end h rfl rfl
set_option maxRecDepth 16384 in
theorem i75_0 {X : KO} {ρ : Nat → Int32} {m : MM} {N : Nat} {o : Instr × List (Nat × Int) × MM} {a0 a1 : Int} (h : MR X ρ 4 0 0 qP75 N 0 [a0, a1, 0, 0] [] m o) : (MR X ρ 4 0 0 qP75 N 2 [a0, a1, 0, 0] [] m o) := by
  have h := CR_iconst h rfl rfl
  have h : MR X ρ 4 0 0 qP75 N 1 [a0, a1, 0, 0] [(1, 0)] m o := h
  have h := CR_istore_n h rfl (Nat.le_of_ble_eq_true rfl)
  have h : MR X ρ 4 0 0 qP75 N 2 [a0, a1, 0, 0] [] m o := h
  exact h
set_option maxRecDepth 16384 in
theorem i75_2 {X : KO} {ρ : Nat → Int32} {m : MM} {N : Nat} {o : Instr × List (Nat × Int) × MM} {b0 b1 b2 b3 : Int} (h : MR X ρ 4 0 0 qP75 N 2 [b0, b1, b2, b3] [] m o) : ((((m b0 6) ≤ b3) ∧ (o = (.ireturn, [(1, -1)], m))) ∨ (¬ ((m b0 6) ≤ b3) ∧ (((8 ≤ b3) ∧ (o = (.ireturn, [(1, -1)], m))) ∨ (¬ (8 ≤ b3) ∧ ((((if b1 < (m (m b0 0) b3) then 1 else if (m (m b0 0) b3) = b1 then 0 else -1) = 0) ∧ (o = (.ireturn, [(1, b3)], m))) ∨ (¬ ((if b1 < (m (m b0 0) b3) then 1 else if (m (m b0 0) b3) = b1 then 0 else -1) = 0) ∧ (∃ N4, N = N4 + 1 ∧ MR X ρ 4 0 0 qP75 N4 2 [b0, b1, b2, s32 (b3 + 1)] [] m o))))))) := by
  have h := CR_iload_n h rfl
  have h : MR X ρ 4 0 0 qP75 N 3 [b0, b1, b2, b3] [(1, b3)] m o := h
  have h := CR_aload_n h rfl
  have h : MR X ρ 4 0 0 qP75 N 4 [b0, b1, b2, b3] [(1, b0), (1, b3)] m o := h
  have h := CR_getf h rfl (by decide)
  have h : MR X ρ 4 0 0 qP75 N 7 [b0, b1, b2, b3] [(1, m b0 6), (1, b3)] m o := h
  rcases MR_icmp h rfl rfl with ⟨c1, h⟩ | ⟨c1, h⟩
  ·
    have c1 : (m b0 6) ≤ b3 := c1
    refine Or.inl ⟨c1, ?_⟩
    have h : MR X ρ 4 0 0 qP75 N 35 [b0, b1, b2, b3] [] m o := h
    have h := CR_iconst h rfl rfl
    have h : MR X ρ 4 0 0 qP75 N 36 [b0, b1, b2, b3] [(1, -1)] m o := h
    exact CR_end h rfl rfl
  ·
    have c1 : ¬ ((m b0 6) ≤ b3) := c1
    refine Or.inr ⟨c1, ?_⟩
    have h : MR X ρ 4 0 0 qP75 N 10 [b0, b1, b2, b3] [] m o := h
    have h := CR_iload_n h rfl
    have h : MR X ρ 4 0 0 qP75 N 11 [b0, b1, b2, b3] [(1, b3)] m o := h
    have h := CR_bipush h rfl rfl
    have h : MR X ρ 4 0 0 qP75 N 13 [b0, b1, b2, b3] [(1, 8), (1, b3)] m o := h
    rcases MR_icmp h rfl rfl with ⟨c2, h⟩ | ⟨c2, h⟩
    ·
      have c2 : 8 ≤ b3 := c2
      refine Or.inl ⟨c2, ?_⟩
      have h : MR X ρ 4 0 0 qP75 N 35 [b0, b1, b2, b3] [] m o := h
      have h := CR_iconst h rfl rfl
      have h : MR X ρ 4 0 0 qP75 N 36 [b0, b1, b2, b3] [(1, -1)] m o := h
      exact CR_end h rfl rfl
    ·
      have c2 : ¬ (8 ≤ b3) := c2
      refine Or.inr ⟨c2, ?_⟩
      have h : MR X ρ 4 0 0 qP75 N 16 [b0, b1, b2, b3] [] m o := h
      have h := CR_aload_n h rfl
      have h : MR X ρ 4 0 0 qP75 N 17 [b0, b1, b2, b3] [(1, b0)] m o := h
      have h := CR_getf h rfl (by decide)
      have h : MR X ρ 4 0 0 qP75 N 20 [b0, b1, b2, b3] [(1, m b0 0)] m o := h
      have h := CR_iload_n h rfl
      have h : MR X ρ 4 0 0 qP75 N 21 [b0, b1, b2, b3] [(1, b3), (1, m b0 0)] m o := h
      have h := CR_lald h rfl
      have h : MR X ρ 4 0 0 qP75 N 22 [b0, b1, b2, b3] [(2, m (m b0 0) b3)] m o := h
      have h := CR_lload_n h rfl
      have h : MR X ρ 4 0 0 qP75 N 23 [b0, b1, b2, b3] [(2, b1), (2, m (m b0 0) b3)] m o := h
      have h := CR_lcmp h rfl
      have h : MR X ρ 4 0 0 qP75 N 24 [b0, b1, b2, b3] [(1, if b1 < (m (m b0 0) b3) then 1 else if (m (m b0 0) b3) = b1 then 0 else -1)] m o := h
      rcases MR_if h rfl rfl with ⟨c3, h⟩ | ⟨c3, h⟩
      ·
        have c3 : ¬ ((if b1 < (m (m b0 0) b3) then 1 else if (m (m b0 0) b3) = b1 then 0 else -1) = 0) := c3
        refine Or.inr ⟨c3, ?_⟩
        have h : MR X ρ 4 0 0 qP75 N 29 [b0, b1, b2, b3] [] m o := h
        have h := CR_inc h rfl (Nat.le_of_ble_eq_true rfl)
        have h : MR X ρ 4 0 0 qP75 N 32 [b0, b1, b2, s32 (b3 + 1)] [] m o := h
        obtain ⟨N4, eN4, h⟩ := CR_goto h rfl rfl
        have h : MR X ρ 4 0 0 qP75 N4 2 [b0, b1, b2, s32 (b3 + 1)] [] m o := h
        exact ⟨N4, eN4, h⟩
      ·
        have c3 : (if b1 < (m (m b0 0) b3) then 1 else if (m (m b0 0) b3) = b1 then 0 else -1) = 0 := Decidable.of_not_not (show ¬ ¬ ((if b1 < (m (m b0 0) b3) then 1 else if (m (m b0 0) b3) = b1 then 0 else -1) = 0) from c3)
        refine Or.inl ⟨c3, ?_⟩
        have h : MR X ρ 4 0 0 qP75 N 27 [b0, b1, b2, b3] [] m o := h
        have h := CR_iload_n h rfl
        have h : MR X ρ 4 0 0 qP75 N 28 [b0, b1, b2, b3] [(1, b3)] m o := h
        exact CR_end h rfl rfl
set_option maxRecDepth 16384 in
theorem i70_0 {X : KO} {ρ : Nat → Int32} {m : MM} {N : Nat} {o : Instr × List (Nat × Int) × MM} {a0 a1 : Int} (h : MR X ρ 4 0 0 qP70 N 0 [a0, a1, 0, 0] [] m o) : (MR X ρ 4 0 0 qP70 N 2 [a0, a1, 0, 0] [] m o) := by
  have h := CR_iconst h rfl rfl
  have h : MR X ρ 4 0 0 qP70 N 1 [a0, a1, 0, 0] [(1, 0)] m o := h
  have h := CR_istore_n h rfl (Nat.le_of_ble_eq_true rfl)
  have h : MR X ρ 4 0 0 qP70 N 2 [a0, a1, 0, 0] [] m o := h
  exact h
set_option maxRecDepth 16384 in
theorem i70_2 {X : KO} {ρ : Nat → Int32} {m : MM} {N : Nat} {o : Instr × List (Nat × Int) × MM} {b0 b1 b2 b3 : Int} (h : MR X ρ 4 0 0 qP70 N 2 [b0, b1, b2, b3] [] m o) : ((((m b0 7) ≤ b3) ∧ (o = (.ireturn, [(1, -1)], m))) ∨ (¬ ((m b0 7) ≤ b3) ∧ (((8 ≤ b3) ∧ (o = (.ireturn, [(1, -1)], m))) ∨ (¬ (8 ≤ b3) ∧ ((((if b1 < (m (m b0 1) b3) then 1 else if (m (m b0 1) b3) = b1 then 0 else -1) = 0) ∧ (o = (.ireturn, [(1, b3)], m))) ∨ (¬ ((if b1 < (m (m b0 1) b3) then 1 else if (m (m b0 1) b3) = b1 then 0 else -1) = 0) ∧ (∃ N4, N = N4 + 1 ∧ MR X ρ 4 0 0 qP70 N4 2 [b0, b1, b2, s32 (b3 + 1)] [] m o))))))) := by
  have h := CR_iload_n h rfl
  have h : MR X ρ 4 0 0 qP70 N 3 [b0, b1, b2, b3] [(1, b3)] m o := h
  have h := CR_aload_n h rfl
  have h : MR X ρ 4 0 0 qP70 N 4 [b0, b1, b2, b3] [(1, b0), (1, b3)] m o := h
  have h := CR_getf h rfl (by decide)
  have h : MR X ρ 4 0 0 qP70 N 7 [b0, b1, b2, b3] [(1, m b0 7), (1, b3)] m o := h
  rcases MR_icmp h rfl rfl with ⟨c1, h⟩ | ⟨c1, h⟩
  ·
    have c1 : (m b0 7) ≤ b3 := c1
    refine Or.inl ⟨c1, ?_⟩
    have h : MR X ρ 4 0 0 qP70 N 35 [b0, b1, b2, b3] [] m o := h
    have h := CR_iconst h rfl rfl
    have h : MR X ρ 4 0 0 qP70 N 36 [b0, b1, b2, b3] [(1, -1)] m o := h
    exact CR_end h rfl rfl
  ·
    have c1 : ¬ ((m b0 7) ≤ b3) := c1
    refine Or.inr ⟨c1, ?_⟩
    have h : MR X ρ 4 0 0 qP70 N 10 [b0, b1, b2, b3] [] m o := h
    have h := CR_iload_n h rfl
    have h : MR X ρ 4 0 0 qP70 N 11 [b0, b1, b2, b3] [(1, b3)] m o := h
    have h := CR_bipush h rfl rfl
    have h : MR X ρ 4 0 0 qP70 N 13 [b0, b1, b2, b3] [(1, 8), (1, b3)] m o := h
    rcases MR_icmp h rfl rfl with ⟨c2, h⟩ | ⟨c2, h⟩
    ·
      have c2 : 8 ≤ b3 := c2
      refine Or.inl ⟨c2, ?_⟩
      have h : MR X ρ 4 0 0 qP70 N 35 [b0, b1, b2, b3] [] m o := h
      have h := CR_iconst h rfl rfl
      have h : MR X ρ 4 0 0 qP70 N 36 [b0, b1, b2, b3] [(1, -1)] m o := h
      exact CR_end h rfl rfl
    ·
      have c2 : ¬ (8 ≤ b3) := c2
      refine Or.inr ⟨c2, ?_⟩
      have h : MR X ρ 4 0 0 qP70 N 16 [b0, b1, b2, b3] [] m o := h
      have h := CR_aload_n h rfl
      have h : MR X ρ 4 0 0 qP70 N 17 [b0, b1, b2, b3] [(1, b0)] m o := h
      have h := CR_getf h rfl (by decide)
      have h : MR X ρ 4 0 0 qP70 N 20 [b0, b1, b2, b3] [(1, m b0 1)] m o := h
      have h := CR_iload_n h rfl
      have h : MR X ρ 4 0 0 qP70 N 21 [b0, b1, b2, b3] [(1, b3), (1, m b0 1)] m o := h
      have h := CR_lald h rfl
      have h : MR X ρ 4 0 0 qP70 N 22 [b0, b1, b2, b3] [(2, m (m b0 1) b3)] m o := h
      have h := CR_lload_n h rfl
      have h : MR X ρ 4 0 0 qP70 N 23 [b0, b1, b2, b3] [(2, b1), (2, m (m b0 1) b3)] m o := h
      have h := CR_lcmp h rfl
      have h : MR X ρ 4 0 0 qP70 N 24 [b0, b1, b2, b3] [(1, if b1 < (m (m b0 1) b3) then 1 else if (m (m b0 1) b3) = b1 then 0 else -1)] m o := h
      rcases MR_if h rfl rfl with ⟨c3, h⟩ | ⟨c3, h⟩
      ·
        have c3 : ¬ ((if b1 < (m (m b0 1) b3) then 1 else if (m (m b0 1) b3) = b1 then 0 else -1) = 0) := c3
        refine Or.inr ⟨c3, ?_⟩
        have h : MR X ρ 4 0 0 qP70 N 29 [b0, b1, b2, b3] [] m o := h
        have h := CR_inc h rfl (Nat.le_of_ble_eq_true rfl)
        have h : MR X ρ 4 0 0 qP70 N 32 [b0, b1, b2, s32 (b3 + 1)] [] m o := h
        obtain ⟨N4, eN4, h⟩ := CR_goto h rfl rfl
        have h : MR X ρ 4 0 0 qP70 N4 2 [b0, b1, b2, s32 (b3 + 1)] [] m o := h
        exact ⟨N4, eN4, h⟩
      ·
        have c3 : (if b1 < (m (m b0 1) b3) then 1 else if (m (m b0 1) b3) = b1 then 0 else -1) = 0 := Decidable.of_not_not (show ¬ ¬ ((if b1 < (m (m b0 1) b3) then 1 else if (m (m b0 1) b3) = b1 then 0 else -1) = 0) from c3)
        refine Or.inl ⟨c3, ?_⟩
        have h : MR X ρ 4 0 0 qP70 N 27 [b0, b1, b2, b3] [] m o := h
        have h := CR_iload_n h rfl
        have h : MR X ρ 4 0 0 qP70 N 28 [b0, b1, b2, b3] [(1, b3)] m o := h
        exact CR_end h rfl rfl
set_option maxRecDepth 16384 in
theorem i297_0 {X : KO} {ρ : Nat → Int32} {m : MM} {N : Nat} {o : Instr × List (Nat × Int) × MM} {a0 a1 : Int} (h : MR X ρ 4 0 0 qP297 N 0 [a0, a1, 0, 0] [] m o) : (MR X ρ 4 0 0 qP297 N 5 [a0, a1, 0, if a0 = 1000050 then 30 else s32 (m a0 (-1))] [] m o) := by
  have h := CR_iconst h rfl rfl
  have h : MR X ρ 4 0 0 qP297 N 1 [a0, a1, 0, 0] [(1, 0)] m o := h
  have h := CR_istore_n h rfl (Nat.le_of_ble_eq_true rfl)
  have h : MR X ρ 4 0 0 qP297 N 2 [a0, a1, 0, 0] [] m o := h
  have h := CR_aload_n h rfl
  have h : MR X ρ 4 0 0 qP297 N 3 [a0, a1, 0, 0] [(1, a0)] m o := h
  have h := CR_alen rfl h rfl
  have h : MR X ρ 4 0 0 qP297 N 4 [a0, a1, 0, 0] [(1, if a0 = 1000050 then 30 else s32 (m a0 (-1)))] m o := h
  have h := CR_istore_n h rfl (Nat.le_of_ble_eq_true rfl)
  have h : MR X ρ 4 0 0 qP297 N 5 [a0, a1, 0, if a0 = 1000050 then 30 else s32 (m a0 (-1))] [] m o := h
  exact h
set_option maxRecDepth 16384 in
theorem i297_5 {X : KO} {ρ : Nat → Int32} {m : MM} {N : Nat} {o : Instr × List (Nat × Int) × MM} {b0 b1 b2 b3 : Int} (h : MR X ρ 4 0 0 qP297 N 5 [b0, b1, b2, b3] [] m o) : (((b3 ≤ b2) ∧ (o = (.return_, [], m))) ∨ (¬ (b3 ≤ b2) ∧ (∃ N2, N = N2 + 1 ∧ MR X ρ 4 0 0 qP297 N2 5 [b0, b1, s32 (b2 + 1), b3] [] (mu m b0 b2 (s32 b1)) o))) := by
  have h := CR_iload_n h rfl
  have h : MR X ρ 4 0 0 qP297 N 6 [b0, b1, b2, b3] [(1, b2)] m o := h
  have h := CR_iload_n h rfl
  have h : MR X ρ 4 0 0 qP297 N 7 [b0, b1, b2, b3] [(1, b3), (1, b2)] m o := h
  rcases MR_icmp h rfl rfl with ⟨c1, h⟩ | ⟨c1, h⟩
  ·
    have c1 : b3 ≤ b2 := c1
    refine Or.inl ⟨c1, ?_⟩
    have h : MR X ρ 4 0 0 qP297 N 20 [b0, b1, b2, b3] [] m o := h
    exact CR_end h rfl rfl
  ·
    have c1 : ¬ (b3 ≤ b2) := c1
    refine Or.inr ⟨c1, ?_⟩
    have h : MR X ρ 4 0 0 qP297 N 10 [b0, b1, b2, b3] [] m o := h
    have h := CR_aload_n h rfl
    have h : MR X ρ 4 0 0 qP297 N 11 [b0, b1, b2, b3] [(1, b0)] m o := h
    have h := CR_iload_n h rfl
    have h : MR X ρ 4 0 0 qP297 N 12 [b0, b1, b2, b3] [(1, b2), (1, b0)] m o := h
    have h := CR_iload_n h rfl
    have h : MR X ρ 4 0 0 qP297 N 13 [b0, b1, b2, b3] [(1, b1), (1, b2), (1, b0)] m o := h
    have h := CR_iastore_ h rfl
    have h : MR X ρ 4 0 0 qP297 N 14 [b0, b1, b2, b3] [] (mu m b0 b2 (s32 b1)) o := h
    have h := CR_inc h rfl (Nat.le_of_ble_eq_true rfl)
    have h : MR X ρ 4 0 0 qP297 N 17 [b0, b1, s32 (b2 + 1), b3] [] (mu m b0 b2 (s32 b1)) o := h
    obtain ⟨N2, eN2, h⟩ := CR_goto h rfl rfl
    have h : MR X ρ 4 0 0 qP297 N2 5 [b0, b1, s32 (b2 + 1), b3] [] (mu m b0 b2 (s32 b1)) o := h
    exact ⟨N2, eN2, h⟩
