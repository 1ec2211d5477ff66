set_option maxRecDepth 16384 in
theorem i160_0 {X : KO} {ρ : Nat → Int32} {m : MM} {N : Nat} {o : Instr × List (Nat × Int) × MM} {a0 a1 : Int} (h : MR X ρ 2 0 0 qP160 N 0 [a0, a1] [] m o) : ((((f152 m a0 a1) = 0) ∧ (o = (.ireturn, [(1, f158 m a0 1)], g158 m a0 1))) ∨ (¬ ((f152 m a0 a1) = 0) ∧ (∃ m8, Run X ρ 148 [(1, a0)] m [] m8 ∧ (o = (.ireturn, [(1, 1)], m8))))) := by
  have h := CR_aload_n h rfl
  have h : MR X ρ 2 0 0 qP160 N 1 [a0, a1] [(1, a0)] m o := h
  have h := CR_iload_n h rfl
  have h : MR X ρ 2 0 0 qP160 N 2 [a0, a1] [(1, a1), (1, a0)] m o := h
  obtain ⟨r1, m2, q3, h⟩ := MR_invV h rfl rfl
  have q3 : Run X ρ 152 [(1, a0), (1, a1)] m r1 m2 := q3
  obtain ⟨e4, e5⟩ := d152 q3
  rw [e4, e5] at h
  have h : MR X ρ 2 0 0 qP160 N 5 [a0, a1] [(1, f152 m a0 a1)] m o := h
  rcases MR_if h rfl rfl with ⟨c6, h⟩ | ⟨c6, h⟩
  ·
    have c6 : ¬ ((f152 m a0 a1) = 0) := c6
    refine Or.inr ⟨c6, ?_⟩
    have h : MR X ρ 2 0 0 qP160 N 14 [a0, a1] [] m o := h
    have h := CR_aload_n h rfl
    have h : MR X ρ 2 0 0 qP160 N 15 [a0, a1] [(1, a0)] m o := h
    obtain ⟨r7, m8, q9, h⟩ := MR_invV h rfl rfl
    have q9 : Run X ρ 148 [(1, a0)] m r7 m8 := q9
    obtain rfl := Run_v q9 rfl
    have h : MR X ρ 2 0 0 qP160 N 18 [a0, a1] [] m8 o := h
    refine ⟨m8, q9, ?_⟩
    have h := CR_iconst h rfl rfl
    have h : MR X ρ 2 0 0 qP160 N 19 [a0, a1] [(1, 1)] m8 o := h
    exact CR_end h rfl rfl
  ·
    have c6 : (f152 m a0 a1) = 0 := Decidable.of_not_not (show ¬ ¬ ((f152 m a0 a1) = 0) from c6)
    refine Or.inl ⟨c6, ?_⟩
    have h : MR X ρ 2 0 0 qP160 N 8 [a0, a1] [] m o := h
    have h := CR_aload_n h rfl
    have h : MR X ρ 2 0 0 qP160 N 9 [a0, a1] [(1, a0)] m o := h
    have h := CR_iconst h rfl rfl
    have h : MR X ρ 2 0 0 qP160 N 10 [a0, a1] [(1, 1), (1, a0)] m o := h
    obtain ⟨r10, m11, q12, h⟩ := MR_invV h rfl rfl
    have q12 : Run X ρ 158 [(1, a0), (1, 1)] m r10 m11 := q12
    obtain ⟨e13, e14⟩ := d158 q12
    rw [e13, e14] at h
    have h : MR X ρ 2 0 0 qP160 N 13 [a0, a1] [(1, f158 m a0 1)] (g158 m a0 1) o := h
    exact CR_end h rfl rfl
set_option maxRecDepth 16384 in
theorem i76_0 {X : KO} {ρ : Nat → Int32} {m : MM} {N : Nat} {o : Instr × List (Nat × Int) × MM} {a0 a1 : Int} (h : MR X ρ 3 0 0 qP76 N 0 [a0, a1, 0] [] m o) : ((((f153 m a1) = 0) ∧ (o = (.ireturn, [(1, -1)], g158 m a1 1))) ∨ (¬ ((f153 m a1) = 0) ∧ (∃ v22 m20, Run X ρ 75 [(1, a0), (2, m a1 7)] m [(1, v22)] m20 ∧ (((v22 = (-1)) ∧ ((((f153 m20 a1) = 0) ∧ (o = (.ireturn, [(1, v22)], g158 m20 a1 1))) ∨ (¬ ((f153 m20 a1) = 0) ∧ (o = (.ireturn, [(1, v22)], g158 m20 a1 3))))) ∨ (¬ (v22 = (-1)) ∧ (o = (.ireturn, [(1, v22)], m20))))))) := by
  have h := CR_aload_n h rfl
  have h : MR X ρ 3 0 0 qP76 N 1 [a0, a1, 0] [(1, a1)] m o := h
  obtain ⟨r1, m2, q3, h⟩ := MR_invV h rfl rfl
  have q3 : Run X ρ 153 [(1, a1)] m r1 m2 := q3
  obtain ⟨e4, e5⟩ := d153 q3
  rw [e4, e5] at h
  have h : MR X ρ 3 0 0 qP76 N 4 [a0, a1, 0] [(1, f153 m a1)] m o := h
  rcases MR_if h rfl rfl with ⟨c6, h⟩ | ⟨c6, h⟩
  ·
    have c6 : (f153 m a1) = 0 := c6
    refine Or.inl ⟨c6, ?_⟩
    have h : MR X ρ 3 0 0 qP76 N 18 [a0, a1, 0] [] m o := h
    have h := CR_iconst h rfl rfl
    have h : MR X ρ 3 0 0 qP76 N 19 [a0, a1, 0] [(1, -1)] m o := h
    have h := CR_istore_n h rfl (Nat.le_of_ble_eq_true rfl)
    have h : MR X ρ 3 0 0 qP76 N 20 [a0, a1, -1] [] m o := h
    have h := CR_iload_n h rfl
    have h : MR X ρ 3 0 0 qP76 N 21 [a0, a1, -1] [(1, -1)] m o := h
    have h := CR_iconst h rfl rfl
    have h : MR X ρ 3 0 0 qP76 N 22 [a0, a1, -1] [(1, -1), (1, -1)] m o := h
    rcases MR_icmp h rfl rfl with ⟨c7, h⟩ | ⟨c7, h⟩
    · exact absurd c7 (by unfold cdP; decide)
    ·
      have h : MR X ρ 3 0 0 qP76 N 25 [a0, a1, -1] [] m o := h
      have h := CR_aload_n h rfl
      have h : MR X ρ 3 0 0 qP76 N 26 [a0, a1, -1] [(1, a1)] m o := h
      have h := CR_aload_n h rfl
      have h : MR X ρ 3 0 0 qP76 N 27 [a0, a1, -1] [(1, a1), (1, a1)] m o := h
      obtain ⟨r8, m9, q10, h⟩ := MR_invV h rfl rfl
      have q10 : Run X ρ 153 [(1, a1)] m r8 m9 := q10
      obtain ⟨e11, e12⟩ := d153 q10
      rw [e11, e12] at h
      have h : MR X ρ 3 0 0 qP76 N 30 [a0, a1, -1] [(1, f153 m a1), (1, a1)] m o := h
      rcases MR_if h rfl rfl with ⟨c13, h⟩ | ⟨c13, h⟩
      ·
        have h : MR X ρ 3 0 0 qP76 N 37 [a0, a1, -1] [(1, a1)] m o := h
        have h := CR_iconst h rfl rfl
        have h : MR X ρ 3 0 0 qP76 N 38 [a0, a1, -1] [(1, 1), (1, a1)] m o := h
        obtain ⟨r14, m15, q16, h⟩ := MR_invV h rfl rfl
        have q16 : Run X ρ 158 [(1, a1), (1, 1)] m r14 m15 := q16
        obtain ⟨e17, e18⟩ := d158 q16
        rw [e17, e18] at h
        have h : MR X ρ 3 0 0 qP76 N 41 [a0, a1, -1] [(1, f158 m a1 1)] (g158 m a1 1) o := h
        have h := CR_pop h rfl
        have h : MR X ρ 3 0 0 qP76 N 42 [a0, a1, -1] [] (g158 m a1 1) o := h
        have h := CR_iload_n h rfl
        have h : MR X ρ 3 0 0 qP76 N 43 [a0, a1, -1] [(1, -1)] (g158 m a1 1) o := h
        exact CR_end h rfl rfl
      · exact absurd c6 (show ¬ ((f153 m a1) = 0) from c13)
  ·
    have c6 : ¬ ((f153 m a1) = 0) := c6
    refine Or.inr ⟨c6, ?_⟩
    have h : MR X ρ 3 0 0 qP76 N 7 [a0, a1, 0] [] m o := h
    have h := CR_aload_n h rfl
    have h : MR X ρ 3 0 0 qP76 N 8 [a0, a1, 0] [(1, a0)] m o := h
    have h := CR_aload_n h rfl
    have h : MR X ρ 3 0 0 qP76 N 9 [a0, a1, 0] [(1, a1), (1, a0)] m o := h
    have h := CR_getf h rfl (by decide)
    have h : MR X ρ 3 0 0 qP76 N 12 [a0, a1, 0] [(2, m a1 7), (1, a0)] m o := h
    obtain ⟨r19, m20, q21, h⟩ := MR_invV h rfl rfl
    have q21 : Run X ρ 75 [(1, a0), (2, m a1 7)] m r19 m20 := q21
    obtain ⟨v22, rfl⟩ := Run_i q21 rfl
    have h : MR X ρ 3 0 0 qP76 N 15 [a0, a1, 0] [(1, v22)] m20 o := h
    refine ⟨v22, m20, q21, ?_⟩
    have h := CR_go h rfl rfl
    have h : MR X ρ 3 0 0 qP76 N 19 [a0, a1, 0] [(1, v22)] m20 o := h
    have h := CR_istore_n h rfl (Nat.le_of_ble_eq_true rfl)
    have h : MR X ρ 3 0 0 qP76 N 20 [a0, a1, v22] [] m20 o := h
    have h := CR_iload_n h rfl
    have h : MR X ρ 3 0 0 qP76 N 21 [a0, a1, v22] [(1, v22)] m20 o := h
    have h := CR_iconst h rfl rfl
    have h : MR X ρ 3 0 0 qP76 N 22 [a0, a1, v22] [(1, -1), (1, v22)] m20 o := h
    rcases MR_icmp h rfl rfl with ⟨c23, h⟩ | ⟨c23, h⟩
    ·
      have c23 : ¬ (v22 = (-1)) := c23
      refine Or.inr ⟨c23, ?_⟩
      have h : MR X ρ 3 0 0 qP76 N 42 [a0, a1, v22] [] m20 o := h
      have h := CR_iload_n h rfl
      have h : MR X ρ 3 0 0 qP76 N 43 [a0, a1, v22] [(1, v22)] m20 o := h
      exact CR_end h rfl rfl
    ·
      have c23 : v22 = (-1) := Decidable.of_not_not (show ¬ ¬ (v22 = (-1)) from c23)
      refine Or.inl ⟨c23, ?_⟩
      have h : MR X ρ 3 0 0 qP76 N 25 [a0, a1, v22] [] m20 o := h
      have h := CR_aload_n h rfl
      have h : MR X ρ 3 0 0 qP76 N 26 [a0, a1, v22] [(1, a1)] m20 o := h
      have h := CR_aload_n h rfl
      have h : MR X ρ 3 0 0 qP76 N 27 [a0, a1, v22] [(1, a1), (1, a1)] m20 o := h
      obtain ⟨r24, m25, q26, h⟩ := MR_invV h rfl rfl
      have q26 : Run X ρ 153 [(1, a1)] m20 r24 m25 := q26
      obtain ⟨e27, e28⟩ := d153 q26
      rw [e27, e28] at h
      have h : MR X ρ 3 0 0 qP76 N 30 [a0, a1, v22] [(1, f153 m20 a1), (1, a1)] m20 o := h
      rcases MR_if h rfl rfl with ⟨c29, h⟩ | ⟨c29, h⟩
      ·
        have c29 : (f153 m20 a1) = 0 := c29
        refine Or.inl ⟨c29, ?_⟩
        have h : MR X ρ 3 0 0 qP76 N 37 [a0, a1, v22] [(1, a1)] m20 o := h
        have h := CR_iconst h rfl rfl
        have h : MR X ρ 3 0 0 qP76 N 38 [a0, a1, v22] [(1, 1), (1, a1)] m20 o := h
        obtain ⟨r30, m31, q32, h⟩ := MR_invV h rfl rfl
        have q32 : Run X ρ 158 [(1, a1), (1, 1)] m20 r30 m31 := q32
        obtain ⟨e33, e34⟩ := d158 q32
        rw [e33, e34] at h
        have h : MR X ρ 3 0 0 qP76 N 41 [a0, a1, v22] [(1, f158 m20 a1 1)] (g158 m20 a1 1) o := h
        have h := CR_pop h rfl
        have h : MR X ρ 3 0 0 qP76 N 42 [a0, a1, v22] [] (g158 m20 a1 1) o := h
        have h := CR_iload_n h rfl
        have h : MR X ρ 3 0 0 qP76 N 43 [a0, a1, v22] [(1, v22)] (g158 m20 a1 1) o := h
        exact CR_end h rfl rfl
      ·
        have c29 : ¬ ((f153 m20 a1) = 0) := c29
        refine Or.inr ⟨c29, ?_⟩
        have h : MR X ρ 3 0 0 qP76 N 33 [a0, a1, v22] [(1, a1)] m20 o := h
        have h := CR_iconst h rfl rfl
        have h : MR X ρ 3 0 0 qP76 N 34 [a0, a1, v22] [(1, 3), (1, a1)] m20 o := h
        have h := CR_go h rfl rfl
        have h : MR X ρ 3 0 0 qP76 N 38 [a0, a1, v22] [(1, 3), (1, a1)] m20 o := h
        obtain ⟨r35, m36, q37, h⟩ := MR_invV h rfl rfl
        have q37 : Run X ρ 158 [(1, a1), (1, 3)] m20 r35 m36 := q37
        obtain ⟨e38, e39⟩ := d158 q37
        rw [e38, e39] at h
        have h : MR X ρ 3 0 0 qP76 N 41 [a0, a1, v22] [(1, f158 m20 a1 3)] (g158 m20 a1 3) o := h
        have h := CR_pop h rfl
        have h : MR X ρ 3 0 0 qP76 N 42 [a0, a1, v22] [] (g158 m20 a1 3) o := h
        have h := CR_iload_n h rfl
        have h : MR X ρ 3 0 0 qP76 N 43 [a0, a1, v22] [(1, v22)] (g158 m20 a1 3) o := h
        exact CR_end h rfl rfl
set_option maxRecDepth 16384 in
theorem i74_0 {X : KO} {ρ : Nat → Int32} {m : MM} {N : Nat} {o : Instr × List (Nat × Int) × MM} {a0 a1 : Int} (h : MR X ρ 2 0 0 qP74 N 0 [a0, a1] [] m o) : ((((f153 m a1) = 0) ∧ (o = (.ireturn, [(1, f158 m a1 1)], g158 m a1 1))) ∨ (¬ ((f153 m a1) = 0) ∧ (∃ v10 m8, Run X ρ 75 [(1, a0), (2, m a1 7)] m [(1, v10)] m8 ∧ (((v10 = (-1)) ∧ (∃ v20 m18, Run X ρ 70 [(1, a0), (2, m8 a1 7)] m8 [(1, v20)] m18 ∧ (((v20 = (-1)) ∧ (o = (.ireturn, [(1, 1)], m18))) ∨ (¬ (v20 = (-1)) ∧ (o = (.ireturn, [(1, f158 m18 a1 3)], g158 m18 a1 3)))))) ∨ (¬ (v10 = (-1)) ∧ (o = (.ireturn, [(1, f158 m8 a1 3)], g158 m8 a1 3))))))) := by
  have h := CR_aload_n h rfl
  have h : MR X ρ 2 0 0 qP74 N 1 [a0, a1] [(1, a1)] m o := h
  obtain ⟨r1, m2, q3, h⟩ := MR_invV h rfl rfl
  have q3 : Run X ρ 153 [(1, a1)] m r1 m2 := q3
  obtain ⟨e4, e5⟩ := d153 q3
  rw [e4, e5] at h
  have h : MR X ρ 2 0 0 qP74 N 4 [a0, a1] [(1, f153 m a1)] m o := h
  rcases MR_if h rfl rfl with ⟨c6, h⟩ | ⟨c6, h⟩
  ·
    have c6 : ¬ ((f153 m a1) = 0) := c6
    refine Or.inr ⟨c6, ?_⟩
    have h : MR X ρ 2 0 0 qP74 N 13 [a0, a1] [] m o := h
    have h := CR_aload_n h rfl
    have h : MR X ρ 2 0 0 qP74 N 14 [a0, a1] [(1, a0)] m o := h
    have h := CR_aload_n h rfl
    have h : MR X ρ 2 0 0 qP74 N 15 [a0, a1] [(1, a1), (1, a0)] m o := h
    have h := CR_getf h rfl (by decide)
    have h : MR X ρ 2 0 0 qP74 N 18 [a0, a1] [(2, m a1 7), (1, a0)] m o := h
    obtain ⟨r7, m8, q9, h⟩ := MR_invV h rfl rfl
    have q9 : Run X ρ 75 [(1, a0), (2, m a1 7)] m r7 m8 := q9
    obtain ⟨v10, rfl⟩ := Run_i q9 rfl
    have h : MR X ρ 2 0 0 qP74 N 21 [a0, a1] [(1, v10)] m8 o := h
    refine ⟨v10, m8, q9, ?_⟩
    have h := CR_iconst h rfl rfl
    have h : MR X ρ 2 0 0 qP74 N 22 [a0, a1] [(1, -1), (1, v10)] m8 o := h
    rcases MR_icmp h rfl rfl with ⟨c11, h⟩ | ⟨c11, h⟩
    ·
      have c11 : ¬ (v10 = (-1)) := c11
      refine Or.inr ⟨c11, ?_⟩
      have h : MR X ρ 2 0 0 qP74 N 37 [a0, a1] [] m8 o := h
      have h := CR_aload_n h rfl
      have h : MR X ρ 2 0 0 qP74 N 38 [a0, a1] [(1, a1)] m8 o := h
      have h := CR_iconst h rfl rfl
      have h : MR X ρ 2 0 0 qP74 N 39 [a0, a1] [(1, 3), (1, a1)] m8 o := h
      obtain ⟨r12, m13, q14, h⟩ := MR_invV h rfl rfl
      have q14 : Run X ρ 158 [(1, a1), (1, 3)] m8 r12 m13 := q14
      obtain ⟨e15, e16⟩ := d158 q14
      rw [e15, e16] at h
      have h : MR X ρ 2 0 0 qP74 N 42 [a0, a1] [(1, f158 m8 a1 3)] (g158 m8 a1 3) o := h
      exact CR_end h rfl rfl
    ·
      have c11 : v10 = (-1) := Decidable.of_not_not (show ¬ ¬ (v10 = (-1)) from c11)
      refine Or.inl ⟨c11, ?_⟩
      have h : MR X ρ 2 0 0 qP74 N 25 [a0, a1] [] m8 o := h
      have h := CR_aload_n h rfl
      have h : MR X ρ 2 0 0 qP74 N 26 [a0, a1] [(1, a0)] m8 o := h
      have h := CR_aload_n h rfl
      have h : MR X ρ 2 0 0 qP74 N 27 [a0, a1] [(1, a1), (1, a0)] m8 o := h
      have h := CR_getf h rfl (by decide)
      have h : MR X ρ 2 0 0 qP74 N 30 [a0, a1] [(2, m8 a1 7), (1, a0)] m8 o := h
      obtain ⟨r17, m18, q19, h⟩ := MR_invV h rfl rfl
      have q19 : Run X ρ 70 [(1, a0), (2, m8 a1 7)] m8 r17 m18 := q19
      obtain ⟨v20, rfl⟩ := Run_i q19 rfl
      have h : MR X ρ 2 0 0 qP74 N 33 [a0, a1] [(1, v20)] m18 o := h
      refine ⟨v20, m18, q19, ?_⟩
      have h := CR_iconst h rfl rfl
      have h : MR X ρ 2 0 0 qP74 N 34 [a0, a1] [(1, -1), (1, v20)] m18 o := h
      rcases MR_icmp h rfl rfl with ⟨c21, h⟩ | ⟨c21, h⟩
      ·
        have c21 : v20 = (-1) := c21
        refine Or.inl ⟨c21, ?_⟩
        have h : MR X ρ 2 0 0 qP74 N 43 [a0, a1] [] m18 o := h
        have h := CR_iconst h rfl rfl
        have h : MR X ρ 2 0 0 qP74 N 44 [a0, a1] [(1, 1)] m18 o := h
        exact CR_end h rfl rfl
      ·
        have c21 : ¬ (v20 = (-1)) := c21
        refine Or.inr ⟨c21, ?_⟩
        have h : MR X ρ 2 0 0 qP74 N 37 [a0, a1] [] m18 o := h
        have h := CR_aload_n h rfl
        have h : MR X ρ 2 0 0 qP74 N 38 [a0, a1] [(1, a1)] m18 o := h
        have h := CR_iconst h rfl rfl
        have h : MR X ρ 2 0 0 qP74 N 39 [a0, a1] [(1, 3), (1, a1)] m18 o := h
        obtain ⟨r22, m23, q24, h⟩ := MR_invV h rfl rfl
        have q24 : Run X ρ 158 [(1, a1), (1, 3)] m18 r22 m23 := q24
        obtain ⟨e25, e26⟩ := d158 q24
        rw [e25, e26] at h
        have h : MR X ρ 2 0 0 qP74 N 42 [a0, a1] [(1, f158 m18 a1 3)] (g158 m18 a1 3) o := h
        exact CR_end h rfl rfl
  ·
    have c6 : (f153 m a1) = 0 := Decidable.of_not_not (show ¬ ¬ ((f153 m a1) = 0) from c6)
    refine Or.inl ⟨c6, ?_⟩
    have h : MR X ρ 2 0 0 qP74 N 7 [a0, a1] [] m o := h
    have h := CR_aload_n h rfl
    have h : MR X ρ 2 0 0 qP74 N 8 [a0, a1] [(1, a1)] m o := h
    have h := CR_iconst h rfl rfl
    have h : MR X ρ 2 0 0 qP74 N 9 [a0, a1] [(1, 1), (1, a1)] m o := h
    obtain ⟨r27, m28, q29, h⟩ := MR_invV h rfl rfl
    have q29 : Run X ρ 158 [(1, a1), (1, 1)] m r27 m28 := q29
    obtain ⟨e30, e31⟩ := d158 q29
    rw [e30, e31] at h
    have h : MR X ρ 2 0 0 qP74 N 12 [a0, a1] [(1, f158 m a1 1)] (g158 m a1 1) o := h
    exact CR_end h rfl rfl
set_option maxRecDepth 16384 in
theorem i80_0 {X : KO} {ρ : Nat → Int32} {m : MM} {N : Nat} {o : Instr × List (Nat × Int) × MM} {a0 a1 a2 : Int} (h : MR X ρ 3 0 0 qP80 N 0 [a0, a1, a2] [] m o) : ((((m a0 6) < 0) ∧ (o = (.ireturn, [(1, f158 m a1 4)], g158 m a1 4))) ∨ (¬ ((m a0 6) < 0) ∧ ((((m a0 6) < 8) ∧ (∃ m9, Run X ρ 148 [(1, a1)] m [] m9 ∧ (∃ v14 m12, Run X ρ 74 [(1, a0), (1, a1)] m9 [(1, v14)] m12 ∧ (v14 = 0 ∨ v14 = 1) ∧ (((v14 = 0) ∧ (o = (.ireturn, [(1, 0)], m12))) ∨ (¬ (v14 = 0) ∧ (∃ m17, Run X ρ 148 [(1, a1)] (mu m12 (m12 a0 0) (m12 a0 6) (m12 a1 7)) [] m17 ∧ ((((f155 X m17 a1 1000014) = 0) ∧ (∃ v28 m26, Run X ρ 160 [(1, a1), (1, 59)] (mu m17 a0 6 (s32 ((m17 a0 6) + 1))) [(1, v28)] m26 ∧ (v28 = 0 ∨ v28 = 1) ∧ (o = (.ireturn, [(1, v28)], m26)))) ∨ (¬ ((f155 X m17 a1 1000014) = 0) ∧ (∃ m30, Run X ρ 148 [(1, a1)] (mu m17 a2 7 (jor (m17 a2 7) (jshl 1 (m17 a0 6)))) [] m30 ∧ (∃ v35 m33, Run X ρ 160 [(1, a1), (1, 59)] (mu m30 a0 6 (s32 ((m30 a0 6) + 1))) [(1, v35)] m33 ∧ (v35 = 0 ∨ v35 = 1) ∧ (o = (.ireturn, [(1, v35)], m33)))))))))))) ∨ (¬ ((m a0 6) < 8) ∧ (o = (.ireturn, [(1, f158 m a1 4)], g158 m a1 4)))))) := by
  have h := CR_aload_n h rfl
  have h : MR X ρ 3 0 0 qP80 N 1 [a0, a1, a2] [(1, a0)] m o := h
  have h := CR_getf h rfl (by decide)
  have h : MR X ρ 3 0 0 qP80 N 4 [a0, a1, a2] [(1, m a0 6)] m o := h
  rcases MR_if h rfl rfl with ⟨c1, h⟩ | ⟨c1, h⟩
  ·
    have c1 : (m a0 6) < 0 := c1
    refine Or.inl ⟨c1, ?_⟩
    have h : MR X ρ 3 0 0 qP80 N 16 [a0, a1, a2] [] m o := h
    have h := CR_aload_n h rfl
    have h : MR X ρ 3 0 0 qP80 N 17 [a0, a1, a2] [(1, a1)] m o := h
    have h := CR_iconst h rfl rfl
    have h : MR X ρ 3 0 0 qP80 N 18 [a0, a1, a2] [(1, 4), (1, a1)] m o := h
    obtain ⟨r2, m3, q4, h⟩ := MR_invV h rfl rfl
    have q4 : Run X ρ 158 [(1, a1), (1, 4)] m r2 m3 := q4
    obtain ⟨e5, e6⟩ := d158 q4
    rw [e5, e6] at h
    have h : MR X ρ 3 0 0 qP80 N 21 [a0, a1, a2] [(1, f158 m a1 4)] (g158 m a1 4) o := h
    exact CR_end h rfl rfl
  ·
    have c1 : ¬ ((m a0 6) < 0) := c1
    refine Or.inr ⟨c1, ?_⟩
    have h : MR X ρ 3 0 0 qP80 N 7 [a0, a1, a2] [] m o := h
    have h := CR_aload_n h rfl
    have h : MR X ρ 3 0 0 qP80 N 8 [a0, a1, a2] [(1, a0)] m o := h
    have h := CR_getf h rfl (by decide)
    have h : MR X ρ 3 0 0 qP80 N 11 [a0, a1, a2] [(1, m a0 6)] m o := h
    have h := CR_bipush h rfl rfl
    have h : MR X ρ 3 0 0 qP80 N 13 [a0, a1, a2] [(1, 8), (1, m a0 6)] m o := h
    rcases MR_icmp h rfl rfl with ⟨c7, h⟩ | ⟨c7, h⟩
    ·
      have c7 : (m a0 6) < 8 := c7
      refine Or.inl ⟨c7, ?_⟩
      have h : MR X ρ 3 0 0 qP80 N 22 [a0, a1, a2] [] m o := h
      have h := CR_aload_n h rfl
      have h : MR X ρ 3 0 0 qP80 N 23 [a0, a1, a2] [(1, a1)] m o := h
      obtain ⟨r8, m9, q10, h⟩ := MR_invV h rfl rfl
      have q10 : Run X ρ 148 [(1, a1)] m r8 m9 := q10
      obtain rfl := Run_v q10 rfl
      have h : MR X ρ 3 0 0 qP80 N 26 [a0, a1, a2] [] m9 o := h
      refine ⟨m9, q10, ?_⟩
      have h := CR_aload_n h rfl
      have h : MR X ρ 3 0 0 qP80 N 27 [a0, a1, a2] [(1, a0)] m9 o := h
      have h := CR_aload_n h rfl
      have h : MR X ρ 3 0 0 qP80 N 28 [a0, a1, a2] [(1, a1), (1, a0)] m9 o := h
      obtain ⟨r11, m12, q13, h⟩ := MR_invV h rfl rfl
      have q13 : Run X ρ 74 [(1, a0), (1, a1)] m9 r11 m12 := q13
      obtain ⟨v14, rfl, zv14⟩ := Run_z q13 rfl
      have h : MR X ρ 3 0 0 qP80 N 31 [a0, a1, a2] [(1, v14)] m12 o := h
      refine ⟨v14, m12, q13, zv14, ?_⟩
      rcases MR_if h rfl rfl with ⟨c15, h⟩ | ⟨c15, h⟩
      ·
        have c15 : ¬ (v14 = 0) := c15
        refine Or.inr ⟨c15, ?_⟩
        have h : MR X ρ 3 0 0 qP80 N 36 [a0, a1, a2] [] m12 o := h
        have h := CR_aload_n h rfl
        have h : MR X ρ 3 0 0 qP80 N 37 [a0, a1, a2] [(1, a0)] m12 o := h
        have h := CR_getf h rfl (by decide)
        have h : MR X ρ 3 0 0 qP80 N 40 [a0, a1, a2] [(1, m12 a0 0)] m12 o := h
        have h := CR_aload_n h rfl
        have h : MR X ρ 3 0 0 qP80 N 41 [a0, a1, a2] [(1, a0), (1, m12 a0 0)] m12 o := h
        have h := CR_getf h rfl (by decide)
        have h : MR X ρ 3 0 0 qP80 N 44 [a0, a1, a2] [(1, m12 a0 6), (1, m12 a0 0)] m12 o := h
        have h := CR_aload_n h rfl
        have h : MR X ρ 3 0 0 qP80 N 45 [a0, a1, a2] [(1, a1), (1, m12 a0 6), (1, m12 a0 0)] m12 o := h
        have h := CR_getf h rfl (by decide)
        have h : MR X ρ 3 0 0 qP80 N 48 [a0, a1, a2] [(2, m12 a1 7), (1, m12 a0 6), (1, m12 a0 0)] m12 o := h
        have h := CR_last h rfl
        have h : MR X ρ 3 0 0 qP80 N 49 [a0, a1, a2] [] (mu m12 (m12 a0 0) (m12 a0 6) (m12 a1 7)) o := h
        have h := CR_aload_n h rfl
        have h : MR X ρ 3 0 0 qP80 N 50 [a0, a1, a2] [(1, a1)] (mu m12 (m12 a0 0) (m12 a0 6) (m12 a1 7)) o := h
        obtain ⟨r16, m17, q18, h⟩ := MR_invV h rfl rfl
        have q18 : Run X ρ 148 [(1, a1)] (mu m12 (m12 a0 0) (m12 a0 6) (m12 a1 7)) r16 m17 := q18
        obtain rfl := Run_v q18 rfl
        have h : MR X ρ 3 0 0 qP80 N 53 [a0, a1, a2] [] m17 o := h
        refine ⟨m17, q18, ?_⟩
        have h := CR_aload_n h rfl
        have h : MR X ρ 3 0 0 qP80 N 54 [a0, a1, a2] [(1, a1)] m17 o := h
        have h := CR_getstatic h rfl
        have h : MR X ρ 3 0 0 qP80 N 57 [a0, a1, a2] [(1, 1000014), (1, a1)] m17 o := h
        obtain ⟨r19, m20, q21, h⟩ := MR_invV h rfl rfl
        have q21 : Run X ρ 155 [(1, a1), (1, 1000014)] m17 r19 m20 := q21
        obtain ⟨e22, e23⟩ := d155 q21
        rw [e22, e23] at h
        have h : MR X ρ 3 0 0 qP80 N 60 [a0, a1, a2] [(1, f155 X m17 a1 1000014)] m17 o := h
        rcases MR_if h rfl rfl with ⟨c24, h⟩ | ⟨c24, h⟩
        ·
          have c24 : (f155 X m17 a1 1000014) = 0 := c24
          refine Or.inl ⟨c24, ?_⟩
          have h : MR X ρ 3 0 0 qP80 N 82 [a0, a1, a2] [] m17 o := h
          have h := CR_aload_n h rfl
          have h : MR X ρ 3 0 0 qP80 N 83 [a0, a1, a2] [(1, a0)] m17 o := h
          have h := CR_dup h rfl
          have h : MR X ρ 3 0 0 qP80 N 84 [a0, a1, a2] [(1, a0), (1, a0)] m17 o := h
          have h := CR_getf h rfl (by decide)
          have h : MR X ρ 3 0 0 qP80 N 87 [a0, a1, a2] [(1, m17 a0 6), (1, a0)] m17 o := h
          have h := CR_iconst h rfl rfl
          have h : MR X ρ 3 0 0 qP80 N 88 [a0, a1, a2] [(1, 1), (1, m17 a0 6), (1, a0)] m17 o := h
          have h := CR_iadd h rfl
          have h : MR X ρ 3 0 0 qP80 N 89 [a0, a1, a2] [(1, s32 ((m17 a0 6) + 1)), (1, a0)] m17 o := h
          have h := CR_putf h rfl
          have h : MR X ρ 3 0 0 qP80 N 92 [a0, a1, a2] [] (mu m17 a0 6 (s32 ((m17 a0 6) + 1))) o := h
          have h := CR_aload_n h rfl
          have h : MR X ρ 3 0 0 qP80 N 93 [a0, a1, a2] [(1, a1)] (mu m17 a0 6 (s32 ((m17 a0 6) + 1))) o := h
          have h := CR_bipush h rfl rfl
          have h : MR X ρ 3 0 0 qP80 N 95 [a0, a1, a2] [(1, 59), (1, a1)] (mu m17 a0 6 (s32 ((m17 a0 6) + 1))) o := h
          obtain ⟨r25, m26, q27, h⟩ := MR_invV h rfl rfl
          have q27 : Run X ρ 160 [(1, a1), (1, 59)] (mu m17 a0 6 (s32 ((m17 a0 6) + 1))) r25 m26 := q27
          obtain ⟨v28, rfl, zv28⟩ := Run_z q27 rfl
          have h : MR X ρ 3 0 0 qP80 N 98 [a0, a1, a2] [(1, v28)] m26 o := h
          refine ⟨v28, m26, q27, zv28, ?_⟩
          exact CR_end h rfl rfl
        ·
          have c24 : ¬ ((f155 X m17 a1 1000014) = 0) := c24
          refine Or.inr ⟨c24, ?_⟩
          have h : MR X ρ 3 0 0 qP80 N 63 [a0, a1, a2] [] m17 o := h
          have h := CR_aload_n h rfl
          have h : MR X ρ 3 0 0 qP80 N 64 [a0, a1, a2] [(1, a2)] m17 o := h
          have h := CR_dup h rfl
          have h : MR X ρ 3 0 0 qP80 N 65 [a0, a1, a2] [(1, a2), (1, a2)] m17 o := h
          have h := CR_getf h rfl (by decide)
          have h : MR X ρ 3 0 0 qP80 N 68 [a0, a1, a2] [(1, m17 a2 7), (1, a2)] m17 o := h
          have h := CR_iconst h rfl rfl
          have h : MR X ρ 3 0 0 qP80 N 69 [a0, a1, a2] [(1, 1), (1, m17 a2 7), (1, a2)] m17 o := h
          have h := CR_aload_n h rfl
          have h : MR X ρ 3 0 0 qP80 N 70 [a0, a1, a2] [(1, a0), (1, 1), (1, m17 a2 7), (1, a2)] m17 o := h
          have h := CR_getf h rfl (by decide)
          have h : MR X ρ 3 0 0 qP80 N 73 [a0, a1, a2] [(1, m17 a0 6), (1, 1), (1, m17 a2 7), (1, a2)] m17 o := h
          have h := CR_ishl h rfl
          have h : MR X ρ 3 0 0 qP80 N 74 [a0, a1, a2] [(1, jshl 1 (m17 a0 6)), (1, m17 a2 7), (1, a2)] m17 o := h
          have h := CR_ior h rfl
          have h : MR X ρ 3 0 0 qP80 N 75 [a0, a1, a2] [(1, jor (m17 a2 7) (jshl 1 (m17 a0 6))), (1, a2)] m17 o := h
          have h := CR_putf h rfl
          have h : MR X ρ 3 0 0 qP80 N 78 [a0, a1, a2] [] (mu m17 a2 7 (jor (m17 a2 7) (jshl 1 (m17 a0 6)))) o := h
          have h := CR_aload_n h rfl
          have h : MR X ρ 3 0 0 qP80 N 79 [a0, a1, a2] [(1, a1)] (mu m17 a2 7 (jor (m17 a2 7) (jshl 1 (m17 a0 6)))) o := h
          obtain ⟨r29, m30, q31, h⟩ := MR_invV h rfl rfl
          have q31 : Run X ρ 148 [(1, a1)] (mu m17 a2 7 (jor (m17 a2 7) (jshl 1 (m17 a0 6)))) r29 m30 := q31
          obtain rfl := Run_v q31 rfl
          have h : MR X ρ 3 0 0 qP80 N 82 [a0, a1, a2] [] m30 o := h
          refine ⟨m30, q31, ?_⟩
          have h := CR_aload_n h rfl
          have h : MR X ρ 3 0 0 qP80 N 83 [a0, a1, a2] [(1, a0)] m30 o := h
          have h := CR_dup h rfl
          have h : MR X ρ 3 0 0 qP80 N 84 [a0, a1, a2] [(1, a0), (1, a0)] m30 o := h
          have h := CR_getf h rfl (by decide)
          have h : MR X ρ 3 0 0 qP80 N 87 [a0, a1, a2] [(1, m30 a0 6), (1, a0)] m30 o := h
          have h := CR_iconst h rfl rfl
          have h : MR X ρ 3 0 0 qP80 N 88 [a0, a1, a2] [(1, 1), (1, m30 a0 6), (1, a0)] m30 o := h
          have h := CR_iadd h rfl
          have h : MR X ρ 3 0 0 qP80 N 89 [a0, a1, a2] [(1, s32 ((m30 a0 6) + 1)), (1, a0)] m30 o := h
          have h := CR_putf h rfl
          have h : MR X ρ 3 0 0 qP80 N 92 [a0, a1, a2] [] (mu m30 a0 6 (s32 ((m30 a0 6) + 1))) o := h
          have h := CR_aload_n h rfl
          have h : MR X ρ 3 0 0 qP80 N 93 [a0, a1, a2] [(1, a1)] (mu m30 a0 6 (s32 ((m30 a0 6) + 1))) o := h
          have h := CR_bipush h rfl rfl
          have h : MR X ρ 3 0 0 qP80 N 95 [a0, a1, a2] [(1, 59), (1, a1)] (mu m30 a0 6 (s32 ((m30 a0 6) + 1))) o := h
          obtain ⟨r32, m33, q34, h⟩ := MR_invV h rfl rfl
          have q34 : Run X ρ 160 [(1, a1), (1, 59)] (mu m30 a0 6 (s32 ((m30 a0 6) + 1))) r32 m33 := q34
          obtain ⟨v35, rfl, zv35⟩ := Run_z q34 rfl
          have h : MR X ρ 3 0 0 qP80 N 98 [a0, a1, a2] [(1, v35)] m33 o := h
          refine ⟨v35, m33, q34, zv35, ?_⟩
          exact CR_end h rfl rfl
      ·
        have c15 : v14 = 0 := Decidable.of_not_not (show ¬ ¬ (v14 = 0) from c15)
        refine Or.inl ⟨c15, ?_⟩
        have h : MR X ρ 3 0 0 qP80 N 34 [a0, a1, a2] [] m12 o := h
        have h := CR_iconst h rfl rfl
        have h : MR X ρ 3 0 0 qP80 N 35 [a0, a1, a2] [(1, 0)] m12 o := h
        exact CR_end h rfl rfl
    ·
      have c7 : ¬ ((m a0 6) < 8) := c7
      refine Or.inr ⟨c7, ?_⟩
      have h : MR X ρ 3 0 0 qP80 N 16 [a0, a1, a2] [] m o := h
      have h := CR_aload_n h rfl
      have h : MR X ρ 3 0 0 qP80 N 17 [a0, a1, a2] [(1, a1)] m o := h
      have h := CR_iconst h rfl rfl
      have h : MR X ρ 3 0 0 qP80 N 18 [a0, a1, a2] [(1, 4), (1, a1)] m o := h
      obtain ⟨r36, m37, q38, h⟩ := MR_invV h rfl rfl
      have q38 : Run X ρ 158 [(1, a1), (1, 4)] m r36 m37 := q38
      obtain ⟨e39, e40⟩ := d158 q38
      rw [e39, e40] at h
      have h : MR X ρ 3 0 0 qP80 N 21 [a0, a1, a2] [(1, f158 m a1 4)] (g158 m a1 4) o := h
      exact CR_end h rfl rfl
set_option maxRecDepth 16384 in
theorem i78_0 {X : KO} {ρ : Nat → Int32} {m : MM} {N : Nat} {o : Instr × List (Nat × Int) × MM} {a0 a1 a2 : Int} (h : MR X ρ 6 0 0 qP78 N 0 [a0, a1, a2, 0, 0, 0] [] m o) : (∃ m2, Run X ρ 148 [(1, a1)] m [] m2 ∧ (∃ v7 m5, Run X ρ 76 [(1, a0), (1, a1)] m2 [(1, v7)] m5 ∧ (((v7 = (-1)) ∧ (o = (.ireturn, [(1, 0)], m5))) ∨ (¬ (v7 = (-1)) ∧ (∃ m10, Run X ρ 148 [(1, a1)] m5 [] m10 ∧ (∃ v15 m13, Run X ρ 76 [(1, a0), (1, a1)] m10 [(1, v15)] m13 ∧ (((v15 = (-1)) ∧ (o = (.ireturn, [(1, 0)], m13))) ∨ (¬ (v15 = (-1)) ∧ (((v7 = v15) ∧ (o = (.ireturn, [(1, f158 m13 a1 3)], g158 m13 a1 3))) ∨ (¬ (v7 = v15) ∧ ((((f124 m13 a2 v7 v15) = 0) ∧ (∃ m30, Run X ρ 148 [(1, a1)] m13 [] m30 ∧ ((((f156 m30 a1 1 9) = (-1)) ∧ (o = (.ireturn, [(1, 0)], g156 m30 a1 1 9))) ∨ (¬ ((f156 m30 a1 1 9) = (-1)) ∧ (∃ m44, Run X ρ 148 [(1, a1)] (g108 (g156 m30 a1 1 9) a2 v7 v15 (f156 m30 a1 1 9)) [] m44 ∧ (∃ v49 m47, Run X ρ 160 [(1, a1), (1, 59)] m44 [(1, v49)] m47 ∧ (v49 = 0 ∨ v49 = 1) ∧ (o = (.ireturn, [(1, v49)], m47)))))))) ∨ (¬ ((f124 m13 a2 v7 v15) = 0) ∧ (o = (.ireturn, [(1, f158 m13 a1 3)], g158 m13 a1 3)))))))))))))) := by
  have h := CR_aload_n h rfl
  have h : MR X ρ 6 0 0 qP78 N 1 [a0, a1, a2, 0, 0, 0] [(1, a1)] m o := h
  obtain ⟨r1, m2, q3, h⟩ := MR_invV h rfl rfl
  have q3 : Run X ρ 148 [(1, a1)] m r1 m2 := q3
  obtain rfl := Run_v q3 rfl
  have h : MR X ρ 6 0 0 qP78 N 4 [a0, a1, a2, 0, 0, 0] [] m2 o := h
  refine ⟨m2, q3, ?_⟩
  have h := CR_aload_n h rfl
  have h : MR X ρ 6 0 0 qP78 N 5 [a0, a1, a2, 0, 0, 0] [(1, a0)] m2 o := h
  have h := CR_aload_n h rfl
  have h : MR X ρ 6 0 0 qP78 N 6 [a0, a1, a2, 0, 0, 0] [(1, a1), (1, a0)] m2 o := h
  obtain ⟨r4, m5, q6, h⟩ := MR_invV h rfl rfl
  have q6 : Run X ρ 76 [(1, a0), (1, a1)] m2 r4 m5 := q6
  obtain ⟨v7, rfl⟩ := Run_i q6 rfl
  have h : MR X ρ 6 0 0 qP78 N 9 [a0, a1, a2, 0, 0, 0] [(1, v7)] m5 o := h
  refine ⟨v7, m5, q6, ?_⟩
  have h := CR_istore_n h rfl (Nat.le_of_ble_eq_true rfl)
  have h : MR X ρ 6 0 0 qP78 N 10 [a0, a1, a2, v7, 0, 0] [] m5 o := h
  have h := CR_iload_n h rfl
  have h : MR X ρ 6 0 0 qP78 N 11 [a0, a1, a2, v7, 0, 0] [(1, v7)] m5 o := h
  have h := CR_iconst h rfl rfl
  have h : MR X ρ 6 0 0 qP78 N 12 [a0, a1, a2, v7, 0, 0] [(1, -1), (1, v7)] m5 o := h
  rcases MR_icmp h rfl rfl with ⟨c8, h⟩ | ⟨c8, h⟩
  ·
    have c8 : ¬ (v7 = (-1)) := c8
    refine Or.inr ⟨c8, ?_⟩
    have h : MR X ρ 6 0 0 qP78 N 17 [a0, a1, a2, v7, 0, 0] [] m5 o := h
    have h := CR_aload_n h rfl
    have h : MR X ρ 6 0 0 qP78 N 18 [a0, a1, a2, v7, 0, 0] [(1, a1)] m5 o := h
    obtain ⟨r9, m10, q11, h⟩ := MR_invV h rfl rfl
    have q11 : Run X ρ 148 [(1, a1)] m5 r9 m10 := q11
    obtain rfl := Run_v q11 rfl
    have h : MR X ρ 6 0 0 qP78 N 21 [a0, a1, a2, v7, 0, 0] [] m10 o := h
    refine ⟨m10, q11, ?_⟩
    have h := CR_aload_n h rfl
    have h : MR X ρ 6 0 0 qP78 N 22 [a0, a1, a2, v7, 0, 0] [(1, a0)] m10 o := h
    have h := CR_aload_n h rfl
    have h : MR X ρ 6 0 0 qP78 N 23 [a0, a1, a2, v7, 0, 0] [(1, a1), (1, a0)] m10 o := h
    obtain ⟨r12, m13, q14, h⟩ := MR_invV h rfl rfl
    have q14 : Run X ρ 76 [(1, a0), (1, a1)] m10 r12 m13 := q14
    obtain ⟨v15, rfl⟩ := Run_i q14 rfl
    have h : MR X ρ 6 0 0 qP78 N 26 [a0, a1, a2, v7, 0, 0] [(1, v15)] m13 o := h
    refine ⟨v15, m13, q14, ?_⟩
    have h := CR_istore h rfl (Nat.le_of_ble_eq_true rfl)
    have h : MR X ρ 6 0 0 qP78 N 28 [a0, a1, a2, v7, v15, 0] [] m13 o := h
    have h := CR_iload h rfl
    have h : MR X ρ 6 0 0 qP78 N 30 [a0, a1, a2, v7, v15, 0] [(1, v15)] m13 o := h
    have h := CR_iconst h rfl rfl
    have h : MR X ρ 6 0 0 qP78 N 31 [a0, a1, a2, v7, v15, 0] [(1, -1), (1, v15)] m13 o := h
    rcases MR_icmp h rfl rfl with ⟨c16, h⟩ | ⟨c16, h⟩
    ·
      have c16 : ¬ (v15 = (-1)) := c16
      refine Or.inr ⟨c16, ?_⟩
      have h : MR X ρ 6 0 0 qP78 N 36 [a0, a1, a2, v7, v15, 0] [] m13 o := h
      have h := CR_iload_n h rfl
      have h : MR X ρ 6 0 0 qP78 N 37 [a0, a1, a2, v7, v15, 0] [(1, v7)] m13 o := h
      have h := CR_iload h rfl
      have h : MR X ρ 6 0 0 qP78 N 39 [a0, a1, a2, v7, v15, 0] [(1, v15), (1, v7)] m13 o := h
      rcases MR_icmp h rfl rfl with ⟨c17, h⟩ | ⟨c17, h⟩
      ·
        have c17 : v7 = v15 := c17
        refine Or.inl ⟨c17, ?_⟩
        have h : MR X ρ 6 0 0 qP78 N 52 [a0, a1, a2, v7, v15, 0] [] m13 o := h
        have h := CR_aload_n h rfl
        have h : MR X ρ 6 0 0 qP78 N 53 [a0, a1, a2, v7, v15, 0] [(1, a1)] m13 o := h
        have h := CR_iconst h rfl rfl
        have h : MR X ρ 6 0 0 qP78 N 54 [a0, a1, a2, v7, v15, 0] [(1, 3), (1, a1)] m13 o := h
        obtain ⟨r18, m19, q20, h⟩ := MR_invV h rfl rfl
        have q20 : Run X ρ 158 [(1, a1), (1, 3)] m13 r18 m19 := q20
        obtain ⟨e21, e22⟩ := d158 q20
        rw [e21, e22] at h
        have h : MR X ρ 6 0 0 qP78 N 57 [a0, a1, a2, v7, v15, 0] [(1, f158 m13 a1 3)] (g158 m13 a1 3) o := h
        exact CR_end h rfl rfl
      ·
        have c17 : ¬ (v7 = v15) := c17
        refine Or.inr ⟨c17, ?_⟩
        have h : MR X ρ 6 0 0 qP78 N 42 [a0, a1, a2, v7, v15, 0] [] m13 o := h
        have h := CR_aload_n h rfl
        have h : MR X ρ 6 0 0 qP78 N 43 [a0, a1, a2, v7, v15, 0] [(1, a2)] m13 o := h
        have h := CR_iload_n h rfl
        have h : MR X ρ 6 0 0 qP78 N 44 [a0, a1, a2, v7, v15, 0] [(1, v7), (1, a2)] m13 o := h
        have h := CR_iload h rfl
        have h : MR X ρ 6 0 0 qP78 N 46 [a0, a1, a2, v7, v15, 0] [(1, v15), (1, v7), (1, a2)] m13 o := h
        obtain ⟨r23, m24, q25, h⟩ := MR_invV h rfl rfl
        have q25 : Run X ρ 124 [(1, a2), (1, v7), (1, v15)] m13 r23 m24 := q25
        obtain ⟨e26, e27⟩ := d124 q25
        rw [e26, e27] at h
        have h : MR X ρ 6 0 0 qP78 N 49 [a0, a1, a2, v7, v15, 0] [(1, f124 m13 a2 v7 v15)] m13 o := h
        rcases MR_if h rfl rfl with ⟨c28, h⟩ | ⟨c28, h⟩
        ·
          have c28 : (f124 m13 a2 v7 v15) = 0 := c28
          refine Or.inl ⟨c28, ?_⟩
          have h : MR X ρ 6 0 0 qP78 N 58 [a0, a1, a2, v7, v15, 0] [] m13 o := h
          have h := CR_aload_n h rfl
          have h : MR X ρ 6 0 0 qP78 N 59 [a0, a1, a2, v7, v15, 0] [(1, a1)] m13 o := h
          obtain ⟨r29, m30, q31, h⟩ := MR_invV h rfl rfl
          have q31 : Run X ρ 148 [(1, a1)] m13 r29 m30 := q31
          obtain rfl := Run_v q31 rfl
          have h : MR X ρ 6 0 0 qP78 N 62 [a0, a1, a2, v7, v15, 0] [] m30 o := h
          refine ⟨m30, q31, ?_⟩
          have h := CR_aload_n h rfl
          have h : MR X ρ 6 0 0 qP78 N 63 [a0, a1, a2, v7, v15, 0] [(1, a1)] m30 o := h
          have h := CR_iconst h rfl rfl
          have h : MR X ρ 6 0 0 qP78 N 64 [a0, a1, a2, v7, v15, 0] [(1, 1), (1, a1)] m30 o := h
          have h := CR_bipush h rfl rfl
          have h : MR X ρ 6 0 0 qP78 N 66 [a0, a1, a2, v7, v15, 0] [(1, 9), (1, 1), (1, a1)] m30 o := h
          obtain ⟨r32, m33, q34, h⟩ := MR_invV h rfl rfl
          have q34 : Run X ρ 156 [(1, a1), (1, 1), (1, 9)] m30 r32 m33 := q34
          obtain ⟨e35, e36⟩ := d156 q34
          rw [e35, e36] at h
          have h : MR X ρ 6 0 0 qP78 N 69 [a0, a1, a2, v7, v15, 0] [(1, f156 m30 a1 1 9)] (g156 m30 a1 1 9) o := h
          have h := CR_istore h rfl (Nat.le_of_ble_eq_true rfl)
          have h : MR X ρ 6 0 0 qP78 N 71 [a0, a1, a2, v7, v15, f156 m30 a1 1 9] [] (g156 m30 a1 1 9) o := h
          have h := CR_iload h rfl
          have h : MR X ρ 6 0 0 qP78 N 73 [a0, a1, a2, v7, v15, f156 m30 a1 1 9] [(1, f156 m30 a1 1 9)] (g156 m30 a1 1 9) o := h
          have h := CR_iconst h rfl rfl
          have h : MR X ρ 6 0 0 qP78 N 74 [a0, a1, a2, v7, v15, f156 m30 a1 1 9] [(1, -1), (1, f156 m30 a1 1 9)] (g156 m30 a1 1 9) o := h
          rcases MR_icmp h rfl rfl with ⟨c37, h⟩ | ⟨c37, h⟩
          ·
            have c37 : ¬ ((f156 m30 a1 1 9) = (-1)) := c37
            refine Or.inr ⟨c37, ?_⟩
            have h : MR X ρ 6 0 0 qP78 N 79 [a0, a1, a2, v7, v15, f156 m30 a1 1 9] [] (g156 m30 a1 1 9) o := h
            have h := CR_aload_n h rfl
            have h : MR X ρ 6 0 0 qP78 N 80 [a0, a1, a2, v7, v15, f156 m30 a1 1 9] [(1, a2)] (g156 m30 a1 1 9) o := h
            have h := CR_iload_n h rfl
            have h : MR X ρ 6 0 0 qP78 N 81 [a0, a1, a2, v7, v15, f156 m30 a1 1 9] [(1, v7), (1, a2)] (g156 m30 a1 1 9) o := h
            have h := CR_iload h rfl
            have h : MR X ρ 6 0 0 qP78 N 83 [a0, a1, a2, v7, v15, f156 m30 a1 1 9] [(1, v15), (1, v7), (1, a2)] (g156 m30 a1 1 9) o := h
            have h := CR_iload h rfl
            have h : MR X ρ 6 0 0 qP78 N 85 [a0, a1, a2, v7, v15, f156 m30 a1 1 9] [(1, f156 m30 a1 1 9), (1, v15), (1, v7), (1, a2)] (g156 m30 a1 1 9) o := h
            obtain ⟨r38, m39, q40, h⟩ := MR_invV h rfl rfl
            have q40 : Run X ρ 108 [(1, a2), (1, v7), (1, v15), (1, f156 m30 a1 1 9)] (g156 m30 a1 1 9) r38 m39 := q40
            obtain ⟨e41, e42⟩ := d108 q40
            rw [e41, e42] at h
            have h : MR X ρ 6 0 0 qP78 N 88 [a0, a1, a2, v7, v15, f156 m30 a1 1 9] [] (g108 (g156 m30 a1 1 9) a2 v7 v15 (f156 m30 a1 1 9)) o := h
            have h := CR_aload_n h rfl
            have h : MR X ρ 6 0 0 qP78 N 89 [a0, a1, a2, v7, v15, f156 m30 a1 1 9] [(1, a1)] (g108 (g156 m30 a1 1 9) a2 v7 v15 (f156 m30 a1 1 9)) o := h
            obtain ⟨r43, m44, q45, h⟩ := MR_invV h rfl rfl
            have q45 : Run X ρ 148 [(1, a1)] (g108 (g156 m30 a1 1 9) a2 v7 v15 (f156 m30 a1 1 9)) r43 m44 := q45
            obtain rfl := Run_v q45 rfl
            have h : MR X ρ 6 0 0 qP78 N 92 [a0, a1, a2, v7, v15, f156 m30 a1 1 9] [] m44 o := h
            refine ⟨m44, q45, ?_⟩
            have h := CR_aload_n h rfl
            have h : MR X ρ 6 0 0 qP78 N 93 [a0, a1, a2, v7, v15, f156 m30 a1 1 9] [(1, a1)] m44 o := h
            have h := CR_bipush h rfl rfl
            have h : MR X ρ 6 0 0 qP78 N 95 [a0, a1, a2, v7, v15, f156 m30 a1 1 9] [(1, 59), (1, a1)] m44 o := h
            obtain ⟨r46, m47, q48, h⟩ := MR_invV h rfl rfl
            have q48 : Run X ρ 160 [(1, a1), (1, 59)] m44 r46 m47 := q48
            obtain ⟨v49, rfl, zv49⟩ := Run_z q48 rfl
            have h : MR X ρ 6 0 0 qP78 N 98 [a0, a1, a2, v7, v15, f156 m30 a1 1 9] [(1, v49)] m47 o := h
            refine ⟨v49, m47, q48, zv49, ?_⟩
            exact CR_end h rfl rfl
          ·
            have c37 : (f156 m30 a1 1 9) = (-1) := Decidable.of_not_not (show ¬ ¬ ((f156 m30 a1 1 9) = (-1)) from c37)
            refine Or.inl ⟨c37, ?_⟩
            have h : MR X ρ 6 0 0 qP78 N 77 [a0, a1, a2, v7, v15, f156 m30 a1 1 9] [] (g156 m30 a1 1 9) o := h
            have h := CR_iconst h rfl rfl
            have h : MR X ρ 6 0 0 qP78 N 78 [a0, a1, a2, v7, v15, f156 m30 a1 1 9] [(1, 0)] (g156 m30 a1 1 9) o := h
            exact CR_end h rfl rfl
        ·
          have c28 : ¬ ((f124 m13 a2 v7 v15) = 0) := c28
          refine Or.inr ⟨c28, ?_⟩
          have h : MR X ρ 6 0 0 qP78 N 52 [a0, a1, a2, v7, v15, 0] [] m13 o := h
          have h := CR_aload_n h rfl
          have h : MR X ρ 6 0 0 qP78 N 53 [a0, a1, a2, v7, v15, 0] [(1, a1)] m13 o := h
          have h := CR_iconst h rfl rfl
          have h : MR X ρ 6 0 0 qP78 N 54 [a0, a1, a2, v7, v15, 0] [(1, 3), (1, a1)] m13 o := h
          obtain ⟨r50, m51, q52, h⟩ := MR_invV h rfl rfl
          have q52 : Run X ρ 158 [(1, a1), (1, 3)] m13 r50 m51 := q52
          obtain ⟨e53, e54⟩ := d158 q52
          rw [e53, e54] at h
          have h : MR X ρ 6 0 0 qP78 N 57 [a0, a1, a2, v7, v15, 0] [(1, f158 m13 a1 3)] (g158 m13 a1 3) o := h
          exact CR_end h rfl rfl
    ·
      have c16 : v15 = (-1) := Decidable.of_not_not (show ¬ ¬ (v15 = (-1)) from c16)
      refine Or.inl ⟨c16, ?_⟩
      have h : MR X ρ 6 0 0 qP78 N 34 [a0, a1, a2, v7, v15, 0] [] m13 o := h
      have h := CR_iconst h rfl rfl
      have h : MR X ρ 6 0 0 qP78 N 35 [a0, a1, a2, v7, v15, 0] [(1, 0)] m13 o := h
      exact CR_end h rfl rfl
  ·
    have c8 : v7 = (-1) := Decidable.of_not_not (show ¬ ¬ (v7 = (-1)) from c8)
    refine Or.inl ⟨c8, ?_⟩
    have h : MR X ρ 6 0 0 qP78 N 15 [a0, a1, a2, v7, 0, 0] [] m5 o := h
    have h := CR_iconst h rfl rfl
    have h : MR X ρ 6 0 0 qP78 N 16 [a0, a1, a2, v7, 0, 0] [(1, 0)] m5 o := h
    exact CR_end h rfl rfl
set_option maxRecDepth 16384 in
theorem i82_0 {X : KO} {ρ : Nat → Int32} {m : MM} {N : Nat} {o : Instr × List (Nat × Int) × MM} {a0 a1 : Int} (h : MR X ρ 4 0 0 qP82 N 0 [a0, a1, 0, 0] [] m o) : (∃ m2, Run X ρ 148 [(1, a1)] m [] m2 ∧ (∃ v7 m5, Run X ρ 76 [(1, a0), (1, a1)] m2 [(1, v7)] m5 ∧ ((((f73 m5 a0 v7) = 0) ∧ (o = (.ireturn, [(1, 0)], m5))) ∨ (¬ ((f73 m5 a0 v7) = 0) ∧ (∃ m15, Run X ρ 148 [(1, a1)] m5 [] m15 ∧ (∃ v20 m18, Run X ρ 76 [(1, a0), (1, a1)] m15 [(1, v20)] m18 ∧ (((v20 = (-1)) ∧ (o = (.ireturn, [(1, 0)], m18))) ∨ (¬ (v20 = (-1)) ∧ (((v7 = v20) ∧ (o = (.ireturn, [(1, f158 m18 a1 3)], g158 m18 a1 3))) ∨ (¬ (v7 = v20) ∧ ((((jand (m18 (m18 a0 4) v7) (jshl 1 v20)) = 0) ∧ (∃ m30, Run X ρ 148 [(1, a1)] (mu m18 (m18 a0 4) v7 (s32 (jor (m18 (m18 a0 4) v7) (jshl 1 v20)))) [] m30 ∧ (∃ v35 m33, Run X ρ 160 [(1, a1), (1, 59)] m30 [(1, v35)] m33 ∧ (v35 = 0 ∨ v35 = 1) ∧ (o = (.ireturn, [(1, v35)], m33))))) ∨ (¬ ((jand (m18 (m18 a0 4) v7) (jshl 1 v20)) = 0) ∧ (o = (.ireturn, [(1, f158 m18 a1 3)], g158 m18 a1 3)))))))))))))) := by
  have h := CR_aload_n h rfl
  have h : MR X ρ 4 0 0 qP82 N 1 [a0, a1, 0, 0] [(1, a1)] m o := h
  obtain ⟨r1, m2, q3, h⟩ := MR_invV h rfl rfl
  have q3 : Run X ρ 148 [(1, a1)] m r1 m2 := q3
  obtain rfl := Run_v q3 rfl
  have h : MR X ρ 4 0 0 qP82 N 4 [a0, a1, 0, 0] [] m2 o := h
  refine ⟨m2, q3, ?_⟩
  have h := CR_aload_n h rfl
  have h : MR X ρ 4 0 0 qP82 N 5 [a0, a1, 0, 0] [(1, a0)] m2 o := h
  have h := CR_aload_n h rfl
  have h : MR X ρ 4 0 0 qP82 N 6 [a0, a1, 0, 0] [(1, a1), (1, a0)] m2 o := h
  obtain ⟨r4, m5, q6, h⟩ := MR_invV h rfl rfl
  have q6 : Run X ρ 76 [(1, a0), (1, a1)] m2 r4 m5 := q6
  obtain ⟨v7, rfl⟩ := Run_i q6 rfl
  have h : MR X ρ 4 0 0 qP82 N 9 [a0, a1, 0, 0] [(1, v7)] m5 o := h
  refine ⟨v7, m5, q6, ?_⟩
  have h := CR_istore_n h rfl (Nat.le_of_ble_eq_true rfl)
  have h : MR X ρ 4 0 0 qP82 N 10 [a0, a1, v7, 0] [] m5 o := h
  have h := CR_aload_n h rfl
  have h : MR X ρ 4 0 0 qP82 N 11 [a0, a1, v7, 0] [(1, a0)] m5 o := h
  have h := CR_iload_n h rfl
  have h : MR X ρ 4 0 0 qP82 N 12 [a0, a1, v7, 0] [(1, v7), (1, a0)] m5 o := h
  obtain ⟨r8, m9, q10, h⟩ := MR_invV h rfl rfl
  have q10 : Run X ρ 73 [(1, a0), (1, v7)] m5 r8 m9 := q10
  obtain ⟨e11, e12⟩ := d73 q10
  rw [e11, e12] at h
  have h : MR X ρ 4 0 0 qP82 N 15 [a0, a1, v7, 0] [(1, f73 m5 a0 v7)] m5 o := h
  rcases MR_if h rfl rfl with ⟨c13, h⟩ | ⟨c13, h⟩
  ·
    have c13 : ¬ ((f73 m5 a0 v7) = 0) := c13
    refine Or.inr ⟨c13, ?_⟩
    have h : MR X ρ 4 0 0 qP82 N 20 [a0, a1, v7, 0] [] m5 o := h
    have h := CR_aload_n h rfl
    have h : MR X ρ 4 0 0 qP82 N 21 [a0, a1, v7, 0] [(1, a1)] m5 o := h
    obtain ⟨r14, m15, q16, h⟩ := MR_invV h rfl rfl
    have q16 : Run X ρ 148 [(1, a1)] m5 r14 m15 := q16
    obtain rfl := Run_v q16 rfl
    have h : MR X ρ 4 0 0 qP82 N 24 [a0, a1, v7, 0] [] m15 o := h
    refine ⟨m15, q16, ?_⟩
    have h := CR_aload_n h rfl
    have h : MR X ρ 4 0 0 qP82 N 25 [a0, a1, v7, 0] [(1, a0)] m15 o := h
    have h := CR_aload_n h rfl
    have h : MR X ρ 4 0 0 qP82 N 26 [a0, a1, v7, 0] [(1, a1), (1, a0)] m15 o := h
    obtain ⟨r17, m18, q19, h⟩ := MR_invV h rfl rfl
    have q19 : Run X ρ 76 [(1, a0), (1, a1)] m15 r17 m18 := q19
    obtain ⟨v20, rfl⟩ := Run_i q19 rfl
    have h : MR X ρ 4 0 0 qP82 N 29 [a0, a1, v7, 0] [(1, v20)] m18 o := h
    refine ⟨v20, m18, q19, ?_⟩
    have h := CR_istore_n h rfl (Nat.le_of_ble_eq_true rfl)
    have h : MR X ρ 4 0 0 qP82 N 30 [a0, a1, v7, v20] [] m18 o := h
    have h := CR_iload_n h rfl
    have h : MR X ρ 4 0 0 qP82 N 31 [a0, a1, v7, v20] [(1, v20)] m18 o := h
    have h := CR_iconst h rfl rfl
    have h : MR X ρ 4 0 0 qP82 N 32 [a0, a1, v7, v20] [(1, -1), (1, v20)] m18 o := h
    rcases MR_icmp h rfl rfl with ⟨c21, h⟩ | ⟨c21, h⟩
    ·
      have c21 : ¬ (v20 = (-1)) := c21
      refine Or.inr ⟨c21, ?_⟩
      have h : MR X ρ 4 0 0 qP82 N 37 [a0, a1, v7, v20] [] m18 o := h
      have h := CR_iload_n h rfl
      have h : MR X ρ 4 0 0 qP82 N 38 [a0, a1, v7, v20] [(1, v7)] m18 o := h
      have h := CR_iload_n h rfl
      have h : MR X ρ 4 0 0 qP82 N 39 [a0, a1, v7, v20] [(1, v20), (1, v7)] m18 o := h
      rcases MR_icmp h rfl rfl with ⟨c22, h⟩ | ⟨c22, h⟩
      ·
        have c22 : v7 = v20 := c22
        refine Or.inl ⟨c22, ?_⟩
        have h : MR X ρ 4 0 0 qP82 N 55 [a0, a1, v7, v20] [] m18 o := h
        have h := CR_aload_n h rfl
        have h : MR X ρ 4 0 0 qP82 N 56 [a0, a1, v7, v20] [(1, a1)] m18 o := h
        have h := CR_iconst h rfl rfl
        have h : MR X ρ 4 0 0 qP82 N 57 [a0, a1, v7, v20] [(1, 3), (1, a1)] m18 o := h
        obtain ⟨r23, m24, q25, h⟩ := MR_invV h rfl rfl
        have q25 : Run X ρ 158 [(1, a1), (1, 3)] m18 r23 m24 := q25
        obtain ⟨e26, e27⟩ := d158 q25
        rw [e26, e27] at h
        have h : MR X ρ 4 0 0 qP82 N 60 [a0, a1, v7, v20] [(1, f158 m18 a1 3)] (g158 m18 a1 3) o := h
        exact CR_end h rfl rfl
      ·
        have c22 : ¬ (v7 = v20) := c22
        refine Or.inr ⟨c22, ?_⟩
        have h : MR X ρ 4 0 0 qP82 N 42 [a0, a1, v7, v20] [] m18 o := h
        have h := CR_aload_n h rfl
        have h : MR X ρ 4 0 0 qP82 N 43 [a0, a1, v7, v20] [(1, a0)] m18 o := h
        have h := CR_getf h rfl (by decide)
        have h : MR X ρ 4 0 0 qP82 N 46 [a0, a1, v7, v20] [(1, m18 a0 4)] m18 o := h
        have h := CR_iload_n h rfl
        have h : MR X ρ 4 0 0 qP82 N 47 [a0, a1, v7, v20] [(1, v7), (1, m18 a0 4)] m18 o := h
        have h := CR_iaload h rfl rfl
        have h : MR X ρ 4 0 0 qP82 N 48 [a0, a1, v7, v20] [(1, m18 (m18 a0 4) v7)] m18 o := h
        have h := CR_iconst h rfl rfl
        have h : MR X ρ 4 0 0 qP82 N 49 [a0, a1, v7, v20] [(1, 1), (1, m18 (m18 a0 4) v7)] m18 o := h
        have h := CR_iload_n h rfl
        have h : MR X ρ 4 0 0 qP82 N 50 [a0, a1, v7, v20] [(1, v20), (1, 1), (1, m18 (m18 a0 4) v7)] m18 o := h
        have h := CR_ishl h rfl
        have h : MR X ρ 4 0 0 qP82 N 51 [a0, a1, v7, v20] [(1, jshl 1 v20), (1, m18 (m18 a0 4) v7)] m18 o := h
        have h := CR_iand h rfl
        have h : MR X ρ 4 0 0 qP82 N 52 [a0, a1, v7, v20] [(1, jand (m18 (m18 a0 4) v7) (jshl 1 v20))] m18 o := h
        rcases MR_if h rfl rfl with ⟨c28, h⟩ | ⟨c28, h⟩
        ·
          have c28 : (jand (m18 (m18 a0 4) v7) (jshl 1 v20)) = 0 := c28
          refine Or.inl ⟨c28, ?_⟩
          have h : MR X ρ 4 0 0 qP82 N 61 [a0, a1, v7, v20] [] m18 o := h
          have h := CR_aload_n h rfl
          have h : MR X ρ 4 0 0 qP82 N 62 [a0, a1, v7, v20] [(1, a0)] m18 o := h
          have h := CR_getf h rfl (by decide)
          have h : MR X ρ 4 0 0 qP82 N 65 [a0, a1, v7, v20] [(1, m18 a0 4)] m18 o := h
          have h := CR_iload_n h rfl
          have h : MR X ρ 4 0 0 qP82 N 66 [a0, a1, v7, v20] [(1, v7), (1, m18 a0 4)] m18 o := h
          have h := CR_dup2 h rfl
          have h : MR X ρ 4 0 0 qP82 N 67 [a0, a1, v7, v20] [(1, v7), (1, m18 a0 4), (1, v7), (1, m18 a0 4)] m18 o := h
          have h := CR_iaload h rfl rfl
          have h : MR X ρ 4 0 0 qP82 N 68 [a0, a1, v7, v20] [(1, m18 (m18 a0 4) v7), (1, v7), (1, m18 a0 4)] m18 o := h
          have h := CR_iconst h rfl rfl
          have h : MR X ρ 4 0 0 qP82 N 69 [a0, a1, v7, v20] [(1, 1), (1, m18 (m18 a0 4) v7), (1, v7), (1, m18 a0 4)] m18 o := h
          have h := CR_iload_n h rfl
          have h : MR X ρ 4 0 0 qP82 N 70 [a0, a1, v7, v20] [(1, v20), (1, 1), (1, m18 (m18 a0 4) v7), (1, v7), (1, m18 a0 4)] m18 o := h
          have h := CR_ishl h rfl
          have h : MR X ρ 4 0 0 qP82 N 71 [a0, a1, v7, v20] [(1, jshl 1 v20), (1, m18 (m18 a0 4) v7), (1, v7), (1, m18 a0 4)] m18 o := h
          have h := CR_ior h rfl
          have h : MR X ρ 4 0 0 qP82 N 72 [a0, a1, v7, v20] [(1, jor (m18 (m18 a0 4) v7) (jshl 1 v20)), (1, v7), (1, m18 a0 4)] m18 o := h
          have h := CR_iastore_ h rfl
          have h : MR X ρ 4 0 0 qP82 N 73 [a0, a1, v7, v20] [] (mu m18 (m18 a0 4) v7 (s32 (jor (m18 (m18 a0 4) v7) (jshl 1 v20)))) o := h
          have h := CR_aload_n h rfl
          have h : MR X ρ 4 0 0 qP82 N 74 [a0, a1, v7, v20] [(1, a1)] (mu m18 (m18 a0 4) v7 (s32 (jor (m18 (m18 a0 4) v7) (jshl 1 v20)))) o := h
          obtain ⟨r29, m30, q31, h⟩ := MR_invV h rfl rfl
          have q31 : Run X ρ 148 [(1, a1)] (mu m18 (m18 a0 4) v7 (s32 (jor (m18 (m18 a0 4) v7) (jshl 1 v20)))) r29 m30 := q31
          obtain rfl := Run_v q31 rfl
          have h : MR X ρ 4 0 0 qP82 N 77 [a0, a1, v7, v20] [] m30 o := h
          refine ⟨m30, q31, ?_⟩
          have h := CR_aload_n h rfl
          have h : MR X ρ 4 0 0 qP82 N 78 [a0, a1, v7, v20] [(1, a1)] m30 o := h
          have h := CR_bipush h rfl rfl
          have h : MR X ρ 4 0 0 qP82 N 80 [a0, a1, v7, v20] [(1, 59), (1, a1)] m30 o := h
          obtain ⟨r32, m33, q34, h⟩ := MR_invV h rfl rfl
          have q34 : Run X ρ 160 [(1, a1), (1, 59)] m30 r32 m33 := q34
          obtain ⟨v35, rfl, zv35⟩ := Run_z q34 rfl
          have h : MR X ρ 4 0 0 qP82 N 83 [a0, a1, v7, v20] [(1, v35)] m33 o := h
          refine ⟨v35, m33, q34, zv35, ?_⟩
          exact CR_end h rfl rfl
        ·
          have c28 : ¬ ((jand (m18 (m18 a0 4) v7) (jshl 1 v20)) = 0) := c28
          refine Or.inr ⟨c28, ?_⟩
          have h : MR X ρ 4 0 0 qP82 N 55 [a0, a1, v7, v20] [] m18 o := h
          have h := CR_aload_n h rfl
          have h : MR X ρ 4 0 0 qP82 N 56 [a0, a1, v7, v20] [(1, a1)] m18 o := h
          have h := CR_iconst h rfl rfl
          have h : MR X ρ 4 0 0 qP82 N 57 [a0, a1, v7, v20] [(1, 3), (1, a1)] m18 o := h
          obtain ⟨r36, m37, q38, h⟩ := MR_invV h rfl rfl
          have q38 : Run X ρ 158 [(1, a1), (1, 3)] m18 r36 m37 := q38
          obtain ⟨e39, e40⟩ := d158 q38
          rw [e39, e40] at h
          have h : MR X ρ 4 0 0 qP82 N 60 [a0, a1, v7, v20] [(1, f158 m18 a1 3)] (g158 m18 a1 3) o := h
          exact CR_end h rfl rfl
    ·
      have c21 : v20 = (-1) := Decidable.of_not_not (show ¬ ¬ (v20 = (-1)) from c21)
      refine Or.inl ⟨c21, ?_⟩
      have h : MR X ρ 4 0 0 qP82 N 35 [a0, a1, v7, v20] [] m18 o := h
      have h := CR_iconst h rfl rfl
      have h : MR X ρ 4 0 0 qP82 N 36 [a0, a1, v7, v20] [(1, 0)] m18 o := h
      exact CR_end h rfl rfl
  ·
    have c13 : (f73 m5 a0 v7) = 0 := Decidable.of_not_not (show ¬ ¬ ((f73 m5 a0 v7) = 0) from c13)
    refine Or.inl ⟨c13, ?_⟩
    have h : MR X ρ 4 0 0 qP82 N 18 [a0, a1, v7, 0] [] m5 o := h
    have h := CR_iconst h rfl rfl
    have h : MR X ρ 4 0 0 qP82 N 19 [a0, a1, v7, 0] [(1, 0)] m5 o := h
    exact CR_end h rfl rfl
set_option maxRecDepth 16384 in
theorem i77_0 {X : KO} {ρ : Nat → Int32} {m : MM} {N : Nat} {o : Instr × List (Nat × Int) × MM} {a0 a1 : Int} (h : MR X ρ 6 0 0 qP77 N 0 [a0, a1, 0, 0, 0, 0] [] m o) : ((((m a0 7) < 0) ∧ (o = (.ireturn, [(1, f158 m a1 4)], g158 m a1 4))) ∨ (¬ ((m a0 7) < 0) ∧ ((((m a0 7) < 8) ∧ (∃ m9, Run X ρ 148 [(1, a1)] m [] m9 ∧ (∃ v14 m12, Run X ρ 74 [(1, a0), (1, a1)] m9 [(1, v14)] m12 ∧ (v14 = 0 ∨ v14 = 1) ∧ (((v14 = 0) ∧ (o = (.ireturn, [(1, 0)], m12))) ∨ (¬ (v14 = 0) ∧ (∃ m17, Run X ρ 148 [(1, a1)] m12 [] m17 ∧ (∃ v22 m20, Run X ρ 76 [(1, a0), (1, a1)] m17 [(1, v22)] m20 ∧ (((v22 = (-1)) ∧ (o = (.ireturn, [(1, 0)], m20))) ∨ (¬ (v22 = (-1)) ∧ (∃ m25, Run X ρ 148 [(1, a1)] m20 [] m25 ∧ ((((f156 m25 a1 1 9) = (-1)) ∧ (o = (.ireturn, [(1, 0)], g156 m25 a1 1 9))) ∨ (¬ ((f156 m25 a1 1 9) = (-1)) ∧ (∃ m34, Run X ρ 148 [(1, a1)] (mu (mu (mu (mu (g156 m25 a1 1 9) ((g156 m25 a1 1 9) a0 1) ((g156 m25 a1 1 9) a0 7) (m12 a1 7)) ((mu (g156 m25 a1 1 9) ((g156 m25 a1 1 9) a0 1) ((g156 m25 a1 1 9) a0 7) (m12 a1 7)) a0 2) ((mu (g156 m25 a1 1 9) ((g156 m25 a1 1 9) a0 1) ((g156 m25 a1 1 9) a0 7) (m12 a1 7)) a0 7) (s32 v22)) ((mu (mu (g156 m25 a1 1 9) ((g156 m25 a1 1 9) a0 1) ((g156 m25 a1 1 9) a0 7) (m12 a1 7)) ((mu (g156 m25 a1 1 9) ((g156 m25 a1 1 9) a0 1) ((g156 m25 a1 1 9) a0 7) (m12 a1 7)) a0 2) ((mu (g156 m25 a1 1 9) ((g156 m25 a1 1 9) a0 1) ((g156 m25 a1 1 9) a0 7) (m12 a1 7)) a0 7) (s32 v22)) a0 3) ((mu (mu (g156 m25 a1 1 9) ((g156 m25 a1 1 9) a0 1) ((g156 m25 a1 1 9) a0 7) (m12 a1 7)) ((mu (g156 m25 a1 1 9) ((g156 m25 a1 1 9) a0 1) ((g156 m25 a1 1 9) a0 7) (m12 a1 7)) a0 2) ((mu (g156 m25 a1 1 9) ((g156 m25 a1 1 9) a0 1) ((g156 m25 a1 1 9) a0 7) (m12 a1 7)) a0 7) (s32 v22)) a0 7) (s32 (f156 m25 a1 1 9))) a0 7 (s32 (((mu (mu (mu (g156 m25 a1 1 9) ((g156 m25 a1 1 9) a0 1) ((g156 m25 a1 1 9) a0 7) (m12 a1 7)) ((mu (g156 m25 a1 1 9) ((g156 m25 a1 1 9) a0 1) ((g156 m25 a1 1 9) a0 7) (m12 a1 7)) a0 2) ((mu (g156 m25 a1 1 9) ((g156 m25 a1 1 9) a0 1) ((g156 m25 a1 1 9) a0 7) (m12 a1 7)) a0 7) (s32 v22)) ((mu (mu (g156 m25 a1 1 9) ((g156 m25 a1 1 9) a0 1) ((g156 m25 a1 1 9) a0 7) (m12 a1 7)) ((mu (g156 m25 a1 1 9) ((g156 m25 a1 1 9) a0 1) ((g156 m25 a1 1 9) a0 7) (m12 a1 7)) a0 2) ((mu (g156 m25 a1 1 9) ((g156 m25 a1 1 9) a0 1) ((g156 m25 a1 1 9) a0 7) (m12 a1 7)) a0 7) (s32 v22)) a0 3) ((mu (mu (g156 m25 a1 1 9) ((g156 m25 a1 1 9) a0 1) ((g156 m25 a1 1 9) a0 7) (m12 a1 7)) ((mu (g156 m25 a1 1 9) ((g156 m25 a1 1 9) a0 1) ((g156 m25 a1 1 9) a0 7) (m12 a1 7)) a0 2) ((mu (g156 m25 a1 1 9) ((g156 m25 a1 1 9) a0 1) ((g156 m25 a1 1 9) a0 7) (m12 a1 7)) a0 7) (s32 v22)) a0 7) (s32 (f156 m25 a1 1 9))) a0 7) + 1))) [] m34 ∧ (∃ v39 m37, Run X ρ 160 [(1, a1), (1, 59)] m34 [(1, v39)] m37 ∧ (v39 = 0 ∨ v39 = 1) ∧ (o = (.ireturn, [(1, v39)], m37)))))))))))))))) ∨ (¬ ((m a0 7) < 8) ∧ (o = (.ireturn, [(1, f158 m a1 4)], g158 m a1 4)))))) := by
  have h := CR_aload_n h rfl
  have h : MR X ρ 6 0 0 qP77 N 1 [a0, a1, 0, 0, 0, 0] [(1, a0)] m o := h
  have h := CR_getf h rfl (by decide)
  have h : MR X ρ 6 0 0 qP77 N 4 [a0, a1, 0, 0, 0, 0] [(1, m a0 7)] m o := h
  rcases MR_if h rfl rfl with ⟨c1, h⟩ | ⟨c1, h⟩
  ·
    have c1 : (m a0 7) < 0 := c1
    refine Or.inl ⟨c1, ?_⟩
    have h : MR X ρ 6 0 0 qP77 N 16 [a0, a1, 0, 0, 0, 0] [] m o := h
    have h := CR_aload_n h rfl
    have h : MR X ρ 6 0 0 qP77 N 17 [a0, a1, 0, 0, 0, 0] [(1, a1)] m o := h
    have h := CR_iconst h rfl rfl
    have h : MR X ρ 6 0 0 qP77 N 18 [a0, a1, 0, 0, 0, 0] [(1, 4), (1, a1)] m o := h
    obtain ⟨r2, m3, q4, h⟩ := MR_invV h rfl rfl
    have q4 : Run X ρ 158 [(1, a1), (1, 4)] m r2 m3 := q4
    obtain ⟨e5, e6⟩ := d158 q4
    rw [e5, e6] at h
    have h : MR X ρ 6 0 0 qP77 N 21 [a0, a1, 0, 0, 0, 0] [(1, f158 m a1 4)] (g158 m a1 4) o := h
    exact CR_end h rfl rfl
  ·
    have c1 : ¬ ((m a0 7) < 0) := c1
    refine Or.inr ⟨c1, ?_⟩
    have h : MR X ρ 6 0 0 qP77 N 7 [a0, a1, 0, 0, 0, 0] [] m o := h
    have h := CR_aload_n h rfl
    have h : MR X ρ 6 0 0 qP77 N 8 [a0, a1, 0, 0, 0, 0] [(1, a0)] m o := h
    have h := CR_getf h rfl (by decide)
    have h : MR X ρ 6 0 0 qP77 N 11 [a0, a1, 0, 0, 0, 0] [(1, m a0 7)] m o := h
    have h := CR_bipush h rfl rfl
    have h : MR X ρ 6 0 0 qP77 N 13 [a0, a1, 0, 0, 0, 0] [(1, 8), (1, m a0 7)] m o := h
    rcases MR_icmp h rfl rfl with ⟨c7, h⟩ | ⟨c7, h⟩
    ·
      have c7 : (m a0 7) < 8 := c7
      refine Or.inl ⟨c7, ?_⟩
      have h : MR X ρ 6 0 0 qP77 N 22 [a0, a1, 0, 0, 0, 0] [] m o := h
      have h := CR_aload_n h rfl
      have h : MR X ρ 6 0 0 qP77 N 23 [a0, a1, 0, 0, 0, 0] [(1, a1)] m o := h
      obtain ⟨r8, m9, q10, h⟩ := MR_invV h rfl rfl
      have q10 : Run X ρ 148 [(1, a1)] m r8 m9 := q10
      obtain rfl := Run_v q10 rfl
      have h : MR X ρ 6 0 0 qP77 N 26 [a0, a1, 0, 0, 0, 0] [] m9 o := h
      refine ⟨m9, q10, ?_⟩
      have h := CR_aload_n h rfl
      have h : MR X ρ 6 0 0 qP77 N 27 [a0, a1, 0, 0, 0, 0] [(1, a0)] m9 o := h
      have h := CR_aload_n h rfl
      have h : MR X ρ 6 0 0 qP77 N 28 [a0, a1, 0, 0, 0, 0] [(1, a1), (1, a0)] m9 o := h
      obtain ⟨r11, m12, q13, h⟩ := MR_invV h rfl rfl
      have q13 : Run X ρ 74 [(1, a0), (1, a1)] m9 r11 m12 := q13
      obtain ⟨v14, rfl, zv14⟩ := Run_z q13 rfl
      have h : MR X ρ 6 0 0 qP77 N 31 [a0, a1, 0, 0, 0, 0] [(1, v14)] m12 o := h
      refine ⟨v14, m12, q13, zv14, ?_⟩
      rcases MR_if h rfl rfl with ⟨c15, h⟩ | ⟨c15, h⟩
      ·
        have c15 : ¬ (v14 = 0) := c15
        refine Or.inr ⟨c15, ?_⟩
        have h : MR X ρ 6 0 0 qP77 N 36 [a0, a1, 0, 0, 0, 0] [] m12 o := h
        have h := CR_aload_n h rfl
        have h : MR X ρ 6 0 0 qP77 N 37 [a0, a1, 0, 0, 0, 0] [(1, a1)] m12 o := h
        have h := CR_getf h rfl (by decide)
        have h : MR X ρ 6 0 0 qP77 N 40 [a0, a1, 0, 0, 0, 0] [(2, m12 a1 7)] m12 o := h
        have h := CR_lstore_n h rfl (Nat.le_of_ble_eq_true rfl)
        have h : MR X ρ 6 0 0 qP77 N 41 [a0, a1, m12 a1 7, 0, 0, 0] [] m12 o := h
        have h := CR_aload_n h rfl
        have h : MR X ρ 6 0 0 qP77 N 42 [a0, a1, m12 a1 7, 0, 0, 0] [(1, a1)] m12 o := h
        obtain ⟨r16, m17, q18, h⟩ := MR_invV h rfl rfl
        have q18 : Run X ρ 148 [(1, a1)] m12 r16 m17 := q18
        obtain rfl := Run_v q18 rfl
        have h : MR X ρ 6 0 0 qP77 N 45 [a0, a1, m12 a1 7, 0, 0, 0] [] m17 o := h
        refine ⟨m17, q18, ?_⟩
        have h := CR_aload_n h rfl
        have h : MR X ρ 6 0 0 qP77 N 46 [a0, a1, m12 a1 7, 0, 0, 0] [(1, a0)] m17 o := h
        have h := CR_aload_n h rfl
        have h : MR X ρ 6 0 0 qP77 N 47 [a0, a1, m12 a1 7, 0, 0, 0] [(1, a1), (1, a0)] m17 o := h
        obtain ⟨r19, m20, q21, h⟩ := MR_invV h rfl rfl
        have q21 : Run X ρ 76 [(1, a0), (1, a1)] m17 r19 m20 := q21
        obtain ⟨v22, rfl⟩ := Run_i q21 rfl
        have h : MR X ρ 6 0 0 qP77 N 50 [a0, a1, m12 a1 7, 0, 0, 0] [(1, v22)] m20 o := h
        refine ⟨v22, m20, q21, ?_⟩
        have h := CR_istore h rfl (Nat.le_of_ble_eq_true rfl)
        have h : MR X ρ 6 0 0 qP77 N 52 [a0, a1, m12 a1 7, 0, v22, 0] [] m20 o := h
        have h := CR_iload h rfl
        have h : MR X ρ 6 0 0 qP77 N 54 [a0, a1, m12 a1 7, 0, v22, 0] [(1, v22)] m20 o := h
        have h := CR_iconst h rfl rfl
        have h : MR X ρ 6 0 0 qP77 N 55 [a0, a1, m12 a1 7, 0, v22, 0] [(1, -1), (1, v22)] m20 o := h
        rcases MR_icmp h rfl rfl with ⟨c23, h⟩ | ⟨c23, h⟩
        ·
          have c23 : ¬ (v22 = (-1)) := c23
          refine Or.inr ⟨c23, ?_⟩
          have h : MR X ρ 6 0 0 qP77 N 60 [a0, a1, m12 a1 7, 0, v22, 0] [] m20 o := h
          have h := CR_aload_n h rfl
          have h : MR X ρ 6 0 0 qP77 N 61 [a0, a1, m12 a1 7, 0, v22, 0] [(1, a1)] m20 o := h
          obtain ⟨r24, m25, q26, h⟩ := MR_invV h rfl rfl
          have q26 : Run X ρ 148 [(1, a1)] m20 r24 m25 := q26
          obtain rfl := Run_v q26 rfl
          have h : MR X ρ 6 0 0 qP77 N 64 [a0, a1, m12 a1 7, 0, v22, 0] [] m25 o := h
          refine ⟨m25, q26, ?_⟩
          have h := CR_aload_n h rfl
          have h : MR X ρ 6 0 0 qP77 N 65 [a0, a1, m12 a1 7, 0, v22, 0] [(1, a1)] m25 o := h
          have h := CR_iconst h rfl rfl
          have h : MR X ρ 6 0 0 qP77 N 66 [a0, a1, m12 a1 7, 0, v22, 0] [(1, 1), (1, a1)] m25 o := h
          have h := CR_bipush h rfl rfl
          have h : MR X ρ 6 0 0 qP77 N 68 [a0, a1, m12 a1 7, 0, v22, 0] [(1, 9), (1, 1), (1, a1)] m25 o := h
          obtain ⟨r27, m28, q29, h⟩ := MR_invV h rfl rfl
          have q29 : Run X ρ 156 [(1, a1), (1, 1), (1, 9)] m25 r27 m28 := q29
          obtain ⟨e30, e31⟩ := d156 q29
          rw [e30, e31] at h
          have h : MR X ρ 6 0 0 qP77 N 71 [a0, a1, m12 a1 7, 0, v22, 0] [(1, f156 m25 a1 1 9)] (g156 m25 a1 1 9) o := h
          have h := CR_istore h rfl (Nat.le_of_ble_eq_true rfl)
          have h : MR X ρ 6 0 0 qP77 N 73 [a0, a1, m12 a1 7, 0, v22, f156 m25 a1 1 9] [] (g156 m25 a1 1 9) o := h
          have h := CR_iload h rfl
          have h : MR X ρ 6 0 0 qP77 N 75 [a0, a1, m12 a1 7, 0, v22, f156 m25 a1 1 9] [(1, f156 m25 a1 1 9)] (g156 m25 a1 1 9) o := h
          have h := CR_iconst h rfl rfl
          have h : MR X ρ 6 0 0 qP77 N 76 [a0, a1, m12 a1 7, 0, v22, f156 m25 a1 1 9] [(1, -1), (1, f156 m25 a1 1 9)] (g156 m25 a1 1 9) o := h
          rcases MR_icmp h rfl rfl with ⟨c32, h⟩ | ⟨c32, h⟩
          ·
            have c32 : ¬ ((f156 m25 a1 1 9) = (-1)) := c32
            refine Or.inr ⟨c32, ?_⟩
            have h : MR X ρ 6 0 0 qP77 N 81 [a0, a1, m12 a1 7, 0, v22, f156 m25 a1 1 9] [] (g156 m25 a1 1 9) o := h
            have h := CR_aload_n h rfl
            have h : MR X ρ 6 0 0 qP77 N 82 [a0, a1, m12 a1 7, 0, v22, f156 m25 a1 1 9] [(1, a0)] (g156 m25 a1 1 9) o := h
            have h := CR_getf h rfl (by decide)
            have h : MR X ρ 6 0 0 qP77 N 85 [a0, a1, m12 a1 7, 0, v22, f156 m25 a1 1 9] [(1, (g156 m25 a1 1 9) a0 1)] (g156 m25 a1 1 9) o := h
            have h := CR_aload_n h rfl
            have h : MR X ρ 6 0 0 qP77 N 86 [a0, a1, m12 a1 7, 0, v22, f156 m25 a1 1 9] [(1, a0), (1, (g156 m25 a1 1 9) a0 1)] (g156 m25 a1 1 9) o := h
            have h := CR_getf h rfl (by decide)
            have h : MR X ρ 6 0 0 qP77 N 89 [a0, a1, m12 a1 7, 0, v22, f156 m25 a1 1 9] [(1, (g156 m25 a1 1 9) a0 7), (1, (g156 m25 a1 1 9) a0 1)] (g156 m25 a1 1 9) o := h
            have h := CR_lload_n h rfl
            have h : MR X ρ 6 0 0 qP77 N 90 [a0, a1, m12 a1 7, 0, v22, f156 m25 a1 1 9] [(2, m12 a1 7), (1, (g156 m25 a1 1 9) a0 7), (1, (g156 m25 a1 1 9) a0 1)] (g156 m25 a1 1 9) o := h
            have h := CR_last h rfl
            have h : MR X ρ 6 0 0 qP77 N 91 [a0, a1, m12 a1 7, 0, v22, f156 m25 a1 1 9] [] (mu (g156 m25 a1 1 9) ((g156 m25 a1 1 9) a0 1) ((g156 m25 a1 1 9) a0 7) (m12 a1 7)) o := h
            have h := CR_aload_n h rfl
            have h : MR X ρ 6 0 0 qP77 N 92 [a0, a1, m12 a1 7, 0, v22, f156 m25 a1 1 9] [(1, a0)] (mu (g156 m25 a1 1 9) ((g156 m25 a1 1 9) a0 1) ((g156 m25 a1 1 9) a0 7) (m12 a1 7)) o := h
            have h := CR_getf h rfl (by decide)
            have h : MR X ρ 6 0 0 qP77 N 95 [a0, a1, m12 a1 7, 0, v22, f156 m25 a1 1 9] [(1, (mu (g156 m25 a1 1 9) ((g156 m25 a1 1 9) a0 1) ((g156 m25 a1 1 9) a0 7) (m12 a1 7)) a0 2)] (mu (g156 m25 a1 1 9) ((g156 m25 a1 1 9) a0 1) ((g156 m25 a1 1 9) a0 7) (m12 a1 7)) o := h
            have h := CR_aload_n h rfl
            have h : MR X ρ 6 0 0 qP77 N 96 [a0, a1, m12 a1 7, 0, v22, f156 m25 a1 1 9] [(1, a0), (1, (mu (g156 m25 a1 1 9) ((g156 m25 a1 1 9) a0 1) ((g156 m25 a1 1 9) a0 7) (m12 a1 7)) a0 2)] (mu (g156 m25 a1 1 9) ((g156 m25 a1 1 9) a0 1) ((g156 m25 a1 1 9) a0 7) (m12 a1 7)) o := h
            have h := CR_getf h rfl (by decide)
            have h : MR X ρ 6 0 0 qP77 N 99 [a0, a1, m12 a1 7, 0, v22, f156 m25 a1 1 9] [(1, (mu (g156 m25 a1 1 9) ((g156 m25 a1 1 9) a0 1) ((g156 m25 a1 1 9) a0 7) (m12 a1 7)) a0 7), (1, (mu (g156 m25 a1 1 9) ((g156 m25 a1 1 9) a0 1) ((g156 m25 a1 1 9) a0 7) (m12 a1 7)) a0 2)] (mu (g156 m25 a1 1 9) ((g156 m25 a1 1 9) a0 1) ((g156 m25 a1 1 9) a0 7) (m12 a1 7)) o := h
            have h := CR_iload h rfl
            have h : MR X ρ 6 0 0 qP77 N 101 [a0, a1, m12 a1 7, 0, v22, f156 m25 a1 1 9] [(1, v22), (1, (mu (g156 m25 a1 1 9) ((g156 m25 a1 1 9) a0 1) ((g156 m25 a1 1 9) a0 7) (m12 a1 7)) a0 7), (1, (mu (g156 m25 a1 1 9) ((g156 m25 a1 1 9) a0 1) ((g156 m25 a1 1 9) a0 7) (m12 a1 7)) a0 2)] (mu (g156 m25 a1 1 9) ((g156 m25 a1 1 9) a0 1) ((g156 m25 a1 1 9) a0 7) (m12 a1 7)) o := h
            have h := CR_iastore_ h rfl
            have h : MR X ρ 6 0 0 qP77 N 102 [a0, a1, m12 a1 7, 0, v22, f156 m25 a1 1 9] [] (mu (mu (g156 m25 a1 1 9) ((g156 m25 a1 1 9) a0 1) ((g156 m25 a1 1 9) a0 7) (m12 a1 7)) ((mu (g156 m25 a1 1 9) ((g156 m25 a1 1 9) a0 1) ((g156 m25 a1 1 9) a0 7) (m12 a1 7)) a0 2) ((mu (g156 m25 a1 1 9) ((g156 m25 a1 1 9) a0 1) ((g156 m25 a1 1 9) a0 7) (m12 a1 7)) a0 7) (s32 v22)) o := h
            have h := CR_aload_n h rfl
            have h : MR X ρ 6 0 0 qP77 N 103 [a0, a1, m12 a1 7, 0, v22, f156 m25 a1 1 9] [(1, a0)] (mu (mu (g156 m25 a1 1 9) ((g156 m25 a1 1 9) a0 1) ((g156 m25 a1 1 9) a0 7) (m12 a1 7)) ((mu (g156 m25 a1 1 9) ((g156 m25 a1 1 9) a0 1) ((g156 m25 a1 1 9) a0 7) (m12 a1 7)) a0 2) ((mu (g156 m25 a1 1 9) ((g156 m25 a1 1 9) a0 1) ((g156 m25 a1 1 9) a0 7) (m12 a1 7)) a0 7) (s32 v22)) o := h
            have h := CR_getf h rfl (by decide)
            have h : MR X ρ 6 0 0 qP77 N 106 [a0, a1, m12 a1 7, 0, v22, f156 m25 a1 1 9] [(1, (mu (mu (g156 m25 a1 1 9) ((g156 m25 a1 1 9) a0 1) ((g156 m25 a1 1 9) a0 7) (m12 a1 7)) ((mu (g156 m25 a1 1 9) ((g156 m25 a1 1 9) a0 1) ((g156 m25 a1 1 9) a0 7) (m12 a1 7)) a0 2) ((mu (g156 m25 a1 1 9) ((g156 m25 a1 1 9) a0 1) ((g156 m25 a1 1 9) a0 7) (m12 a1 7)) a0 7) (s32 v22)) a0 3)] (mu (mu (g156 m25 a1 1 9) ((g156 m25 a1 1 9) a0 1) ((g156 m25 a1 1 9) a0 7) (m12 a1 7)) ((mu (g156 m25 a1 1 9) ((g156 m25 a1 1 9) a0 1) ((g156 m25 a1 1 9) a0 7) (m12 a1 7)) a0 2) ((mu (g156 m25 a1 1 9) ((g156 m25 a1 1 9) a0 1) ((g156 m25 a1 1 9) a0 7) (m12 a1 7)) a0 7) (s32 v22)) o := h
            have h := CR_aload_n h rfl
            have h : MR X ρ 6 0 0 qP77 N 107 [a0, a1, m12 a1 7, 0, v22, f156 m25 a1 1 9] [(1, a0), (1, (mu (mu (g156 m25 a1 1 9) ((g156 m25 a1 1 9) a0 1) ((g156 m25 a1 1 9) a0 7) (m12 a1 7)) ((mu (g156 m25 a1 1 9) ((g156 m25 a1 1 9) a0 1) ((g156 m25 a1 1 9) a0 7) (m12 a1 7)) a0 2) ((mu (g156 m25 a1 1 9) ((g156 m25 a1 1 9) a0 1) ((g156 m25 a1 1 9) a0 7) (m12 a1 7)) a0 7) (s32 v22)) a0 3)] (mu (mu (g156 m25 a1 1 9) ((g156 m25 a1 1 9) a0 1) ((g156 m25 a1 1 9) a0 7) (m12 a1 7)) ((mu (g156 m25 a1 1 9) ((g156 m25 a1 1 9) a0 1) ((g156 m25 a1 1 9) a0 7) (m12 a1 7)) a0 2) ((mu (g156 m25 a1 1 9) ((g156 m25 a1 1 9) a0 1) ((g156 m25 a1 1 9) a0 7) (m12 a1 7)) a0 7) (s32 v22)) o := h
            have h := CR_getf h rfl (by decide)
            have h : MR X ρ 6 0 0 qP77 N 110 [a0, a1, m12 a1 7, 0, v22, f156 m25 a1 1 9] [(1, (mu (mu (g156 m25 a1 1 9) ((g156 m25 a1 1 9) a0 1) ((g156 m25 a1 1 9) a0 7) (m12 a1 7)) ((mu (g156 m25 a1 1 9) ((g156 m25 a1 1 9) a0 1) ((g156 m25 a1 1 9) a0 7) (m12 a1 7)) a0 2) ((mu (g156 m25 a1 1 9) ((g156 m25 a1 1 9) a0 1) ((g156 m25 a1 1 9) a0 7) (m12 a1 7)) a0 7) (s32 v22)) a0 7), (1, (mu (mu (g156 m25 a1 1 9) ((g156 m25 a1 1 9) a0 1) ((g156 m25 a1 1 9) a0 7) (m12 a1 7)) ((mu (g156 m25 a1 1 9) ((g156 m25 a1 1 9) a0 1) ((g156 m25 a1 1 9) a0 7) (m12 a1 7)) a0 2) ((mu (g156 m25 a1 1 9) ((g156 m25 a1 1 9) a0 1) ((g156 m25 a1 1 9) a0 7) (m12 a1 7)) a0 7) (s32 v22)) a0 3)] (mu (mu (g156 m25 a1 1 9) ((g156 m25 a1 1 9) a0 1) ((g156 m25 a1 1 9) a0 7) (m12 a1 7)) ((mu (g156 m25 a1 1 9) ((g156 m25 a1 1 9) a0 1) ((g156 m25 a1 1 9) a0 7) (m12 a1 7)) a0 2) ((mu (g156 m25 a1 1 9) ((g156 m25 a1 1 9) a0 1) ((g156 m25 a1 1 9) a0 7) (m12 a1 7)) a0 7) (s32 v22)) o := h
            have h := CR_iload h rfl
            have h : MR X ρ 6 0 0 qP77 N 112 [a0, a1, m12 a1 7, 0, v22, f156 m25 a1 1 9] [(1, f156 m25 a1 1 9), (1, (mu (mu (g156 m25 a1 1 9) ((g156 m25 a1 1 9) a0 1) ((g156 m25 a1 1 9) a0 7) (m12 a1 7)) ((mu (g156 m25 a1 1 9) ((g156 m25 a1 1 9) a0 1) ((g156 m25 a1 1 9) a0 7) (m12 a1 7)) a0 2) ((mu (g156 m25 a1 1 9) ((g156 m25 a1 1 9) a0 1) ((g156 m25 a1 1 9) a0 7) (m12 a1 7)) a0 7) (s32 v22)) a0 7), (1, (mu (mu (g156 m25 a1 1 9) ((g156 m25 a1 1 9) a0 1) ((g156 m25 a1 1 9) a0 7) (m12 a1 7)) ((mu (g156 m25 a1 1 9) ((g156 m25 a1 1 9) a0 1) ((g156 m25 a1 1 9) a0 7) (m12 a1 7)) a0 2) ((mu (g156 m25 a1 1 9) ((g156 m25 a1 1 9) a0 1) ((g156 m25 a1 1 9) a0 7) (m12 a1 7)) a0 7) (s32 v22)) a0 3)] (mu (mu (g156 m25 a1 1 9) ((g156 m25 a1 1 9) a0 1) ((g156 m25 a1 1 9) a0 7) (m12 a1 7)) ((mu (g156 m25 a1 1 9) ((g156 m25 a1 1 9) a0 1) ((g156 m25 a1 1 9) a0 7) (m12 a1 7)) a0 2) ((mu (g156 m25 a1 1 9) ((g156 m25 a1 1 9) a0 1) ((g156 m25 a1 1 9) a0 7) (m12 a1 7)) a0 7) (s32 v22)) o := h
            have h := CR_iastore_ h rfl
            have h : MR X ρ 6 0 0 qP77 N 113 [a0, a1, m12 a1 7, 0, v22, f156 m25 a1 1 9] [] (mu (mu (mu (g156 m25 a1 1 9) ((g156 m25 a1 1 9) a0 1) ((g156 m25 a1 1 9) a0 7) (m12 a1 7)) ((mu (g156 m25 a1 1 9) ((g156 m25 a1 1 9) a0 1) ((g156 m25 a1 1 9) a0 7) (m12 a1 7)) a0 2) ((mu (g156 m25 a1 1 9) ((g156 m25 a1 1 9) a0 1) ((g156 m25 a1 1 9) a0 7) (m12 a1 7)) a0 7) (s32 v22)) ((mu (mu (g156 m25 a1 1 9) ((g156 m25 a1 1 9) a0 1) ((g156 m25 a1 1 9) a0 7) (m12 a1 7)) ((mu (g156 m25 a1 1 9) ((g156 m25 a1 1 9) a0 1) ((g156 m25 a1 1 9) a0 7) (m12 a1 7)) a0 2) ((mu (g156 m25 a1 1 9) ((g156 m25 a1 1 9) a0 1) ((g156 m25 a1 1 9) a0 7) (m12 a1 7)) a0 7) (s32 v22)) a0 3) ((mu (mu (g156 m25 a1 1 9) ((g156 m25 a1 1 9) a0 1) ((g156 m25 a1 1 9) a0 7) (m12 a1 7)) ((mu (g156 m25 a1 1 9) ((g156 m25 a1 1 9) a0 1) ((g156 m25 a1 1 9) a0 7) (m12 a1 7)) a0 2) ((mu (g156 m25 a1 1 9) ((g156 m25 a1 1 9) a0 1) ((g156 m25 a1 1 9) a0 7) (m12 a1 7)) a0 7) (s32 v22)) a0 7) (s32 (f156 m25 a1 1 9))) o := h
            have h := CR_aload_n h rfl
            have h : MR X ρ 6 0 0 qP77 N 114 [a0, a1, m12 a1 7, 0, v22, f156 m25 a1 1 9] [(1, a0)] (mu (mu (mu (g156 m25 a1 1 9) ((g156 m25 a1 1 9) a0 1) ((g156 m25 a1 1 9) a0 7) (m12 a1 7)) ((mu (g156 m25 a1 1 9) ((g156 m25 a1 1 9) a0 1) ((g156 m25 a1 1 9) a0 7) (m12 a1 7)) a0 2) ((mu (g156 m25 a1 1 9) ((g156 m25 a1 1 9) a0 1) ((g156 m25 a1 1 9) a0 7) (m12 a1 7)) a0 7) (s32 v22)) ((mu (mu (g156 m25 a1 1 9) ((g156 m25 a1 1 9) a0 1) ((g156 m25 a1 1 9) a0 7) (m12 a1 7)) ((mu (g156 m25 a1 1 9) ((g156 m25 a1 1 9) a0 1) ((g156 m25 a1 1 9) a0 7) (m12 a1 7)) a0 2) ((mu (g156 m25 a1 1 9) ((g156 m25 a1 1 9) a0 1) ((g156 m25 a1 1 9) a0 7) (m12 a1 7)) a0 7) (s32 v22)) a0 3) ((mu (mu (g156 m25 a1 1 9) ((g156 m25 a1 1 9) a0 1) ((g156 m25 a1 1 9) a0 7) (m12 a1 7)) ((mu (g156 m25 a1 1 9) ((g156 m25 a1 1 9) a0 1) ((g156 m25 a1 1 9) a0 7) (m12 a1 7)) a0 2) ((mu (g156 m25 a1 1 9) ((g156 m25 a1 1 9) a0 1) ((g156 m25 a1 1 9) a0 7) (m12 a1 7)) a0 7) (s32 v22)) a0 7) (s32 (f156 m25 a1 1 9))) o := h
            have h := CR_dup h rfl
            have h : MR X ρ 6 0 0 qP77 N 115 [a0, a1, m12 a1 7, 0, v22, f156 m25 a1 1 9] [(1, a0), (1, a0)] (mu (mu (mu (g156 m25 a1 1 9) ((g156 m25 a1 1 9) a0 1) ((g156 m25 a1 1 9) a0 7) (m12 a1 7)) ((mu (g156 m25 a1 1 9) ((g156 m25 a1 1 9) a0 1) ((g156 m25 a1 1 9) a0 7) (m12 a1 7)) a0 2) ((mu (g156 m25 a1 1 9) ((g156 m25 a1 1 9) a0 1) ((g156 m25 a1 1 9) a0 7) (m12 a1 7)) a0 7) (s32 v22)) ((mu (mu (g156 m25 a1 1 9) ((g156 m25 a1 1 9) a0 1) ((g156 m25 a1 1 9) a0 7) (m12 a1 7)) ((mu (g156 m25 a1 1 9) ((g156 m25 a1 1 9) a0 1) ((g156 m25 a1 1 9) a0 7) (m12 a1 7)) a0 2) ((mu (g156 m25 a1 1 9) ((g156 m25 a1 1 9) a0 1) ((g156 m25 a1 1 9) a0 7) (m12 a1 7)) a0 7) (s32 v22)) a0 3) ((mu (mu (g156 m25 a1 1 9) ((g156 m25 a1 1 9) a0 1) ((g156 m25 a1 1 9) a0 7) (m12 a1 7)) ((mu (g156 m25 a1 1 9) ((g156 m25 a1 1 9) a0 1) ((g156 m25 a1 1 9) a0 7) (m12 a1 7)) a0 2) ((mu (g156 m25 a1 1 9) ((g156 m25 a1 1 9) a0 1) ((g156 m25 a1 1 9) a0 7) (m12 a1 7)) a0 7) (s32 v22)) a0 7) (s32 (f156 m25 a1 1 9))) o := h
            have h := CR_getf h rfl (by decide)
            have h : MR X ρ 6 0 0 qP77 N 118 [a0, a1, m12 a1 7, 0, v22, f156 m25 a1 1 9] [(1, (mu (mu (mu (g156 m25 a1 1 9) ((g156 m25 a1 1 9) a0 1) ((g156 m25 a1 1 9) a0 7) (m12 a1 7)) ((mu (g156 m25 a1 1 9) ((g156 m25 a1 1 9) a0 1) ((g156 m25 a1 1 9) a0 7) (m12 a1 7)) a0 2) ((mu (g156 m25 a1 1 9) ((g156 m25 a1 1 9) a0 1) ((g156 m25 a1 1 9) a0 7) (m12 a1 7)) a0 7) (s32 v22)) ((mu (mu (g156 m25 a1 1 9) ((g156 m25 a1 1 9) a0 1) ((g156 m25 a1 1 9) a0 7) (m12 a1 7)) ((mu (g156 m25 a1 1 9) ((g156 m25 a1 1 9) a0 1) ((g156 m25 a1 1 9) a0 7) (m12 a1 7)) a0 2) ((mu (g156 m25 a1 1 9) ((g156 m25 a1 1 9) a0 1) ((g156 m25 a1 1 9) a0 7) (m12 a1 7)) a0 7) (s32 v22)) a0 3) ((mu (mu (g156 m25 a1 1 9) ((g156 m25 a1 1 9) a0 1) ((g156 m25 a1 1 9) a0 7) (m12 a1 7)) ((mu (g156 m25 a1 1 9) ((g156 m25 a1 1 9) a0 1) ((g156 m25 a1 1 9) a0 7) (m12 a1 7)) a0 2) ((mu (g156 m25 a1 1 9) ((g156 m25 a1 1 9) a0 1) ((g156 m25 a1 1 9) a0 7) (m12 a1 7)) a0 7) (s32 v22)) a0 7) (s32 (f156 m25 a1 1 9))) a0 7), (1, a0)] (mu (mu (mu (g156 m25 a1 1 9) ((g156 m25 a1 1 9) a0 1) ((g156 m25 a1 1 9) a0 7) (m12 a1 7)) ((mu (g156 m25 a1 1 9) ((g156 m25 a1 1 9) a0 1) ((g156 m25 a1 1 9) a0 7) (m12 a1 7)) a0 2) ((mu (g156 m25 a1 1 9) ((g156 m25 a1 1 9) a0 1) ((g156 m25 a1 1 9) a0 7) (m12 a1 7)) a0 7) (s32 v22)) ((mu (mu (g156 m25 a1 1 9) ((g156 m25 a1 1 9) a0 1) ((g156 m25 a1 1 9) a0 7) (m12 a1 7)) ((mu (g156 m25 a1 1 9) ((g156 m25 a1 1 9) a0 1) ((g156 m25 a1 1 9) a0 7) (m12 a1 7)) a0 2) ((mu (g156 m25 a1 1 9) ((g156 m25 a1 1 9) a0 1) ((g156 m25 a1 1 9) a0 7) (m12 a1 7)) a0 7) (s32 v22)) a0 3) ((mu (mu (g156 m25 a1 1 9) ((g156 m25 a1 1 9) a0 1) ((g156 m25 a1 1 9) a0 7) (m12 a1 7)) ((mu (g156 m25 a1 1 9) ((g156 m25 a1 1 9) a0 1) ((g156 m25 a1 1 9) a0 7) (m12 a1 7)) a0 2) ((mu (g156 m25 a1 1 9) ((g156 m25 a1 1 9) a0 1) ((g156 m25 a1 1 9) a0 7) (m12 a1 7)) a0 7) (s32 v22)) a0 7) (s32 (f156 m25 a1 1 9))) o := h
            have h := CR_iconst h rfl rfl
            have h : MR X ρ 6 0 0 qP77 N 119 [a0, a1, m12 a1 7, 0, v22, f156 m25 a1 1 9] [(1, 1), (1, (mu (mu (mu (g156 m25 a1 1 9) ((g156 m25 a1 1 9) a0 1) ((g156 m25 a1 1 9) a0 7) (m12 a1 7)) ((mu (g156 m25 a1 1 9) ((g156 m25 a1 1 9) a0 1) ((g156 m25 a1 1 9) a0 7) (m12 a1 7)) a0 2) ((mu (g156 m25 a1 1 9) ((g156 m25 a1 1 9) a0 1) ((g156 m25 a1 1 9) a0 7) (m12 a1 7)) a0 7) (s32 v22)) ((mu (mu (g156 m25 a1 1 9) ((g156 m25 a1 1 9) a0 1) ((g156 m25 a1 1 9) a0 7) (m12 a1 7)) ((mu (g156 m25 a1 1 9) ((g156 m25 a1 1 9) a0 1) ((g156 m25 a1 1 9) a0 7) (m12 a1 7)) a0 2) ((mu (g156 m25 a1 1 9) ((g156 m25 a1 1 9) a0 1) ((g156 m25 a1 1 9) a0 7) (m12 a1 7)) a0 7) (s32 v22)) a0 3) ((mu (mu (g156 m25 a1 1 9) ((g156 m25 a1 1 9) a0 1) ((g156 m25 a1 1 9) a0 7) (m12 a1 7)) ((mu (g156 m25 a1 1 9) ((g156 m25 a1 1 9) a0 1) ((g156 m25 a1 1 9) a0 7) (m12 a1 7)) a0 2) ((mu (g156 m25 a1 1 9) ((g156 m25 a1 1 9) a0 1) ((g156 m25 a1 1 9) a0 7) (m12 a1 7)) a0 7) (s32 v22)) a0 7) (s32 (f156 m25 a1 1 9))) a0 7), (1, a0)] (mu (mu (mu (g156 m25 a1 1 9) ((g156 m25 a1 1 9) a0 1) ((g156 m25 a1 1 9) a0 7) (m12 a1 7)) ((mu (g156 m25 a1 1 9) ((g156 m25 a1 1 9) a0 1) ((g156 m25 a1 1 9) a0 7) (m12 a1 7)) a0 2) ((mu (g156 m25 a1 1 9) ((g156 m25 a1 1 9) a0 1) ((g156 m25 a1 1 9) a0 7) (m12 a1 7)) a0 7) (s32 v22)) ((mu (mu (g156 m25 a1 1 9) ((g156 m25 a1 1 9) a0 1) ((g156 m25 a1 1 9) a0 7) (m12 a1 7)) ((mu (g156 m25 a1 1 9) ((g156 m25 a1 1 9) a0 1) ((g156 m25 a1 1 9) a0 7) (m12 a1 7)) a0 2) ((mu (g156 m25 a1 1 9) ((g156 m25 a1 1 9) a0 1) ((g156 m25 a1 1 9) a0 7) (m12 a1 7)) a0 7) (s32 v22)) a0 3) ((mu (mu (g156 m25 a1 1 9) ((g156 m25 a1 1 9) a0 1) ((g156 m25 a1 1 9) a0 7) (m12 a1 7)) ((mu (g156 m25 a1 1 9) ((g156 m25 a1 1 9) a0 1) ((g156 m25 a1 1 9) a0 7) (m12 a1 7)) a0 2) ((mu (g156 m25 a1 1 9) ((g156 m25 a1 1 9) a0 1) ((g156 m25 a1 1 9) a0 7) (m12 a1 7)) a0 7) (s32 v22)) a0 7) (s32 (f156 m25 a1 1 9))) o := h
            have h := CR_iadd h rfl
            have h : MR X ρ 6 0 0 qP77 N 120 [a0, a1, m12 a1 7, 0, v22, f156 m25 a1 1 9] [(1, s32 (((mu (mu (mu (g156 m25 a1 1 9) ((g156 m25 a1 1 9) a0 1) ((g156 m25 a1 1 9) a0 7) (m12 a1 7)) ((mu (g156 m25 a1 1 9) ((g156 m25 a1 1 9) a0 1) ((g156 m25 a1 1 9) a0 7) (m12 a1 7)) a0 2) ((mu (g156 m25 a1 1 9) ((g156 m25 a1 1 9) a0 1) ((g156 m25 a1 1 9) a0 7) (m12 a1 7)) a0 7) (s32 v22)) ((mu (mu (g156 m25 a1 1 9) ((g156 m25 a1 1 9) a0 1) ((g156 m25 a1 1 9) a0 7) (m12 a1 7)) ((mu (g156 m25 a1 1 9) ((g156 m25 a1 1 9) a0 1) ((g156 m25 a1 1 9) a0 7) (m12 a1 7)) a0 2) ((mu (g156 m25 a1 1 9) ((g156 m25 a1 1 9) a0 1) ((g156 m25 a1 1 9) a0 7) (m12 a1 7)) a0 7) (s32 v22)) a0 3) ((mu (mu (g156 m25 a1 1 9) ((g156 m25 a1 1 9) a0 1) ((g156 m25 a1 1 9) a0 7) (m12 a1 7)) ((mu (g156 m25 a1 1 9) ((g156 m25 a1 1 9) a0 1) ((g156 m25 a1 1 9) a0 7) (m12 a1 7)) a0 2) ((mu (g156 m25 a1 1 9) ((g156 m25 a1 1 9) a0 1) ((g156 m25 a1 1 9) a0 7) (m12 a1 7)) a0 7) (s32 v22)) a0 7) (s32 (f156 m25 a1 1 9))) a0 7) + 1)), (1, a0)] (mu (mu (mu (g156 m25 a1 1 9) ((g156 m25 a1 1 9) a0 1) ((g156 m25 a1 1 9) a0 7) (m12 a1 7)) ((mu (g156 m25 a1 1 9) ((g156 m25 a1 1 9) a0 1) ((g156 m25 a1 1 9) a0 7) (m12 a1 7)) a0 2) ((mu (g156 m25 a1 1 9) ((g156 m25 a1 1 9) a0 1) ((g156 m25 a1 1 9) a0 7) (m12 a1 7)) a0 7) (s32 v22)) ((mu (mu (g156 m25 a1 1 9) ((g156 m25 a1 1 9) a0 1) ((g156 m25 a1 1 9) a0 7) (m12 a1 7)) ((mu (g156 m25 a1 1 9) ((g156 m25 a1 1 9) a0 1) ((g156 m25 a1 1 9) a0 7) (m12 a1 7)) a0 2) ((mu (g156 m25 a1 1 9) ((g156 m25 a1 1 9) a0 1) ((g156 m25 a1 1 9) a0 7) (m12 a1 7)) a0 7) (s32 v22)) a0 3) ((mu (mu (g156 m25 a1 1 9) ((g156 m25 a1 1 9) a0 1) ((g156 m25 a1 1 9) a0 7) (m12 a1 7)) ((mu (g156 m25 a1 1 9) ((g156 m25 a1 1 9) a0 1) ((g156 m25 a1 1 9) a0 7) (m12 a1 7)) a0 2) ((mu (g156 m25 a1 1 9) ((g156 m25 a1 1 9) a0 1) ((g156 m25 a1 1 9) a0 7) (m12 a1 7)) a0 7) (s32 v22)) a0 7) (s32 (f156 m25 a1 1 9))) o := h
            have h := CR_putf h rfl
            have h : MR X ρ 6 0 0 qP77 N 123 [a0, a1, m12 a1 7, 0, v22, f156 m25 a1 1 9] [] (mu (mu (mu (mu (g156 m25 a1 1 9) ((g156 m25 a1 1 9) a0 1) ((g156 m25 a1 1 9) a0 7) (m12 a1 7)) ((mu (g156 m25 a1 1 9) ((g156 m25 a1 1 9) a0 1) ((g156 m25 a1 1 9) a0 7) (m12 a1 7)) a0 2) ((mu (g156 m25 a1 1 9) ((g156 m25 a1 1 9) a0 1) ((g156 m25 a1 1 9) a0 7) (m12 a1 7)) a0 7) (s32 v22)) ((mu (mu (g156 m25 a1 1 9) ((g156 m25 a1 1 9) a0 1) ((g156 m25 a1 1 9) a0 7) (m12 a1 7)) ((mu (g156 m25 a1 1 9) ((g156 m25 a1 1 9) a0 1) ((g156 m25 a1 1 9) a0 7) (m12 a1 7)) a0 2) ((mu (g156 m25 a1 1 9) ((g156 m25 a1 1 9) a0 1) ((g156 m25 a1 1 9) a0 7) (m12 a1 7)) a0 7) (s32 v22)) a0 3) ((mu (mu (g156 m25 a1 1 9) ((g156 m25 a1 1 9) a0 1) ((g156 m25 a1 1 9) a0 7) (m12 a1 7)) ((mu (g156 m25 a1 1 9) ((g156 m25 a1 1 9) a0 1) ((g156 m25 a1 1 9) a0 7) (m12 a1 7)) a0 2) ((mu (g156 m25 a1 1 9) ((g156 m25 a1 1 9) a0 1) ((g156 m25 a1 1 9) a0 7) (m12 a1 7)) a0 7) (s32 v22)) a0 7) (s32 (f156 m25 a1 1 9))) a0 7 (s32 (((mu (mu (mu (g156 m25 a1 1 9) ((g156 m25 a1 1 9) a0 1) ((g156 m25 a1 1 9) a0 7) (m12 a1 7)) ((mu (g156 m25 a1 1 9) ((g156 m25 a1 1 9) a0 1) ((g156 m25 a1 1 9) a0 7) (m12 a1 7)) a0 2) ((mu (g156 m25 a1 1 9) ((g156 m25 a1 1 9) a0 1) ((g156 m25 a1 1 9) a0 7) (m12 a1 7)) a0 7) (s32 v22)) ((mu (mu (g156 m25 a1 1 9) ((g156 m25 a1 1 9) a0 1) ((g156 m25 a1 1 9) a0 7) (m12 a1 7)) ((mu (g156 m25 a1 1 9) ((g156 m25 a1 1 9) a0 1) ((g156 m25 a1 1 9) a0 7) (m12 a1 7)) a0 2) ((mu (g156 m25 a1 1 9) ((g156 m25 a1 1 9) a0 1) ((g156 m25 a1 1 9) a0 7) (m12 a1 7)) a0 7) (s32 v22)) a0 3) ((mu (mu (g156 m25 a1 1 9) ((g156 m25 a1 1 9) a0 1) ((g156 m25 a1 1 9) a0 7) (m12 a1 7)) ((mu (g156 m25 a1 1 9) ((g156 m25 a1 1 9) a0 1) ((g156 m25 a1 1 9) a0 7) (m12 a1 7)) a0 2) ((mu (g156 m25 a1 1 9) ((g156 m25 a1 1 9) a0 1) ((g156 m25 a1 1 9) a0 7) (m12 a1 7)) a0 7) (s32 v22)) a0 7) (s32 (f156 m25 a1 1 9))) a0 7) + 1))) o := h
            have h := CR_aload_n h rfl
            have h : MR X ρ 6 0 0 qP77 N 124 [a0, a1, m12 a1 7, 0, v22, f156 m25 a1 1 9] [(1, a1)] (mu (mu (mu (mu (g156 m25 a1 1 9) ((g156 m25 a1 1 9) a0 1) ((g156 m25 a1 1 9) a0 7) (m12 a1 7)) ((mu (g156 m25 a1 1 9) ((g156 m25 a1 1 9) a0 1) ((g156 m25 a1 1 9) a0 7) (m12 a1 7)) a0 2) ((mu (g156 m25 a1 1 9) ((g156 m25 a1 1 9) a0 1) ((g156 m25 a1 1 9) a0 7) (m12 a1 7)) a0 7) (s32 v22)) ((mu (mu (g156 m25 a1 1 9) ((g156 m25 a1 1 9) a0 1) ((g156 m25 a1 1 9) a0 7) (m12 a1 7)) ((mu (g156 m25 a1 1 9) ((g156 m25 a1 1 9) a0 1) ((g156 m25 a1 1 9) a0 7) (m12 a1 7)) a0 2) ((mu (g156 m25 a1 1 9) ((g156 m25 a1 1 9) a0 1) ((g156 m25 a1 1 9) a0 7) (m12 a1 7)) a0 7) (s32 v22)) a0 3) ((mu (mu (g156 m25 a1 1 9) ((g156 m25 a1 1 9) a0 1) ((g156 m25 a1 1 9) a0 7) (m12 a1 7)) ((mu (g156 m25 a1 1 9) ((g156 m25 a1 1 9) a0 1) ((g156 m25 a1 1 9) a0 7) (m12 a1 7)) a0 2) ((mu (g156 m25 a1 1 9) ((g156 m25 a1 1 9) a0 1) ((g156 m25 a1 1 9) a0 7) (m12 a1 7)) a0 7) (s32 v22)) a0 7) (s32 (f156 m25 a1 1 9))) a0 7 (s32 (((mu (mu (mu (g156 m25 a1 1 9) ((g156 m25 a1 1 9) a0 1) ((g156 m25 a1 1 9) a0 7) (m12 a1 7)) ((mu (g156 m25 a1 1 9) ((g156 m25 a1 1 9) a0 1) ((g156 m25 a1 1 9) a0 7) (m12 a1 7)) a0 2) ((mu (g156 m25 a1 1 9) ((g156 m25 a1 1 9) a0 1) ((g156 m25 a1 1 9) a0 7) (m12 a1 7)) a0 7) (s32 v22)) ((mu (mu (g156 m25 a1 1 9) ((g156 m25 a1 1 9) a0 1) ((g156 m25 a1 1 9) a0 7) (m12 a1 7)) ((mu (g156 m25 a1 1 9) ((g156 m25 a1 1 9) a0 1) ((g156 m25 a1 1 9) a0 7) (m12 a1 7)) a0 2) ((mu (g156 m25 a1 1 9) ((g156 m25 a1 1 9) a0 1) ((g156 m25 a1 1 9) a0 7) (m12 a1 7)) a0 7) (s32 v22)) a0 3) ((mu (mu (g156 m25 a1 1 9) ((g156 m25 a1 1 9) a0 1) ((g156 m25 a1 1 9) a0 7) (m12 a1 7)) ((mu (g156 m25 a1 1 9) ((g156 m25 a1 1 9) a0 1) ((g156 m25 a1 1 9) a0 7) (m12 a1 7)) a0 2) ((mu (g156 m25 a1 1 9) ((g156 m25 a1 1 9) a0 1) ((g156 m25 a1 1 9) a0 7) (m12 a1 7)) a0 7) (s32 v22)) a0 7) (s32 (f156 m25 a1 1 9))) a0 7) + 1))) o := h
            obtain ⟨r33, m34, q35, h⟩ := MR_invV h rfl rfl
            have q35 : Run X ρ 148 [(1, a1)] (mu (mu (mu (mu (g156 m25 a1 1 9) ((g156 m25 a1 1 9) a0 1) ((g156 m25 a1 1 9) a0 7) (m12 a1 7)) ((mu (g156 m25 a1 1 9) ((g156 m25 a1 1 9) a0 1) ((g156 m25 a1 1 9) a0 7) (m12 a1 7)) a0 2) ((mu (g156 m25 a1 1 9) ((g156 m25 a1 1 9) a0 1) ((g156 m25 a1 1 9) a0 7) (m12 a1 7)) a0 7) (s32 v22)) ((mu (mu (g156 m25 a1 1 9) ((g156 m25 a1 1 9) a0 1) ((g156 m25 a1 1 9) a0 7) (m12 a1 7)) ((mu (g156 m25 a1 1 9) ((g156 m25 a1 1 9) a0 1) ((g156 m25 a1 1 9) a0 7) (m12 a1 7)) a0 2) ((mu (g156 m25 a1 1 9) ((g156 m25 a1 1 9) a0 1) ((g156 m25 a1 1 9) a0 7) (m12 a1 7)) a0 7) (s32 v22)) a0 3) ((mu (mu (g156 m25 a1 1 9) ((g156 m25 a1 1 9) a0 1) ((g156 m25 a1 1 9) a0 7) (m12 a1 7)) ((mu (g156 m25 a1 1 9) ((g156 m25 a1 1 9) a0 1) ((g156 m25 a1 1 9) a0 7) (m12 a1 7)) a0 2) ((mu (g156 m25 a1 1 9) ((g156 m25 a1 1 9) a0 1) ((g156 m25 a1 1 9) a0 7) (m12 a1 7)) a0 7) (s32 v22)) a0 7) (s32 (f156 m25 a1 1 9))) a0 7 (s32 (((mu (mu (mu (g156 m25 a1 1 9) ((g156 m25 a1 1 9) a0 1) ((g156 m25 a1 1 9) a0 7) (m12 a1 7)) ((mu (g156 m25 a1 1 9) ((g156 m25 a1 1 9) a0 1) ((g156 m25 a1 1 9) a0 7) (m12 a1 7)) a0 2) ((mu (g156 m25 a1 1 9) ((g156 m25 a1 1 9) a0 1) ((g156 m25 a1 1 9) a0 7) (m12 a1 7)) a0 7) (s32 v22)) ((mu (mu (g156 m25 a1 1 9) ((g156 m25 a1 1 9) a0 1) ((g156 m25 a1 1 9) a0 7) (m12 a1 7)) ((mu (g156 m25 a1 1 9) ((g156 m25 a1 1 9) a0 1) ((g156 m25 a1 1 9) a0 7) (m12 a1 7)) a0 2) ((mu (g156 m25 a1 1 9) ((g156 m25 a1 1 9) a0 1) ((g156 m25 a1 1 9) a0 7) (m12 a1 7)) a0 7) (s32 v22)) a0 3) ((mu (mu (g156 m25 a1 1 9) ((g156 m25 a1 1 9) a0 1) ((g156 m25 a1 1 9) a0 7) (m12 a1 7)) ((mu (g156 m25 a1 1 9) ((g156 m25 a1 1 9) a0 1) ((g156 m25 a1 1 9) a0 7) (m12 a1 7)) a0 2) ((mu (g156 m25 a1 1 9) ((g156 m25 a1 1 9) a0 1) ((g156 m25 a1 1 9) a0 7) (m12 a1 7)) a0 7) (s32 v22)) a0 7) (s32 (f156 m25 a1 1 9))) a0 7) + 1))) r33 m34 := q35
            obtain rfl := Run_v q35 rfl
            have h : MR X ρ 6 0 0 qP77 N 127 [a0, a1, m12 a1 7, 0, v22, f156 m25 a1 1 9] [] m34 o := h
            refine ⟨m34, q35, ?_⟩
            have h := CR_aload_n h rfl
            have h : MR X ρ 6 0 0 qP77 N 128 [a0, a1, m12 a1 7, 0, v22, f156 m25 a1 1 9] [(1, a1)] m34 o := h
            have h := CR_bipush h rfl rfl
            have h : MR X ρ 6 0 0 qP77 N 130 [a0, a1, m12 a1 7, 0, v22, f156 m25 a1 1 9] [(1, 59), (1, a1)] m34 o := h
            obtain ⟨r36, m37, q38, h⟩ := MR_invV h rfl rfl
            have q38 : Run X ρ 160 [(1, a1), (1, 59)] m34 r36 m37 := q38
            obtain ⟨v39, rfl, zv39⟩ := Run_z q38 rfl
            have h : MR X ρ 6 0 0 qP77 N 133 [a0, a1, m12 a1 7, 0, v22, f156 m25 a1 1 9] [(1, v39)] m37 o := h
            refine ⟨v39, m37, q38, zv39, ?_⟩
            exact CR_end h rfl rfl
          ·
            have c32 : (f156 m25 a1 1 9) = (-1) := Decidable.of_not_not (show ¬ ¬ ((f156 m25 a1 1 9) = (-1)) from c32)
            refine Or.inl ⟨c32, ?_⟩
            have h : MR X ρ 6 0 0 qP77 N 79 [a0, a1, m12 a1 7, 0, v22, f156 m25 a1 1 9] [] (g156 m25 a1 1 9) o := h
            have h := CR_iconst h rfl rfl
            have h : MR X ρ 6 0 0 qP77 N 80 [a0, a1, m12 a1 7, 0, v22, f156 m25 a1 1 9] [(1, 0)] (g156 m25 a1 1 9) o := h
            exact CR_end h rfl rfl
        ·
          have c23 : v22 = (-1) := Decidable.of_not_not (show ¬ ¬ (v22 = (-1)) from c23)
          refine Or.inl ⟨c23, ?_⟩
          have h : MR X ρ 6 0 0 qP77 N 58 [a0, a1, m12 a1 7, 0, v22, 0] [] m20 o := h
          have h := CR_iconst h rfl rfl
          have h : MR X ρ 6 0 0 qP77 N 59 [a0, a1, m12 a1 7, 0, v22, 0] [(1, 0)] m20 o := h
          exact CR_end h rfl rfl
      ·
        have c15 : v14 = 0 := Decidable.of_not_not (show ¬ ¬ (v14 = 0) from c15)
        refine Or.inl ⟨c15, ?_⟩
        have h : MR X ρ 6 0 0 qP77 N 34 [a0, a1, 0, 0, 0, 0] [] m12 o := h
        have h := CR_iconst h rfl rfl
        have h : MR X ρ 6 0 0 qP77 N 35 [a0, a1, 0, 0, 0, 0] [(1, 0)] m12 o := h
        exact CR_end h rfl rfl
    ·
      have c7 : ¬ ((m a0 7) < 8) := c7
      refine Or.inr ⟨c7, ?_⟩
      have h : MR X ρ 6 0 0 qP77 N 16 [a0, a1, 0, 0, 0, 0] [] m o := h
      have h := CR_aload_n h rfl
      have h : MR X ρ 6 0 0 qP77 N 17 [a0, a1, 0, 0, 0, 0] [(1, a1)] m o := h
      have h := CR_iconst h rfl rfl
      have h : MR X ρ 6 0 0 qP77 N 18 [a0, a1, 0, 0, 0, 0] [(1, 4), (1, a1)] m o := h
      obtain ⟨r40, m41, q42, h⟩ := MR_invV h rfl rfl
      have q42 : Run X ρ 158 [(1, a1), (1, 4)] m r40 m41 := q42
      obtain ⟨e43, e44⟩ := d158 q42
      rw [e43, e44] at h
      have h : MR X ρ 6 0 0 qP77 N 21 [a0, a1, 0, 0, 0, 0] [(1, f158 m a1 4)] (g158 m a1 4) o := h
      exact CR_end h rfl rfl
set_option maxRecDepth 16384 in
theorem i81_0 {X : KO} {ρ : Nat → Int32} {m : MM} {N : Nat} {o : Instr × List (Nat × Int) × MM} {a0 a1 : Int} (h : MR X ρ 2 0 0 qP81 N 0 [a0, a1] [] m o) : ((((m a0 5) = 0) ∧ (∃ m3, Run X ρ 148 [(1, a1)] m [] m3 ∧ ((((f155 X m3 a1 1000015) = 0) ∧ ((((f155 X m3 a1 1000016) = 0) ∧ (o = (.ireturn, [(1, f158 m3 a1 1)], g158 m3 a1 1))) ∨ (¬ ((f155 X m3 a1 1000016) = 0) ∧ (∃ m35, Run X ρ 148 [(1, a1)] (mu (mu m3 a0 5 1) a0 8 (f155 X (mu m3 a0 5 1) a1 1000016)) [] m35 ∧ (∃ v40 m38, Run X ρ 160 [(1, a1), (1, 59)] m35 [(1, v40)] m38 ∧ (v40 = 0 ∨ v40 = 1) ∧ (o = (.ireturn, [(1, v40)], m38))))))) ∨ (¬ ((f155 X m3 a1 1000015) = 0) ∧ (∃ m17, Run X ρ 148 [(1, a1)] (mu (mu m3 a0 5 1) a0 8 (f155 X (mu m3 a0 5 1) a1 1000016)) [] m17 ∧ (∃ v22 m20, Run X ρ 160 [(1, a1), (1, 59)] m17 [(1, v22)] m20 ∧ (v22 = 0 ∨ v22 = 1) ∧ (o = (.ireturn, [(1, v22)], m20)))))))) ∨ (¬ ((m a0 5) = 0) ∧ (o = (.ireturn, [(1, f158 m a1 3)], g158 m a1 3)))) := by
  have h := CR_aload_n h rfl
  have h : MR X ρ 2 0 0 qP81 N 1 [a0, a1] [(1, a0)] m o := h
  have h := CR_getf h rfl (by decide)
  have h : MR X ρ 2 0 0 qP81 N 4 [a0, a1] [(1, m a0 5)] m o := h
  rcases MR_if h rfl rfl with ⟨c1, h⟩ | ⟨c1, h⟩
  ·
    have c1 : (m a0 5) = 0 := c1
    refine Or.inl ⟨c1, ?_⟩
    have h : MR X ρ 2 0 0 qP81 N 13 [a0, a1] [] m o := h
    have h := CR_aload_n h rfl
    have h : MR X ρ 2 0 0 qP81 N 14 [a0, a1] [(1, a1)] m o := h
    obtain ⟨r2, m3, q4, h⟩ := MR_invV h rfl rfl
    have q4 : Run X ρ 148 [(1, a1)] m r2 m3 := q4
    obtain rfl := Run_v q4 rfl
    have h : MR X ρ 2 0 0 qP81 N 17 [a0, a1] [] m3 o := h
    refine ⟨m3, q4, ?_⟩
    have h := CR_aload_n h rfl
    have h : MR X ρ 2 0 0 qP81 N 18 [a0, a1] [(1, a1)] m3 o := h
    have h := CR_getstatic h rfl
    have h : MR X ρ 2 0 0 qP81 N 21 [a0, a1] [(1, 1000015), (1, a1)] m3 o := h
    obtain ⟨r5, m6, q7, h⟩ := MR_invV h rfl rfl
    have q7 : Run X ρ 155 [(1, a1), (1, 1000015)] m3 r5 m6 := q7
    obtain ⟨e8, e9⟩ := d155 q7
    rw [e8, e9] at h
    have h : MR X ρ 2 0 0 qP81 N 24 [a0, a1] [(1, f155 X m3 a1 1000015)] m3 o := h
    rcases MR_if h rfl rfl with ⟨c10, h⟩ | ⟨c10, h⟩
    ·
      have c10 : ¬ ((f155 X m3 a1 1000015) = 0) := c10
      refine Or.inr ⟨c10, ?_⟩
      have h : MR X ρ 2 0 0 qP81 N 43 [a0, a1] [] m3 o := h
      have h := CR_aload_n h rfl
      have h : MR X ρ 2 0 0 qP81 N 44 [a0, a1] [(1, a0)] m3 o := h
      have h := CR_iconst h rfl rfl
      have h : MR X ρ 2 0 0 qP81 N 45 [a0, a1] [(1, 1), (1, a0)] m3 o := h
      have h := CR_putf h rfl
      have h : MR X ρ 2 0 0 qP81 N 48 [a0, a1] [] (mu m3 a0 5 1) o := h
      have h := CR_aload_n h rfl
      have h : MR X ρ 2 0 0 qP81 N 49 [a0, a1] [(1, a0)] (mu m3 a0 5 1) o := h
      have h := CR_aload_n h rfl
      have h : MR X ρ 2 0 0 qP81 N 50 [a0, a1] [(1, a1), (1, a0)] (mu m3 a0 5 1) o := h
      have h := CR_getstatic h rfl
      have h : MR X ρ 2 0 0 qP81 N 53 [a0, a1] [(1, 1000016), (1, a1), (1, a0)] (mu m3 a0 5 1) o := h
      obtain ⟨r11, m12, q13, h⟩ := MR_invV h rfl rfl
      have q13 : Run X ρ 155 [(1, a1), (1, 1000016)] (mu m3 a0 5 1) r11 m12 := q13
      obtain ⟨e14, e15⟩ := d155 q13
      rw [e14, e15] at h
      have h : MR X ρ 2 0 0 qP81 N 56 [a0, a1] [(1, f155 X (mu m3 a0 5 1) a1 1000016), (1, a0)] (mu m3 a0 5 1) o := h
      have h := CR_putf h rfl
      have h : MR X ρ 2 0 0 qP81 N 59 [a0, a1] [] (mu (mu m3 a0 5 1) a0 8 (f155 X (mu m3 a0 5 1) a1 1000016)) o := h
      have h := CR_aload_n h rfl
      have h : MR X ρ 2 0 0 qP81 N 60 [a0, a1] [(1, a1)] (mu (mu m3 a0 5 1) a0 8 (f155 X (mu m3 a0 5 1) a1 1000016)) o := h
      obtain ⟨r16, m17, q18, h⟩ := MR_invV h rfl rfl
      have q18 : Run X ρ 148 [(1, a1)] (mu (mu m3 a0 5 1) a0 8 (f155 X (mu m3 a0 5 1) a1 1000016)) r16 m17 := q18
      obtain rfl := Run_v q18 rfl
      have h : MR X ρ 2 0 0 qP81 N 63 [a0, a1] [] m17 o := h
      refine ⟨m17, q18, ?_⟩
      have h := CR_aload_n h rfl
      have h : MR X ρ 2 0 0 qP81 N 64 [a0, a1] [(1, a1)] m17 o := h
      have h := CR_bipush h rfl rfl
      have h : MR X ρ 2 0 0 qP81 N 66 [a0, a1] [(1, 59), (1, a1)] m17 o := h
      obtain ⟨r19, m20, q21, h⟩ := MR_invV h rfl rfl
      have q21 : Run X ρ 160 [(1, a1), (1, 59)] m17 r19 m20 := q21
      obtain ⟨v22, rfl, zv22⟩ := Run_z q21 rfl
      have h : MR X ρ 2 0 0 qP81 N 69 [a0, a1] [(1, v22)] m20 o := h
      refine ⟨v22, m20, q21, zv22, ?_⟩
      exact CR_end h rfl rfl
    ·
      have c10 : (f155 X m3 a1 1000015) = 0 := Decidable.of_not_not (show ¬ ¬ ((f155 X m3 a1 1000015) = 0) from c10)
      refine Or.inl ⟨c10, ?_⟩
      have h : MR X ρ 2 0 0 qP81 N 27 [a0, a1] [] m3 o := h
      have h := CR_aload_n h rfl
      have h : MR X ρ 2 0 0 qP81 N 28 [a0, a1] [(1, a1)] m3 o := h
      have h := CR_getstatic h rfl
      have h : MR X ρ 2 0 0 qP81 N 31 [a0, a1] [(1, 1000016), (1, a1)] m3 o := h
      obtain ⟨r23, m24, q25, h⟩ := MR_invV h rfl rfl
      have q25 : Run X ρ 155 [(1, a1), (1, 1000016)] m3 r23 m24 := q25
      obtain ⟨e26, e27⟩ := d155 q25
      rw [e26, e27] at h
      have h : MR X ρ 2 0 0 qP81 N 34 [a0, a1] [(1, f155 X m3 a1 1000016)] m3 o := h
      rcases MR_if h rfl rfl with ⟨c28, h⟩ | ⟨c28, h⟩
      ·
        have c28 : ¬ ((f155 X m3 a1 1000016) = 0) := c28
        refine Or.inr ⟨c28, ?_⟩
        have h : MR X ρ 2 0 0 qP81 N 43 [a0, a1] [] m3 o := h
        have h := CR_aload_n h rfl
        have h : MR X ρ 2 0 0 qP81 N 44 [a0, a1] [(1, a0)] m3 o := h
        have h := CR_iconst h rfl rfl
        have h : MR X ρ 2 0 0 qP81 N 45 [a0, a1] [(1, 1), (1, a0)] m3 o := h
        have h := CR_putf h rfl
        have h : MR X ρ 2 0 0 qP81 N 48 [a0, a1] [] (mu m3 a0 5 1) o := h
        have h := CR_aload_n h rfl
        have h : MR X ρ 2 0 0 qP81 N 49 [a0, a1] [(1, a0)] (mu m3 a0 5 1) o := h
        have h := CR_aload_n h rfl
        have h : MR X ρ 2 0 0 qP81 N 50 [a0, a1] [(1, a1), (1, a0)] (mu m3 a0 5 1) o := h
        have h := CR_getstatic h rfl
        have h : MR X ρ 2 0 0 qP81 N 53 [a0, a1] [(1, 1000016), (1, a1), (1, a0)] (mu m3 a0 5 1) o := h
        obtain ⟨r29, m30, q31, h⟩ := MR_invV h rfl rfl
        have q31 : Run X ρ 155 [(1, a1), (1, 1000016)] (mu m3 a0 5 1) r29 m30 := q31
        obtain ⟨e32, e33⟩ := d155 q31
        rw [e32, e33] at h
        have h : MR X ρ 2 0 0 qP81 N 56 [a0, a1] [(1, f155 X (mu m3 a0 5 1) a1 1000016), (1, a0)] (mu m3 a0 5 1) o := h
        have h := CR_putf h rfl
        have h : MR X ρ 2 0 0 qP81 N 59 [a0, a1] [] (mu (mu m3 a0 5 1) a0 8 (f155 X (mu m3 a0 5 1) a1 1000016)) o := h
        have h := CR_aload_n h rfl
        have h : MR X ρ 2 0 0 qP81 N 60 [a0, a1] [(1, a1)] (mu (mu m3 a0 5 1) a0 8 (f155 X (mu m3 a0 5 1) a1 1000016)) o := h
        obtain ⟨r34, m35, q36, h⟩ := MR_invV h rfl rfl
        have q36 : Run X ρ 148 [(1, a1)] (mu (mu m3 a0 5 1) a0 8 (f155 X (mu m3 a0 5 1) a1 1000016)) r34 m35 := q36
        obtain rfl := Run_v q36 rfl
        have h : MR X ρ 2 0 0 qP81 N 63 [a0, a1] [] m35 o := h
        refine ⟨m35, q36, ?_⟩
        have h := CR_aload_n h rfl
        have h : MR X ρ 2 0 0 qP81 N 64 [a0, a1] [(1, a1)] m35 o := h
        have h := CR_bipush h rfl rfl
        have h : MR X ρ 2 0 0 qP81 N 66 [a0, a1] [(1, 59), (1, a1)] m35 o := h
        obtain ⟨r37, m38, q39, h⟩ := MR_invV h rfl rfl
        have q39 : Run X ρ 160 [(1, a1), (1, 59)] m35 r37 m38 := q39
        obtain ⟨v40, rfl, zv40⟩ := Run_z q39 rfl
        have h : MR X ρ 2 0 0 qP81 N 69 [a0, a1] [(1, v40)] m38 o := h
        refine ⟨v40, m38, q39, zv40, ?_⟩
        exact CR_end h rfl rfl
      ·
        have c28 : (f155 X m3 a1 1000016) = 0 := Decidable.of_not_not (show ¬ ¬ ((f155 X m3 a1 1000016) = 0) from c28)
        refine Or.inl ⟨c28, ?_⟩
        have h : MR X ρ 2 0 0 qP81 N 37 [a0, a1] [] m3 o := h
        have h := CR_aload_n h rfl
        have h : MR X ρ 2 0 0 qP81 N 38 [a0, a1] [(1, a1)] m3 o := h
        have h := CR_iconst h rfl rfl
        have h : MR X ρ 2 0 0 qP81 N 39 [a0, a1] [(1, 1), (1, a1)] m3 o := h
        obtain ⟨r41, m42, q43, h⟩ := MR_invV h rfl rfl
        have q43 : Run X ρ 158 [(1, a1), (1, 1)] m3 r41 m42 := q43
        obtain ⟨e44, e45⟩ := d158 q43
        rw [e44, e45] at h
        have h : MR X ρ 2 0 0 qP81 N 42 [a0, a1] [(1, f158 m3 a1 1)] (g158 m3 a1 1) o := h
        exact CR_end h rfl rfl
  ·
    have c1 : ¬ ((m a0 5) = 0) := c1
    refine Or.inr ⟨c1, ?_⟩
    have h : MR X ρ 2 0 0 qP81 N 7 [a0, a1] [] m o := h
    have h := CR_aload_n h rfl
    have h : MR X ρ 2 0 0 qP81 N 8 [a0, a1] [(1, a1)] m o := h
    have h := CR_iconst h rfl rfl
    have h : MR X ρ 2 0 0 qP81 N 9 [a0, a1] [(1, 3), (1, a1)] m o := h
    obtain ⟨r46, m47, q48, h⟩ := MR_invV h rfl rfl
    have q48 : Run X ρ 158 [(1, a1), (1, 3)] m r46 m47 := q48
    obtain ⟨e49, e50⟩ := d158 q48
    rw [e49, e50] at h
    have h : MR X ρ 2 0 0 qP81 N 12 [a0, a1] [(1, f158 m a1 3)] (g158 m a1 3) o := h
    exact CR_end h rfl rfl
set_option maxRecDepth 16384 in
theorem i79_0 {X : KO} {ρ : Nat → Int32} {m : MM} {N : Nat} {o : Instr × List (Nat × Int) × MM} {a0 a1 a2 : Int} (h : MR X ρ 3 0 0 qP79 N 0 [a0, a1, a2] [] m o) : ((((f155 X m a1 1000009) = 0) ∧ ((((f155 X m a1 1000010) = 0) ∧ ((((f155 X m a1 1000011) = 0) ∧ ((((f155 X m a1 1000012) = 0) ∧ ((((f155 X m a1 1000013) = 0) ∧ (o = (.ireturn, [(1, f158 m a1 1)], g158 m a1 1))) ∨ (¬ ((f155 X m a1 1000013) = 0) ∧ (∃ v39 m37, Run X ρ 81 [(1, a0), (1, a1)] m [(1, v39)] m37 ∧ (v39 = 0 ∨ v39 = 1) ∧ (o = (.ireturn, [(1, v39)], m37)))))) ∨ (¬ ((f155 X m a1 1000012) = 0) ∧ (∃ v43 m41, Run X ρ 77 [(1, a0), (1, a1)] m [(1, v43)] m41 ∧ (v43 = 0 ∨ v43 = 1) ∧ (o = (.ireturn, [(1, v43)], m41)))))) ∨ (¬ ((f155 X m a1 1000011) = 0) ∧ (∃ v47 m45, Run X ρ 82 [(1, a0), (1, a1)] m [(1, v47)] m45 ∧ (v47 = 0 ∨ v47 = 1) ∧ (o = (.ireturn, [(1, v47)], m45)))))) ∨ (¬ ((f155 X m a1 1000010) = 0) ∧ (∃ v51 m49, Run X ρ 78 [(1, a0), (1, a1), (1, a2)] m [(1, v51)] m49 ∧ (v51 = 0 ∨ v51 = 1) ∧ (o = (.ireturn, [(1, v51)], m49)))))) ∨ (¬ ((f155 X m a1 1000009) = 0) ∧ (∃ v55 m53, Run X ρ 80 [(1, a0), (1, a1), (1, a2)] m [(1, v55)] m53 ∧ (v55 = 0 ∨ v55 = 1) ∧ (o = (.ireturn, [(1, v55)], m53))))) := by
  have h := CR_aload_n h rfl
  have h : MR X ρ 3 0 0 qP79 N 1 [a0, a1, a2] [(1, a1)] m o := h
  have h := CR_getstatic h rfl
  have h : MR X ρ 3 0 0 qP79 N 4 [a0, a1, a2] [(1, 1000009), (1, a1)] m o := h
  obtain ⟨r1, m2, q3, h⟩ := MR_invV h rfl rfl
  have q3 : Run X ρ 155 [(1, a1), (1, 1000009)] m r1 m2 := q3
  obtain ⟨e4, e5⟩ := d155 q3
  rw [e4, e5] at h
  have h : MR X ρ 3 0 0 qP79 N 7 [a0, a1, a2] [(1, f155 X m a1 1000009)] m o := h
  rcases MR_if h rfl rfl with ⟨c6, h⟩ | ⟨c6, h⟩
  ·
    have c6 : (f155 X m a1 1000009) = 0 := c6
    refine Or.inl ⟨c6, ?_⟩
    have h : MR X ρ 3 0 0 qP79 N 17 [a0, a1, a2] [] m o := h
    have h := CR_aload_n h rfl
    have h : MR X ρ 3 0 0 qP79 N 18 [a0, a1, a2] [(1, a1)] m o := h
    have h := CR_getstatic h rfl
    have h : MR X ρ 3 0 0 qP79 N 21 [a0, a1, a2] [(1, 1000010), (1, a1)] m o := h
    obtain ⟨r7, m8, q9, h⟩ := MR_invV h rfl rfl
    have q9 : Run X ρ 155 [(1, a1), (1, 1000010)] m r7 m8 := q9
    obtain ⟨e10, e11⟩ := d155 q9
    rw [e10, e11] at h
    have h : MR X ρ 3 0 0 qP79 N 24 [a0, a1, a2] [(1, f155 X m a1 1000010)] m o := h
    rcases MR_if h rfl rfl with ⟨c12, h⟩ | ⟨c12, h⟩
    ·
      have c12 : (f155 X m a1 1000010) = 0 := c12
      refine Or.inl ⟨c12, ?_⟩
      have h : MR X ρ 3 0 0 qP79 N 34 [a0, a1, a2] [] m o := h
      have h := CR_aload_n h rfl
      have h : MR X ρ 3 0 0 qP79 N 35 [a0, a1, a2] [(1, a1)] m o := h
      have h := CR_getstatic h rfl
      have h : MR X ρ 3 0 0 qP79 N 38 [a0, a1, a2] [(1, 1000011), (1, a1)] m o := h
      obtain ⟨r13, m14, q15, h⟩ := MR_invV h rfl rfl
      have q15 : Run X ρ 155 [(1, a1), (1, 1000011)] m r13 m14 := q15
      obtain ⟨e16, e17⟩ := d155 q15
      rw [e16, e17] at h
      have h : MR X ρ 3 0 0 qP79 N 41 [a0, a1, a2] [(1, f155 X m a1 1000011)] m o := h
      rcases MR_if h rfl rfl with ⟨c18, h⟩ | ⟨c18, h⟩
      ·
        have c18 : (f155 X m a1 1000011) = 0 := c18
        refine Or.inl ⟨c18, ?_⟩
        have h : MR X ρ 3 0 0 qP79 N 50 [a0, a1, a2] [] m o := h
        have h := CR_aload_n h rfl
        have h : MR X ρ 3 0 0 qP79 N 51 [a0, a1, a2] [(1, a1)] m o := h
        have h := CR_getstatic h rfl
        have h : MR X ρ 3 0 0 qP79 N 54 [a0, a1, a2] [(1, 1000012), (1, a1)] m o := h
        obtain ⟨r19, m20, q21, h⟩ := MR_invV h rfl rfl
        have q21 : Run X ρ 155 [(1, a1), (1, 1000012)] m r19 m20 := q21
        obtain ⟨e22, e23⟩ := d155 q21
        rw [e22, e23] at h
        have h : MR X ρ 3 0 0 qP79 N 57 [a0, a1, a2] [(1, f155 X m a1 1000012)] m o := h
        rcases MR_if h rfl rfl with ⟨c24, h⟩ | ⟨c24, h⟩
        ·
          have c24 : (f155 X m a1 1000012) = 0 := c24
          refine Or.inl ⟨c24, ?_⟩
          have h : MR X ρ 3 0 0 qP79 N 66 [a0, a1, a2] [] m o := h
          have h := CR_aload_n h rfl
          have h : MR X ρ 3 0 0 qP79 N 67 [a0, a1, a2] [(1, a1)] m o := h
          have h := CR_getstatic h rfl
          have h : MR X ρ 3 0 0 qP79 N 70 [a0, a1, a2] [(1, 1000013), (1, a1)] m o := h
          obtain ⟨r25, m26, q27, h⟩ := MR_invV h rfl rfl
          have q27 : Run X ρ 155 [(1, a1), (1, 1000013)] m r25 m26 := q27
          obtain ⟨e28, e29⟩ := d155 q27
          rw [e28, e29] at h
          have h : MR X ρ 3 0 0 qP79 N 73 [a0, a1, a2] [(1, f155 X m a1 1000013)] m o := h
          rcases MR_if h rfl rfl with ⟨c30, h⟩ | ⟨c30, h⟩
          ·
            have c30 : (f155 X m a1 1000013) = 0 := c30
            refine Or.inl ⟨c30, ?_⟩
            have h : MR X ρ 3 0 0 qP79 N 82 [a0, a1, a2] [] m o := h
            have h := CR_aload_n h rfl
            have h : MR X ρ 3 0 0 qP79 N 83 [a0, a1, a2] [(1, a1)] m o := h
            have h := CR_iconst h rfl rfl
            have h : MR X ρ 3 0 0 qP79 N 84 [a0, a1, a2] [(1, 1), (1, a1)] m o := h
            obtain ⟨r31, m32, q33, h⟩ := MR_invV h rfl rfl
            have q33 : Run X ρ 158 [(1, a1), (1, 1)] m r31 m32 := q33
            obtain ⟨e34, e35⟩ := d158 q33
            rw [e34, e35] at h
            have h : MR X ρ 3 0 0 qP79 N 87 [a0, a1, a2] [(1, f158 m a1 1)] (g158 m a1 1) o := h
            exact CR_end h rfl rfl
          ·
            have c30 : ¬ ((f155 X m a1 1000013) = 0) := c30
            refine Or.inr ⟨c30, ?_⟩
            have h : MR X ρ 3 0 0 qP79 N 76 [a0, a1, a2] [] m o := h
            have h := CR_aload_n h rfl
            have h : MR X ρ 3 0 0 qP79 N 77 [a0, a1, a2] [(1, a0)] m o := h
            have h := CR_aload_n h rfl
            have h : MR X ρ 3 0 0 qP79 N 78 [a0, a1, a2] [(1, a1), (1, a0)] m o := h
            obtain ⟨r36, m37, q38, h⟩ := MR_invV h rfl rfl
            have q38 : Run X ρ 81 [(1, a0), (1, a1)] m r36 m37 := q38
            obtain ⟨v39, rfl, zv39⟩ := Run_z q38 rfl
            have h : MR X ρ 3 0 0 qP79 N 81 [a0, a1, a2] [(1, v39)] m37 o := h
            refine ⟨v39, m37, q38, zv39, ?_⟩
            exact CR_end h rfl rfl
        ·
          have c24 : ¬ ((f155 X m a1 1000012) = 0) := c24
          refine Or.inr ⟨c24, ?_⟩
          have h : MR X ρ 3 0 0 qP79 N 60 [a0, a1, a2] [] m o := h
          have h := CR_aload_n h rfl
          have h : MR X ρ 3 0 0 qP79 N 61 [a0, a1, a2] [(1, a0)] m o := h
          have h := CR_aload_n h rfl
          have h : MR X ρ 3 0 0 qP79 N 62 [a0, a1, a2] [(1, a1), (1, a0)] m o := h
          obtain ⟨r40, m41, q42, h⟩ := MR_invV h rfl rfl
          have q42 : Run X ρ 77 [(1, a0), (1, a1)] m r40 m41 := q42
          obtain ⟨v43, rfl, zv43⟩ := Run_z q42 rfl
          have h : MR X ρ 3 0 0 qP79 N 65 [a0, a1, a2] [(1, v43)] m41 o := h
          refine ⟨v43, m41, q42, zv43, ?_⟩
          exact CR_end h rfl rfl
      ·
        have c18 : ¬ ((f155 X m a1 1000011) = 0) := c18
        refine Or.inr ⟨c18, ?_⟩
        have h : MR X ρ 3 0 0 qP79 N 44 [a0, a1, a2] [] m o := h
        have h := CR_aload_n h rfl
        have h : MR X ρ 3 0 0 qP79 N 45 [a0, a1, a2] [(1, a0)] m o := h
        have h := CR_aload_n h rfl
        have h : MR X ρ 3 0 0 qP79 N 46 [a0, a1, a2] [(1, a1), (1, a0)] m o := h
        obtain ⟨r44, m45, q46, h⟩ := MR_invV h rfl rfl
        have q46 : Run X ρ 82 [(1, a0), (1, a1)] m r44 m45 := q46
        obtain ⟨v47, rfl, zv47⟩ := Run_z q46 rfl
        have h : MR X ρ 3 0 0 qP79 N 49 [a0, a1, a2] [(1, v47)] m45 o := h
        refine ⟨v47, m45, q46, zv47, ?_⟩
        exact CR_end h rfl rfl
    ·
      have c12 : ¬ ((f155 X m a1 1000010) = 0) := c12
      refine Or.inr ⟨c12, ?_⟩
      have h : MR X ρ 3 0 0 qP79 N 27 [a0, a1, a2] [] m o := h
      have h := CR_aload_n h rfl
      have h : MR X ρ 3 0 0 qP79 N 28 [a0, a1, a2] [(1, a0)] m o := h
      have h := CR_aload_n h rfl
      have h : MR X ρ 3 0 0 qP79 N 29 [a0, a1, a2] [(1, a1), (1, a0)] m o := h
      have h := CR_aload_n h rfl
      have h : MR X ρ 3 0 0 qP79 N 30 [a0, a1, a2] [(1, a2), (1, a1), (1, a0)] m o := h
      obtain ⟨r48, m49, q50, h⟩ := MR_invV h rfl rfl
      have q50 : Run X ρ 78 [(1, a0), (1, a1), (1, a2)] m r48 m49 := q50
      obtain ⟨v51, rfl, zv51⟩ := Run_z q50 rfl
      have h : MR X ρ 3 0 0 qP79 N 33 [a0, a1, a2] [(1, v51)] m49 o := h
      refine ⟨v51, m49, q50, zv51, ?_⟩
      exact CR_end h rfl rfl
  ·
    have c6 : ¬ ((f155 X m a1 1000009) = 0) := c6
    refine Or.inr ⟨c6, ?_⟩
    have h : MR X ρ 3 0 0 qP79 N 10 [a0, a1, a2] [] m o := h
    have h := CR_aload_n h rfl
    have h : MR X ρ 3 0 0 qP79 N 11 [a0, a1, a2] [(1, a0)] m o := h
    have h := CR_aload_n h rfl
    have h : MR X ρ 3 0 0 qP79 N 12 [a0, a1, a2] [(1, a1), (1, a0)] m o := h
    have h := CR_aload_n h rfl
    have h : MR X ρ 3 0 0 qP79 N 13 [a0, a1, a2] [(1, a2), (1, a1), (1, a0)] m o := h
    obtain ⟨r52, m53, q54, h⟩ := MR_invV h rfl rfl
    have q54 : Run X ρ 80 [(1, a0), (1, a1), (1, a2)] m r52 m53 := q54
    obtain ⟨v55, rfl, zv55⟩ := Run_z q54 rfl
    have h : MR X ρ 3 0 0 qP79 N 16 [a0, a1, a2] [(1, v55)] m53 o := h
    refine ⟨v55, m53, q54, zv55, ?_⟩
    exact CR_end h rfl rfl
set_option maxRecDepth 16384 in
theorem i149_0 {X : KO} {ρ : Nat → Int32} {m : MM} {N : Nat} {o : Instr × List (Nat × Int) × MM} {a0 a1 : Int} (h : MR X ρ 2 0 0 qP149 N 0 [a0, a1] [] m o) : (∃ m2, Run X ρ 148 [(1, a0)] (mu (mu (mu (mu m a0 2 a1) a0 3 0) a0 9 0) a0 10 0) [] m2 ∧ (o = (.return_, [], m2))) := by
  have h := CR_aload_n h rfl
  have h : MR X ρ 2 0 0 qP149 N 1 [a0, a1] [(1, a0)] m o := h
  have h := CR_iload_n h rfl
  have h : MR X ρ 2 0 0 qP149 N 2 [a0, a1] [(1, a1), (1, a0)] m o := h
  have h := CR_putf h rfl
  have h : MR X ρ 2 0 0 qP149 N 5 [a0, a1] [] (mu m a0 2 a1) o := h
  have h := CR_aload_n h rfl
  have h : MR X ρ 2 0 0 qP149 N 6 [a0, a1] [(1, a0)] (mu m a0 2 a1) o := h
  have h := CR_iconst h rfl rfl
  have h : MR X ρ 2 0 0 qP149 N 7 [a0, a1] [(1, 0), (1, a0)] (mu m a0 2 a1) o := h
  have h := CR_putf h rfl
  have h : MR X ρ 2 0 0 qP149 N 10 [a0, a1] [] (mu (mu m a0 2 a1) a0 3 0) o := h
  have h := CR_aload_n h rfl
  have h : MR X ρ 2 0 0 qP149 N 11 [a0, a1] [(1, a0)] (mu (mu m a0 2 a1) a0 3 0) o := h
  have h := CR_iconst h rfl rfl
  have h : MR X ρ 2 0 0 qP149 N 12 [a0, a1] [(1, 0), (1, a0)] (mu (mu m a0 2 a1) a0 3 0) o := h
  have h := CR_putf h rfl
  have h : MR X ρ 2 0 0 qP149 N 15 [a0, a1] [] (mu (mu (mu m a0 2 a1) a0 3 0) a0 9 0) o := h
  have h := CR_aload_n h rfl
  have h : MR X ρ 2 0 0 qP149 N 16 [a0, a1] [(1, a0)] (mu (mu (mu m a0 2 a1) a0 3 0) a0 9 0) o := h
  have h := CR_iconst h rfl rfl
  have h : MR X ρ 2 0 0 qP149 N 17 [a0, a1] [(1, 0), (1, a0)] (mu (mu (mu m a0 2 a1) a0 3 0) a0 9 0) o := h
  have h := CR_putf h rfl
  have h : MR X ρ 2 0 0 qP149 N 20 [a0, a1] [] (mu (mu (mu (mu m a0 2 a1) a0 3 0) a0 9 0) a0 10 0) o := h
  have h := CR_aload_n h rfl
  have h : MR X ρ 2 0 0 qP149 N 21 [a0, a1] [(1, a0)] (mu (mu (mu (mu m a0 2 a1) a0 3 0) a0 9 0) a0 10 0) o := h
  obtain ⟨r1, m2, q3, h⟩ := MR_invV h rfl rfl
  have q3 : Run X ρ 148 [(1, a0)] (mu (mu (mu (mu m a0 2 a1) a0 3 0) a0 9 0) a0 10 0) r1 m2 := q3
  obtain rfl := Run_v q3 rfl
  have h : MR X ρ 2 0 0 qP149 N 24 [a0, a1] [] m2 o := h
  refine ⟨m2, q3, ?_⟩
  exact CR_end h rfl rfl
set_option maxRecDepth 16384 in
theorem i245_0 {X : KO} {ρ : Nat → Int32} {m : MM} {N : Nat} {o : Instr × List (Nat × Int) × MM} {a0 : Int} (h : MR X ρ 1 0 0 qP245 N 0 [a0] [] m o) : ((((f215 m a0 59) = 0) ∧ (o = (.ireturn, [(1, f168 m a0 1)], g168 m a0 1))) ∨ (¬ ((f215 m a0 59) = 0) ∧ (∃ m8, Run X ρ 195 [(1, a0)] m [] m8 ∧ (o = (.ireturn, [(1, 1)], m8))))) := by
  have h := CR_aload_n h rfl
  have h : MR X ρ 1 0 0 qP245 N 1 [a0] [(1, a0)] m o := h
  have h := CR_bipush h rfl rfl
  have h : MR X ρ 1 0 0 qP245 N 3 [a0] [(1, 59), (1, a0)] m o := h
  obtain ⟨r1, m2, q3, h⟩ := MR_invV h rfl rfl
  have q3 : Run X ρ 215 [(1, a0), (1, 59)] m r1 m2 := q3
  obtain ⟨e4, e5⟩ := d215 q3
  rw [e4, e5] at h
  have h : MR X ρ 1 0 0 qP245 N 6 [a0] [(1, f215 m a0 59)] m o := h
  rcases MR_if h rfl rfl with ⟨c6, h⟩ | ⟨c6, h⟩
  ·
    have c6 : ¬ ((f215 m a0 59) = 0) := c6
    refine Or.inr ⟨c6, ?_⟩
    have h : MR X ρ 1 0 0 qP245 N 15 [a0] [] m o := h
    have h := CR_aload_n h rfl
    have h : MR X ρ 1 0 0 qP245 N 16 [a0] [(1, a0)] m o := h
    obtain ⟨r7, m8, q9, h⟩ := MR_invV h rfl rfl
    have q9 : Run X ρ 195 [(1, a0)] m r7 m8 := q9
    obtain rfl := Run_v q9 rfl
    have h : MR X ρ 1 0 0 qP245 N 19 [a0] [] m8 o := h
    refine ⟨m8, q9, ?_⟩
    have h := CR_iconst h rfl rfl
    have h : MR X ρ 1 0 0 qP245 N 20 [a0] [(1, 1)] m8 o := h
    exact CR_end h rfl rfl
  ·
    have c6 : (f215 m a0 59) = 0 := Decidable.of_not_not (show ¬ ¬ ((f215 m a0 59) = 0) from c6)
    refine Or.inl ⟨c6, ?_⟩
    have h : MR X ρ 1 0 0 qP245 N 9 [a0] [] m o := h
    have h := CR_aload_n h rfl
    have h : MR X ρ 1 0 0 qP245 N 10 [a0] [(1, a0)] m o := h
    have h := CR_iconst h rfl rfl
    have h : MR X ρ 1 0 0 qP245 N 11 [a0] [(1, 1), (1, a0)] m o := h
    obtain ⟨r10, m11, q12, h⟩ := MR_invV h rfl rfl
    have q12 : Run X ρ 168 [(1, a0), (1, 1)] m r10 m11 := q12
    obtain ⟨e13, e14⟩ := d168 q12
    rw [e13, e14] at h
    have h : MR X ρ 1 0 0 qP245 N 14 [a0] [(1, f168 m a0 1)] (g168 m a0 1) o := h
    exact CR_end h rfl rfl
set_option maxRecDepth 16384 in
theorem i254_0 {X : KO} {ρ : Nat → Int32} {m : MM} {N : Nat} {o : Instr × List (Nat × Int) × MM} {a0 a1 a2 : Int} (h : MR X ρ 3 0 0 qP254 N 0 [a0, a1, a2] [] m o) : ((((m a0 7) = 3) ∧ ((((f209 m (m a0 8) a1 a2) = 0) ∧ (o = (.ireturn, [(1, f168 m a0 2)], g168 m a0 2))) ∨ (¬ ((f209 m (m a0 8) a1 a2) = 0) ∧ (∃ m9, Run X ρ 195 [(1, a0)] (mu m a0 13 (m a0 8)) [] m9 ∧ (o = (.ireturn, [(1, 1)], m9)))))) ∨ (¬ ((m a0 7) = 3) ∧ (o = (.ireturn, [(1, f168 m a0 1)], g168 m a0 1)))) := by
  have h := CR_aload_n h rfl
  have h : MR X ρ 3 0 0 qP254 N 1 [a0, a1, a2] [(1, a0)] m o := h
  have h := CR_getf h rfl (by decide)
  have h : MR X ρ 3 0 0 qP254 N 4 [a0, a1, a2] [(1, m a0 7)] m o := h
  have h := CR_iconst h rfl rfl
  have h : MR X ρ 3 0 0 qP254 N 5 [a0, a1, a2] [(1, 3), (1, m a0 7)] m o := h
  rcases MR_icmp h rfl rfl with ⟨c1, h⟩ | ⟨c1, h⟩
  ·
    have c1 : (m a0 7) = 3 := c1
    refine Or.inl ⟨c1, ?_⟩
    have h : MR X ρ 3 0 0 qP254 N 14 [a0, a1, a2] [] m o := h
    have h := CR_aload_n h rfl
    have h : MR X ρ 3 0 0 qP254 N 15 [a0, a1, a2] [(1, a0)] m o := h
    have h := CR_getf h rfl (by decide)
    have h : MR X ρ 3 0 0 qP254 N 18 [a0, a1, a2] [(1, m a0 8)] m o := h
    have h := CR_iload_n h rfl
    have h : MR X ρ 3 0 0 qP254 N 19 [a0, a1, a2] [(1, a1), (1, m a0 8)] m o := h
    have h := CR_iload_n h rfl
    have h : MR X ρ 3 0 0 qP254 N 20 [a0, a1, a2] [(1, a2), (1, a1), (1, m a0 8)] m o := h
    obtain ⟨r2, m3, q4, h⟩ := MR_invS h rfl rfl
    have q4 : Run X ρ 209 [(1, m a0 8), (1, a1), (1, a2)] m r2 m3 := q4
    obtain ⟨e5, e6⟩ := d209 q4
    rw [e5, e6] at h
    have h : MR X ρ 3 0 0 qP254 N 23 [a0, a1, a2] [(1, f209 m (m a0 8) a1 a2)] m o := h
    rcases MR_if h rfl rfl with ⟨c7, h⟩ | ⟨c7, h⟩
    ·
      have c7 : ¬ ((f209 m (m a0 8) a1 a2) = 0) := c7
      refine Or.inr ⟨c7, ?_⟩
      have h : MR X ρ 3 0 0 qP254 N 32 [a0, a1, a2] [] m o := h
      have h := CR_aload_n h rfl
      have h : MR X ρ 3 0 0 qP254 N 33 [a0, a1, a2] [(1, a0)] m o := h
      have h := CR_aload_n h rfl
      have h : MR X ρ 3 0 0 qP254 N 34 [a0, a1, a2] [(1, a0), (1, a0)] m o := h
      have h := CR_getf h rfl (by decide)
      have h : MR X ρ 3 0 0 qP254 N 37 [a0, a1, a2] [(1, m a0 8), (1, a0)] m o := h
      have h := CR_putf h rfl
      have h : MR X ρ 3 0 0 qP254 N 40 [a0, a1, a2] [] (mu m a0 13 (m a0 8)) o := h
      have h := CR_aload_n h rfl
      have h : MR X ρ 3 0 0 qP254 N 41 [a0, a1, a2] [(1, a0)] (mu m a0 13 (m a0 8)) o := h
      obtain ⟨r8, m9, q10, h⟩ := MR_invV h rfl rfl
      have q10 : Run X ρ 195 [(1, a0)] (mu m a0 13 (m a0 8)) r8 m9 := q10
      obtain rfl := Run_v q10 rfl
      have h : MR X ρ 3 0 0 qP254 N 44 [a0, a1, a2] [] m9 o := h
      refine ⟨m9, q10, ?_⟩
      have h := CR_iconst h rfl rfl
      have h : MR X ρ 3 0 0 qP254 N 45 [a0, a1, a2] [(1, 1)] m9 o := h
      exact CR_end h rfl rfl
    ·
      have c7 : (f209 m (m a0 8) a1 a2) = 0 := Decidable.of_not_not (show ¬ ¬ ((f209 m (m a0 8) a1 a2) = 0) from c7)
      refine Or.inl ⟨c7, ?_⟩
      have h : MR X ρ 3 0 0 qP254 N 26 [a0, a1, a2] [] m o := h
      have h := CR_aload_n h rfl
      have h : MR X ρ 3 0 0 qP254 N 27 [a0, a1, a2] [(1, a0)] m o := h
      have h := CR_iconst h rfl rfl
      have h : MR X ρ 3 0 0 qP254 N 28 [a0, a1, a2] [(1, 2), (1, a0)] m o := h
      obtain ⟨r11, m12, q13, h⟩ := MR_invV h rfl rfl
      have q13 : Run X ρ 168 [(1, a0), (1, 2)] m r11 m12 := q13
      obtain ⟨e14, e15⟩ := d168 q13
      rw [e14, e15] at h
      have h : MR X ρ 3 0 0 qP254 N 31 [a0, a1, a2] [(1, f168 m a0 2)] (g168 m a0 2) o := h
      exact CR_end h rfl rfl
  ·
    have c1 : ¬ ((m a0 7) = 3) := c1
    refine Or.inr ⟨c1, ?_⟩
    have h : MR X ρ 3 0 0 qP254 N 8 [a0, a1, a2] [] m o := h
    have h := CR_aload_n h rfl
    have h : MR X ρ 3 0 0 qP254 N 9 [a0, a1, a2] [(1, a0)] m o := h
    have h := CR_iconst h rfl rfl
    have h : MR X ρ 3 0 0 qP254 N 10 [a0, a1, a2] [(1, 1), (1, a0)] m o := h
    obtain ⟨r16, m17, q18, h⟩ := MR_invV h rfl rfl
    have q18 : Run X ρ 168 [(1, a0), (1, 1)] m r16 m17 := q18
    obtain ⟨e19, e20⟩ := d168 q18
    rw [e19, e20] at h
    have h : MR X ρ 3 0 0 qP254 N 13 [a0, a1, a2] [(1, f168 m a0 1)] (g168 m a0 1) o := h
    exact CR_end h rfl rfl
set_option maxRecDepth 16384 in
theorem i252_0 {X : KO} {ρ : Nat → Int32} {m : MM} {N : Nat} {o : Instr × List (Nat × Int) × MM} {a0 a1 : Int} (h : MR X ρ 2 0 0 qP252 N 0 [a0, a1] [] m o) : (∃ v4 m2, Run X ρ 211 [(1, a0)] m [(1, v4)] m2 ∧ (v4 = 0 ∨ v4 = 1) ∧ (((v4 = 0) ∧ (o = (.ireturn, [(1, f168 m2 a0 1)], g168 m2 a0 1))) ∨ (¬ (v4 = 0) ∧ (∃ v9 m7, Run X ρ 190 [(1, m2 a0 20), (1, 0), (1, m2 (m2 a0 15) 0), (2, m2 a0 12)] m2 [(1, v9)] m7 ∧ (((v9 = (-1)) ∧ (∃ v19 m17, Run X ρ 190 [(1, m7 a0 20), (1, 8), (1, m7 (m7 a0 15) 1), (2, m7 a0 12)] m7 [(1, v19)] m17 ∧ (((v19 = (-1)) ∧ (∃ m22, Run X ρ 195 [(1, a0)] (mu m17 (m17 a0 20) a1 (m17 a0 12)) [] m22 ∧ (o = (.ireturn, [(1, 1)], m22)))) ∨ (¬ (v19 = (-1)) ∧ (o = (.ireturn, [(1, f168 m17 a0 3)], g168 m17 a0 3)))))) ∨ (¬ (v9 = (-1)) ∧ (o = (.ireturn, [(1, f168 m7 a0 3)], g168 m7 a0 3)))))))) := by
  have h := CR_aload_n h rfl
  have h : MR X ρ 2 0 0 qP252 N 1 [a0, a1] [(1, a0)] m o := h
  obtain ⟨r1, m2, q3, h⟩ := MR_invV h rfl rfl
  have q3 : Run X ρ 211 [(1, a0)] m r1 m2 := q3
  obtain ⟨v4, rfl, zv4⟩ := Run_z q3 rfl
  have h : MR X ρ 2 0 0 qP252 N 4 [a0, a1] [(1, v4)] m2 o := h
  refine ⟨v4, m2, q3, zv4, ?_⟩
  rcases MR_if h rfl rfl with ⟨c5, h⟩ | ⟨c5, h⟩
  ·
    have c5 : ¬ (v4 = 0) := c5
    refine Or.inr ⟨c5, ?_⟩
    have h : MR X ρ 2 0 0 qP252 N 13 [a0, a1] [] m2 o := h
    have h := CR_aload_n h rfl
    have h : MR X ρ 2 0 0 qP252 N 14 [a0, a1] [(1, a0)] m2 o := h
    have h := CR_getf h rfl (by decide)
    have h : MR X ρ 2 0 0 qP252 N 17 [a0, a1] [(1, m2 a0 20)] m2 o := h
    have h := CR_iconst h rfl rfl
    have h : MR X ρ 2 0 0 qP252 N 18 [a0, a1] [(1, 0), (1, m2 a0 20)] m2 o := h
    have h := CR_aload_n h rfl
    have h : MR X ρ 2 0 0 qP252 N 19 [a0, a1] [(1, a0), (1, 0), (1, m2 a0 20)] m2 o := h
    have h := CR_getf h rfl (by decide)
    have h : MR X ρ 2 0 0 qP252 N 22 [a0, a1] [(1, m2 a0 15), (1, 0), (1, m2 a0 20)] m2 o := h
    have h := CR_iconst h rfl rfl
    have h : MR X ρ 2 0 0 qP252 N 23 [a0, a1] [(1, 0), (1, m2 a0 15), (1, 0), (1, m2 a0 20)] m2 o := h
    have h := CR_iaload h rfl rfl
    have h : MR X ρ 2 0 0 qP252 N 24 [a0, a1] [(1, m2 (m2 a0 15) 0), (1, 0), (1, m2 a0 20)] m2 o := h
    have h := CR_aload_n h rfl
    have h : MR X ρ 2 0 0 qP252 N 25 [a0, a1] [(1, a0), (1, m2 (m2 a0 15) 0), (1, 0), (1, m2 a0 20)] m2 o := h
    have h := CR_getf h rfl (by decide)
    have h : MR X ρ 2 0 0 qP252 N 28 [a0, a1] [(2, m2 a0 12), (1, m2 (m2 a0 15) 0), (1, 0), (1, m2 a0 20)] m2 o := h
    obtain ⟨r6, m7, q8, h⟩ := MR_invS h rfl rfl
    have q8 : Run X ρ 190 [(1, m2 a0 20), (1, 0), (1, m2 (m2 a0 15) 0), (2, m2 a0 12)] m2 r6 m7 := q8
    obtain ⟨v9, rfl⟩ := Run_i q8 rfl
    have h : MR X ρ 2 0 0 qP252 N 31 [a0, a1] [(1, v9)] m7 o := h
    refine ⟨v9, m7, q8, ?_⟩
    have h := CR_iconst h rfl rfl
    have h : MR X ρ 2 0 0 qP252 N 32 [a0, a1] [(1, -1), (1, v9)] m7 o := h
    rcases MR_icmp h rfl rfl with ⟨c10, h⟩ | ⟨c10, h⟩
    ·
      have c10 : ¬ (v9 = (-1)) := c10
      refine Or.inr ⟨c10, ?_⟩
      have h : MR X ρ 2 0 0 qP252 N 58 [a0, a1] [] m7 o := h
      have h := CR_aload_n h rfl
      have h : MR X ρ 2 0 0 qP252 N 59 [a0, a1] [(1, a0)] m7 o := h
      have h := CR_iconst h rfl rfl
      have h : MR X ρ 2 0 0 qP252 N 60 [a0, a1] [(1, 3), (1, a0)] m7 o := h
      obtain ⟨r11, m12, q13, h⟩ := MR_invV h rfl rfl
      have q13 : Run X ρ 168 [(1, a0), (1, 3)] m7 r11 m12 := q13
      obtain ⟨e14, e15⟩ := d168 q13
      rw [e14, e15] at h
      have h : MR X ρ 2 0 0 qP252 N 63 [a0, a1] [(1, f168 m7 a0 3)] (g168 m7 a0 3) o := h
      exact CR_end h rfl rfl
    ·
      have c10 : v9 = (-1) := Decidable.of_not_not (show ¬ ¬ (v9 = (-1)) from c10)
      refine Or.inl ⟨c10, ?_⟩
      have h : MR X ρ 2 0 0 qP252 N 35 [a0, a1] [] m7 o := h
      have h := CR_aload_n h rfl
      have h : MR X ρ 2 0 0 qP252 N 36 [a0, a1] [(1, a0)] m7 o := h
      have h := CR_getf h rfl (by decide)
      have h : MR X ρ 2 0 0 qP252 N 39 [a0, a1] [(1, m7 a0 20)] m7 o := h
      have h := CR_bipush h rfl rfl
      have h : MR X ρ 2 0 0 qP252 N 41 [a0, a1] [(1, 8), (1, m7 a0 20)] m7 o := h
      have h := CR_aload_n h rfl
      have h : MR X ρ 2 0 0 qP252 N 42 [a0, a1] [(1, a0), (1, 8), (1, m7 a0 20)] m7 o := h
      have h := CR_getf h rfl (by decide)
      have h : MR X ρ 2 0 0 qP252 N 45 [a0, a1] [(1, m7 a0 15), (1, 8), (1, m7 a0 20)] m7 o := h
      have h := CR_iconst h rfl rfl
      have h : MR X ρ 2 0 0 qP252 N 46 [a0, a1] [(1, 1), (1, m7 a0 15), (1, 8), (1, m7 a0 20)] m7 o := h
      have h := CR_iaload h rfl rfl
      have h : MR X ρ 2 0 0 qP252 N 47 [a0, a1] [(1, m7 (m7 a0 15) 1), (1, 8), (1, m7 a0 20)] m7 o := h
      have h := CR_aload_n h rfl
      have h : MR X ρ 2 0 0 qP252 N 48 [a0, a1] [(1, a0), (1, m7 (m7 a0 15) 1), (1, 8), (1, m7 a0 20)] m7 o := h
      have h := CR_getf h rfl (by decide)
      have h : MR X ρ 2 0 0 qP252 N 51 [a0, a1] [(2, m7 a0 12), (1, m7 (m7 a0 15) 1), (1, 8), (1, m7 a0 20)] m7 o := h
      obtain ⟨r16, m17, q18, h⟩ := MR_invS h rfl rfl
      have q18 : Run X ρ 190 [(1, m7 a0 20), (1, 8), (1, m7 (m7 a0 15) 1), (2, m7 a0 12)] m7 r16 m17 := q18
      obtain ⟨v19, rfl⟩ := Run_i q18 rfl
      have h : MR X ρ 2 0 0 qP252 N 54 [a0, a1] [(1, v19)] m17 o := h
      refine ⟨v19, m17, q18, ?_⟩
      have h := CR_iconst h rfl rfl
      have h : MR X ρ 2 0 0 qP252 N 55 [a0, a1] [(1, -1), (1, v19)] m17 o := h
      rcases MR_icmp h rfl rfl with ⟨c20, h⟩ | ⟨c20, h⟩
      ·
        have c20 : v19 = (-1) := c20
        refine Or.inl ⟨c20, ?_⟩
        have h : MR X ρ 2 0 0 qP252 N 64 [a0, a1] [] m17 o := h
        have h := CR_aload_n h rfl
        have h : MR X ρ 2 0 0 qP252 N 65 [a0, a1] [(1, a0)] m17 o := h
        have h := CR_getf h rfl (by decide)
        have h : MR X ρ 2 0 0 qP252 N 68 [a0, a1] [(1, m17 a0 20)] m17 o := h
        have h := CR_iload_n h rfl
        have h : MR X ρ 2 0 0 qP252 N 69 [a0, a1] [(1, a1), (1, m17 a0 20)] m17 o := h
        have h := CR_aload_n h rfl
        have h : MR X ρ 2 0 0 qP252 N 70 [a0, a1] [(1, a0), (1, a1), (1, m17 a0 20)] m17 o := h
        have h := CR_getf h rfl (by decide)
        have h : MR X ρ 2 0 0 qP252 N 73 [a0, a1] [(2, m17 a0 12), (1, a1), (1, m17 a0 20)] m17 o := h
        have h := CR_last h rfl
        have h : MR X ρ 2 0 0 qP252 N 74 [a0, a1] [] (mu m17 (m17 a0 20) a1 (m17 a0 12)) o := h
        have h := CR_aload_n h rfl
        have h : MR X ρ 2 0 0 qP252 N 75 [a0, a1] [(1, a0)] (mu m17 (m17 a0 20) a1 (m17 a0 12)) o := h
        obtain ⟨r21, m22, q23, h⟩ := MR_invV h rfl rfl
        have q23 : Run X ρ 195 [(1, a0)] (mu m17 (m17 a0 20) a1 (m17 a0 12)) r21 m22 := q23
        obtain rfl := Run_v q23 rfl
        have h : MR X ρ 2 0 0 qP252 N 78 [a0, a1] [] m22 o := h
        refine ⟨m22, q23, ?_⟩
        have h := CR_iconst h rfl rfl
        have h : MR X ρ 2 0 0 qP252 N 79 [a0, a1] [(1, 1)] m22 o := h
        exact CR_end h rfl rfl
      ·
        have c20 : ¬ (v19 = (-1)) := c20
        refine Or.inr ⟨c20, ?_⟩
        have h : MR X ρ 2 0 0 qP252 N 58 [a0, a1] [] m17 o := h
        have h := CR_aload_n h rfl
        have h : MR X ρ 2 0 0 qP252 N 59 [a0, a1] [(1, a0)] m17 o := h
        have h := CR_iconst h rfl rfl
        have h : MR X ρ 2 0 0 qP252 N 60 [a0, a1] [(1, 3), (1, a0)] m17 o := h
        obtain ⟨r24, m25, q26, h⟩ := MR_invV h rfl rfl
        have q26 : Run X ρ 168 [(1, a0), (1, 3)] m17 r24 m25 := q26
        obtain ⟨e27, e28⟩ := d168 q26
        rw [e27, e28] at h
        have h : MR X ρ 2 0 0 qP252 N 63 [a0, a1] [(1, f168 m17 a0 3)] (g168 m17 a0 3) o := h
        exact CR_end h rfl rfl
  ·
    have c5 : v4 = 0 := Decidable.of_not_not (show ¬ ¬ (v4 = 0) from c5)
    refine Or.inl ⟨c5, ?_⟩
    have h : MR X ρ 2 0 0 qP252 N 7 [a0, a1] [] m2 o := h
    have h := CR_aload_n h rfl
    have h : MR X ρ 2 0 0 qP252 N 8 [a0, a1] [(1, a0)] m2 o := h
    have h := CR_iconst h rfl rfl
    have h : MR X ρ 2 0 0 qP252 N 9 [a0, a1] [(1, 1), (1, a0)] m2 o := h
    obtain ⟨r29, m30, q31, h⟩ := MR_invV h rfl rfl
    have q31 : Run X ρ 168 [(1, a0), (1, 1)] m2 r29 m30 := q31
    obtain ⟨e32, e33⟩ := d168 q31
    rw [e32, e33] at h
    have h : MR X ρ 2 0 0 qP252 N 12 [a0, a1] [(1, f168 m2 a0 1)] (g168 m2 a0 1) o := h
    exact CR_end h rfl rfl
set_option maxRecDepth 16384 in
theorem i212_0 {X : KO} {ρ : Nat → Int32} {m : MM} {N : Nat} {o : Instr × List (Nat × Int) × MM} {a0 : Int} (h : MR X ρ 1 0 0 qP212 N 0 [a0] [] m o) : (∃ v4 m2, Run X ρ 211 [(1, a0)] m [(1, v4)] m2 ∧ (v4 = 0 ∨ v4 = 1) ∧ (((v4 = 0) ∧ (o = (.ireturn, [(1, f168 m2 a0 1)], g168 m2 a0 1))) ∨ (¬ (v4 = 0) ∧ (∃ v9 m7, Run X ρ 190 [(1, m2 a0 20), (1, 0), (1, m2 (m2 a0 15) 0), (2, m2 a0 12)] m2 [(1, v9)] m7 ∧ (((((mu m7 a0 13 v9) a0 13) = (-1)) ∧ ((((f168 (mu m7 a0 13 v9) a0 3) = 0) ∧ (o = (.ireturn, [(1, 0)], g168 (mu m7 a0 13 v9) a0 3))) ∨ (¬ ((f168 (mu m7 a0 13 v9) a0 3) = 0) ∧ (o = (.ireturn, [(1, 1)], g168 (mu m7 a0 13 v9) a0 3))))) ∨ (¬ (((mu m7 a0 13 v9) a0 13) = (-1)) ∧ (o = (.ireturn, [(1, 1)], mu m7 a0 13 v9)))))))) := by
  have h := CR_aload_n h rfl
  have h : MR X ρ 1 0 0 qP212 N 1 [a0] [(1, a0)] m o := h
  obtain ⟨r1, m2, q3, h⟩ := MR_invV h rfl rfl
  have q3 : Run X ρ 211 [(1, a0)] m r1 m2 := q3
  obtain ⟨v4, rfl, zv4⟩ := Run_z q3 rfl
  have h : MR X ρ 1 0 0 qP212 N 4 [a0] [(1, v4)] m2 o := h
  refine ⟨v4, m2, q3, zv4, ?_⟩
  rcases MR_if h rfl rfl with ⟨c5, h⟩ | ⟨c5, h⟩
  ·
    have c5 : ¬ (v4 = 0) := c5
    refine Or.inr ⟨c5, ?_⟩
    have h : MR X ρ 1 0 0 qP212 N 13 [a0] [] m2 o := h
    have h := CR_aload_n h rfl
    have h : MR X ρ 1 0 0 qP212 N 14 [a0] [(1, a0)] m2 o := h
    have h := CR_aload_n h rfl
    have h : MR X ρ 1 0 0 qP212 N 15 [a0] [(1, a0), (1, a0)] m2 o := h
    have h := CR_getf h rfl (by decide)
    have h : MR X ρ 1 0 0 qP212 N 18 [a0] [(1, m2 a0 20), (1, a0)] m2 o := h
    have h := CR_iconst h rfl rfl
    have h : MR X ρ 1 0 0 qP212 N 19 [a0] [(1, 0), (1, m2 a0 20), (1, a0)] m2 o := h
    have h := CR_aload_n h rfl
    have h : MR X ρ 1 0 0 qP212 N 20 [a0] [(1, a0), (1, 0), (1, m2 a0 20), (1, a0)] m2 o := h
    have h := CR_getf h rfl (by decide)
    have h : MR X ρ 1 0 0 qP212 N 23 [a0] [(1, m2 a0 15), (1, 0), (1, m2 a0 20), (1, a0)] m2 o := h
    have h := CR_iconst h rfl rfl
    have h : MR X ρ 1 0 0 qP212 N 24 [a0] [(1, 0), (1, m2 a0 15), (1, 0), (1, m2 a0 20), (1, a0)] m2 o := h
    have h := CR_iaload h rfl rfl
    have h : MR X ρ 1 0 0 qP212 N 25 [a0] [(1, m2 (m2 a0 15) 0), (1, 0), (1, m2 a0 20), (1, a0)] m2 o := h
    have h := CR_aload_n h rfl
    have h : MR X ρ 1 0 0 qP212 N 26 [a0] [(1, a0), (1, m2 (m2 a0 15) 0), (1, 0), (1, m2 a0 20), (1, a0)] m2 o := h
    have h := CR_getf h rfl (by decide)
    have h : MR X ρ 1 0 0 qP212 N 29 [a0] [(2, m2 a0 12), (1, m2 (m2 a0 15) 0), (1, 0), (1, m2 a0 20), (1, a0)] m2 o := h
    obtain ⟨r6, m7, q8, h⟩ := MR_invS h rfl rfl
    have q8 : Run X ρ 190 [(1, m2 a0 20), (1, 0), (1, m2 (m2 a0 15) 0), (2, m2 a0 12)] m2 r6 m7 := q8
    obtain ⟨v9, rfl⟩ := Run_i q8 rfl
    have h : MR X ρ 1 0 0 qP212 N 32 [a0] [(1, v9), (1, a0)] m7 o := h
    refine ⟨v9, m7, q8, ?_⟩
    have h := CR_putf h rfl
    have h : MR X ρ 1 0 0 qP212 N 35 [a0] [] (mu m7 a0 13 v9) o := h
    have h := CR_aload_n h rfl
    have h : MR X ρ 1 0 0 qP212 N 36 [a0] [(1, a0)] (mu m7 a0 13 v9) o := h
    have h := CR_getf h rfl (by decide)
    have h : MR X ρ 1 0 0 qP212 N 39 [a0] [(1, (mu m7 a0 13 v9) a0 13)] (mu m7 a0 13 v9) o := h
    have h := CR_iconst h rfl rfl
    have h : MR X ρ 1 0 0 qP212 N 40 [a0] [(1, -1), (1, (mu m7 a0 13 v9) a0 13)] (mu m7 a0 13 v9) o := h
    rcases MR_icmp h rfl rfl with ⟨c10, h⟩ | ⟨c10, h⟩
    ·
      have c10 : ¬ (((mu m7 a0 13 v9) a0 13) = (-1)) := c10
      refine Or.inr ⟨c10, ?_⟩
      have h : MR X ρ 1 0 0 qP212 N 51 [a0] [] (mu m7 a0 13 v9) o := h
      have h := CR_iconst h rfl rfl
      have h : MR X ρ 1 0 0 qP212 N 52 [a0] [(1, 1)] (mu m7 a0 13 v9) o := h
      have h := CR_go h rfl rfl
      have h : MR X ρ 1 0 0 qP212 N 56 [a0] [(1, 1)] (mu m7 a0 13 v9) o := h
      exact CR_end h rfl rfl
    ·
      have c10 : ((mu m7 a0 13 v9) a0 13) = (-1) := Decidable.of_not_not (show ¬ ¬ (((mu m7 a0 13 v9) a0 13) = (-1)) from c10)
      refine Or.inl ⟨c10, ?_⟩
      have h : MR X ρ 1 0 0 qP212 N 43 [a0] [] (mu m7 a0 13 v9) o := h
      have h := CR_aload_n h rfl
      have h : MR X ρ 1 0 0 qP212 N 44 [a0] [(1, a0)] (mu m7 a0 13 v9) o := h
      have h := CR_iconst h rfl rfl
      have h : MR X ρ 1 0 0 qP212 N 45 [a0] [(1, 3), (1, a0)] (mu m7 a0 13 v9) o := h
      obtain ⟨r11, m12, q13, h⟩ := MR_invV h rfl rfl
      have q13 : Run X ρ 168 [(1, a0), (1, 3)] (mu m7 a0 13 v9) r11 m12 := q13
      obtain ⟨e14, e15⟩ := d168 q13
      rw [e14, e15] at h
      have h : MR X ρ 1 0 0 qP212 N 48 [a0] [(1, f168 (mu m7 a0 13 v9) a0 3)] (g168 (mu m7 a0 13 v9) a0 3) o := h
      rcases MR_if h rfl rfl with ⟨c16, h⟩ | ⟨c16, h⟩
      ·
        have c16 : (f168 (mu m7 a0 13 v9) a0 3) = 0 := c16
        refine Or.inl ⟨c16, ?_⟩
        have h : MR X ρ 1 0 0 qP212 N 55 [a0] [] (g168 (mu m7 a0 13 v9) a0 3) o := h
        have h := CR_iconst h rfl rfl
        have h : MR X ρ 1 0 0 qP212 N 56 [a0] [(1, 0)] (g168 (mu m7 a0 13 v9) a0 3) o := h
        exact CR_end h rfl rfl
      ·
        have c16 : ¬ ((f168 (mu m7 a0 13 v9) a0 3) = 0) := c16
        refine Or.inr ⟨c16, ?_⟩
        have h : MR X ρ 1 0 0 qP212 N 51 [a0] [] (g168 (mu m7 a0 13 v9) a0 3) o := h
        have h := CR_iconst h rfl rfl
        have h : MR X ρ 1 0 0 qP212 N 52 [a0] [(1, 1)] (g168 (mu m7 a0 13 v9) a0 3) o := h
        have h := CR_go h rfl rfl
        have h : MR X ρ 1 0 0 qP212 N 56 [a0] [(1, 1)] (g168 (mu m7 a0 13 v9) a0 3) o := h
        exact CR_end h rfl rfl
  ·
    have c5 : v4 = 0 := Decidable.of_not_not (show ¬ ¬ (v4 = 0) from c5)
    refine Or.inl ⟨c5, ?_⟩
    have h : MR X ρ 1 0 0 qP212 N 7 [a0] [] m2 o := h
    have h := CR_aload_n h rfl
    have h : MR X ρ 1 0 0 qP212 N 8 [a0] [(1, a0)] m2 o := h
    have h := CR_iconst h rfl rfl
    have h : MR X ρ 1 0 0 qP212 N 9 [a0] [(1, 1), (1, a0)] m2 o := h
    obtain ⟨r17, m18, q19, h⟩ := MR_invV h rfl rfl
    have q19 : Run X ρ 168 [(1, a0), (1, 1)] m2 r17 m18 := q19
    obtain ⟨e20, e21⟩ := d168 q19
    rw [e20, e21] at h
    have h : MR X ρ 1 0 0 qP212 N 12 [a0] [(1, f168 m2 a0 1)] (g168 m2 a0 1) o := h
    exact CR_end h rfl rfl
set_option maxRecDepth 16384 in
theorem i246_0 {X : KO} {ρ : Nat → Int32} {m : MM} {N : Nat} {o : Instr × List (Nat × Int) × MM} {a0 a1 a2 : Int} (h : MR X ρ 3 0 0 qP246 N 0 [a0, a1, a2] [] m o) : ((((m (m a0 15) a1) = a2) ∧ (o = (.ireturn, [(1, f168 m a0 4)], g168 m a0 4))) ∨ (¬ ((m (m a0 15) a1) = a2) ∧ (∃ m3, Run X ρ 195 [(1, a0)] m [] m3 ∧ (o = (.ireturn, [(1, 1)], m3))))) := by
  have h := CR_aload_n h rfl
  have h : MR X ρ 3 0 0 qP246 N 1 [a0, a1, a2] [(1, a0)] m o := h
  have h := CR_getf h rfl (by decide)
  have h : MR X ρ 3 0 0 qP246 N 4 [a0, a1, a2] [(1, m a0 15)] m o := h
  have h := CR_iload_n h rfl
  have h : MR X ρ 3 0 0 qP246 N 5 [a0, a1, a2] [(1, a1), (1, m a0 15)] m o := h
  have h := CR_iaload h rfl rfl
  have h : MR X ρ 3 0 0 qP246 N 6 [a0, a1, a2] [(1, m (m a0 15) a1)] m o := h
  have h := CR_iload_n h rfl
  have h : MR X ρ 3 0 0 qP246 N 7 [a0, a1, a2] [(1, a2), (1, m (m a0 15) a1)] m o := h
  rcases MR_icmp h rfl rfl with ⟨c1, h⟩ | ⟨c1, h⟩
  ·
    have c1 : ¬ ((m (m a0 15) a1) = a2) := c1
    refine Or.inr ⟨c1, ?_⟩
    have h : MR X ρ 3 0 0 qP246 N 16 [a0, a1, a2] [] m o := h
    have h := CR_aload_n h rfl
    have h : MR X ρ 3 0 0 qP246 N 17 [a0, a1, a2] [(1, a0)] m o := h
    obtain ⟨r2, m3, q4, h⟩ := MR_invV h rfl rfl
    have q4 : Run X ρ 195 [(1, a0)] m r2 m3 := q4
    obtain rfl := Run_v q4 rfl
    have h : MR X ρ 3 0 0 qP246 N 20 [a0, a1, a2] [] m3 o := h
    refine ⟨m3, q4, ?_⟩
    have h := CR_iconst h rfl rfl
    have h : MR X ρ 3 0 0 qP246 N 21 [a0, a1, a2] [(1, 1)] m3 o := h
    exact CR_end h rfl rfl
  ·
    have c1 : (m (m a0 15) a1) = a2 := Decidable.of_not_not (show ¬ ¬ ((m (m a0 15) a1) = a2) from c1)
    refine Or.inl ⟨c1, ?_⟩
    have h : MR X ρ 3 0 0 qP246 N 10 [a0, a1, a2] [] m o := h
    have h := CR_aload_n h rfl
    have h : MR X ρ 3 0 0 qP246 N 11 [a0, a1, a2] [(1, a0)] m o := h
    have h := CR_iconst h rfl rfl
    have h : MR X ρ 3 0 0 qP246 N 12 [a0, a1, a2] [(1, 4), (1, a0)] m o := h
    obtain ⟨r5, m6, q7, h⟩ := MR_invV h rfl rfl
    have q7 : Run X ρ 168 [(1, a0), (1, 4)] m r5 m6 := q7
    obtain ⟨e8, e9⟩ := d168 q7
    rw [e8, e9] at h
    have h : MR X ρ 3 0 0 qP246 N 15 [a0, a1, a2] [(1, f168 m a0 4)] (g168 m a0 4) o := h
    exact CR_end h rfl rfl
set_option maxRecDepth 16384 in
theorem i258_0 {X : KO} {ρ : Nat → Int32} {m : MM} {N : Nat} {o : Instr × List (Nat × Int) × MM} {a0 : Int} (h : MR X ρ 1 0 0 qP258 N 0 [a0] [] m o) : (∃ v4 m2, Run X ρ 246 [(1, a0), (1, 0), (1, 8)] m [(1, v4)] m2 ∧ (v4 = 0 ∨ v4 = 1) ∧ (((v4 = 0) ∧ (o = (.ireturn, [(1, 0)], m2))) ∨ (¬ (v4 = 0) ∧ (∃ v9 m7, Run X ρ 252 [(1, a0), (1, m2 (m2 a0 15) 0)] m2 [(1, v9)] m7 ∧ (v9 = 0 ∨ v9 = 1) ∧ (((v9 = 0) ∧ (o = (.ireturn, [(1, 0)], m7))) ∨ (¬ (v9 = 0) ∧ ((((f217 m7 a0 1) = 0) ∧ (o = (.ireturn, [(1, 1)], mu m7 (m7 a0 15) 0 (s32 (s32 ((m7 (m7 a0 15) 0) + 1)))))) ∨ (¬ ((f217 m7 a0 1) = 0) ∧ (∃ m18, Run X ρ 195 [(1, a0)] (mu m7 (m7 a0 15) 3 (s32 (jor (m7 (m7 a0 15) 3) (jshl 1 (m7 (m7 a0 15) 0))))) [] m18 ∧ (o = (.ireturn, [(1, 1)], mu m18 (m18 a0 15) 0 (s32 (s32 ((m18 (m18 a0 15) 0) + 1)))))))))))))) := by
  have h := CR_aload_n h rfl
  have h : MR X ρ 1 0 0 qP258 N 1 [a0] [(1, a0)] m o := h
  have h := CR_iconst h rfl rfl
  have h : MR X ρ 1 0 0 qP258 N 2 [a0] [(1, 0), (1, a0)] m o := h
  have h := CR_bipush h rfl rfl
  have h : MR X ρ 1 0 0 qP258 N 4 [a0] [(1, 8), (1, 0), (1, a0)] m o := h
  obtain ⟨r1, m2, q3, h⟩ := MR_invV h rfl rfl
  have q3 : Run X ρ 246 [(1, a0), (1, 0), (1, 8)] m r1 m2 := q3
  obtain ⟨v4, rfl, zv4⟩ := Run_z q3 rfl
  have h : MR X ρ 1 0 0 qP258 N 7 [a0] [(1, v4)] m2 o := h
  refine ⟨v4, m2, q3, zv4, ?_⟩
  rcases MR_if h rfl rfl with ⟨c5, h⟩ | ⟨c5, h⟩
  ·
    have c5 : v4 = 0 := c5
    refine Or.inl ⟨c5, ?_⟩
    have h : MR X ρ 1 0 0 qP258 N 23 [a0] [] m2 o := h
    have h := CR_iconst h rfl rfl
    have h : MR X ρ 1 0 0 qP258 N 24 [a0] [(1, 0)] m2 o := h
    exact CR_end h rfl rfl
  ·
    have c5 : ¬ (v4 = 0) := c5
    refine Or.inr ⟨c5, ?_⟩
    have h : MR X ρ 1 0 0 qP258 N 10 [a0] [] m2 o := h
    have h := CR_aload_n h rfl
    have h : MR X ρ 1 0 0 qP258 N 11 [a0] [(1, a0)] m2 o := h
    have h := CR_aload_n h rfl
    have h : MR X ρ 1 0 0 qP258 N 12 [a0] [(1, a0), (1, a0)] m2 o := h
    have h := CR_getf h rfl (by decide)
    have h : MR X ρ 1 0 0 qP258 N 15 [a0] [(1, m2 a0 15), (1, a0)] m2 o := h
    have h := CR_iconst h rfl rfl
    have h : MR X ρ 1 0 0 qP258 N 16 [a0] [(1, 0), (1, m2 a0 15), (1, a0)] m2 o := h
    have h := CR_iaload h rfl rfl
    have h : MR X ρ 1 0 0 qP258 N 17 [a0] [(1, m2 (m2 a0 15) 0), (1, a0)] m2 o := h
    obtain ⟨r6, m7, q8, h⟩ := MR_invV h rfl rfl
    have q8 : Run X ρ 252 [(1, a0), (1, m2 (m2 a0 15) 0)] m2 r6 m7 := q8
    obtain ⟨v9, rfl, zv9⟩ := Run_z q8 rfl
    have h : MR X ρ 1 0 0 qP258 N 20 [a0] [(1, v9)] m7 o := h
    refine ⟨v9, m7, q8, zv9, ?_⟩
    rcases MR_if h rfl rfl with ⟨c10, h⟩ | ⟨c10, h⟩
    ·
      have c10 : ¬ (v9 = 0) := c10
      refine Or.inr ⟨c10, ?_⟩
      have h : MR X ρ 1 0 0 qP258 N 25 [a0] [] m7 o := h
      have h := CR_aload_n h rfl
      have h : MR X ρ 1 0 0 qP258 N 26 [a0] [(1, a0)] m7 o := h
      have h := CR_iconst h rfl rfl
      have h : MR X ρ 1 0 0 qP258 N 27 [a0] [(1, 1), (1, a0)] m7 o := h
      obtain ⟨r11, m12, q13, h⟩ := MR_invV h rfl rfl
      have q13 : Run X ρ 217 [(1, a0), (1, 1)] m7 r11 m12 := q13
      obtain ⟨e14, e15⟩ := d217 q13
      rw [e14, e15] at h
      have h : MR X ρ 1 0 0 qP258 N 30 [a0] [(1, f217 m7 a0 1)] m7 o := h
      rcases MR_if h rfl rfl with ⟨c16, h⟩ | ⟨c16, h⟩
      ·
        have c16 : (f217 m7 a0 1) = 0 := c16
        refine Or.inl ⟨c16, ?_⟩
        have h : MR X ρ 1 0 0 qP258 N 54 [a0] [] m7 o := h
        have h := CR_aload_n h rfl
        have h : MR X ρ 1 0 0 qP258 N 55 [a0] [(1, a0)] m7 o := h
        have h := CR_getf h rfl (by decide)
        have h : MR X ρ 1 0 0 qP258 N 58 [a0] [(1, m7 a0 15)] m7 o := h
        have h := CR_iconst h rfl rfl
        have h : MR X ρ 1 0 0 qP258 N 59 [a0] [(1, 0), (1, m7 a0 15)] m7 o := h
        have h := CR_dup2 h rfl
        have h : MR X ρ 1 0 0 qP258 N 60 [a0] [(1, 0), (1, m7 a0 15), (1, 0), (1, m7 a0 15)] m7 o := h
        have h := CR_iaload h rfl rfl
        have h : MR X ρ 1 0 0 qP258 N 61 [a0] [(1, m7 (m7 a0 15) 0), (1, 0), (1, m7 a0 15)] m7 o := h
        have h := CR_iconst h rfl rfl
        have h : MR X ρ 1 0 0 qP258 N 62 [a0] [(1, 1), (1, m7 (m7 a0 15) 0), (1, 0), (1, m7 a0 15)] m7 o := h
        have h := CR_iadd h rfl
        have h : MR X ρ 1 0 0 qP258 N 63 [a0] [(1, s32 ((m7 (m7 a0 15) 0) + 1)), (1, 0), (1, m7 a0 15)] m7 o := h
        have h := CR_iastore_ h rfl
        have h : MR X ρ 1 0 0 qP258 N 64 [a0] [] (mu m7 (m7 a0 15) 0 (s32 (s32 ((m7 (m7 a0 15) 0) + 1)))) o := h
        have h := CR_iconst h rfl rfl
        have h : MR X ρ 1 0 0 qP258 N 65 [a0] [(1, 1)] (mu m7 (m7 a0 15) 0 (s32 (s32 ((m7 (m7 a0 15) 0) + 1)))) o := h
        exact CR_end h rfl rfl
      ·
        have c16 : ¬ ((f217 m7 a0 1) = 0) := c16
        refine Or.inr ⟨c16, ?_⟩
        have h : MR X ρ 1 0 0 qP258 N 33 [a0] [] m7 o := h
        have h := CR_aload_n h rfl
        have h : MR X ρ 1 0 0 qP258 N 34 [a0] [(1, a0)] m7 o := h
        have h := CR_getf h rfl (by decide)
        have h : MR X ρ 1 0 0 qP258 N 37 [a0] [(1, m7 a0 15)] m7 o := h
        have h := CR_iconst h rfl rfl
        have h : MR X ρ 1 0 0 qP258 N 38 [a0] [(1, 3), (1, m7 a0 15)] m7 o := h
        have h := CR_dup2 h rfl
        have h : MR X ρ 1 0 0 qP258 N 39 [a0] [(1, 3), (1, m7 a0 15), (1, 3), (1, m7 a0 15)] m7 o := h
        have h := CR_iaload h rfl rfl
        have h : MR X ρ 1 0 0 qP258 N 40 [a0] [(1, m7 (m7 a0 15) 3), (1, 3), (1, m7 a0 15)] m7 o := h
        have h := CR_iconst h rfl rfl
        have h : MR X ρ 1 0 0 qP258 N 41 [a0] [(1, 1), (1, m7 (m7 a0 15) 3), (1, 3), (1, m7 a0 15)] m7 o := h
        have h := CR_aload_n h rfl
        have h : MR X ρ 1 0 0 qP258 N 42 [a0] [(1, a0), (1, 1), (1, m7 (m7 a0 15) 3), (1, 3), (1, m7 a0 15)] m7 o := h
        have h := CR_getf h rfl (by decide)
        have h : MR X ρ 1 0 0 qP258 N 45 [a0] [(1, m7 a0 15), (1, 1), (1, m7 (m7 a0 15) 3), (1, 3), (1, m7 a0 15)] m7 o := h
        have h := CR_iconst h rfl rfl
        have h : MR X ρ 1 0 0 qP258 N 46 [a0] [(1, 0), (1, m7 a0 15), (1, 1), (1, m7 (m7 a0 15) 3), (1, 3), (1, m7 a0 15)] m7 o := h
        have h := CR_iaload h rfl rfl
        have h : MR X ρ 1 0 0 qP258 N 47 [a0] [(1, m7 (m7 a0 15) 0), (1, 1), (1, m7 (m7 a0 15) 3), (1, 3), (1, m7 a0 15)] m7 o := h
        have h := CR_ishl h rfl
        have h : MR X ρ 1 0 0 qP258 N 48 [a0] [(1, jshl 1 (m7 (m7 a0 15) 0)), (1, m7 (m7 a0 15) 3), (1, 3), (1, m7 a0 15)] m7 o := h
        have h := CR_ior h rfl
        have h : MR X ρ 1 0 0 qP258 N 49 [a0] [(1, jor (m7 (m7 a0 15) 3) (jshl 1 (m7 (m7 a0 15) 0))), (1, 3), (1, m7 a0 15)] m7 o := h
        have h := CR_iastore_ h rfl
        have h : MR X ρ 1 0 0 qP258 N 50 [a0] [] (mu m7 (m7 a0 15) 3 (s32 (jor (m7 (m7 a0 15) 3) (jshl 1 (m7 (m7 a0 15) 0))))) o := h
        have h := CR_aload_n h rfl
        have h : MR X ρ 1 0 0 qP258 N 51 [a0] [(1, a0)] (mu m7 (m7 a0 15) 3 (s32 (jor (m7 (m7 a0 15) 3) (jshl 1 (m7 (m7 a0 15) 0))))) o := h
        obtain ⟨r17, m18, q19, h⟩ := MR_invV h rfl rfl
        have q19 : Run X ρ 195 [(1, a0)] (mu m7 (m7 a0 15) 3 (s32 (jor (m7 (m7 a0 15) 3) (jshl 1 (m7 (m7 a0 15) 0))))) r17 m18 := q19
        obtain rfl := Run_v q19 rfl
        have h : MR X ρ 1 0 0 qP258 N 54 [a0] [] m18 o := h
        refine ⟨m18, q19, ?_⟩
        have h := CR_aload_n h rfl
        have h : MR X ρ 1 0 0 qP258 N 55 [a0] [(1, a0)] m18 o := h
        have h := CR_getf h rfl (by decide)
        have h : MR X ρ 1 0 0 qP258 N 58 [a0] [(1, m18 a0 15)] m18 o := h
        have h := CR_iconst h rfl rfl
        have h : MR X ρ 1 0 0 qP258 N 59 [a0] [(1, 0), (1, m18 a0 15)] m18 o := h
        have h := CR_dup2 h rfl
        have h : MR X ρ 1 0 0 qP258 N 60 [a0] [(1, 0), (1, m18 a0 15), (1, 0), (1, m18 a0 15)] m18 o := h
        have h := CR_iaload h rfl rfl
        have h : MR X ρ 1 0 0 qP258 N 61 [a0] [(1, m18 (m18 a0 15) 0), (1, 0), (1, m18 a0 15)] m18 o := h
        have h := CR_iconst h rfl rfl
        have h : MR X ρ 1 0 0 qP258 N 62 [a0] [(1, 1), (1, m18 (m18 a0 15) 0), (1, 0), (1, m18 a0 15)] m18 o := h
        have h := CR_iadd h rfl
        have h : MR X ρ 1 0 0 qP258 N 63 [a0] [(1, s32 ((m18 (m18 a0 15) 0) + 1)), (1, 0), (1, m18 a0 15)] m18 o := h
        have h := CR_iastore_ h rfl
        have h : MR X ρ 1 0 0 qP258 N 64 [a0] [] (mu m18 (m18 a0 15) 0 (s32 (s32 ((m18 (m18 a0 15) 0) + 1)))) o := h
        have h := CR_iconst h rfl rfl
        have h : MR X ρ 1 0 0 qP258 N 65 [a0] [(1, 1)] (mu m18 (m18 a0 15) 0 (s32 (s32 ((m18 (m18 a0 15) 0) + 1)))) o := h
        exact CR_end h rfl rfl
    ·
      have c10 : v9 = 0 := Decidable.of_not_not (show ¬ ¬ (v9 = 0) from c10)
      refine Or.inl ⟨c10, ?_⟩
      have h : MR X ρ 1 0 0 qP258 N 23 [a0] [] m7 o := h
      have h := CR_iconst h rfl rfl
      have h : MR X ρ 1 0 0 qP258 N 24 [a0] [(1, 0)] m7 o := h
      exact CR_end h rfl rfl
set_option maxRecDepth 16384 in
theorem i257_0 {X : KO} {ρ : Nat → Int32} {m : MM} {N : Nat} {o : Instr × List (Nat × Int) × MM} {a0 : Int} (h : MR X ρ 2 0 0 qP257 N 0 [a0, 0] [] m o) : (∃ m2, Run X ρ 195 [(1, a0)] m [] m2 ∧ (∃ v7 m5, Run X ρ 212 [(1, a0)] m2 [(1, v7)] m5 ∧ (v7 = 0 ∨ v7 = 1) ∧ (((v7 = 0) ∧ (o = (.ireturn, [(1, -1)], m5))) ∨ (¬ (v7 = 0) ∧ (∃ m10, Run X ρ 195 [(1, a0)] m5 [] m10 ∧ (∃ v15 m13, Run X ρ 212 [(1, a0)] m10 [(1, v15)] m13 ∧ (v15 = 0 ∨ v15 = 1) ∧ (((v15 = 0) ∧ (o = (.ireturn, [(1, -1)], m13))) ∨ (¬ (v15 = 0) ∧ ((((m13 a0 13) = (m5 a0 13)) ∧ (o = (.ireturn, [(1, -1)], g168 m13 a0 3))) ∨ (¬ ((m13 a0 13) = (m5 a0 13)) ∧ (o = (.ireturn, [(1, m5 a0 13)], m13)))))))))))) := by
  have h := CR_aload_n h rfl
  have h : MR X ρ 2 0 0 qP257 N 1 [a0, 0] [(1, a0)] m o := h
  obtain ⟨r1, m2, q3, h⟩ := MR_invV h rfl rfl
  have q3 : Run X ρ 195 [(1, a0)] m r1 m2 := q3
  obtain rfl := Run_v q3 rfl
  have h : MR X ρ 2 0 0 qP257 N 4 [a0, 0] [] m2 o := h
  refine ⟨m2, q3, ?_⟩
  have h := CR_aload_n h rfl
  have h : MR X ρ 2 0 0 qP257 N 5 [a0, 0] [(1, a0)] m2 o := h
  obtain ⟨r4, m5, q6, h⟩ := MR_invV h rfl rfl
  have q6 : Run X ρ 212 [(1, a0)] m2 r4 m5 := q6
  obtain ⟨v7, rfl, zv7⟩ := Run_z q6 rfl
  have h : MR X ρ 2 0 0 qP257 N 8 [a0, 0] [(1, v7)] m5 o := h
  refine ⟨v7, m5, q6, zv7, ?_⟩
  rcases MR_if h rfl rfl with ⟨c8, h⟩ | ⟨c8, h⟩
  ·
    have c8 : ¬ (v7 = 0) := c8
    refine Or.inr ⟨c8, ?_⟩
    have h : MR X ρ 2 0 0 qP257 N 13 [a0, 0] [] m5 o := h
    have h := CR_aload_n h rfl
    have h : MR X ρ 2 0 0 qP257 N 14 [a0, 0] [(1, a0)] m5 o := h
    have h := CR_getf h rfl (by decide)
    have h : MR X ρ 2 0 0 qP257 N 17 [a0, 0] [(1, m5 a0 13)] m5 o := h
    have h := CR_istore_n h rfl (Nat.le_of_ble_eq_true rfl)
    have h : MR X ρ 2 0 0 qP257 N 18 [a0, m5 a0 13] [] m5 o := h
    have h := CR_aload_n h rfl
    have h : MR X ρ 2 0 0 qP257 N 19 [a0, m5 a0 13] [(1, a0)] m5 o := h
    obtain ⟨r9, m10, q11, h⟩ := MR_invV h rfl rfl
    have q11 : Run X ρ 195 [(1, a0)] m5 r9 m10 := q11
    obtain rfl := Run_v q11 rfl
    have h : MR X ρ 2 0 0 qP257 N 22 [a0, m5 a0 13] [] m10 o := h
    refine ⟨m10, q11, ?_⟩
    have h := CR_aload_n h rfl
    have h : MR X ρ 2 0 0 qP257 N 23 [a0, m5 a0 13] [(1, a0)] m10 o := h
    obtain ⟨r12, m13, q14, h⟩ := MR_invV h rfl rfl
    have q14 : Run X ρ 212 [(1, a0)] m10 r12 m13 := q14
    obtain ⟨v15, rfl, zv15⟩ := Run_z q14 rfl
    have h : MR X ρ 2 0 0 qP257 N 26 [a0, m5 a0 13] [(1, v15)] m13 o := h
    refine ⟨v15, m13, q14, zv15, ?_⟩
    rcases MR_if h rfl rfl with ⟨c16, h⟩ | ⟨c16, h⟩
    ·
      have c16 : ¬ (v15 = 0) := c16
      refine Or.inr ⟨c16, ?_⟩
      have h : MR X ρ 2 0 0 qP257 N 31 [a0, m5 a0 13] [] m13 o := h
      have h := CR_aload_n h rfl
      have h : MR X ρ 2 0 0 qP257 N 32 [a0, m5 a0 13] [(1, a0)] m13 o := h
      have h := CR_getf h rfl (by decide)
      have h : MR X ρ 2 0 0 qP257 N 35 [a0, m5 a0 13] [(1, m13 a0 13)] m13 o := h
      have h := CR_iload_n h rfl
      have h : MR X ρ 2 0 0 qP257 N 36 [a0, m5 a0 13] [(1, m5 a0 13), (1, m13 a0 13)] m13 o := h
      rcases MR_icmp h rfl rfl with ⟨c17, h⟩ | ⟨c17, h⟩
      ·
        have c17 : (m13 a0 13) = (m5 a0 13) := c17
        refine Or.inl ⟨c17, ?_⟩
        have h : MR X ρ 2 0 0 qP257 N 41 [a0, m5 a0 13] [] m13 o := h
        have h := CR_aload_n h rfl
        have h : MR X ρ 2 0 0 qP257 N 42 [a0, m5 a0 13] [(1, a0)] m13 o := h
        have h := CR_iconst h rfl rfl
        have h : MR X ρ 2 0 0 qP257 N 43 [a0, m5 a0 13] [(1, 3), (1, a0)] m13 o := h
        obtain ⟨r18, m19, q20, h⟩ := MR_invV h rfl rfl
        have q20 : Run X ρ 168 [(1, a0), (1, 3)] m13 r18 m19 := q20
        obtain ⟨e21, e22⟩ := d168 q20
        rw [e21, e22] at h
        have h : MR X ρ 2 0 0 qP257 N 46 [a0, m5 a0 13] [(1, f168 m13 a0 3)] (g168 m13 a0 3) o := h
        have h := CR_pop h rfl
        have h : MR X ρ 2 0 0 qP257 N 47 [a0, m5 a0 13] [] (g168 m13 a0 3) o := h
        have h := CR_iconst h rfl rfl
        have h : MR X ρ 2 0 0 qP257 N 48 [a0, m5 a0 13] [(1, -1)] (g168 m13 a0 3) o := h
        exact CR_end h rfl rfl
      ·
        have c17 : ¬ ((m13 a0 13) = (m5 a0 13)) := c17
        refine Or.inr ⟨c17, ?_⟩
        have h : MR X ρ 2 0 0 qP257 N 39 [a0, m5 a0 13] [] m13 o := h
        have h := CR_iload_n h rfl
        have h : MR X ρ 2 0 0 qP257 N 40 [a0, m5 a0 13] [(1, m5 a0 13)] m13 o := h
        exact CR_end h rfl rfl
    ·
      have c16 : v15 = 0 := Decidable.of_not_not (show ¬ ¬ (v15 = 0) from c16)
      refine Or.inl ⟨c16, ?_⟩
      have h : MR X ρ 2 0 0 qP257 N 29 [a0, m5 a0 13] [] m13 o := h
      have h := CR_iconst h rfl rfl
      have h : MR X ρ 2 0 0 qP257 N 30 [a0, m5 a0 13] [(1, -1)] m13 o := h
      exact CR_end h rfl rfl
  ·
    have c8 : v7 = 0 := Decidable.of_not_not (show ¬ ¬ (v7 = 0) from c8)
    refine Or.inl ⟨c8, ?_⟩
    have h : MR X ρ 2 0 0 qP257 N 11 [a0, 0] [] m5 o := h
    have h := CR_iconst h rfl rfl
    have h : MR X ρ 2 0 0 qP257 N 12 [a0, 0] [(1, -1)] m5 o := h
    exact CR_end h rfl rfl
set_option maxRecDepth 16384 in
theorem i249_0 {X : KO} {ρ : Nat → Int32} {m : MM} {N : Nat} {o : Instr × List (Nat × Int) × MM} {a0 : Int} (h : MR X ρ 3 0 0 qP249 N 0 [a0, 0, 0] [] m o) : (∃ v4 m2, Run X ρ 257 [(1, a0)] m [(1, v4)] m2 ∧ (((v4 = (-1)) ∧ (o = (.ireturn, [(1, 0)], m2))) ∨ (¬ (v4 = (-1)) ∧ ((((m2 (m2 a0 15) (s32 ((s32 (12 + (s32 (8 * v4)))) + (m2 a0 13)))) = 0) ∧ (∃ m8, Run X ρ 195 [(1, a0)] m2 [] m8 ∧ (∃ v13 m11, Run X ρ 254 [(1, a0), (1, 1), (1, 9)] m8 [(1, v13)] m11 ∧ (v13 = 0 ∨ v13 = 1) ∧ (o = (.ireturn, [(1, f239 m11 a0 (s32 ((s32 (12 + (s32 (8 * v4)))) + (m2 a0 13))) v13)], g239 m11 a0 (s32 ((s32 (12 + (s32 (8 * v4)))) + (m2 a0 13))) v13))))) ∨ (¬ ((m2 (m2 a0 15) (s32 ((s32 (12 + (s32 (8 * v4)))) + (m2 a0 13)))) = 0) ∧ (o = (.ireturn, [(1, f168 m2 a0 3)], g168 m2 a0 3))))))) := by
  have h := CR_aload_n h rfl
  have h : MR X ρ 3 0 0 qP249 N 1 [a0, 0, 0] [(1, a0)] m o := h
  obtain ⟨r1, m2, q3, h⟩ := MR_invV h rfl rfl
  have q3 : Run X ρ 257 [(1, a0)] m r1 m2 := q3
  obtain ⟨v4, rfl⟩ := Run_i q3 rfl
  have h : MR X ρ 3 0 0 qP249 N 4 [a0, 0, 0] [(1, v4)] m2 o := h
  refine ⟨v4, m2, q3, ?_⟩
  have h := CR_istore_n h rfl (Nat.le_of_ble_eq_true rfl)
  have h : MR X ρ 3 0 0 qP249 N 5 [a0, v4, 0] [] m2 o := h
  have h := CR_iload_n h rfl
  have h : MR X ρ 3 0 0 qP249 N 6 [a0, v4, 0] [(1, v4)] m2 o := h
  have h := CR_iconst h rfl rfl
  have h : MR X ρ 3 0 0 qP249 N 7 [a0, v4, 0] [(1, -1), (1, v4)] m2 o := h
  rcases MR_icmp h rfl rfl with ⟨c5, h⟩ | ⟨c5, h⟩
  ·
    have c5 : ¬ (v4 = (-1)) := c5
    refine Or.inr ⟨c5, ?_⟩
    have h : MR X ρ 3 0 0 qP249 N 12 [a0, v4, 0] [] m2 o := h
    have h := CR_bipush h rfl rfl
    have h : MR X ρ 3 0 0 qP249 N 14 [a0, v4, 0] [(1, 12)] m2 o := h
    have h := CR_bipush h rfl rfl
    have h : MR X ρ 3 0 0 qP249 N 16 [a0, v4, 0] [(1, 8), (1, 12)] m2 o := h
    have h := CR_iload_n h rfl
    have h : MR X ρ 3 0 0 qP249 N 17 [a0, v4, 0] [(1, v4), (1, 8), (1, 12)] m2 o := h
    have h := CR_imul h rfl
    have h : MR X ρ 3 0 0 qP249 N 18 [a0, v4, 0] [(1, s32 (8 * v4)), (1, 12)] m2 o := h
    have h := CR_iadd h rfl
    have h : MR X ρ 3 0 0 qP249 N 19 [a0, v4, 0] [(1, s32 (12 + (s32 (8 * v4))))] m2 o := h
    have h := CR_aload_n h rfl
    have h : MR X ρ 3 0 0 qP249 N 20 [a0, v4, 0] [(1, a0), (1, s32 (12 + (s32 (8 * v4))))] m2 o := h
    have h := CR_getf h rfl (by decide)
    have h : MR X ρ 3 0 0 qP249 N 23 [a0, v4, 0] [(1, m2 a0 13), (1, s32 (12 + (s32 (8 * v4))))] m2 o := h
    have h := CR_iadd h rfl
    have h : MR X ρ 3 0 0 qP249 N 24 [a0, v4, 0] [(1, s32 ((s32 (12 + (s32 (8 * v4)))) + (m2 a0 13)))] m2 o := h
    have h := CR_istore_n h rfl (Nat.le_of_ble_eq_true rfl)
    have h : MR X ρ 3 0 0 qP249 N 25 [a0, v4, s32 ((s32 (12 + (s32 (8 * v4)))) + (m2 a0 13))] [] m2 o := h
    have h := CR_aload_n h rfl
    have h : MR X ρ 3 0 0 qP249 N 26 [a0, v4, s32 ((s32 (12 + (s32 (8 * v4)))) + (m2 a0 13))] [(1, a0)] m2 o := h
    have h := CR_getf h rfl (by decide)
    have h : MR X ρ 3 0 0 qP249 N 29 [a0, v4, s32 ((s32 (12 + (s32 (8 * v4)))) + (m2 a0 13))] [(1, m2 a0 15)] m2 o := h
    have h := CR_iload_n h rfl
    have h : MR X ρ 3 0 0 qP249 N 30 [a0, v4, s32 ((s32 (12 + (s32 (8 * v4)))) + (m2 a0 13))] [(1, s32 ((s32 (12 + (s32 (8 * v4)))) + (m2 a0 13))), (1, m2 a0 15)] m2 o := h
    have h := CR_iaload h rfl rfl
    have h : MR X ρ 3 0 0 qP249 N 31 [a0, v4, s32 ((s32 (12 + (s32 (8 * v4)))) + (m2 a0 13))] [(1, m2 (m2 a0 15) (s32 ((s32 (12 + (s32 (8 * v4)))) + (m2 a0 13))))] m2 o := h
    rcases MR_if h rfl rfl with ⟨c6, h⟩ | ⟨c6, h⟩
    ·
      have c6 : (m2 (m2 a0 15) (s32 ((s32 (12 + (s32 (8 * v4)))) + (m2 a0 13)))) = 0 := c6
      refine Or.inl ⟨c6, ?_⟩
      have h : MR X ρ 3 0 0 qP249 N 40 [a0, v4, s32 ((s32 (12 + (s32 (8 * v4)))) + (m2 a0 13))] [] m2 o := h
      have h := CR_aload_n h rfl
      have h : MR X ρ 3 0 0 qP249 N 41 [a0, v4, s32 ((s32 (12 + (s32 (8 * v4)))) + (m2 a0 13))] [(1, a0)] m2 o := h
      obtain ⟨r7, m8, q9, h⟩ := MR_invV h rfl rfl
      have q9 : Run X ρ 195 [(1, a0)] m2 r7 m8 := q9
      obtain rfl := Run_v q9 rfl
      have h : MR X ρ 3 0 0 qP249 N 44 [a0, v4, s32 ((s32 (12 + (s32 (8 * v4)))) + (m2 a0 13))] [] m8 o := h
      refine ⟨m8, q9, ?_⟩
      have h := CR_aload_n h rfl
      have h : MR X ρ 3 0 0 qP249 N 45 [a0, v4, s32 ((s32 (12 + (s32 (8 * v4)))) + (m2 a0 13))] [(1, a0)] m8 o := h
      have h := CR_iload_n h rfl
      have h : MR X ρ 3 0 0 qP249 N 46 [a0, v4, s32 ((s32 (12 + (s32 (8 * v4)))) + (m2 a0 13))] [(1, s32 ((s32 (12 + (s32 (8 * v4)))) + (m2 a0 13))), (1, a0)] m8 o := h
      have h := CR_aload_n h rfl
      have h : MR X ρ 3 0 0 qP249 N 47 [a0, v4, s32 ((s32 (12 + (s32 (8 * v4)))) + (m2 a0 13))] [(1, a0), (1, s32 ((s32 (12 + (s32 (8 * v4)))) + (m2 a0 13))), (1, a0)] m8 o := h
      have h := CR_iconst h rfl rfl
      have h : MR X ρ 3 0 0 qP249 N 48 [a0, v4, s32 ((s32 (12 + (s32 (8 * v4)))) + (m2 a0 13))] [(1, 1), (1, a0), (1, s32 ((s32 (12 + (s32 (8 * v4)))) + (m2 a0 13))), (1, a0)] m8 o := h
      have h := CR_bipush h rfl rfl
      have h : MR X ρ 3 0 0 qP249 N 50 [a0, v4, s32 ((s32 (12 + (s32 (8 * v4)))) + (m2 a0 13))] [(1, 9), (1, 1), (1, a0), (1, s32 ((s32 (12 + (s32 (8 * v4)))) + (m2 a0 13))), (1, a0)] m8 o := h
      obtain ⟨r10, m11, q12, h⟩ := MR_invV h rfl rfl
      have q12 : Run X ρ 254 [(1, a0), (1, 1), (1, 9)] m8 r10 m11 := q12
      obtain ⟨v13, rfl, zv13⟩ := Run_z q12 rfl
      have h : MR X ρ 3 0 0 qP249 N 53 [a0, v4, s32 ((s32 (12 + (s32 (8 * v4)))) + (m2 a0 13))] [(1, v13), (1, s32 ((s32 (12 + (s32 (8 * v4)))) + (m2 a0 13))), (1, a0)] m11 o := h
      refine ⟨v13, m11, q12, zv13, ?_⟩
      obtain ⟨r14, m15, q16, h⟩ := MR_invV h rfl rfl
      have q16 : Run X ρ 239 [(1, a0), (1, s32 ((s32 (12 + (s32 (8 * v4)))) + (m2 a0 13))), (1, v13)] m11 r14 m15 := q16
      obtain ⟨e17, e18⟩ := d239 q16
      rw [e17, e18] at h
      have h : MR X ρ 3 0 0 qP249 N 56 [a0, v4, s32 ((s32 (12 + (s32 (8 * v4)))) + (m2 a0 13))] [(1, f239 m11 a0 (s32 ((s32 (12 + (s32 (8 * v4)))) + (m2 a0 13))) v13)] (g239 m11 a0 (s32 ((s32 (12 + (s32 (8 * v4)))) + (m2 a0 13))) v13) o := h
      exact CR_end h rfl rfl
    ·
      have c6 : ¬ ((m2 (m2 a0 15) (s32 ((s32 (12 + (s32 (8 * v4)))) + (m2 a0 13)))) = 0) := c6
      refine Or.inr ⟨c6, ?_⟩
      have h : MR X ρ 3 0 0 qP249 N 34 [a0, v4, s32 ((s32 (12 + (s32 (8 * v4)))) + (m2 a0 13))] [] m2 o := h
      have h := CR_aload_n h rfl
      have h : MR X ρ 3 0 0 qP249 N 35 [a0, v4, s32 ((s32 (12 + (s32 (8 * v4)))) + (m2 a0 13))] [(1, a0)] m2 o := h
      have h := CR_iconst h rfl rfl
      have h : MR X ρ 3 0 0 qP249 N 36 [a0, v4, s32 ((s32 (12 + (s32 (8 * v4)))) + (m2 a0 13))] [(1, 3), (1, a0)] m2 o := h
      obtain ⟨r19, m20, q21, h⟩ := MR_invV h rfl rfl
      have q21 : Run X ρ 168 [(1, a0), (1, 3)] m2 r19 m20 := q21
      obtain ⟨e22, e23⟩ := d168 q21
      rw [e22, e23] at h
      have h : MR X ρ 3 0 0 qP249 N 39 [a0, v4, s32 ((s32 (12 + (s32 (8 * v4)))) + (m2 a0 13))] [(1, f168 m2 a0 3)] (g168 m2 a0 3) o := h
      exact CR_end h rfl rfl
  ·
    have c5 : v4 = (-1) := Decidable.of_not_not (show ¬ ¬ (v4 = (-1)) from c5)
    refine Or.inl ⟨c5, ?_⟩
    have h : MR X ρ 3 0 0 qP249 N 10 [a0, v4, 0] [] m2 o := h
    have h := CR_iconst h rfl rfl
    have h : MR X ρ 3 0 0 qP249 N 11 [a0, v4, 0] [(1, 0)] m2 o := h
    exact CR_end h rfl rfl
set_option maxRecDepth 16384 in
theorem i262_0 {X : KO} {ρ : Nat → Int32} {m : MM} {N : Nat} {o : Instr × List (Nat × Int) × MM} {a0 : Int} (h : MR X ρ 2 0 0 qP262 N 0 [a0, 0] [] m o) : (∃ v4 m2, Run X ρ 257 [(1, a0)] m [(1, v4)] m2 ∧ (((v4 = (-1)) ∧ (o = (.ireturn, [(1, 0)], m2))) ∨ (¬ (v4 = (-1)) ∧ ((((f199 m2 (m2 (m2 a0 15) (s32 (4 + v4))) (m2 a0 13)) = 0) ∧ (∃ m13, Run X ρ 195 [(1, a0)] (mu m2 (m2 a0 15) (s32 (4 + v4)) (s32 (jor (m2 (m2 a0 15) (s32 (4 + v4))) (jshl 1 (m2 a0 13))))) [] m13 ∧ (o = (.ireturn, [(1, 1)], m13)))) ∨ (¬ ((f199 m2 (m2 (m2 a0 15) (s32 (4 + v4))) (m2 a0 13)) = 0) ∧ (o = (.ireturn, [(1, f168 m2 a0 3)], g168 m2 a0 3))))))) := by
  have h := CR_aload_n h rfl
  have h : MR X ρ 2 0 0 qP262 N 1 [a0, 0] [(1, a0)] m o := h
  obtain ⟨r1, m2, q3, h⟩ := MR_invV h rfl rfl
  have q3 : Run X ρ 257 [(1, a0)] m r1 m2 := q3
  obtain ⟨v4, rfl⟩ := Run_i q3 rfl
  have h : MR X ρ 2 0 0 qP262 N 4 [a0, 0] [(1, v4)] m2 o := h
  refine ⟨v4, m2, q3, ?_⟩
  have h := CR_istore_n h rfl (Nat.le_of_ble_eq_true rfl)
  have h : MR X ρ 2 0 0 qP262 N 5 [a0, v4] [] m2 o := h
  have h := CR_iload_n h rfl
  have h : MR X ρ 2 0 0 qP262 N 6 [a0, v4] [(1, v4)] m2 o := h
  have h := CR_iconst h rfl rfl
  have h : MR X ρ 2 0 0 qP262 N 7 [a0, v4] [(1, -1), (1, v4)] m2 o := h
  rcases MR_icmp h rfl rfl with ⟨c5, h⟩ | ⟨c5, h⟩
  ·
    have c5 : ¬ (v4 = (-1)) := c5
    refine Or.inr ⟨c5, ?_⟩
    have h : MR X ρ 2 0 0 qP262 N 12 [a0, v4] [] m2 o := h
    have h := CR_aload_n h rfl
    have h : MR X ρ 2 0 0 qP262 N 13 [a0, v4] [(1, a0)] m2 o := h
    have h := CR_getf h rfl (by decide)
    have h : MR X ρ 2 0 0 qP262 N 16 [a0, v4] [(1, m2 a0 15)] m2 o := h
    have h := CR_iconst h rfl rfl
    have h : MR X ρ 2 0 0 qP262 N 17 [a0, v4] [(1, 4), (1, m2 a0 15)] m2 o := h
    have h := CR_iload_n h rfl
    have h : MR X ρ 2 0 0 qP262 N 18 [a0, v4] [(1, v4), (1, 4), (1, m2 a0 15)] m2 o := h
    have h := CR_iadd h rfl
    have h : MR X ρ 2 0 0 qP262 N 19 [a0, v4] [(1, s32 (4 + v4)), (1, m2 a0 15)] m2 o := h
    have h := CR_iaload h rfl rfl
    have h : MR X ρ 2 0 0 qP262 N 20 [a0, v4] [(1, m2 (m2 a0 15) (s32 (4 + v4)))] m2 o := h
    have h := CR_aload_n h rfl
    have h : MR X ρ 2 0 0 qP262 N 21 [a0, v4] [(1, a0), (1, m2 (m2 a0 15) (s32 (4 + v4)))] m2 o := h
    have h := CR_getf h rfl (by decide)
    have h : MR X ρ 2 0 0 qP262 N 24 [a0, v4] [(1, m2 a0 13), (1, m2 (m2 a0 15) (s32 (4 + v4)))] m2 o := h
    obtain ⟨r6, m7, q8, h⟩ := MR_invS h rfl rfl
    have q8 : Run X ρ 199 [(1, m2 (m2 a0 15) (s32 (4 + v4))), (1, m2 a0 13)] m2 r6 m7 := q8
    obtain ⟨e9, e10⟩ := d199 q8
    rw [e9, e10] at h
    have h : MR X ρ 2 0 0 qP262 N 27 [a0, v4] [(1, f199 m2 (m2 (m2 a0 15) (s32 (4 + v4))) (m2 a0 13))] m2 o := h
    rcases MR_if h rfl rfl with ⟨c11, h⟩ | ⟨c11, h⟩
    ·
      have c11 : (f199 m2 (m2 (m2 a0 15) (s32 (4 + v4))) (m2 a0 13)) = 0 := c11
      refine Or.inl ⟨c11, ?_⟩
      have h : MR X ρ 2 0 0 qP262 N 36 [a0, v4] [] m2 o := h
      have h := CR_aload_n h rfl
      have h : MR X ρ 2 0 0 qP262 N 37 [a0, v4] [(1, a0)] m2 o := h
      have h := CR_getf h rfl (by decide)
      have h : MR X ρ 2 0 0 qP262 N 40 [a0, v4] [(1, m2 a0 15)] m2 o := h
      have h := CR_iconst h rfl rfl
      have h : MR X ρ 2 0 0 qP262 N 41 [a0, v4] [(1, 4), (1, m2 a0 15)] m2 o := h
      have h := CR_iload_n h rfl
      have h : MR X ρ 2 0 0 qP262 N 42 [a0, v4] [(1, v4), (1, 4), (1, m2 a0 15)] m2 o := h
      have h := CR_iadd h rfl
      have h : MR X ρ 2 0 0 qP262 N 43 [a0, v4] [(1, s32 (4 + v4)), (1, m2 a0 15)] m2 o := h
      have h := CR_dup2 h rfl
      have h : MR X ρ 2 0 0 qP262 N 44 [a0, v4] [(1, s32 (4 + v4)), (1, m2 a0 15), (1, s32 (4 + v4)), (1, m2 a0 15)] m2 o := h
      have h := CR_iaload h rfl rfl
      have h : MR X ρ 2 0 0 qP262 N 45 [a0, v4] [(1, m2 (m2 a0 15) (s32 (4 + v4))), (1, s32 (4 + v4)), (1, m2 a0 15)] m2 o := h
      have h := CR_iconst h rfl rfl
      have h : MR X ρ 2 0 0 qP262 N 46 [a0, v4] [(1, 1), (1, m2 (m2 a0 15) (s32 (4 + v4))), (1, s32 (4 + v4)), (1, m2 a0 15)] m2 o := h
      have h := CR_aload_n h rfl
      have h : MR X ρ 2 0 0 qP262 N 47 [a0, v4] [(1, a0), (1, 1), (1, m2 (m2 a0 15) (s32 (4 + v4))), (1, s32 (4 + v4)), (1, m2 a0 15)] m2 o := h
      have h := CR_getf h rfl (by decide)
      have h : MR X ρ 2 0 0 qP262 N 50 [a0, v4] [(1, m2 a0 13), (1, 1), (1, m2 (m2 a0 15) (s32 (4 + v4))), (1, s32 (4 + v4)), (1, m2 a0 15)] m2 o := h
      have h := CR_ishl h rfl
      have h : MR X ρ 2 0 0 qP262 N 51 [a0, v4] [(1, jshl 1 (m2 a0 13)), (1, m2 (m2 a0 15) (s32 (4 + v4))), (1, s32 (4 + v4)), (1, m2 a0 15)] m2 o := h
      have h := CR_ior h rfl
      have h : MR X ρ 2 0 0 qP262 N 52 [a0, v4] [(1, jor (m2 (m2 a0 15) (s32 (4 + v4))) (jshl 1 (m2 a0 13))), (1, s32 (4 + v4)), (1, m2 a0 15)] m2 o := h
      have h := CR_iastore_ h rfl
      have h : MR X ρ 2 0 0 qP262 N 53 [a0, v4] [] (mu m2 (m2 a0 15) (s32 (4 + v4)) (s32 (jor (m2 (m2 a0 15) (s32 (4 + v4))) (jshl 1 (m2 a0 13))))) o := h
      have h := CR_aload_n h rfl
      have h : MR X ρ 2 0 0 qP262 N 54 [a0, v4] [(1, a0)] (mu m2 (m2 a0 15) (s32 (4 + v4)) (s32 (jor (m2 (m2 a0 15) (s32 (4 + v4))) (jshl 1 (m2 a0 13))))) o := h
      obtain ⟨r12, m13, q14, h⟩ := MR_invV h rfl rfl
      have q14 : Run X ρ 195 [(1, a0)] (mu m2 (m2 a0 15) (s32 (4 + v4)) (s32 (jor (m2 (m2 a0 15) (s32 (4 + v4))) (jshl 1 (m2 a0 13))))) r12 m13 := q14
      obtain rfl := Run_v q14 rfl
      have h : MR X ρ 2 0 0 qP262 N 57 [a0, v4] [] m13 o := h
      refine ⟨m13, q14, ?_⟩
      have h := CR_iconst h rfl rfl
      have h : MR X ρ 2 0 0 qP262 N 58 [a0, v4] [(1, 1)] m13 o := h
      exact CR_end h rfl rfl
    ·
      have c11 : ¬ ((f199 m2 (m2 (m2 a0 15) (s32 (4 + v4))) (m2 a0 13)) = 0) := c11
      refine Or.inr ⟨c11, ?_⟩
      have h : MR X ρ 2 0 0 qP262 N 30 [a0, v4] [] m2 o := h
      have h := CR_aload_n h rfl
      have h : MR X ρ 2 0 0 qP262 N 31 [a0, v4] [(1, a0)] m2 o := h
      have h := CR_iconst h rfl rfl
      have h : MR X ρ 2 0 0 qP262 N 32 [a0, v4] [(1, 3), (1, a0)] m2 o := h
      obtain ⟨r15, m16, q17, h⟩ := MR_invV h rfl rfl
      have q17 : Run X ρ 168 [(1, a0), (1, 3)] m2 r15 m16 := q17
      obtain ⟨e18, e19⟩ := d168 q17
      rw [e18, e19] at h
      have h : MR X ρ 2 0 0 qP262 N 35 [a0, v4] [(1, f168 m2 a0 3)] (g168 m2 a0 3) o := h
      exact CR_end h rfl rfl
  ·
    have c5 : v4 = (-1) := Decidable.of_not_not (show ¬ ¬ (v4 = (-1)) from c5)
    refine Or.inl ⟨c5, ?_⟩
    have h : MR X ρ 2 0 0 qP262 N 10 [a0, v4] [] m2 o := h
    have h := CR_iconst h rfl rfl
    have h : MR X ρ 2 0 0 qP262 N 11 [a0, v4] [(1, 0)] m2 o := h
    exact CR_end h rfl rfl
set_option maxRecDepth 16384 in
theorem i247_0 {X : KO} {ρ : Nat → Int32} {m : MM} {N : Nat} {o : Instr × List (Nat × Int) × MM} {a0 : Int} (h : MR X ρ 2 0 0 qP247 N 0 [a0, 0] [] m o) : (∃ v4 m2, Run X ρ 246 [(1, a0), (1, 1), (1, 8)] m [(1, v4)] m2 ∧ (v4 = 0 ∨ v4 = 1) ∧ (((v4 = 0) ∧ (o = (.ireturn, [(1, 0)], m2))) ∨ (¬ (v4 = 0) ∧ (∃ v9 m7, Run X ρ 252 [(1, a0), (1, s32 (8 + (m2 (m2 a0 15) 1)))] m2 [(1, v9)] m7 ∧ (v9 = 0 ∨ v9 = 1) ∧ (((v9 = 0) ∧ (o = (.ireturn, [(1, 0)], m7))) ∨ (¬ (v9 = 0) ∧ (∃ v14 m12, Run X ρ 212 [(1, a0)] m7 [(1, v14)] m12 ∧ (v14 = 0 ∨ v14 = 1) ∧ ((((f239 m12 a0 (s32 (76 + (m2 (m2 a0 15) 1))) v14) = 0) ∧ (o = (.ireturn, [(1, 0)], g239 m12 a0 (s32 (76 + (m2 (m2 a0 15) 1))) v14))) ∨ (¬ ((f239 m12 a0 (s32 (76 + (m2 (m2 a0 15) 1))) v14) = 0) ∧ (∃ m22, Run X ρ 195 [(1, a0)] (g239 m12 a0 (s32 (76 + (m2 (m2 a0 15) 1))) v14) [] m22 ∧ (∃ v27 m25, Run X ρ 254 [(1, a0), (1, 1), (1, 9)] m22 [(1, v27)] m25 ∧ (v27 = 0 ∨ v27 = 1) ∧ ((((f239 m25 a0 (s32 (84 + (m2 (m2 a0 15) 1))) v27) = 0) ∧ (o = (.ireturn, [(1, 0)], g239 m25 a0 (s32 (84 + (m2 (m2 a0 15) 1))) v27))) ∨ (¬ ((f239 m25 a0 (s32 (84 + (m2 (m2 a0 15) 1))) v27) = 0) ∧ (o = (.ireturn, [(1, 1)], mu (g239 m25 a0 (s32 (84 + (m2 (m2 a0 15) 1))) v27) ((g239 m25 a0 (s32 (84 + (m2 (m2 a0 15) 1))) v27) a0 15) 1 (s32 (s32 (((g239 m25 a0 (s32 (84 + (m2 (m2 a0 15) 1))) v27) ((g239 m25 a0 (s32 (84 + (m2 (m2 a0 15) 1))) v27) a0 15) 1) + 1)))))))))))))))))) := by
  have h := CR_aload_n h rfl
  have h : MR X ρ 2 0 0 qP247 N 1 [a0, 0] [(1, a0)] m o := h
  have h := CR_iconst h rfl rfl
  have h : MR X ρ 2 0 0 qP247 N 2 [a0, 0] [(1, 1), (1, a0)] m o := h
  have h := CR_bipush h rfl rfl
  have h : MR X ρ 2 0 0 qP247 N 4 [a0, 0] [(1, 8), (1, 1), (1, a0)] m o := h
  obtain ⟨r1, m2, q3, h⟩ := MR_invV h rfl rfl
  have q3 : Run X ρ 246 [(1, a0), (1, 1), (1, 8)] m r1 m2 := q3
  obtain ⟨v4, rfl, zv4⟩ := Run_z q3 rfl
  have h : MR X ρ 2 0 0 qP247 N 7 [a0, 0] [(1, v4)] m2 o := h
  refine ⟨v4, m2, q3, zv4, ?_⟩
  rcases MR_if h rfl rfl with ⟨c5, h⟩ | ⟨c5, h⟩
  ·
    have c5 : ¬ (v4 = 0) := c5
    refine Or.inr ⟨c5, ?_⟩
    have h : MR X ρ 2 0 0 qP247 N 12 [a0, 0] [] m2 o := h
    have h := CR_aload_n h rfl
    have h : MR X ρ 2 0 0 qP247 N 13 [a0, 0] [(1, a0)] m2 o := h
    have h := CR_getf h rfl (by decide)
    have h : MR X ρ 2 0 0 qP247 N 16 [a0, 0] [(1, m2 a0 15)] m2 o := h
    have h := CR_iconst h rfl rfl
    have h : MR X ρ 2 0 0 qP247 N 17 [a0, 0] [(1, 1), (1, m2 a0 15)] m2 o := h
    have h := CR_iaload h rfl rfl
    have h : MR X ρ 2 0 0 qP247 N 18 [a0, 0] [(1, m2 (m2 a0 15) 1)] m2 o := h
    have h := CR_istore_n h rfl (Nat.le_of_ble_eq_true rfl)
    have h : MR X ρ 2 0 0 qP247 N 19 [a0, m2 (m2 a0 15) 1] [] m2 o := h
    have h := CR_aload_n h rfl
    have h : MR X ρ 2 0 0 qP247 N 20 [a0, m2 (m2 a0 15) 1] [(1, a0)] m2 o := h
    have h := CR_bipush h rfl rfl
    have h : MR X ρ 2 0 0 qP247 N 22 [a0, m2 (m2 a0 15) 1] [(1, 8), (1, a0)] m2 o := h
    have h := CR_iload_n h rfl
    have h : MR X ρ 2 0 0 qP247 N 23 [a0, m2 (m2 a0 15) 1] [(1, m2 (m2 a0 15) 1), (1, 8), (1, a0)] m2 o := h
    have h := CR_iadd h rfl
    have h : MR X ρ 2 0 0 qP247 N 24 [a0, m2 (m2 a0 15) 1] [(1, s32 (8 + (m2 (m2 a0 15) 1))), (1, a0)] m2 o := h
    obtain ⟨r6, m7, q8, h⟩ := MR_invV h rfl rfl
    have q8 : Run X ρ 252 [(1, a0), (1, s32 (8 + (m2 (m2 a0 15) 1)))] m2 r6 m7 := q8
    obtain ⟨v9, rfl, zv9⟩ := Run_z q8 rfl
    have h : MR X ρ 2 0 0 qP247 N 27 [a0, m2 (m2 a0 15) 1] [(1, v9)] m7 o := h
    refine ⟨v9, m7, q8, zv9, ?_⟩
    rcases MR_if h rfl rfl with ⟨c10, h⟩ | ⟨c10, h⟩
    ·
      have c10 : v9 = 0 := c10
      refine Or.inl ⟨c10, ?_⟩
      have h : MR X ρ 2 0 0 qP247 N 45 [a0, m2 (m2 a0 15) 1] [] m7 o := h
      have h := CR_iconst h rfl rfl
      have h : MR X ρ 2 0 0 qP247 N 46 [a0, m2 (m2 a0 15) 1] [(1, 0)] m7 o := h
      exact CR_end h rfl rfl
    ·
      have c10 : ¬ (v9 = 0) := c10
      refine Or.inr ⟨c10, ?_⟩
      have h : MR X ρ 2 0 0 qP247 N 30 [a0, m2 (m2 a0 15) 1] [] m7 o := h
      have h := CR_aload_n h rfl
      have h : MR X ρ 2 0 0 qP247 N 31 [a0, m2 (m2 a0 15) 1] [(1, a0)] m7 o := h
      have h := CR_bipush h rfl rfl
      have h : MR X ρ 2 0 0 qP247 N 33 [a0, m2 (m2 a0 15) 1] [(1, 76), (1, a0)] m7 o := h
      have h := CR_iload_n h rfl
      have h : MR X ρ 2 0 0 qP247 N 34 [a0, m2 (m2 a0 15) 1] [(1, m2 (m2 a0 15) 1), (1, 76), (1, a0)] m7 o := h
      have h := CR_iadd h rfl
      have h : MR X ρ 2 0 0 qP247 N 35 [a0, m2 (m2 a0 15) 1] [(1, s32 (76 + (m2 (m2 a0 15) 1))), (1, a0)] m7 o := h
      have h := CR_aload_n h rfl
      have h : MR X ρ 2 0 0 qP247 N 36 [a0, m2 (m2 a0 15) 1] [(1, a0), (1, s32 (76 + (m2 (m2 a0 15) 1))), (1, a0)] m7 o := h
      obtain ⟨r11, m12, q13, h⟩ := MR_invV h rfl rfl
      have q13 : Run X ρ 212 [(1, a0)] m7 r11 m12 := q13
      obtain ⟨v14, rfl, zv14⟩ := Run_z q13 rfl
      have h : MR X ρ 2 0 0 qP247 N 39 [a0, m2 (m2 a0 15) 1] [(1, v14), (1, s32 (76 + (m2 (m2 a0 15) 1))), (1, a0)] m12 o := h
      refine ⟨v14, m12, q13, zv14, ?_⟩
      obtain ⟨r15, m16, q17, h⟩ := MR_invV h rfl rfl
      have q17 : Run X ρ 239 [(1, a0), (1, s32 (76 + (m2 (m2 a0 15) 1))), (1, v14)] m12 r15 m16 := q17
      obtain ⟨e18, e19⟩ := d239 q17
      rw [e18, e19] at h
      have h : MR X ρ 2 0 0 qP247 N 42 [a0, m2 (m2 a0 15) 1] [(1, f239 m12 a0 (s32 (76 + (m2 (m2 a0 15) 1))) v14)] (g239 m12 a0 (s32 (76 + (m2 (m2 a0 15) 1))) v14) o := h
      rcases MR_if h rfl rfl with ⟨c20, h⟩ | ⟨c20, h⟩
      ·
        have c20 : ¬ ((f239 m12 a0 (s32 (76 + (m2 (m2 a0 15) 1))) v14) = 0) := c20
        refine Or.inr ⟨c20, ?_⟩
        have h : MR X ρ 2 0 0 qP247 N 47 [a0, m2 (m2 a0 15) 1] [] (g239 m12 a0 (s32 (76 + (m2 (m2 a0 15) 1))) v14) o := h
        have h := CR_aload_n h rfl
        have h : MR X ρ 2 0 0 qP247 N 48 [a0, m2 (m2 a0 15) 1] [(1, a0)] (g239 m12 a0 (s32 (76 + (m2 (m2 a0 15) 1))) v14) o := h
        obtain ⟨r21, m22, q23, h⟩ := MR_invV h rfl rfl
        have q23 : Run X ρ 195 [(1, a0)] (g239 m12 a0 (s32 (76 + (m2 (m2 a0 15) 1))) v14) r21 m22 := q23
        obtain rfl := Run_v q23 rfl
        have h : MR X ρ 2 0 0 qP247 N 51 [a0, m2 (m2 a0 15) 1] [] m22 o := h
        refine ⟨m22, q23, ?_⟩
        have h := CR_aload_n h rfl
        have h : MR X ρ 2 0 0 qP247 N 52 [a0, m2 (m2 a0 15) 1] [(1, a0)] m22 o := h
        have h := CR_bipush h rfl rfl
        have h : MR X ρ 2 0 0 qP247 N 54 [a0, m2 (m2 a0 15) 1] [(1, 84), (1, a0)] m22 o := h
        have h := CR_iload_n h rfl
        have h : MR X ρ 2 0 0 qP247 N 55 [a0, m2 (m2 a0 15) 1] [(1, m2 (m2 a0 15) 1), (1, 84), (1, a0)] m22 o := h
        have h := CR_iadd h rfl
        have h : MR X ρ 2 0 0 qP247 N 56 [a0, m2 (m2 a0 15) 1] [(1, s32 (84 + (m2 (m2 a0 15) 1))), (1, a0)] m22 o := h
        have h := CR_aload_n h rfl
        have h : MR X ρ 2 0 0 qP247 N 57 [a0, m2 (m2 a0 15) 1] [(1, a0), (1, s32 (84 + (m2 (m2 a0 15) 1))), (1, a0)] m22 o := h
        have h := CR_iconst h rfl rfl
        have h : MR X ρ 2 0 0 qP247 N 58 [a0, m2 (m2 a0 15) 1] [(1, 1), (1, a0), (1, s32 (84 + (m2 (m2 a0 15) 1))), (1, a0)] m22 o := h
        have h := CR_bipush h rfl rfl
        have h : MR X ρ 2 0 0 qP247 N 60 [a0, m2 (m2 a0 15) 1] [(1, 9), (1, 1), (1, a0), (1, s32 (84 + (m2 (m2 a0 15) 1))), (1, a0)] m22 o := h
        obtain ⟨r24, m25, q26, h⟩ := MR_invV h rfl rfl
        have q26 : Run X ρ 254 [(1, a0), (1, 1), (1, 9)] m22 r24 m25 := q26
        obtain ⟨v27, rfl, zv27⟩ := Run_z q26 rfl
        have h : MR X ρ 2 0 0 qP247 N 63 [a0, m2 (m2 a0 15) 1] [(1, v27), (1, s32 (84 + (m2 (m2 a0 15) 1))), (1, a0)] m25 o := h
        refine ⟨v27, m25, q26, zv27, ?_⟩
        obtain ⟨r28, m29, q30, h⟩ := MR_invV h rfl rfl
        have q30 : Run X ρ 239 [(1, a0), (1, s32 (84 + (m2 (m2 a0 15) 1))), (1, v27)] m25 r28 m29 := q30
        obtain ⟨e31, e32⟩ := d239 q30
        rw [e31, e32] at h
        have h : MR X ρ 2 0 0 qP247 N 66 [a0, m2 (m2 a0 15) 1] [(1, f239 m25 a0 (s32 (84 + (m2 (m2 a0 15) 1))) v27)] (g239 m25 a0 (s32 (84 + (m2 (m2 a0 15) 1))) v27) o := h
        rcases MR_if h rfl rfl with ⟨c33, h⟩ | ⟨c33, h⟩
        ·
          have c33 : ¬ ((f239 m25 a0 (s32 (84 + (m2 (m2 a0 15) 1))) v27) = 0) := c33
          refine Or.inr ⟨c33, ?_⟩
          have h : MR X ρ 2 0 0 qP247 N 71 [a0, m2 (m2 a0 15) 1] [] (g239 m25 a0 (s32 (84 + (m2 (m2 a0 15) 1))) v27) o := h
          have h := CR_aload_n h rfl
          have h : MR X ρ 2 0 0 qP247 N 72 [a0, m2 (m2 a0 15) 1] [(1, a0)] (g239 m25 a0 (s32 (84 + (m2 (m2 a0 15) 1))) v27) o := h
          have h := CR_getf h rfl (by decide)
          have h : MR X ρ 2 0 0 qP247 N 75 [a0, m2 (m2 a0 15) 1] [(1, (g239 m25 a0 (s32 (84 + (m2 (m2 a0 15) 1))) v27) a0 15)] (g239 m25 a0 (s32 (84 + (m2 (m2 a0 15) 1))) v27) o := h
          have h := CR_iconst h rfl rfl
          have h : MR X ρ 2 0 0 qP247 N 76 [a0, m2 (m2 a0 15) 1] [(1, 1), (1, (g239 m25 a0 (s32 (84 + (m2 (m2 a0 15) 1))) v27) a0 15)] (g239 m25 a0 (s32 (84 + (m2 (m2 a0 15) 1))) v27) o := h
          have h := CR_dup2 h rfl
          have h : MR X ρ 2 0 0 qP247 N 77 [a0, m2 (m2 a0 15) 1] [(1, 1), (1, (g239 m25 a0 (s32 (84 + (m2 (m2 a0 15) 1))) v27) a0 15), (1, 1), (1, (g239 m25 a0 (s32 (84 + (m2 (m2 a0 15) 1))) v27) a0 15)] (g239 m25 a0 (s32 (84 + (m2 (m2 a0 15) 1))) v27) o := h
          have h := CR_iaload h rfl rfl
          have h : MR X ρ 2 0 0 qP247 N 78 [a0, m2 (m2 a0 15) 1] [(1, (g239 m25 a0 (s32 (84 + (m2 (m2 a0 15) 1))) v27) ((g239 m25 a0 (s32 (84 + (m2 (m2 a0 15) 1))) v27) a0 15) 1), (1, 1), (1, (g239 m25 a0 (s32 (84 + (m2 (m2 a0 15) 1))) v27) a0 15)] (g239 m25 a0 (s32 (84 + (m2 (m2 a0 15) 1))) v27) o := h
          have h := CR_iconst h rfl rfl
          have h : MR X ρ 2 0 0 qP247 N 79 [a0, m2 (m2 a0 15) 1] [(1, 1), (1, (g239 m25 a0 (s32 (84 + (m2 (m2 a0 15) 1))) v27) ((g239 m25 a0 (s32 (84 + (m2 (m2 a0 15) 1))) v27) a0 15) 1), (1, 1), (1, (g239 m25 a0 (s32 (84 + (m2 (m2 a0 15) 1))) v27) a0 15)] (g239 m25 a0 (s32 (84 + (m2 (m2 a0 15) 1))) v27) o := h
          have h := CR_iadd h rfl
          have h : MR X ρ 2 0 0 qP247 N 80 [a0, m2 (m2 a0 15) 1] [(1, s32 (((g239 m25 a0 (s32 (84 + (m2 (m2 a0 15) 1))) v27) ((g239 m25 a0 (s32 (84 + (m2 (m2 a0 15) 1))) v27) a0 15) 1) + 1)), (1, 1), (1, (g239 m25 a0 (s32 (84 + (m2 (m2 a0 15) 1))) v27) a0 15)] (g239 m25 a0 (s32 (84 + (m2 (m2 a0 15) 1))) v27) o := h
          have h := CR_iastore_ h rfl
          have h : MR X ρ 2 0 0 qP247 N 81 [a0, m2 (m2 a0 15) 1] [] (mu (g239 m25 a0 (s32 (84 + (m2 (m2 a0 15) 1))) v27) ((g239 m25 a0 (s32 (84 + (m2 (m2 a0 15) 1))) v27) a0 15) 1 (s32 (s32 (((g239 m25 a0 (s32 (84 + (m2 (m2 a0 15) 1))) v27) ((g239 m25 a0 (s32 (84 + (m2 (m2 a0 15) 1))) v27) a0 15) 1) + 1)))) o := h
          have h := CR_iconst h rfl rfl
          have h : MR X ρ 2 0 0 qP247 N 82 [a0, m2 (m2 a0 15) 1] [(1, 1)] (mu (g239 m25 a0 (s32 (84 + (m2 (m2 a0 15) 1))) v27) ((g239 m25 a0 (s32 (84 + (m2 (m2 a0 15) 1))) v27) a0 15) 1 (s32 (s32 (((g239 m25 a0 (s32 (84 + (m2 (m2 a0 15) 1))) v27) ((g239 m25 a0 (s32 (84 + (m2 (m2 a0 15) 1))) v27) a0 15) 1) + 1)))) o := h
          exact CR_end h rfl rfl
        ·
          have c33 : (f239 m25 a0 (s32 (84 + (m2 (m2 a0 15) 1))) v27) = 0 := Decidable.of_not_not (show ¬ ¬ ((f239 m25 a0 (s32 (84 + (m2 (m2 a0 15) 1))) v27) = 0) from c33)
          refine Or.inl ⟨c33, ?_⟩
          have h : MR X ρ 2 0 0 qP247 N 69 [a0, m2 (m2 a0 15) 1] [] (g239 m25 a0 (s32 (84 + (m2 (m2 a0 15) 1))) v27) o := h
          have h := CR_iconst h rfl rfl
          have h : MR X ρ 2 0 0 qP247 N 70 [a0, m2 (m2 a0 15) 1] [(1, 0)] (g239 m25 a0 (s32 (84 + (m2 (m2 a0 15) 1))) v27) o := h
          exact CR_end h rfl rfl
      ·
        have c20 : (f239 m12 a0 (s32 (76 + (m2 (m2 a0 15) 1))) v14) = 0 := Decidable.of_not_not (show ¬ ¬ ((f239 m12 a0 (s32 (76 + (m2 (m2 a0 15) 1))) v14) = 0) from c20)
        refine Or.inl ⟨c20, ?_⟩
        have h : MR X ρ 2 0 0 qP247 N 45 [a0, m2 (m2 a0 15) 1] [] (g239 m12 a0 (s32 (76 + (m2 (m2 a0 15) 1))) v14) o := h
        have h := CR_iconst h rfl rfl
        have h : MR X ρ 2 0 0 qP247 N 46 [a0, m2 (m2 a0 15) 1] [(1, 0)] (g239 m12 a0 (s32 (76 + (m2 (m2 a0 15) 1))) v14) o := h
        exact CR_end h rfl rfl
  ·
    have c5 : v4 = 0 := Decidable.of_not_not (show ¬ ¬ (v4 = 0) from c5)
    refine Or.inl ⟨c5, ?_⟩
    have h : MR X ρ 2 0 0 qP247 N 10 [a0, 0] [] m2 o := h
    have h := CR_iconst h rfl rfl
    have h : MR X ρ 2 0 0 qP247 N 11 [a0, 0] [(1, 0)] m2 o := h
    exact CR_end h rfl rfl
set_option maxRecDepth 16384 in
theorem i260_0 {X : KO} {ρ : Nat → Int32} {m : MM} {N : Nat} {o : Instr × List (Nat × Int) × MM} {a0 : Int} (h : MR X ρ 1 0 0 qP260 N 0 [a0] [] m o) : ((((m a0 24) = 0) ∧ (∃ m3, Run X ρ 195 [(1, a0)] (mu m a0 24 1) [] m3 ∧ ((((f217 m3 a0 6) = 0) ∧ ((((f217 m3 a0 7) = 0) ∧ (o = (.ireturn, [(1, f168 m3 a0 1)], g168 m3 a0 1))) ∨ (¬ ((f217 m3 a0 7) = 0) ∧ (∃ m36, Run X ρ 195 [(1, a0)] (mu m3 (m3 a0 15) 2 (s32 1)) [] m36 ∧ (o = (.ireturn, [(1, 1)], m36)))))) ∨ (¬ ((f217 m3 a0 6) = 0) ∧ ((((f217 m3 a0 7) = 0) ∧ (∃ m18, Run X ρ 195 [(1, a0)] (mu m3 (m3 a0 15) 2 (s32 0)) [] m18 ∧ (o = (.ireturn, [(1, 1)], m18)))) ∨ (¬ ((f217 m3 a0 7) = 0) ∧ (∃ m21, Run X ρ 195 [(1, a0)] (mu m3 (m3 a0 15) 2 (s32 1)) [] m21 ∧ (o = (.ireturn, [(1, 1)], m21))))))))) ∨ (¬ ((m a0 24) = 0) ∧ (o = (.ireturn, [(1, f168 m a0 3)], g168 m a0 3)))) := by
  have h := CR_aload_n h rfl
  have h : MR X ρ 1 0 0 qP260 N 1 [a0] [(1, a0)] m o := h
  have h := CR_getf h rfl (by decide)
  have h : MR X ρ 1 0 0 qP260 N 4 [a0] [(1, m a0 24)] m o := h
  rcases MR_if h rfl rfl with ⟨c1, h⟩ | ⟨c1, h⟩
  ·
    have c1 : (m a0 24) = 0 := c1
    refine Or.inl ⟨c1, ?_⟩
    have h : MR X ρ 1 0 0 qP260 N 13 [a0] [] m o := h
    have h := CR_aload_n h rfl
    have h : MR X ρ 1 0 0 qP260 N 14 [a0] [(1, a0)] m o := h
    have h := CR_iconst h rfl rfl
    have h : MR X ρ 1 0 0 qP260 N 15 [a0] [(1, 1), (1, a0)] m o := h
    have h := CR_putf h rfl
    have h : MR X ρ 1 0 0 qP260 N 18 [a0] [] (mu m a0 24 1) o := h
    have h := CR_aload_n h rfl
    have h : MR X ρ 1 0 0 qP260 N 19 [a0] [(1, a0)] (mu m a0 24 1) o := h
    obtain ⟨r2, m3, q4, h⟩ := MR_invV h rfl rfl
    have q4 : Run X ρ 195 [(1, a0)] (mu m a0 24 1) r2 m3 := q4
    obtain rfl := Run_v q4 rfl
    have h : MR X ρ 1 0 0 qP260 N 22 [a0] [] m3 o := h
    refine ⟨m3, q4, ?_⟩
    have h := CR_aload_n h rfl
    have h : MR X ρ 1 0 0 qP260 N 23 [a0] [(1, a0)] m3 o := h
    have h := CR_bipush h rfl rfl
    have h : MR X ρ 1 0 0 qP260 N 25 [a0] [(1, 6), (1, a0)] m3 o := h
    obtain ⟨r5, m6, q7, h⟩ := MR_invV h rfl rfl
    have q7 : Run X ρ 217 [(1, a0), (1, 6)] m3 r5 m6 := q7
    obtain ⟨e8, e9⟩ := d217 q7
    rw [e8, e9] at h
    have h : MR X ρ 1 0 0 qP260 N 28 [a0] [(1, f217 m3 a0 6)] m3 o := h
    rcases MR_if h rfl rfl with ⟨c10, h⟩ | ⟨c10, h⟩
    ·
      have c10 : ¬ ((f217 m3 a0 6) = 0) := c10
      refine Or.inr ⟨c10, ?_⟩
      have h : MR X ρ 1 0 0 qP260 N 46 [a0] [] m3 o := h
      have h := CR_aload_n h rfl
      have h : MR X ρ 1 0 0 qP260 N 47 [a0] [(1, a0)] m3 o := h
      have h := CR_getf h rfl (by decide)
      have h : MR X ρ 1 0 0 qP260 N 50 [a0] [(1, m3 a0 15)] m3 o := h
      have h := CR_iconst h rfl rfl
      have h : MR X ρ 1 0 0 qP260 N 51 [a0] [(1, 2), (1, m3 a0 15)] m3 o := h
      have h := CR_aload_n h rfl
      have h : MR X ρ 1 0 0 qP260 N 52 [a0] [(1, a0), (1, 2), (1, m3 a0 15)] m3 o := h
      have h := CR_bipush h rfl rfl
      have h : MR X ρ 1 0 0 qP260 N 54 [a0] [(1, 7), (1, a0), (1, 2), (1, m3 a0 15)] m3 o := h
      obtain ⟨r11, m12, q13, h⟩ := MR_invV h rfl rfl
      have q13 : Run X ρ 217 [(1, a0), (1, 7)] m3 r11 m12 := q13
      obtain ⟨e14, e15⟩ := d217 q13
      rw [e14, e15] at h
      have h : MR X ρ 1 0 0 qP260 N 57 [a0] [(1, f217 m3 a0 7), (1, 2), (1, m3 a0 15)] m3 o := h
      rcases MR_if h rfl rfl with ⟨c16, h⟩ | ⟨c16, h⟩
      ·
        have c16 : (f217 m3 a0 7) = 0 := c16
        refine Or.inl ⟨c16, ?_⟩
        have h : MR X ρ 1 0 0 qP260 N 64 [a0] [(1, 2), (1, m3 a0 15)] m3 o := h
        have h := CR_iconst h rfl rfl
        have h : MR X ρ 1 0 0 qP260 N 65 [a0] [(1, 0), (1, 2), (1, m3 a0 15)] m3 o := h
        have h := CR_iastore_ h rfl
        have h : MR X ρ 1 0 0 qP260 N 66 [a0] [] (mu m3 (m3 a0 15) 2 (s32 0)) o := h
        have h := CR_aload_n h rfl
        have h : MR X ρ 1 0 0 qP260 N 67 [a0] [(1, a0)] (mu m3 (m3 a0 15) 2 (s32 0)) o := h
        obtain ⟨r17, m18, q19, h⟩ := MR_invV h rfl rfl
        have q19 : Run X ρ 195 [(1, a0)] (mu m3 (m3 a0 15) 2 (s32 0)) r17 m18 := q19
        obtain rfl := Run_v q19 rfl
        have h : MR X ρ 1 0 0 qP260 N 70 [a0] [] m18 o := h
        refine ⟨m18, q19, ?_⟩
        have h := CR_iconst h rfl rfl
        have h : MR X ρ 1 0 0 qP260 N 71 [a0] [(1, 1)] m18 o := h
        exact CR_end h rfl rfl
      ·
        have c16 : ¬ ((f217 m3 a0 7) = 0) := c16
        refine Or.inr ⟨c16, ?_⟩
        have h : MR X ρ 1 0 0 qP260 N 60 [a0] [(1, 2), (1, m3 a0 15)] m3 o := h
        have h := CR_iconst h rfl rfl
        have h : MR X ρ 1 0 0 qP260 N 61 [a0] [(1, 1), (1, 2), (1, m3 a0 15)] m3 o := h
        have h := CR_go h rfl rfl
        have h : MR X ρ 1 0 0 qP260 N 65 [a0] [(1, 1), (1, 2), (1, m3 a0 15)] m3 o := h
        have h := CR_iastore_ h rfl
        have h : MR X ρ 1 0 0 qP260 N 66 [a0] [] (mu m3 (m3 a0 15) 2 (s32 1)) o := h
        have h := CR_aload_n h rfl
        have h : MR X ρ 1 0 0 qP260 N 67 [a0] [(1, a0)] (mu m3 (m3 a0 15) 2 (s32 1)) o := h
        obtain ⟨r20, m21, q22, h⟩ := MR_invV h rfl rfl
        have q22 : Run X ρ 195 [(1, a0)] (mu m3 (m3 a0 15) 2 (s32 1)) r20 m21 := q22
        obtain rfl := Run_v q22 rfl
        have h : MR X ρ 1 0 0 qP260 N 70 [a0] [] m21 o := h
        refine ⟨m21, q22, ?_⟩
        have h := CR_iconst h rfl rfl
        have h : MR X ρ 1 0 0 qP260 N 71 [a0] [(1, 1)] m21 o := h
        exact CR_end h rfl rfl
    ·
      have c10 : (f217 m3 a0 6) = 0 := Decidable.of_not_not (show ¬ ¬ ((f217 m3 a0 6) = 0) from c10)
      refine Or.inl ⟨c10, ?_⟩
      have h : MR X ρ 1 0 0 qP260 N 31 [a0] [] m3 o := h
      have h := CR_aload_n h rfl
      have h : MR X ρ 1 0 0 qP260 N 32 [a0] [(1, a0)] m3 o := h
      have h := CR_bipush h rfl rfl
      have h : MR X ρ 1 0 0 qP260 N 34 [a0] [(1, 7), (1, a0)] m3 o := h
      obtain ⟨r23, m24, q25, h⟩ := MR_invV h rfl rfl
      have q25 : Run X ρ 217 [(1, a0), (1, 7)] m3 r23 m24 := q25
      obtain ⟨e26, e27⟩ := d217 q25
      rw [e26, e27] at h
      have h : MR X ρ 1 0 0 qP260 N 37 [a0] [(1, f217 m3 a0 7)] m3 o := h
      rcases MR_if h rfl rfl with ⟨c28, h⟩ | ⟨c28, h⟩
      ·
        have c28 : ¬ ((f217 m3 a0 7) = 0) := c28
        refine Or.inr ⟨c28, ?_⟩
        have h : MR X ρ 1 0 0 qP260 N 46 [a0] [] m3 o := h
        have h := CR_aload_n h rfl
        have h : MR X ρ 1 0 0 qP260 N 47 [a0] [(1, a0)] m3 o := h
        have h := CR_getf h rfl (by decide)
        have h : MR X ρ 1 0 0 qP260 N 50 [a0] [(1, m3 a0 15)] m3 o := h
        have h := CR_iconst h rfl rfl
        have h : MR X ρ 1 0 0 qP260 N 51 [a0] [(1, 2), (1, m3 a0 15)] m3 o := h
        have h := CR_aload_n h rfl
        have h : MR X ρ 1 0 0 qP260 N 52 [a0] [(1, a0), (1, 2), (1, m3 a0 15)] m3 o := h
        have h := CR_bipush h rfl rfl
        have h : MR X ρ 1 0 0 qP260 N 54 [a0] [(1, 7), (1, a0), (1, 2), (1, m3 a0 15)] m3 o := h
        obtain ⟨r29, m30, q31, h⟩ := MR_invV h rfl rfl
        have q31 : Run X ρ 217 [(1, a0), (1, 7)] m3 r29 m30 := q31
        obtain ⟨e32, e33⟩ := d217 q31
        rw [e32, e33] at h
        have h : MR X ρ 1 0 0 qP260 N 57 [a0] [(1, f217 m3 a0 7), (1, 2), (1, m3 a0 15)] m3 o := h
        rcases MR_if h rfl rfl with ⟨c34, h⟩ | ⟨c34, h⟩
        · exact absurd (show (f217 m3 a0 7) = 0 from c34) c28
        ·
          have h : MR X ρ 1 0 0 qP260 N 60 [a0] [(1, 2), (1, m3 a0 15)] m3 o := h
          have h := CR_iconst h rfl rfl
          have h : MR X ρ 1 0 0 qP260 N 61 [a0] [(1, 1), (1, 2), (1, m3 a0 15)] m3 o := h
          have h := CR_go h rfl rfl
          have h : MR X ρ 1 0 0 qP260 N 65 [a0] [(1, 1), (1, 2), (1, m3 a0 15)] m3 o := h
          have h := CR_iastore_ h rfl
          have h : MR X ρ 1 0 0 qP260 N 66 [a0] [] (mu m3 (m3 a0 15) 2 (s32 1)) o := h
          have h := CR_aload_n h rfl
          have h : MR X ρ 1 0 0 qP260 N 67 [a0] [(1, a0)] (mu m3 (m3 a0 15) 2 (s32 1)) o := h
          obtain ⟨r35, m36, q37, h⟩ := MR_invV h rfl rfl
          have q37 : Run X ρ 195 [(1, a0)] (mu m3 (m3 a0 15) 2 (s32 1)) r35 m36 := q37
          obtain rfl := Run_v q37 rfl
          have h : MR X ρ 1 0 0 qP260 N 70 [a0] [] m36 o := h
          refine ⟨m36, q37, ?_⟩
          have h := CR_iconst h rfl rfl
          have h : MR X ρ 1 0 0 qP260 N 71 [a0] [(1, 1)] m36 o := h
          exact CR_end h rfl rfl
      ·
        have c28 : (f217 m3 a0 7) = 0 := Decidable.of_not_not (show ¬ ¬ ((f217 m3 a0 7) = 0) from c28)
        refine Or.inl ⟨c28, ?_⟩
        have h : MR X ρ 1 0 0 qP260 N 40 [a0] [] m3 o := h
        have h := CR_aload_n h rfl
        have h : MR X ρ 1 0 0 qP260 N 41 [a0] [(1, a0)] m3 o := h
        have h := CR_iconst h rfl rfl
        have h : MR X ρ 1 0 0 qP260 N 42 [a0] [(1, 1), (1, a0)] m3 o := h
        obtain ⟨r38, m39, q40, h⟩ := MR_invV h rfl rfl
        have q40 : Run X ρ 168 [(1, a0), (1, 1)] m3 r38 m39 := q40
        obtain ⟨e41, e42⟩ := d168 q40
        rw [e41, e42] at h
        have h : MR X ρ 1 0 0 qP260 N 45 [a0] [(1, f168 m3 a0 1)] (g168 m3 a0 1) o := h
        exact CR_end h rfl rfl
  ·
    have c1 : ¬ ((m a0 24) = 0) := c1
    refine Or.inr ⟨c1, ?_⟩
    have h : MR X ρ 1 0 0 qP260 N 7 [a0] [] m o := h
    have h := CR_aload_n h rfl
    have h : MR X ρ 1 0 0 qP260 N 8 [a0] [(1, a0)] m o := h
    have h := CR_iconst h rfl rfl
    have h : MR X ρ 1 0 0 qP260 N 9 [a0] [(1, 3), (1, a0)] m o := h
    obtain ⟨r43, m44, q45, h⟩ := MR_invV h rfl rfl
    have q45 : Run X ρ 168 [(1, a0), (1, 3)] m r43 m44 := q45
    obtain ⟨e46, e47⟩ := d168 q45
    rw [e46, e47] at h
    have h : MR X ρ 1 0 0 qP260 N 12 [a0] [(1, f168 m a0 3)] (g168 m a0 3) o := h
    exact CR_end h rfl rfl
set_option maxRecDepth 16384 in
theorem i250_0 {X : KO} {ρ : Nat → Int32} {m : MM} {N : Nat} {o : Instr × List (Nat × Int) × MM} {a0 : Int} (h : MR X ρ 1 0 0 qP250 N 0 [a0] [] m o) : ((((f217 m a0 0) = 0) ∧ ((((f217 m a0 2) = 0) ∧ ((((f217 m a0 3) = 0) ∧ ((((f217 m a0 4) = 0) ∧ ((((f217 m a0 5) = 0) ∧ (o = (.ireturn, [(1, f168 m a0 1)], g168 m a0 1))) ∨ (¬ ((f217 m a0 5) = 0) ∧ (∃ v39 m37, Run X ρ 260 [(1, a0)] m [(1, v39)] m37 ∧ (v39 = 0 ∨ v39 = 1) ∧ (o = (.ireturn, [(1, v39)], m37)))))) ∨ (¬ ((f217 m a0 4) = 0) ∧ (∃ v43 m41, Run X ρ 247 [(1, a0)] m [(1, v43)] m41 ∧ (v43 = 0 ∨ v43 = 1) ∧ (o = (.ireturn, [(1, v43)], m41)))))) ∨ (¬ ((f217 m a0 3) = 0) ∧ (∃ v47 m45, Run X ρ 262 [(1, a0)] m [(1, v47)] m45 ∧ (v47 = 0 ∨ v47 = 1) ∧ (o = (.ireturn, [(1, v47)], m45)))))) ∨ (¬ ((f217 m a0 2) = 0) ∧ (∃ v51 m49, Run X ρ 249 [(1, a0)] m [(1, v51)] m49 ∧ (v51 = 0 ∨ v51 = 1) ∧ (o = (.ireturn, [(1, v51)], m49)))))) ∨ (¬ ((f217 m a0 0) = 0) ∧ (∃ v55 m53, Run X ρ 258 [(1, a0)] m [(1, v55)] m53 ∧ (v55 = 0 ∨ v55 = 1) ∧ (o = (.ireturn, [(1, v55)], m53))))) := by
  have h := CR_aload_n h rfl
  have h : MR X ρ 1 0 0 qP250 N 1 [a0] [(1, a0)] m o := h
  have h := CR_iconst h rfl rfl
  have h : MR X ρ 1 0 0 qP250 N 2 [a0] [(1, 0), (1, a0)] m o := h
  obtain ⟨r1, m2, q3, h⟩ := MR_invV h rfl rfl
  have q3 : Run X ρ 217 [(1, a0), (1, 0)] m r1 m2 := q3
  obtain ⟨e4, e5⟩ := d217 q3
  rw [e4, e5] at h
  have h : MR X ρ 1 0 0 qP250 N 5 [a0] [(1, f217 m a0 0)] m o := h
  rcases MR_if h rfl rfl with ⟨c6, h⟩ | ⟨c6, h⟩
  ·
    have c6 : (f217 m a0 0) = 0 := c6
    refine Or.inl ⟨c6, ?_⟩
    have h : MR X ρ 1 0 0 qP250 N 13 [a0] [] m o := h
    have h := CR_aload_n h rfl
    have h : MR X ρ 1 0 0 qP250 N 14 [a0] [(1, a0)] m o := h
    have h := CR_iconst h rfl rfl
    have h : MR X ρ 1 0 0 qP250 N 15 [a0] [(1, 2), (1, a0)] m o := h
    obtain ⟨r7, m8, q9, h⟩ := MR_invV h rfl rfl
    have q9 : Run X ρ 217 [(1, a0), (1, 2)] m r7 m8 := q9
    obtain ⟨e10, e11⟩ := d217 q9
    rw [e10, e11] at h
    have h : MR X ρ 1 0 0 qP250 N 18 [a0] [(1, f217 m a0 2)] m o := h
    rcases MR_if h rfl rfl with ⟨c12, h⟩ | ⟨c12, h⟩
    ·
      have c12 : (f217 m a0 2) = 0 := c12
      refine Or.inl ⟨c12, ?_⟩
      have h : MR X ρ 1 0 0 qP250 N 26 [a0] [] m o := h
      have h := CR_aload_n h rfl
      have h : MR X ρ 1 0 0 qP250 N 27 [a0] [(1, a0)] m o := h
      have h := CR_iconst h rfl rfl
      have h : MR X ρ 1 0 0 qP250 N 28 [a0] [(1, 3), (1, a0)] m o := h
      obtain ⟨r13, m14, q15, h⟩ := MR_invV h rfl rfl
      have q15 : Run X ρ 217 [(1, a0), (1, 3)] m r13 m14 := q15
      obtain ⟨e16, e17⟩ := d217 q15
      rw [e16, e17] at h
      have h : MR X ρ 1 0 0 qP250 N 31 [a0] [(1, f217 m a0 3)] m o := h
      rcases MR_if h rfl rfl with ⟨c18, h⟩ | ⟨c18, h⟩
      ·
        have c18 : (f217 m a0 3) = 0 := c18
        refine Or.inl ⟨c18, ?_⟩
        have h : MR X ρ 1 0 0 qP250 N 39 [a0] [] m o := h
        have h := CR_aload_n h rfl
        have h : MR X ρ 1 0 0 qP250 N 40 [a0] [(1, a0)] m o := h
        have h := CR_iconst h rfl rfl
        have h : MR X ρ 1 0 0 qP250 N 41 [a0] [(1, 4), (1, a0)] m o := h
        obtain ⟨r19, m20, q21, h⟩ := MR_invV h rfl rfl
        have q21 : Run X ρ 217 [(1, a0), (1, 4)] m r19 m20 := q21
        obtain ⟨e22, e23⟩ := d217 q21
        rw [e22, e23] at h
        have h : MR X ρ 1 0 0 qP250 N 44 [a0] [(1, f217 m a0 4)] m o := h
        rcases MR_if h rfl rfl with ⟨c24, h⟩ | ⟨c24, h⟩
        ·
          have c24 : (f217 m a0 4) = 0 := c24
          refine Or.inl ⟨c24, ?_⟩
          have h : MR X ρ 1 0 0 qP250 N 52 [a0] [] m o := h
          have h := CR_aload_n h rfl
          have h : MR X ρ 1 0 0 qP250 N 53 [a0] [(1, a0)] m o := h
          have h := CR_iconst h rfl rfl
          have h : MR X ρ 1 0 0 qP250 N 54 [a0] [(1, 5), (1, a0)] m o := h
          obtain ⟨r25, m26, q27, h⟩ := MR_invV h rfl rfl
          have q27 : Run X ρ 217 [(1, a0), (1, 5)] m r25 m26 := q27
          obtain ⟨e28, e29⟩ := d217 q27
          rw [e28, e29] at h
          have h : MR X ρ 1 0 0 qP250 N 57 [a0] [(1, f217 m a0 5)] m o := h
          rcases MR_if h rfl rfl with ⟨c30, h⟩ | ⟨c30, h⟩
          ·
            have c30 : (f217 m a0 5) = 0 := c30
            refine Or.inl ⟨c30, ?_⟩
            have h : MR X ρ 1 0 0 qP250 N 67 [a0] [] m o := h
            have h := CR_aload_n h rfl
            have h : MR X ρ 1 0 0 qP250 N 68 [a0] [(1, a0)] m o := h
            have h := CR_iconst h rfl rfl
            have h : MR X ρ 1 0 0 qP250 N 69 [a0] [(1, 1), (1, a0)] m o := h
            obtain ⟨r31, m32, q33, h⟩ := MR_invV h rfl rfl
            have q33 : Run X ρ 168 [(1, a0), (1, 1)] m r31 m32 := q33
            obtain ⟨e34, e35⟩ := d168 q33
            rw [e34, e35] at h
            have h : MR X ρ 1 0 0 qP250 N 72 [a0] [(1, f168 m a0 1)] (g168 m a0 1) o := h
            exact CR_end h rfl rfl
          ·
            have c30 : ¬ ((f217 m a0 5) = 0) := c30
            refine Or.inr ⟨c30, ?_⟩
            have h : MR X ρ 1 0 0 qP250 N 60 [a0] [] m o := h
            have h := CR_aload_n h rfl
            have h : MR X ρ 1 0 0 qP250 N 61 [a0] [(1, a0)] m o := h
            obtain ⟨r36, m37, q38, h⟩ := MR_invV h rfl rfl
            have q38 : Run X ρ 260 [(1, a0)] m r36 m37 := q38
            obtain ⟨v39, rfl, zv39⟩ := Run_z q38 rfl
            have h : MR X ρ 1 0 0 qP250 N 64 [a0] [(1, v39)] m37 o := h
            refine ⟨v39, m37, q38, zv39, ?_⟩
            have h := CR_go h rfl rfl
            have h : MR X ρ 1 0 0 qP250 N 72 [a0] [(1, v39)] m37 o := h
            exact CR_end h rfl rfl
        ·
          have c24 : ¬ ((f217 m a0 4) = 0) := c24
          refine Or.inr ⟨c24, ?_⟩
          have h : MR X ρ 1 0 0 qP250 N 47 [a0] [] m o := h
          have h := CR_aload_n h rfl
          have h : MR X ρ 1 0 0 qP250 N 48 [a0] [(1, a0)] m o := h
          obtain ⟨r40, m41, q42, h⟩ := MR_invV h rfl rfl
          have q42 : Run X ρ 247 [(1, a0)] m r40 m41 := q42
          obtain ⟨v43, rfl, zv43⟩ := Run_z q42 rfl
          have h : MR X ρ 1 0 0 qP250 N 51 [a0] [(1, v43)] m41 o := h
          refine ⟨v43, m41, q42, zv43, ?_⟩
          exact CR_end h rfl rfl
      ·
        have c18 : ¬ ((f217 m a0 3) = 0) := c18
        refine Or.inr ⟨c18, ?_⟩
        have h : MR X ρ 1 0 0 qP250 N 34 [a0] [] m o := h
        have h := CR_aload_n h rfl
        have h : MR X ρ 1 0 0 qP250 N 35 [a0] [(1, a0)] m o := h
        obtain ⟨r44, m45, q46, h⟩ := MR_invV h rfl rfl
        have q46 : Run X ρ 262 [(1, a0)] m r44 m45 := q46
        obtain ⟨v47, rfl, zv47⟩ := Run_z q46 rfl
        have h : MR X ρ 1 0 0 qP250 N 38 [a0] [(1, v47)] m45 o := h
        refine ⟨v47, m45, q46, zv47, ?_⟩
        exact CR_end h rfl rfl
    ·
      have c12 : ¬ ((f217 m a0 2) = 0) := c12
      refine Or.inr ⟨c12, ?_⟩
      have h : MR X ρ 1 0 0 qP250 N 21 [a0] [] m o := h
      have h := CR_aload_n h rfl
      have h : MR X ρ 1 0 0 qP250 N 22 [a0] [(1, a0)] m o := h
      obtain ⟨r48, m49, q50, h⟩ := MR_invV h rfl rfl
      have q50 : Run X ρ 249 [(1, a0)] m r48 m49 := q50
      obtain ⟨v51, rfl, zv51⟩ := Run_z q50 rfl
      have h : MR X ρ 1 0 0 qP250 N 25 [a0] [(1, v51)] m49 o := h
      refine ⟨v51, m49, q50, zv51, ?_⟩
      exact CR_end h rfl rfl
  ·
    have c6 : ¬ ((f217 m a0 0) = 0) := c6
    refine Or.inr ⟨c6, ?_⟩
    have h : MR X ρ 1 0 0 qP250 N 8 [a0] [] m o := h
    have h := CR_aload_n h rfl
    have h : MR X ρ 1 0 0 qP250 N 9 [a0] [(1, a0)] m o := h
    obtain ⟨r52, m53, q54, h⟩ := MR_invV h rfl rfl
    have q54 : Run X ρ 258 [(1, a0)] m r52 m53 := q54
    obtain ⟨v55, rfl, zv55⟩ := Run_z q54 rfl
    have h : MR X ρ 1 0 0 qP250 N 12 [a0] [(1, v55)] m53 o := h
    refine ⟨v55, m53, q54, zv55, ?_⟩
    exact CR_end h rfl rfl
set_option maxRecDepth 16384 in
theorem i169_0 {X : KO} {ρ : Nat → Int32} {m : MM} {N : Nat} {o : Instr × List (Nat × Int) × MM} {a0 a1 : Int} (h : MR X ρ 2 0 0 qP169 N 0 [a0, a1] [] m o) : (∃ m7, Run X ρ 195 [(1, a0)] (mu (mu (mu (mu (g283 (mu m a0 0 0) a0) a0 3 (f283 (mu m a0 0 0) a0)) a0 4 a1) a0 10 0) a0 5 0) [] m7 ∧ (o = (.return_, [], m7))) := by
  have h := CR_aload_n h rfl
  have h : MR X ρ 2 0 0 qP169 N 1 [a0, a1] [(1, a0)] m o := h
  have h := CR_iconst h rfl rfl
  have h : MR X ρ 2 0 0 qP169 N 2 [a0, a1] [(1, 0), (1, a0)] m o := h
  have h := CR_putf h rfl
  have h : MR X ρ 2 0 0 qP169 N 5 [a0, a1] [] (mu m a0 0 0) o := h
  have h := CR_aload_n h rfl
  have h : MR X ρ 2 0 0 qP169 N 6 [a0, a1] [(1, a0)] (mu m a0 0 0) o := h
  have h := CR_aload_n h rfl
  have h : MR X ρ 2 0 0 qP169 N 7 [a0, a1] [(1, a0), (1, a0)] (mu m a0 0 0) o := h
  obtain ⟨r1, m2, q3, h⟩ := MR_invV h rfl rfl
  have q3 : Run X ρ 283 [(1, a0)] (mu m a0 0 0) r1 m2 := q3
  obtain ⟨e4, e5⟩ := d283 q3
  rw [e4, e5] at h
  have h : MR X ρ 2 0 0 qP169 N 10 [a0, a1] [(1, f283 (mu m a0 0 0) a0), (1, a0)] (g283 (mu m a0 0 0) a0) o := h
  have h := CR_putf h rfl
  have h : MR X ρ 2 0 0 qP169 N 13 [a0, a1] [] (mu (g283 (mu m a0 0 0) a0) a0 3 (f283 (mu m a0 0 0) a0)) o := h
  have h := CR_aload_n h rfl
  have h : MR X ρ 2 0 0 qP169 N 14 [a0, a1] [(1, a0)] (mu (g283 (mu m a0 0 0) a0) a0 3 (f283 (mu m a0 0 0) a0)) o := h
  have h := CR_iload_n h rfl
  have h : MR X ρ 2 0 0 qP169 N 15 [a0, a1] [(1, a1), (1, a0)] (mu (g283 (mu m a0 0 0) a0) a0 3 (f283 (mu m a0 0 0) a0)) o := h
  have h := CR_putf h rfl
  have h : MR X ρ 2 0 0 qP169 N 18 [a0, a1] [] (mu (mu (g283 (mu m a0 0 0) a0) a0 3 (f283 (mu m a0 0 0) a0)) a0 4 a1) o := h
  have h := CR_aload_n h rfl
  have h : MR X ρ 2 0 0 qP169 N 19 [a0, a1] [(1, a0)] (mu (mu (g283 (mu m a0 0 0) a0) a0 3 (f283 (mu m a0 0 0) a0)) a0 4 a1) o := h
  have h := CR_iconst h rfl rfl
  have h : MR X ρ 2 0 0 qP169 N 20 [a0, a1] [(1, 0), (1, a0)] (mu (mu (g283 (mu m a0 0 0) a0) a0 3 (f283 (mu m a0 0 0) a0)) a0 4 a1) o := h
  have h := CR_putf h rfl
  have h : MR X ρ 2 0 0 qP169 N 23 [a0, a1] [] (mu (mu (mu (g283 (mu m a0 0 0) a0) a0 3 (f283 (mu m a0 0 0) a0)) a0 4 a1) a0 10 0) o := h
  have h := CR_aload_n h rfl
  have h : MR X ρ 2 0 0 qP169 N 24 [a0, a1] [(1, a0)] (mu (mu (mu (g283 (mu m a0 0 0) a0) a0 3 (f283 (mu m a0 0 0) a0)) a0 4 a1) a0 10 0) o := h
  have h := CR_iconst h rfl rfl
  have h : MR X ρ 2 0 0 qP169 N 25 [a0, a1] [(1, 0), (1, a0)] (mu (mu (mu (g283 (mu m a0 0 0) a0) a0 3 (f283 (mu m a0 0 0) a0)) a0 4 a1) a0 10 0) o := h
  have h := CR_putf h rfl
  have h : MR X ρ 2 0 0 qP169 N 28 [a0, a1] [] (mu (mu (mu (mu (g283 (mu m a0 0 0) a0) a0 3 (f283 (mu m a0 0 0) a0)) a0 4 a1) a0 10 0) a0 5 0) o := h
  have h := CR_aload_n h rfl
  have h : MR X ρ 2 0 0 qP169 N 29 [a0, a1] [(1, a0)] (mu (mu (mu (mu (g283 (mu m a0 0 0) a0) a0 3 (f283 (mu m a0 0 0) a0)) a0 4 a1) a0 10 0) a0 5 0) o := h
  obtain ⟨r6, m7, q8, h⟩ := MR_invV h rfl rfl
  have q8 : Run X ρ 195 [(1, a0)] (mu (mu (mu (mu (g283 (mu m a0 0 0) a0) a0 3 (f283 (mu m a0 0 0) a0)) a0 4 a1) a0 10 0) a0 5 0) r6 m7 := q8
  obtain rfl := Run_v q8 rfl
  have h : MR X ρ 2 0 0 qP169 N 32 [a0, a1] [] m7 o := h
  refine ⟨m7, q8, ?_⟩
  exact CR_end h rfl rfl
