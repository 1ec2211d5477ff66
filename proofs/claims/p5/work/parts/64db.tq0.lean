set_option maxRecDepth 16384 in
theorem q293_0 {X : KO} {ρ : Nat → Int32} {m : MM} {N : Nat} {o : Instr × List (Nat × Int) × MM} {a0 a1 : Int} (h : MR X ρ 3 0 0 qP293 N 0 [a0, a1, 0] [] m o) : (∃ y6, y6 = g292 m a0 32 ∧ (∃ m8, Run X ρ 295 [(1, a0), (2, a1)] y6 [] m8 ∧ (o = (.return_, [], m8)))) := by
  have h := CR_aload_n h rfl
  have h : MR X ρ 3 0 0 qP293 N 1 [a0, a1, 0] [(1, a0)] m o := h
  have h := CR_bipush h rfl rfl
  have h : MR X ρ 3 0 0 qP293 N 3 [a0, a1, 0] [(1, 32), (1, a0)] m o := h
  obtain ⟨r1, m2, q3, h⟩ := MR_invV h rfl rfl
  have q3 : Run X ρ 292 [(1, a0), (1, 32)] m r1 m2 := q3
  obtain ⟨e4, e5⟩ := d292 q3
  rw [e4, e5] at h
  have h : MR X ρ 3 0 0 qP293 N 6 [a0, a1, 0] [] (g292 m a0 32) o := h
  obtain ⟨y6, zy6, h⟩ : ∃ y, y = g292 m a0 32 ∧ MR X ρ 3 0 0 qP293 N 6 [a0, a1, 0] [] y o := ⟨_, rfl, h⟩
  have h : MR X ρ 3 0 0 qP293 N 6 [a0, a1, 0] [] y6 o := h
  refine ⟨y6, zy6, ?_⟩
  have h := CR_aload_n h rfl
  have h : MR X ρ 3 0 0 qP293 N 7 [a0, a1, 0] [(1, a0)] y6 o := h
  have h := CR_lload_n h rfl
  have h : MR X ρ 3 0 0 qP293 N 8 [a0, a1, 0] [(2, a1), (1, a0)] y6 o := h
  obtain ⟨r7, m8, q9, h⟩ := MR_invV h rfl rfl
  have q9 : Run X ρ 295 [(1, a0), (2, a1)] y6 r7 m8 := q9
  obtain rfl := Run_v q9 rfl
  have h : MR X ρ 3 0 0 qP293 N 11 [a0, a1, 0] [] m8 o := h
  refine ⟨m8, q9, ?_⟩
  exact CR_end h rfl rfl
set_option maxRecDepth 16384 in
theorem q294_0 {X : KO} {ρ : Nat → Int32} {m : MM} {N : Nat} {o : Instr × List (Nat × Int) × MM} {a0 a1 : Int} (h : MR X ρ 2 0 0 qP294 N 0 [a0, a1] [] m o) : (∃ m7, Run X ρ 293 [(1, a0), (2, f278 m 105 115 0 0 0 0 0)] m [] m7 ∧ ((((m7 (m7 a0 14) (s32 (182 + a1))) = 0) ∧ (∃ m33, Run X ρ 293 [(1, a0), (2, f291 m7 23)] m7 [] m33 ∧ (o = (.return_, [], m33)))) ∨ (¬ ((m7 (m7 a0 14) (s32 (182 + a1))) = 0) ∧ ((((m7 (m7 a0 14) (s32 (182 + a1))) = 3) ∧ (∃ m25, Run X ρ 293 [(1, a0), (2, f291 m7 13)] m7 [] m25 ∧ (o = (.return_, [], m25)))) ∨ (¬ ((m7 (m7 a0 14) (s32 (182 + a1))) = 3) ∧ (∃ m17, Run X ρ 293 [(1, a0), (2, f291 m7 (s32 (19 + (m7 (m7 a0 14) (s32 (182 + a1))))))] m7 [] m17 ∧ (o = (.return_, [], m17)))))))) := by
  have h := CR_aload_n h rfl
  have h : MR X ρ 2 0 0 qP294 N 1 [a0, a1] [(1, a0)] m o := h
  have h := CR_bipush h rfl rfl
  have h : MR X ρ 2 0 0 qP294 N 3 [a0, a1] [(1, 105), (1, a0)] m o := h
  have h := CR_bipush h rfl rfl
  have h : MR X ρ 2 0 0 qP294 N 5 [a0, a1] [(1, 115), (1, 105), (1, a0)] m o := h
  have h := CR_iconst h rfl rfl
  have h : MR X ρ 2 0 0 qP294 N 6 [a0, a1] [(1, 0), (1, 115), (1, 105), (1, a0)] m o := h
  have h := CR_iconst h rfl rfl
  have h : MR X ρ 2 0 0 qP294 N 7 [a0, a1] [(1, 0), (1, 0), (1, 115), (1, 105), (1, a0)] m o := h
  have h := CR_iconst h rfl rfl
  have h : MR X ρ 2 0 0 qP294 N 8 [a0, a1] [(1, 0), (1, 0), (1, 0), (1, 115), (1, 105), (1, a0)] m o := h
  have h := CR_iconst h rfl rfl
  have h : MR X ρ 2 0 0 qP294 N 9 [a0, a1] [(1, 0), (1, 0), (1, 0), (1, 0), (1, 115), (1, 105), (1, a0)] m o := h
  have h := CR_iconst h rfl rfl
  have h : MR X ρ 2 0 0 qP294 N 10 [a0, a1] [(1, 0), (1, 0), (1, 0), (1, 0), (1, 0), (1, 115), (1, 105), (1, a0)] m o := h
  obtain ⟨r1, m2, q3, h⟩ := MR_invS h rfl rfl
  have q3 : Run X ρ 278 [(1, 105), (1, 115), (1, 0), (1, 0), (1, 0), (1, 0), (1, 0)] m r1 m2 := q3
  obtain ⟨e4, e5⟩ := d278 q3
  rw [e4, e5] at h
  have h : MR X ρ 2 0 0 qP294 N 13 [a0, a1] [(2, f278 m 105 115 0 0 0 0 0), (1, a0)] m o := h
  obtain ⟨r6, m7, q8, h⟩ := MR_invV h rfl rfl
  have q8 : Run X ρ 293 [(1, a0), (2, f278 m 105 115 0 0 0 0 0)] m r6 m7 := q8
  obtain rfl := Run_v q8 rfl
  have h : MR X ρ 2 0 0 qP294 N 16 [a0, a1] [] m7 o := h
  refine ⟨m7, q8, ?_⟩
  have h := CR_aload_n h rfl
  have h : MR X ρ 2 0 0 qP294 N 17 [a0, a1] [(1, a0)] m7 o := h
  have h := CR_aload_n h rfl
  have h : MR X ρ 2 0 0 qP294 N 18 [a0, a1] [(1, a0), (1, a0)] m7 o := h
  have h := CR_getf h rfl (by decide)
  have h : MR X ρ 2 0 0 qP294 N 21 [a0, a1] [(1, m7 a0 14), (1, a0)] m7 o := h
  have h := CR_sipush h rfl rfl
  have h : MR X ρ 2 0 0 qP294 N 24 [a0, a1] [(1, 182), (1, m7 a0 14), (1, a0)] m7 o := h
  have h := CR_iload_n h rfl
  have h : MR X ρ 2 0 0 qP294 N 25 [a0, a1] [(1, a1), (1, 182), (1, m7 a0 14), (1, a0)] m7 o := h
  have h := CR_iadd h rfl
  have h : MR X ρ 2 0 0 qP294 N 26 [a0, a1] [(1, s32 (182 + a1)), (1, m7 a0 14), (1, a0)] m7 o := h
  have h := CR_iaload h rfl rfl
  have h : MR X ρ 2 0 0 qP294 N 27 [a0, a1] [(1, m7 (m7 a0 14) (s32 (182 + a1))), (1, a0)] m7 o := h
  rcases MR_if h rfl rfl with ⟨c9, h⟩ | ⟨c9, h⟩
  ·
    have c9 : ¬ ((m7 (m7 a0 14) (s32 (182 + a1))) = 0) := c9
    refine Or.inr ⟨c9, ?_⟩
    have h : MR X ρ 2 0 0 qP294 N 38 [a0, a1] [(1, a0)] m7 o := h
    have h := CR_aload_n h rfl
    have h : MR X ρ 2 0 0 qP294 N 39 [a0, a1] [(1, a0), (1, a0)] m7 o := h
    have h := CR_getf h rfl (by decide)
    have h : MR X ρ 2 0 0 qP294 N 42 [a0, a1] [(1, m7 a0 14), (1, a0)] m7 o := h
    have h := CR_sipush h rfl rfl
    have h : MR X ρ 2 0 0 qP294 N 45 [a0, a1] [(1, 182), (1, m7 a0 14), (1, a0)] m7 o := h
    have h := CR_iload_n h rfl
    have h : MR X ρ 2 0 0 qP294 N 46 [a0, a1] [(1, a1), (1, 182), (1, m7 a0 14), (1, a0)] m7 o := h
    have h := CR_iadd h rfl
    have h : MR X ρ 2 0 0 qP294 N 47 [a0, a1] [(1, s32 (182 + a1)), (1, m7 a0 14), (1, a0)] m7 o := h
    have h := CR_iaload h rfl rfl
    have h : MR X ρ 2 0 0 qP294 N 48 [a0, a1] [(1, m7 (m7 a0 14) (s32 (182 + a1))), (1, a0)] m7 o := h
    have h := CR_iconst h rfl rfl
    have h : MR X ρ 2 0 0 qP294 N 49 [a0, a1] [(1, 3), (1, m7 (m7 a0 14) (s32 (182 + a1))), (1, a0)] m7 o := h
    rcases MR_icmp h rfl rfl with ⟨c10, h⟩ | ⟨c10, h⟩
    ·
      have c10 : ¬ ((m7 (m7 a0 14) (s32 (182 + a1))) = 3) := c10
      refine Or.inr ⟨c10, ?_⟩
      have h : MR X ρ 2 0 0 qP294 N 60 [a0, a1] [(1, a0)] m7 o := h
      have h := CR_bipush h rfl rfl
      have h : MR X ρ 2 0 0 qP294 N 62 [a0, a1] [(1, 19), (1, a0)] m7 o := h
      have h := CR_aload_n h rfl
      have h : MR X ρ 2 0 0 qP294 N 63 [a0, a1] [(1, a0), (1, 19), (1, a0)] m7 o := h
      have h := CR_getf h rfl (by decide)
      have h : MR X ρ 2 0 0 qP294 N 66 [a0, a1] [(1, m7 a0 14), (1, 19), (1, a0)] m7 o := h
      have h := CR_sipush h rfl rfl
      have h : MR X ρ 2 0 0 qP294 N 69 [a0, a1] [(1, 182), (1, m7 a0 14), (1, 19), (1, a0)] m7 o := h
      have h := CR_iload_n h rfl
      have h : MR X ρ 2 0 0 qP294 N 70 [a0, a1] [(1, a1), (1, 182), (1, m7 a0 14), (1, 19), (1, a0)] m7 o := h
      have h := CR_iadd h rfl
      have h : MR X ρ 2 0 0 qP294 N 71 [a0, a1] [(1, s32 (182 + a1)), (1, m7 a0 14), (1, 19), (1, a0)] m7 o := h
      have h := CR_iaload h rfl rfl
      have h : MR X ρ 2 0 0 qP294 N 72 [a0, a1] [(1, m7 (m7 a0 14) (s32 (182 + a1))), (1, 19), (1, a0)] m7 o := h
      have h := CR_iadd h rfl
      have h : MR X ρ 2 0 0 qP294 N 73 [a0, a1] [(1, s32 (19 + (m7 (m7 a0 14) (s32 (182 + a1))))), (1, a0)] m7 o := h
      obtain ⟨r11, m12, q13, h⟩ := MR_invS h rfl rfl
      have q13 : Run X ρ 291 [(1, s32 (19 + (m7 (m7 a0 14) (s32 (182 + a1)))))] m7 r11 m12 := q13
      obtain ⟨e14, e15⟩ := d291 q13
      rw [e14, e15] at h
      have h : MR X ρ 2 0 0 qP294 N 76 [a0, a1] [(2, f291 m7 (s32 (19 + (m7 (m7 a0 14) (s32 (182 + a1)))))), (1, a0)] m7 o := h
      obtain ⟨r16, m17, q18, h⟩ := MR_invV h rfl rfl
      have q18 : Run X ρ 293 [(1, a0), (2, f291 m7 (s32 (19 + (m7 (m7 a0 14) (s32 (182 + a1))))))] m7 r16 m17 := q18
      obtain rfl := Run_v q18 rfl
      have h : MR X ρ 2 0 0 qP294 N 79 [a0, a1] [] m17 o := h
      refine ⟨m17, q18, ?_⟩
      exact CR_end h rfl rfl
    ·
      have c10 : (m7 (m7 a0 14) (s32 (182 + a1))) = 3 := Decidable.of_not_not (show ¬ ¬ ((m7 (m7 a0 14) (s32 (182 + a1))) = 3) from c10)
      refine Or.inl ⟨c10, ?_⟩
      have h : MR X ρ 2 0 0 qP294 N 52 [a0, a1] [(1, a0)] m7 o := h
      have h := CR_bipush h rfl rfl
      have h : MR X ρ 2 0 0 qP294 N 54 [a0, a1] [(1, 13), (1, a0)] m7 o := h
      obtain ⟨r19, m20, q21, h⟩ := MR_invS h rfl rfl
      have q21 : Run X ρ 291 [(1, 13)] m7 r19 m20 := q21
      obtain ⟨e22, e23⟩ := d291 q21
      rw [e22, e23] at h
      have h : MR X ρ 2 0 0 qP294 N 57 [a0, a1] [(2, f291 m7 13), (1, a0)] m7 o := h
      have h := CR_go h rfl rfl
      have h : MR X ρ 2 0 0 qP294 N 76 [a0, a1] [(2, f291 m7 13), (1, a0)] m7 o := h
      obtain ⟨r24, m25, q26, h⟩ := MR_invV h rfl rfl
      have q26 : Run X ρ 293 [(1, a0), (2, f291 m7 13)] m7 r24 m25 := q26
      obtain rfl := Run_v q26 rfl
      have h : MR X ρ 2 0 0 qP294 N 79 [a0, a1] [] m25 o := h
      refine ⟨m25, q26, ?_⟩
      exact CR_end h rfl rfl
  ·
    have c9 : (m7 (m7 a0 14) (s32 (182 + a1))) = 0 := Decidable.of_not_not (show ¬ ¬ ((m7 (m7 a0 14) (s32 (182 + a1))) = 0) from c9)
    refine Or.inl ⟨c9, ?_⟩
    have h : MR X ρ 2 0 0 qP294 N 30 [a0, a1] [(1, a0)] m7 o := h
    have h := CR_bipush h rfl rfl
    have h : MR X ρ 2 0 0 qP294 N 32 [a0, a1] [(1, 23), (1, a0)] m7 o := h
    obtain ⟨r27, m28, q29, h⟩ := MR_invS h rfl rfl
    have q29 : Run X ρ 291 [(1, 23)] m7 r27 m28 := q29
    obtain ⟨e30, e31⟩ := d291 q29
    rw [e30, e31] at h
    have h : MR X ρ 2 0 0 qP294 N 35 [a0, a1] [(2, f291 m7 23), (1, a0)] m7 o := h
    have h := CR_go h rfl rfl
    have h : MR X ρ 2 0 0 qP294 N 76 [a0, a1] [(2, f291 m7 23), (1, a0)] m7 o := h
    obtain ⟨r32, m33, q34, h⟩ := MR_invV h rfl rfl
    have q34 : Run X ρ 293 [(1, a0), (2, f291 m7 23)] m7 r32 m33 := q34
    obtain rfl := Run_v q34 rfl
    have h : MR X ρ 2 0 0 qP294 N 79 [a0, a1] [] m33 o := h
    refine ⟨m33, q34, ?_⟩
    exact CR_end h rfl rfl
set_option maxRecDepth 16384 in
theorem q295_0 {X : KO} {ρ : Nat → Int32} {m : MM} {N : Nat} {o : Instr × List (Nat × Int) × MM} {a0 a1 : Int} (h : MR X ρ 3 0 0 qP295 N 0 [a0, a1, 0] [] m o) : ((((if 27 < a1 then 1 else if a1 = 27 then 0 else -1) < 0) ∧ (∃ y7, y7 = g292 m a0 (s32 (96 + (jl2i (jlrem a1 27)))) ∧ (o = (.return_, [], y7)))) ∨ (¬ ((if 27 < a1 then 1 else if a1 = 27 then 0 else -1) < 0) ∧ (∃ m9, Run X ρ 295 [(1, a0), (2, jldiv a1 27)] m [] m9 ∧ (∃ y16, y16 = g292 m9 a0 (s32 (96 + (jl2i (jlrem a1 27)))) ∧ (o = (.return_, [], y16)))))) := by
  have h := CR_lload_n h rfl
  have h : MR X ρ 3 0 0 qP295 N 1 [a0, a1, 0] [(2, a1)] m o := h
  have h := CR_ldc2w h rfl rfl
  have h : MR X ρ 3 0 0 qP295 N 4 [a0, a1, 0] [(2, 27), (2, a1)] m o := h
  have h := CR_lcmp h rfl
  have h : MR X ρ 3 0 0 qP295 N 5 [a0, a1, 0] [(1, if 27 < a1 then 1 else if a1 = 27 then 0 else -1)] m o := h
  rcases MR_if h rfl rfl with ⟨c1, h⟩ | ⟨c1, h⟩
  ·
    have c1 : (if 27 < a1 then 1 else if a1 = 27 then 0 else -1) < 0 := c1
    refine Or.inl ⟨c1, ?_⟩
    have h : MR X ρ 3 0 0 qP295 N 17 [a0, a1, 0] [] m o := h
    have h := CR_aload_n h rfl
    have h : MR X ρ 3 0 0 qP295 N 18 [a0, a1, 0] [(1, a0)] m o := h
    have h := CR_bipush h rfl rfl
    have h : MR X ρ 3 0 0 qP295 N 20 [a0, a1, 0] [(1, 96), (1, a0)] m o := h
    have h := CR_lload_n h rfl
    have h : MR X ρ 3 0 0 qP295 N 21 [a0, a1, 0] [(2, a1), (1, 96), (1, a0)] m o := h
    have h := CR_ldc2w h rfl rfl
    have h : MR X ρ 3 0 0 qP295 N 24 [a0, a1, 0] [(2, 27), (2, a1), (1, 96), (1, a0)] m o := h
    have h := CR_lrem h rfl
    have h : MR X ρ 3 0 0 qP295 N 25 [a0, a1, 0] [(2, jlrem a1 27), (1, 96), (1, a0)] m o := h
    have h := CR_l2i_ h rfl
    have h : MR X ρ 3 0 0 qP295 N 26 [a0, a1, 0] [(1, jl2i (jlrem a1 27)), (1, 96), (1, a0)] m o := h
    have h := CR_iadd h rfl
    have h : MR X ρ 3 0 0 qP295 N 27 [a0, a1, 0] [(1, s32 (96 + (jl2i (jlrem a1 27)))), (1, a0)] m o := h
    obtain ⟨r2, m3, q4, h⟩ := MR_invV h rfl rfl
    have q4 : Run X ρ 292 [(1, a0), (1, s32 (96 + (jl2i (jlrem a1 27))))] m r2 m3 := q4
    obtain ⟨e5, e6⟩ := d292 q4
    rw [e5, e6] at h
    have h : MR X ρ 3 0 0 qP295 N 30 [a0, a1, 0] [] (g292 m a0 (s32 (96 + (jl2i (jlrem a1 27))))) o := h
    obtain ⟨y7, zy7, h⟩ : ∃ y, y = g292 m a0 (s32 (96 + (jl2i (jlrem a1 27)))) ∧ MR X ρ 3 0 0 qP295 N 30 [a0, a1, 0] [] y o := ⟨_, rfl, h⟩
    have h : MR X ρ 3 0 0 qP295 N 30 [a0, a1, 0] [] y7 o := h
    refine ⟨y7, zy7, ?_⟩
    exact CR_end h rfl rfl
  ·
    have c1 : ¬ ((if 27 < a1 then 1 else if a1 = 27 then 0 else -1) < 0) := c1
    refine Or.inr ⟨c1, ?_⟩
    have h : MR X ρ 3 0 0 qP295 N 8 [a0, a1, 0] [] m o := h
    have h := CR_aload_n h rfl
    have h : MR X ρ 3 0 0 qP295 N 9 [a0, a1, 0] [(1, a0)] m o := h
    have h := CR_lload_n h rfl
    have h : MR X ρ 3 0 0 qP295 N 10 [a0, a1, 0] [(2, a1), (1, a0)] m o := h
    have h := CR_ldc2w h rfl rfl
    have h : MR X ρ 3 0 0 qP295 N 13 [a0, a1, 0] [(2, 27), (2, a1), (1, a0)] m o := h
    have h := CR_ldiv h rfl
    have h : MR X ρ 3 0 0 qP295 N 14 [a0, a1, 0] [(2, jldiv a1 27), (1, a0)] m o := h
    obtain ⟨r8, m9, q10, h⟩ := MR_invV h rfl rfl
    have q10 : Run X ρ 295 [(1, a0), (2, jldiv a1 27)] m r8 m9 := q10
    obtain rfl := Run_v q10 rfl
    have h : MR X ρ 3 0 0 qP295 N 17 [a0, a1, 0] [] m9 o := h
    refine ⟨m9, q10, ?_⟩
    have h := CR_aload_n h rfl
    have h : MR X ρ 3 0 0 qP295 N 18 [a0, a1, 0] [(1, a0)] m9 o := h
    have h := CR_bipush h rfl rfl
    have h : MR X ρ 3 0 0 qP295 N 20 [a0, a1, 0] [(1, 96), (1, a0)] m9 o := h
    have h := CR_lload_n h rfl
    have h : MR X ρ 3 0 0 qP295 N 21 [a0, a1, 0] [(2, a1), (1, 96), (1, a0)] m9 o := h
    have h := CR_ldc2w h rfl rfl
    have h : MR X ρ 3 0 0 qP295 N 24 [a0, a1, 0] [(2, 27), (2, a1), (1, 96), (1, a0)] m9 o := h
    have h := CR_lrem h rfl
    have h : MR X ρ 3 0 0 qP295 N 25 [a0, a1, 0] [(2, jlrem a1 27), (1, 96), (1, a0)] m9 o := h
    have h := CR_l2i_ h rfl
    have h : MR X ρ 3 0 0 qP295 N 26 [a0, a1, 0] [(1, jl2i (jlrem a1 27)), (1, 96), (1, a0)] m9 o := h
    have h := CR_iadd h rfl
    have h : MR X ρ 3 0 0 qP295 N 27 [a0, a1, 0] [(1, s32 (96 + (jl2i (jlrem a1 27)))), (1, a0)] m9 o := h
    obtain ⟨r11, m12, q13, h⟩ := MR_invV h rfl rfl
    have q13 : Run X ρ 292 [(1, a0), (1, s32 (96 + (jl2i (jlrem a1 27))))] m9 r11 m12 := q13
    obtain ⟨e14, e15⟩ := d292 q13
    rw [e14, e15] at h
    have h : MR X ρ 3 0 0 qP295 N 30 [a0, a1, 0] [] (g292 m9 a0 (s32 (96 + (jl2i (jlrem a1 27))))) o := h
    obtain ⟨y16, zy16, h⟩ : ∃ y, y = g292 m9 a0 (s32 (96 + (jl2i (jlrem a1 27)))) ∧ MR X ρ 3 0 0 qP295 N 30 [a0, a1, 0] [] y o := ⟨_, rfl, h⟩
    have h : MR X ρ 3 0 0 qP295 N 30 [a0, a1, 0] [] y16 o := h
    refine ⟨y16, zy16, ?_⟩
    exact CR_end h rfl rfl
set_option maxRecDepth 16384 in
theorem q279_0 {X : KO} {ρ : Nat → Int32} {m : MM} {N : Nat} {o : Instr × List (Nat × Int) × MM} {a0 a1 : Int} (h : MR X ρ 2 0 0 qP279 N 0 [a0, a1] [] m o) : (∃ y1, y1 = mu m a0 0 0 ∧ ((((f208 y1 a0 a1) = 0) ∧ (o = (.ireturn, [(1, -1)], y1))) ∨ (¬ ((f208 y1 a0 a1) = 0) ∧ (∃ y8, y8 = mu y1 a0 34 0 ∧ (∃ m10, Run X ρ 295 [(1, a0), (2, y8 (y8 a0 19) (s32 (8 + a1)))] y8 [] m10 ∧ ((((m10 (m10 a0 14) (s32 (182 + a1))) = 0) ∧ ((((f206 m10 a0 a1) = 0) ∧ (∃ m28, Run X ρ 293 [(1, a0), (2, f278 m10 119 97 110 116 115 0 0)] m10 [] m28 ∧ ((((f273 m28 a0 a1 0) = (-1)) ∧ (∃ m84, Run X ρ 293 [(1, a0), (2, f291 m28 24)] m28 [] m84 ∧ ((((f273 m84 a0 a1 1) = (-1)) ∧ (∃ m112, Run X ρ 293 [(1, a0), (2, f278 m84 104 117 114 116 0 0 0)] m84 [] m112 ∧ ((((f273 m112 a0 a1 2) = (-1)) ∧ (∃ m126, Run X ρ 293 [(1, a0), (2, f278 m112 116 104 105 114 100 0 0)] m112 [] m126 ∧ (o = (.ireturn, [(1, m126 a0 34)], m126)))) ∨ (¬ ((f273 m112 a0 a1 2) = (-1)) ∧ (o = (.ireturn, [(1, m112 a0 34)], m112)))))) ∨ (¬ ((f273 m84 a0 a1 1) = (-1)) ∧ ((((f273 m84 a0 a1 2) = (-1)) ∧ (∃ m104, Run X ρ 293 [(1, a0), (2, f278 m84 116 104 105 114 100 0 0)] m84 [] m104 ∧ (o = (.ireturn, [(1, m104 a0 34)], m104)))) ∨ (¬ ((f273 m84 a0 a1 2) = (-1)) ∧ (o = (.ireturn, [(1, m84 a0 34)], m84)))))))) ∨ (¬ ((f273 m28 a0 a1 0) = (-1)) ∧ ((((f273 m28 a0 a1 1) = (-1)) ∧ (∃ m62, Run X ρ 293 [(1, a0), (2, f278 m28 104 117 114 116 0 0 0)] m28 [] m62 ∧ ((((f273 m62 a0 a1 2) = (-1)) ∧ (∃ m76, Run X ρ 293 [(1, a0), (2, f278 m62 116 104 105 114 100 0 0)] m62 [] m76 ∧ (o = (.ireturn, [(1, m76 a0 34)], m76)))) ∨ (¬ ((f273 m62 a0 a1 2) = (-1)) ∧ (o = (.ireturn, [(1, m62 a0 34)], m62)))))) ∨ (¬ ((f273 m28 a0 a1 1) = (-1)) ∧ ((((f273 m28 a0 a1 2) = (-1)) ∧ (∃ m54, Run X ρ 293 [(1, a0), (2, f278 m28 116 104 105 114 100 0 0)] m28 [] m54 ∧ (o = (.ireturn, [(1, m54 a0 34)], m54)))) ∨ (¬ ((f273 m28 a0 a1 2) = (-1)) ∧ (o = (.ireturn, [(1, m28 a0 34)], m28)))))))))) ∨ (¬ ((f206 m10 a0 a1) = 0) ∧ (∃ m129, Run X ρ 294 [(1, a0), (1, a1)] m10 [] m129 ∧ (o = (.ireturn, [(1, m129 a0 34)], m129)))))) ∨ (¬ ((m10 (m10 a0 14) (s32 (182 + a1))) = 0) ∧ (∃ m14, Run X ρ 294 [(1, a0), (1, a1)] m10 [] m14 ∧ (o = (.ireturn, [(1, m14 a0 34)], m14)))))))))) := by
  have h := CR_aload_n h rfl
  have h : MR X ρ 2 0 0 qP279 N 1 [a0, a1] [(1, a0)] m o := h
  have h := CR_iconst h rfl rfl
  have h : MR X ρ 2 0 0 qP279 N 2 [a0, a1] [(1, 0), (1, a0)] m o := h
  have h := CR_putf h rfl
  have h : MR X ρ 2 0 0 qP279 N 5 [a0, a1] [] (mu m a0 0 0) o := h
  obtain ⟨y1, zy1, h⟩ : ∃ y, y = mu m a0 0 0 ∧ MR X ρ 2 0 0 qP279 N 5 [a0, a1] [] y o := ⟨_, rfl, h⟩
  have h : MR X ρ 2 0 0 qP279 N 5 [a0, a1] [] y1 o := h
  refine ⟨y1, zy1, ?_⟩
  have h := CR_aload_n h rfl
  have h : MR X ρ 2 0 0 qP279 N 6 [a0, a1] [(1, a0)] y1 o := h
  have h := CR_iload_n h rfl
  have h : MR X ρ 2 0 0 qP279 N 7 [a0, a1] [(1, a1), (1, a0)] y1 o := h
  obtain ⟨r2, m3, q4, h⟩ := MR_invV h rfl rfl
  have q4 : Run X ρ 208 [(1, a0), (1, a1)] y1 r2 m3 := q4
  obtain ⟨e5, e6⟩ := d208 q4
  rw [e5, e6] at h
  have h : MR X ρ 2 0 0 qP279 N 10 [a0, a1] [(1, f208 y1 a0 a1)] y1 o := h
  rcases MR_if h rfl rfl with ⟨c7, h⟩ | ⟨c7, h⟩
  ·
    have c7 : ¬ ((f208 y1 a0 a1) = 0) := c7
    refine Or.inr ⟨c7, ?_⟩
    have h : MR X ρ 2 0 0 qP279 N 15 [a0, a1] [] y1 o := h
    have h := CR_aload_n h rfl
    have h : MR X ρ 2 0 0 qP279 N 16 [a0, a1] [(1, a0)] y1 o := h
    have h := CR_iconst h rfl rfl
    have h : MR X ρ 2 0 0 qP279 N 17 [a0, a1] [(1, 0), (1, a0)] y1 o := h
    have h := CR_putf h rfl
    have h : MR X ρ 2 0 0 qP279 N 20 [a0, a1] [] (mu y1 a0 34 0) o := h
    obtain ⟨y8, zy8, h⟩ : ∃ y, y = mu y1 a0 34 0 ∧ MR X ρ 2 0 0 qP279 N 20 [a0, a1] [] y o := ⟨_, rfl, h⟩
    have h : MR X ρ 2 0 0 qP279 N 20 [a0, a1] [] y8 o := h
    refine ⟨y8, zy8, ?_⟩
    have h := CR_aload_n h rfl
    have h : MR X ρ 2 0 0 qP279 N 21 [a0, a1] [(1, a0)] y8 o := h
    have h := CR_aload_n h rfl
    have h : MR X ρ 2 0 0 qP279 N 22 [a0, a1] [(1, a0), (1, a0)] y8 o := h
    have h := CR_getf h rfl (by decide)
    have h : MR X ρ 2 0 0 qP279 N 25 [a0, a1] [(1, y8 a0 19), (1, a0)] y8 o := h
    have h := CR_bipush h rfl rfl
    have h : MR X ρ 2 0 0 qP279 N 27 [a0, a1] [(1, 8), (1, y8 a0 19), (1, a0)] y8 o := h
    have h := CR_iload_n h rfl
    have h : MR X ρ 2 0 0 qP279 N 28 [a0, a1] [(1, a1), (1, 8), (1, y8 a0 19), (1, a0)] y8 o := h
    have h := CR_iadd h rfl
    have h : MR X ρ 2 0 0 qP279 N 29 [a0, a1] [(1, s32 (8 + a1)), (1, y8 a0 19), (1, a0)] y8 o := h
    have h := CR_lald h rfl
    have h : MR X ρ 2 0 0 qP279 N 30 [a0, a1] [(2, y8 (y8 a0 19) (s32 (8 + a1))), (1, a0)] y8 o := h
    obtain ⟨r9, m10, q11, h⟩ := MR_invV h rfl rfl
    have q11 : Run X ρ 295 [(1, a0), (2, y8 (y8 a0 19) (s32 (8 + a1)))] y8 r9 m10 := q11
    obtain rfl := Run_v q11 rfl
    have h : MR X ρ 2 0 0 qP279 N 33 [a0, a1] [] m10 o := h
    refine ⟨m10, q11, ?_⟩
    have h := CR_aload_n h rfl
    have h : MR X ρ 2 0 0 qP279 N 34 [a0, a1] [(1, a0)] m10 o := h
    have h := CR_getf h rfl (by decide)
    have h : MR X ρ 2 0 0 qP279 N 37 [a0, a1] [(1, m10 a0 14)] m10 o := h
    have h := CR_sipush h rfl rfl
    have h : MR X ρ 2 0 0 qP279 N 40 [a0, a1] [(1, 182), (1, m10 a0 14)] m10 o := h
    have h := CR_iload_n h rfl
    have h : MR X ρ 2 0 0 qP279 N 41 [a0, a1] [(1, a1), (1, 182), (1, m10 a0 14)] m10 o := h
    have h := CR_iadd h rfl
    have h : MR X ρ 2 0 0 qP279 N 42 [a0, a1] [(1, s32 (182 + a1)), (1, m10 a0 14)] m10 o := h
    have h := CR_iaload h rfl rfl
    have h : MR X ρ 2 0 0 qP279 N 43 [a0, a1] [(1, m10 (m10 a0 14) (s32 (182 + a1)))] m10 o := h
    rcases MR_if h rfl rfl with ⟨c12, h⟩ | ⟨c12, h⟩
    ·
      have c12 : ¬ ((m10 (m10 a0 14) (s32 (182 + a1))) = 0) := c12
      refine Or.inr ⟨c12, ?_⟩
      have h : MR X ρ 2 0 0 qP279 N 54 [a0, a1] [] m10 o := h
      have h := CR_aload_n h rfl
      have h : MR X ρ 2 0 0 qP279 N 55 [a0, a1] [(1, a0)] m10 o := h
      have h := CR_iload_n h rfl
      have h : MR X ρ 2 0 0 qP279 N 56 [a0, a1] [(1, a1), (1, a0)] m10 o := h
      obtain ⟨r13, m14, q15, h⟩ := MR_invV h rfl rfl
      have q15 : Run X ρ 294 [(1, a0), (1, a1)] m10 r13 m14 := q15
      obtain rfl := Run_v q15 rfl
      have h : MR X ρ 2 0 0 qP279 N 59 [a0, a1] [] m14 o := h
      refine ⟨m14, q15, ?_⟩
      have h := CR_aload_n h rfl
      have h : MR X ρ 2 0 0 qP279 N 60 [a0, a1] [(1, a0)] m14 o := h
      have h := CR_getf h rfl (by decide)
      have h : MR X ρ 2 0 0 qP279 N 63 [a0, a1] [(1, m14 a0 34)] m14 o := h
      exact CR_end h rfl rfl
    ·
      have c12 : (m10 (m10 a0 14) (s32 (182 + a1))) = 0 := Decidable.of_not_not (show ¬ ¬ ((m10 (m10 a0 14) (s32 (182 + a1))) = 0) from c12)
      refine Or.inl ⟨c12, ?_⟩
      have h : MR X ρ 2 0 0 qP279 N 46 [a0, a1] [] m10 o := h
      have h := CR_aload_n h rfl
      have h : MR X ρ 2 0 0 qP279 N 47 [a0, a1] [(1, a0)] m10 o := h
      have h := CR_iload_n h rfl
      have h : MR X ρ 2 0 0 qP279 N 48 [a0, a1] [(1, a1), (1, a0)] m10 o := h
      obtain ⟨r16, m17, q18, h⟩ := MR_invV h rfl rfl
      have q18 : Run X ρ 206 [(1, a0), (1, a1)] m10 r16 m17 := q18
      obtain ⟨e19, e20⟩ := d206 q18
      rw [e19, e20] at h
      have h : MR X ρ 2 0 0 qP279 N 51 [a0, a1] [(1, f206 m10 a0 a1)] m10 o := h
      rcases MR_if h rfl rfl with ⟨c21, h⟩ | ⟨c21, h⟩
      ·
        have c21 : (f206 m10 a0 a1) = 0 := c21
        refine Or.inl ⟨c21, ?_⟩
        have h : MR X ρ 2 0 0 qP279 N 64 [a0, a1] [] m10 o := h
        have h := CR_aload_n h rfl
        have h : MR X ρ 2 0 0 qP279 N 65 [a0, a1] [(1, a0)] m10 o := h
        have h := CR_bipush h rfl rfl
        have h : MR X ρ 2 0 0 qP279 N 67 [a0, a1] [(1, 119), (1, a0)] m10 o := h
        have h := CR_bipush h rfl rfl
        have h : MR X ρ 2 0 0 qP279 N 69 [a0, a1] [(1, 97), (1, 119), (1, a0)] m10 o := h
        have h := CR_bipush h rfl rfl
        have h : MR X ρ 2 0 0 qP279 N 71 [a0, a1] [(1, 110), (1, 97), (1, 119), (1, a0)] m10 o := h
        have h := CR_bipush h rfl rfl
        have h : MR X ρ 2 0 0 qP279 N 73 [a0, a1] [(1, 116), (1, 110), (1, 97), (1, 119), (1, a0)] m10 o := h
        have h := CR_bipush h rfl rfl
        have h : MR X ρ 2 0 0 qP279 N 75 [a0, a1] [(1, 115), (1, 116), (1, 110), (1, 97), (1, 119), (1, a0)] m10 o := h
        have h := CR_iconst h rfl rfl
        have h : MR X ρ 2 0 0 qP279 N 76 [a0, a1] [(1, 0), (1, 115), (1, 116), (1, 110), (1, 97), (1, 119), (1, a0)] m10 o := h
        have h := CR_iconst h rfl rfl
        have h : MR X ρ 2 0 0 qP279 N 77 [a0, a1] [(1, 0), (1, 0), (1, 115), (1, 116), (1, 110), (1, 97), (1, 119), (1, a0)] m10 o := h
        obtain ⟨r22, m23, q24, h⟩ := MR_invS h rfl rfl
        have q24 : Run X ρ 278 [(1, 119), (1, 97), (1, 110), (1, 116), (1, 115), (1, 0), (1, 0)] m10 r22 m23 := q24
        obtain ⟨e25, e26⟩ := d278 q24
        rw [e25, e26] at h
        have h : MR X ρ 2 0 0 qP279 N 80 [a0, a1] [(2, f278 m10 119 97 110 116 115 0 0), (1, a0)] m10 o := h
        obtain ⟨r27, m28, q29, h⟩ := MR_invV h rfl rfl
        have q29 : Run X ρ 293 [(1, a0), (2, f278 m10 119 97 110 116 115 0 0)] m10 r27 m28 := q29
        obtain rfl := Run_v q29 rfl
        have h : MR X ρ 2 0 0 qP279 N 83 [a0, a1] [] m28 o := h
        refine ⟨m28, q29, ?_⟩
        have h := CR_aload_n h rfl
        have h : MR X ρ 2 0 0 qP279 N 84 [a0, a1] [(1, a0)] m28 o := h
        have h := CR_iload_n h rfl
        have h : MR X ρ 2 0 0 qP279 N 85 [a0, a1] [(1, a1), (1, a0)] m28 o := h
        have h := CR_iconst h rfl rfl
        have h : MR X ρ 2 0 0 qP279 N 86 [a0, a1] [(1, 0), (1, a1), (1, a0)] m28 o := h
        obtain ⟨r30, m31, q32, h⟩ := MR_invV h rfl rfl
        have q32 : Run X ρ 273 [(1, a0), (1, a1), (1, 0)] m28 r30 m31 := q32
        obtain ⟨e33, e34⟩ := d273 q32
        rw [e33, e34] at h
        have h : MR X ρ 2 0 0 qP279 N 89 [a0, a1] [(1, f273 m28 a0 a1 0)] m28 o := h
        have h := CR_iconst h rfl rfl
        have h : MR X ρ 2 0 0 qP279 N 90 [a0, a1] [(1, -1), (1, f273 m28 a0 a1 0)] m28 o := h
        rcases MR_icmp h rfl rfl with ⟨c35, h⟩ | ⟨c35, h⟩
        ·
          have c35 : ¬ ((f273 m28 a0 a1 0) = (-1)) := c35
          refine Or.inr ⟨c35, ?_⟩
          have h : MR X ρ 2 0 0 qP279 N 102 [a0, a1] [] m28 o := h
          have h := CR_aload_n h rfl
          have h : MR X ρ 2 0 0 qP279 N 103 [a0, a1] [(1, a0)] m28 o := h
          have h := CR_iload_n h rfl
          have h : MR X ρ 2 0 0 qP279 N 104 [a0, a1] [(1, a1), (1, a0)] m28 o := h
          have h := CR_iconst h rfl rfl
          have h : MR X ρ 2 0 0 qP279 N 105 [a0, a1] [(1, 1), (1, a1), (1, a0)] m28 o := h
          obtain ⟨r36, m37, q38, h⟩ := MR_invV h rfl rfl
          have q38 : Run X ρ 273 [(1, a0), (1, a1), (1, 1)] m28 r36 m37 := q38
          obtain ⟨e39, e40⟩ := d273 q38
          rw [e39, e40] at h
          have h : MR X ρ 2 0 0 qP279 N 108 [a0, a1] [(1, f273 m28 a0 a1 1)] m28 o := h
          have h := CR_iconst h rfl rfl
          have h : MR X ρ 2 0 0 qP279 N 109 [a0, a1] [(1, -1), (1, f273 m28 a0 a1 1)] m28 o := h
          rcases MR_icmp h rfl rfl with ⟨c41, h⟩ | ⟨c41, h⟩
          ·
            have c41 : ¬ ((f273 m28 a0 a1 1) = (-1)) := c41
            refine Or.inr ⟨c41, ?_⟩
            have h : MR X ρ 2 0 0 qP279 N 130 [a0, a1] [] m28 o := h
            have h := CR_aload_n h rfl
            have h : MR X ρ 2 0 0 qP279 N 131 [a0, a1] [(1, a0)] m28 o := h
            have h := CR_iload_n h rfl
            have h : MR X ρ 2 0 0 qP279 N 132 [a0, a1] [(1, a1), (1, a0)] m28 o := h
            have h := CR_iconst h rfl rfl
            have h : MR X ρ 2 0 0 qP279 N 133 [a0, a1] [(1, 2), (1, a1), (1, a0)] m28 o := h
            obtain ⟨r42, m43, q44, h⟩ := MR_invV h rfl rfl
            have q44 : Run X ρ 273 [(1, a0), (1, a1), (1, 2)] m28 r42 m43 := q44
            obtain ⟨e45, e46⟩ := d273 q44
            rw [e45, e46] at h
            have h : MR X ρ 2 0 0 qP279 N 136 [a0, a1] [(1, f273 m28 a0 a1 2)] m28 o := h
            have h := CR_iconst h rfl rfl
            have h : MR X ρ 2 0 0 qP279 N 137 [a0, a1] [(1, -1), (1, f273 m28 a0 a1 2)] m28 o := h
            rcases MR_icmp h rfl rfl with ⟨c47, h⟩ | ⟨c47, h⟩
            ·
              have c47 : ¬ ((f273 m28 a0 a1 2) = (-1)) := c47
              refine Or.inr ⟨c47, ?_⟩
              have h : MR X ρ 2 0 0 qP279 N 159 [a0, a1] [] m28 o := h
              have h := CR_aload_n h rfl
              have h : MR X ρ 2 0 0 qP279 N 160 [a0, a1] [(1, a0)] m28 o := h
              have h := CR_getf h rfl (by decide)
              have h : MR X ρ 2 0 0 qP279 N 163 [a0, a1] [(1, m28 a0 34)] m28 o := h
              exact CR_end h rfl rfl
            ·
              have c47 : (f273 m28 a0 a1 2) = (-1) := Decidable.of_not_not (show ¬ ¬ ((f273 m28 a0 a1 2) = (-1)) from c47)
              refine Or.inl ⟨c47, ?_⟩
              have h : MR X ρ 2 0 0 qP279 N 140 [a0, a1] [] m28 o := h
              have h := CR_aload_n h rfl
              have h : MR X ρ 2 0 0 qP279 N 141 [a0, a1] [(1, a0)] m28 o := h
              have h := CR_bipush h rfl rfl
              have h : MR X ρ 2 0 0 qP279 N 143 [a0, a1] [(1, 116), (1, a0)] m28 o := h
              have h := CR_bipush h rfl rfl
              have h : MR X ρ 2 0 0 qP279 N 145 [a0, a1] [(1, 104), (1, 116), (1, a0)] m28 o := h
              have h := CR_bipush h rfl rfl
              have h : MR X ρ 2 0 0 qP279 N 147 [a0, a1] [(1, 105), (1, 104), (1, 116), (1, a0)] m28 o := h
              have h := CR_bipush h rfl rfl
              have h : MR X ρ 2 0 0 qP279 N 149 [a0, a1] [(1, 114), (1, 105), (1, 104), (1, 116), (1, a0)] m28 o := h
              have h := CR_bipush h rfl rfl
              have h : MR X ρ 2 0 0 qP279 N 151 [a0, a1] [(1, 100), (1, 114), (1, 105), (1, 104), (1, 116), (1, a0)] m28 o := h
              have h := CR_iconst h rfl rfl
              have h : MR X ρ 2 0 0 qP279 N 152 [a0, a1] [(1, 0), (1, 100), (1, 114), (1, 105), (1, 104), (1, 116), (1, a0)] m28 o := h
              have h := CR_iconst h rfl rfl
              have h : MR X ρ 2 0 0 qP279 N 153 [a0, a1] [(1, 0), (1, 0), (1, 100), (1, 114), (1, 105), (1, 104), (1, 116), (1, a0)] m28 o := h
              obtain ⟨r48, m49, q50, h⟩ := MR_invS h rfl rfl
              have q50 : Run X ρ 278 [(1, 116), (1, 104), (1, 105), (1, 114), (1, 100), (1, 0), (1, 0)] m28 r48 m49 := q50
              obtain ⟨e51, e52⟩ := d278 q50
              rw [e51, e52] at h
              have h : MR X ρ 2 0 0 qP279 N 156 [a0, a1] [(2, f278 m28 116 104 105 114 100 0 0), (1, a0)] m28 o := h
              obtain ⟨r53, m54, q55, h⟩ := MR_invV h rfl rfl
              have q55 : Run X ρ 293 [(1, a0), (2, f278 m28 116 104 105 114 100 0 0)] m28 r53 m54 := q55
              obtain rfl := Run_v q55 rfl
              have h : MR X ρ 2 0 0 qP279 N 159 [a0, a1] [] m54 o := h
              refine ⟨m54, q55, ?_⟩
              have h := CR_aload_n h rfl
              have h : MR X ρ 2 0 0 qP279 N 160 [a0, a1] [(1, a0)] m54 o := h
              have h := CR_getf h rfl (by decide)
              have h : MR X ρ 2 0 0 qP279 N 163 [a0, a1] [(1, m54 a0 34)] m54 o := h
              exact CR_end h rfl rfl
          ·
            have c41 : (f273 m28 a0 a1 1) = (-1) := Decidable.of_not_not (show ¬ ¬ ((f273 m28 a0 a1 1) = (-1)) from c41)
            refine Or.inl ⟨c41, ?_⟩
            have h : MR X ρ 2 0 0 qP279 N 112 [a0, a1] [] m28 o := h
            have h := CR_aload_n h rfl
            have h : MR X ρ 2 0 0 qP279 N 113 [a0, a1] [(1, a0)] m28 o := h
            have h := CR_bipush h rfl rfl
            have h : MR X ρ 2 0 0 qP279 N 115 [a0, a1] [(1, 104), (1, a0)] m28 o := h
            have h := CR_bipush h rfl rfl
            have h : MR X ρ 2 0 0 qP279 N 117 [a0, a1] [(1, 117), (1, 104), (1, a0)] m28 o := h
            have h := CR_bipush h rfl rfl
            have h : MR X ρ 2 0 0 qP279 N 119 [a0, a1] [(1, 114), (1, 117), (1, 104), (1, a0)] m28 o := h
            have h := CR_bipush h rfl rfl
            have h : MR X ρ 2 0 0 qP279 N 121 [a0, a1] [(1, 116), (1, 114), (1, 117), (1, 104), (1, a0)] m28 o := h
            have h := CR_iconst h rfl rfl
            have h : MR X ρ 2 0 0 qP279 N 122 [a0, a1] [(1, 0), (1, 116), (1, 114), (1, 117), (1, 104), (1, a0)] m28 o := h
            have h := CR_iconst h rfl rfl
            have h : MR X ρ 2 0 0 qP279 N 123 [a0, a1] [(1, 0), (1, 0), (1, 116), (1, 114), (1, 117), (1, 104), (1, a0)] m28 o := h
            have h := CR_iconst h rfl rfl
            have h : MR X ρ 2 0 0 qP279 N 124 [a0, a1] [(1, 0), (1, 0), (1, 0), (1, 116), (1, 114), (1, 117), (1, 104), (1, a0)] m28 o := h
            obtain ⟨r56, m57, q58, h⟩ := MR_invS h rfl rfl
            have q58 : Run X ρ 278 [(1, 104), (1, 117), (1, 114), (1, 116), (1, 0), (1, 0), (1, 0)] m28 r56 m57 := q58
            obtain ⟨e59, e60⟩ := d278 q58
            rw [e59, e60] at h
            have h : MR X ρ 2 0 0 qP279 N 127 [a0, a1] [(2, f278 m28 104 117 114 116 0 0 0), (1, a0)] m28 o := h
            obtain ⟨r61, m62, q63, h⟩ := MR_invV h rfl rfl
            have q63 : Run X ρ 293 [(1, a0), (2, f278 m28 104 117 114 116 0 0 0)] m28 r61 m62 := q63
            obtain rfl := Run_v q63 rfl
            have h : MR X ρ 2 0 0 qP279 N 130 [a0, a1] [] m62 o := h
            refine ⟨m62, q63, ?_⟩
            have h := CR_aload_n h rfl
            have h : MR X ρ 2 0 0 qP279 N 131 [a0, a1] [(1, a0)] m62 o := h
            have h := CR_iload_n h rfl
            have h : MR X ρ 2 0 0 qP279 N 132 [a0, a1] [(1, a1), (1, a0)] m62 o := h
            have h := CR_iconst h rfl rfl
            have h : MR X ρ 2 0 0 qP279 N 133 [a0, a1] [(1, 2), (1, a1), (1, a0)] m62 o := h
            obtain ⟨r64, m65, q66, h⟩ := MR_invV h rfl rfl
            have q66 : Run X ρ 273 [(1, a0), (1, a1), (1, 2)] m62 r64 m65 := q66
            obtain ⟨e67, e68⟩ := d273 q66
            rw [e67, e68] at h
            have h : MR X ρ 2 0 0 qP279 N 136 [a0, a1] [(1, f273 m62 a0 a1 2)] m62 o := h
            have h := CR_iconst h rfl rfl
            have h : MR X ρ 2 0 0 qP279 N 137 [a0, a1] [(1, -1), (1, f273 m62 a0 a1 2)] m62 o := h
            rcases MR_icmp h rfl rfl with ⟨c69, h⟩ | ⟨c69, h⟩
            ·
              have c69 : ¬ ((f273 m62 a0 a1 2) = (-1)) := c69
              refine Or.inr ⟨c69, ?_⟩
              have h : MR X ρ 2 0 0 qP279 N 159 [a0, a1] [] m62 o := h
              have h := CR_aload_n h rfl
              have h : MR X ρ 2 0 0 qP279 N 160 [a0, a1] [(1, a0)] m62 o := h
              have h := CR_getf h rfl (by decide)
              have h : MR X ρ 2 0 0 qP279 N 163 [a0, a1] [(1, m62 a0 34)] m62 o := h
              exact CR_end h rfl rfl
            ·
              have c69 : (f273 m62 a0 a1 2) = (-1) := Decidable.of_not_not (show ¬ ¬ ((f273 m62 a0 a1 2) = (-1)) from c69)
              refine Or.inl ⟨c69, ?_⟩
              have h : MR X ρ 2 0 0 qP279 N 140 [a0, a1] [] m62 o := h
              have h := CR_aload_n h rfl
              have h : MR X ρ 2 0 0 qP279 N 141 [a0, a1] [(1, a0)] m62 o := h
              have h := CR_bipush h rfl rfl
              have h : MR X ρ 2 0 0 qP279 N 143 [a0, a1] [(1, 116), (1, a0)] m62 o := h
              have h := CR_bipush h rfl rfl
              have h : MR X ρ 2 0 0 qP279 N 145 [a0, a1] [(1, 104), (1, 116), (1, a0)] m62 o := h
              have h := CR_bipush h rfl rfl
              have h : MR X ρ 2 0 0 qP279 N 147 [a0, a1] [(1, 105), (1, 104), (1, 116), (1, a0)] m62 o := h
              have h := CR_bipush h rfl rfl
              have h : MR X ρ 2 0 0 qP279 N 149 [a0, a1] [(1, 114), (1, 105), (1, 104), (1, 116), (1, a0)] m62 o := h
              have h := CR_bipush h rfl rfl
              have h : MR X ρ 2 0 0 qP279 N 151 [a0, a1] [(1, 100), (1, 114), (1, 105), (1, 104), (1, 116), (1, a0)] m62 o := h
              have h := CR_iconst h rfl rfl
              have h : MR X ρ 2 0 0 qP279 N 152 [a0, a1] [(1, 0), (1, 100), (1, 114), (1, 105), (1, 104), (1, 116), (1, a0)] m62 o := h
              have h := CR_iconst h rfl rfl
              have h : MR X ρ 2 0 0 qP279 N 153 [a0, a1] [(1, 0), (1, 0), (1, 100), (1, 114), (1, 105), (1, 104), (1, 116), (1, a0)] m62 o := h
              obtain ⟨r70, m71, q72, h⟩ := MR_invS h rfl rfl
              have q72 : Run X ρ 278 [(1, 116), (1, 104), (1, 105), (1, 114), (1, 100), (1, 0), (1, 0)] m62 r70 m71 := q72
              obtain ⟨e73, e74⟩ := d278 q72
              rw [e73, e74] at h
              have h : MR X ρ 2 0 0 qP279 N 156 [a0, a1] [(2, f278 m62 116 104 105 114 100 0 0), (1, a0)] m62 o := h
              obtain ⟨r75, m76, q77, h⟩ := MR_invV h rfl rfl
              have q77 : Run X ρ 293 [(1, a0), (2, f278 m62 116 104 105 114 100 0 0)] m62 r75 m76 := q77
              obtain rfl := Run_v q77 rfl
              have h : MR X ρ 2 0 0 qP279 N 159 [a0, a1] [] m76 o := h
              refine ⟨m76, q77, ?_⟩
              have h := CR_aload_n h rfl
              have h : MR X ρ 2 0 0 qP279 N 160 [a0, a1] [(1, a0)] m76 o := h
              have h := CR_getf h rfl (by decide)
              have h : MR X ρ 2 0 0 qP279 N 163 [a0, a1] [(1, m76 a0 34)] m76 o := h
              exact CR_end h rfl rfl
        ·
          have c35 : (f273 m28 a0 a1 0) = (-1) := Decidable.of_not_not (show ¬ ¬ ((f273 m28 a0 a1 0) = (-1)) from c35)
          refine Or.inl ⟨c35, ?_⟩
          have h : MR X ρ 2 0 0 qP279 N 93 [a0, a1] [] m28 o := h
          have h := CR_aload_n h rfl
          have h : MR X ρ 2 0 0 qP279 N 94 [a0, a1] [(1, a0)] m28 o := h
          have h := CR_bipush h rfl rfl
          have h : MR X ρ 2 0 0 qP279 N 96 [a0, a1] [(1, 24), (1, a0)] m28 o := h
          obtain ⟨r78, m79, q80, h⟩ := MR_invS h rfl rfl
          have q80 : Run X ρ 291 [(1, 24)] m28 r78 m79 := q80
          obtain ⟨e81, e82⟩ := d291 q80
          rw [e81, e82] at h
          have h : MR X ρ 2 0 0 qP279 N 99 [a0, a1] [(2, f291 m28 24), (1, a0)] m28 o := h
          obtain ⟨r83, m84, q85, h⟩ := MR_invV h rfl rfl
          have q85 : Run X ρ 293 [(1, a0), (2, f291 m28 24)] m28 r83 m84 := q85
          obtain rfl := Run_v q85 rfl
          have h : MR X ρ 2 0 0 qP279 N 102 [a0, a1] [] m84 o := h
          refine ⟨m84, q85, ?_⟩
          have h := CR_aload_n h rfl
          have h : MR X ρ 2 0 0 qP279 N 103 [a0, a1] [(1, a0)] m84 o := h
          have h := CR_iload_n h rfl
          have h : MR X ρ 2 0 0 qP279 N 104 [a0, a1] [(1, a1), (1, a0)] m84 o := h
          have h := CR_iconst h rfl rfl
          have h : MR X ρ 2 0 0 qP279 N 105 [a0, a1] [(1, 1), (1, a1), (1, a0)] m84 o := h
          obtain ⟨r86, m87, q88, h⟩ := MR_invV h rfl rfl
          have q88 : Run X ρ 273 [(1, a0), (1, a1), (1, 1)] m84 r86 m87 := q88
          obtain ⟨e89, e90⟩ := d273 q88
          rw [e89, e90] at h
          have h : MR X ρ 2 0 0 qP279 N 108 [a0, a1] [(1, f273 m84 a0 a1 1)] m84 o := h
          have h := CR_iconst h rfl rfl
          have h : MR X ρ 2 0 0 qP279 N 109 [a0, a1] [(1, -1), (1, f273 m84 a0 a1 1)] m84 o := h
          rcases MR_icmp h rfl rfl with ⟨c91, h⟩ | ⟨c91, h⟩
          ·
            have c91 : ¬ ((f273 m84 a0 a1 1) = (-1)) := c91
            refine Or.inr ⟨c91, ?_⟩
            have h : MR X ρ 2 0 0 qP279 N 130 [a0, a1] [] m84 o := h
            have h := CR_aload_n h rfl
            have h : MR X ρ 2 0 0 qP279 N 131 [a0, a1] [(1, a0)] m84 o := h
            have h := CR_iload_n h rfl
            have h : MR X ρ 2 0 0 qP279 N 132 [a0, a1] [(1, a1), (1, a0)] m84 o := h
            have h := CR_iconst h rfl rfl
            have h : MR X ρ 2 0 0 qP279 N 133 [a0, a1] [(1, 2), (1, a1), (1, a0)] m84 o := h
            obtain ⟨r92, m93, q94, h⟩ := MR_invV h rfl rfl
            have q94 : Run X ρ 273 [(1, a0), (1, a1), (1, 2)] m84 r92 m93 := q94
            obtain ⟨e95, e96⟩ := d273 q94
            rw [e95, e96] at h
            have h : MR X ρ 2 0 0 qP279 N 136 [a0, a1] [(1, f273 m84 a0 a1 2)] m84 o := h
            have h := CR_iconst h rfl rfl
            have h : MR X ρ 2 0 0 qP279 N 137 [a0, a1] [(1, -1), (1, f273 m84 a0 a1 2)] m84 o := h
            rcases MR_icmp h rfl rfl with ⟨c97, h⟩ | ⟨c97, h⟩
            ·
              have c97 : ¬ ((f273 m84 a0 a1 2) = (-1)) := c97
              refine Or.inr ⟨c97, ?_⟩
              have h : MR X ρ 2 0 0 qP279 N 159 [a0, a1] [] m84 o := h
              have h := CR_aload_n h rfl
              have h : MR X ρ 2 0 0 qP279 N 160 [a0, a1] [(1, a0)] m84 o := h
              have h := CR_getf h rfl (by decide)
              have h : MR X ρ 2 0 0 qP279 N 163 [a0, a1] [(1, m84 a0 34)] m84 o := h
              exact CR_end h rfl rfl
            ·
              have c97 : (f273 m84 a0 a1 2) = (-1) := Decidable.of_not_not (show ¬ ¬ ((f273 m84 a0 a1 2) = (-1)) from c97)
              refine Or.inl ⟨c97, ?_⟩
              have h : MR X ρ 2 0 0 qP279 N 140 [a0, a1] [] m84 o := h
              have h := CR_aload_n h rfl
              have h : MR X ρ 2 0 0 qP279 N 141 [a0, a1] [(1, a0)] m84 o := h
              have h := CR_bipush h rfl rfl
              have h : MR X ρ 2 0 0 qP279 N 143 [a0, a1] [(1, 116), (1, a0)] m84 o := h
              have h := CR_bipush h rfl rfl
              have h : MR X ρ 2 0 0 qP279 N 145 [a0, a1] [(1, 104), (1, 116), (1, a0)] m84 o := h
              have h := CR_bipush h rfl rfl
              have h : MR X ρ 2 0 0 qP279 N 147 [a0, a1] [(1, 105), (1, 104), (1, 116), (1, a0)] m84 o := h
              have h := CR_bipush h rfl rfl
              have h : MR X ρ 2 0 0 qP279 N 149 [a0, a1] [(1, 114), (1, 105), (1, 104), (1, 116), (1, a0)] m84 o := h
              have h := CR_bipush h rfl rfl
              have h : MR X ρ 2 0 0 qP279 N 151 [a0, a1] [(1, 100), (1, 114), (1, 105), (1, 104), (1, 116), (1, a0)] m84 o := h
              have h := CR_iconst h rfl rfl
              have h : MR X ρ 2 0 0 qP279 N 152 [a0, a1] [(1, 0), (1, 100), (1, 114), (1, 105), (1, 104), (1, 116), (1, a0)] m84 o := h
              have h := CR_iconst h rfl rfl
              have h : MR X ρ 2 0 0 qP279 N 153 [a0, a1] [(1, 0), (1, 0), (1, 100), (1, 114), (1, 105), (1, 104), (1, 116), (1, a0)] m84 o := h
              obtain ⟨r98, m99, q100, h⟩ := MR_invS h rfl rfl
              have q100 : Run X ρ 278 [(1, 116), (1, 104), (1, 105), (1, 114), (1, 100), (1, 0), (1, 0)] m84 r98 m99 := q100
              obtain ⟨e101, e102⟩ := d278 q100
              rw [e101, e102] at h
              have h : MR X ρ 2 0 0 qP279 N 156 [a0, a1] [(2, f278 m84 116 104 105 114 100 0 0), (1, a0)] m84 o := h
              obtain ⟨r103, m104, q105, h⟩ := MR_invV h rfl rfl
              have q105 : Run X ρ 293 [(1, a0), (2, f278 m84 116 104 105 114 100 0 0)] m84 r103 m104 := q105
              obtain rfl := Run_v q105 rfl
              have h : MR X ρ 2 0 0 qP279 N 159 [a0, a1] [] m104 o := h
              refine ⟨m104, q105, ?_⟩
              have h := CR_aload_n h rfl
              have h : MR X ρ 2 0 0 qP279 N 160 [a0, a1] [(1, a0)] m104 o := h
              have h := CR_getf h rfl (by decide)
              have h : MR X ρ 2 0 0 qP279 N 163 [a0, a1] [(1, m104 a0 34)] m104 o := h
              exact CR_end h rfl rfl
          ·
            have c91 : (f273 m84 a0 a1 1) = (-1) := Decidable.of_not_not (show ¬ ¬ ((f273 m84 a0 a1 1) = (-1)) from c91)
            refine Or.inl ⟨c91, ?_⟩
            have h : MR X ρ 2 0 0 qP279 N 112 [a0, a1] [] m84 o := h
            have h := CR_aload_n h rfl
            have h : MR X ρ 2 0 0 qP279 N 113 [a0, a1] [(1, a0)] m84 o := h
            have h := CR_bipush h rfl rfl
            have h : MR X ρ 2 0 0 qP279 N 115 [a0, a1] [(1, 104), (1, a0)] m84 o := h
            have h := CR_bipush h rfl rfl
            have h : MR X ρ 2 0 0 qP279 N 117 [a0, a1] [(1, 117), (1, 104), (1, a0)] m84 o := h
            have h := CR_bipush h rfl rfl
            have h : MR X ρ 2 0 0 qP279 N 119 [a0, a1] [(1, 114), (1, 117), (1, 104), (1, a0)] m84 o := h
            have h := CR_bipush h rfl rfl
            have h : MR X ρ 2 0 0 qP279 N 121 [a0, a1] [(1, 116), (1, 114), (1, 117), (1, 104), (1, a0)] m84 o := h
            have h := CR_iconst h rfl rfl
            have h : MR X ρ 2 0 0 qP279 N 122 [a0, a1] [(1, 0), (1, 116), (1, 114), (1, 117), (1, 104), (1, a0)] m84 o := h
            have h := CR_iconst h rfl rfl
            have h : MR X ρ 2 0 0 qP279 N 123 [a0, a1] [(1, 0), (1, 0), (1, 116), (1, 114), (1, 117), (1, 104), (1, a0)] m84 o := h
            have h := CR_iconst h rfl rfl
            have h : MR X ρ 2 0 0 qP279 N 124 [a0, a1] [(1, 0), (1, 0), (1, 0), (1, 116), (1, 114), (1, 117), (1, 104), (1, a0)] m84 o := h
            obtain ⟨r106, m107, q108, h⟩ := MR_invS h rfl rfl
            have q108 : Run X ρ 278 [(1, 104), (1, 117), (1, 114), (1, 116), (1, 0), (1, 0), (1, 0)] m84 r106 m107 := q108
            obtain ⟨e109, e110⟩ := d278 q108
            rw [e109, e110] at h
            have h : MR X ρ 2 0 0 qP279 N 127 [a0, a1] [(2, f278 m84 104 117 114 116 0 0 0), (1, a0)] m84 o := h
            obtain ⟨r111, m112, q113, h⟩ := MR_invV h rfl rfl
            have q113 : Run X ρ 293 [(1, a0), (2, f278 m84 104 117 114 116 0 0 0)] m84 r111 m112 := q113
            obtain rfl := Run_v q113 rfl
            have h : MR X ρ 2 0 0 qP279 N 130 [a0, a1] [] m112 o := h
            refine ⟨m112, q113, ?_⟩
            have h := CR_aload_n h rfl
            have h : MR X ρ 2 0 0 qP279 N 131 [a0, a1] [(1, a0)] m112 o := h
            have h := CR_iload_n h rfl
            have h : MR X ρ 2 0 0 qP279 N 132 [a0, a1] [(1, a1), (1, a0)] m112 o := h
            have h := CR_iconst h rfl rfl
            have h : MR X ρ 2 0 0 qP279 N 133 [a0, a1] [(1, 2), (1, a1), (1, a0)] m112 o := h
            obtain ⟨r114, m115, q116, h⟩ := MR_invV h rfl rfl
            have q116 : Run X ρ 273 [(1, a0), (1, a1), (1, 2)] m112 r114 m115 := q116
            obtain ⟨e117, e118⟩ := d273 q116
            rw [e117, e118] at h
            have h : MR X ρ 2 0 0 qP279 N 136 [a0, a1] [(1, f273 m112 a0 a1 2)] m112 o := h
            have h := CR_iconst h rfl rfl
            have h : MR X ρ 2 0 0 qP279 N 137 [a0, a1] [(1, -1), (1, f273 m112 a0 a1 2)] m112 o := h
            rcases MR_icmp h rfl rfl with ⟨c119, h⟩ | ⟨c119, h⟩
            ·
              have c119 : ¬ ((f273 m112 a0 a1 2) = (-1)) := c119
              refine Or.inr ⟨c119, ?_⟩
              have h : MR X ρ 2 0 0 qP279 N 159 [a0, a1] [] m112 o := h
              have h := CR_aload_n h rfl
              have h : MR X ρ 2 0 0 qP279 N 160 [a0, a1] [(1, a0)] m112 o := h
              have h := CR_getf h rfl (by decide)
              have h : MR X ρ 2 0 0 qP279 N 163 [a0, a1] [(1, m112 a0 34)] m112 o := h
              exact CR_end h rfl rfl
            ·
              have c119 : (f273 m112 a0 a1 2) = (-1) := Decidable.of_not_not (show ¬ ¬ ((f273 m112 a0 a1 2) = (-1)) from c119)
              refine Or.inl ⟨c119, ?_⟩
              have h : MR X ρ 2 0 0 qP279 N 140 [a0, a1] [] m112 o := h
              have h := CR_aload_n h rfl
              have h : MR X ρ 2 0 0 qP279 N 141 [a0, a1] [(1, a0)] m112 o := h
              have h := CR_bipush h rfl rfl
              have h : MR X ρ 2 0 0 qP279 N 143 [a0, a1] [(1, 116), (1, a0)] m112 o := h
              have h := CR_bipush h rfl rfl
              have h : MR X ρ 2 0 0 qP279 N 145 [a0, a1] [(1, 104), (1, 116), (1, a0)] m112 o := h
              have h := CR_bipush h rfl rfl
              have h : MR X ρ 2 0 0 qP279 N 147 [a0, a1] [(1, 105), (1, 104), (1, 116), (1, a0)] m112 o := h
              have h := CR_bipush h rfl rfl
              have h : MR X ρ 2 0 0 qP279 N 149 [a0, a1] [(1, 114), (1, 105), (1, 104), (1, 116), (1, a0)] m112 o := h
              have h := CR_bipush h rfl rfl
              have h : MR X ρ 2 0 0 qP279 N 151 [a0, a1] [(1, 100), (1, 114), (1, 105), (1, 104), (1, 116), (1, a0)] m112 o := h
              have h := CR_iconst h rfl rfl
              have h : MR X ρ 2 0 0 qP279 N 152 [a0, a1] [(1, 0), (1, 100), (1, 114), (1, 105), (1, 104), (1, 116), (1, a0)] m112 o := h
              have h := CR_iconst h rfl rfl
              have h : MR X ρ 2 0 0 qP279 N 153 [a0, a1] [(1, 0), (1, 0), (1, 100), (1, 114), (1, 105), (1, 104), (1, 116), (1, a0)] m112 o := h
              obtain ⟨r120, m121, q122, h⟩ := MR_invS h rfl rfl
              have q122 : Run X ρ 278 [(1, 116), (1, 104), (1, 105), (1, 114), (1, 100), (1, 0), (1, 0)] m112 r120 m121 := q122
              obtain ⟨e123, e124⟩ := d278 q122
              rw [e123, e124] at h
              have h : MR X ρ 2 0 0 qP279 N 156 [a0, a1] [(2, f278 m112 116 104 105 114 100 0 0), (1, a0)] m112 o := h
              obtain ⟨r125, m126, q127, h⟩ := MR_invV h rfl rfl
              have q127 : Run X ρ 293 [(1, a0), (2, f278 m112 116 104 105 114 100 0 0)] m112 r125 m126 := q127
              obtain rfl := Run_v q127 rfl
              have h : MR X ρ 2 0 0 qP279 N 159 [a0, a1] [] m126 o := h
              refine ⟨m126, q127, ?_⟩
              have h := CR_aload_n h rfl
              have h : MR X ρ 2 0 0 qP279 N 160 [a0, a1] [(1, a0)] m126 o := h
              have h := CR_getf h rfl (by decide)
              have h : MR X ρ 2 0 0 qP279 N 163 [a0, a1] [(1, m126 a0 34)] m126 o := h
              exact CR_end h rfl rfl
      ·
        have c21 : ¬ ((f206 m10 a0 a1) = 0) := c21
        refine Or.inr ⟨c21, ?_⟩
        have h : MR X ρ 2 0 0 qP279 N 54 [a0, a1] [] m10 o := h
        have h := CR_aload_n h rfl
        have h : MR X ρ 2 0 0 qP279 N 55 [a0, a1] [(1, a0)] m10 o := h
        have h := CR_iload_n h rfl
        have h : MR X ρ 2 0 0 qP279 N 56 [a0, a1] [(1, a1), (1, a0)] m10 o := h
        obtain ⟨r128, m129, q130, h⟩ := MR_invV h rfl rfl
        have q130 : Run X ρ 294 [(1, a0), (1, a1)] m10 r128 m129 := q130
        obtain rfl := Run_v q130 rfl
        have h : MR X ρ 2 0 0 qP279 N 59 [a0, a1] [] m129 o := h
        refine ⟨m129, q130, ?_⟩
        have h := CR_aload_n h rfl
        have h : MR X ρ 2 0 0 qP279 N 60 [a0, a1] [(1, a0)] m129 o := h
        have h := CR_getf h rfl (by decide)
        have h : MR X ρ 2 0 0 qP279 N 63 [a0, a1] [(1, m129 a0 34)] m129 o := h
        exact CR_end h rfl rfl
  ·
    have c7 : (f208 y1 a0 a1) = 0 := Decidable.of_not_not (show ¬ ¬ ((f208 y1 a0 a1) = 0) from c7)
    refine Or.inl ⟨c7, ?_⟩
    have h : MR X ρ 2 0 0 qP279 N 13 [a0, a1] [] y1 o := h
    have h := CR_iconst h rfl rfl
    have h : MR X ρ 2 0 0 qP279 N 14 [a0, a1] [(1, -1)] y1 o := h
    exact CR_end h rfl rfl
