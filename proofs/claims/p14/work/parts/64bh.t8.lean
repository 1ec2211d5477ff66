set_option maxRecDepth 16384 in
theorem k46_0 {X : KO} {ρ : Nat → Int32} {m : MM} {N : Nat} {o : Instr × List (Nat × Int) × MM} {a0 a1 : Int} (h : MR X ρ 2 0 0 qP46 N 0 [a0, a1] [] m o) : (∃ y1, y1 = mu m a0 3 (s32 ((m a0 3) + 1)) ∧ (∃ v5 m3, Run X ρ 160 [(1, a1), (1, 59)] y1 [(1, v5)] m3 ∧ (v5 = 0 ∨ v5 = 1) ∧ (o = (.ireturn, [(1, v5)], m3)))) := by
  have h := CR_aload_n h rfl
  have h : MR X ρ 2 0 0 qP46 N 1 [a0, a1] [(1, a0)] m o := h
  have h := CR_dup h rfl
  have h : MR X ρ 2 0 0 qP46 N 2 [a0, a1] [(1, a0), (1, a0)] m o := h
  have h := CR_getf h rfl (by decide)
  have h : MR X ρ 2 0 0 qP46 N 5 [a0, a1] [(1, m a0 3), (1, a0)] m o := h
  have h := CR_iconst h rfl rfl
  have h : MR X ρ 2 0 0 qP46 N 6 [a0, a1] [(1, 1), (1, m a0 3), (1, a0)] m o := h
  have h := CR_iadd h rfl
  have h : MR X ρ 2 0 0 qP46 N 7 [a0, a1] [(1, s32 ((m a0 3) + 1)), (1, a0)] m o := h
  have h := CR_putf h rfl
  have h : MR X ρ 2 0 0 qP46 N 10 [a0, a1] [] (mu m a0 3 (s32 ((m a0 3) + 1))) o := h
  obtain ⟨y1, zy1, h⟩ : ∃ y, y = mu m a0 3 (s32 ((m a0 3) + 1)) ∧ MR X ρ 2 0 0 qP46 N 10 [a0, a1] [] y o := ⟨_, rfl, h⟩
  have h : MR X ρ 2 0 0 qP46 N 10 [a0, a1] [] y1 o := h
  refine ⟨y1, zy1, ?_⟩
  have h := CR_aload_n h rfl
  have h : MR X ρ 2 0 0 qP46 N 11 [a0, a1] [(1, a1)] y1 o := h
  have h := CR_bipush h rfl rfl
  have h : MR X ρ 2 0 0 qP46 N 13 [a0, a1] [(1, 59), (1, a1)] y1 o := h
  obtain ⟨r2, m3, q4, h⟩ := MR_invV h rfl rfl
  have q4 : Run X ρ 160 [(1, a1), (1, 59)] y1 r2 m3 := q4
  obtain ⟨v5, rfl, zv5⟩ := Run_z q4 rfl
  have h : MR X ρ 2 0 0 qP46 N 16 [a0, a1] [(1, v5)] m3 o := h
  refine ⟨v5, m3, q4, zv5, ?_⟩
  exact CR_end h rfl rfl
set_option maxRecDepth 16384 in
theorem k50_0 {X : KO} {ρ : Nat → Int32} {m : MM} {N : Nat} {o : Instr × List (Nat × Int) × MM} {a0 a1 : Int} (h : MR X ρ 3 0 0 qP50 N 0 [a0, a1, 0] [] m o) : (∃ y6, y6 = g156 m a1 1 60 ∧ ((((f156 m a1 1 60) = (-1)) ∧ (o = (.ireturn, [(1, 0)], y6))) ∨ (¬ ((f156 m a1 1 60) = (-1)) ∧ (∃ y13, y13 = g48 y6 a0 (y6 a0 1) (f156 m a1 1 60) ∧ (∃ m15, Run X ρ 148 [(1, a1)] y13 [] m15 ∧ (o = (.ireturn, [(1, 1)], m15))))))) := by
  have h := CR_aload_n h rfl
  have h : MR X ρ 3 0 0 qP50 N 1 [a0, a1, 0] [(1, a1)] m o := h
  have h := CR_iconst h rfl rfl
  have h : MR X ρ 3 0 0 qP50 N 2 [a0, a1, 0] [(1, 1), (1, a1)] m o := h
  have h := CR_bipush h rfl rfl
  have h : MR X ρ 3 0 0 qP50 N 4 [a0, a1, 0] [(1, 60), (1, 1), (1, a1)] m o := h
  obtain ⟨r1, m2, q3, h⟩ := MR_invV h rfl rfl
  have q3 : Run X ρ 156 [(1, a1), (1, 1), (1, 60)] m r1 m2 := q3
  obtain ⟨e4, e5⟩ := d156 q3
  rw [e4, e5] at h
  have h : MR X ρ 3 0 0 qP50 N 7 [a0, a1, 0] [(1, f156 m a1 1 60)] (g156 m a1 1 60) o := h
  obtain ⟨y6, zy6, h⟩ : ∃ y, y = g156 m a1 1 60 ∧ MR X ρ 3 0 0 qP50 N 7 [a0, a1, 0] [(1, f156 m a1 1 60)] y o := ⟨_, rfl, h⟩
  have h : MR X ρ 3 0 0 qP50 N 7 [a0, a1, 0] [(1, f156 m a1 1 60)] y6 o := h
  refine ⟨y6, zy6, ?_⟩
  have h := CR_istore_n h rfl (Nat.le_of_ble_eq_true rfl)
  have h : MR X ρ 3 0 0 qP50 N 8 [a0, a1, f156 m a1 1 60] [] y6 o := h
  have h := CR_iload_n h rfl
  have h : MR X ρ 3 0 0 qP50 N 9 [a0, a1, f156 m a1 1 60] [(1, f156 m a1 1 60)] y6 o := h
  have h := CR_iconst h rfl rfl
  have h : MR X ρ 3 0 0 qP50 N 10 [a0, a1, f156 m a1 1 60] [(1, -1), (1, f156 m a1 1 60)] y6 o := h
  rcases MR_icmp h rfl rfl with ⟨c7, h⟩ | ⟨c7, h⟩
  ·
    have c7 : ¬ ((f156 m a1 1 60) = (-1)) := c7
    refine Or.inr ⟨c7, ?_⟩
    have h : MR X ρ 3 0 0 qP50 N 15 [a0, a1, f156 m a1 1 60] [] y6 o := h
    have h := CR_aload_n h rfl
    have h : MR X ρ 3 0 0 qP50 N 16 [a0, a1, f156 m a1 1 60] [(1, a0)] y6 o := h
    have h := CR_aload_n h rfl
    have h : MR X ρ 3 0 0 qP50 N 17 [a0, a1, f156 m a1 1 60] [(1, a0), (1, a0)] y6 o := h
    have h := CR_getf h rfl (by decide)
    have h : MR X ρ 3 0 0 qP50 N 20 [a0, a1, f156 m a1 1 60] [(1, y6 a0 1), (1, a0)] y6 o := h
    have h := CR_iload_n h rfl
    have h : MR X ρ 3 0 0 qP50 N 21 [a0, a1, f156 m a1 1 60] [(1, f156 m a1 1 60), (1, y6 a0 1), (1, a0)] y6 o := h
    obtain ⟨r8, m9, q10, h⟩ := MR_invV h rfl rfl
    have q10 : Run X ρ 48 [(1, a0), (1, y6 a0 1), (1, f156 m a1 1 60)] y6 r8 m9 := q10
    obtain ⟨e11, e12⟩ := d48 q10
    rw [e11, e12] at h
    have h : MR X ρ 3 0 0 qP50 N 24 [a0, a1, f156 m a1 1 60] [] (g48 y6 a0 (y6 a0 1) (f156 m a1 1 60)) o := h
    obtain ⟨y13, zy13, h⟩ : ∃ y, y = g48 y6 a0 (y6 a0 1) (f156 m a1 1 60) ∧ MR X ρ 3 0 0 qP50 N 24 [a0, a1, f156 m a1 1 60] [] y o := ⟨_, rfl, h⟩
    have h : MR X ρ 3 0 0 qP50 N 24 [a0, a1, f156 m a1 1 60] [] y13 o := h
    refine ⟨y13, zy13, ?_⟩
    have h := CR_aload_n h rfl
    have h : MR X ρ 3 0 0 qP50 N 25 [a0, a1, f156 m a1 1 60] [(1, a1)] y13 o := h
    obtain ⟨r14, m15, q16, h⟩ := MR_invV h rfl rfl
    have q16 : Run X ρ 148 [(1, a1)] y13 r14 m15 := q16
    obtain rfl := Run_v q16 rfl
    have h : MR X ρ 3 0 0 qP50 N 28 [a0, a1, f156 m a1 1 60] [] m15 o := h
    refine ⟨m15, q16, ?_⟩
    have h := CR_iconst h rfl rfl
    have h : MR X ρ 3 0 0 qP50 N 29 [a0, a1, f156 m a1 1 60] [(1, 1)] m15 o := h
    exact CR_end h rfl rfl
  ·
    have c7 : (f156 m a1 1 60) = (-1) := Decidable.of_not_not (show ¬ ¬ ((f156 m a1 1 60) = (-1)) from c7)
    refine Or.inl ⟨c7, ?_⟩
    have h : MR X ρ 3 0 0 qP50 N 13 [a0, a1, f156 m a1 1 60] [] y6 o := h
    have h := CR_iconst h rfl rfl
    have h : MR X ρ 3 0 0 qP50 N 14 [a0, a1, f156 m a1 1 60] [(1, 0)] y6 o := h
    exact CR_end h rfl rfl
set_option maxRecDepth 16384 in
theorem k52_0 {X : KO} {ρ : Nat → Int32} {m : MM} {N : Nat} {o : Instr × List (Nat × Int) × MM} {a0 a1 a2 a3 : Int} (h : MR X ρ 5 0 0 qP52 N 0 [a0, a1, a2, a3, 0] [] m o) : (∃ v4 m2, Run X ρ 71 [(1, a2), (1, a1)] m [(1, v4)] m2 ∧ (((v4 = (-1)) ∧ (o = (.ireturn, [(1, 0)], m2))) ∨ (¬ (v4 = (-1)) ∧ (∃ y11, y11 = g48 m2 a0 a3 v4 ∧ (∃ m13, Run X ρ 148 [(1, a1)] y11 [] m13 ∧ (o = (.ireturn, [(1, 1)], m13))))))) := by
  have h := CR_aload_n h rfl
  have h : MR X ρ 5 0 0 qP52 N 1 [a0, a1, a2, a3, 0] [(1, a2)] m o := h
  have h := CR_aload_n h rfl
  have h : MR X ρ 5 0 0 qP52 N 2 [a0, a1, a2, a3, 0] [(1, a1), (1, a2)] m o := h
  obtain ⟨r1, m2, q3, h⟩ := MR_invV h rfl rfl
  have q3 : Run X ρ 71 [(1, a2), (1, a1)] m r1 m2 := q3
  obtain ⟨v4, rfl⟩ := Run_i q3 rfl
  have h : MR X ρ 5 0 0 qP52 N 5 [a0, a1, a2, a3, 0] [(1, v4)] m2 o := h
  refine ⟨v4, m2, q3, ?_⟩
  have h := CR_istore h rfl (Nat.le_of_ble_eq_true rfl)
  have h : MR X ρ 5 0 0 qP52 N 7 [a0, a1, a2, a3, v4] [] m2 o := h
  have h := CR_iload h rfl
  have h : MR X ρ 5 0 0 qP52 N 9 [a0, a1, a2, a3, v4] [(1, v4)] m2 o := h
  have h := CR_iconst h rfl rfl
  have h : MR X ρ 5 0 0 qP52 N 10 [a0, a1, a2, a3, v4] [(1, -1), (1, v4)] m2 o := h
  rcases MR_icmp h rfl rfl with ⟨c5, h⟩ | ⟨c5, h⟩
  ·
    have c5 : ¬ (v4 = (-1)) := c5
    refine Or.inr ⟨c5, ?_⟩
    have h : MR X ρ 5 0 0 qP52 N 15 [a0, a1, a2, a3, v4] [] m2 o := h
    have h := CR_aload_n h rfl
    have h : MR X ρ 5 0 0 qP52 N 16 [a0, a1, a2, a3, v4] [(1, a0)] m2 o := h
    have h := CR_aload_n h rfl
    have h : MR X ρ 5 0 0 qP52 N 17 [a0, a1, a2, a3, v4] [(1, a3), (1, a0)] m2 o := h
    have h := CR_iload h rfl
    have h : MR X ρ 5 0 0 qP52 N 19 [a0, a1, a2, a3, v4] [(1, v4), (1, a3), (1, a0)] m2 o := h
    obtain ⟨r6, m7, q8, h⟩ := MR_invV h rfl rfl
    have q8 : Run X ρ 48 [(1, a0), (1, a3), (1, v4)] m2 r6 m7 := q8
    obtain ⟨e9, e10⟩ := d48 q8
    rw [e9, e10] at h
    have h : MR X ρ 5 0 0 qP52 N 22 [a0, a1, a2, a3, v4] [] (g48 m2 a0 a3 v4) o := h
    obtain ⟨y11, zy11, h⟩ : ∃ y, y = g48 m2 a0 a3 v4 ∧ MR X ρ 5 0 0 qP52 N 22 [a0, a1, a2, a3, v4] [] y o := ⟨_, rfl, h⟩
    have h : MR X ρ 5 0 0 qP52 N 22 [a0, a1, a2, a3, v4] [] y11 o := h
    refine ⟨y11, zy11, ?_⟩
    have h := CR_aload_n h rfl
    have h : MR X ρ 5 0 0 qP52 N 23 [a0, a1, a2, a3, v4] [(1, a1)] y11 o := h
    obtain ⟨r12, m13, q14, h⟩ := MR_invV h rfl rfl
    have q14 : Run X ρ 148 [(1, a1)] y11 r12 m13 := q14
    obtain rfl := Run_v q14 rfl
    have h : MR X ρ 5 0 0 qP52 N 26 [a0, a1, a2, a3, v4] [] m13 o := h
    refine ⟨m13, q14, ?_⟩
    have h := CR_iconst h rfl rfl
    have h : MR X ρ 5 0 0 qP52 N 27 [a0, a1, a2, a3, v4] [(1, 1)] m13 o := h
    exact CR_end h rfl rfl
  ·
    have c5 : v4 = (-1) := Decidable.of_not_not (show ¬ ¬ (v4 = (-1)) from c5)
    refine Or.inl ⟨c5, ?_⟩
    have h : MR X ρ 5 0 0 qP52 N 13 [a0, a1, a2, a3, v4] [] m2 o := h
    have h := CR_iconst h rfl rfl
    have h : MR X ρ 5 0 0 qP52 N 14 [a0, a1, a2, a3, v4] [(1, 0)] m2 o := h
    exact CR_end h rfl rfl
set_option maxRecDepth 16384 in
theorem k54_0 {X : KO} {ρ : Nat → Int32} {m : MM} {N : Nat} {o : Instr × List (Nat × Int) × MM} {a0 a1 a2 a3 : Int} (h : MR X ρ 5 0 0 qP54 N 0 [a0, a1, a2, a3, 0] [] m o) : (∃ v4 m2, Run X ρ 76 [(1, a2), (1, a1)] m [(1, v4)] m2 ∧ (((v4 = (-1)) ∧ (o = (.ireturn, [(1, 0)], m2))) ∨ (¬ (v4 = (-1)) ∧ (∃ y11, y11 = g48 m2 a0 a3 v4 ∧ (∃ m13, Run X ρ 148 [(1, a1)] y11 [] m13 ∧ (o = (.ireturn, [(1, 1)], m13))))))) := by
  have h := CR_aload_n h rfl
  have h : MR X ρ 5 0 0 qP54 N 1 [a0, a1, a2, a3, 0] [(1, a2)] m o := h
  have h := CR_aload_n h rfl
  have h : MR X ρ 5 0 0 qP54 N 2 [a0, a1, a2, a3, 0] [(1, a1), (1, a2)] m o := h
  obtain ⟨r1, m2, q3, h⟩ := MR_invV h rfl rfl
  have q3 : Run X ρ 76 [(1, a2), (1, a1)] m r1 m2 := q3
  obtain ⟨v4, rfl⟩ := Run_i q3 rfl
  have h : MR X ρ 5 0 0 qP54 N 5 [a0, a1, a2, a3, 0] [(1, v4)] m2 o := h
  refine ⟨v4, m2, q3, ?_⟩
  have h := CR_istore h rfl (Nat.le_of_ble_eq_true rfl)
  have h : MR X ρ 5 0 0 qP54 N 7 [a0, a1, a2, a3, v4] [] m2 o := h
  have h := CR_iload h rfl
  have h : MR X ρ 5 0 0 qP54 N 9 [a0, a1, a2, a3, v4] [(1, v4)] m2 o := h
  have h := CR_iconst h rfl rfl
  have h : MR X ρ 5 0 0 qP54 N 10 [a0, a1, a2, a3, v4] [(1, -1), (1, v4)] m2 o := h
  rcases MR_icmp h rfl rfl with ⟨c5, h⟩ | ⟨c5, h⟩
  ·
    have c5 : ¬ (v4 = (-1)) := c5
    refine Or.inr ⟨c5, ?_⟩
    have h : MR X ρ 5 0 0 qP54 N 15 [a0, a1, a2, a3, v4] [] m2 o := h
    have h := CR_aload_n h rfl
    have h : MR X ρ 5 0 0 qP54 N 16 [a0, a1, a2, a3, v4] [(1, a0)] m2 o := h
    have h := CR_aload_n h rfl
    have h : MR X ρ 5 0 0 qP54 N 17 [a0, a1, a2, a3, v4] [(1, a3), (1, a0)] m2 o := h
    have h := CR_iload h rfl
    have h : MR X ρ 5 0 0 qP54 N 19 [a0, a1, a2, a3, v4] [(1, v4), (1, a3), (1, a0)] m2 o := h
    obtain ⟨r6, m7, q8, h⟩ := MR_invV h rfl rfl
    have q8 : Run X ρ 48 [(1, a0), (1, a3), (1, v4)] m2 r6 m7 := q8
    obtain ⟨e9, e10⟩ := d48 q8
    rw [e9, e10] at h
    have h : MR X ρ 5 0 0 qP54 N 22 [a0, a1, a2, a3, v4] [] (g48 m2 a0 a3 v4) o := h
    obtain ⟨y11, zy11, h⟩ : ∃ y, y = g48 m2 a0 a3 v4 ∧ MR X ρ 5 0 0 qP54 N 22 [a0, a1, a2, a3, v4] [] y o := ⟨_, rfl, h⟩
    have h : MR X ρ 5 0 0 qP54 N 22 [a0, a1, a2, a3, v4] [] y11 o := h
    refine ⟨y11, zy11, ?_⟩
    have h := CR_aload_n h rfl
    have h : MR X ρ 5 0 0 qP54 N 23 [a0, a1, a2, a3, v4] [(1, a1)] y11 o := h
    obtain ⟨r12, m13, q14, h⟩ := MR_invV h rfl rfl
    have q14 : Run X ρ 148 [(1, a1)] y11 r12 m13 := q14
    obtain rfl := Run_v q14 rfl
    have h : MR X ρ 5 0 0 qP54 N 26 [a0, a1, a2, a3, v4] [] m13 o := h
    refine ⟨m13, q14, ?_⟩
    have h := CR_iconst h rfl rfl
    have h : MR X ρ 5 0 0 qP54 N 27 [a0, a1, a2, a3, v4] [(1, 1)] m13 o := h
    exact CR_end h rfl rfl
  ·
    have c5 : v4 = (-1) := Decidable.of_not_not (show ¬ ¬ (v4 = (-1)) from c5)
    refine Or.inl ⟨c5, ?_⟩
    have h : MR X ρ 5 0 0 qP54 N 13 [a0, a1, a2, a3, v4] [] m2 o := h
    have h := CR_iconst h rfl rfl
    have h : MR X ρ 5 0 0 qP54 N 14 [a0, a1, a2, a3, v4] [(1, 0)] m2 o := h
    exact CR_end h rfl rfl
set_option maxRecDepth 16384 in
theorem k56_0 {X : KO} {ρ : Nat → Int32} {m : MM} {N : Nat} {o : Instr × List (Nat × Int) × MM} {a0 a1 a2 : Int} (h : MR X ρ 3 0 0 qP56 N 0 [a0, a1, a2] [] m o) : (∃ y6, y6 = g48 m a0 (m a0 0) a2 ∧ (∃ m8, Run X ρ 148 [(1, a1)] y6 [] m8 ∧ (o = (.ireturn, [(1, 1)], m8)))) := by
  have h := CR_aload_n h rfl
  have h : MR X ρ 3 0 0 qP56 N 1 [a0, a1, a2] [(1, a0)] m o := h
  have h := CR_aload_n h rfl
  have h : MR X ρ 3 0 0 qP56 N 2 [a0, a1, a2] [(1, a0), (1, a0)] m o := h
  have h := CR_getf h rfl (by decide)
  have h : MR X ρ 3 0 0 qP56 N 5 [a0, a1, a2] [(1, m a0 0), (1, a0)] m o := h
  have h := CR_iload_n h rfl
  have h : MR X ρ 3 0 0 qP56 N 6 [a0, a1, a2] [(1, a2), (1, m a0 0), (1, a0)] m o := h
  obtain ⟨r1, m2, q3, h⟩ := MR_invV h rfl rfl
  have q3 : Run X ρ 48 [(1, a0), (1, m a0 0), (1, a2)] m r1 m2 := q3
  obtain ⟨e4, e5⟩ := d48 q3
  rw [e4, e5] at h
  have h : MR X ρ 3 0 0 qP56 N 9 [a0, a1, a2] [] (g48 m a0 (m a0 0) a2) o := h
  obtain ⟨y6, zy6, h⟩ : ∃ y, y = g48 m a0 (m a0 0) a2 ∧ MR X ρ 3 0 0 qP56 N 9 [a0, a1, a2] [] y o := ⟨_, rfl, h⟩
  have h : MR X ρ 3 0 0 qP56 N 9 [a0, a1, a2] [] y6 o := h
  refine ⟨y6, zy6, ?_⟩
  have h := CR_aload_n h rfl
  have h : MR X ρ 3 0 0 qP56 N 10 [a0, a1, a2] [(1, a1)] y6 o := h
  obtain ⟨r7, m8, q9, h⟩ := MR_invV h rfl rfl
  have q9 : Run X ρ 148 [(1, a1)] y6 r7 m8 := q9
  obtain rfl := Run_v q9 rfl
  have h : MR X ρ 3 0 0 qP56 N 13 [a0, a1, a2] [] m8 o := h
  refine ⟨m8, q9, ?_⟩
  have h := CR_iconst h rfl rfl
  have h : MR X ρ 3 0 0 qP56 N 14 [a0, a1, a2] [(1, 1)] m8 o := h
  exact CR_end h rfl rfl
set_option maxRecDepth 16384 in
theorem k45_0 {X : KO} {ρ : Nat → Int32} {m : MM} {N : Nat} {o : Instr × List (Nat × Int) × MM} {a0 a1 a2 : Int} (h : MR X ρ 3 0 0 qP45 N 0 [a0, a1, a2] [] m o) : ((((m a0 3) < 0) ∧ (∃ y7, y7 = g158 m a1 4 ∧ (o = (.ireturn, [(1, f158 m a1 4)], y7)))) ∨ (¬ ((m a0 3) < 0) ∧ ((((m a0 3) < 40) ∧ (∃ y9, y9 = mu m (m a0 0) (m a0 3) (s32 a2) ∧ (∃ y10, y10 = mu y9 (y9 a0 2) (y9 a0 3) (s32 0) ∧ (∃ m12, Run X ρ 148 [(1, a1)] y10 [] m12 ∧ (o = (.ireturn, [(1, 1)], m12)))))) ∨ (¬ ((m a0 3) < 40) ∧ (∃ y19, y19 = g158 m a1 4 ∧ (o = (.ireturn, [(1, f158 m a1 4)], y19))))))) := by
  have h := CR_aload_n h rfl
  have h : MR X ρ 3 0 0 qP45 N 1 [a0, a1, a2] [(1, a0)] m o := h
  have h := CR_getf h rfl (by decide)
  have h : MR X ρ 3 0 0 qP45 N 4 [a0, a1, a2] [(1, m a0 3)] m o := h
  rcases MR_if h rfl rfl with ⟨c1, h⟩ | ⟨c1, h⟩
  ·
    have c1 : (m a0 3) < 0 := c1
    refine Or.inl ⟨c1, ?_⟩
    have h : MR X ρ 3 0 0 qP45 N 16 [a0, a1, a2] [] m o := h
    have h := CR_aload_n h rfl
    have h : MR X ρ 3 0 0 qP45 N 17 [a0, a1, a2] [(1, a1)] m o := h
    have h := CR_iconst h rfl rfl
    have h : MR X ρ 3 0 0 qP45 N 18 [a0, a1, a2] [(1, 4), (1, a1)] m o := h
    obtain ⟨r2, m3, q4, h⟩ := MR_invV h rfl rfl
    have q4 : Run X ρ 158 [(1, a1), (1, 4)] m r2 m3 := q4
    obtain ⟨e5, e6⟩ := d158 q4
    rw [e5, e6] at h
    have h : MR X ρ 3 0 0 qP45 N 21 [a0, a1, a2] [(1, f158 m a1 4)] (g158 m a1 4) o := h
    obtain ⟨y7, zy7, h⟩ : ∃ y, y = g158 m a1 4 ∧ MR X ρ 3 0 0 qP45 N 21 [a0, a1, a2] [(1, f158 m a1 4)] y o := ⟨_, rfl, h⟩
    have h : MR X ρ 3 0 0 qP45 N 21 [a0, a1, a2] [(1, f158 m a1 4)] y7 o := h
    refine ⟨y7, zy7, ?_⟩
    exact CR_end h rfl rfl
  ·
    have c1 : ¬ ((m a0 3) < 0) := c1
    refine Or.inr ⟨c1, ?_⟩
    have h : MR X ρ 3 0 0 qP45 N 7 [a0, a1, a2] [] m o := h
    have h := CR_aload_n h rfl
    have h : MR X ρ 3 0 0 qP45 N 8 [a0, a1, a2] [(1, a0)] m o := h
    have h := CR_getf h rfl (by decide)
    have h : MR X ρ 3 0 0 qP45 N 11 [a0, a1, a2] [(1, m a0 3)] m o := h
    have h := CR_bipush h rfl rfl
    have h : MR X ρ 3 0 0 qP45 N 13 [a0, a1, a2] [(1, 40), (1, m a0 3)] m o := h
    rcases MR_icmp h rfl rfl with ⟨c8, h⟩ | ⟨c8, h⟩
    ·
      have c8 : (m a0 3) < 40 := c8
      refine Or.inl ⟨c8, ?_⟩
      have h : MR X ρ 3 0 0 qP45 N 22 [a0, a1, a2] [] m o := h
      have h := CR_aload_n h rfl
      have h : MR X ρ 3 0 0 qP45 N 23 [a0, a1, a2] [(1, a0)] m o := h
      have h := CR_getf h rfl (by decide)
      have h : MR X ρ 3 0 0 qP45 N 26 [a0, a1, a2] [(1, m a0 0)] m o := h
      have h := CR_aload_n h rfl
      have h : MR X ρ 3 0 0 qP45 N 27 [a0, a1, a2] [(1, a0), (1, m a0 0)] m o := h
      have h := CR_getf h rfl (by decide)
      have h : MR X ρ 3 0 0 qP45 N 30 [a0, a1, a2] [(1, m a0 3), (1, m a0 0)] m o := h
      have h := CR_iload_n h rfl
      have h : MR X ρ 3 0 0 qP45 N 31 [a0, a1, a2] [(1, a2), (1, m a0 3), (1, m a0 0)] m o := h
      have h := CR_iastore_ h rfl
      have h : MR X ρ 3 0 0 qP45 N 32 [a0, a1, a2] [] (mu m (m a0 0) (m a0 3) (s32 a2)) o := h
      obtain ⟨y9, zy9, h⟩ : ∃ y, y = mu m (m a0 0) (m a0 3) (s32 a2) ∧ MR X ρ 3 0 0 qP45 N 32 [a0, a1, a2] [] y o := ⟨_, rfl, h⟩
      have h : MR X ρ 3 0 0 qP45 N 32 [a0, a1, a2] [] y9 o := h
      refine ⟨y9, zy9, ?_⟩
      have h := CR_aload_n h rfl
      have h : MR X ρ 3 0 0 qP45 N 33 [a0, a1, a2] [(1, a0)] y9 o := h
      have h := CR_getf h rfl (by decide)
      have h : MR X ρ 3 0 0 qP45 N 36 [a0, a1, a2] [(1, y9 a0 2)] y9 o := h
      have h := CR_aload_n h rfl
      have h : MR X ρ 3 0 0 qP45 N 37 [a0, a1, a2] [(1, a0), (1, y9 a0 2)] y9 o := h
      have h := CR_getf h rfl (by decide)
      have h : MR X ρ 3 0 0 qP45 N 40 [a0, a1, a2] [(1, y9 a0 3), (1, y9 a0 2)] y9 o := h
      have h := CR_iconst h rfl rfl
      have h : MR X ρ 3 0 0 qP45 N 41 [a0, a1, a2] [(1, 0), (1, y9 a0 3), (1, y9 a0 2)] y9 o := h
      have h := CR_iastore_ h rfl
      have h : MR X ρ 3 0 0 qP45 N 42 [a0, a1, a2] [] (mu y9 (y9 a0 2) (y9 a0 3) (s32 0)) o := h
      obtain ⟨y10, zy10, h⟩ : ∃ y, y = mu y9 (y9 a0 2) (y9 a0 3) (s32 0) ∧ MR X ρ 3 0 0 qP45 N 42 [a0, a1, a2] [] y o := ⟨_, rfl, h⟩
      have h : MR X ρ 3 0 0 qP45 N 42 [a0, a1, a2] [] y10 o := h
      refine ⟨y10, zy10, ?_⟩
      have h := CR_aload_n h rfl
      have h : MR X ρ 3 0 0 qP45 N 43 [a0, a1, a2] [(1, a1)] y10 o := h
      obtain ⟨r11, m12, q13, h⟩ := MR_invV h rfl rfl
      have q13 : Run X ρ 148 [(1, a1)] y10 r11 m12 := q13
      obtain rfl := Run_v q13 rfl
      have h : MR X ρ 3 0 0 qP45 N 46 [a0, a1, a2] [] m12 o := h
      refine ⟨m12, q13, ?_⟩
      have h := CR_iconst h rfl rfl
      have h : MR X ρ 3 0 0 qP45 N 47 [a0, a1, a2] [(1, 1)] m12 o := h
      exact CR_end h rfl rfl
    ·
      have c8 : ¬ ((m a0 3) < 40) := c8
      refine Or.inr ⟨c8, ?_⟩
      have h : MR X ρ 3 0 0 qP45 N 16 [a0, a1, a2] [] m o := h
      have h := CR_aload_n h rfl
      have h : MR X ρ 3 0 0 qP45 N 17 [a0, a1, a2] [(1, a1)] m o := h
      have h := CR_iconst h rfl rfl
      have h : MR X ρ 3 0 0 qP45 N 18 [a0, a1, a2] [(1, 4), (1, a1)] m o := h
      obtain ⟨r14, m15, q16, h⟩ := MR_invV h rfl rfl
      have q16 : Run X ρ 158 [(1, a1), (1, 4)] m r14 m15 := q16
      obtain ⟨e17, e18⟩ := d158 q16
      rw [e17, e18] at h
      have h : MR X ρ 3 0 0 qP45 N 21 [a0, a1, a2] [(1, f158 m a1 4)] (g158 m a1 4) o := h
      obtain ⟨y19, zy19, h⟩ : ∃ y, y = g158 m a1 4 ∧ MR X ρ 3 0 0 qP45 N 21 [a0, a1, a2] [(1, f158 m a1 4)] y o := ⟨_, rfl, h⟩
      have h : MR X ρ 3 0 0 qP45 N 21 [a0, a1, a2] [(1, f158 m a1 4)] y19 o := h
      refine ⟨y19, zy19, ?_⟩
      exact CR_end h rfl rfl
set_option maxRecDepth 16384 in
theorem k51_0 {X : KO} {ρ : Nat → Int32} {m : MM} {N : Nat} {o : Instr × List (Nat × Int) × MM} {a0 a1 a2 : Int} (h : MR X ρ 3 0 0 qP51 N 0 [a0, a1, a2] [] m o) : ((((f155 X m a1 1000001) = 0) ∧ ((((f155 X m a1 1000002) = 0) ∧ ((((f155 X m a1 1000003) = 0) ∧ ((((f155 X m a1 1000004) = 0) ∧ ((((f155 X m a1 1000005) = 0) ∧ (∃ y36, y36 = g158 m a1 1 ∧ (o = (.ireturn, [(1, f158 m a1 1)], y36)))) ∨ (¬ ((f155 X m a1 1000005) = 0) ∧ (∃ v40 m38, Run X ρ 56 [(1, a0), (1, a1), (1, 4)] m [(1, v40)] m38 ∧ (v40 = 0 ∨ v40 = 1) ∧ (o = (.ireturn, [(1, v40)], m38)))))) ∨ (¬ ((f155 X m a1 1000004) = 0) ∧ (∃ v44 m42, Run X ρ 56 [(1, a0), (1, a1), (1, 3)] m [(1, v44)] m42 ∧ (v44 = 0 ∨ v44 = 1) ∧ (o = (.ireturn, [(1, v44)], m42)))))) ∨ (¬ ((f155 X m a1 1000003) = 0) ∧ (∃ v48 m46, Run X ρ 56 [(1, a0), (1, a1), (1, 2)] m [(1, v48)] m46 ∧ (v48 = 0 ∨ v48 = 1) ∧ (((v48 = 0) ∧ (o = (.ireturn, [(1, 0)], m46))) ∨ (¬ (v48 = 0) ∧ (∃ v53 m51, Run X ρ 54 [(1, a0), (1, a1), (1, a2), (1, m46 a0 2)] m46 [(1, v53)] m51 ∧ (v53 = 0 ∨ v53 = 1) ∧ (((v53 = 0) ∧ (o = (.ireturn, [(1, 0)], m51))) ∨ (¬ (v53 = 0) ∧ (o = (.ireturn, [(1, 1)], m51))))))))))) ∨ (¬ ((f155 X m a1 1000002) = 0) ∧ (∃ v58 m56, Run X ρ 56 [(1, a0), (1, a1), (1, 1)] m [(1, v58)] m56 ∧ (v58 = 0 ∨ v58 = 1) ∧ (((v58 = 0) ∧ (o = (.ireturn, [(1, 0)], m56))) ∨ (¬ (v58 = 0) ∧ (∃ v63 m61, Run X ρ 54 [(1, a0), (1, a1), (1, a2), (1, m56 a0 2)] m56 [(1, v63)] m61 ∧ (v63 = 0 ∨ v63 = 1) ∧ (((v63 = 0) ∧ (o = (.ireturn, [(1, 0)], m61))) ∨ (¬ (v63 = 0) ∧ (o = (.ireturn, [(1, 1)], m61))))))))))) ∨ (¬ ((f155 X m a1 1000001) = 0) ∧ (∃ v68 m66, Run X ρ 56 [(1, a0), (1, a1), (1, 0)] m [(1, v68)] m66 ∧ (v68 = 0 ∨ v68 = 1) ∧ (((v68 = 0) ∧ (o = (.ireturn, [(1, 0)], m66))) ∨ (¬ (v68 = 0) ∧ (∃ v73 m71, Run X ρ 52 [(1, a0), (1, a1), (1, a2), (1, m66 a0 2)] m66 [(1, v73)] m71 ∧ (v73 = 0 ∨ v73 = 1) ∧ (((v73 = 0) ∧ (o = (.ireturn, [(1, 0)], m71))) ∨ (¬ (v73 = 0) ∧ (o = (.ireturn, [(1, 1)], m71)))))))))) := by
  have h := CR_aload_n h rfl
  have h : MR X ρ 3 0 0 qP51 N 1 [a0, a1, a2] [(1, a1)] m o := h
  have h := CR_getstatic h rfl
  have h : MR X ρ 3 0 0 qP51 N 4 [a0, a1, a2] [(1, 1000001), (1, a1)] m o := h
  obtain ⟨r1, m2, q3, h⟩ := MR_invV h rfl rfl
  have q3 : Run X ρ 155 [(1, a1), (1, 1000001)] m r1 m2 := q3
  obtain ⟨e4, e5⟩ := d155 q3
  rw [e4, e5] at h
  have h : MR X ρ 3 0 0 qP51 N 7 [a0, a1, a2] [(1, f155 X m a1 1000001)] m o := h
  rcases MR_if h rfl rfl with ⟨c6, h⟩ | ⟨c6, h⟩
  ·
    have c6 : (f155 X m a1 1000001) = 0 := c6
    refine Or.inl ⟨c6, ?_⟩
    have h : MR X ρ 3 0 0 qP51 N 38 [a0, a1, a2] [] m o := h
    have h := CR_aload_n h rfl
    have h : MR X ρ 3 0 0 qP51 N 39 [a0, a1, a2] [(1, a1)] m o := h
    have h := CR_getstatic h rfl
    have h : MR X ρ 3 0 0 qP51 N 42 [a0, a1, a2] [(1, 1000002), (1, a1)] m o := h
    obtain ⟨r7, m8, q9, h⟩ := MR_invV h rfl rfl
    have q9 : Run X ρ 155 [(1, a1), (1, 1000002)] m r7 m8 := q9
    obtain ⟨e10, e11⟩ := d155 q9
    rw [e10, e11] at h
    have h : MR X ρ 3 0 0 qP51 N 45 [a0, a1, a2] [(1, f155 X m a1 1000002)] m o := h
    rcases MR_if h rfl rfl with ⟨c12, h⟩ | ⟨c12, h⟩
    ·
      have c12 : (f155 X m a1 1000002) = 0 := c12
      refine Or.inl ⟨c12, ?_⟩
      have h : MR X ρ 3 0 0 qP51 N 76 [a0, a1, a2] [] m o := h
      have h := CR_aload_n h rfl
      have h : MR X ρ 3 0 0 qP51 N 77 [a0, a1, a2] [(1, a1)] m o := h
      have h := CR_getstatic h rfl
      have h : MR X ρ 3 0 0 qP51 N 80 [a0, a1, a2] [(1, 1000003), (1, a1)] m o := h
      obtain ⟨r13, m14, q15, h⟩ := MR_invV h rfl rfl
      have q15 : Run X ρ 155 [(1, a1), (1, 1000003)] m r13 m14 := q15
      obtain ⟨e16, e17⟩ := d155 q15
      rw [e16, e17] at h
      have h : MR X ρ 3 0 0 qP51 N 83 [a0, a1, a2] [(1, f155 X m a1 1000003)] m o := h
      rcases MR_if h rfl rfl with ⟨c18, h⟩ | ⟨c18, h⟩
      ·
        have c18 : (f155 X m a1 1000003) = 0 := c18
        refine Or.inl ⟨c18, ?_⟩
        have h : MR X ρ 3 0 0 qP51 N 114 [a0, a1, a2] [] m o := h
        have h := CR_aload_n h rfl
        have h : MR X ρ 3 0 0 qP51 N 115 [a0, a1, a2] [(1, a1)] m o := h
        have h := CR_getstatic h rfl
        have h : MR X ρ 3 0 0 qP51 N 118 [a0, a1, a2] [(1, 1000004), (1, a1)] m o := h
        obtain ⟨r19, m20, q21, h⟩ := MR_invV h rfl rfl
        have q21 : Run X ρ 155 [(1, a1), (1, 1000004)] m r19 m20 := q21
        obtain ⟨e22, e23⟩ := d155 q21
        rw [e22, e23] at h
        have h : MR X ρ 3 0 0 qP51 N 121 [a0, a1, a2] [(1, f155 X m a1 1000004)] m o := h
        rcases MR_if h rfl rfl with ⟨c24, h⟩ | ⟨c24, h⟩
        ·
          have c24 : (f155 X m a1 1000004) = 0 := c24
          refine Or.inl ⟨c24, ?_⟩
          have h : MR X ρ 3 0 0 qP51 N 131 [a0, a1, a2] [] m o := h
          have h := CR_aload_n h rfl
          have h : MR X ρ 3 0 0 qP51 N 132 [a0, a1, a2] [(1, a1)] m o := h
          have h := CR_getstatic h rfl
          have h : MR X ρ 3 0 0 qP51 N 135 [a0, a1, a2] [(1, 1000005), (1, a1)] m o := h
          obtain ⟨r25, m26, q27, h⟩ := MR_invV h rfl rfl
          have q27 : Run X ρ 155 [(1, a1), (1, 1000005)] m r25 m26 := q27
          obtain ⟨e28, e29⟩ := d155 q27
          rw [e28, e29] at h
          have h : MR X ρ 3 0 0 qP51 N 138 [a0, a1, a2] [(1, f155 X m a1 1000005)] m o := h
          rcases MR_if h rfl rfl with ⟨c30, h⟩ | ⟨c30, h⟩
          ·
            have c30 : (f155 X m a1 1000005) = 0 := c30
            refine Or.inl ⟨c30, ?_⟩
            have h : MR X ρ 3 0 0 qP51 N 148 [a0, a1, a2] [] m o := h
            have h := CR_aload_n h rfl
            have h : MR X ρ 3 0 0 qP51 N 149 [a0, a1, a2] [(1, a1)] m o := h
            have h := CR_iconst h rfl rfl
            have h : MR X ρ 3 0 0 qP51 N 150 [a0, a1, a2] [(1, 1), (1, a1)] m o := h
            obtain ⟨r31, m32, q33, h⟩ := MR_invV h rfl rfl
            have q33 : Run X ρ 158 [(1, a1), (1, 1)] m r31 m32 := q33
            obtain ⟨e34, e35⟩ := d158 q33
            rw [e34, e35] at h
            have h : MR X ρ 3 0 0 qP51 N 153 [a0, a1, a2] [(1, f158 m a1 1)] (g158 m a1 1) o := h
            obtain ⟨y36, zy36, h⟩ : ∃ y, y = g158 m a1 1 ∧ MR X ρ 3 0 0 qP51 N 153 [a0, a1, a2] [(1, f158 m a1 1)] y o := ⟨_, rfl, h⟩
            have h : MR X ρ 3 0 0 qP51 N 153 [a0, a1, a2] [(1, f158 m a1 1)] y36 o := h
            refine ⟨y36, zy36, ?_⟩
            exact CR_end h rfl rfl
          ·
            have c30 : ¬ ((f155 X m a1 1000005) = 0) := c30
            refine Or.inr ⟨c30, ?_⟩
            have h : MR X ρ 3 0 0 qP51 N 141 [a0, a1, a2] [] m o := h
            have h := CR_aload_n h rfl
            have h : MR X ρ 3 0 0 qP51 N 142 [a0, a1, a2] [(1, a0)] m o := h
            have h := CR_aload_n h rfl
            have h : MR X ρ 3 0 0 qP51 N 143 [a0, a1, a2] [(1, a1), (1, a0)] m o := h
            have h := CR_iconst h rfl rfl
            have h : MR X ρ 3 0 0 qP51 N 144 [a0, a1, a2] [(1, 4), (1, a1), (1, a0)] m o := h
            obtain ⟨r37, m38, q39, h⟩ := MR_invV h rfl rfl
            have q39 : Run X ρ 56 [(1, a0), (1, a1), (1, 4)] m r37 m38 := q39
            obtain ⟨v40, rfl, zv40⟩ := Run_z q39 rfl
            have h : MR X ρ 3 0 0 qP51 N 147 [a0, a1, a2] [(1, v40)] m38 o := h
            refine ⟨v40, m38, q39, zv40, ?_⟩
            exact CR_end h rfl rfl
        ·
          have c24 : ¬ ((f155 X m a1 1000004) = 0) := c24
          refine Or.inr ⟨c24, ?_⟩
          have h : MR X ρ 3 0 0 qP51 N 124 [a0, a1, a2] [] m o := h
          have h := CR_aload_n h rfl
          have h : MR X ρ 3 0 0 qP51 N 125 [a0, a1, a2] [(1, a0)] m o := h
          have h := CR_aload_n h rfl
          have h : MR X ρ 3 0 0 qP51 N 126 [a0, a1, a2] [(1, a1), (1, a0)] m o := h
          have h := CR_iconst h rfl rfl
          have h : MR X ρ 3 0 0 qP51 N 127 [a0, a1, a2] [(1, 3), (1, a1), (1, a0)] m o := h
          obtain ⟨r41, m42, q43, h⟩ := MR_invV h rfl rfl
          have q43 : Run X ρ 56 [(1, a0), (1, a1), (1, 3)] m r41 m42 := q43
          obtain ⟨v44, rfl, zv44⟩ := Run_z q43 rfl
          have h : MR X ρ 3 0 0 qP51 N 130 [a0, a1, a2] [(1, v44)] m42 o := h
          refine ⟨v44, m42, q43, zv44, ?_⟩
          exact CR_end h rfl rfl
      ·
        have c18 : ¬ ((f155 X m a1 1000003) = 0) := c18
        refine Or.inr ⟨c18, ?_⟩
        have h : MR X ρ 3 0 0 qP51 N 86 [a0, a1, a2] [] m o := h
        have h := CR_aload_n h rfl
        have h : MR X ρ 3 0 0 qP51 N 87 [a0, a1, a2] [(1, a0)] m o := h
        have h := CR_aload_n h rfl
        have h : MR X ρ 3 0 0 qP51 N 88 [a0, a1, a2] [(1, a1), (1, a0)] m o := h
        have h := CR_iconst h rfl rfl
        have h : MR X ρ 3 0 0 qP51 N 89 [a0, a1, a2] [(1, 2), (1, a1), (1, a0)] m o := h
        obtain ⟨r45, m46, q47, h⟩ := MR_invV h rfl rfl
        have q47 : Run X ρ 56 [(1, a0), (1, a1), (1, 2)] m r45 m46 := q47
        obtain ⟨v48, rfl, zv48⟩ := Run_z q47 rfl
        have h : MR X ρ 3 0 0 qP51 N 92 [a0, a1, a2] [(1, v48)] m46 o := h
        refine ⟨v48, m46, q47, zv48, ?_⟩
        rcases MR_if h rfl rfl with ⟨c49, h⟩ | ⟨c49, h⟩
        ·
          have c49 : v48 = 0 := c49
          refine Or.inl ⟨c49, ?_⟩
          have h : MR X ρ 3 0 0 qP51 N 112 [a0, a1, a2] [] m46 o := h
          have h := CR_iconst h rfl rfl
          have h : MR X ρ 3 0 0 qP51 N 113 [a0, a1, a2] [(1, 0)] m46 o := h
          exact CR_end h rfl rfl
        ·
          have c49 : ¬ (v48 = 0) := c49
          refine Or.inr ⟨c49, ?_⟩
          have h : MR X ρ 3 0 0 qP51 N 95 [a0, a1, a2] [] m46 o := h
          have h := CR_aload_n h rfl
          have h : MR X ρ 3 0 0 qP51 N 96 [a0, a1, a2] [(1, a0)] m46 o := h
          have h := CR_aload_n h rfl
          have h : MR X ρ 3 0 0 qP51 N 97 [a0, a1, a2] [(1, a1), (1, a0)] m46 o := h
          have h := CR_aload_n h rfl
          have h : MR X ρ 3 0 0 qP51 N 98 [a0, a1, a2] [(1, a2), (1, a1), (1, a0)] m46 o := h
          have h := CR_aload_n h rfl
          have h : MR X ρ 3 0 0 qP51 N 99 [a0, a1, a2] [(1, a0), (1, a2), (1, a1), (1, a0)] m46 o := h
          have h := CR_getf h rfl (by decide)
          have h : MR X ρ 3 0 0 qP51 N 102 [a0, a1, a2] [(1, m46 a0 2), (1, a2), (1, a1), (1, a0)] m46 o := h
          obtain ⟨r50, m51, q52, h⟩ := MR_invV h rfl rfl
          have q52 : Run X ρ 54 [(1, a0), (1, a1), (1, a2), (1, m46 a0 2)] m46 r50 m51 := q52
          obtain ⟨v53, rfl, zv53⟩ := Run_z q52 rfl
          have h : MR X ρ 3 0 0 qP51 N 105 [a0, a1, a2] [(1, v53)] m51 o := h
          refine ⟨v53, m51, q52, zv53, ?_⟩
          rcases MR_if h rfl rfl with ⟨c54, h⟩ | ⟨c54, h⟩
          ·
            have c54 : v53 = 0 := c54
            refine Or.inl ⟨c54, ?_⟩
            have h : MR X ρ 3 0 0 qP51 N 112 [a0, a1, a2] [] m51 o := h
            have h := CR_iconst h rfl rfl
            have h : MR X ρ 3 0 0 qP51 N 113 [a0, a1, a2] [(1, 0)] m51 o := h
            exact CR_end h rfl rfl
          ·
            have c54 : ¬ (v53 = 0) := c54
            refine Or.inr ⟨c54, ?_⟩
            have h : MR X ρ 3 0 0 qP51 N 108 [a0, a1, a2] [] m51 o := h
            have h := CR_iconst h rfl rfl
            have h : MR X ρ 3 0 0 qP51 N 109 [a0, a1, a2] [(1, 1)] m51 o := h
            have h := CR_go h rfl rfl
            have h : MR X ρ 3 0 0 qP51 N 113 [a0, a1, a2] [(1, 1)] m51 o := h
            exact CR_end h rfl rfl
    ·
      have c12 : ¬ ((f155 X m a1 1000002) = 0) := c12
      refine Or.inr ⟨c12, ?_⟩
      have h : MR X ρ 3 0 0 qP51 N 48 [a0, a1, a2] [] m o := h
      have h := CR_aload_n h rfl
      have h : MR X ρ 3 0 0 qP51 N 49 [a0, a1, a2] [(1, a0)] m o := h
      have h := CR_aload_n h rfl
      have h : MR X ρ 3 0 0 qP51 N 50 [a0, a1, a2] [(1, a1), (1, a0)] m o := h
      have h := CR_iconst h rfl rfl
      have h : MR X ρ 3 0 0 qP51 N 51 [a0, a1, a2] [(1, 1), (1, a1), (1, a0)] m o := h
      obtain ⟨r55, m56, q57, h⟩ := MR_invV h rfl rfl
      have q57 : Run X ρ 56 [(1, a0), (1, a1), (1, 1)] m r55 m56 := q57
      obtain ⟨v58, rfl, zv58⟩ := Run_z q57 rfl
      have h : MR X ρ 3 0 0 qP51 N 54 [a0, a1, a2] [(1, v58)] m56 o := h
      refine ⟨v58, m56, q57, zv58, ?_⟩
      rcases MR_if h rfl rfl with ⟨c59, h⟩ | ⟨c59, h⟩
      ·
        have c59 : v58 = 0 := c59
        refine Or.inl ⟨c59, ?_⟩
        have h : MR X ρ 3 0 0 qP51 N 74 [a0, a1, a2] [] m56 o := h
        have h := CR_iconst h rfl rfl
        have h : MR X ρ 3 0 0 qP51 N 75 [a0, a1, a2] [(1, 0)] m56 o := h
        exact CR_end h rfl rfl
      ·
        have c59 : ¬ (v58 = 0) := c59
        refine Or.inr ⟨c59, ?_⟩
        have h : MR X ρ 3 0 0 qP51 N 57 [a0, a1, a2] [] m56 o := h
        have h := CR_aload_n h rfl
        have h : MR X ρ 3 0 0 qP51 N 58 [a0, a1, a2] [(1, a0)] m56 o := h
        have h := CR_aload_n h rfl
        have h : MR X ρ 3 0 0 qP51 N 59 [a0, a1, a2] [(1, a1), (1, a0)] m56 o := h
        have h := CR_aload_n h rfl
        have h : MR X ρ 3 0 0 qP51 N 60 [a0, a1, a2] [(1, a2), (1, a1), (1, a0)] m56 o := h
        have h := CR_aload_n h rfl
        have h : MR X ρ 3 0 0 qP51 N 61 [a0, a1, a2] [(1, a0), (1, a2), (1, a1), (1, a0)] m56 o := h
        have h := CR_getf h rfl (by decide)
        have h : MR X ρ 3 0 0 qP51 N 64 [a0, a1, a2] [(1, m56 a0 2), (1, a2), (1, a1), (1, a0)] m56 o := h
        obtain ⟨r60, m61, q62, h⟩ := MR_invV h rfl rfl
        have q62 : Run X ρ 54 [(1, a0), (1, a1), (1, a2), (1, m56 a0 2)] m56 r60 m61 := q62
        obtain ⟨v63, rfl, zv63⟩ := Run_z q62 rfl
        have h : MR X ρ 3 0 0 qP51 N 67 [a0, a1, a2] [(1, v63)] m61 o := h
        refine ⟨v63, m61, q62, zv63, ?_⟩
        rcases MR_if h rfl rfl with ⟨c64, h⟩ | ⟨c64, h⟩
        ·
          have c64 : v63 = 0 := c64
          refine Or.inl ⟨c64, ?_⟩
          have h : MR X ρ 3 0 0 qP51 N 74 [a0, a1, a2] [] m61 o := h
          have h := CR_iconst h rfl rfl
          have h : MR X ρ 3 0 0 qP51 N 75 [a0, a1, a2] [(1, 0)] m61 o := h
          exact CR_end h rfl rfl
        ·
          have c64 : ¬ (v63 = 0) := c64
          refine Or.inr ⟨c64, ?_⟩
          have h : MR X ρ 3 0 0 qP51 N 70 [a0, a1, a2] [] m61 o := h
          have h := CR_iconst h rfl rfl
          have h : MR X ρ 3 0 0 qP51 N 71 [a0, a1, a2] [(1, 1)] m61 o := h
          have h := CR_go h rfl rfl
          have h : MR X ρ 3 0 0 qP51 N 75 [a0, a1, a2] [(1, 1)] m61 o := h
          exact CR_end h rfl rfl
  ·
    have c6 : ¬ ((f155 X m a1 1000001) = 0) := c6
    refine Or.inr ⟨c6, ?_⟩
    have h : MR X ρ 3 0 0 qP51 N 10 [a0, a1, a2] [] m o := h
    have h := CR_aload_n h rfl
    have h : MR X ρ 3 0 0 qP51 N 11 [a0, a1, a2] [(1, a0)] m o := h
    have h := CR_aload_n h rfl
    have h : MR X ρ 3 0 0 qP51 N 12 [a0, a1, a2] [(1, a1), (1, a0)] m o := h
    have h := CR_iconst h rfl rfl
    have h : MR X ρ 3 0 0 qP51 N 13 [a0, a1, a2] [(1, 0), (1, a1), (1, a0)] m o := h
    obtain ⟨r65, m66, q67, h⟩ := MR_invV h rfl rfl
    have q67 : Run X ρ 56 [(1, a0), (1, a1), (1, 0)] m r65 m66 := q67
    obtain ⟨v68, rfl, zv68⟩ := Run_z q67 rfl
    have h : MR X ρ 3 0 0 qP51 N 16 [a0, a1, a2] [(1, v68)] m66 o := h
    refine ⟨v68, m66, q67, zv68, ?_⟩
    rcases MR_if h rfl rfl with ⟨c69, h⟩ | ⟨c69, h⟩
    ·
      have c69 : v68 = 0 := c69
      refine Or.inl ⟨c69, ?_⟩
      have h : MR X ρ 3 0 0 qP51 N 36 [a0, a1, a2] [] m66 o := h
      have h := CR_iconst h rfl rfl
      have h : MR X ρ 3 0 0 qP51 N 37 [a0, a1, a2] [(1, 0)] m66 o := h
      exact CR_end h rfl rfl
    ·
      have c69 : ¬ (v68 = 0) := c69
      refine Or.inr ⟨c69, ?_⟩
      have h : MR X ρ 3 0 0 qP51 N 19 [a0, a1, a2] [] m66 o := h
      have h := CR_aload_n h rfl
      have h : MR X ρ 3 0 0 qP51 N 20 [a0, a1, a2] [(1, a0)] m66 o := h
      have h := CR_aload_n h rfl
      have h : MR X ρ 3 0 0 qP51 N 21 [a0, a1, a2] [(1, a1), (1, a0)] m66 o := h
      have h := CR_aload_n h rfl
      have h : MR X ρ 3 0 0 qP51 N 22 [a0, a1, a2] [(1, a2), (1, a1), (1, a0)] m66 o := h
      have h := CR_aload_n h rfl
      have h : MR X ρ 3 0 0 qP51 N 23 [a0, a1, a2] [(1, a0), (1, a2), (1, a1), (1, a0)] m66 o := h
      have h := CR_getf h rfl (by decide)
      have h : MR X ρ 3 0 0 qP51 N 26 [a0, a1, a2] [(1, m66 a0 2), (1, a2), (1, a1), (1, a0)] m66 o := h
      obtain ⟨r70, m71, q72, h⟩ := MR_invV h rfl rfl
      have q72 : Run X ρ 52 [(1, a0), (1, a1), (1, a2), (1, m66 a0 2)] m66 r70 m71 := q72
      obtain ⟨v73, rfl, zv73⟩ := Run_z q72 rfl
      have h : MR X ρ 3 0 0 qP51 N 29 [a0, a1, a2] [(1, v73)] m71 o := h
      refine ⟨v73, m71, q72, zv73, ?_⟩
      rcases MR_if h rfl rfl with ⟨c74, h⟩ | ⟨c74, h⟩
      ·
        have c74 : v73 = 0 := c74
        refine Or.inl ⟨c74, ?_⟩
        have h : MR X ρ 3 0 0 qP51 N 36 [a0, a1, a2] [] m71 o := h
        have h := CR_iconst h rfl rfl
        have h : MR X ρ 3 0 0 qP51 N 37 [a0, a1, a2] [(1, 0)] m71 o := h
        exact CR_end h rfl rfl
      ·
        have c74 : ¬ (v73 = 0) := c74
        refine Or.inr ⟨c74, ?_⟩
        have h : MR X ρ 3 0 0 qP51 N 32 [a0, a1, a2] [] m71 o := h
        have h := CR_iconst h rfl rfl
        have h : MR X ρ 3 0 0 qP51 N 33 [a0, a1, a2] [(1, 1)] m71 o := h
        have h := CR_go h rfl rfl
        have h : MR X ρ 3 0 0 qP51 N 37 [a0, a1, a2] [(1, 1)] m71 o := h
        exact CR_end h rfl rfl
set_option maxRecDepth 16384 in
theorem k53_0 {X : KO} {ρ : Nat → Int32} {m : MM} {N : Nat} {o : Instr × List (Nat × Int) × MM} {a0 a1 a2 : Int} (h : MR X ρ 4 0 0 qP53 N 0 [a0, a1, a2, 0] [] m o) : ((((f155 X m a1 1000006) = 0) ∧ ((((f155 X m a1 1000007) = 0) ∧ ((((f155 X m a1 1000008) = 0) ∧ (∃ v22 m20, Run X ρ 76 [(1, a2), (1, a1)] m [(1, v22)] m20 ∧ (((v22 = (-1)) ∧ (o = (.ireturn, [(1, 0)], m20))) ∨ (¬ (v22 = (-1)) ∧ (∃ v27 m25, Run X ρ 45 [(1, a0), (1, a1), (1, -1)] m20 [(1, v27)] m25 ∧ (v27 = 0 ∨ v27 = 1) ∧ (((v27 = 0) ∧ (o = (.ireturn, [(1, 0)], m25))) ∨ (¬ (v27 = 0) ∧ (∃ y34, y34 = g48 m25 a0 (m25 a0 1) v22 ∧ (∃ v38 m36, Run X ρ 51 [(1, a0), (1, a1), (1, a2)] y34 [(1, v38)] m36 ∧ (v38 = 0 ∨ v38 = 1) ∧ (((v38 = 0) ∧ (o = (.ireturn, [(1, 0)], m36))) ∨ (¬ (v38 = 0) ∧ (∃ v43 m41, Run X ρ 46 [(1, a0), (1, a1)] m36 [(1, v43)] m41 ∧ (v43 = 0 ∨ v43 = 1) ∧ (((v43 = 0) ∧ (o = (.ireturn, [(1, 0)], m41))) ∨ (¬ (v43 = 0) ∧ (o = (.ireturn, [(1, 1)], m41)))))))))))))))) ∨ (¬ ((f155 X m a1 1000008) = 0) ∧ (∃ v48 m46, Run X ρ 45 [(1, a0), (1, a1), (1, 7)] m [(1, v48)] m46 ∧ (v48 = 0 ∨ v48 = 1) ∧ (((v48 = 0) ∧ (o = (.ireturn, [(1, 0)], m46))) ∨ (¬ (v48 = 0) ∧ (∃ v53 m51, Run X ρ 50 [(1, a0), (1, a1)] m46 [(1, v53)] m51 ∧ (v53 = 0 ∨ v53 = 1) ∧ (((v53 = 0) ∧ (o = (.ireturn, [(1, 0)], m51))) ∨ (¬ (v53 = 0) ∧ (∃ v58 m56, Run X ρ 46 [(1, a0), (1, a1)] m51 [(1, v58)] m56 ∧ (v58 = 0 ∨ v58 = 1) ∧ (((v58 = 0) ∧ (o = (.ireturn, [(1, 0)], m56))) ∨ (¬ (v58 = 0) ∧ (o = (.ireturn, [(1, 1)], m56)))))))))))))) ∨ (¬ ((f155 X m a1 1000007) = 0) ∧ (∃ v63 m61, Run X ρ 45 [(1, a0), (1, a1), (1, 6)] m [(1, v63)] m61 ∧ (v63 = 0 ∨ v63 = 1) ∧ (((v63 = 0) ∧ (o = (.ireturn, [(1, 0)], m61))) ∨ (¬ (v63 = 0) ∧ (∃ v68 m66, Run X ρ 52 [(1, a0), (1, a1), (1, a2), (1, m61 a0 1)] m61 [(1, v68)] m66 ∧ (v68 = 0 ∨ v68 = 1) ∧ (((v68 = 0) ∧ (o = (.ireturn, [(1, 0)], m66))) ∨ (¬ (v68 = 0) ∧ (∃ v73 m71, Run X ρ 46 [(1, a0), (1, a1)] m66 [(1, v73)] m71 ∧ (v73 = 0 ∨ v73 = 1) ∧ (((v73 = 0) ∧ (o = (.ireturn, [(1, 0)], m71))) ∨ (¬ (v73 = 0) ∧ (o = (.ireturn, [(1, 1)], m71)))))))))))))) ∨ (¬ ((f155 X m a1 1000006) = 0) ∧ (∃ v78 m76, Run X ρ 45 [(1, a0), (1, a1), (1, 5)] m [(1, v78)] m76 ∧ (v78 = 0 ∨ v78 = 1) ∧ (((v78 = 0) ∧ (o = (.ireturn, [(1, 0)], m76))) ∨ (¬ (v78 = 0) ∧ (∃ v83 m81, Run X ρ 52 [(1, a0), (1, a1), (1, a2), (1, m76 a0 1)] m76 [(1, v83)] m81 ∧ (v83 = 0 ∨ v83 = 1) ∧ (((v83 = 0) ∧ (o = (.ireturn, [(1, 0)], m81))) ∨ (¬ (v83 = 0) ∧ (∃ v88 m86, Run X ρ 46 [(1, a0), (1, a1)] m81 [(1, v88)] m86 ∧ (v88 = 0 ∨ v88 = 1) ∧ (((v88 = 0) ∧ (o = (.ireturn, [(1, 0)], m86))) ∨ (¬ (v88 = 0) ∧ (o = (.ireturn, [(1, 1)], m86))))))))))))) := by
  have h := CR_aload_n h rfl
  have h : MR X ρ 4 0 0 qP53 N 1 [a0, a1, a2, 0] [(1, a1)] m o := h
  have h := CR_getstatic h rfl
  have h : MR X ρ 4 0 0 qP53 N 4 [a0, a1, a2, 0] [(1, 1000006), (1, a1)] m o := h
  obtain ⟨r1, m2, q3, h⟩ := MR_invV h rfl rfl
  have q3 : Run X ρ 155 [(1, a1), (1, 1000006)] m r1 m2 := q3
  obtain ⟨e4, e5⟩ := d155 q3
  rw [e4, e5] at h
  have h : MR X ρ 4 0 0 qP53 N 7 [a0, a1, a2, 0] [(1, f155 X m a1 1000006)] m o := h
  rcases MR_if h rfl rfl with ⟨c6, h⟩ | ⟨c6, h⟩
  ·
    have c6 : (f155 X m a1 1000006) = 0 := c6
    refine Or.inl ⟨c6, ?_⟩
    have h : MR X ρ 4 0 0 qP53 N 46 [a0, a1, a2, 0] [] m o := h
    have h := CR_aload_n h rfl
    have h : MR X ρ 4 0 0 qP53 N 47 [a0, a1, a2, 0] [(1, a1)] m o := h
    have h := CR_getstatic h rfl
    have h : MR X ρ 4 0 0 qP53 N 50 [a0, a1, a2, 0] [(1, 1000007), (1, a1)] m o := h
    obtain ⟨r7, m8, q9, h⟩ := MR_invV h rfl rfl
    have q9 : Run X ρ 155 [(1, a1), (1, 1000007)] m r7 m8 := q9
    obtain ⟨e10, e11⟩ := d155 q9
    rw [e10, e11] at h
    have h : MR X ρ 4 0 0 qP53 N 53 [a0, a1, a2, 0] [(1, f155 X m a1 1000007)] m o := h
    rcases MR_if h rfl rfl with ⟨c12, h⟩ | ⟨c12, h⟩
    ·
      have c12 : (f155 X m a1 1000007) = 0 := c12
      refine Or.inl ⟨c12, ?_⟩
      have h : MR X ρ 4 0 0 qP53 N 93 [a0, a1, a2, 0] [] m o := h
      have h := CR_aload_n h rfl
      have h : MR X ρ 4 0 0 qP53 N 94 [a0, a1, a2, 0] [(1, a1)] m o := h
      have h := CR_getstatic h rfl
      have h : MR X ρ 4 0 0 qP53 N 97 [a0, a1, a2, 0] [(1, 1000008), (1, a1)] m o := h
      obtain ⟨r13, m14, q15, h⟩ := MR_invV h rfl rfl
      have q15 : Run X ρ 155 [(1, a1), (1, 1000008)] m r13 m14 := q15
      obtain ⟨e16, e17⟩ := d155 q15
      rw [e16, e17] at h
      have h : MR X ρ 4 0 0 qP53 N 100 [a0, a1, a2, 0] [(1, f155 X m a1 1000008)] m o := h
      rcases MR_if h rfl rfl with ⟨c18, h⟩ | ⟨c18, h⟩
      ·
        have c18 : (f155 X m a1 1000008) = 0 := c18
        refine Or.inl ⟨c18, ?_⟩
        have h : MR X ρ 4 0 0 qP53 N 135 [a0, a1, a2, 0] [] m o := h
        have h := CR_aload_n h rfl
        have h : MR X ρ 4 0 0 qP53 N 136 [a0, a1, a2, 0] [(1, a2)] m o := h
        have h := CR_aload_n h rfl
        have h : MR X ρ 4 0 0 qP53 N 137 [a0, a1, a2, 0] [(1, a1), (1, a2)] m o := h
        obtain ⟨r19, m20, q21, h⟩ := MR_invV h rfl rfl
        have q21 : Run X ρ 76 [(1, a2), (1, a1)] m r19 m20 := q21
        obtain ⟨v22, rfl⟩ := Run_i q21 rfl
        have h : MR X ρ 4 0 0 qP53 N 140 [a0, a1, a2, 0] [(1, v22)] m20 o := h
        refine ⟨v22, m20, q21, ?_⟩
        have h := CR_istore_n h rfl (Nat.le_of_ble_eq_true rfl)
        have h : MR X ρ 4 0 0 qP53 N 141 [a0, a1, a2, v22] [] m20 o := h
        have h := CR_iload_n h rfl
        have h : MR X ρ 4 0 0 qP53 N 142 [a0, a1, a2, v22] [(1, v22)] m20 o := h
        have h := CR_iconst h rfl rfl
        have h : MR X ρ 4 0 0 qP53 N 143 [a0, a1, a2, v22] [(1, -1), (1, v22)] m20 o := h
        rcases MR_icmp h rfl rfl with ⟨c23, h⟩ | ⟨c23, h⟩
        ·
          have c23 : v22 = (-1) := c23
          refine Or.inl ⟨c23, ?_⟩
          have h : MR X ρ 4 0 0 qP53 N 155 [a0, a1, a2, v22] [] m20 o := h
          have h := CR_iconst h rfl rfl
          have h : MR X ρ 4 0 0 qP53 N 156 [a0, a1, a2, v22] [(1, 0)] m20 o := h
          exact CR_end h rfl rfl
        ·
          have c23 : ¬ (v22 = (-1)) := c23
          refine Or.inr ⟨c23, ?_⟩
          have h : MR X ρ 4 0 0 qP53 N 146 [a0, a1, a2, v22] [] m20 o := h
          have h := CR_aload_n h rfl
          have h : MR X ρ 4 0 0 qP53 N 147 [a0, a1, a2, v22] [(1, a0)] m20 o := h
          have h := CR_aload_n h rfl
          have h : MR X ρ 4 0 0 qP53 N 148 [a0, a1, a2, v22] [(1, a1), (1, a0)] m20 o := h
          have h := CR_iconst h rfl rfl
          have h : MR X ρ 4 0 0 qP53 N 149 [a0, a1, a2, v22] [(1, -1), (1, a1), (1, a0)] m20 o := h
          obtain ⟨r24, m25, q26, h⟩ := MR_invV h rfl rfl
          have q26 : Run X ρ 45 [(1, a0), (1, a1), (1, -1)] m20 r24 m25 := q26
          obtain ⟨v27, rfl, zv27⟩ := Run_z q26 rfl
          have h : MR X ρ 4 0 0 qP53 N 152 [a0, a1, a2, v22] [(1, v27)] m25 o := h
          refine ⟨v27, m25, q26, zv27, ?_⟩
          rcases MR_if h rfl rfl with ⟨c28, h⟩ | ⟨c28, h⟩
          ·
            have c28 : ¬ (v27 = 0) := c28
            refine Or.inr ⟨c28, ?_⟩
            have h : MR X ρ 4 0 0 qP53 N 157 [a0, a1, a2, v22] [] m25 o := h
            have h := CR_aload_n h rfl
            have h : MR X ρ 4 0 0 qP53 N 158 [a0, a1, a2, v22] [(1, a0)] m25 o := h
            have h := CR_aload_n h rfl
            have h : MR X ρ 4 0 0 qP53 N 159 [a0, a1, a2, v22] [(1, a0), (1, a0)] m25 o := h
            have h := CR_getf h rfl (by decide)
            have h : MR X ρ 4 0 0 qP53 N 162 [a0, a1, a2, v22] [(1, m25 a0 1), (1, a0)] m25 o := h
            have h := CR_iload_n h rfl
            have h : MR X ρ 4 0 0 qP53 N 163 [a0, a1, a2, v22] [(1, v22), (1, m25 a0 1), (1, a0)] m25 o := h
            obtain ⟨r29, m30, q31, h⟩ := MR_invV h rfl rfl
            have q31 : Run X ρ 48 [(1, a0), (1, m25 a0 1), (1, v22)] m25 r29 m30 := q31
            obtain ⟨e32, e33⟩ := d48 q31
            rw [e32, e33] at h
            have h : MR X ρ 4 0 0 qP53 N 166 [a0, a1, a2, v22] [] (g48 m25 a0 (m25 a0 1) v22) o := h
            obtain ⟨y34, zy34, h⟩ : ∃ y, y = g48 m25 a0 (m25 a0 1) v22 ∧ MR X ρ 4 0 0 qP53 N 166 [a0, a1, a2, v22] [] y o := ⟨_, rfl, h⟩
            have h : MR X ρ 4 0 0 qP53 N 166 [a0, a1, a2, v22] [] y34 o := h
            refine ⟨y34, zy34, ?_⟩
            have h := CR_aload_n h rfl
            have h : MR X ρ 4 0 0 qP53 N 167 [a0, a1, a2, v22] [(1, a0)] y34 o := h
            have h := CR_aload_n h rfl
            have h : MR X ρ 4 0 0 qP53 N 168 [a0, a1, a2, v22] [(1, a1), (1, a0)] y34 o := h
            have h := CR_aload_n h rfl
            have h : MR X ρ 4 0 0 qP53 N 169 [a0, a1, a2, v22] [(1, a2), (1, a1), (1, a0)] y34 o := h
            obtain ⟨r35, m36, q37, h⟩ := MR_invV h rfl rfl
            have q37 : Run X ρ 51 [(1, a0), (1, a1), (1, a2)] y34 r35 m36 := q37
            obtain ⟨v38, rfl, zv38⟩ := Run_z q37 rfl
            have h : MR X ρ 4 0 0 qP53 N 172 [a0, a1, a2, v22] [(1, v38)] m36 o := h
            refine ⟨v38, m36, q37, zv38, ?_⟩
            rcases MR_if h rfl rfl with ⟨c39, h⟩ | ⟨c39, h⟩
            ·
              have c39 : v38 = 0 := c39
              refine Or.inl ⟨c39, ?_⟩
              have h : MR X ρ 4 0 0 qP53 N 187 [a0, a1, a2, v22] [] m36 o := h
              have h := CR_iconst h rfl rfl
              have h : MR X ρ 4 0 0 qP53 N 188 [a0, a1, a2, v22] [(1, 0)] m36 o := h
              exact CR_end h rfl rfl
            ·
              have c39 : ¬ (v38 = 0) := c39
              refine Or.inr ⟨c39, ?_⟩
              have h : MR X ρ 4 0 0 qP53 N 175 [a0, a1, a2, v22] [] m36 o := h
              have h := CR_aload_n h rfl
              have h : MR X ρ 4 0 0 qP53 N 176 [a0, a1, a2, v22] [(1, a0)] m36 o := h
              have h := CR_aload_n h rfl
              have h : MR X ρ 4 0 0 qP53 N 177 [a0, a1, a2, v22] [(1, a1), (1, a0)] m36 o := h
              obtain ⟨r40, m41, q42, h⟩ := MR_invV h rfl rfl
              have q42 : Run X ρ 46 [(1, a0), (1, a1)] m36 r40 m41 := q42
              obtain ⟨v43, rfl, zv43⟩ := Run_z q42 rfl
              have h : MR X ρ 4 0 0 qP53 N 180 [a0, a1, a2, v22] [(1, v43)] m41 o := h
              refine ⟨v43, m41, q42, zv43, ?_⟩
              rcases MR_if h rfl rfl with ⟨c44, h⟩ | ⟨c44, h⟩
              ·
                have c44 : v43 = 0 := c44
                refine Or.inl ⟨c44, ?_⟩
                have h : MR X ρ 4 0 0 qP53 N 187 [a0, a1, a2, v22] [] m41 o := h
                have h := CR_iconst h rfl rfl
                have h : MR X ρ 4 0 0 qP53 N 188 [a0, a1, a2, v22] [(1, 0)] m41 o := h
                exact CR_end h rfl rfl
              ·
                have c44 : ¬ (v43 = 0) := c44
                refine Or.inr ⟨c44, ?_⟩
                have h : MR X ρ 4 0 0 qP53 N 183 [a0, a1, a2, v22] [] m41 o := h
                have h := CR_iconst h rfl rfl
                have h : MR X ρ 4 0 0 qP53 N 184 [a0, a1, a2, v22] [(1, 1)] m41 o := h
                have h := CR_go h rfl rfl
                have h : MR X ρ 4 0 0 qP53 N 188 [a0, a1, a2, v22] [(1, 1)] m41 o := h
                exact CR_end h rfl rfl
          ·
            have c28 : v27 = 0 := Decidable.of_not_not (show ¬ ¬ (v27 = 0) from c28)
            refine Or.inl ⟨c28, ?_⟩
            have h : MR X ρ 4 0 0 qP53 N 155 [a0, a1, a2, v22] [] m25 o := h
            have h := CR_iconst h rfl rfl
            have h : MR X ρ 4 0 0 qP53 N 156 [a0, a1, a2, v22] [(1, 0)] m25 o := h
            exact CR_end h rfl rfl
      ·
        have c18 : ¬ ((f155 X m a1 1000008) = 0) := c18
        refine Or.inr ⟨c18, ?_⟩
        have h : MR X ρ 4 0 0 qP53 N 103 [a0, a1, a2, 0] [] m o := h
        have h := CR_aload_n h rfl
        have h : MR X ρ 4 0 0 qP53 N 104 [a0, a1, a2, 0] [(1, a0)] m o := h
        have h := CR_aload_n h rfl
        have h : MR X ρ 4 0 0 qP53 N 105 [a0, a1, a2, 0] [(1, a1), (1, a0)] m o := h
        have h := CR_bipush h rfl rfl
        have h : MR X ρ 4 0 0 qP53 N 107 [a0, a1, a2, 0] [(1, 7), (1, a1), (1, a0)] m o := h
        obtain ⟨r45, m46, q47, h⟩ := MR_invV h rfl rfl
        have q47 : Run X ρ 45 [(1, a0), (1, a1), (1, 7)] m r45 m46 := q47
        obtain ⟨v48, rfl, zv48⟩ := Run_z q47 rfl
        have h : MR X ρ 4 0 0 qP53 N 110 [a0, a1, a2, 0] [(1, v48)] m46 o := h
        refine ⟨v48, m46, q47, zv48, ?_⟩
        rcases MR_if h rfl rfl with ⟨c49, h⟩ | ⟨c49, h⟩
        ·
          have c49 : v48 = 0 := c49
          refine Or.inl ⟨c49, ?_⟩
          have h : MR X ρ 4 0 0 qP53 N 133 [a0, a1, a2, 0] [] m46 o := h
          have h := CR_iconst h rfl rfl
          have h : MR X ρ 4 0 0 qP53 N 134 [a0, a1, a2, 0] [(1, 0)] m46 o := h
          exact CR_end h rfl rfl
        ·
          have c49 : ¬ (v48 = 0) := c49
          refine Or.inr ⟨c49, ?_⟩
          have h : MR X ρ 4 0 0 qP53 N 113 [a0, a1, a2, 0] [] m46 o := h
          have h := CR_aload_n h rfl
          have h : MR X ρ 4 0 0 qP53 N 114 [a0, a1, a2, 0] [(1, a0)] m46 o := h
          have h := CR_aload_n h rfl
          have h : MR X ρ 4 0 0 qP53 N 115 [a0, a1, a2, 0] [(1, a1), (1, a0)] m46 o := h
          obtain ⟨r50, m51, q52, h⟩ := MR_invV h rfl rfl
          have q52 : Run X ρ 50 [(1, a0), (1, a1)] m46 r50 m51 := q52
          obtain ⟨v53, rfl, zv53⟩ := Run_z q52 rfl
          have h : MR X ρ 4 0 0 qP53 N 118 [a0, a1, a2, 0] [(1, v53)] m51 o := h
          refine ⟨v53, m51, q52, zv53, ?_⟩
          rcases MR_if h rfl rfl with ⟨c54, h⟩ | ⟨c54, h⟩
          ·
            have c54 : v53 = 0 := c54
            refine Or.inl ⟨c54, ?_⟩
            have h : MR X ρ 4 0 0 qP53 N 133 [a0, a1, a2, 0] [] m51 o := h
            have h := CR_iconst h rfl rfl
            have h : MR X ρ 4 0 0 qP53 N 134 [a0, a1, a2, 0] [(1, 0)] m51 o := h
            exact CR_end h rfl rfl
          ·
            have c54 : ¬ (v53 = 0) := c54
            refine Or.inr ⟨c54, ?_⟩
            have h : MR X ρ 4 0 0 qP53 N 121 [a0, a1, a2, 0] [] m51 o := h
            have h := CR_aload_n h rfl
            have h : MR X ρ 4 0 0 qP53 N 122 [a0, a1, a2, 0] [(1, a0)] m51 o := h
            have h := CR_aload_n h rfl
            have h : MR X ρ 4 0 0 qP53 N 123 [a0, a1, a2, 0] [(1, a1), (1, a0)] m51 o := h
            obtain ⟨r55, m56, q57, h⟩ := MR_invV h rfl rfl
            have q57 : Run X ρ 46 [(1, a0), (1, a1)] m51 r55 m56 := q57
            obtain ⟨v58, rfl, zv58⟩ := Run_z q57 rfl
            have h : MR X ρ 4 0 0 qP53 N 126 [a0, a1, a2, 0] [(1, v58)] m56 o := h
            refine ⟨v58, m56, q57, zv58, ?_⟩
            rcases MR_if h rfl rfl with ⟨c59, h⟩ | ⟨c59, h⟩
            ·
              have c59 : v58 = 0 := c59
              refine Or.inl ⟨c59, ?_⟩
              have h : MR X ρ 4 0 0 qP53 N 133 [a0, a1, a2, 0] [] m56 o := h
              have h := CR_iconst h rfl rfl
              have h : MR X ρ 4 0 0 qP53 N 134 [a0, a1, a2, 0] [(1, 0)] m56 o := h
              exact CR_end h rfl rfl
            ·
              have c59 : ¬ (v58 = 0) := c59
              refine Or.inr ⟨c59, ?_⟩
              have h : MR X ρ 4 0 0 qP53 N 129 [a0, a1, a2, 0] [] m56 o := h
              have h := CR_iconst h rfl rfl
              have h : MR X ρ 4 0 0 qP53 N 130 [a0, a1, a2, 0] [(1, 1)] m56 o := h
              have h := CR_go h rfl rfl
              have h : MR X ρ 4 0 0 qP53 N 134 [a0, a1, a2, 0] [(1, 1)] m56 o := h
              exact CR_end h rfl rfl
    ·
      have c12 : ¬ ((f155 X m a1 1000007) = 0) := c12
      refine Or.inr ⟨c12, ?_⟩
      have h : MR X ρ 4 0 0 qP53 N 56 [a0, a1, a2, 0] [] m o := h
      have h := CR_aload_n h rfl
      have h : MR X ρ 4 0 0 qP53 N 57 [a0, a1, a2, 0] [(1, a0)] m o := h
      have h := CR_aload_n h rfl
      have h : MR X ρ 4 0 0 qP53 N 58 [a0, a1, a2, 0] [(1, a1), (1, a0)] m o := h
      have h := CR_bipush h rfl rfl
      have h : MR X ρ 4 0 0 qP53 N 60 [a0, a1, a2, 0] [(1, 6), (1, a1), (1, a0)] m o := h
      obtain ⟨r60, m61, q62, h⟩ := MR_invV h rfl rfl
      have q62 : Run X ρ 45 [(1, a0), (1, a1), (1, 6)] m r60 m61 := q62
      obtain ⟨v63, rfl, zv63⟩ := Run_z q62 rfl
      have h : MR X ρ 4 0 0 qP53 N 63 [a0, a1, a2, 0] [(1, v63)] m61 o := h
      refine ⟨v63, m61, q62, zv63, ?_⟩
      rcases MR_if h rfl rfl with ⟨c64, h⟩ | ⟨c64, h⟩
      ·
        have c64 : v63 = 0 := c64
        refine Or.inl ⟨c64, ?_⟩
        have h : MR X ρ 4 0 0 qP53 N 91 [a0, a1, a2, 0] [] m61 o := h
        have h := CR_iconst h rfl rfl
        have h : MR X ρ 4 0 0 qP53 N 92 [a0, a1, a2, 0] [(1, 0)] m61 o := h
        exact CR_end h rfl rfl
      ·
        have c64 : ¬ (v63 = 0) := c64
        refine Or.inr ⟨c64, ?_⟩
        have h : MR X ρ 4 0 0 qP53 N 66 [a0, a1, a2, 0] [] m61 o := h
        have h := CR_aload_n h rfl
        have h : MR X ρ 4 0 0 qP53 N 67 [a0, a1, a2, 0] [(1, a0)] m61 o := h
        have h := CR_aload_n h rfl
        have h : MR X ρ 4 0 0 qP53 N 68 [a0, a1, a2, 0] [(1, a1), (1, a0)] m61 o := h
        have h := CR_aload_n h rfl
        have h : MR X ρ 4 0 0 qP53 N 69 [a0, a1, a2, 0] [(1, a2), (1, a1), (1, a0)] m61 o := h
        have h := CR_aload_n h rfl
        have h : MR X ρ 4 0 0 qP53 N 70 [a0, a1, a2, 0] [(1, a0), (1, a2), (1, a1), (1, a0)] m61 o := h
        have h := CR_getf h rfl (by decide)
        have h : MR X ρ 4 0 0 qP53 N 73 [a0, a1, a2, 0] [(1, m61 a0 1), (1, a2), (1, a1), (1, a0)] m61 o := h
        obtain ⟨r65, m66, q67, h⟩ := MR_invV h rfl rfl
        have q67 : Run X ρ 52 [(1, a0), (1, a1), (1, a2), (1, m61 a0 1)] m61 r65 m66 := q67
        obtain ⟨v68, rfl, zv68⟩ := Run_z q67 rfl
        have h : MR X ρ 4 0 0 qP53 N 76 [a0, a1, a2, 0] [(1, v68)] m66 o := h
        refine ⟨v68, m66, q67, zv68, ?_⟩
        rcases MR_if h rfl rfl with ⟨c69, h⟩ | ⟨c69, h⟩
        ·
          have c69 : v68 = 0 := c69
          refine Or.inl ⟨c69, ?_⟩
          have h : MR X ρ 4 0 0 qP53 N 91 [a0, a1, a2, 0] [] m66 o := h
          have h := CR_iconst h rfl rfl
          have h : MR X ρ 4 0 0 qP53 N 92 [a0, a1, a2, 0] [(1, 0)] m66 o := h
          exact CR_end h rfl rfl
        ·
          have c69 : ¬ (v68 = 0) := c69
          refine Or.inr ⟨c69, ?_⟩
          have h : MR X ρ 4 0 0 qP53 N 79 [a0, a1, a2, 0] [] m66 o := h
          have h := CR_aload_n h rfl
          have h : MR X ρ 4 0 0 qP53 N 80 [a0, a1, a2, 0] [(1, a0)] m66 o := h
          have h := CR_aload_n h rfl
          have h : MR X ρ 4 0 0 qP53 N 81 [a0, a1, a2, 0] [(1, a1), (1, a0)] m66 o := h
          obtain ⟨r70, m71, q72, h⟩ := MR_invV h rfl rfl
          have q72 : Run X ρ 46 [(1, a0), (1, a1)] m66 r70 m71 := q72
          obtain ⟨v73, rfl, zv73⟩ := Run_z q72 rfl
          have h : MR X ρ 4 0 0 qP53 N 84 [a0, a1, a2, 0] [(1, v73)] m71 o := h
          refine ⟨v73, m71, q72, zv73, ?_⟩
          rcases MR_if h rfl rfl with ⟨c74, h⟩ | ⟨c74, h⟩
          ·
            have c74 : v73 = 0 := c74
            refine Or.inl ⟨c74, ?_⟩
            have h : MR X ρ 4 0 0 qP53 N 91 [a0, a1, a2, 0] [] m71 o := h
            have h := CR_iconst h rfl rfl
            have h : MR X ρ 4 0 0 qP53 N 92 [a0, a1, a2, 0] [(1, 0)] m71 o := h
            exact CR_end h rfl rfl
          ·
            have c74 : ¬ (v73 = 0) := c74
            refine Or.inr ⟨c74, ?_⟩
            have h : MR X ρ 4 0 0 qP53 N 87 [a0, a1, a2, 0] [] m71 o := h
            have h := CR_iconst h rfl rfl
            have h : MR X ρ 4 0 0 qP53 N 88 [a0, a1, a2, 0] [(1, 1)] m71 o := h
            have h := CR_go h rfl rfl
            have h : MR X ρ 4 0 0 qP53 N 92 [a0, a1, a2, 0] [(1, 1)] m71 o := h
            exact CR_end h rfl rfl
  ·
    have c6 : ¬ ((f155 X m a1 1000006) = 0) := c6
    refine Or.inr ⟨c6, ?_⟩
    have h : MR X ρ 4 0 0 qP53 N 10 [a0, a1, a2, 0] [] m o := h
    have h := CR_aload_n h rfl
    have h : MR X ρ 4 0 0 qP53 N 11 [a0, a1, a2, 0] [(1, a0)] m o := h
    have h := CR_aload_n h rfl
    have h : MR X ρ 4 0 0 qP53 N 12 [a0, a1, a2, 0] [(1, a1), (1, a0)] m o := h
    have h := CR_iconst h rfl rfl
    have h : MR X ρ 4 0 0 qP53 N 13 [a0, a1, a2, 0] [(1, 5), (1, a1), (1, a0)] m o := h
    obtain ⟨r75, m76, q77, h⟩ := MR_invV h rfl rfl
    have q77 : Run X ρ 45 [(1, a0), (1, a1), (1, 5)] m r75 m76 := q77
    obtain ⟨v78, rfl, zv78⟩ := Run_z q77 rfl
    have h : MR X ρ 4 0 0 qP53 N 16 [a0, a1, a2, 0] [(1, v78)] m76 o := h
    refine ⟨v78, m76, q77, zv78, ?_⟩
    rcases MR_if h rfl rfl with ⟨c79, h⟩ | ⟨c79, h⟩
    ·
      have c79 : v78 = 0 := c79
      refine Or.inl ⟨c79, ?_⟩
      have h : MR X ρ 4 0 0 qP53 N 44 [a0, a1, a2, 0] [] m76 o := h
      have h := CR_iconst h rfl rfl
      have h : MR X ρ 4 0 0 qP53 N 45 [a0, a1, a2, 0] [(1, 0)] m76 o := h
      exact CR_end h rfl rfl
    ·
      have c79 : ¬ (v78 = 0) := c79
      refine Or.inr ⟨c79, ?_⟩
      have h : MR X ρ 4 0 0 qP53 N 19 [a0, a1, a2, 0] [] m76 o := h
      have h := CR_aload_n h rfl
      have h : MR X ρ 4 0 0 qP53 N 20 [a0, a1, a2, 0] [(1, a0)] m76 o := h
      have h := CR_aload_n h rfl
      have h : MR X ρ 4 0 0 qP53 N 21 [a0, a1, a2, 0] [(1, a1), (1, a0)] m76 o := h
      have h := CR_aload_n h rfl
      have h : MR X ρ 4 0 0 qP53 N 22 [a0, a1, a2, 0] [(1, a2), (1, a1), (1, a0)] m76 o := h
      have h := CR_aload_n h rfl
      have h : MR X ρ 4 0 0 qP53 N 23 [a0, a1, a2, 0] [(1, a0), (1, a2), (1, a1), (1, a0)] m76 o := h
      have h := CR_getf h rfl (by decide)
      have h : MR X ρ 4 0 0 qP53 N 26 [a0, a1, a2, 0] [(1, m76 a0 1), (1, a2), (1, a1), (1, a0)] m76 o := h
      obtain ⟨r80, m81, q82, h⟩ := MR_invV h rfl rfl
      have q82 : Run X ρ 52 [(1, a0), (1, a1), (1, a2), (1, m76 a0 1)] m76 r80 m81 := q82
      obtain ⟨v83, rfl, zv83⟩ := Run_z q82 rfl
      have h : MR X ρ 4 0 0 qP53 N 29 [a0, a1, a2, 0] [(1, v83)] m81 o := h
      refine ⟨v83, m81, q82, zv83, ?_⟩
      rcases MR_if h rfl rfl with ⟨c84, h⟩ | ⟨c84, h⟩
      ·
        have c84 : v83 = 0 := c84
        refine Or.inl ⟨c84, ?_⟩
        have h : MR X ρ 4 0 0 qP53 N 44 [a0, a1, a2, 0] [] m81 o := h
        have h := CR_iconst h rfl rfl
        have h : MR X ρ 4 0 0 qP53 N 45 [a0, a1, a2, 0] [(1, 0)] m81 o := h
        exact CR_end h rfl rfl
      ·
        have c84 : ¬ (v83 = 0) := c84
        refine Or.inr ⟨c84, ?_⟩
        have h : MR X ρ 4 0 0 qP53 N 32 [a0, a1, a2, 0] [] m81 o := h
        have h := CR_aload_n h rfl
        have h : MR X ρ 4 0 0 qP53 N 33 [a0, a1, a2, 0] [(1, a0)] m81 o := h
        have h := CR_aload_n h rfl
        have h : MR X ρ 4 0 0 qP53 N 34 [a0, a1, a2, 0] [(1, a1), (1, a0)] m81 o := h
        obtain ⟨r85, m86, q87, h⟩ := MR_invV h rfl rfl
        have q87 : Run X ρ 46 [(1, a0), (1, a1)] m81 r85 m86 := q87
        obtain ⟨v88, rfl, zv88⟩ := Run_z q87 rfl
        have h : MR X ρ 4 0 0 qP53 N 37 [a0, a1, a2, 0] [(1, v88)] m86 o := h
        refine ⟨v88, m86, q87, zv88, ?_⟩
        rcases MR_if h rfl rfl with ⟨c89, h⟩ | ⟨c89, h⟩
        ·
          have c89 : v88 = 0 := c89
          refine Or.inl ⟨c89, ?_⟩
          have h : MR X ρ 4 0 0 qP53 N 44 [a0, a1, a2, 0] [] m86 o := h
          have h := CR_iconst h rfl rfl
          have h : MR X ρ 4 0 0 qP53 N 45 [a0, a1, a2, 0] [(1, 0)] m86 o := h
          exact CR_end h rfl rfl
        ·
          have c89 : ¬ (v88 = 0) := c89
          refine Or.inr ⟨c89, ?_⟩
          have h : MR X ρ 4 0 0 qP53 N 40 [a0, a1, a2, 0] [] m86 o := h
          have h := CR_iconst h rfl rfl
          have h : MR X ρ 4 0 0 qP53 N 41 [a0, a1, a2, 0] [(1, 1)] m86 o := h
          have h := CR_go h rfl rfl
          have h : MR X ρ 4 0 0 qP53 N 45 [a0, a1, a2, 0] [(1, 1)] m86 o := h
          exact CR_end h rfl rfl
set_option maxRecDepth 16384 in
theorem k71_0 {X : KO} {ρ : Nat → Int32} {m : MM} {N : Nat} {o : Instr × List (Nat × Int) × MM} {a0 a1 : Int} (h : MR X ρ 3 0 0 qP71 N 0 [a0, a1, 0] [] m o) : ((((f153 m a1) = 0) ∧ (∃ y19, y19 = g158 m a1 1 ∧ (o = (.ireturn, [(1, -1)], y19)))) ∨ (¬ ((f153 m a1) = 0) ∧ (∃ v23 m21, Run X ρ 70 [(1, a0), (2, m a1 7)] m [(1, v23)] m21 ∧ (((v23 = (-1)) ∧ ((((f153 m21 a1) = 0) ∧ (∃ y36, y36 = g158 m21 a1 1 ∧ (o = (.ireturn, [(1, v23)], y36)))) ∨ (¬ ((f153 m21 a1) = 0) ∧ (∃ y42, y42 = g158 m21 a1 3 ∧ (o = (.ireturn, [(1, v23)], y42)))))) ∨ (¬ (v23 = (-1)) ∧ (o = (.ireturn, [(1, v23)], m21))))))) := by
  have h := CR_aload_n h rfl
  have h : MR X ρ 3 0 0 qP71 N 1 [a0, a1, 0] [(1, a1)] m o := h
  obtain ⟨r1, m2, q3, h⟩ := MR_invV h rfl rfl
  have q3 : Run X ρ 153 [(1, a1)] m r1 m2 := q3
  obtain ⟨e4, e5⟩ := d153 q3
  rw [e4, e5] at h
  have h : MR X ρ 3 0 0 qP71 N 4 [a0, a1, 0] [(1, f153 m a1)] m o := h
  rcases MR_if h rfl rfl with ⟨c6, h⟩ | ⟨c6, h⟩
  ·
    have c6 : (f153 m a1) = 0 := c6
    refine Or.inl ⟨c6, ?_⟩
    have h : MR X ρ 3 0 0 qP71 N 18 [a0, a1, 0] [] m o := h
    have h := CR_iconst h rfl rfl
    have h : MR X ρ 3 0 0 qP71 N 19 [a0, a1, 0] [(1, -1)] m o := h
    have h := CR_istore_n h rfl (Nat.le_of_ble_eq_true rfl)
    have h : MR X ρ 3 0 0 qP71 N 20 [a0, a1, -1] [] m o := h
    have h := CR_iload_n h rfl
    have h : MR X ρ 3 0 0 qP71 N 21 [a0, a1, -1] [(1, -1)] m o := h
    have h := CR_iconst h rfl rfl
    have h : MR X ρ 3 0 0 qP71 N 22 [a0, a1, -1] [(1, -1), (1, -1)] m o := h
    rcases MR_icmp h rfl rfl with ⟨c7, h⟩ | ⟨c7, h⟩
    · exact absurd c7 (by unfold cdP; decide)
    ·
      have h : MR X ρ 3 0 0 qP71 N 25 [a0, a1, -1] [] m o := h
      have h := CR_aload_n h rfl
      have h : MR X ρ 3 0 0 qP71 N 26 [a0, a1, -1] [(1, a1)] m o := h
      have h := CR_aload_n h rfl
      have h : MR X ρ 3 0 0 qP71 N 27 [a0, a1, -1] [(1, a1), (1, a1)] m o := h
      obtain ⟨r8, m9, q10, h⟩ := MR_invV h rfl rfl
      have q10 : Run X ρ 153 [(1, a1)] m r8 m9 := q10
      obtain ⟨e11, e12⟩ := d153 q10
      rw [e11, e12] at h
      have h : MR X ρ 3 0 0 qP71 N 30 [a0, a1, -1] [(1, f153 m a1), (1, a1)] m o := h
      rcases MR_if h rfl rfl with ⟨c13, h⟩ | ⟨c13, h⟩
      ·
        have h : MR X ρ 3 0 0 qP71 N 37 [a0, a1, -1] [(1, a1)] m o := h
        have h := CR_iconst h rfl rfl
        have h : MR X ρ 3 0 0 qP71 N 38 [a0, a1, -1] [(1, 1), (1, a1)] m o := h
        obtain ⟨r14, m15, q16, h⟩ := MR_invV h rfl rfl
        have q16 : Run X ρ 158 [(1, a1), (1, 1)] m r14 m15 := q16
        obtain ⟨e17, e18⟩ := d158 q16
        rw [e17, e18] at h
        have h : MR X ρ 3 0 0 qP71 N 41 [a0, a1, -1] [(1, f158 m a1 1)] (g158 m a1 1) o := h
        obtain ⟨y19, zy19, h⟩ : ∃ y, y = g158 m a1 1 ∧ MR X ρ 3 0 0 qP71 N 41 [a0, a1, -1] [(1, f158 m a1 1)] y o := ⟨_, rfl, h⟩
        have h : MR X ρ 3 0 0 qP71 N 41 [a0, a1, -1] [(1, f158 m a1 1)] y19 o := h
        refine ⟨y19, zy19, ?_⟩
        have h := CR_pop h rfl
        have h : MR X ρ 3 0 0 qP71 N 42 [a0, a1, -1] [] y19 o := h
        have h := CR_iload_n h rfl
        have h : MR X ρ 3 0 0 qP71 N 43 [a0, a1, -1] [(1, -1)] y19 o := h
        exact CR_end h rfl rfl
      · exact absurd c6 (show ¬ ((f153 m a1) = 0) from c13)
  ·
    have c6 : ¬ ((f153 m a1) = 0) := c6
    refine Or.inr ⟨c6, ?_⟩
    have h : MR X ρ 3 0 0 qP71 N 7 [a0, a1, 0] [] m o := h
    have h := CR_aload_n h rfl
    have h : MR X ρ 3 0 0 qP71 N 8 [a0, a1, 0] [(1, a0)] m o := h
    have h := CR_aload_n h rfl
    have h : MR X ρ 3 0 0 qP71 N 9 [a0, a1, 0] [(1, a1), (1, a0)] m o := h
    have h := CR_getf h rfl (by decide)
    have h : MR X ρ 3 0 0 qP71 N 12 [a0, a1, 0] [(2, m a1 7), (1, a0)] m o := h
    obtain ⟨r20, m21, q22, h⟩ := MR_invV h rfl rfl
    have q22 : Run X ρ 70 [(1, a0), (2, m a1 7)] m r20 m21 := q22
    obtain ⟨v23, rfl⟩ := Run_i q22 rfl
    have h : MR X ρ 3 0 0 qP71 N 15 [a0, a1, 0] [(1, v23)] m21 o := h
    refine ⟨v23, m21, q22, ?_⟩
    have h := CR_go h rfl rfl
    have h : MR X ρ 3 0 0 qP71 N 19 [a0, a1, 0] [(1, v23)] m21 o := h
    have h := CR_istore_n h rfl (Nat.le_of_ble_eq_true rfl)
    have h : MR X ρ 3 0 0 qP71 N 20 [a0, a1, v23] [] m21 o := h
    have h := CR_iload_n h rfl
    have h : MR X ρ 3 0 0 qP71 N 21 [a0, a1, v23] [(1, v23)] m21 o := h
    have h := CR_iconst h rfl rfl
    have h : MR X ρ 3 0 0 qP71 N 22 [a0, a1, v23] [(1, -1), (1, v23)] m21 o := h
    rcases MR_icmp h rfl rfl with ⟨c24, h⟩ | ⟨c24, h⟩
    ·
      have c24 : ¬ (v23 = (-1)) := c24
      refine Or.inr ⟨c24, ?_⟩
      have h : MR X ρ 3 0 0 qP71 N 42 [a0, a1, v23] [] m21 o := h
      have h := CR_iload_n h rfl
      have h : MR X ρ 3 0 0 qP71 N 43 [a0, a1, v23] [(1, v23)] m21 o := h
      exact CR_end h rfl rfl
    ·
      have c24 : v23 = (-1) := Decidable.of_not_not (show ¬ ¬ (v23 = (-1)) from c24)
      refine Or.inl ⟨c24, ?_⟩
      have h : MR X ρ 3 0 0 qP71 N 25 [a0, a1, v23] [] m21 o := h
      have h := CR_aload_n h rfl
      have h : MR X ρ 3 0 0 qP71 N 26 [a0, a1, v23] [(1, a1)] m21 o := h
      have h := CR_aload_n h rfl
      have h : MR X ρ 3 0 0 qP71 N 27 [a0, a1, v23] [(1, a1), (1, a1)] m21 o := h
      obtain ⟨r25, m26, q27, h⟩ := MR_invV h rfl rfl
      have q27 : Run X ρ 153 [(1, a1)] m21 r25 m26 := q27
      obtain ⟨e28, e29⟩ := d153 q27
      rw [e28, e29] at h
      have h : MR X ρ 3 0 0 qP71 N 30 [a0, a1, v23] [(1, f153 m21 a1), (1, a1)] m21 o := h
      rcases MR_if h rfl rfl with ⟨c30, h⟩ | ⟨c30, h⟩
      ·
        have c30 : (f153 m21 a1) = 0 := c30
        refine Or.inl ⟨c30, ?_⟩
        have h : MR X ρ 3 0 0 qP71 N 37 [a0, a1, v23] [(1, a1)] m21 o := h
        have h := CR_iconst h rfl rfl
        have h : MR X ρ 3 0 0 qP71 N 38 [a0, a1, v23] [(1, 1), (1, a1)] m21 o := h
        obtain ⟨r31, m32, q33, h⟩ := MR_invV h rfl rfl
        have q33 : Run X ρ 158 [(1, a1), (1, 1)] m21 r31 m32 := q33
        obtain ⟨e34, e35⟩ := d158 q33
        rw [e34, e35] at h
        have h : MR X ρ 3 0 0 qP71 N 41 [a0, a1, v23] [(1, f158 m21 a1 1)] (g158 m21 a1 1) o := h
        obtain ⟨y36, zy36, h⟩ : ∃ y, y = g158 m21 a1 1 ∧ MR X ρ 3 0 0 qP71 N 41 [a0, a1, v23] [(1, f158 m21 a1 1)] y o := ⟨_, rfl, h⟩
        have h : MR X ρ 3 0 0 qP71 N 41 [a0, a1, v23] [(1, f158 m21 a1 1)] y36 o := h
        refine ⟨y36, zy36, ?_⟩
        have h := CR_pop h rfl
        have h : MR X ρ 3 0 0 qP71 N 42 [a0, a1, v23] [] y36 o := h
        have h := CR_iload_n h rfl
        have h : MR X ρ 3 0 0 qP71 N 43 [a0, a1, v23] [(1, v23)] y36 o := h
        exact CR_end h rfl rfl
      ·
        have c30 : ¬ ((f153 m21 a1) = 0) := c30
        refine Or.inr ⟨c30, ?_⟩
        have h : MR X ρ 3 0 0 qP71 N 33 [a0, a1, v23] [(1, a1)] m21 o := h
        have h := CR_iconst h rfl rfl
        have h : MR X ρ 3 0 0 qP71 N 34 [a0, a1, v23] [(1, 3), (1, a1)] m21 o := h
        have h := CR_go h rfl rfl
        have h : MR X ρ 3 0 0 qP71 N 38 [a0, a1, v23] [(1, 3), (1, a1)] m21 o := h
        obtain ⟨r37, m38, q39, h⟩ := MR_invV h rfl rfl
        have q39 : Run X ρ 158 [(1, a1), (1, 3)] m21 r37 m38 := q39
        obtain ⟨e40, e41⟩ := d158 q39
        rw [e40, e41] at h
        have h : MR X ρ 3 0 0 qP71 N 41 [a0, a1, v23] [(1, f158 m21 a1 3)] (g158 m21 a1 3) o := h
        obtain ⟨y42, zy42, h⟩ : ∃ y, y = g158 m21 a1 3 ∧ MR X ρ 3 0 0 qP71 N 41 [a0, a1, v23] [(1, f158 m21 a1 3)] y o := ⟨_, rfl, h⟩
        have h : MR X ρ 3 0 0 qP71 N 41 [a0, a1, v23] [(1, f158 m21 a1 3)] y42 o := h
        refine ⟨y42, zy42, ?_⟩
        have h := CR_pop h rfl
        have h : MR X ρ 3 0 0 qP71 N 42 [a0, a1, v23] [] y42 o := h
        have h := CR_iload_n h rfl
        have h : MR X ρ 3 0 0 qP71 N 43 [a0, a1, v23] [(1, v23)] y42 o := h
        exact CR_end h rfl rfl
set_option maxRecDepth 16384 in
theorem k248_0 {X : KO} {ρ : Nat → Int32} {m : MM} {N : Nat} {o : Instr × List (Nat × Int) × MM} {a0 : Int} (h : MR X ρ 1 0 0 qP248 N 0 [a0] [] m o) : (∃ v4 m2, Run X ρ 251 [(1, a0), (1, 8), (1, m (m a0 14) 1)] m [(1, v4)] m2 ∧ (v4 = 0 ∨ v4 = 1) ∧ (o = (.ireturn, [(1, v4)], m2))) := by
  have h := CR_aload_n h rfl
  have h : MR X ρ 1 0 0 qP248 N 1 [a0] [(1, a0)] m o := h
  have h := CR_bipush h rfl rfl
  have h : MR X ρ 1 0 0 qP248 N 3 [a0] [(1, 8), (1, a0)] m o := h
  have h := CR_aload_n h rfl
  have h : MR X ρ 1 0 0 qP248 N 4 [a0] [(1, a0), (1, 8), (1, a0)] m o := h
  have h := CR_getf h rfl (by decide)
  have h : MR X ρ 1 0 0 qP248 N 7 [a0] [(1, m a0 14), (1, 8), (1, a0)] m o := h
  have h := CR_iconst h rfl rfl
  have h : MR X ρ 1 0 0 qP248 N 8 [a0] [(1, 1), (1, m a0 14), (1, 8), (1, a0)] m o := h
  have h := CR_iaload h rfl rfl
  have h : MR X ρ 1 0 0 qP248 N 9 [a0] [(1, m (m a0 14) 1), (1, 8), (1, a0)] m o := h
  obtain ⟨r1, m2, q3, h⟩ := MR_invV h rfl rfl
  have q3 : Run X ρ 251 [(1, a0), (1, 8), (1, m (m a0 14) 1)] m r1 m2 := q3
  obtain ⟨v4, rfl, zv4⟩ := Run_z q3 rfl
  have h : MR X ρ 1 0 0 qP248 N 12 [a0] [(1, v4)] m2 o := h
  refine ⟨v4, m2, q3, zv4, ?_⟩
  exact CR_end h rfl rfl
set_option maxRecDepth 16384 in
theorem k259_0 {X : KO} {ρ : Nat → Int32} {m : MM} {N : Nat} {o : Instr × List (Nat × Int) × MM} {a0 : Int} (h : MR X ρ 1 0 0 qP259 N 0 [a0] [] m o) : (∃ v4 m2, Run X ρ 251 [(1, a0), (1, 0), (1, m (m a0 14) 0)] m [(1, v4)] m2 ∧ (v4 = 0 ∨ v4 = 1) ∧ (o = (.ireturn, [(1, v4)], m2))) := by
  have h := CR_aload_n h rfl
  have h : MR X ρ 1 0 0 qP259 N 1 [a0] [(1, a0)] m o := h
  have h := CR_iconst h rfl rfl
  have h : MR X ρ 1 0 0 qP259 N 2 [a0] [(1, 0), (1, a0)] m o := h
  have h := CR_aload_n h rfl
  have h : MR X ρ 1 0 0 qP259 N 3 [a0] [(1, a0), (1, 0), (1, a0)] m o := h
  have h := CR_getf h rfl (by decide)
  have h : MR X ρ 1 0 0 qP259 N 6 [a0] [(1, m a0 14), (1, 0), (1, a0)] m o := h
  have h := CR_iconst h rfl rfl
  have h : MR X ρ 1 0 0 qP259 N 7 [a0] [(1, 0), (1, m a0 14), (1, 0), (1, a0)] m o := h
  have h := CR_iaload h rfl rfl
  have h : MR X ρ 1 0 0 qP259 N 8 [a0] [(1, m (m a0 14) 0), (1, 0), (1, a0)] m o := h
  obtain ⟨r1, m2, q3, h⟩ := MR_invV h rfl rfl
  have q3 : Run X ρ 251 [(1, a0), (1, 0), (1, m (m a0 14) 0)] m r1 m2 := q3
  obtain ⟨v4, rfl, zv4⟩ := Run_z q3 rfl
  have h : MR X ρ 1 0 0 qP259 N 11 [a0] [(1, v4)] m2 o := h
  refine ⟨v4, m2, q3, zv4, ?_⟩
  exact CR_end h rfl rfl
set_option maxRecDepth 16384 in
theorem k251_0 {X : KO} {ρ : Nat → Int32} {m : MM} {N : Nat} {o : Instr × List (Nat × Int) × MM} {a0 a1 a2 : Int} (h : MR X ρ 3 0 0 qP251 N 0 [a0, a1, a2] [] m o) : (∃ v4 m2, Run X ρ 211 [(1, a0)] m [(1, v4)] m2 ∧ (v4 = 0 ∨ v4 = 1) ∧ (((v4 = 0) ∧ (∃ y26, y26 = g168 m2 a0 1 ∧ (o = (.ireturn, [(1, f168 m2 a0 1)], y26)))) ∨ (¬ (v4 = 0) ∧ (∃ v9 m7, Run X ρ 190 [(1, m2 a0 19), (1, a1), (1, a2), (2, m2 a0 12)] m2 [(1, v9)] m7 ∧ (∃ y10, y10 = mu m7 a0 13 v9 ∧ ((((y10 a0 13) = (-1)) ∧ (∃ y20, y20 = g168 y10 a0 3 ∧ (o = (.ireturn, [(1, f168 y10 a0 3)], y20)))) ∨ (¬ ((y10 a0 13) = (-1)) ∧ (∃ m13, Run X ρ 195 [(1, a0)] y10 [] m13 ∧ (o = (.ireturn, [(1, 1)], m13)))))))))) := by
  have h := CR_aload_n h rfl
  have h : MR X ρ 3 0 0 qP251 N 1 [a0, a1, a2] [(1, a0)] m o := h
  obtain ⟨r1, m2, q3, h⟩ := MR_invV h rfl rfl
  have q3 : Run X ρ 211 [(1, a0)] m r1 m2 := q3
  obtain ⟨v4, rfl, zv4⟩ := Run_z q3 rfl
  have h : MR X ρ 3 0 0 qP251 N 4 [a0, a1, a2] [(1, v4)] m2 o := h
  refine ⟨v4, m2, q3, zv4, ?_⟩
  rcases MR_if h rfl rfl with ⟨c5, h⟩ | ⟨c5, h⟩
  ·
    have c5 : ¬ (v4 = 0) := c5
    refine Or.inr ⟨c5, ?_⟩
    have h : MR X ρ 3 0 0 qP251 N 13 [a0, a1, a2] [] m2 o := h
    have h := CR_aload_n h rfl
    have h : MR X ρ 3 0 0 qP251 N 14 [a0, a1, a2] [(1, a0)] m2 o := h
    have h := CR_aload_n h rfl
    have h : MR X ρ 3 0 0 qP251 N 15 [a0, a1, a2] [(1, a0), (1, a0)] m2 o := h
    have h := CR_getf h rfl (by decide)
    have h : MR X ρ 3 0 0 qP251 N 18 [a0, a1, a2] [(1, m2 a0 19), (1, a0)] m2 o := h
    have h := CR_iload_n h rfl
    have h : MR X ρ 3 0 0 qP251 N 19 [a0, a1, a2] [(1, a1), (1, m2 a0 19), (1, a0)] m2 o := h
    have h := CR_iload_n h rfl
    have h : MR X ρ 3 0 0 qP251 N 20 [a0, a1, a2] [(1, a2), (1, a1), (1, m2 a0 19), (1, a0)] m2 o := h
    have h := CR_aload_n h rfl
    have h : MR X ρ 3 0 0 qP251 N 21 [a0, a1, a2] [(1, a0), (1, a2), (1, a1), (1, m2 a0 19), (1, a0)] m2 o := h
    have h := CR_getf h rfl (by decide)
    have h : MR X ρ 3 0 0 qP251 N 24 [a0, a1, a2] [(2, m2 a0 12), (1, a2), (1, a1), (1, m2 a0 19), (1, a0)] m2 o := h
    obtain ⟨r6, m7, q8, h⟩ := MR_invS h rfl rfl
    have q8 : Run X ρ 190 [(1, m2 a0 19), (1, a1), (1, a2), (2, m2 a0 12)] m2 r6 m7 := q8
    obtain ⟨v9, rfl⟩ := Run_i q8 rfl
    have h : MR X ρ 3 0 0 qP251 N 27 [a0, a1, a2] [(1, v9), (1, a0)] m7 o := h
    refine ⟨v9, m7, q8, ?_⟩
    have h := CR_putf h rfl
    have h : MR X ρ 3 0 0 qP251 N 30 [a0, a1, a2] [] (mu m7 a0 13 v9) o := h
    obtain ⟨y10, zy10, h⟩ : ∃ y, y = mu m7 a0 13 v9 ∧ MR X ρ 3 0 0 qP251 N 30 [a0, a1, a2] [] y o := ⟨_, rfl, h⟩
    have h : MR X ρ 3 0 0 qP251 N 30 [a0, a1, a2] [] y10 o := h
    refine ⟨y10, zy10, ?_⟩
    have h := CR_aload_n h rfl
    have h : MR X ρ 3 0 0 qP251 N 31 [a0, a1, a2] [(1, a0)] y10 o := h
    have h := CR_getf h rfl (by decide)
    have h : MR X ρ 3 0 0 qP251 N 34 [a0, a1, a2] [(1, y10 a0 13)] y10 o := h
    have h := CR_iconst h rfl rfl
    have h : MR X ρ 3 0 0 qP251 N 35 [a0, a1, a2] [(1, -1), (1, y10 a0 13)] y10 o := h
    rcases MR_icmp h rfl rfl with ⟨c11, h⟩ | ⟨c11, h⟩
    ·
      have c11 : ¬ ((y10 a0 13) = (-1)) := c11
      refine Or.inr ⟨c11, ?_⟩
      have h : MR X ρ 3 0 0 qP251 N 44 [a0, a1, a2] [] y10 o := h
      have h := CR_aload_n h rfl
      have h : MR X ρ 3 0 0 qP251 N 45 [a0, a1, a2] [(1, a0)] y10 o := h
      obtain ⟨r12, m13, q14, h⟩ := MR_invV h rfl rfl
      have q14 : Run X ρ 195 [(1, a0)] y10 r12 m13 := q14
      obtain rfl := Run_v q14 rfl
      have h : MR X ρ 3 0 0 qP251 N 48 [a0, a1, a2] [] m13 o := h
      refine ⟨m13, q14, ?_⟩
      have h := CR_iconst h rfl rfl
      have h : MR X ρ 3 0 0 qP251 N 49 [a0, a1, a2] [(1, 1)] m13 o := h
      exact CR_end h rfl rfl
    ·
      have c11 : (y10 a0 13) = (-1) := Decidable.of_not_not (show ¬ ¬ ((y10 a0 13) = (-1)) from c11)
      refine Or.inl ⟨c11, ?_⟩
      have h : MR X ρ 3 0 0 qP251 N 38 [a0, a1, a2] [] y10 o := h
      have h := CR_aload_n h rfl
      have h : MR X ρ 3 0 0 qP251 N 39 [a0, a1, a2] [(1, a0)] y10 o := h
      have h := CR_iconst h rfl rfl
      have h : MR X ρ 3 0 0 qP251 N 40 [a0, a1, a2] [(1, 3), (1, a0)] y10 o := h
      obtain ⟨r15, m16, q17, h⟩ := MR_invV h rfl rfl
      have q17 : Run X ρ 168 [(1, a0), (1, 3)] y10 r15 m16 := q17
      obtain ⟨e18, e19⟩ := d168 q17
      rw [e18, e19] at h
      have h : MR X ρ 3 0 0 qP251 N 43 [a0, a1, a2] [(1, f168 y10 a0 3)] (g168 y10 a0 3) o := h
      obtain ⟨y20, zy20, h⟩ : ∃ y, y = g168 y10 a0 3 ∧ MR X ρ 3 0 0 qP251 N 43 [a0, a1, a2] [(1, f168 y10 a0 3)] y o := ⟨_, rfl, h⟩
      have h : MR X ρ 3 0 0 qP251 N 43 [a0, a1, a2] [(1, f168 y10 a0 3)] y20 o := h
      refine ⟨y20, zy20, ?_⟩
      exact CR_end h rfl rfl
  ·
    have c5 : v4 = 0 := Decidable.of_not_not (show ¬ ¬ (v4 = 0) from c5)
    refine Or.inl ⟨c5, ?_⟩
    have h : MR X ρ 3 0 0 qP251 N 7 [a0, a1, a2] [] m2 o := h
    have h := CR_aload_n h rfl
    have h : MR X ρ 3 0 0 qP251 N 8 [a0, a1, a2] [(1, a0)] m2 o := h
    have h := CR_iconst h rfl rfl
    have h : MR X ρ 3 0 0 qP251 N 9 [a0, a1, a2] [(1, 1), (1, a0)] m2 o := h
    obtain ⟨r21, m22, q23, h⟩ := MR_invV h rfl rfl
    have q23 : Run X ρ 168 [(1, a0), (1, 1)] m2 r21 m22 := q23
    obtain ⟨e24, e25⟩ := d168 q23
    rw [e24, e25] at h
    have h : MR X ρ 3 0 0 qP251 N 12 [a0, a1, a2] [(1, f168 m2 a0 1)] (g168 m2 a0 1) o := h
    obtain ⟨y26, zy26, h⟩ : ∃ y, y = g168 m2 a0 1 ∧ MR X ρ 3 0 0 qP251 N 12 [a0, a1, a2] [(1, f168 m2 a0 1)] y o := ⟨_, rfl, h⟩
    have h : MR X ρ 3 0 0 qP251 N 12 [a0, a1, a2] [(1, f168 m2 a0 1)] y26 o := h
    refine ⟨y26, zy26, ?_⟩
    exact CR_end h rfl rfl
set_option maxRecDepth 16384 in
theorem k241_0 {X : KO} {ρ : Nat → Int32} {m : MM} {N : Nat} {o : Instr × List (Nat × Int) × MM} {a0 : Int} (h : MR X ρ 6 0 0 qP241 N 0 [a0, 0, 0, 0, 0, 0] [] m o) : ((((f217 m a0 13) = 0) ∧ ((((f217 m a0 14) = 0) ∧ ((((f217 m a0 15) = 0) ∧ (MR X ρ 6 0 0 qP241 N 40 [a0, f217 m a0 13, f217 m a0 14, f217 m a0 15, 1, 0] [] m o)) ∨ (¬ ((f217 m a0 15) = 0) ∧ (MR X ρ 6 0 0 qP241 N 40 [a0, f217 m a0 13, f217 m a0 14, f217 m a0 15, 0, 0] [] m o)))) ∨ (¬ ((f217 m a0 14) = 0) ∧ (MR X ρ 6 0 0 qP241 N 40 [a0, f217 m a0 13, f217 m a0 14, f217 m a0 15, 0, 0] [] m o)))) ∨ (¬ ((f217 m a0 13) = 0) ∧ (MR X ρ 6 0 0 qP241 N 40 [a0, f217 m a0 13, f217 m a0 14, f217 m a0 15, 0, 0] [] m o))) := by
  have h := CR_aload_n h rfl
  have h : MR X ρ 6 0 0 qP241 N 1 [a0, 0, 0, 0, 0, 0] [(1, a0)] m o := h
  have h := CR_bipush h rfl rfl
  have h : MR X ρ 6 0 0 qP241 N 3 [a0, 0, 0, 0, 0, 0] [(1, 13), (1, a0)] m o := h
  obtain ⟨r1, m2, q3, h⟩ := MR_invV h rfl rfl
  have q3 : Run X ρ 217 [(1, a0), (1, 13)] m r1 m2 := q3
  obtain ⟨e4, e5⟩ := d217 q3
  rw [e4, e5] at h
  have h : MR X ρ 6 0 0 qP241 N 6 [a0, 0, 0, 0, 0, 0] [(1, f217 m a0 13)] m o := h
  have h := CR_istore_n h rfl (Nat.le_of_ble_eq_true rfl)
  have h : MR X ρ 6 0 0 qP241 N 7 [a0, f217 m a0 13, 0, 0, 0, 0] [] m o := h
  have h := CR_aload_n h rfl
  have h : MR X ρ 6 0 0 qP241 N 8 [a0, f217 m a0 13, 0, 0, 0, 0] [(1, a0)] m o := h
  have h := CR_bipush h rfl rfl
  have h : MR X ρ 6 0 0 qP241 N 10 [a0, f217 m a0 13, 0, 0, 0, 0] [(1, 14), (1, a0)] m o := h
  obtain ⟨r6, m7, q8, h⟩ := MR_invV h rfl rfl
  have q8 : Run X ρ 217 [(1, a0), (1, 14)] m r6 m7 := q8
  obtain ⟨e9, e10⟩ := d217 q8
  rw [e9, e10] at h
  have h : MR X ρ 6 0 0 qP241 N 13 [a0, f217 m a0 13, 0, 0, 0, 0] [(1, f217 m a0 14)] m o := h
  have h := CR_istore_n h rfl (Nat.le_of_ble_eq_true rfl)
  have h : MR X ρ 6 0 0 qP241 N 14 [a0, f217 m a0 13, f217 m a0 14, 0, 0, 0] [] m o := h
  have h := CR_aload_n h rfl
  have h : MR X ρ 6 0 0 qP241 N 15 [a0, f217 m a0 13, f217 m a0 14, 0, 0, 0] [(1, a0)] m o := h
  have h := CR_bipush h rfl rfl
  have h : MR X ρ 6 0 0 qP241 N 17 [a0, f217 m a0 13, f217 m a0 14, 0, 0, 0] [(1, 15), (1, a0)] m o := h
  obtain ⟨r11, m12, q13, h⟩ := MR_invV h rfl rfl
  have q13 : Run X ρ 217 [(1, a0), (1, 15)] m r11 m12 := q13
  obtain ⟨e14, e15⟩ := d217 q13
  rw [e14, e15] at h
  have h : MR X ρ 6 0 0 qP241 N 20 [a0, f217 m a0 13, f217 m a0 14, 0, 0, 0] [(1, f217 m a0 15)] m o := h
  have h := CR_istore_n h rfl (Nat.le_of_ble_eq_true rfl)
  have h : MR X ρ 6 0 0 qP241 N 21 [a0, f217 m a0 13, f217 m a0 14, f217 m a0 15, 0, 0] [] m o := h
  have h := CR_iload_n h rfl
  have h : MR X ρ 6 0 0 qP241 N 22 [a0, f217 m a0 13, f217 m a0 14, f217 m a0 15, 0, 0] [(1, f217 m a0 13)] m o := h
  rcases MR_if h rfl rfl with ⟨c16, h⟩ | ⟨c16, h⟩
  ·
    have c16 : ¬ ((f217 m a0 13) = 0) := c16
    refine Or.inr ⟨c16, ?_⟩
    have h : MR X ρ 6 0 0 qP241 N 37 [a0, f217 m a0 13, f217 m a0 14, f217 m a0 15, 0, 0] [] m o := h
    have h := CR_iconst h rfl rfl
    have h : MR X ρ 6 0 0 qP241 N 38 [a0, f217 m a0 13, f217 m a0 14, f217 m a0 15, 0, 0] [(1, 0)] m o := h
    have h := CR_istore h rfl (Nat.le_of_ble_eq_true rfl)
    have h : MR X ρ 6 0 0 qP241 N 40 [a0, f217 m a0 13, f217 m a0 14, f217 m a0 15, 0, 0] [] m o := h
    exact h
  ·
    have c16 : (f217 m a0 13) = 0 := Decidable.of_not_not (show ¬ ¬ ((f217 m a0 13) = 0) from c16)
    refine Or.inl ⟨c16, ?_⟩
    have h : MR X ρ 6 0 0 qP241 N 25 [a0, f217 m a0 13, f217 m a0 14, f217 m a0 15, 0, 0] [] m o := h
    have h := CR_iload_n h rfl
    have h : MR X ρ 6 0 0 qP241 N 26 [a0, f217 m a0 13, f217 m a0 14, f217 m a0 15, 0, 0] [(1, f217 m a0 14)] m o := h
    rcases MR_if h rfl rfl with ⟨c17, h⟩ | ⟨c17, h⟩
    ·
      have c17 : ¬ ((f217 m a0 14) = 0) := c17
      refine Or.inr ⟨c17, ?_⟩
      have h : MR X ρ 6 0 0 qP241 N 37 [a0, f217 m a0 13, f217 m a0 14, f217 m a0 15, 0, 0] [] m o := h
      have h := CR_iconst h rfl rfl
      have h : MR X ρ 6 0 0 qP241 N 38 [a0, f217 m a0 13, f217 m a0 14, f217 m a0 15, 0, 0] [(1, 0)] m o := h
      have h := CR_istore h rfl (Nat.le_of_ble_eq_true rfl)
      have h : MR X ρ 6 0 0 qP241 N 40 [a0, f217 m a0 13, f217 m a0 14, f217 m a0 15, 0, 0] [] m o := h
      exact h
    ·
      have c17 : (f217 m a0 14) = 0 := Decidable.of_not_not (show ¬ ¬ ((f217 m a0 14) = 0) from c17)
      refine Or.inl ⟨c17, ?_⟩
      have h : MR X ρ 6 0 0 qP241 N 29 [a0, f217 m a0 13, f217 m a0 14, f217 m a0 15, 0, 0] [] m o := h
      have h := CR_iload_n h rfl
      have h : MR X ρ 6 0 0 qP241 N 30 [a0, f217 m a0 13, f217 m a0 14, f217 m a0 15, 0, 0] [(1, f217 m a0 15)] m o := h
      rcases MR_if h rfl rfl with ⟨c18, h⟩ | ⟨c18, h⟩
      ·
        have c18 : ¬ ((f217 m a0 15) = 0) := c18
        refine Or.inr ⟨c18, ?_⟩
        have h : MR X ρ 6 0 0 qP241 N 37 [a0, f217 m a0 13, f217 m a0 14, f217 m a0 15, 0, 0] [] m o := h
        have h := CR_iconst h rfl rfl
        have h : MR X ρ 6 0 0 qP241 N 38 [a0, f217 m a0 13, f217 m a0 14, f217 m a0 15, 0, 0] [(1, 0)] m o := h
        have h := CR_istore h rfl (Nat.le_of_ble_eq_true rfl)
        have h : MR X ρ 6 0 0 qP241 N 40 [a0, f217 m a0 13, f217 m a0 14, f217 m a0 15, 0, 0] [] m o := h
        exact h
      ·
        have c18 : (f217 m a0 15) = 0 := Decidable.of_not_not (show ¬ ¬ ((f217 m a0 15) = 0) from c18)
        refine Or.inl ⟨c18, ?_⟩
        have h : MR X ρ 6 0 0 qP241 N 33 [a0, f217 m a0 13, f217 m a0 14, f217 m a0 15, 0, 0] [] m o := h
        have h := CR_iconst h rfl rfl
        have h : MR X ρ 6 0 0 qP241 N 34 [a0, f217 m a0 13, f217 m a0 14, f217 m a0 15, 0, 0] [(1, 1)] m o := h
        have h := CR_go h rfl rfl
        have h : MR X ρ 6 0 0 qP241 N 38 [a0, f217 m a0 13, f217 m a0 14, f217 m a0 15, 0, 0] [(1, 1)] m o := h
        have h := CR_istore h rfl (Nat.le_of_ble_eq_true rfl)
        have h : MR X ρ 6 0 0 qP241 N 40 [a0, f217 m a0 13, f217 m a0 14, f217 m a0 15, 1, 0] [] m o := h
        exact h
set_option maxRecDepth 16384 in
theorem k241_40 {X : KO} {ρ : Nat → Int32} {m : MM} {N : Nat} {o : Instr × List (Nat × Int) × MM} {b0 b1 b2 b3 b4 b5 : Int} (h : MR X ρ 6 0 0 qP241 N 40 [b0, b1, b2, b3, b4, b5] [] m o) : (((b4 = 0) ∧ (MR X ρ 6 0 0 qP241 N 86 [b0, b1, b2, b3, b4, b5] [] m o)) ∨ (¬ (b4 = 0) ∧ (∃ v5 m3, Run X ρ 211 [(1, b0)] m [(1, v5)] m3 ∧ (v5 = 0 ∨ v5 = 1) ∧ (((v5 = 0) ∧ (∃ y23, y23 = g168 m3 b0 1 ∧ (o = (.ireturn, [(1, f168 m3 b0 1)], y23)))) ∨ (¬ (v5 = 0) ∧ (∃ v10 m8, Run X ρ 190 [(1, m3 b0 19), (1, 0), (1, m3 (m3 b0 14) 0), (2, m3 b0 12)] m3 [(1, v10)] m8 ∧ (((v10 = (-1)) ∧ (∃ y17, y17 = g168 m8 b0 3 ∧ (o = (.ireturn, [(1, f168 m8 b0 3)], y17)))) ∨ (¬ (v10 = (-1)) ∧ (MR X ρ 6 0 0 qP241 N 86 [b0, b1, b2, b3, b4, b5] [] m8 o))))))))) := by
  have h := CR_iload h rfl
  have h : MR X ρ 6 0 0 qP241 N 42 [b0, b1, b2, b3, b4, b5] [(1, b4)] m o := h
  rcases MR_if h rfl rfl with ⟨c1, h⟩ | ⟨c1, h⟩
  ·
    have c1 : b4 = 0 := c1
    refine Or.inl ⟨c1, ?_⟩
    have h : MR X ρ 6 0 0 qP241 N 86 [b0, b1, b2, b3, b4, b5] [] m o := h
    exact h
  ·
    have c1 : ¬ (b4 = 0) := c1
    refine Or.inr ⟨c1, ?_⟩
    have h : MR X ρ 6 0 0 qP241 N 45 [b0, b1, b2, b3, b4, b5] [] m o := h
    have h := CR_aload_n h rfl
    have h : MR X ρ 6 0 0 qP241 N 46 [b0, b1, b2, b3, b4, b5] [(1, b0)] m o := h
    obtain ⟨r2, m3, q4, h⟩ := MR_invV h rfl rfl
    have q4 : Run X ρ 211 [(1, b0)] m r2 m3 := q4
    obtain ⟨v5, rfl, zv5⟩ := Run_z q4 rfl
    have h : MR X ρ 6 0 0 qP241 N 49 [b0, b1, b2, b3, b4, b5] [(1, v5)] m3 o := h
    refine ⟨v5, m3, q4, zv5, ?_⟩
    rcases MR_if h rfl rfl with ⟨c6, h⟩ | ⟨c6, h⟩
    ·
      have c6 : ¬ (v5 = 0) := c6
      refine Or.inr ⟨c6, ?_⟩
      have h : MR X ρ 6 0 0 qP241 N 58 [b0, b1, b2, b3, b4, b5] [] m3 o := h
      have h := CR_aload_n h rfl
      have h : MR X ρ 6 0 0 qP241 N 59 [b0, b1, b2, b3, b4, b5] [(1, b0)] m3 o := h
      have h := CR_getf h rfl (by decide)
      have h : MR X ρ 6 0 0 qP241 N 62 [b0, b1, b2, b3, b4, b5] [(1, m3 b0 19)] m3 o := h
      have h := CR_iconst h rfl rfl
      have h : MR X ρ 6 0 0 qP241 N 63 [b0, b1, b2, b3, b4, b5] [(1, 0), (1, m3 b0 19)] m3 o := h
      have h := CR_aload_n h rfl
      have h : MR X ρ 6 0 0 qP241 N 64 [b0, b1, b2, b3, b4, b5] [(1, b0), (1, 0), (1, m3 b0 19)] m3 o := h
      have h := CR_getf h rfl (by decide)
      have h : MR X ρ 6 0 0 qP241 N 67 [b0, b1, b2, b3, b4, b5] [(1, m3 b0 14), (1, 0), (1, m3 b0 19)] m3 o := h
      have h := CR_iconst h rfl rfl
      have h : MR X ρ 6 0 0 qP241 N 68 [b0, b1, b2, b3, b4, b5] [(1, 0), (1, m3 b0 14), (1, 0), (1, m3 b0 19)] m3 o := h
      have h := CR_iaload h rfl rfl
      have h : MR X ρ 6 0 0 qP241 N 69 [b0, b1, b2, b3, b4, b5] [(1, m3 (m3 b0 14) 0), (1, 0), (1, m3 b0 19)] m3 o := h
      have h := CR_aload_n h rfl
      have h : MR X ρ 6 0 0 qP241 N 70 [b0, b1, b2, b3, b4, b5] [(1, b0), (1, m3 (m3 b0 14) 0), (1, 0), (1, m3 b0 19)] m3 o := h
      have h := CR_getf h rfl (by decide)
      have h : MR X ρ 6 0 0 qP241 N 73 [b0, b1, b2, b3, b4, b5] [(2, m3 b0 12), (1, m3 (m3 b0 14) 0), (1, 0), (1, m3 b0 19)] m3 o := h
      obtain ⟨r7, m8, q9, h⟩ := MR_invS h rfl rfl
      have q9 : Run X ρ 190 [(1, m3 b0 19), (1, 0), (1, m3 (m3 b0 14) 0), (2, m3 b0 12)] m3 r7 m8 := q9
      obtain ⟨v10, rfl⟩ := Run_i q9 rfl
      have h : MR X ρ 6 0 0 qP241 N 76 [b0, b1, b2, b3, b4, b5] [(1, v10)] m8 o := h
      refine ⟨v10, m8, q9, ?_⟩
      have h := CR_iconst h rfl rfl
      have h : MR X ρ 6 0 0 qP241 N 77 [b0, b1, b2, b3, b4, b5] [(1, -1), (1, v10)] m8 o := h
      rcases MR_icmp h rfl rfl with ⟨c11, h⟩ | ⟨c11, h⟩
      ·
        have c11 : ¬ (v10 = (-1)) := c11
        refine Or.inr ⟨c11, ?_⟩
        have h : MR X ρ 6 0 0 qP241 N 86 [b0, b1, b2, b3, b4, b5] [] m8 o := h
        exact h
      ·
        have c11 : v10 = (-1) := Decidable.of_not_not (show ¬ ¬ (v10 = (-1)) from c11)
        refine Or.inl ⟨c11, ?_⟩
        have h : MR X ρ 6 0 0 qP241 N 80 [b0, b1, b2, b3, b4, b5] [] m8 o := h
        have h := CR_aload_n h rfl
        have h : MR X ρ 6 0 0 qP241 N 81 [b0, b1, b2, b3, b4, b5] [(1, b0)] m8 o := h
        have h := CR_iconst h rfl rfl
        have h : MR X ρ 6 0 0 qP241 N 82 [b0, b1, b2, b3, b4, b5] [(1, 3), (1, b0)] m8 o := h
        obtain ⟨r12, m13, q14, h⟩ := MR_invV h rfl rfl
        have q14 : Run X ρ 168 [(1, b0), (1, 3)] m8 r12 m13 := q14
        obtain ⟨e15, e16⟩ := d168 q14
        rw [e15, e16] at h
        have h : MR X ρ 6 0 0 qP241 N 85 [b0, b1, b2, b3, b4, b5] [(1, f168 m8 b0 3)] (g168 m8 b0 3) o := h
        obtain ⟨y17, zy17, h⟩ : ∃ y, y = g168 m8 b0 3 ∧ MR X ρ 6 0 0 qP241 N 85 [b0, b1, b2, b3, b4, b5] [(1, f168 m8 b0 3)] y o := ⟨_, rfl, h⟩
        have h : MR X ρ 6 0 0 qP241 N 85 [b0, b1, b2, b3, b4, b5] [(1, f168 m8 b0 3)] y17 o := h
        refine ⟨y17, zy17, ?_⟩
        exact CR_end h rfl rfl
    ·
      have c6 : v5 = 0 := Decidable.of_not_not (show ¬ ¬ (v5 = 0) from c6)
      refine Or.inl ⟨c6, ?_⟩
      have h : MR X ρ 6 0 0 qP241 N 52 [b0, b1, b2, b3, b4, b5] [] m3 o := h
      have h := CR_aload_n h rfl
      have h : MR X ρ 6 0 0 qP241 N 53 [b0, b1, b2, b3, b4, b5] [(1, b0)] m3 o := h
      have h := CR_iconst h rfl rfl
      have h : MR X ρ 6 0 0 qP241 N 54 [b0, b1, b2, b3, b4, b5] [(1, 1), (1, b0)] m3 o := h
      obtain ⟨r18, m19, q20, h⟩ := MR_invV h rfl rfl
      have q20 : Run X ρ 168 [(1, b0), (1, 1)] m3 r18 m19 := q20
      obtain ⟨e21, e22⟩ := d168 q20
      rw [e21, e22] at h
      have h : MR X ρ 6 0 0 qP241 N 57 [b0, b1, b2, b3, b4, b5] [(1, f168 m3 b0 1)] (g168 m3 b0 1) o := h
      obtain ⟨y23, zy23, h⟩ : ∃ y, y = g168 m3 b0 1 ∧ MR X ρ 6 0 0 qP241 N 57 [b0, b1, b2, b3, b4, b5] [(1, f168 m3 b0 1)] y o := ⟨_, rfl, h⟩
      have h : MR X ρ 6 0 0 qP241 N 57 [b0, b1, b2, b3, b4, b5] [(1, f168 m3 b0 1)] y23 o := h
      refine ⟨y23, zy23, ?_⟩
      exact CR_end h rfl rfl
set_option maxRecDepth 16384 in
theorem k241_86 {X : KO} {ρ : Nat → Int32} {m : MM} {N : Nat} {o : Instr × List (Nat × Int) × MM} {b0 b1 b2 b3 b4 b5 : Int} (h : MR X ρ 6 0 0 qP241 N 86 [b0, b1, b2, b3, b4, b5] [] m o) : ((((m b0 38) = 40) ∧ (∃ y12, y12 = g168 m b0 4 ∧ (o = (.ireturn, [(1, f168 m b0 4)], y12)))) ∨ (¬ ((m b0 38) = 40) ∧ (((b1 = 0) ∧ (((b2 = 0) ∧ (∃ y4, y4 = mu m (m b0 36) (s32 (3 * (m b0 38))) (s32 7) ∧ (MR X ρ 6 0 0 qP241 N 135 [b0, b1, b2, b3, b4, s32 (3 * (m b0 38))] [] y4 o))) ∨ (¬ (b2 = 0) ∧ (∃ y5, y5 = mu m (m b0 36) (s32 (3 * (m b0 38))) (s32 6) ∧ (MR X ρ 6 0 0 qP241 N 135 [b0, b1, b2, b3, b4, s32 (3 * (m b0 38))] [] y5 o))))) ∨ (¬ (b1 = 0) ∧ (∃ y6, y6 = mu m (m b0 36) (s32 (3 * (m b0 38))) (s32 5) ∧ (MR X ρ 6 0 0 qP241 N 135 [b0, b1, b2, b3, b4, s32 (3 * (m b0 38))] [] y6 o)))))) := by
  have h := CR_aload_n h rfl
  have h : MR X ρ 6 0 0 qP241 N 87 [b0, b1, b2, b3, b4, b5] [(1, b0)] m o := h
  have h := CR_getf h rfl (by decide)
  have h : MR X ρ 6 0 0 qP241 N 90 [b0, b1, b2, b3, b4, b5] [(1, m b0 38)] m o := h
  have h := CR_bipush h rfl rfl
  have h : MR X ρ 6 0 0 qP241 N 92 [b0, b1, b2, b3, b4, b5] [(1, 40), (1, m b0 38)] m o := h
  rcases MR_icmp h rfl rfl with ⟨c1, h⟩ | ⟨c1, h⟩
  ·
    have c1 : ¬ ((m b0 38) = 40) := c1
    refine Or.inr ⟨c1, ?_⟩
    have h : MR X ρ 6 0 0 qP241 N 101 [b0, b1, b2, b3, b4, b5] [] m o := h
    have h := CR_iconst h rfl rfl
    have h : MR X ρ 6 0 0 qP241 N 102 [b0, b1, b2, b3, b4, b5] [(1, 3)] m o := h
    have h := CR_aload_n h rfl
    have h : MR X ρ 6 0 0 qP241 N 103 [b0, b1, b2, b3, b4, b5] [(1, b0), (1, 3)] m o := h
    have h := CR_getf h rfl (by decide)
    have h : MR X ρ 6 0 0 qP241 N 106 [b0, b1, b2, b3, b4, b5] [(1, m b0 38), (1, 3)] m o := h
    have h := CR_imul h rfl
    have h : MR X ρ 6 0 0 qP241 N 107 [b0, b1, b2, b3, b4, b5] [(1, s32 (3 * (m b0 38)))] m o := h
    have h := CR_istore h rfl (Nat.le_of_ble_eq_true rfl)
    have h : MR X ρ 6 0 0 qP241 N 109 [b0, b1, b2, b3, b4, s32 (3 * (m b0 38))] [] m o := h
    have h := CR_aload_n h rfl
    have h : MR X ρ 6 0 0 qP241 N 110 [b0, b1, b2, b3, b4, s32 (3 * (m b0 38))] [(1, b0)] m o := h
    have h := CR_getf h rfl (by decide)
    have h : MR X ρ 6 0 0 qP241 N 113 [b0, b1, b2, b3, b4, s32 (3 * (m b0 38))] [(1, m b0 36)] m o := h
    have h := CR_iload h rfl
    have h : MR X ρ 6 0 0 qP241 N 115 [b0, b1, b2, b3, b4, s32 (3 * (m b0 38))] [(1, s32 (3 * (m b0 38))), (1, m b0 36)] m o := h
    have h := CR_iload_n h rfl
    have h : MR X ρ 6 0 0 qP241 N 116 [b0, b1, b2, b3, b4, s32 (3 * (m b0 38))] [(1, b1), (1, s32 (3 * (m b0 38))), (1, m b0 36)] m o := h
    rcases MR_if h rfl rfl with ⟨c2, h⟩ | ⟨c2, h⟩
    ·
      have c2 : b1 = 0 := c2
      refine Or.inl ⟨c2, ?_⟩
      have h : MR X ρ 6 0 0 qP241 N 123 [b0, b1, b2, b3, b4, s32 (3 * (m b0 38))] [(1, s32 (3 * (m b0 38))), (1, m b0 36)] m o := h
      have h := CR_iload_n h rfl
      have h : MR X ρ 6 0 0 qP241 N 124 [b0, b1, b2, b3, b4, s32 (3 * (m b0 38))] [(1, b2), (1, s32 (3 * (m b0 38))), (1, m b0 36)] m o := h
      rcases MR_if h rfl rfl with ⟨c3, h⟩ | ⟨c3, h⟩
      ·
        have c3 : b2 = 0 := c3
        refine Or.inl ⟨c3, ?_⟩
        have h : MR X ρ 6 0 0 qP241 N 132 [b0, b1, b2, b3, b4, s32 (3 * (m b0 38))] [(1, s32 (3 * (m b0 38))), (1, m b0 36)] m o := h
        have h := CR_bipush h rfl rfl
        have h : MR X ρ 6 0 0 qP241 N 134 [b0, b1, b2, b3, b4, s32 (3 * (m b0 38))] [(1, 7), (1, s32 (3 * (m b0 38))), (1, m b0 36)] m o := h
        have h := CR_iastore_ h rfl
        have h : MR X ρ 6 0 0 qP241 N 135 [b0, b1, b2, b3, b4, s32 (3 * (m b0 38))] [] (mu m (m b0 36) (s32 (3 * (m b0 38))) (s32 7)) o := h
        obtain ⟨y4, zy4, h⟩ : ∃ y, y = mu m (m b0 36) (s32 (3 * (m b0 38))) (s32 7) ∧ MR X ρ 6 0 0 qP241 N 135 [b0, b1, b2, b3, b4, s32 (3 * (m b0 38))] [] y o := ⟨_, rfl, h⟩
        have h : MR X ρ 6 0 0 qP241 N 135 [b0, b1, b2, b3, b4, s32 (3 * (m b0 38))] [] y4 o := h
        refine ⟨y4, zy4, ?_⟩
        exact h
      ·
        have c3 : ¬ (b2 = 0) := c3
        refine Or.inr ⟨c3, ?_⟩
        have h : MR X ρ 6 0 0 qP241 N 127 [b0, b1, b2, b3, b4, s32 (3 * (m b0 38))] [(1, s32 (3 * (m b0 38))), (1, m b0 36)] m o := h
        have h := CR_bipush h rfl rfl
        have h : MR X ρ 6 0 0 qP241 N 129 [b0, b1, b2, b3, b4, s32 (3 * (m b0 38))] [(1, 6), (1, s32 (3 * (m b0 38))), (1, m b0 36)] m o := h
        have h := CR_go h rfl rfl
        have h : MR X ρ 6 0 0 qP241 N 134 [b0, b1, b2, b3, b4, s32 (3 * (m b0 38))] [(1, 6), (1, s32 (3 * (m b0 38))), (1, m b0 36)] m o := h
        have h := CR_iastore_ h rfl
        have h : MR X ρ 6 0 0 qP241 N 135 [b0, b1, b2, b3, b4, s32 (3 * (m b0 38))] [] (mu m (m b0 36) (s32 (3 * (m b0 38))) (s32 6)) o := h
        obtain ⟨y5, zy5, h⟩ : ∃ y, y = mu m (m b0 36) (s32 (3 * (m b0 38))) (s32 6) ∧ MR X ρ 6 0 0 qP241 N 135 [b0, b1, b2, b3, b4, s32 (3 * (m b0 38))] [] y o := ⟨_, rfl, h⟩
        have h : MR X ρ 6 0 0 qP241 N 135 [b0, b1, b2, b3, b4, s32 (3 * (m b0 38))] [] y5 o := h
        refine ⟨y5, zy5, ?_⟩
        exact h
    ·
      have c2 : ¬ (b1 = 0) := c2
      refine Or.inr ⟨c2, ?_⟩
      have h : MR X ρ 6 0 0 qP241 N 119 [b0, b1, b2, b3, b4, s32 (3 * (m b0 38))] [(1, s32 (3 * (m b0 38))), (1, m b0 36)] m o := h
      have h := CR_iconst h rfl rfl
      have h : MR X ρ 6 0 0 qP241 N 120 [b0, b1, b2, b3, b4, s32 (3 * (m b0 38))] [(1, 5), (1, s32 (3 * (m b0 38))), (1, m b0 36)] m o := h
      have h := CR_go h rfl rfl
      have h : MR X ρ 6 0 0 qP241 N 134 [b0, b1, b2, b3, b4, s32 (3 * (m b0 38))] [(1, 5), (1, s32 (3 * (m b0 38))), (1, m b0 36)] m o := h
      have h := CR_iastore_ h rfl
      have h : MR X ρ 6 0 0 qP241 N 135 [b0, b1, b2, b3, b4, s32 (3 * (m b0 38))] [] (mu m (m b0 36) (s32 (3 * (m b0 38))) (s32 5)) o := h
      obtain ⟨y6, zy6, h⟩ : ∃ y, y = mu m (m b0 36) (s32 (3 * (m b0 38))) (s32 5) ∧ MR X ρ 6 0 0 qP241 N 135 [b0, b1, b2, b3, b4, s32 (3 * (m b0 38))] [] y o := ⟨_, rfl, h⟩
      have h : MR X ρ 6 0 0 qP241 N 135 [b0, b1, b2, b3, b4, s32 (3 * (m b0 38))] [] y6 o := h
      refine ⟨y6, zy6, ?_⟩
      exact h
  ·
    have c1 : (m b0 38) = 40 := Decidable.of_not_not (show ¬ ¬ ((m b0 38) = 40) from c1)
    refine Or.inl ⟨c1, ?_⟩
    have h : MR X ρ 6 0 0 qP241 N 95 [b0, b1, b2, b3, b4, b5] [] m o := h
    have h := CR_aload_n h rfl
    have h : MR X ρ 6 0 0 qP241 N 96 [b0, b1, b2, b3, b4, b5] [(1, b0)] m o := h
    have h := CR_iconst h rfl rfl
    have h : MR X ρ 6 0 0 qP241 N 97 [b0, b1, b2, b3, b4, b5] [(1, 4), (1, b0)] m o := h
    obtain ⟨r7, m8, q9, h⟩ := MR_invV h rfl rfl
    have q9 : Run X ρ 168 [(1, b0), (1, 4)] m r7 m8 := q9
    obtain ⟨e10, e11⟩ := d168 q9
    rw [e10, e11] at h
    have h : MR X ρ 6 0 0 qP241 N 100 [b0, b1, b2, b3, b4, b5] [(1, f168 m b0 4)] (g168 m b0 4) o := h
    obtain ⟨y12, zy12, h⟩ : ∃ y, y = g168 m b0 4 ∧ MR X ρ 6 0 0 qP241 N 100 [b0, b1, b2, b3, b4, b5] [(1, f168 m b0 4)] y o := ⟨_, rfl, h⟩
    have h : MR X ρ 6 0 0 qP241 N 100 [b0, b1, b2, b3, b4, b5] [(1, f168 m b0 4)] y12 o := h
    refine ⟨y12, zy12, ?_⟩
    exact CR_end h rfl rfl
set_option maxRecDepth 16384 in
theorem k241_135 {X : KO} {ρ : Nat → Int32} {m : MM} {N : Nat} {o : Instr × List (Nat × Int) × MM} {b0 b1 b2 b3 b4 b5 : Int} (h : MR X ρ 6 0 0 qP241 N 135 [b0, b1, b2, b3, b4, b5] [] m o) : (((b4 = 0) ∧ (∃ y2, y2 = mu m (m b0 36) (s32 (b5 + 1)) (s32 0) ∧ (∃ y3, y3 = mu y2 (y2 b0 36) (s32 (b5 + 2)) (s32 0) ∧ (∃ m5, Run X ρ 195 [(1, b0)] y3 [] m5 ∧ (MR X ρ 6 0 0 qP241 N 185 [b0, b1, b2, b3, b4, b5] [] m5 o))))) ∨ (¬ (b4 = 0) ∧ (∃ v10 m8, Run X ρ 190 [(1, m b0 19), (1, 0), (1, m (m b0 14) 0), (2, m b0 12)] m [(1, v10)] m8 ∧ (∃ y11, y11 = mu m8 (m b0 36) (s32 (b5 + 1)) (s32 v10) ∧ (∃ y12, y12 = mu y11 (y11 b0 36) (s32 (b5 + 2)) (s32 0) ∧ (∃ m14, Run X ρ 195 [(1, b0)] y12 [] m14 ∧ (MR X ρ 6 0 0 qP241 N 185 [b0, b1, b2, b3, b4, b5] [] m14 o))))))) := by
  have h := CR_aload_n h rfl
  have h : MR X ρ 6 0 0 qP241 N 136 [b0, b1, b2, b3, b4, b5] [(1, b0)] m o := h
  have h := CR_getf h rfl (by decide)
  have h : MR X ρ 6 0 0 qP241 N 139 [b0, b1, b2, b3, b4, b5] [(1, m b0 36)] m o := h
  have h := CR_iload h rfl
  have h : MR X ρ 6 0 0 qP241 N 141 [b0, b1, b2, b3, b4, b5] [(1, b5), (1, m b0 36)] m o := h
  have h := CR_iconst h rfl rfl
  have h : MR X ρ 6 0 0 qP241 N 142 [b0, b1, b2, b3, b4, b5] [(1, 1), (1, b5), (1, m b0 36)] m o := h
  have h := CR_iadd h rfl
  have h : MR X ρ 6 0 0 qP241 N 143 [b0, b1, b2, b3, b4, b5] [(1, s32 (b5 + 1)), (1, m b0 36)] m o := h
  have h := CR_iload h rfl
  have h : MR X ρ 6 0 0 qP241 N 145 [b0, b1, b2, b3, b4, b5] [(1, b4), (1, s32 (b5 + 1)), (1, m b0 36)] m o := h
  rcases MR_if h rfl rfl with ⟨c1, h⟩ | ⟨c1, h⟩
  ·
    have c1 : b4 = 0 := c1
    refine Or.inl ⟨c1, ?_⟩
    have h : MR X ρ 6 0 0 qP241 N 169 [b0, b1, b2, b3, b4, b5] [(1, s32 (b5 + 1)), (1, m b0 36)] m o := h
    have h := CR_iconst h rfl rfl
    have h : MR X ρ 6 0 0 qP241 N 170 [b0, b1, b2, b3, b4, b5] [(1, 0), (1, s32 (b5 + 1)), (1, m b0 36)] m o := h
    have h := CR_iastore_ h rfl
    have h : MR X ρ 6 0 0 qP241 N 171 [b0, b1, b2, b3, b4, b5] [] (mu m (m b0 36) (s32 (b5 + 1)) (s32 0)) o := h
    obtain ⟨y2, zy2, h⟩ : ∃ y, y = mu m (m b0 36) (s32 (b5 + 1)) (s32 0) ∧ MR X ρ 6 0 0 qP241 N 171 [b0, b1, b2, b3, b4, b5] [] y o := ⟨_, rfl, h⟩
    have h : MR X ρ 6 0 0 qP241 N 171 [b0, b1, b2, b3, b4, b5] [] y2 o := h
    refine ⟨y2, zy2, ?_⟩
    have h := CR_aload_n h rfl
    have h : MR X ρ 6 0 0 qP241 N 172 [b0, b1, b2, b3, b4, b5] [(1, b0)] y2 o := h
    have h := CR_getf h rfl (by decide)
    have h : MR X ρ 6 0 0 qP241 N 175 [b0, b1, b2, b3, b4, b5] [(1, y2 b0 36)] y2 o := h
    have h := CR_iload h rfl
    have h : MR X ρ 6 0 0 qP241 N 177 [b0, b1, b2, b3, b4, b5] [(1, b5), (1, y2 b0 36)] y2 o := h
    have h := CR_iconst h rfl rfl
    have h : MR X ρ 6 0 0 qP241 N 178 [b0, b1, b2, b3, b4, b5] [(1, 2), (1, b5), (1, y2 b0 36)] y2 o := h
    have h := CR_iadd h rfl
    have h : MR X ρ 6 0 0 qP241 N 179 [b0, b1, b2, b3, b4, b5] [(1, s32 (b5 + 2)), (1, y2 b0 36)] y2 o := h
    have h := CR_iconst h rfl rfl
    have h : MR X ρ 6 0 0 qP241 N 180 [b0, b1, b2, b3, b4, b5] [(1, 0), (1, s32 (b5 + 2)), (1, y2 b0 36)] y2 o := h
    have h := CR_iastore_ h rfl
    have h : MR X ρ 6 0 0 qP241 N 181 [b0, b1, b2, b3, b4, b5] [] (mu y2 (y2 b0 36) (s32 (b5 + 2)) (s32 0)) o := h
    obtain ⟨y3, zy3, h⟩ : ∃ y, y = mu y2 (y2 b0 36) (s32 (b5 + 2)) (s32 0) ∧ MR X ρ 6 0 0 qP241 N 181 [b0, b1, b2, b3, b4, b5] [] y o := ⟨_, rfl, h⟩
    have h : MR X ρ 6 0 0 qP241 N 181 [b0, b1, b2, b3, b4, b5] [] y3 o := h
    refine ⟨y3, zy3, ?_⟩
    have h := CR_aload_n h rfl
    have h : MR X ρ 6 0 0 qP241 N 182 [b0, b1, b2, b3, b4, b5] [(1, b0)] y3 o := h
    obtain ⟨r4, m5, q6, h⟩ := MR_invV h rfl rfl
    have q6 : Run X ρ 195 [(1, b0)] y3 r4 m5 := q6
    obtain rfl := Run_v q6 rfl
    have h : MR X ρ 6 0 0 qP241 N 185 [b0, b1, b2, b3, b4, b5] [] m5 o := h
    refine ⟨m5, q6, ?_⟩
    exact h
  ·
    have c1 : ¬ (b4 = 0) := c1
    refine Or.inr ⟨c1, ?_⟩
    have h : MR X ρ 6 0 0 qP241 N 148 [b0, b1, b2, b3, b4, b5] [(1, s32 (b5 + 1)), (1, m b0 36)] m o := h
    have h := CR_aload_n h rfl
    have h : MR X ρ 6 0 0 qP241 N 149 [b0, b1, b2, b3, b4, b5] [(1, b0), (1, s32 (b5 + 1)), (1, m b0 36)] m o := h
    have h := CR_getf h rfl (by decide)
    have h : MR X ρ 6 0 0 qP241 N 152 [b0, b1, b2, b3, b4, b5] [(1, m b0 19), (1, s32 (b5 + 1)), (1, m b0 36)] m o := h
    have h := CR_iconst h rfl rfl
    have h : MR X ρ 6 0 0 qP241 N 153 [b0, b1, b2, b3, b4, b5] [(1, 0), (1, m b0 19), (1, s32 (b5 + 1)), (1, m b0 36)] m o := h
    have h := CR_aload_n h rfl
    have h : MR X ρ 6 0 0 qP241 N 154 [b0, b1, b2, b3, b4, b5] [(1, b0), (1, 0), (1, m b0 19), (1, s32 (b5 + 1)), (1, m b0 36)] m o := h
    have h := CR_getf h rfl (by decide)
    have h : MR X ρ 6 0 0 qP241 N 157 [b0, b1, b2, b3, b4, b5] [(1, m b0 14), (1, 0), (1, m b0 19), (1, s32 (b5 + 1)), (1, m b0 36)] m o := h
    have h := CR_iconst h rfl rfl
    have h : MR X ρ 6 0 0 qP241 N 158 [b0, b1, b2, b3, b4, b5] [(1, 0), (1, m b0 14), (1, 0), (1, m b0 19), (1, s32 (b5 + 1)), (1, m b0 36)] m o := h
    have h := CR_iaload h rfl rfl
    have h : MR X ρ 6 0 0 qP241 N 159 [b0, b1, b2, b3, b4, b5] [(1, m (m b0 14) 0), (1, 0), (1, m b0 19), (1, s32 (b5 + 1)), (1, m b0 36)] m o := h
    have h := CR_aload_n h rfl
    have h : MR X ρ 6 0 0 qP241 N 160 [b0, b1, b2, b3, b4, b5] [(1, b0), (1, m (m b0 14) 0), (1, 0), (1, m b0 19), (1, s32 (b5 + 1)), (1, m b0 36)] m o := h
    have h := CR_getf h rfl (by decide)
    have h : MR X ρ 6 0 0 qP241 N 163 [b0, b1, b2, b3, b4, b5] [(2, m b0 12), (1, m (m b0 14) 0), (1, 0), (1, m b0 19), (1, s32 (b5 + 1)), (1, m b0 36)] m o := h
    obtain ⟨r7, m8, q9, h⟩ := MR_invS h rfl rfl
    have q9 : Run X ρ 190 [(1, m b0 19), (1, 0), (1, m (m b0 14) 0), (2, m b0 12)] m r7 m8 := q9
    obtain ⟨v10, rfl⟩ := Run_i q9 rfl
    have h : MR X ρ 6 0 0 qP241 N 166 [b0, b1, b2, b3, b4, b5] [(1, v10), (1, s32 (b5 + 1)), (1, m b0 36)] m8 o := h
    refine ⟨v10, m8, q9, ?_⟩
    have h := CR_go h rfl rfl
    have h : MR X ρ 6 0 0 qP241 N 170 [b0, b1, b2, b3, b4, b5] [(1, v10), (1, s32 (b5 + 1)), (1, m b0 36)] m8 o := h
    have h := CR_iastore_ h rfl
    have h : MR X ρ 6 0 0 qP241 N 171 [b0, b1, b2, b3, b4, b5] [] (mu m8 (m b0 36) (s32 (b5 + 1)) (s32 v10)) o := h
    obtain ⟨y11, zy11, h⟩ : ∃ y, y = mu m8 (m b0 36) (s32 (b5 + 1)) (s32 v10) ∧ MR X ρ 6 0 0 qP241 N 171 [b0, b1, b2, b3, b4, b5] [] y o := ⟨_, rfl, h⟩
    have h : MR X ρ 6 0 0 qP241 N 171 [b0, b1, b2, b3, b4, b5] [] y11 o := h
    refine ⟨y11, zy11, ?_⟩
    have h := CR_aload_n h rfl
    have h : MR X ρ 6 0 0 qP241 N 172 [b0, b1, b2, b3, b4, b5] [(1, b0)] y11 o := h
    have h := CR_getf h rfl (by decide)
    have h : MR X ρ 6 0 0 qP241 N 175 [b0, b1, b2, b3, b4, b5] [(1, y11 b0 36)] y11 o := h
    have h := CR_iload h rfl
    have h : MR X ρ 6 0 0 qP241 N 177 [b0, b1, b2, b3, b4, b5] [(1, b5), (1, y11 b0 36)] y11 o := h
    have h := CR_iconst h rfl rfl
    have h : MR X ρ 6 0 0 qP241 N 178 [b0, b1, b2, b3, b4, b5] [(1, 2), (1, b5), (1, y11 b0 36)] y11 o := h
    have h := CR_iadd h rfl
    have h : MR X ρ 6 0 0 qP241 N 179 [b0, b1, b2, b3, b4, b5] [(1, s32 (b5 + 2)), (1, y11 b0 36)] y11 o := h
    have h := CR_iconst h rfl rfl
    have h : MR X ρ 6 0 0 qP241 N 180 [b0, b1, b2, b3, b4, b5] [(1, 0), (1, s32 (b5 + 2)), (1, y11 b0 36)] y11 o := h
    have h := CR_iastore_ h rfl
    have h : MR X ρ 6 0 0 qP241 N 181 [b0, b1, b2, b3, b4, b5] [] (mu y11 (y11 b0 36) (s32 (b5 + 2)) (s32 0)) o := h
    obtain ⟨y12, zy12, h⟩ : ∃ y, y = mu y11 (y11 b0 36) (s32 (b5 + 2)) (s32 0) ∧ MR X ρ 6 0 0 qP241 N 181 [b0, b1, b2, b3, b4, b5] [] y o := ⟨_, rfl, h⟩
    have h : MR X ρ 6 0 0 qP241 N 181 [b0, b1, b2, b3, b4, b5] [] y12 o := h
    refine ⟨y12, zy12, ?_⟩
    have h := CR_aload_n h rfl
    have h : MR X ρ 6 0 0 qP241 N 182 [b0, b1, b2, b3, b4, b5] [(1, b0)] y12 o := h
    obtain ⟨r13, m14, q15, h⟩ := MR_invV h rfl rfl
    have q15 : Run X ρ 195 [(1, b0)] y12 r13 m14 := q15
    obtain rfl := Run_v q15 rfl
    have h : MR X ρ 6 0 0 qP241 N 185 [b0, b1, b2, b3, b4, b5] [] m14 o := h
    refine ⟨m14, q15, ?_⟩
    exact h
set_option maxRecDepth 16384 in
theorem k241_185 {X : KO} {ρ : Nat → Int32} {m : MM} {N : Nat} {o : Instr × List (Nat × Int) × MM} {b0 b1 b2 b3 b4 b5 : Int} (h : MR X ρ 6 0 0 qP241 N 185 [b0, b1, b2, b3, b4, b5] [] m o) : (((b4 = 0) ∧ (((b3 = 0) ∧ (∃ v6 m4, Run X ρ 248 [(1, b0)] m [(1, v6)] m4 ∧ (v6 = 0 ∨ v6 = 1) ∧ (∃ y12, y12 = g218 m4 b0 (s32 (b5 + 1)) v6 ∧ ((((f218 m4 b0 (s32 (b5 + 1)) v6) = 0) ∧ (o = (.ireturn, [(1, 0)], y12))) ∨ (¬ ((f218 m4 b0 (s32 (b5 + 1)) v6) = 0) ∧ (∃ v17 m15, Run X ρ 245 [(1, b0)] y12 [(1, v17)] m15 ∧ (v17 = 0 ∨ v17 = 1) ∧ (((v17 = 0) ∧ (o = (.ireturn, [(1, 0)], m15))) ∨ (¬ (v17 = 0) ∧ (o = (.ireturn, [(1, 1)], m15)))))))))) ∨ (¬ (b3 = 0) ∧ (∃ v22 m20, Run X ρ 254 [(1, b0), (1, 1), (1, 60)] m [(1, v22)] m20 ∧ (v22 = 0 ∨ v22 = 1) ∧ (∃ y28, y28 = g218 m20 b0 (s32 (b5 + 1)) v22 ∧ ((((f218 m20 b0 (s32 (b5 + 1)) v22) = 0) ∧ (o = (.ireturn, [(1, 0)], y28))) ∨ (¬ ((f218 m20 b0 (s32 (b5 + 1)) v22) = 0) ∧ (∃ v33 m31, Run X ρ 245 [(1, b0)] y28 [(1, v33)] m31 ∧ (v33 = 0 ∨ v33 = 1) ∧ (((v33 = 0) ∧ (o = (.ireturn, [(1, 0)], m31))) ∨ (¬ (v33 = 0) ∧ (o = (.ireturn, [(1, 1)], m31)))))))))))) ∨ (¬ (b4 = 0) ∧ (∃ v38 m36, Run X ρ 244 [(1, b0), (1, b5)] m [(1, v38)] m36 ∧ (v38 = 0 ∨ v38 = 1) ∧ (((v38 = 0) ∧ (o = (.ireturn, [(1, 0)], m36))) ∨ (¬ (v38 = 0) ∧ (∃ v43 m41, Run X ρ 245 [(1, b0)] m36 [(1, v43)] m41 ∧ (v43 = 0 ∨ v43 = 1) ∧ (((v43 = 0) ∧ (o = (.ireturn, [(1, 0)], m41))) ∨ (¬ (v43 = 0) ∧ (o = (.ireturn, [(1, 1)], m41)))))))))) := by
  have h := CR_iload h rfl
  have h : MR X ρ 6 0 0 qP241 N 187 [b0, b1, b2, b3, b4, b5] [(1, b4)] m o := h
  rcases MR_if h rfl rfl with ⟨c1, h⟩ | ⟨c1, h⟩
  ·
    have c1 : b4 = 0 := c1
    refine Or.inl ⟨c1, ?_⟩
    have h : MR X ρ 6 0 0 qP241 N 212 [b0, b1, b2, b3, b4, b5] [] m o := h
    have h := CR_aload_n h rfl
    have h : MR X ρ 6 0 0 qP241 N 213 [b0, b1, b2, b3, b4, b5] [(1, b0)] m o := h
    have h := CR_iload h rfl
    have h : MR X ρ 6 0 0 qP241 N 215 [b0, b1, b2, b3, b4, b5] [(1, b5), (1, b0)] m o := h
    have h := CR_iconst h rfl rfl
    have h : MR X ρ 6 0 0 qP241 N 216 [b0, b1, b2, b3, b4, b5] [(1, 1), (1, b5), (1, b0)] m o := h
    have h := CR_iadd h rfl
    have h : MR X ρ 6 0 0 qP241 N 217 [b0, b1, b2, b3, b4, b5] [(1, s32 (b5 + 1)), (1, b0)] m o := h
    have h := CR_iload_n h rfl
    have h : MR X ρ 6 0 0 qP241 N 218 [b0, b1, b2, b3, b4, b5] [(1, b3), (1, s32 (b5 + 1)), (1, b0)] m o := h
    rcases MR_if h rfl rfl with ⟨c2, h⟩ | ⟨c2, h⟩
    ·
      have c2 : b3 = 0 := c2
      refine Or.inl ⟨c2, ?_⟩
      have h : MR X ρ 6 0 0 qP241 N 231 [b0, b1, b2, b3, b4, b5] [(1, s32 (b5 + 1)), (1, b0)] m o := h
      have h := CR_aload_n h rfl
      have h : MR X ρ 6 0 0 qP241 N 232 [b0, b1, b2, b3, b4, b5] [(1, b0), (1, s32 (b5 + 1)), (1, b0)] m o := h
      obtain ⟨r3, m4, q5, h⟩ := MR_invV h rfl rfl
      have q5 : Run X ρ 248 [(1, b0)] m r3 m4 := q5
      obtain ⟨v6, rfl, zv6⟩ := Run_z q5 rfl
      have h : MR X ρ 6 0 0 qP241 N 235 [b0, b1, b2, b3, b4, b5] [(1, v6), (1, s32 (b5 + 1)), (1, b0)] m4 o := h
      refine ⟨v6, m4, q5, zv6, ?_⟩
      obtain ⟨r7, m8, q9, h⟩ := MR_invV h rfl rfl
      have q9 : Run X ρ 218 [(1, b0), (1, s32 (b5 + 1)), (1, v6)] m4 r7 m8 := q9
      obtain ⟨e10, e11⟩ := d218 q9
      rw [e10, e11] at h
      have h : MR X ρ 6 0 0 qP241 N 238 [b0, b1, b2, b3, b4, b5] [(1, f218 m4 b0 (s32 (b5 + 1)) v6)] (g218 m4 b0 (s32 (b5 + 1)) v6) o := h
      obtain ⟨y12, zy12, h⟩ : ∃ y, y = g218 m4 b0 (s32 (b5 + 1)) v6 ∧ MR X ρ 6 0 0 qP241 N 238 [b0, b1, b2, b3, b4, b5] [(1, f218 m4 b0 (s32 (b5 + 1)) v6)] y o := ⟨_, rfl, h⟩
      have h : MR X ρ 6 0 0 qP241 N 238 [b0, b1, b2, b3, b4, b5] [(1, f218 m4 b0 (s32 (b5 + 1)) v6)] y12 o := h
      refine ⟨y12, zy12, ?_⟩
      rcases MR_if h rfl rfl with ⟨c13, h⟩ | ⟨c13, h⟩
      ·
        have c13 : (f218 m4 b0 (s32 (b5 + 1)) v6) = 0 := c13
        refine Or.inl ⟨c13, ?_⟩
        have h : MR X ρ 6 0 0 qP241 N 252 [b0, b1, b2, b3, b4, b5] [] y12 o := h
        have h := CR_iconst h rfl rfl
        have h : MR X ρ 6 0 0 qP241 N 253 [b0, b1, b2, b3, b4, b5] [(1, 0)] y12 o := h
        exact CR_end h rfl rfl
      ·
        have c13 : ¬ ((f218 m4 b0 (s32 (b5 + 1)) v6) = 0) := c13
        refine Or.inr ⟨c13, ?_⟩
        have h : MR X ρ 6 0 0 qP241 N 241 [b0, b1, b2, b3, b4, b5] [] y12 o := h
        have h := CR_aload_n h rfl
        have h : MR X ρ 6 0 0 qP241 N 242 [b0, b1, b2, b3, b4, b5] [(1, b0)] y12 o := h
        obtain ⟨r14, m15, q16, h⟩ := MR_invV h rfl rfl
        have q16 : Run X ρ 245 [(1, b0)] y12 r14 m15 := q16
        obtain ⟨v17, rfl, zv17⟩ := Run_z q16 rfl
        have h : MR X ρ 6 0 0 qP241 N 245 [b0, b1, b2, b3, b4, b5] [(1, v17)] m15 o := h
        refine ⟨v17, m15, q16, zv17, ?_⟩
        rcases MR_if h rfl rfl with ⟨c18, h⟩ | ⟨c18, h⟩
        ·
          have c18 : v17 = 0 := c18
          refine Or.inl ⟨c18, ?_⟩
          have h : MR X ρ 6 0 0 qP241 N 252 [b0, b1, b2, b3, b4, b5] [] m15 o := h
          have h := CR_iconst h rfl rfl
          have h : MR X ρ 6 0 0 qP241 N 253 [b0, b1, b2, b3, b4, b5] [(1, 0)] m15 o := h
          exact CR_end h rfl rfl
        ·
          have c18 : ¬ (v17 = 0) := c18
          refine Or.inr ⟨c18, ?_⟩
          have h : MR X ρ 6 0 0 qP241 N 248 [b0, b1, b2, b3, b4, b5] [] m15 o := h
          have h := CR_iconst h rfl rfl
          have h : MR X ρ 6 0 0 qP241 N 249 [b0, b1, b2, b3, b4, b5] [(1, 1)] m15 o := h
          have h := CR_go h rfl rfl
          have h : MR X ρ 6 0 0 qP241 N 253 [b0, b1, b2, b3, b4, b5] [(1, 1)] m15 o := h
          exact CR_end h rfl rfl
    ·
      have c2 : ¬ (b3 = 0) := c2
      refine Or.inr ⟨c2, ?_⟩
      have h : MR X ρ 6 0 0 qP241 N 221 [b0, b1, b2, b3, b4, b5] [(1, s32 (b5 + 1)), (1, b0)] m o := h
      have h := CR_aload_n h rfl
      have h : MR X ρ 6 0 0 qP241 N 222 [b0, b1, b2, b3, b4, b5] [(1, b0), (1, s32 (b5 + 1)), (1, b0)] m o := h
      have h := CR_iconst h rfl rfl
      have h : MR X ρ 6 0 0 qP241 N 223 [b0, b1, b2, b3, b4, b5] [(1, 1), (1, b0), (1, s32 (b5 + 1)), (1, b0)] m o := h
      have h := CR_bipush h rfl rfl
      have h : MR X ρ 6 0 0 qP241 N 225 [b0, b1, b2, b3, b4, b5] [(1, 60), (1, 1), (1, b0), (1, s32 (b5 + 1)), (1, b0)] m o := h
      obtain ⟨r19, m20, q21, h⟩ := MR_invV h rfl rfl
      have q21 : Run X ρ 254 [(1, b0), (1, 1), (1, 60)] m r19 m20 := q21
      obtain ⟨v22, rfl, zv22⟩ := Run_z q21 rfl
      have h : MR X ρ 6 0 0 qP241 N 228 [b0, b1, b2, b3, b4, b5] [(1, v22), (1, s32 (b5 + 1)), (1, b0)] m20 o := h
      refine ⟨v22, m20, q21, zv22, ?_⟩
      have h := CR_go h rfl rfl
      have h : MR X ρ 6 0 0 qP241 N 235 [b0, b1, b2, b3, b4, b5] [(1, v22), (1, s32 (b5 + 1)), (1, b0)] m20 o := h
      obtain ⟨r23, m24, q25, h⟩ := MR_invV h rfl rfl
      have q25 : Run X ρ 218 [(1, b0), (1, s32 (b5 + 1)), (1, v22)] m20 r23 m24 := q25
      obtain ⟨e26, e27⟩ := d218 q25
      rw [e26, e27] at h
      have h : MR X ρ 6 0 0 qP241 N 238 [b0, b1, b2, b3, b4, b5] [(1, f218 m20 b0 (s32 (b5 + 1)) v22)] (g218 m20 b0 (s32 (b5 + 1)) v22) o := h
      obtain ⟨y28, zy28, h⟩ : ∃ y, y = g218 m20 b0 (s32 (b5 + 1)) v22 ∧ MR X ρ 6 0 0 qP241 N 238 [b0, b1, b2, b3, b4, b5] [(1, f218 m20 b0 (s32 (b5 + 1)) v22)] y o := ⟨_, rfl, h⟩
      have h : MR X ρ 6 0 0 qP241 N 238 [b0, b1, b2, b3, b4, b5] [(1, f218 m20 b0 (s32 (b5 + 1)) v22)] y28 o := h
      refine ⟨y28, zy28, ?_⟩
      rcases MR_if h rfl rfl with ⟨c29, h⟩ | ⟨c29, h⟩
      ·
        have c29 : (f218 m20 b0 (s32 (b5 + 1)) v22) = 0 := c29
        refine Or.inl ⟨c29, ?_⟩
        have h : MR X ρ 6 0 0 qP241 N 252 [b0, b1, b2, b3, b4, b5] [] y28 o := h
        have h := CR_iconst h rfl rfl
        have h : MR X ρ 6 0 0 qP241 N 253 [b0, b1, b2, b3, b4, b5] [(1, 0)] y28 o := h
        exact CR_end h rfl rfl
      ·
        have c29 : ¬ ((f218 m20 b0 (s32 (b5 + 1)) v22) = 0) := c29
        refine Or.inr ⟨c29, ?_⟩
        have h : MR X ρ 6 0 0 qP241 N 241 [b0, b1, b2, b3, b4, b5] [] y28 o := h
        have h := CR_aload_n h rfl
        have h : MR X ρ 6 0 0 qP241 N 242 [b0, b1, b2, b3, b4, b5] [(1, b0)] y28 o := h
        obtain ⟨r30, m31, q32, h⟩ := MR_invV h rfl rfl
        have q32 : Run X ρ 245 [(1, b0)] y28 r30 m31 := q32
        obtain ⟨v33, rfl, zv33⟩ := Run_z q32 rfl
        have h : MR X ρ 6 0 0 qP241 N 245 [b0, b1, b2, b3, b4, b5] [(1, v33)] m31 o := h
        refine ⟨v33, m31, q32, zv33, ?_⟩
        rcases MR_if h rfl rfl with ⟨c34, h⟩ | ⟨c34, h⟩
        ·
          have c34 : v33 = 0 := c34
          refine Or.inl ⟨c34, ?_⟩
          have h : MR X ρ 6 0 0 qP241 N 252 [b0, b1, b2, b3, b4, b5] [] m31 o := h
          have h := CR_iconst h rfl rfl
          have h : MR X ρ 6 0 0 qP241 N 253 [b0, b1, b2, b3, b4, b5] [(1, 0)] m31 o := h
          exact CR_end h rfl rfl
        ·
          have c34 : ¬ (v33 = 0) := c34
          refine Or.inr ⟨c34, ?_⟩
          have h : MR X ρ 6 0 0 qP241 N 248 [b0, b1, b2, b3, b4, b5] [] m31 o := h
          have h := CR_iconst h rfl rfl
          have h : MR X ρ 6 0 0 qP241 N 249 [b0, b1, b2, b3, b4, b5] [(1, 1)] m31 o := h
          have h := CR_go h rfl rfl
          have h : MR X ρ 6 0 0 qP241 N 253 [b0, b1, b2, b3, b4, b5] [(1, 1)] m31 o := h
          exact CR_end h rfl rfl
  ·
    have c1 : ¬ (b4 = 0) := c1
    refine Or.inr ⟨c1, ?_⟩
    have h : MR X ρ 6 0 0 qP241 N 190 [b0, b1, b2, b3, b4, b5] [] m o := h
    have h := CR_aload_n h rfl
    have h : MR X ρ 6 0 0 qP241 N 191 [b0, b1, b2, b3, b4, b5] [(1, b0)] m o := h
    have h := CR_iload h rfl
    have h : MR X ρ 6 0 0 qP241 N 193 [b0, b1, b2, b3, b4, b5] [(1, b5), (1, b0)] m o := h
    obtain ⟨r35, m36, q37, h⟩ := MR_invV h rfl rfl
    have q37 : Run X ρ 244 [(1, b0), (1, b5)] m r35 m36 := q37
    obtain ⟨v38, rfl, zv38⟩ := Run_z q37 rfl
    have h : MR X ρ 6 0 0 qP241 N 196 [b0, b1, b2, b3, b4, b5] [(1, v38)] m36 o := h
    refine ⟨v38, m36, q37, zv38, ?_⟩
    rcases MR_if h rfl rfl with ⟨c39, h⟩ | ⟨c39, h⟩
    ·
      have c39 : v38 = 0 := c39
      refine Or.inl ⟨c39, ?_⟩
      have h : MR X ρ 6 0 0 qP241 N 210 [b0, b1, b2, b3, b4, b5] [] m36 o := h
      have h := CR_iconst h rfl rfl
      have h : MR X ρ 6 0 0 qP241 N 211 [b0, b1, b2, b3, b4, b5] [(1, 0)] m36 o := h
      exact CR_end h rfl rfl
    ·
      have c39 : ¬ (v38 = 0) := c39
      refine Or.inr ⟨c39, ?_⟩
      have h : MR X ρ 6 0 0 qP241 N 199 [b0, b1, b2, b3, b4, b5] [] m36 o := h
      have h := CR_aload_n h rfl
      have h : MR X ρ 6 0 0 qP241 N 200 [b0, b1, b2, b3, b4, b5] [(1, b0)] m36 o := h
      obtain ⟨r40, m41, q42, h⟩ := MR_invV h rfl rfl
      have q42 : Run X ρ 245 [(1, b0)] m36 r40 m41 := q42
      obtain ⟨v43, rfl, zv43⟩ := Run_z q42 rfl
      have h : MR X ρ 6 0 0 qP241 N 203 [b0, b1, b2, b3, b4, b5] [(1, v43)] m41 o := h
      refine ⟨v43, m41, q42, zv43, ?_⟩
      rcases MR_if h rfl rfl with ⟨c44, h⟩ | ⟨c44, h⟩
      ·
        have c44 : v43 = 0 := c44
        refine Or.inl ⟨c44, ?_⟩
        have h : MR X ρ 6 0 0 qP241 N 210 [b0, b1, b2, b3, b4, b5] [] m41 o := h
        have h := CR_iconst h rfl rfl
        have h : MR X ρ 6 0 0 qP241 N 211 [b0, b1, b2, b3, b4, b5] [(1, 0)] m41 o := h
        exact CR_end h rfl rfl
      ·
        have c44 : ¬ (v43 = 0) := c44
        refine Or.inr ⟨c44, ?_⟩
        have h : MR X ρ 6 0 0 qP241 N 206 [b0, b1, b2, b3, b4, b5] [] m41 o := h
        have h := CR_iconst h rfl rfl
        have h : MR X ρ 6 0 0 qP241 N 207 [b0, b1, b2, b3, b4, b5] [(1, 1)] m41 o := h
        have h := CR_go h rfl rfl
        have h : MR X ρ 6 0 0 qP241 N 211 [b0, b1, b2, b3, b4, b5] [(1, 1)] m41 o := h
        exact CR_end h rfl rfl
set_option maxRecDepth 16384 in
theorem k244_0 {X : KO} {ρ : Nat → Int32} {m : MM} {N : Nat} {o : Instr × List (Nat × Int) × MM} {a0 a1 : Int} (h : MR X ρ 3 0 0 qP244 N 0 [a0, a1, 0] [] m o) : (((((L244_3 m a0 a1 8).2.2) ≤ 12) ∧ (∃ y2, y2 = mu m (m a0 36) a1 (s32 (s32 (((L244_3 m a0 a1 8).2.2) - 8))) ∧ (∃ m4, Run X ρ 195 [(1, a0)] y2 [] m4 ∧ (((((L244_3 m a0 a1 8).2.2) = 8) ∧ (∃ v22 m20, Run X ρ 248 [(1, a0)] m4 [(1, v22)] m20 ∧ (v22 = 0 ∨ v22 = 1) ∧ (∃ y28, y28 = g218 m20 a0 (s32 (a1 + 2)) v22 ∧ (o = (.ireturn, [(1, f218 m20 a0 (s32 (a1 + 2)) v22)], y28))))) ∨ (¬ (((L244_3 m a0 a1 8).2.2) = 8) ∧ (((10 < ((L244_3 m a0 a1 8).2.2)) ∧ (o = (.ireturn, [(1, 1)], m4))) ∨ (¬ (10 < ((L244_3 m a0 a1 8).2.2)) ∧ (∃ v11 m9, Run X ρ 259 [(1, a0)] m4 [(1, v11)] m9 ∧ (v11 = 0 ∨ v11 = 1) ∧ (∃ y17, y17 = g218 m9 a0 (s32 (a1 + 2)) v11 ∧ ((((f218 m9 a0 (s32 (a1 + 2)) v11) = 0) ∧ (o = (.ireturn, [(1, 0)], y17))) ∨ (¬ ((f218 m9 a0 (s32 (a1 + 2)) v11) = 0) ∧ (o = (.ireturn, [(1, 1)], y17))))))))))))) ∨ (¬ (((L244_3 m a0 a1 8).2.2) ≤ 12) ∧ (∃ y34, y34 = g168 m a0 1 ∧ (o = (.ireturn, [(1, f168 m a0 1)], y34))))) := by
  have h := CR_bipush h rfl rfl
  have h : MR X ρ 3 0 0 qP244 N 2 [a0, a1, 0] [(1, 8)] m o := h
  have h := CR_istore_n h rfl (Nat.le_of_ble_eq_true rfl)
  have h : MR X ρ 3 0 0 qP244 N 3 [a0, a1, 8] [] m o := h
  have h := l244_3 (Nat.le_refl _) h
  have h : MR X ρ 3 0 0 qP244 N 23 [a0, a1, (L244_3 m a0 a1 8).2.2] [] m o := h
  have h := CR_iload_n h rfl
  have h : MR X ρ 3 0 0 qP244 N 24 [a0, a1, (L244_3 m a0 a1 8).2.2] [(1, (L244_3 m a0 a1 8).2.2)] m o := h
  have h := CR_bipush h rfl rfl
  have h : MR X ρ 3 0 0 qP244 N 26 [a0, a1, (L244_3 m a0 a1 8).2.2] [(1, 12), (1, (L244_3 m a0 a1 8).2.2)] m o := h
  rcases MR_icmp h rfl rfl with ⟨c1, h⟩ | ⟨c1, h⟩
  ·
    have c1 : ((L244_3 m a0 a1 8).2.2) ≤ 12 := c1
    refine Or.inl ⟨c1, ?_⟩
    have h : MR X ρ 3 0 0 qP244 N 35 [a0, a1, (L244_3 m a0 a1 8).2.2] [] m o := h
    have h := CR_aload_n h rfl
    have h : MR X ρ 3 0 0 qP244 N 36 [a0, a1, (L244_3 m a0 a1 8).2.2] [(1, a0)] m o := h
    have h := CR_getf h rfl (by decide)
    have h : MR X ρ 3 0 0 qP244 N 39 [a0, a1, (L244_3 m a0 a1 8).2.2] [(1, m a0 36)] m o := h
    have h := CR_iload_n h rfl
    have h : MR X ρ 3 0 0 qP244 N 40 [a0, a1, (L244_3 m a0 a1 8).2.2] [(1, a1), (1, m a0 36)] m o := h
    have h := CR_iload_n h rfl
    have h : MR X ρ 3 0 0 qP244 N 41 [a0, a1, (L244_3 m a0 a1 8).2.2] [(1, (L244_3 m a0 a1 8).2.2), (1, a1), (1, m a0 36)] m o := h
    have h := CR_bipush h rfl rfl
    have h : MR X ρ 3 0 0 qP244 N 43 [a0, a1, (L244_3 m a0 a1 8).2.2] [(1, 8), (1, (L244_3 m a0 a1 8).2.2), (1, a1), (1, m a0 36)] m o := h
    have h := CR_isub h rfl
    have h : MR X ρ 3 0 0 qP244 N 44 [a0, a1, (L244_3 m a0 a1 8).2.2] [(1, s32 (((L244_3 m a0 a1 8).2.2) - 8)), (1, a1), (1, m a0 36)] m o := h
    have h := CR_iastore_ h rfl
    have h : MR X ρ 3 0 0 qP244 N 45 [a0, a1, (L244_3 m a0 a1 8).2.2] [] (mu m (m a0 36) a1 (s32 (s32 (((L244_3 m a0 a1 8).2.2) - 8)))) o := h
    obtain ⟨y2, zy2, h⟩ : ∃ y, y = mu m (m a0 36) a1 (s32 (s32 (((L244_3 m a0 a1 8).2.2) - 8))) ∧ MR X ρ 3 0 0 qP244 N 45 [a0, a1, (L244_3 m a0 a1 8).2.2] [] y o := ⟨_, rfl, h⟩
    have h : MR X ρ 3 0 0 qP244 N 45 [a0, a1, (L244_3 m a0 a1 8).2.2] [] y2 o := h
    refine ⟨y2, zy2, ?_⟩
    have h := CR_aload_n h rfl
    have h : MR X ρ 3 0 0 qP244 N 46 [a0, a1, (L244_3 m a0 a1 8).2.2] [(1, a0)] y2 o := h
    obtain ⟨r3, m4, q5, h⟩ := MR_invV h rfl rfl
    have q5 : Run X ρ 195 [(1, a0)] y2 r3 m4 := q5
    obtain rfl := Run_v q5 rfl
    have h : MR X ρ 3 0 0 qP244 N 49 [a0, a1, (L244_3 m a0 a1 8).2.2] [] m4 o := h
    refine ⟨m4, q5, ?_⟩
    have h := CR_iload_n h rfl
    have h : MR X ρ 3 0 0 qP244 N 50 [a0, a1, (L244_3 m a0 a1 8).2.2] [(1, (L244_3 m a0 a1 8).2.2)] m4 o := h
    have h := CR_bipush h rfl rfl
    have h : MR X ρ 3 0 0 qP244 N 52 [a0, a1, (L244_3 m a0 a1 8).2.2] [(1, 8), (1, (L244_3 m a0 a1 8).2.2)] m4 o := h
    rcases MR_icmp h rfl rfl with ⟨c6, h⟩ | ⟨c6, h⟩
    ·
      have c6 : ¬ (((L244_3 m a0 a1 8).2.2) = 8) := c6
      refine Or.inr ⟨c6, ?_⟩
      have h : MR X ρ 3 0 0 qP244 N 67 [a0, a1, (L244_3 m a0 a1 8).2.2] [] m4 o := h
      have h := CR_iload_n h rfl
      have h : MR X ρ 3 0 0 qP244 N 68 [a0, a1, (L244_3 m a0 a1 8).2.2] [(1, (L244_3 m a0 a1 8).2.2)] m4 o := h
      have h := CR_bipush h rfl rfl
      have h : MR X ρ 3 0 0 qP244 N 70 [a0, a1, (L244_3 m a0 a1 8).2.2] [(1, 10), (1, (L244_3 m a0 a1 8).2.2)] m4 o := h
      rcases MR_icmp h rfl rfl with ⟨c7, h⟩ | ⟨c7, h⟩
      ·
        have c7 : 10 < ((L244_3 m a0 a1 8).2.2) := c7
        refine Or.inl ⟨c7, ?_⟩
        have h : MR X ρ 3 0 0 qP244 N 87 [a0, a1, (L244_3 m a0 a1 8).2.2] [] m4 o := h
        have h := CR_iconst h rfl rfl
        have h : MR X ρ 3 0 0 qP244 N 88 [a0, a1, (L244_3 m a0 a1 8).2.2] [(1, 1)] m4 o := h
        have h := CR_go h rfl rfl
        have h : MR X ρ 3 0 0 qP244 N 92 [a0, a1, (L244_3 m a0 a1 8).2.2] [(1, 1)] m4 o := h
        exact CR_end h rfl rfl
      ·
        have c7 : ¬ (10 < ((L244_3 m a0 a1 8).2.2)) := c7
        refine Or.inr ⟨c7, ?_⟩
        have h : MR X ρ 3 0 0 qP244 N 73 [a0, a1, (L244_3 m a0 a1 8).2.2] [] m4 o := h
        have h := CR_aload_n h rfl
        have h : MR X ρ 3 0 0 qP244 N 74 [a0, a1, (L244_3 m a0 a1 8).2.2] [(1, a0)] m4 o := h
        have h := CR_iload_n h rfl
        have h : MR X ρ 3 0 0 qP244 N 75 [a0, a1, (L244_3 m a0 a1 8).2.2] [(1, a1), (1, a0)] m4 o := h
        have h := CR_iconst h rfl rfl
        have h : MR X ρ 3 0 0 qP244 N 76 [a0, a1, (L244_3 m a0 a1 8).2.2] [(1, 2), (1, a1), (1, a0)] m4 o := h
        have h := CR_iadd h rfl
        have h : MR X ρ 3 0 0 qP244 N 77 [a0, a1, (L244_3 m a0 a1 8).2.2] [(1, s32 (a1 + 2)), (1, a0)] m4 o := h
        have h := CR_aload_n h rfl
        have h : MR X ρ 3 0 0 qP244 N 78 [a0, a1, (L244_3 m a0 a1 8).2.2] [(1, a0), (1, s32 (a1 + 2)), (1, a0)] m4 o := h
        obtain ⟨r8, m9, q10, h⟩ := MR_invV h rfl rfl
        have q10 : Run X ρ 259 [(1, a0)] m4 r8 m9 := q10
        obtain ⟨v11, rfl, zv11⟩ := Run_z q10 rfl
        have h : MR X ρ 3 0 0 qP244 N 81 [a0, a1, (L244_3 m a0 a1 8).2.2] [(1, v11), (1, s32 (a1 + 2)), (1, a0)] m9 o := h
        refine ⟨v11, m9, q10, zv11, ?_⟩
        obtain ⟨r12, m13, q14, h⟩ := MR_invV h rfl rfl
        have q14 : Run X ρ 218 [(1, a0), (1, s32 (a1 + 2)), (1, v11)] m9 r12 m13 := q14
        obtain ⟨e15, e16⟩ := d218 q14
        rw [e15, e16] at h
        have h : MR X ρ 3 0 0 qP244 N 84 [a0, a1, (L244_3 m a0 a1 8).2.2] [(1, f218 m9 a0 (s32 (a1 + 2)) v11)] (g218 m9 a0 (s32 (a1 + 2)) v11) o := h
        obtain ⟨y17, zy17, h⟩ : ∃ y, y = g218 m9 a0 (s32 (a1 + 2)) v11 ∧ MR X ρ 3 0 0 qP244 N 84 [a0, a1, (L244_3 m a0 a1 8).2.2] [(1, f218 m9 a0 (s32 (a1 + 2)) v11)] y o := ⟨_, rfl, h⟩
        have h : MR X ρ 3 0 0 qP244 N 84 [a0, a1, (L244_3 m a0 a1 8).2.2] [(1, f218 m9 a0 (s32 (a1 + 2)) v11)] y17 o := h
        refine ⟨y17, zy17, ?_⟩
        rcases MR_if h rfl rfl with ⟨c18, h⟩ | ⟨c18, h⟩
        ·
          have c18 : (f218 m9 a0 (s32 (a1 + 2)) v11) = 0 := c18
          refine Or.inl ⟨c18, ?_⟩
          have h : MR X ρ 3 0 0 qP244 N 91 [a0, a1, (L244_3 m a0 a1 8).2.2] [] y17 o := h
          have h := CR_iconst h rfl rfl
          have h : MR X ρ 3 0 0 qP244 N 92 [a0, a1, (L244_3 m a0 a1 8).2.2] [(1, 0)] y17 o := h
          exact CR_end h rfl rfl
        ·
          have c18 : ¬ ((f218 m9 a0 (s32 (a1 + 2)) v11) = 0) := c18
          refine Or.inr ⟨c18, ?_⟩
          have h : MR X ρ 3 0 0 qP244 N 87 [a0, a1, (L244_3 m a0 a1 8).2.2] [] y17 o := h
          have h := CR_iconst h rfl rfl
          have h : MR X ρ 3 0 0 qP244 N 88 [a0, a1, (L244_3 m a0 a1 8).2.2] [(1, 1)] y17 o := h
          have h := CR_go h rfl rfl
          have h : MR X ρ 3 0 0 qP244 N 92 [a0, a1, (L244_3 m a0 a1 8).2.2] [(1, 1)] y17 o := h
          exact CR_end h rfl rfl
    ·
      have c6 : ((L244_3 m a0 a1 8).2.2) = 8 := Decidable.of_not_not (show ¬ ¬ (((L244_3 m a0 a1 8).2.2) = 8) from c6)
      refine Or.inl ⟨c6, ?_⟩
      have h : MR X ρ 3 0 0 qP244 N 55 [a0, a1, (L244_3 m a0 a1 8).2.2] [] m4 o := h
      have h := CR_aload_n h rfl
      have h : MR X ρ 3 0 0 qP244 N 56 [a0, a1, (L244_3 m a0 a1 8).2.2] [(1, a0)] m4 o := h
      have h := CR_iload_n h rfl
      have h : MR X ρ 3 0 0 qP244 N 57 [a0, a1, (L244_3 m a0 a1 8).2.2] [(1, a1), (1, a0)] m4 o := h
      have h := CR_iconst h rfl rfl
      have h : MR X ρ 3 0 0 qP244 N 58 [a0, a1, (L244_3 m a0 a1 8).2.2] [(1, 2), (1, a1), (1, a0)] m4 o := h
      have h := CR_iadd h rfl
      have h : MR X ρ 3 0 0 qP244 N 59 [a0, a1, (L244_3 m a0 a1 8).2.2] [(1, s32 (a1 + 2)), (1, a0)] m4 o := h
      have h := CR_aload_n h rfl
      have h : MR X ρ 3 0 0 qP244 N 60 [a0, a1, (L244_3 m a0 a1 8).2.2] [(1, a0), (1, s32 (a1 + 2)), (1, a0)] m4 o := h
      obtain ⟨r19, m20, q21, h⟩ := MR_invV h rfl rfl
      have q21 : Run X ρ 248 [(1, a0)] m4 r19 m20 := q21
      obtain ⟨v22, rfl, zv22⟩ := Run_z q21 rfl
      have h : MR X ρ 3 0 0 qP244 N 63 [a0, a1, (L244_3 m a0 a1 8).2.2] [(1, v22), (1, s32 (a1 + 2)), (1, a0)] m20 o := h
      refine ⟨v22, m20, q21, zv22, ?_⟩
      obtain ⟨r23, m24, q25, h⟩ := MR_invV h rfl rfl
      have q25 : Run X ρ 218 [(1, a0), (1, s32 (a1 + 2)), (1, v22)] m20 r23 m24 := q25
      obtain ⟨e26, e27⟩ := d218 q25
      rw [e26, e27] at h
      have h : MR X ρ 3 0 0 qP244 N 66 [a0, a1, (L244_3 m a0 a1 8).2.2] [(1, f218 m20 a0 (s32 (a1 + 2)) v22)] (g218 m20 a0 (s32 (a1 + 2)) v22) o := h
      obtain ⟨y28, zy28, h⟩ : ∃ y, y = g218 m20 a0 (s32 (a1 + 2)) v22 ∧ MR X ρ 3 0 0 qP244 N 66 [a0, a1, (L244_3 m a0 a1 8).2.2] [(1, f218 m20 a0 (s32 (a1 + 2)) v22)] y o := ⟨_, rfl, h⟩
      have h : MR X ρ 3 0 0 qP244 N 66 [a0, a1, (L244_3 m a0 a1 8).2.2] [(1, f218 m20 a0 (s32 (a1 + 2)) v22)] y28 o := h
      refine ⟨y28, zy28, ?_⟩
      exact CR_end h rfl rfl
  ·
    have c1 : ¬ (((L244_3 m a0 a1 8).2.2) ≤ 12) := c1
    refine Or.inr ⟨c1, ?_⟩
    have h : MR X ρ 3 0 0 qP244 N 29 [a0, a1, (L244_3 m a0 a1 8).2.2] [] m o := h
    have h := CR_aload_n h rfl
    have h : MR X ρ 3 0 0 qP244 N 30 [a0, a1, (L244_3 m a0 a1 8).2.2] [(1, a0)] m o := h
    have h := CR_iconst h rfl rfl
    have h : MR X ρ 3 0 0 qP244 N 31 [a0, a1, (L244_3 m a0 a1 8).2.2] [(1, 1), (1, a0)] m o := h
    obtain ⟨r29, m30, q31, h⟩ := MR_invV h rfl rfl
    have q31 : Run X ρ 168 [(1, a0), (1, 1)] m r29 m30 := q31
    obtain ⟨e32, e33⟩ := d168 q31
    rw [e32, e33] at h
    have h : MR X ρ 3 0 0 qP244 N 34 [a0, a1, (L244_3 m a0 a1 8).2.2] [(1, f168 m a0 1)] (g168 m a0 1) o := h
    obtain ⟨y34, zy34, h⟩ : ∃ y, y = g168 m a0 1 ∧ MR X ρ 3 0 0 qP244 N 34 [a0, a1, (L244_3 m a0 a1 8).2.2] [(1, f168 m a0 1)] y o := ⟨_, rfl, h⟩
    have h : MR X ρ 3 0 0 qP244 N 34 [a0, a1, (L244_3 m a0 a1 8).2.2] [(1, f168 m a0 1)] y34 o := h
    refine ⟨y34, zy34, ?_⟩
    exact CR_end h rfl rfl
set_option maxRecDepth 16384 in
theorem k3_0 {X : KO} {ρ : Nat → Int32} {m : MM} {N : Nat} {o : Instr × List (Nat × Int) × MM} {a0 a1 : Int} (h : MR X ρ 3 0 0 qP3 N 0 [a0, a1, 0] [] m o) : (((a1 = 0) ∧ (∃ m3, Run X ρ 55 [(1, m a0 10), (1, m a0 0), (1, m a0 1)] m [] m3 ∧ (∃ y5, y5 = mu m3 a0 13 (m3 (m3 a0 0) 9) ∧ (∃ y6, y6 = mu y5 (y5 a0 0) 1 0 ∧ ((((y6 a0 13) = 0) ∧ (∃ y13, y13 = g113 y6 (y6 a0 4) (y6 a0 3) ∧ (((a1 = 0) ∧ (∃ y33, y33 = g47 y13 (y13 a0 10) (y13 a0 4) ∧ (o = (.ireturn, [(1, f47 y13 (y13 a0 10) (y13 a0 4))], y33)))) ∨ (¬ (a1 = 0) ∧ (∃ y20, y20 = g47 y13 (y13 a0 10) (y13 a0 3) ∧ ((((y20 (y20 a0 10) 6) ≤ 0) ∧ (o = (.ireturn, [(1, f47 y13 (y13 a0 10) (y13 a0 3))], y20))) ∨ (¬ ((y20 (y20 a0 10) 6) ≤ 0) ∧ (∃ y27, y27 = g162 y20 (y20 a0 5) (y20 a0 4) ∧ (o = (.ireturn, [(1, f47 y13 (y13 a0 10) (y13 a0 3))], y27)))))))))) ∨ (¬ ((y6 a0 13) = 0) ∧ (o = (.ireturn, [(1, s32 ((-2) - (y6 (y6 a0 0) 10)))], y6)))))))) ∨ (¬ (a1 = 0) ∧ (((a1 = 1) ∧ (∃ m36, Run X ρ 55 [(1, m a0 10), (1, m a0 0), (1, m a0 1)] m [] m36 ∧ (∃ y38, y38 = mu m36 a0 13 (m36 (m36 a0 0) 9) ∧ (∃ y39, y39 = mu y38 (y38 a0 0) 1 0 ∧ ((((y39 a0 13) = 0) ∧ (∃ y46, y46 = g113 y39 (y39 a0 4) (y39 a0 3) ∧ (((a1 = 0) ∧ (∃ y66, y66 = g47 y46 (y46 a0 10) (y46 a0 4) ∧ (o = (.ireturn, [(1, f47 y46 (y46 a0 10) (y46 a0 4))], y66)))) ∨ (¬ (a1 = 0) ∧ (∃ y53, y53 = g47 y46 (y46 a0 10) (y46 a0 3) ∧ ((((y53 (y53 a0 10) 6) ≤ 0) ∧ (o = (.ireturn, [(1, f47 y46 (y46 a0 10) (y46 a0 3))], y53))) ∨ (¬ ((y53 (y53 a0 10) 6) ≤ 0) ∧ (∃ y60, y60 = g162 y53 (y53 a0 5) (y53 a0 4) ∧ (o = (.ireturn, [(1, f47 y46 (y46 a0 10) (y46 a0 3))], y60)))))))))) ∨ (¬ ((y39 a0 13) = 0) ∧ (o = (.ireturn, [(1, s32 ((-2) - (y39 (y39 a0 0) 10)))], y39)))))))) ∨ (¬ (a1 = 1) ∧ (o = (.ireturn, [(1, -1000)], m)))))) := by
  have h := CR_iload_n h rfl
  have h : MR X ρ 3 0 0 qP3 N 1 [a0, a1, 0] [(1, a1)] m o := h
  rcases MR_if h rfl rfl with ⟨c1, h⟩ | ⟨c1, h⟩
  ·
    have c1 : a1 = 0 := c1
    refine Or.inl ⟨c1, ?_⟩
    have h : MR X ρ 3 0 0 qP3 N 13 [a0, a1, 0] [] m o := h
    have h := CR_aload_n h rfl
    have h : MR X ρ 3 0 0 qP3 N 14 [a0, a1, 0] [(1, a0)] m o := h
    have h := CR_getf h rfl (by decide)
    have h : MR X ρ 3 0 0 qP3 N 17 [a0, a1, 0] [(1, m a0 10)] m o := h
    have h := CR_aload_n h rfl
    have h : MR X ρ 3 0 0 qP3 N 18 [a0, a1, 0] [(1, a0), (1, m a0 10)] m o := h
    have h := CR_getf h rfl (by decide)
    have h : MR X ρ 3 0 0 qP3 N 21 [a0, a1, 0] [(1, m a0 0), (1, m a0 10)] m o := h
    have h := CR_aload_n h rfl
    have h : MR X ρ 3 0 0 qP3 N 22 [a0, a1, 0] [(1, a0), (1, m a0 0), (1, m a0 10)] m o := h
    have h := CR_getf h rfl (by decide)
    have h : MR X ρ 3 0 0 qP3 N 25 [a0, a1, 0] [(1, m a0 1), (1, m a0 0), (1, m a0 10)] m o := h
    obtain ⟨r2, m3, q4, h⟩ := MR_invV h rfl rfl
    have q4 : Run X ρ 55 [(1, m a0 10), (1, m a0 0), (1, m a0 1)] m r2 m3 := q4
    obtain rfl := Run_v q4 rfl
    have h : MR X ρ 3 0 0 qP3 N 28 [a0, a1, 0] [] m3 o := h
    refine ⟨m3, q4, ?_⟩
    have h := CR_aload_n h rfl
    have h : MR X ρ 3 0 0 qP3 N 29 [a0, a1, 0] [(1, a0)] m3 o := h
    have h := CR_aload_n h rfl
    have h : MR X ρ 3 0 0 qP3 N 30 [a0, a1, 0] [(1, a0), (1, a0)] m3 o := h
    have h := CR_getf h rfl (by decide)
    have h : MR X ρ 3 0 0 qP3 N 33 [a0, a1, 0] [(1, m3 a0 0), (1, a0)] m3 o := h
    have h := CR_getf h rfl (by decide)
    have h : MR X ρ 3 0 0 qP3 N 36 [a0, a1, 0] [(1, m3 (m3 a0 0) 9), (1, a0)] m3 o := h
    have h := CR_putf h rfl
    have h : MR X ρ 3 0 0 qP3 N 39 [a0, a1, 0] [] (mu m3 a0 13 (m3 (m3 a0 0) 9)) o := h
    obtain ⟨y5, zy5, h⟩ : ∃ y, y = mu m3 a0 13 (m3 (m3 a0 0) 9) ∧ MR X ρ 3 0 0 qP3 N 39 [a0, a1, 0] [] y o := ⟨_, rfl, h⟩
    have h : MR X ρ 3 0 0 qP3 N 39 [a0, a1, 0] [] y5 o := h
    refine ⟨y5, zy5, ?_⟩
    have h := CR_aload_n h rfl
    have h : MR X ρ 3 0 0 qP3 N 40 [a0, a1, 0] [(1, a0)] y5 o := h
    have h := CR_getf h rfl (by decide)
    have h : MR X ρ 3 0 0 qP3 N 43 [a0, a1, 0] [(1, y5 a0 0)] y5 o := h
    have h := CR_iconst h rfl rfl
    have h : MR X ρ 3 0 0 qP3 N 44 [a0, a1, 0] [(1, 0), (1, y5 a0 0)] y5 o := h
    have h := CR_putf h rfl
    have h : MR X ρ 3 0 0 qP3 N 47 [a0, a1, 0] [] (mu y5 (y5 a0 0) 1 0) o := h
    obtain ⟨y6, zy6, h⟩ : ∃ y, y = mu y5 (y5 a0 0) 1 0 ∧ MR X ρ 3 0 0 qP3 N 47 [a0, a1, 0] [] y o := ⟨_, rfl, h⟩
    have h : MR X ρ 3 0 0 qP3 N 47 [a0, a1, 0] [] y6 o := h
    refine ⟨y6, zy6, ?_⟩
    have h := CR_aload_n h rfl
    have h : MR X ρ 3 0 0 qP3 N 48 [a0, a1, 0] [(1, a0)] y6 o := h
    have h := CR_getf h rfl (by decide)
    have h : MR X ρ 3 0 0 qP3 N 51 [a0, a1, 0] [(1, y6 a0 13)] y6 o := h
    rcases MR_if h rfl rfl with ⟨c7, h⟩ | ⟨c7, h⟩
    ·
      have c7 : (y6 a0 13) = 0 := c7
      refine Or.inl ⟨c7, ?_⟩
      have h : MR X ρ 3 0 0 qP3 N 65 [a0, a1, 0] [] y6 o := h
      have h := CR_aload_n h rfl
      have h : MR X ρ 3 0 0 qP3 N 66 [a0, a1, 0] [(1, a0)] y6 o := h
      have h := CR_getf h rfl (by decide)
      have h : MR X ρ 3 0 0 qP3 N 69 [a0, a1, 0] [(1, y6 a0 4)] y6 o := h
      have h := CR_aload_n h rfl
      have h : MR X ρ 3 0 0 qP3 N 70 [a0, a1, 0] [(1, a0), (1, y6 a0 4)] y6 o := h
      have h := CR_getf h rfl (by decide)
      have h : MR X ρ 3 0 0 qP3 N 73 [a0, a1, 0] [(1, y6 a0 3), (1, y6 a0 4)] y6 o := h
      obtain ⟨r8, m9, q10, h⟩ := MR_invV h rfl rfl
      have q10 : Run X ρ 113 [(1, y6 a0 4), (1, y6 a0 3)] y6 r8 m9 := q10
      obtain ⟨e11, e12⟩ := d113 q10
      rw [e11, e12] at h
      have h : MR X ρ 3 0 0 qP3 N 76 [a0, a1, 0] [] (g113 y6 (y6 a0 4) (y6 a0 3)) o := h
      obtain ⟨y13, zy13, h⟩ : ∃ y, y = g113 y6 (y6 a0 4) (y6 a0 3) ∧ MR X ρ 3 0 0 qP3 N 76 [a0, a1, 0] [] y o := ⟨_, rfl, h⟩
      have h : MR X ρ 3 0 0 qP3 N 76 [a0, a1, 0] [] y13 o := h
      refine ⟨y13, zy13, ?_⟩
      have h := CR_iload_n h rfl
      have h : MR X ρ 3 0 0 qP3 N 77 [a0, a1, 0] [(1, a1)] y13 o := h
      rcases MR_if h rfl rfl with ⟨c14, h⟩ | ⟨c14, h⟩
      ·
        have c14 : ¬ (a1 = 0) := c14
        refine Or.inr ⟨c14, ?_⟩
        have h : MR X ρ 3 0 0 qP3 N 92 [a0, a1, 0] [] y13 o := h
        have h := CR_aload_n h rfl
        have h : MR X ρ 3 0 0 qP3 N 93 [a0, a1, 0] [(1, a0)] y13 o := h
        have h := CR_getf h rfl (by decide)
        have h : MR X ρ 3 0 0 qP3 N 96 [a0, a1, 0] [(1, y13 a0 10)] y13 o := h
        have h := CR_aload_n h rfl
        have h : MR X ρ 3 0 0 qP3 N 97 [a0, a1, 0] [(1, a0), (1, y13 a0 10)] y13 o := h
        have h := CR_getf h rfl (by decide)
        have h : MR X ρ 3 0 0 qP3 N 100 [a0, a1, 0] [(1, y13 a0 3), (1, y13 a0 10)] y13 o := h
        obtain ⟨r15, m16, q17, h⟩ := MR_invV h rfl rfl
        have q17 : Run X ρ 47 [(1, y13 a0 10), (1, y13 a0 3)] y13 r15 m16 := q17
        obtain ⟨e18, e19⟩ := d47 q17
        rw [e18, e19] at h
        have h : MR X ρ 3 0 0 qP3 N 103 [a0, a1, 0] [(1, f47 y13 (y13 a0 10) (y13 a0 3))] (g47 y13 (y13 a0 10) (y13 a0 3)) o := h
        obtain ⟨y20, zy20, h⟩ : ∃ y, y = g47 y13 (y13 a0 10) (y13 a0 3) ∧ MR X ρ 3 0 0 qP3 N 103 [a0, a1, 0] [(1, f47 y13 (y13 a0 10) (y13 a0 3))] y o := ⟨_, rfl, h⟩
        have h : MR X ρ 3 0 0 qP3 N 103 [a0, a1, 0] [(1, f47 y13 (y13 a0 10) (y13 a0 3))] y20 o := h
        refine ⟨y20, zy20, ?_⟩
        have h := CR_istore_n h rfl (Nat.le_of_ble_eq_true rfl)
        have h : MR X ρ 3 0 0 qP3 N 104 [a0, a1, f47 y13 (y13 a0 10) (y13 a0 3)] [] y20 o := h
        have h := CR_aload_n h rfl
        have h : MR X ρ 3 0 0 qP3 N 105 [a0, a1, f47 y13 (y13 a0 10) (y13 a0 3)] [(1, a0)] y20 o := h
        have h := CR_getf h rfl (by decide)
        have h : MR X ρ 3 0 0 qP3 N 108 [a0, a1, f47 y13 (y13 a0 10) (y13 a0 3)] [(1, y20 a0 10)] y20 o := h
        have h := CR_getf h rfl (by decide)
        have h : MR X ρ 3 0 0 qP3 N 111 [a0, a1, f47 y13 (y13 a0 10) (y13 a0 3)] [(1, y20 (y20 a0 10) 6)] y20 o := h
        rcases MR_if h rfl rfl with ⟨c21, h⟩ | ⟨c21, h⟩
        ·
          have c21 : (y20 (y20 a0 10) 6) ≤ 0 := c21
          refine Or.inl ⟨c21, ?_⟩
          have h : MR X ρ 3 0 0 qP3 N 125 [a0, a1, f47 y13 (y13 a0 10) (y13 a0 3)] [] y20 o := h
          have h := CR_iload_n h rfl
          have h : MR X ρ 3 0 0 qP3 N 126 [a0, a1, f47 y13 (y13 a0 10) (y13 a0 3)] [(1, f47 y13 (y13 a0 10) (y13 a0 3))] y20 o := h
          exact CR_end h rfl rfl
        ·
          have c21 : ¬ ((y20 (y20 a0 10) 6) ≤ 0) := c21
          refine Or.inr ⟨c21, ?_⟩
          have h : MR X ρ 3 0 0 qP3 N 114 [a0, a1, f47 y13 (y13 a0 10) (y13 a0 3)] [] y20 o := h
          have h := CR_aload_n h rfl
          have h : MR X ρ 3 0 0 qP3 N 115 [a0, a1, f47 y13 (y13 a0 10) (y13 a0 3)] [(1, a0)] y20 o := h
          have h := CR_getf h rfl (by decide)
          have h : MR X ρ 3 0 0 qP3 N 118 [a0, a1, f47 y13 (y13 a0 10) (y13 a0 3)] [(1, y20 a0 5)] y20 o := h
          have h := CR_aload_n h rfl
          have h : MR X ρ 3 0 0 qP3 N 119 [a0, a1, f47 y13 (y13 a0 10) (y13 a0 3)] [(1, a0), (1, y20 a0 5)] y20 o := h
          have h := CR_getf h rfl (by decide)
          have h : MR X ρ 3 0 0 qP3 N 122 [a0, a1, f47 y13 (y13 a0 10) (y13 a0 3)] [(1, y20 a0 4), (1, y20 a0 5)] y20 o := h
          obtain ⟨r22, m23, q24, h⟩ := MR_invV h rfl rfl
          have q24 : Run X ρ 162 [(1, y20 a0 5), (1, y20 a0 4)] y20 r22 m23 := q24
          obtain ⟨e25, e26⟩ := d162 q24
          rw [e25, e26] at h
          have h : MR X ρ 3 0 0 qP3 N 125 [a0, a1, f47 y13 (y13 a0 10) (y13 a0 3)] [] (g162 y20 (y20 a0 5) (y20 a0 4)) o := h
          obtain ⟨y27, zy27, h⟩ : ∃ y, y = g162 y20 (y20 a0 5) (y20 a0 4) ∧ MR X ρ 3 0 0 qP3 N 125 [a0, a1, f47 y13 (y13 a0 10) (y13 a0 3)] [] y o := ⟨_, rfl, h⟩
          have h : MR X ρ 3 0 0 qP3 N 125 [a0, a1, f47 y13 (y13 a0 10) (y13 a0 3)] [] y27 o := h
          refine ⟨y27, zy27, ?_⟩
          have h := CR_iload_n h rfl
          have h : MR X ρ 3 0 0 qP3 N 126 [a0, a1, f47 y13 (y13 a0 10) (y13 a0 3)] [(1, f47 y13 (y13 a0 10) (y13 a0 3))] y27 o := h
          exact CR_end h rfl rfl
      ·
        have c14 : a1 = 0 := Decidable.of_not_not (show ¬ ¬ (a1 = 0) from c14)
        refine Or.inl ⟨c14, ?_⟩
        have h : MR X ρ 3 0 0 qP3 N 80 [a0, a1, 0] [] y13 o := h
        have h := CR_aload_n h rfl
        have h : MR X ρ 3 0 0 qP3 N 81 [a0, a1, 0] [(1, a0)] y13 o := h
        have h := CR_getf h rfl (by decide)
        have h : MR X ρ 3 0 0 qP3 N 84 [a0, a1, 0] [(1, y13 a0 10)] y13 o := h
        have h := CR_aload_n h rfl
        have h : MR X ρ 3 0 0 qP3 N 85 [a0, a1, 0] [(1, a0), (1, y13 a0 10)] y13 o := h
        have h := CR_getf h rfl (by decide)
        have h : MR X ρ 3 0 0 qP3 N 88 [a0, a1, 0] [(1, y13 a0 4), (1, y13 a0 10)] y13 o := h
        obtain ⟨r28, m29, q30, h⟩ := MR_invV h rfl rfl
        have q30 : Run X ρ 47 [(1, y13 a0 10), (1, y13 a0 4)] y13 r28 m29 := q30
        obtain ⟨e31, e32⟩ := d47 q30
        rw [e31, e32] at h
        have h : MR X ρ 3 0 0 qP3 N 91 [a0, a1, 0] [(1, f47 y13 (y13 a0 10) (y13 a0 4))] (g47 y13 (y13 a0 10) (y13 a0 4)) o := h
        obtain ⟨y33, zy33, h⟩ : ∃ y, y = g47 y13 (y13 a0 10) (y13 a0 4) ∧ MR X ρ 3 0 0 qP3 N 91 [a0, a1, 0] [(1, f47 y13 (y13 a0 10) (y13 a0 4))] y o := ⟨_, rfl, h⟩
        have h : MR X ρ 3 0 0 qP3 N 91 [a0, a1, 0] [(1, f47 y13 (y13 a0 10) (y13 a0 4))] y33 o := h
        refine ⟨y33, zy33, ?_⟩
        exact CR_end h rfl rfl
    ·
      have c7 : ¬ ((y6 a0 13) = 0) := c7
      refine Or.inr ⟨c7, ?_⟩
      have h : MR X ρ 3 0 0 qP3 N 54 [a0, a1, 0] [] y6 o := h
      have h := CR_bipush h rfl rfl
      have h : MR X ρ 3 0 0 qP3 N 56 [a0, a1, 0] [(1, -2)] y6 o := h
      have h := CR_aload_n h rfl
      have h : MR X ρ 3 0 0 qP3 N 57 [a0, a1, 0] [(1, a0), (1, -2)] y6 o := h
      have h := CR_getf h rfl (by decide)
      have h : MR X ρ 3 0 0 qP3 N 60 [a0, a1, 0] [(1, y6 a0 0), (1, -2)] y6 o := h
      have h := CR_getf h rfl (by decide)
      have h : MR X ρ 3 0 0 qP3 N 63 [a0, a1, 0] [(1, y6 (y6 a0 0) 10), (1, -2)] y6 o := h
      have h := CR_isub h rfl
      have h : MR X ρ 3 0 0 qP3 N 64 [a0, a1, 0] [(1, s32 ((-2) - (y6 (y6 a0 0) 10)))] y6 o := h
      exact CR_end h rfl rfl
  ·
    have c1 : ¬ (a1 = 0) := c1
    refine Or.inr ⟨c1, ?_⟩
    have h : MR X ρ 3 0 0 qP3 N 4 [a0, a1, 0] [] m o := h
    have h := CR_iload_n h rfl
    have h : MR X ρ 3 0 0 qP3 N 5 [a0, a1, 0] [(1, a1)] m o := h
    have h := CR_iconst h rfl rfl
    have h : MR X ρ 3 0 0 qP3 N 6 [a0, a1, 0] [(1, 1), (1, a1)] m o := h
    rcases MR_icmp h rfl rfl with ⟨c34, h⟩ | ⟨c34, h⟩
    ·
      have c34 : a1 = 1 := c34
      refine Or.inl ⟨c34, ?_⟩
      have h : MR X ρ 3 0 0 qP3 N 13 [a0, a1, 0] [] m o := h
      have h := CR_aload_n h rfl
      have h : MR X ρ 3 0 0 qP3 N 14 [a0, a1, 0] [(1, a0)] m o := h
      have h := CR_getf h rfl (by decide)
      have h : MR X ρ 3 0 0 qP3 N 17 [a0, a1, 0] [(1, m a0 10)] m o := h
      have h := CR_aload_n h rfl
      have h : MR X ρ 3 0 0 qP3 N 18 [a0, a1, 0] [(1, a0), (1, m a0 10)] m o := h
      have h := CR_getf h rfl (by decide)
      have h : MR X ρ 3 0 0 qP3 N 21 [a0, a1, 0] [(1, m a0 0), (1, m a0 10)] m o := h
      have h := CR_aload_n h rfl
      have h : MR X ρ 3 0 0 qP3 N 22 [a0, a1, 0] [(1, a0), (1, m a0 0), (1, m a0 10)] m o := h
      have h := CR_getf h rfl (by decide)
      have h : MR X ρ 3 0 0 qP3 N 25 [a0, a1, 0] [(1, m a0 1), (1, m a0 0), (1, m a0 10)] m o := h
      obtain ⟨r35, m36, q37, h⟩ := MR_invV h rfl rfl
      have q37 : Run X ρ 55 [(1, m a0 10), (1, m a0 0), (1, m a0 1)] m r35 m36 := q37
      obtain rfl := Run_v q37 rfl
      have h : MR X ρ 3 0 0 qP3 N 28 [a0, a1, 0] [] m36 o := h
      refine ⟨m36, q37, ?_⟩
      have h := CR_aload_n h rfl
      have h : MR X ρ 3 0 0 qP3 N 29 [a0, a1, 0] [(1, a0)] m36 o := h
      have h := CR_aload_n h rfl
      have h : MR X ρ 3 0 0 qP3 N 30 [a0, a1, 0] [(1, a0), (1, a0)] m36 o := h
      have h := CR_getf h rfl (by decide)
      have h : MR X ρ 3 0 0 qP3 N 33 [a0, a1, 0] [(1, m36 a0 0), (1, a0)] m36 o := h
      have h := CR_getf h rfl (by decide)
      have h : MR X ρ 3 0 0 qP3 N 36 [a0, a1, 0] [(1, m36 (m36 a0 0) 9), (1, a0)] m36 o := h
      have h := CR_putf h rfl
      have h : MR X ρ 3 0 0 qP3 N 39 [a0, a1, 0] [] (mu m36 a0 13 (m36 (m36 a0 0) 9)) o := h
      obtain ⟨y38, zy38, h⟩ : ∃ y, y = mu m36 a0 13 (m36 (m36 a0 0) 9) ∧ MR X ρ 3 0 0 qP3 N 39 [a0, a1, 0] [] y o := ⟨_, rfl, h⟩
      have h : MR X ρ 3 0 0 qP3 N 39 [a0, a1, 0] [] y38 o := h
      refine ⟨y38, zy38, ?_⟩
      have h := CR_aload_n h rfl
      have h : MR X ρ 3 0 0 qP3 N 40 [a0, a1, 0] [(1, a0)] y38 o := h
      have h := CR_getf h rfl (by decide)
      have h : MR X ρ 3 0 0 qP3 N 43 [a0, a1, 0] [(1, y38 a0 0)] y38 o := h
      have h := CR_iconst h rfl rfl
      have h : MR X ρ 3 0 0 qP3 N 44 [a0, a1, 0] [(1, 0), (1, y38 a0 0)] y38 o := h
      have h := CR_putf h rfl
      have h : MR X ρ 3 0 0 qP3 N 47 [a0, a1, 0] [] (mu y38 (y38 a0 0) 1 0) o := h
      obtain ⟨y39, zy39, h⟩ : ∃ y, y = mu y38 (y38 a0 0) 1 0 ∧ MR X ρ 3 0 0 qP3 N 47 [a0, a1, 0] [] y o := ⟨_, rfl, h⟩
      have h : MR X ρ 3 0 0 qP3 N 47 [a0, a1, 0] [] y39 o := h
      refine ⟨y39, zy39, ?_⟩
      have h := CR_aload_n h rfl
      have h : MR X ρ 3 0 0 qP3 N 48 [a0, a1, 0] [(1, a0)] y39 o := h
      have h := CR_getf h rfl (by decide)
      have h : MR X ρ 3 0 0 qP3 N 51 [a0, a1, 0] [(1, y39 a0 13)] y39 o := h
      rcases MR_if h rfl rfl with ⟨c40, h⟩ | ⟨c40, h⟩
      ·
        have c40 : (y39 a0 13) = 0 := c40
        refine Or.inl ⟨c40, ?_⟩
        have h : MR X ρ 3 0 0 qP3 N 65 [a0, a1, 0] [] y39 o := h
        have h := CR_aload_n h rfl
        have h : MR X ρ 3 0 0 qP3 N 66 [a0, a1, 0] [(1, a0)] y39 o := h
        have h := CR_getf h rfl (by decide)
        have h : MR X ρ 3 0 0 qP3 N 69 [a0, a1, 0] [(1, y39 a0 4)] y39 o := h
        have h := CR_aload_n h rfl
        have h : MR X ρ 3 0 0 qP3 N 70 [a0, a1, 0] [(1, a0), (1, y39 a0 4)] y39 o := h
        have h := CR_getf h rfl (by decide)
        have h : MR X ρ 3 0 0 qP3 N 73 [a0, a1, 0] [(1, y39 a0 3), (1, y39 a0 4)] y39 o := h
        obtain ⟨r41, m42, q43, h⟩ := MR_invV h rfl rfl
        have q43 : Run X ρ 113 [(1, y39 a0 4), (1, y39 a0 3)] y39 r41 m42 := q43
        obtain ⟨e44, e45⟩ := d113 q43
        rw [e44, e45] at h
        have h : MR X ρ 3 0 0 qP3 N 76 [a0, a1, 0] [] (g113 y39 (y39 a0 4) (y39 a0 3)) o := h
        obtain ⟨y46, zy46, h⟩ : ∃ y, y = g113 y39 (y39 a0 4) (y39 a0 3) ∧ MR X ρ 3 0 0 qP3 N 76 [a0, a1, 0] [] y o := ⟨_, rfl, h⟩
        have h : MR X ρ 3 0 0 qP3 N 76 [a0, a1, 0] [] y46 o := h
        refine ⟨y46, zy46, ?_⟩
        have h := CR_iload_n h rfl
        have h : MR X ρ 3 0 0 qP3 N 77 [a0, a1, 0] [(1, a1)] y46 o := h
        rcases MR_if h rfl rfl with ⟨c47, h⟩ | ⟨c47, h⟩
        ·
          have c47 : ¬ (a1 = 0) := c47
          refine Or.inr ⟨c47, ?_⟩
          have h : MR X ρ 3 0 0 qP3 N 92 [a0, a1, 0] [] y46 o := h
          have h := CR_aload_n h rfl
          have h : MR X ρ 3 0 0 qP3 N 93 [a0, a1, 0] [(1, a0)] y46 o := h
          have h := CR_getf h rfl (by decide)
          have h : MR X ρ 3 0 0 qP3 N 96 [a0, a1, 0] [(1, y46 a0 10)] y46 o := h
          have h := CR_aload_n h rfl
          have h : MR X ρ 3 0 0 qP3 N 97 [a0, a1, 0] [(1, a0), (1, y46 a0 10)] y46 o := h
          have h := CR_getf h rfl (by decide)
          have h : MR X ρ 3 0 0 qP3 N 100 [a0, a1, 0] [(1, y46 a0 3), (1, y46 a0 10)] y46 o := h
          obtain ⟨r48, m49, q50, h⟩ := MR_invV h rfl rfl
          have q50 : Run X ρ 47 [(1, y46 a0 10), (1, y46 a0 3)] y46 r48 m49 := q50
          obtain ⟨e51, e52⟩ := d47 q50
          rw [e51, e52] at h
          have h : MR X ρ 3 0 0 qP3 N 103 [a0, a1, 0] [(1, f47 y46 (y46 a0 10) (y46 a0 3))] (g47 y46 (y46 a0 10) (y46 a0 3)) o := h
          obtain ⟨y53, zy53, h⟩ : ∃ y, y = g47 y46 (y46 a0 10) (y46 a0 3) ∧ MR X ρ 3 0 0 qP3 N 103 [a0, a1, 0] [(1, f47 y46 (y46 a0 10) (y46 a0 3))] y o := ⟨_, rfl, h⟩
          have h : MR X ρ 3 0 0 qP3 N 103 [a0, a1, 0] [(1, f47 y46 (y46 a0 10) (y46 a0 3))] y53 o := h
          refine ⟨y53, zy53, ?_⟩
          have h := CR_istore_n h rfl (Nat.le_of_ble_eq_true rfl)
          have h : MR X ρ 3 0 0 qP3 N 104 [a0, a1, f47 y46 (y46 a0 10) (y46 a0 3)] [] y53 o := h
          have h := CR_aload_n h rfl
          have h : MR X ρ 3 0 0 qP3 N 105 [a0, a1, f47 y46 (y46 a0 10) (y46 a0 3)] [(1, a0)] y53 o := h
          have h := CR_getf h rfl (by decide)
          have h : MR X ρ 3 0 0 qP3 N 108 [a0, a1, f47 y46 (y46 a0 10) (y46 a0 3)] [(1, y53 a0 10)] y53 o := h
          have h := CR_getf h rfl (by decide)
          have h : MR X ρ 3 0 0 qP3 N 111 [a0, a1, f47 y46 (y46 a0 10) (y46 a0 3)] [(1, y53 (y53 a0 10) 6)] y53 o := h
          rcases MR_if h rfl rfl with ⟨c54, h⟩ | ⟨c54, h⟩
          ·
            have c54 : (y53 (y53 a0 10) 6) ≤ 0 := c54
            refine Or.inl ⟨c54, ?_⟩
            have h : MR X ρ 3 0 0 qP3 N 125 [a0, a1, f47 y46 (y46 a0 10) (y46 a0 3)] [] y53 o := h
            have h := CR_iload_n h rfl
            have h : MR X ρ 3 0 0 qP3 N 126 [a0, a1, f47 y46 (y46 a0 10) (y46 a0 3)] [(1, f47 y46 (y46 a0 10) (y46 a0 3))] y53 o := h
            exact CR_end h rfl rfl
          ·
            have c54 : ¬ ((y53 (y53 a0 10) 6) ≤ 0) := c54
            refine Or.inr ⟨c54, ?_⟩
            have h : MR X ρ 3 0 0 qP3 N 114 [a0, a1, f47 y46 (y46 a0 10) (y46 a0 3)] [] y53 o := h
            have h := CR_aload_n h rfl
            have h : MR X ρ 3 0 0 qP3 N 115 [a0, a1, f47 y46 (y46 a0 10) (y46 a0 3)] [(1, a0)] y53 o := h
            have h := CR_getf h rfl (by decide)
            have h : MR X ρ 3 0 0 qP3 N 118 [a0, a1, f47 y46 (y46 a0 10) (y46 a0 3)] [(1, y53 a0 5)] y53 o := h
            have h := CR_aload_n h rfl
            have h : MR X ρ 3 0 0 qP3 N 119 [a0, a1, f47 y46 (y46 a0 10) (y46 a0 3)] [(1, a0), (1, y53 a0 5)] y53 o := h
            have h := CR_getf h rfl (by decide)
            have h : MR X ρ 3 0 0 qP3 N 122 [a0, a1, f47 y46 (y46 a0 10) (y46 a0 3)] [(1, y53 a0 4), (1, y53 a0 5)] y53 o := h
            obtain ⟨r55, m56, q57, h⟩ := MR_invV h rfl rfl
            have q57 : Run X ρ 162 [(1, y53 a0 5), (1, y53 a0 4)] y53 r55 m56 := q57
            obtain ⟨e58, e59⟩ := d162 q57
            rw [e58, e59] at h
            have h : MR X ρ 3 0 0 qP3 N 125 [a0, a1, f47 y46 (y46 a0 10) (y46 a0 3)] [] (g162 y53 (y53 a0 5) (y53 a0 4)) o := h
            obtain ⟨y60, zy60, h⟩ : ∃ y, y = g162 y53 (y53 a0 5) (y53 a0 4) ∧ MR X ρ 3 0 0 qP3 N 125 [a0, a1, f47 y46 (y46 a0 10) (y46 a0 3)] [] y o := ⟨_, rfl, h⟩
            have h : MR X ρ 3 0 0 qP3 N 125 [a0, a1, f47 y46 (y46 a0 10) (y46 a0 3)] [] y60 o := h
            refine ⟨y60, zy60, ?_⟩
            have h := CR_iload_n h rfl
            have h : MR X ρ 3 0 0 qP3 N 126 [a0, a1, f47 y46 (y46 a0 10) (y46 a0 3)] [(1, f47 y46 (y46 a0 10) (y46 a0 3))] y60 o := h
            exact CR_end h rfl rfl
        ·
          have c47 : a1 = 0 := Decidable.of_not_not (show ¬ ¬ (a1 = 0) from c47)
          refine Or.inl ⟨c47, ?_⟩
          have h : MR X ρ 3 0 0 qP3 N 80 [a0, a1, 0] [] y46 o := h
          have h := CR_aload_n h rfl
          have h : MR X ρ 3 0 0 qP3 N 81 [a0, a1, 0] [(1, a0)] y46 o := h
          have h := CR_getf h rfl (by decide)
          have h : MR X ρ 3 0 0 qP3 N 84 [a0, a1, 0] [(1, y46 a0 10)] y46 o := h
          have h := CR_aload_n h rfl
          have h : MR X ρ 3 0 0 qP3 N 85 [a0, a1, 0] [(1, a0), (1, y46 a0 10)] y46 o := h
          have h := CR_getf h rfl (by decide)
          have h : MR X ρ 3 0 0 qP3 N 88 [a0, a1, 0] [(1, y46 a0 4), (1, y46 a0 10)] y46 o := h
          obtain ⟨r61, m62, q63, h⟩ := MR_invV h rfl rfl
          have q63 : Run X ρ 47 [(1, y46 a0 10), (1, y46 a0 4)] y46 r61 m62 := q63
          obtain ⟨e64, e65⟩ := d47 q63
          rw [e64, e65] at h
          have h : MR X ρ 3 0 0 qP3 N 91 [a0, a1, 0] [(1, f47 y46 (y46 a0 10) (y46 a0 4))] (g47 y46 (y46 a0 10) (y46 a0 4)) o := h
          obtain ⟨y66, zy66, h⟩ : ∃ y, y = g47 y46 (y46 a0 10) (y46 a0 4) ∧ MR X ρ 3 0 0 qP3 N 91 [a0, a1, 0] [(1, f47 y46 (y46 a0 10) (y46 a0 4))] y o := ⟨_, rfl, h⟩
          have h : MR X ρ 3 0 0 qP3 N 91 [a0, a1, 0] [(1, f47 y46 (y46 a0 10) (y46 a0 4))] y66 o := h
          refine ⟨y66, zy66, ?_⟩
          exact CR_end h rfl rfl
      ·
        have c40 : ¬ ((y39 a0 13) = 0) := c40
        refine Or.inr ⟨c40, ?_⟩
        have h : MR X ρ 3 0 0 qP3 N 54 [a0, a1, 0] [] y39 o := h
        have h := CR_bipush h rfl rfl
        have h : MR X ρ 3 0 0 qP3 N 56 [a0, a1, 0] [(1, -2)] y39 o := h
        have h := CR_aload_n h rfl
        have h : MR X ρ 3 0 0 qP3 N 57 [a0, a1, 0] [(1, a0), (1, -2)] y39 o := h
        have h := CR_getf h rfl (by decide)
        have h : MR X ρ 3 0 0 qP3 N 60 [a0, a1, 0] [(1, y39 a0 0), (1, -2)] y39 o := h
        have h := CR_getf h rfl (by decide)
        have h : MR X ρ 3 0 0 qP3 N 63 [a0, a1, 0] [(1, y39 (y39 a0 0) 10), (1, -2)] y39 o := h
        have h := CR_isub h rfl
        have h : MR X ρ 3 0 0 qP3 N 64 [a0, a1, 0] [(1, s32 ((-2) - (y39 (y39 a0 0) 10)))] y39 o := h
        exact CR_end h rfl rfl
    ·
      have c34 : ¬ (a1 = 1) := c34
      refine Or.inr ⟨c34, ?_⟩
      have h : MR X ρ 3 0 0 qP3 N 9 [a0, a1, 0] [] m o := h
      have h := CR_sipush h rfl rfl
      have h : MR X ρ 3 0 0 qP3 N 12 [a0, a1, 0] [(1, -1000)] m o := h
      exact CR_end h rfl rfl
set_option maxRecDepth 16384 in
theorem k55_0 {X : KO} {ρ : Nat → Int32} {m : MM} {N : Nat} {o : Instr × List (Nat × Int) × MM} {a0 a1 a2 : Int} (h : MR X ρ 5 0 0 qP55 N 0 [a0, a1, a2, 0, 0] [] m o) : (∃ y1, y1 = mu m a0 3 0 ∧ (∃ m3, Run X ρ 149 [(1, a1), (1, 400)] y1 [] m3 ∧ (MR X ρ 5 0 0 qP55 N 17 [a0, a1, a2, 1, 0] [] m3 o))) := by
  have h := CR_aload_n h rfl
  have h : MR X ρ 5 0 0 qP55 N 1 [a0, a1, a2, 0, 0] [(1, a0)] m o := h
  have h := CR_iconst h rfl rfl
  have h : MR X ρ 5 0 0 qP55 N 2 [a0, a1, a2, 0, 0] [(1, 0), (1, a0)] m o := h
  have h := CR_putf h rfl
  have h : MR X ρ 5 0 0 qP55 N 5 [a0, a1, a2, 0, 0] [] (mu m a0 3 0) o := h
  obtain ⟨y1, zy1, h⟩ : ∃ y, y = mu m a0 3 0 ∧ MR X ρ 5 0 0 qP55 N 5 [a0, a1, a2, 0, 0] [] y o := ⟨_, rfl, h⟩
  have h : MR X ρ 5 0 0 qP55 N 5 [a0, a1, a2, 0, 0] [] y1 o := h
  refine ⟨y1, zy1, ?_⟩
  have h := CR_aload_n h rfl
  have h : MR X ρ 5 0 0 qP55 N 6 [a0, a1, a2, 0, 0] [(1, a1)] y1 o := h
  have h := CR_sipush h rfl rfl
  have h : MR X ρ 5 0 0 qP55 N 9 [a0, a1, a2, 0, 0] [(1, 400), (1, a1)] y1 o := h
  obtain ⟨r2, m3, q4, h⟩ := MR_invV h rfl rfl
  have q4 : Run X ρ 149 [(1, a1), (1, 400)] y1 r2 m3 := q4
  obtain rfl := Run_v q4 rfl
  have h : MR X ρ 5 0 0 qP55 N 12 [a0, a1, a2, 0, 0] [] m3 o := h
  refine ⟨m3, q4, ?_⟩
  have h := CR_iconst h rfl rfl
  have h : MR X ρ 5 0 0 qP55 N 13 [a0, a1, a2, 0, 0] [(1, 1)] m3 o := h
  have h := CR_istore_n h rfl (Nat.le_of_ble_eq_true rfl)
  have h : MR X ρ 5 0 0 qP55 N 14 [a0, a1, a2, 1, 0] [] m3 o := h
  have h := CR_iconst h rfl rfl
  have h : MR X ρ 5 0 0 qP55 N 15 [a0, a1, a2, 1, 0] [(1, 0)] m3 o := h
  have h := CR_istore h rfl (Nat.le_of_ble_eq_true rfl)
  have h : MR X ρ 5 0 0 qP55 N 17 [a0, a1, a2, 1, 0] [] m3 o := h
  exact h
set_option maxRecDepth 16384 in
theorem k55_17 {X : KO} {ρ : Nat → Int32} {m : MM} {N : Nat} {o : Instr × List (Nat × Int) × MM} {b0 b1 b2 b3 b4 : Int} (h : MR X ρ 5 0 0 qP55 N 17 [b0, b1, b2, b3, b4] [] m o) : (((40 < b4) ∧ (o = (.return_, [], m))) ∨ (¬ (40 < b4) ∧ (((b3 = 0) ∧ (o = (.return_, [], m))) ∨ (¬ (b3 = 0) ∧ ((((m b1 4) = 0) ∧ (o = (.return_, [], m))) ∨ (¬ ((m b1 4) = 0) ∧ (∃ v7 m5, Run X ρ 53 [(1, b0), (1, b1), (1, b2)] m [(1, v7)] m5 ∧ (v7 = 0 ∨ v7 = 1) ∧ (∃ N8, N = N8 + 1 ∧ MR X ρ 5 0 0 qP55 N8 17 [b0, b1, b2, v7, s32 (b4 + 1)] [] m5 o)))))))) := by
  have h := CR_iload h rfl
  have h : MR X ρ 5 0 0 qP55 N 19 [b0, b1, b2, b3, b4] [(1, b4)] m o := h
  have h := CR_bipush h rfl rfl
  have h : MR X ρ 5 0 0 qP55 N 21 [b0, b1, b2, b3, b4] [(1, 40), (1, b4)] m o := h
  rcases MR_icmp h rfl rfl with ⟨c1, h⟩ | ⟨c1, h⟩
  ·
    have c1 : 40 < b4 := c1
    refine Or.inl ⟨c1, ?_⟩
    have h : MR X ρ 5 0 0 qP55 N 48 [b0, b1, b2, b3, b4] [] m o := h
    exact CR_end h rfl rfl
  ·
    have c1 : ¬ (40 < b4) := c1
    refine Or.inr ⟨c1, ?_⟩
    have h : MR X ρ 5 0 0 qP55 N 24 [b0, b1, b2, b3, b4] [] m o := h
    have h := CR_iload_n h rfl
    have h : MR X ρ 5 0 0 qP55 N 25 [b0, b1, b2, b3, b4] [(1, b3)] m o := h
    rcases MR_if h rfl rfl with ⟨c2, h⟩ | ⟨c2, h⟩
    ·
      have c2 : b3 = 0 := c2
      refine Or.inl ⟨c2, ?_⟩
      have h : MR X ρ 5 0 0 qP55 N 48 [b0, b1, b2, b3, b4] [] m o := h
      exact CR_end h rfl rfl
    ·
      have c2 : ¬ (b3 = 0) := c2
      refine Or.inr ⟨c2, ?_⟩
      have h : MR X ρ 5 0 0 qP55 N 28 [b0, b1, b2, b3, b4] [] m o := h
      have h := CR_aload_n h rfl
      have h : MR X ρ 5 0 0 qP55 N 29 [b0, b1, b2, b3, b4] [(1, b1)] m o := h
      have h := CR_getf h rfl (by decide)
      have h : MR X ρ 5 0 0 qP55 N 32 [b0, b1, b2, b3, b4] [(1, m b1 4)] m o := h
      rcases MR_if h rfl rfl with ⟨c3, h⟩ | ⟨c3, h⟩
      ·
        have c3 : (m b1 4) = 0 := c3
        refine Or.inl ⟨c3, ?_⟩
        have h : MR X ρ 5 0 0 qP55 N 48 [b0, b1, b2, b3, b4] [] m o := h
        exact CR_end h rfl rfl
      ·
        have c3 : ¬ ((m b1 4) = 0) := c3
        refine Or.inr ⟨c3, ?_⟩
        have h : MR X ρ 5 0 0 qP55 N 35 [b0, b1, b2, b3, b4] [] m o := h
        have h := CR_aload_n h rfl
        have h : MR X ρ 5 0 0 qP55 N 36 [b0, b1, b2, b3, b4] [(1, b0)] m o := h
        have h := CR_aload_n h rfl
        have h : MR X ρ 5 0 0 qP55 N 37 [b0, b1, b2, b3, b4] [(1, b1), (1, b0)] m o := h
        have h := CR_aload_n h rfl
        have h : MR X ρ 5 0 0 qP55 N 38 [b0, b1, b2, b3, b4] [(1, b2), (1, b1), (1, b0)] m o := h
        obtain ⟨r4, m5, q6, h⟩ := MR_invV h rfl rfl
        have q6 : Run X ρ 53 [(1, b0), (1, b1), (1, b2)] m r4 m5 := q6
        obtain ⟨v7, rfl, zv7⟩ := Run_z q6 rfl
        have h : MR X ρ 5 0 0 qP55 N 41 [b0, b1, b2, b3, b4] [(1, v7)] m5 o := h
        refine ⟨v7, m5, q6, zv7, ?_⟩
        have h := CR_istore_n h rfl (Nat.le_of_ble_eq_true rfl)
        have h : MR X ρ 5 0 0 qP55 N 42 [b0, b1, b2, v7, b4] [] m5 o := h
        have h := CR_inc h rfl (Nat.le_of_ble_eq_true rfl)
        have h : MR X ρ 5 0 0 qP55 N 45 [b0, b1, b2, v7, s32 (b4 + 1)] [] m5 o := h
        obtain ⟨N8, eN8, h⟩ := CR_goto h rfl rfl
        have h : MR X ρ 5 0 0 qP55 N8 17 [b0, b1, b2, v7, s32 (b4 + 1)] [] m5 o := h
        exact ⟨N8, eN8, h⟩
set_option maxRecDepth 16384 in
theorem k171_0 {X : KO} {ρ : Nat → Int32} {m : MM} {N : Nat} {o : Instr × List (Nat × Int) × MM} {a0 a1 : Int} (h : MR X ρ 4 0 0 qP171 N 0 [a0, a1, 0, 0] [] m o) : (∃ y1, y1 = mu m a0 0 0 ∧ ((((f209 y1 a1 0 1) = 0) ∧ (o = (.ireturn, [(1, -1000)], y1))) ∨ (¬ ((f209 y1 a1 0 1) = 0) ∧ (∃ m9, Run X ρ 169 [(1, a0), (1, 400)] y1 [] m9 ∧ (∃ y11, y11 = mu m9 a0 38 0 ∧ (MR X ρ 4 0 0 qP171 N 30 [a0, a1, 0, 0] [] y11 o)))))) := by
  have h := CR_aload_n h rfl
  have h : MR X ρ 4 0 0 qP171 N 1 [a0, a1, 0, 0] [(1, a0)] m o := h
  have h := CR_iconst h rfl rfl
  have h : MR X ρ 4 0 0 qP171 N 2 [a0, a1, 0, 0] [(1, 0), (1, a0)] m o := h
  have h := CR_putf h rfl
  have h : MR X ρ 4 0 0 qP171 N 5 [a0, a1, 0, 0] [] (mu m a0 0 0) o := h
  obtain ⟨y1, zy1, h⟩ : ∃ y, y = mu m a0 0 0 ∧ MR X ρ 4 0 0 qP171 N 5 [a0, a1, 0, 0] [] y o := ⟨_, rfl, h⟩
  have h : MR X ρ 4 0 0 qP171 N 5 [a0, a1, 0, 0] [] y1 o := h
  refine ⟨y1, zy1, ?_⟩
  have h := CR_iload_n h rfl
  have h : MR X ρ 4 0 0 qP171 N 6 [a0, a1, 0, 0] [(1, a1)] y1 o := h
  have h := CR_iconst h rfl rfl
  have h : MR X ρ 4 0 0 qP171 N 7 [a0, a1, 0, 0] [(1, 0), (1, a1)] y1 o := h
  have h := CR_iconst h rfl rfl
  have h : MR X ρ 4 0 0 qP171 N 8 [a0, a1, 0, 0] [(1, 1), (1, 0), (1, a1)] y1 o := h
  obtain ⟨r2, m3, q4, h⟩ := MR_invS h rfl rfl
  have q4 : Run X ρ 209 [(1, a1), (1, 0), (1, 1)] y1 r2 m3 := q4
  obtain ⟨e5, e6⟩ := d209 q4
  rw [e5, e6] at h
  have h : MR X ρ 4 0 0 qP171 N 11 [a0, a1, 0, 0] [(1, f209 y1 a1 0 1)] y1 o := h
  rcases MR_if h rfl rfl with ⟨c7, h⟩ | ⟨c7, h⟩
  ·
    have c7 : ¬ ((f209 y1 a1 0 1) = 0) := c7
    refine Or.inr ⟨c7, ?_⟩
    have h : MR X ρ 4 0 0 qP171 N 18 [a0, a1, 0, 0] [] y1 o := h
    have h := CR_aload_n h rfl
    have h : MR X ρ 4 0 0 qP171 N 19 [a0, a1, 0, 0] [(1, a0)] y1 o := h
    have h := CR_sipush h rfl rfl
    have h : MR X ρ 4 0 0 qP171 N 22 [a0, a1, 0, 0] [(1, 400), (1, a0)] y1 o := h
    obtain ⟨r8, m9, q10, h⟩ := MR_invV h rfl rfl
    have q10 : Run X ρ 169 [(1, a0), (1, 400)] y1 r8 m9 := q10
    obtain rfl := Run_v q10 rfl
    have h : MR X ρ 4 0 0 qP171 N 25 [a0, a1, 0, 0] [] m9 o := h
    refine ⟨m9, q10, ?_⟩
    have h := CR_aload_n h rfl
    have h : MR X ρ 4 0 0 qP171 N 26 [a0, a1, 0, 0] [(1, a0)] m9 o := h
    have h := CR_iconst h rfl rfl
    have h : MR X ρ 4 0 0 qP171 N 27 [a0, a1, 0, 0] [(1, 0), (1, a0)] m9 o := h
    have h := CR_putf h rfl
    have h : MR X ρ 4 0 0 qP171 N 30 [a0, a1, 0, 0] [] (mu m9 a0 38 0) o := h
    obtain ⟨y11, zy11, h⟩ : ∃ y, y = mu m9 a0 38 0 ∧ MR X ρ 4 0 0 qP171 N 30 [a0, a1, 0, 0] [] y o := ⟨_, rfl, h⟩
    have h : MR X ρ 4 0 0 qP171 N 30 [a0, a1, 0, 0] [] y11 o := h
    refine ⟨y11, zy11, ?_⟩
    exact h
  ·
    have c7 : (f209 y1 a1 0 1) = 0 := Decidable.of_not_not (show ¬ ¬ ((f209 y1 a1 0 1) = 0) from c7)
    refine Or.inl ⟨c7, ?_⟩
    have h : MR X ρ 4 0 0 qP171 N 14 [a0, a1, 0, 0] [] y1 o := h
    have h := CR_sipush h rfl rfl
    have h : MR X ρ 4 0 0 qP171 N 17 [a0, a1, 0, 0] [(1, -1000)] y1 o := h
    exact CR_end h rfl rfl
set_option maxRecDepth 16384 in
theorem k171_30 {X : KO} {ρ : Nat → Int32} {m : MM} {N : Nat} {o : Instr × List (Nat × Int) × MM} {b0 b1 b2 b3 : Int} (h : MR X ρ 4 0 0 qP171 N 30 [b0, b1, b2, b3] [] m o) : ((((m b0 7) = 0) ∧ (∃ y7, y7 = g219 m b0 ∧ (MR X ρ 4 0 0 qP171 N 73 [b0, b1, 0, 0] [] y7 o))) ∨ (¬ ((m b0 7) = 0) ∧ (∃ v11 m9, Run X ρ 241 [(1, b0)] m [(1, v11)] m9 ∧ (v11 = 0 ∨ v11 = 1) ∧ (((v11 = 0) ∧ (o = (.ireturn, [(1, s32 ((-2) - (m9 b0 11)))], m9))) ∨ (¬ (v11 = 0) ∧ (∃ y13, y13 = mu m9 b0 38 (s32 ((m9 b0 38) + 1)) ∧ (∃ N14, N = N14 + 1 ∧ MR X ρ 4 0 0 qP171 N14 30 [b0, b1, b2, b3] [] y13 o))))))) := by
  have h := CR_aload_n h rfl
  have h : MR X ρ 4 0 0 qP171 N 31 [b0, b1, b2, b3] [(1, b0)] m o := h
  have h := CR_getf h rfl (by decide)
  have h : MR X ρ 4 0 0 qP171 N 34 [b0, b1, b2, b3] [(1, m b0 7)] m o := h
  rcases MR_if h rfl rfl with ⟨c1, h⟩ | ⟨c1, h⟩
  ·
    have c1 : (m b0 7) = 0 := c1
    refine Or.inl ⟨c1, ?_⟩
    have h : MR X ρ 4 0 0 qP171 N 65 [b0, b1, b2, b3] [] m o := h
    have h := CR_aload_n h rfl
    have h : MR X ρ 4 0 0 qP171 N 66 [b0, b1, b2, b3] [(1, b0)] m o := h
    obtain ⟨r2, m3, q4, h⟩ := MR_invV h rfl rfl
    have q4 : Run X ρ 219 [(1, b0)] m r2 m3 := q4
    obtain ⟨e5, e6⟩ := d219 q4
    rw [e5, e6] at h
    have h : MR X ρ 4 0 0 qP171 N 69 [b0, b1, b2, b3] [] (g219 m b0) o := h
    obtain ⟨y7, zy7, h⟩ : ∃ y, y = g219 m b0 ∧ MR X ρ 4 0 0 qP171 N 69 [b0, b1, b2, b3] [] y o := ⟨_, rfl, h⟩
    have h : MR X ρ 4 0 0 qP171 N 69 [b0, b1, b2, b3] [] y7 o := h
    refine ⟨y7, zy7, ?_⟩
    have h := CR_iconst h rfl rfl
    have h : MR X ρ 4 0 0 qP171 N 70 [b0, b1, b2, b3] [(1, 0)] y7 o := h
    have h := CR_istore_n h rfl (Nat.le_of_ble_eq_true rfl)
    have h : MR X ρ 4 0 0 qP171 N 71 [b0, b1, 0, b3] [] y7 o := h
    have h := CR_iconst h rfl rfl
    have h : MR X ρ 4 0 0 qP171 N 72 [b0, b1, 0, b3] [(1, 0)] y7 o := h
    have h := CR_istore_n h rfl (Nat.le_of_ble_eq_true rfl)
    have h : MR X ρ 4 0 0 qP171 N 73 [b0, b1, 0, 0] [] y7 o := h
    exact h
  ·
    have c1 : ¬ ((m b0 7) = 0) := c1
    refine Or.inr ⟨c1, ?_⟩
    have h : MR X ρ 4 0 0 qP171 N 37 [b0, b1, b2, b3] [] m o := h
    have h := CR_aload_n h rfl
    have h : MR X ρ 4 0 0 qP171 N 38 [b0, b1, b2, b3] [(1, b0)] m o := h
    obtain ⟨r8, m9, q10, h⟩ := MR_invV h rfl rfl
    have q10 : Run X ρ 241 [(1, b0)] m r8 m9 := q10
    obtain ⟨v11, rfl, zv11⟩ := Run_z q10 rfl
    have h : MR X ρ 4 0 0 qP171 N 41 [b0, b1, b2, b3] [(1, v11)] m9 o := h
    refine ⟨v11, m9, q10, zv11, ?_⟩
    rcases MR_if h rfl rfl with ⟨c12, h⟩ | ⟨c12, h⟩
    ·
      have c12 : ¬ (v11 = 0) := c12
      refine Or.inr ⟨c12, ?_⟩
      have h : MR X ρ 4 0 0 qP171 N 52 [b0, b1, b2, b3] [] m9 o := h
      have h := CR_aload_n h rfl
      have h : MR X ρ 4 0 0 qP171 N 53 [b0, b1, b2, b3] [(1, b0)] m9 o := h
      have h := CR_dup h rfl
      have h : MR X ρ 4 0 0 qP171 N 54 [b0, b1, b2, b3] [(1, b0), (1, b0)] m9 o := h
      have h := CR_getf h rfl (by decide)
      have h : MR X ρ 4 0 0 qP171 N 57 [b0, b1, b2, b3] [(1, m9 b0 38), (1, b0)] m9 o := h
      have h := CR_iconst h rfl rfl
      have h : MR X ρ 4 0 0 qP171 N 58 [b0, b1, b2, b3] [(1, 1), (1, m9 b0 38), (1, b0)] m9 o := h
      have h := CR_iadd h rfl
      have h : MR X ρ 4 0 0 qP171 N 59 [b0, b1, b2, b3] [(1, s32 ((m9 b0 38) + 1)), (1, b0)] m9 o := h
      have h := CR_putf h rfl
      have h : MR X ρ 4 0 0 qP171 N 62 [b0, b1, b2, b3] [] (mu m9 b0 38 (s32 ((m9 b0 38) + 1))) o := h
      obtain ⟨y13, zy13, h⟩ : ∃ y, y = mu m9 b0 38 (s32 ((m9 b0 38) + 1)) ∧ MR X ρ 4 0 0 qP171 N 62 [b0, b1, b2, b3] [] y o := ⟨_, rfl, h⟩
      have h : MR X ρ 4 0 0 qP171 N 62 [b0, b1, b2, b3] [] y13 o := h
      refine ⟨y13, zy13, ?_⟩
      obtain ⟨N14, eN14, h⟩ := CR_goto h rfl rfl
      have h : MR X ρ 4 0 0 qP171 N14 30 [b0, b1, b2, b3] [] y13 o := h
      exact ⟨N14, eN14, h⟩
    ·
      have c12 : v11 = 0 := Decidable.of_not_not (show ¬ ¬ (v11 = 0) from c12)
      refine Or.inl ⟨c12, ?_⟩
      have h : MR X ρ 4 0 0 qP171 N 44 [b0, b1, b2, b3] [] m9 o := h
      have h := CR_bipush h rfl rfl
      have h : MR X ρ 4 0 0 qP171 N 46 [b0, b1, b2, b3] [(1, -2)] m9 o := h
      have h := CR_aload_n h rfl
      have h : MR X ρ 4 0 0 qP171 N 47 [b0, b1, b2, b3] [(1, b0), (1, -2)] m9 o := h
      have h := CR_getf h rfl (by decide)
      have h : MR X ρ 4 0 0 qP171 N 50 [b0, b1, b2, b3] [(1, m9 b0 11), (1, -2)] m9 o := h
      have h := CR_isub h rfl
      have h : MR X ρ 4 0 0 qP171 N 51 [b0, b1, b2, b3] [(1, s32 ((-2) - (m9 b0 11)))] m9 o := h
      exact CR_end h rfl rfl
set_option maxRecDepth 16384 in
theorem k171_73 {X : KO} {ρ : Nat → Int32} {m : MM} {N : Nat} {o : Instr × List (Nat × Int) × MM} {b0 b1 b2 b3 : Int} (h : MR X ρ 4 0 0 qP171 N 73 [b0, b1, b2, b3] [] m o) : ((((m b0 38) ≤ b2) ∧ (∃ y2, y2 = mu m (m b0 37) 0 (s32 b3) ∧ (∃ y3, y3 = mu y2 (y2 b0 37) 1 (s32 b2) ∧ (∃ y4, y4 = mu y3 (y3 b0 37) 2 (s32 (y3 (y3 b0 14) 92)) ∧ (∃ y10, y10 = mu y4 (y4 b0 37) 3 (s32 (f286 y4 b0 2)) ∧ (∃ y11, y11 = mu y10 b0 39 1 ∧ (((b1 = 1) ∧ (((b2 ≤ 0) ∧ (∃ y26, y26 = g281 y11 b0 0 ∧ (((b3 = 0) ∧ (o = (.ireturn, [(1, -1)], y26))) ∨ (¬ (b3 = 0) ∧ (o = (.ireturn, [(1, b2)], y26)))))) ∨ (¬ (b2 ≤ 0) ∧ (∃ y33, y33 = g281 y11 b0 1 ∧ (((b3 = 0) ∧ (o = (.ireturn, [(1, -1)], y33))) ∨ (¬ (b3 = 0) ∧ (o = (.ireturn, [(1, b2)], y33)))))))) ∨ (¬ (b1 = 1) ∧ (∃ y18, y18 = g281 y11 b0 0 ∧ (((b3 = 0) ∧ (o = (.ireturn, [(1, -1)], y18))) ∨ (¬ (b3 = 0) ∧ (o = (.ireturn, [(1, b2)], y18))))))))))))) ∨ (¬ ((m b0 38) ≤ b2) ∧ (((b3 = 0) ∧ (∃ y74, y74 = g196 m b0 (s32 (3 * b2)) ∧ ((((f196 m b0 (s32 (3 * b2))) = 0) ∧ (∃ N77, N = N77 + 1 ∧ MR X ρ 4 0 0 qP171 N77 73 [b0, b1, s32 (b2 + 1), f196 m b0 (s32 (3 * b2))] [] y74 o)) ∨ (¬ ((f196 m b0 (s32 (3 * b2))) = 0) ∧ (∃ N76, N = N76 + 1 ∧ MR X ρ 4 0 0 qP171 N76 73 [b0, b1, b2, f196 m b0 (s32 (3 * b2))] [] y74 o))))) ∨ (¬ (b3 = 0) ∧ (∃ y36, y36 = mu m (m b0 37) 0 (s32 b3) ∧ (∃ y37, y37 = mu y36 (y36 b0 37) 1 (s32 b2) ∧ (∃ y38, y38 = mu y37 (y37 b0 37) 2 (s32 (y37 (y37 b0 14) 92)) ∧ (∃ y44, y44 = mu y38 (y38 b0 37) 3 (s32 (f286 y38 b0 2)) ∧ (∃ y45, y45 = mu y44 b0 39 1 ∧ (((b1 = 1) ∧ (((b2 ≤ 0) ∧ (∃ y60, y60 = g281 y45 b0 0 ∧ (o = (.ireturn, [(1, b2)], y60)))) ∨ (¬ (b2 ≤ 0) ∧ (∃ y67, y67 = g281 y45 b0 1 ∧ (o = (.ireturn, [(1, b2)], y67)))))) ∨ (¬ (b1 = 1) ∧ (∃ y52, y52 = g281 y45 b0 0 ∧ (o = (.ireturn, [(1, b2)], y52)))))))))))))) := by
  have h := CR_iload_n h rfl
  have h : MR X ρ 4 0 0 qP171 N 74 [b0, b1, b2, b3] [(1, b2)] m o := h
  have h := CR_aload_n h rfl
  have h : MR X ρ 4 0 0 qP171 N 75 [b0, b1, b2, b3] [(1, b0), (1, b2)] m o := h
  have h := CR_getf h rfl (by decide)
  have h : MR X ρ 4 0 0 qP171 N 78 [b0, b1, b2, b3] [(1, m b0 38), (1, b2)] m o := h
  rcases MR_icmp h rfl rfl with ⟨c1, h⟩ | ⟨c1, h⟩
  ·
    have c1 : (m b0 38) ≤ b2 := c1
    refine Or.inl ⟨c1, ?_⟩
    have h : MR X ρ 4 0 0 qP171 N 103 [b0, b1, b2, b3] [] m o := h
    have h := CR_aload_n h rfl
    have h : MR X ρ 4 0 0 qP171 N 104 [b0, b1, b2, b3] [(1, b0)] m o := h
    have h := CR_getf h rfl (by decide)
    have h : MR X ρ 4 0 0 qP171 N 107 [b0, b1, b2, b3] [(1, m b0 37)] m o := h
    have h := CR_iconst h rfl rfl
    have h : MR X ρ 4 0 0 qP171 N 108 [b0, b1, b2, b3] [(1, 0), (1, m b0 37)] m o := h
    have h := CR_iload_n h rfl
    have h : MR X ρ 4 0 0 qP171 N 109 [b0, b1, b2, b3] [(1, b3), (1, 0), (1, m b0 37)] m o := h
    have h := CR_iastore_ h rfl
    have h : MR X ρ 4 0 0 qP171 N 110 [b0, b1, b2, b3] [] (mu m (m b0 37) 0 (s32 b3)) o := h
    obtain ⟨y2, zy2, h⟩ : ∃ y, y = mu m (m b0 37) 0 (s32 b3) ∧ MR X ρ 4 0 0 qP171 N 110 [b0, b1, b2, b3] [] y o := ⟨_, rfl, h⟩
    have h : MR X ρ 4 0 0 qP171 N 110 [b0, b1, b2, b3] [] y2 o := h
    refine ⟨y2, zy2, ?_⟩
    have h := CR_aload_n h rfl
    have h : MR X ρ 4 0 0 qP171 N 111 [b0, b1, b2, b3] [(1, b0)] y2 o := h
    have h := CR_getf h rfl (by decide)
    have h : MR X ρ 4 0 0 qP171 N 114 [b0, b1, b2, b3] [(1, y2 b0 37)] y2 o := h
    have h := CR_iconst h rfl rfl
    have h : MR X ρ 4 0 0 qP171 N 115 [b0, b1, b2, b3] [(1, 1), (1, y2 b0 37)] y2 o := h
    have h := CR_iload_n h rfl
    have h : MR X ρ 4 0 0 qP171 N 116 [b0, b1, b2, b3] [(1, b2), (1, 1), (1, y2 b0 37)] y2 o := h
    have h := CR_iastore_ h rfl
    have h : MR X ρ 4 0 0 qP171 N 117 [b0, b1, b2, b3] [] (mu y2 (y2 b0 37) 1 (s32 b2)) o := h
    obtain ⟨y3, zy3, h⟩ : ∃ y, y = mu y2 (y2 b0 37) 1 (s32 b2) ∧ MR X ρ 4 0 0 qP171 N 117 [b0, b1, b2, b3] [] y o := ⟨_, rfl, h⟩
    have h : MR X ρ 4 0 0 qP171 N 117 [b0, b1, b2, b3] [] y3 o := h
    refine ⟨y3, zy3, ?_⟩
    have h := CR_aload_n h rfl
    have h : MR X ρ 4 0 0 qP171 N 118 [b0, b1, b2, b3] [(1, b0)] y3 o := h
    have h := CR_getf h rfl (by decide)
    have h : MR X ρ 4 0 0 qP171 N 121 [b0, b1, b2, b3] [(1, y3 b0 37)] y3 o := h
    have h := CR_iconst h rfl rfl
    have h : MR X ρ 4 0 0 qP171 N 122 [b0, b1, b2, b3] [(1, 2), (1, y3 b0 37)] y3 o := h
    have h := CR_aload_n h rfl
    have h : MR X ρ 4 0 0 qP171 N 123 [b0, b1, b2, b3] [(1, b0), (1, 2), (1, y3 b0 37)] y3 o := h
    have h := CR_getf h rfl (by decide)
    have h : MR X ρ 4 0 0 qP171 N 126 [b0, b1, b2, b3] [(1, y3 b0 14), (1, 2), (1, y3 b0 37)] y3 o := h
    have h := CR_bipush h rfl rfl
    have h : MR X ρ 4 0 0 qP171 N 128 [b0, b1, b2, b3] [(1, 92), (1, y3 b0 14), (1, 2), (1, y3 b0 37)] y3 o := h
    have h := CR_iaload h rfl rfl
    have h : MR X ρ 4 0 0 qP171 N 129 [b0, b1, b2, b3] [(1, y3 (y3 b0 14) 92), (1, 2), (1, y3 b0 37)] y3 o := h
    have h := CR_iastore_ h rfl
    have h : MR X ρ 4 0 0 qP171 N 130 [b0, b1, b2, b3] [] (mu y3 (y3 b0 37) 2 (s32 (y3 (y3 b0 14) 92))) o := h
    obtain ⟨y4, zy4, h⟩ : ∃ y, y = mu y3 (y3 b0 37) 2 (s32 (y3 (y3 b0 14) 92)) ∧ MR X ρ 4 0 0 qP171 N 130 [b0, b1, b2, b3] [] y o := ⟨_, rfl, h⟩
    have h : MR X ρ 4 0 0 qP171 N 130 [b0, b1, b2, b3] [] y4 o := h
    refine ⟨y4, zy4, ?_⟩
    have h := CR_aload_n h rfl
    have h : MR X ρ 4 0 0 qP171 N 131 [b0, b1, b2, b3] [(1, b0)] y4 o := h
    have h := CR_getf h rfl (by decide)
    have h : MR X ρ 4 0 0 qP171 N 134 [b0, b1, b2, b3] [(1, y4 b0 37)] y4 o := h
    have h := CR_iconst h rfl rfl
    have h : MR X ρ 4 0 0 qP171 N 135 [b0, b1, b2, b3] [(1, 3), (1, y4 b0 37)] y4 o := h
    have h := CR_aload_n h rfl
    have h : MR X ρ 4 0 0 qP171 N 136 [b0, b1, b2, b3] [(1, b0), (1, 3), (1, y4 b0 37)] y4 o := h
    have h := CR_iconst h rfl rfl
    have h : MR X ρ 4 0 0 qP171 N 137 [b0, b1, b2, b3] [(1, 2), (1, b0), (1, 3), (1, y4 b0 37)] y4 o := h
    obtain ⟨r5, m6, q7, h⟩ := MR_invV h rfl rfl
    have q7 : Run X ρ 286 [(1, b0), (1, 2)] y4 r5 m6 := q7
    obtain ⟨e8, e9⟩ := d286 q7
    rw [e8, e9] at h
    have h : MR X ρ 4 0 0 qP171 N 140 [b0, b1, b2, b3] [(1, f286 y4 b0 2), (1, 3), (1, y4 b0 37)] y4 o := h
    have h := CR_iastore_ h rfl
    have h : MR X ρ 4 0 0 qP171 N 141 [b0, b1, b2, b3] [] (mu y4 (y4 b0 37) 3 (s32 (f286 y4 b0 2))) o := h
    obtain ⟨y10, zy10, h⟩ : ∃ y, y = mu y4 (y4 b0 37) 3 (s32 (f286 y4 b0 2)) ∧ MR X ρ 4 0 0 qP171 N 141 [b0, b1, b2, b3] [] y o := ⟨_, rfl, h⟩
    have h : MR X ρ 4 0 0 qP171 N 141 [b0, b1, b2, b3] [] y10 o := h
    refine ⟨y10, zy10, ?_⟩
    have h := CR_aload_n h rfl
    have h : MR X ρ 4 0 0 qP171 N 142 [b0, b1, b2, b3] [(1, b0)] y10 o := h
    have h := CR_iconst h rfl rfl
    have h : MR X ρ 4 0 0 qP171 N 143 [b0, b1, b2, b3] [(1, 1), (1, b0)] y10 o := h
    have h := CR_putf h rfl
    have h : MR X ρ 4 0 0 qP171 N 146 [b0, b1, b2, b3] [] (mu y10 b0 39 1) o := h
    obtain ⟨y11, zy11, h⟩ : ∃ y, y = mu y10 b0 39 1 ∧ MR X ρ 4 0 0 qP171 N 146 [b0, b1, b2, b3] [] y o := ⟨_, rfl, h⟩
    have h : MR X ρ 4 0 0 qP171 N 146 [b0, b1, b2, b3] [] y11 o := h
    refine ⟨y11, zy11, ?_⟩
    have h := CR_aload_n h rfl
    have h : MR X ρ 4 0 0 qP171 N 147 [b0, b1, b2, b3] [(1, b0)] y11 o := h
    have h := CR_iload_n h rfl
    have h : MR X ρ 4 0 0 qP171 N 148 [b0, b1, b2, b3] [(1, b1), (1, b0)] y11 o := h
    have h := CR_iconst h rfl rfl
    have h : MR X ρ 4 0 0 qP171 N 149 [b0, b1, b2, b3] [(1, 1), (1, b1), (1, b0)] y11 o := h
    rcases MR_icmp h rfl rfl with ⟨c12, h⟩ | ⟨c12, h⟩
    ·
      have c12 : ¬ (b1 = 1) := c12
      refine Or.inr ⟨c12, ?_⟩
      have h : MR X ρ 4 0 0 qP171 N 160 [b0, b1, b2, b3] [(1, b0)] y11 o := h
      have h := CR_iconst h rfl rfl
      have h : MR X ρ 4 0 0 qP171 N 161 [b0, b1, b2, b3] [(1, 0), (1, b0)] y11 o := h
      obtain ⟨r13, m14, q15, h⟩ := MR_invV h rfl rfl
      have q15 : Run X ρ 281 [(1, b0), (1, 0)] y11 r13 m14 := q15
      obtain ⟨e16, e17⟩ := d281 q15
      rw [e16, e17] at h
      have h : MR X ρ 4 0 0 qP171 N 164 [b0, b1, b2, b3] [] (g281 y11 b0 0) o := h
      obtain ⟨y18, zy18, h⟩ : ∃ y, y = g281 y11 b0 0 ∧ MR X ρ 4 0 0 qP171 N 164 [b0, b1, b2, b3] [] y o := ⟨_, rfl, h⟩
      have h : MR X ρ 4 0 0 qP171 N 164 [b0, b1, b2, b3] [] y18 o := h
      refine ⟨y18, zy18, ?_⟩
      have h := CR_iload_n h rfl
      have h : MR X ρ 4 0 0 qP171 N 165 [b0, b1, b2, b3] [(1, b3)] y18 o := h
      rcases MR_if h rfl rfl with ⟨c19, h⟩ | ⟨c19, h⟩
      ·
        have c19 : ¬ (b3 = 0) := c19
        refine Or.inr ⟨c19, ?_⟩
        have h : MR X ρ 4 0 0 qP171 N 172 [b0, b1, b2, b3] [] y18 o := h
        have h := CR_iload_n h rfl
        have h : MR X ρ 4 0 0 qP171 N 173 [b0, b1, b2, b3] [(1, b2)] y18 o := h
        exact CR_end h rfl rfl
      ·
        have c19 : b3 = 0 := Decidable.of_not_not (show ¬ ¬ (b3 = 0) from c19)
        refine Or.inl ⟨c19, ?_⟩
        have h : MR X ρ 4 0 0 qP171 N 168 [b0, b1, b2, b3] [] y18 o := h
        have h := CR_iconst h rfl rfl
        have h : MR X ρ 4 0 0 qP171 N 169 [b0, b1, b2, b3] [(1, -1)] y18 o := h
        have h := CR_go h rfl rfl
        have h : MR X ρ 4 0 0 qP171 N 173 [b0, b1, b2, b3] [(1, -1)] y18 o := h
        exact CR_end h rfl rfl
    ·
      have c12 : b1 = 1 := Decidable.of_not_not (show ¬ ¬ (b1 = 1) from c12)
      refine Or.inl ⟨c12, ?_⟩
      have h : MR X ρ 4 0 0 qP171 N 152 [b0, b1, b2, b3] [(1, b0)] y11 o := h
      have h := CR_iload_n h rfl
      have h : MR X ρ 4 0 0 qP171 N 153 [b0, b1, b2, b3] [(1, b2), (1, b0)] y11 o := h
      rcases MR_if h rfl rfl with ⟨c20, h⟩ | ⟨c20, h⟩
      ·
        have c20 : b2 ≤ 0 := c20
        refine Or.inl ⟨c20, ?_⟩
        have h : MR X ρ 4 0 0 qP171 N 160 [b0, b1, b2, b3] [(1, b0)] y11 o := h
        have h := CR_iconst h rfl rfl
        have h : MR X ρ 4 0 0 qP171 N 161 [b0, b1, b2, b3] [(1, 0), (1, b0)] y11 o := h
        obtain ⟨r21, m22, q23, h⟩ := MR_invV h rfl rfl
        have q23 : Run X ρ 281 [(1, b0), (1, 0)] y11 r21 m22 := q23
        obtain ⟨e24, e25⟩ := d281 q23
        rw [e24, e25] at h
        have h : MR X ρ 4 0 0 qP171 N 164 [b0, b1, b2, b3] [] (g281 y11 b0 0) o := h
        obtain ⟨y26, zy26, h⟩ : ∃ y, y = g281 y11 b0 0 ∧ MR X ρ 4 0 0 qP171 N 164 [b0, b1, b2, b3] [] y o := ⟨_, rfl, h⟩
        have h : MR X ρ 4 0 0 qP171 N 164 [b0, b1, b2, b3] [] y26 o := h
        refine ⟨y26, zy26, ?_⟩
        have h := CR_iload_n h rfl
        have h : MR X ρ 4 0 0 qP171 N 165 [b0, b1, b2, b3] [(1, b3)] y26 o := h
        rcases MR_if h rfl rfl with ⟨c27, h⟩ | ⟨c27, h⟩
        ·
          have c27 : ¬ (b3 = 0) := c27
          refine Or.inr ⟨c27, ?_⟩
          have h : MR X ρ 4 0 0 qP171 N 172 [b0, b1, b2, b3] [] y26 o := h
          have h := CR_iload_n h rfl
          have h : MR X ρ 4 0 0 qP171 N 173 [b0, b1, b2, b3] [(1, b2)] y26 o := h
          exact CR_end h rfl rfl
        ·
          have c27 : b3 = 0 := Decidable.of_not_not (show ¬ ¬ (b3 = 0) from c27)
          refine Or.inl ⟨c27, ?_⟩
          have h : MR X ρ 4 0 0 qP171 N 168 [b0, b1, b2, b3] [] y26 o := h
          have h := CR_iconst h rfl rfl
          have h : MR X ρ 4 0 0 qP171 N 169 [b0, b1, b2, b3] [(1, -1)] y26 o := h
          have h := CR_go h rfl rfl
          have h : MR X ρ 4 0 0 qP171 N 173 [b0, b1, b2, b3] [(1, -1)] y26 o := h
          exact CR_end h rfl rfl
      ·
        have c20 : ¬ (b2 ≤ 0) := c20
        refine Or.inr ⟨c20, ?_⟩
        have h : MR X ρ 4 0 0 qP171 N 156 [b0, b1, b2, b3] [(1, b0)] y11 o := h
        have h := CR_iconst h rfl rfl
        have h : MR X ρ 4 0 0 qP171 N 157 [b0, b1, b2, b3] [(1, 1), (1, b0)] y11 o := h
        have h := CR_go h rfl rfl
        have h : MR X ρ 4 0 0 qP171 N 161 [b0, b1, b2, b3] [(1, 1), (1, b0)] y11 o := h
        obtain ⟨r28, m29, q30, h⟩ := MR_invV h rfl rfl
        have q30 : Run X ρ 281 [(1, b0), (1, 1)] y11 r28 m29 := q30
        obtain ⟨e31, e32⟩ := d281 q30
        rw [e31, e32] at h
        have h : MR X ρ 4 0 0 qP171 N 164 [b0, b1, b2, b3] [] (g281 y11 b0 1) o := h
        obtain ⟨y33, zy33, h⟩ : ∃ y, y = g281 y11 b0 1 ∧ MR X ρ 4 0 0 qP171 N 164 [b0, b1, b2, b3] [] y o := ⟨_, rfl, h⟩
        have h : MR X ρ 4 0 0 qP171 N 164 [b0, b1, b2, b3] [] y33 o := h
        refine ⟨y33, zy33, ?_⟩
        have h := CR_iload_n h rfl
        have h : MR X ρ 4 0 0 qP171 N 165 [b0, b1, b2, b3] [(1, b3)] y33 o := h
        rcases MR_if h rfl rfl with ⟨c34, h⟩ | ⟨c34, h⟩
        ·
          have c34 : ¬ (b3 = 0) := c34
          refine Or.inr ⟨c34, ?_⟩
          have h : MR X ρ 4 0 0 qP171 N 172 [b0, b1, b2, b3] [] y33 o := h
          have h := CR_iload_n h rfl
          have h : MR X ρ 4 0 0 qP171 N 173 [b0, b1, b2, b3] [(1, b2)] y33 o := h
          exact CR_end h rfl rfl
        ·
          have c34 : b3 = 0 := Decidable.of_not_not (show ¬ ¬ (b3 = 0) from c34)
          refine Or.inl ⟨c34, ?_⟩
          have h : MR X ρ 4 0 0 qP171 N 168 [b0, b1, b2, b3] [] y33 o := h
          have h := CR_iconst h rfl rfl
          have h : MR X ρ 4 0 0 qP171 N 169 [b0, b1, b2, b3] [(1, -1)] y33 o := h
          have h := CR_go h rfl rfl
          have h : MR X ρ 4 0 0 qP171 N 173 [b0, b1, b2, b3] [(1, -1)] y33 o := h
          exact CR_end h rfl rfl
  ·
    have c1 : ¬ ((m b0 38) ≤ b2) := c1
    refine Or.inr ⟨c1, ?_⟩
    have h : MR X ρ 4 0 0 qP171 N 81 [b0, b1, b2, b3] [] m o := h
    have h := CR_iload_n h rfl
    have h : MR X ρ 4 0 0 qP171 N 82 [b0, b1, b2, b3] [(1, b3)] m o := h
    rcases MR_if h rfl rfl with ⟨c35, h⟩ | ⟨c35, h⟩
    ·
      have c35 : ¬ (b3 = 0) := c35
      refine Or.inr ⟨c35, ?_⟩
      have h : MR X ρ 4 0 0 qP171 N 103 [b0, b1, b2, b3] [] m o := h
      have h := CR_aload_n h rfl
      have h : MR X ρ 4 0 0 qP171 N 104 [b0, b1, b2, b3] [(1, b0)] m o := h
      have h := CR_getf h rfl (by decide)
      have h : MR X ρ 4 0 0 qP171 N 107 [b0, b1, b2, b3] [(1, m b0 37)] m o := h
      have h := CR_iconst h rfl rfl
      have h : MR X ρ 4 0 0 qP171 N 108 [b0, b1, b2, b3] [(1, 0), (1, m b0 37)] m o := h
      have h := CR_iload_n h rfl
      have h : MR X ρ 4 0 0 qP171 N 109 [b0, b1, b2, b3] [(1, b3), (1, 0), (1, m b0 37)] m o := h
      have h := CR_iastore_ h rfl
      have h : MR X ρ 4 0 0 qP171 N 110 [b0, b1, b2, b3] [] (mu m (m b0 37) 0 (s32 b3)) o := h
      obtain ⟨y36, zy36, h⟩ : ∃ y, y = mu m (m b0 37) 0 (s32 b3) ∧ MR X ρ 4 0 0 qP171 N 110 [b0, b1, b2, b3] [] y o := ⟨_, rfl, h⟩
      have h : MR X ρ 4 0 0 qP171 N 110 [b0, b1, b2, b3] [] y36 o := h
      refine ⟨y36, zy36, ?_⟩
      have h := CR_aload_n h rfl
      have h : MR X ρ 4 0 0 qP171 N 111 [b0, b1, b2, b3] [(1, b0)] y36 o := h
      have h := CR_getf h rfl (by decide)
      have h : MR X ρ 4 0 0 qP171 N 114 [b0, b1, b2, b3] [(1, y36 b0 37)] y36 o := h
      have h := CR_iconst h rfl rfl
      have h : MR X ρ 4 0 0 qP171 N 115 [b0, b1, b2, b3] [(1, 1), (1, y36 b0 37)] y36 o := h
      have h := CR_iload_n h rfl
      have h : MR X ρ 4 0 0 qP171 N 116 [b0, b1, b2, b3] [(1, b2), (1, 1), (1, y36 b0 37)] y36 o := h
      have h := CR_iastore_ h rfl
      have h : MR X ρ 4 0 0 qP171 N 117 [b0, b1, b2, b3] [] (mu y36 (y36 b0 37) 1 (s32 b2)) o := h
      obtain ⟨y37, zy37, h⟩ : ∃ y, y = mu y36 (y36 b0 37) 1 (s32 b2) ∧ MR X ρ 4 0 0 qP171 N 117 [b0, b1, b2, b3] [] y o := ⟨_, rfl, h⟩
      have h : MR X ρ 4 0 0 qP171 N 117 [b0, b1, b2, b3] [] y37 o := h
      refine ⟨y37, zy37, ?_⟩
      have h := CR_aload_n h rfl
      have h : MR X ρ 4 0 0 qP171 N 118 [b0, b1, b2, b3] [(1, b0)] y37 o := h
      have h := CR_getf h rfl (by decide)
      have h : MR X ρ 4 0 0 qP171 N 121 [b0, b1, b2, b3] [(1, y37 b0 37)] y37 o := h
      have h := CR_iconst h rfl rfl
      have h : MR X ρ 4 0 0 qP171 N 122 [b0, b1, b2, b3] [(1, 2), (1, y37 b0 37)] y37 o := h
      have h := CR_aload_n h rfl
      have h : MR X ρ 4 0 0 qP171 N 123 [b0, b1, b2, b3] [(1, b0), (1, 2), (1, y37 b0 37)] y37 o := h
      have h := CR_getf h rfl (by decide)
      have h : MR X ρ 4 0 0 qP171 N 126 [b0, b1, b2, b3] [(1, y37 b0 14), (1, 2), (1, y37 b0 37)] y37 o := h
      have h := CR_bipush h rfl rfl
      have h : MR X ρ 4 0 0 qP171 N 128 [b0, b1, b2, b3] [(1, 92), (1, y37 b0 14), (1, 2), (1, y37 b0 37)] y37 o := h
      have h := CR_iaload h rfl rfl
      have h : MR X ρ 4 0 0 qP171 N 129 [b0, b1, b2, b3] [(1, y37 (y37 b0 14) 92), (1, 2), (1, y37 b0 37)] y37 o := h
      have h := CR_iastore_ h rfl
      have h : MR X ρ 4 0 0 qP171 N 130 [b0, b1, b2, b3] [] (mu y37 (y37 b0 37) 2 (s32 (y37 (y37 b0 14) 92))) o := h
      obtain ⟨y38, zy38, h⟩ : ∃ y, y = mu y37 (y37 b0 37) 2 (s32 (y37 (y37 b0 14) 92)) ∧ MR X ρ 4 0 0 qP171 N 130 [b0, b1, b2, b3] [] y o := ⟨_, rfl, h⟩
      have h : MR X ρ 4 0 0 qP171 N 130 [b0, b1, b2, b3] [] y38 o := h
      refine ⟨y38, zy38, ?_⟩
      have h := CR_aload_n h rfl
      have h : MR X ρ 4 0 0 qP171 N 131 [b0, b1, b2, b3] [(1, b0)] y38 o := h
      have h := CR_getf h rfl (by decide)
      have h : MR X ρ 4 0 0 qP171 N 134 [b0, b1, b2, b3] [(1, y38 b0 37)] y38 o := h
      have h := CR_iconst h rfl rfl
      have h : MR X ρ 4 0 0 qP171 N 135 [b0, b1, b2, b3] [(1, 3), (1, y38 b0 37)] y38 o := h
      have h := CR_aload_n h rfl
      have h : MR X ρ 4 0 0 qP171 N 136 [b0, b1, b2, b3] [(1, b0), (1, 3), (1, y38 b0 37)] y38 o := h
      have h := CR_iconst h rfl rfl
      have h : MR X ρ 4 0 0 qP171 N 137 [b0, b1, b2, b3] [(1, 2), (1, b0), (1, 3), (1, y38 b0 37)] y38 o := h
      obtain ⟨r39, m40, q41, h⟩ := MR_invV h rfl rfl
      have q41 : Run X ρ 286 [(1, b0), (1, 2)] y38 r39 m40 := q41
      obtain ⟨e42, e43⟩ := d286 q41
      rw [e42, e43] at h
      have h : MR X ρ 4 0 0 qP171 N 140 [b0, b1, b2, b3] [(1, f286 y38 b0 2), (1, 3), (1, y38 b0 37)] y38 o := h
      have h := CR_iastore_ h rfl
      have h : MR X ρ 4 0 0 qP171 N 141 [b0, b1, b2, b3] [] (mu y38 (y38 b0 37) 3 (s32 (f286 y38 b0 2))) o := h
      obtain ⟨y44, zy44, h⟩ : ∃ y, y = mu y38 (y38 b0 37) 3 (s32 (f286 y38 b0 2)) ∧ MR X ρ 4 0 0 qP171 N 141 [b0, b1, b2, b3] [] y o := ⟨_, rfl, h⟩
      have h : MR X ρ 4 0 0 qP171 N 141 [b0, b1, b2, b3] [] y44 o := h
      refine ⟨y44, zy44, ?_⟩
      have h := CR_aload_n h rfl
      have h : MR X ρ 4 0 0 qP171 N 142 [b0, b1, b2, b3] [(1, b0)] y44 o := h
      have h := CR_iconst h rfl rfl
      have h : MR X ρ 4 0 0 qP171 N 143 [b0, b1, b2, b3] [(1, 1), (1, b0)] y44 o := h
      have h := CR_putf h rfl
      have h : MR X ρ 4 0 0 qP171 N 146 [b0, b1, b2, b3] [] (mu y44 b0 39 1) o := h
      obtain ⟨y45, zy45, h⟩ : ∃ y, y = mu y44 b0 39 1 ∧ MR X ρ 4 0 0 qP171 N 146 [b0, b1, b2, b3] [] y o := ⟨_, rfl, h⟩
      have h : MR X ρ 4 0 0 qP171 N 146 [b0, b1, b2, b3] [] y45 o := h
      refine ⟨y45, zy45, ?_⟩
      have h := CR_aload_n h rfl
      have h : MR X ρ 4 0 0 qP171 N 147 [b0, b1, b2, b3] [(1, b0)] y45 o := h
      have h := CR_iload_n h rfl
      have h : MR X ρ 4 0 0 qP171 N 148 [b0, b1, b2, b3] [(1, b1), (1, b0)] y45 o := h
      have h := CR_iconst h rfl rfl
      have h : MR X ρ 4 0 0 qP171 N 149 [b0, b1, b2, b3] [(1, 1), (1, b1), (1, b0)] y45 o := h
      rcases MR_icmp h rfl rfl with ⟨c46, h⟩ | ⟨c46, h⟩
      ·
        have c46 : ¬ (b1 = 1) := c46
        refine Or.inr ⟨c46, ?_⟩
        have h : MR X ρ 4 0 0 qP171 N 160 [b0, b1, b2, b3] [(1, b0)] y45 o := h
        have h := CR_iconst h rfl rfl
        have h : MR X ρ 4 0 0 qP171 N 161 [b0, b1, b2, b3] [(1, 0), (1, b0)] y45 o := h
        obtain ⟨r47, m48, q49, h⟩ := MR_invV h rfl rfl
        have q49 : Run X ρ 281 [(1, b0), (1, 0)] y45 r47 m48 := q49
        obtain ⟨e50, e51⟩ := d281 q49
        rw [e50, e51] at h
        have h : MR X ρ 4 0 0 qP171 N 164 [b0, b1, b2, b3] [] (g281 y45 b0 0) o := h
        obtain ⟨y52, zy52, h⟩ : ∃ y, y = g281 y45 b0 0 ∧ MR X ρ 4 0 0 qP171 N 164 [b0, b1, b2, b3] [] y o := ⟨_, rfl, h⟩
        have h : MR X ρ 4 0 0 qP171 N 164 [b0, b1, b2, b3] [] y52 o := h
        refine ⟨y52, zy52, ?_⟩
        have h := CR_iload_n h rfl
        have h : MR X ρ 4 0 0 qP171 N 165 [b0, b1, b2, b3] [(1, b3)] y52 o := h
        rcases MR_if h rfl rfl with ⟨c53, h⟩ | ⟨c53, h⟩
        ·
          have h : MR X ρ 4 0 0 qP171 N 172 [b0, b1, b2, b3] [] y52 o := h
          have h := CR_iload_n h rfl
          have h : MR X ρ 4 0 0 qP171 N 173 [b0, b1, b2, b3] [(1, b2)] y52 o := h
          exact CR_end h rfl rfl
        · exact absurd c35 c53
      ·
        have c46 : b1 = 1 := Decidable.of_not_not (show ¬ ¬ (b1 = 1) from c46)
        refine Or.inl ⟨c46, ?_⟩
        have h : MR X ρ 4 0 0 qP171 N 152 [b0, b1, b2, b3] [(1, b0)] y45 o := h
        have h := CR_iload_n h rfl
        have h : MR X ρ 4 0 0 qP171 N 153 [b0, b1, b2, b3] [(1, b2), (1, b0)] y45 o := h
        rcases MR_if h rfl rfl with ⟨c54, h⟩ | ⟨c54, h⟩
        ·
          have c54 : b2 ≤ 0 := c54
          refine Or.inl ⟨c54, ?_⟩
          have h : MR X ρ 4 0 0 qP171 N 160 [b0, b1, b2, b3] [(1, b0)] y45 o := h
          have h := CR_iconst h rfl rfl
          have h : MR X ρ 4 0 0 qP171 N 161 [b0, b1, b2, b3] [(1, 0), (1, b0)] y45 o := h
          obtain ⟨r55, m56, q57, h⟩ := MR_invV h rfl rfl
          have q57 : Run X ρ 281 [(1, b0), (1, 0)] y45 r55 m56 := q57
          obtain ⟨e58, e59⟩ := d281 q57
          rw [e58, e59] at h
          have h : MR X ρ 4 0 0 qP171 N 164 [b0, b1, b2, b3] [] (g281 y45 b0 0) o := h
          obtain ⟨y60, zy60, h⟩ : ∃ y, y = g281 y45 b0 0 ∧ MR X ρ 4 0 0 qP171 N 164 [b0, b1, b2, b3] [] y o := ⟨_, rfl, h⟩
          have h : MR X ρ 4 0 0 qP171 N 164 [b0, b1, b2, b3] [] y60 o := h
          refine ⟨y60, zy60, ?_⟩
          have h := CR_iload_n h rfl
          have h : MR X ρ 4 0 0 qP171 N 165 [b0, b1, b2, b3] [(1, b3)] y60 o := h
          rcases MR_if h rfl rfl with ⟨c61, h⟩ | ⟨c61, h⟩
          ·
            have h : MR X ρ 4 0 0 qP171 N 172 [b0, b1, b2, b3] [] y60 o := h
            have h := CR_iload_n h rfl
            have h : MR X ρ 4 0 0 qP171 N 173 [b0, b1, b2, b3] [(1, b2)] y60 o := h
            exact CR_end h rfl rfl
          · exact absurd c35 c61
        ·
          have c54 : ¬ (b2 ≤ 0) := c54
          refine Or.inr ⟨c54, ?_⟩
          have h : MR X ρ 4 0 0 qP171 N 156 [b0, b1, b2, b3] [(1, b0)] y45 o := h
          have h := CR_iconst h rfl rfl
          have h : MR X ρ 4 0 0 qP171 N 157 [b0, b1, b2, b3] [(1, 1), (1, b0)] y45 o := h
          have h := CR_go h rfl rfl
          have h : MR X ρ 4 0 0 qP171 N 161 [b0, b1, b2, b3] [(1, 1), (1, b0)] y45 o := h
          obtain ⟨r62, m63, q64, h⟩ := MR_invV h rfl rfl
          have q64 : Run X ρ 281 [(1, b0), (1, 1)] y45 r62 m63 := q64
          obtain ⟨e65, e66⟩ := d281 q64
          rw [e65, e66] at h
          have h : MR X ρ 4 0 0 qP171 N 164 [b0, b1, b2, b3] [] (g281 y45 b0 1) o := h
          obtain ⟨y67, zy67, h⟩ : ∃ y, y = g281 y45 b0 1 ∧ MR X ρ 4 0 0 qP171 N 164 [b0, b1, b2, b3] [] y o := ⟨_, rfl, h⟩
          have h : MR X ρ 4 0 0 qP171 N 164 [b0, b1, b2, b3] [] y67 o := h
          refine ⟨y67, zy67, ?_⟩
          have h := CR_iload_n h rfl
          have h : MR X ρ 4 0 0 qP171 N 165 [b0, b1, b2, b3] [(1, b3)] y67 o := h
          rcases MR_if h rfl rfl with ⟨c68, h⟩ | ⟨c68, h⟩
          ·
            have h : MR X ρ 4 0 0 qP171 N 172 [b0, b1, b2, b3] [] y67 o := h
            have h := CR_iload_n h rfl
            have h : MR X ρ 4 0 0 qP171 N 173 [b0, b1, b2, b3] [(1, b2)] y67 o := h
            exact CR_end h rfl rfl
          · exact absurd c35 c68
    ·
      have c35 : b3 = 0 := Decidable.of_not_not (show ¬ ¬ (b3 = 0) from c35)
      refine Or.inl ⟨c35, ?_⟩
      have h : MR X ρ 4 0 0 qP171 N 85 [b0, b1, b2, b3] [] m o := h
      have h := CR_aload_n h rfl
      have h : MR X ρ 4 0 0 qP171 N 86 [b0, b1, b2, b3] [(1, b0)] m o := h
      have h := CR_iconst h rfl rfl
      have h : MR X ρ 4 0 0 qP171 N 87 [b0, b1, b2, b3] [(1, 3), (1, b0)] m o := h
      have h := CR_iload_n h rfl
      have h : MR X ρ 4 0 0 qP171 N 88 [b0, b1, b2, b3] [(1, b2), (1, 3), (1, b0)] m o := h
      have h := CR_imul h rfl
      have h : MR X ρ 4 0 0 qP171 N 89 [b0, b1, b2, b3] [(1, s32 (3 * b2)), (1, b0)] m o := h
      obtain ⟨r69, m70, q71, h⟩ := MR_invV h rfl rfl
      have q71 : Run X ρ 196 [(1, b0), (1, s32 (3 * b2))] m r69 m70 := q71
      obtain ⟨e72, e73⟩ := d196 q71
      rw [e72, e73] at h
      have h : MR X ρ 4 0 0 qP171 N 92 [b0, b1, b2, b3] [(1, f196 m b0 (s32 (3 * b2)))] (g196 m b0 (s32 (3 * b2))) o := h
      obtain ⟨y74, zy74, h⟩ : ∃ y, y = g196 m b0 (s32 (3 * b2)) ∧ MR X ρ 4 0 0 qP171 N 92 [b0, b1, b2, b3] [(1, f196 m b0 (s32 (3 * b2)))] y o := ⟨_, rfl, h⟩
      have h : MR X ρ 4 0 0 qP171 N 92 [b0, b1, b2, b3] [(1, f196 m b0 (s32 (3 * b2)))] y74 o := h
      refine ⟨y74, zy74, ?_⟩
      have h := CR_istore_n h rfl (Nat.le_of_ble_eq_true rfl)
      have h : MR X ρ 4 0 0 qP171 N 93 [b0, b1, b2, f196 m b0 (s32 (3 * b2))] [] y74 o := h
      have h := CR_iload_n h rfl
      have h : MR X ρ 4 0 0 qP171 N 94 [b0, b1, b2, f196 m b0 (s32 (3 * b2))] [(1, f196 m b0 (s32 (3 * b2)))] y74 o := h
      rcases MR_ifb h rfl rfl with ⟨c75, h⟩ | ⟨c75, h⟩
      ·
        have c75 : ¬ ((f196 m b0 (s32 (3 * b2))) = 0) := c75
        refine Or.inr ⟨c75, ?_⟩
        obtain ⟨N76, eN76, h⟩ := h
        have h : MR X ρ 4 0 0 qP171 N76 73 [b0, b1, b2, f196 m b0 (s32 (3 * b2))] [] y74 o := h
        exact ⟨N76, eN76, h⟩
      ·
        have c75 : (f196 m b0 (s32 (3 * b2))) = 0 := Decidable.of_not_not (show ¬ ¬ ((f196 m b0 (s32 (3 * b2))) = 0) from c75)
        refine Or.inl ⟨c75, ?_⟩
        have h : MR X ρ 4 0 0 qP171 N 97 [b0, b1, b2, f196 m b0 (s32 (3 * b2))] [] y74 o := h
        have h := CR_inc h rfl (Nat.le_of_ble_eq_true rfl)
        have h : MR X ρ 4 0 0 qP171 N 100 [b0, b1, s32 (b2 + 1), f196 m b0 (s32 (3 * b2))] [] y74 o := h
        obtain ⟨N77, eN77, h⟩ := CR_goto h rfl rfl
        have h : MR X ρ 4 0 0 qP171 N77 73 [b0, b1, s32 (b2 + 1), f196 m b0 (s32 (3 * b2))] [] y74 o := h
        exact ⟨N77, eN77, h⟩
