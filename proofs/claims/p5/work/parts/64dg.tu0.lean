set_option maxRecDepth 16384 in
/-- TriplicateFormsModel.sentence()I, the loop at 79 -/
noncomputable def S269_79 (m : MM) (b0 b1 : Int) : (Int × MM) ⊕ (Nat × Int × (Int × MM)) := (if 240 ≤ b1 then .inr (1, 0, (b1, m)) else .inl (s32 (b1 + 1), mu m (m b0 14) (s32 (216 + b1)) (s32 (m (m b0 40) b1))))
set_option maxRecDepth 16384 in
noncomputable def K269_79 (m : MM) (b0 b1 : Int) : (Int × MM) → (Int × MM) ⊕ (Nat × Int × (Int × MM)) := fun s => S269_79 s.2 b0 s.1
set_option maxRecDepth 16384 in
noncomputable def L269_79 (m : MM) (b0 b1 : Int) : (Nat × Int × (Int × MM)) := Lp (K269_79 m b0 b1) (b1, m)
set_option maxRecDepth 16384 in
theorem l269_79 {X : KO} {ρ : Nat → Int32} {o : Instr × List (Nat × Int) × MM} {K : Nat} : ∀ {N : Nat} {m : MM} {b0 b1 : Int}, N ≤ K → MR X ρ 2 0 0 qP269 N 79 [b0, b1] [] m o → (MR X ρ 2 0 0 qP269 K 108 [b0, (L269_79 m b0 b1).2.2.1] [] ((L269_79 m b0 b1).2.2.2) o) := by
  intro N
  induction N using Nat.strongRecOn with
  | ind N ih =>
  intro m b0 b1 hK h
  have h := CR_iload_n h rfl
  have h : MR X ρ 2 0 0 qP269 N 80 [b0, b1] [(1, b1)] m o := h
  have h := CR_sipush h rfl rfl
  have h : MR X ρ 2 0 0 qP269 N 83 [b0, b1] [(1, 240), (1, b1)] m o := h
  rcases MR_icmp h rfl rfl with ⟨c1, h⟩ | ⟨c1, h⟩
  ·
    have c1 : 240 ≤ b1 := c1
    have h : MR X ρ 2 0 0 qP269 N 108 [b0, b1] [] m o := h
    have hr : L269_79 m b0 b1 = (1, 0, (b1, m)) := Lp_inr (f := K269_79 m b0 b1) (s := (b1, m)) ((if_pos c1).trans (rfl))
    rw [hr]
    exact CR_le (by omega) h
  ·
    have c1 : ¬ (240 ≤ b1) := c1
    have h : MR X ρ 2 0 0 qP269 N 86 [b0, b1] [] m o := h
    have h := CR_aload_n h rfl
    have h : MR X ρ 2 0 0 qP269 N 87 [b0, b1] [(1, b0)] m o := h
    have h := CR_getf h rfl (by decide)
    have h : MR X ρ 2 0 0 qP269 N 90 [b0, b1] [(1, m b0 14)] m o := h
    have h := CR_sipush h rfl rfl
    have h : MR X ρ 2 0 0 qP269 N 93 [b0, b1] [(1, 216), (1, m b0 14)] m o := h
    have h := CR_iload_n h rfl
    have h : MR X ρ 2 0 0 qP269 N 94 [b0, b1] [(1, b1), (1, 216), (1, m b0 14)] m o := h
    have h := CR_iadd h rfl
    have h : MR X ρ 2 0 0 qP269 N 95 [b0, b1] [(1, s32 (216 + b1)), (1, m b0 14)] m o := h
    have h := CR_aload_n h rfl
    have h : MR X ρ 2 0 0 qP269 N 96 [b0, b1] [(1, b0), (1, s32 (216 + b1)), (1, m b0 14)] m o := h
    have h := CR_getf h rfl (by decide)
    have h : MR X ρ 2 0 0 qP269 N 99 [b0, b1] [(1, m b0 40), (1, s32 (216 + b1)), (1, m b0 14)] m o := h
    have h := CR_iload_n h rfl
    have h : MR X ρ 2 0 0 qP269 N 100 [b0, b1] [(1, b1), (1, m b0 40), (1, s32 (216 + b1)), (1, m b0 14)] m o := h
    have h := CR_iaload h rfl rfl
    have h : MR X ρ 2 0 0 qP269 N 101 [b0, b1] [(1, m (m b0 40) b1), (1, s32 (216 + b1)), (1, m b0 14)] m o := h
    have h := CR_iastore_ h rfl
    have h : MR X ρ 2 0 0 qP269 N 102 [b0, b1] [] (mu m (m b0 14) (s32 (216 + b1)) (s32 (m (m b0 40) b1))) o := h
    have h := CR_inc h rfl (Nat.le_of_ble_eq_true rfl)
    have h : MR X ρ 2 0 0 qP269 N 105 [b0, s32 (b1 + 1)] [] (mu m (m b0 14) (s32 (216 + b1)) (s32 (m (m b0 40) b1))) o := h
    obtain ⟨N2, eN2, h⟩ := CR_goto h rfl rfl
    have h : MR X ρ 2 0 0 qP269 N2 79 [b0, s32 (b1 + 1)] [] (mu m (m b0 14) (s32 (216 + b1)) (s32 (m (m b0 40) b1))) o := h
    have hr : L269_79 m b0 b1 = L269_79 (mu m (m b0 14) (s32 (216 + b1)) (s32 (m (m b0 40) b1))) b0 (s32 (b1 + 1)) := Lp_inl (f := K269_79 m b0 b1) (s := (b1, m)) (s' := (s32 (b1 + 1), mu m (m b0 14) (s32 (216 + b1)) (s32 (m (m b0 40) b1)))) ((if_neg c1).trans (rfl))
    rw [hr]
    exact ih N2 (by omega) (by omega) h
set_option maxRecDepth 16384 in
/-- TriplicateFormsModel.readSaid()Z, the loop at 10 -/
noncomputable def S261_10 (m : MM) (b0 b1 b2 b3 : Int) : (Int) ⊕ (Nat × Int × (Int)) := (if 29 < b2 then .inr (1, 0, b2) else (if (f217 m b0 b2) = 0 then .inl (s32 (b2 + 1)) else .inr (1, 0, b2)))
set_option maxRecDepth 16384 in
noncomputable def K261_10 (m : MM) (b0 b1 b2 b3 : Int) : (Int) → (Int) ⊕ (Nat × Int × (Int)) := fun s => S261_10 m b0 b1 s b3
set_option maxRecDepth 16384 in
noncomputable def L261_10 (m : MM) (b0 b1 b2 b3 : Int) : (Nat × Int × (Int)) := Lp (K261_10 m b0 b1 b2 b3) b2
set_option maxRecDepth 16384 in
theorem l261_10 {X : KO} {ρ : Nat → Int32} {o : Instr × List (Nat × Int) × MM} {K : Nat} : ∀ {N : Nat} {m : MM} {b0 b1 b2 b3 : Int}, N ≤ K → MR X ρ 4 0 0 qP261 N 10 [b0, b1, b2, b3] [] m o → (MR X ρ 4 0 0 qP261 K 30 [b0, b1, (L261_10 m b0 b1 b2 b3).2.2, b3] [] m o) := by
  intro N
  induction N using Nat.strongRecOn with
  | ind N ih =>
  intro m b0 b1 b2 b3 hK h
  have h := CR_iload_n h rfl
  have h : MR X ρ 4 0 0 qP261 N 11 [b0, b1, b2, b3] [(1, b2)] m o := h
  have h := CR_bipush h rfl rfl
  have h : MR X ρ 4 0 0 qP261 N 13 [b0, b1, b2, b3] [(1, 29), (1, b2)] m o := h
  rcases MR_icmp h rfl rfl with ⟨c1, h⟩ | ⟨c1, h⟩
  ·
    have c1 : 29 < b2 := c1
    have h : MR X ρ 4 0 0 qP261 N 30 [b0, b1, b2, b3] [] m o := h
    have hr : L261_10 m b0 b1 b2 b3 = (1, 0, b2) := Lp_inr (f := K261_10 m b0 b1 b2 b3) (s := b2) ((if_pos c1).trans (rfl))
    rw [hr]
    exact CR_le (by omega) h
  ·
    have c1 : ¬ (29 < b2) := c1
    have h : MR X ρ 4 0 0 qP261 N 16 [b0, b1, b2, b3] [] m o := h
    have h := CR_aload_n h rfl
    have h : MR X ρ 4 0 0 qP261 N 17 [b0, b1, b2, b3] [(1, b0)] m o := h
    have h := CR_iload_n h rfl
    have h : MR X ρ 4 0 0 qP261 N 18 [b0, b1, b2, b3] [(1, b2), (1, b0)] m o := h
    obtain ⟨r2, m3, q4, h⟩ := MR_invV h rfl rfl
    have q4 : Run X ρ 217 [(1, b0), (1, b2)] m r2 m3 := q4
    obtain ⟨e5, e6⟩ := d217 q4
    rw [e5, e6] at h
    have h : MR X ρ 4 0 0 qP261 N 21 [b0, b1, b2, b3] [(1, f217 m b0 b2)] m o := h
    rcases MR_if h rfl rfl with ⟨c7, h⟩ | ⟨c7, h⟩
    ·
      have c7 : ¬ ((f217 m b0 b2) = 0) := c7
      have h : MR X ρ 4 0 0 qP261 N 30 [b0, b1, b2, b3] [] m o := h
      have hr : L261_10 m b0 b1 b2 b3 = (1, 0, b2) := Lp_inr (f := K261_10 m b0 b1 b2 b3) (s := b2) ((if_neg c1).trans ((if_neg c7).trans (rfl)))
      rw [hr]
      exact CR_le (by omega) h
    ·
      have c7 : (f217 m b0 b2) = 0 := Decidable.of_not_not (show ¬ ¬ ((f217 m b0 b2) = 0) from c7)
      have h : MR X ρ 4 0 0 qP261 N 24 [b0, b1, b2, b3] [] m o := h
      have h := CR_inc h rfl (Nat.le_of_ble_eq_true rfl)
      have h : MR X ρ 4 0 0 qP261 N 27 [b0, b1, s32 (b2 + 1), b3] [] m o := h
      obtain ⟨N8, eN8, h⟩ := CR_goto h rfl rfl
      have h : MR X ρ 4 0 0 qP261 N8 10 [b0, b1, s32 (b2 + 1), b3] [] m o := h
      have hr : L261_10 m b0 b1 b2 b3 = L261_10 m b0 b1 (s32 (b2 + 1)) b3 := Lp_inl (f := K261_10 m b0 b1 b2 b3) (s := b2) (s' := s32 (b2 + 1)) ((if_neg c1).trans ((if_pos c7).trans (rfl)))
      rw [hr]
      exact ih N8 (by omega) (by omega) h
set_option maxRecDepth 16384 in
theorem s31_0 {X : KO} {ρ : Nat → Int32} {m : MM} {N : Nat} {o : Instr × List (Nat × Int) × MM} {a0 : Int} (h : MR X ρ 2 0 0 qP31 N 0 [a0, 0] [] m o) : (∃ m2, Run X ρ 100 [(1, m a0 12), (1, m a0 0), (1, m a0 1)] m [] m2 ∧ (∃ y4, y4 = mu m2 a0 13 (m2 (m2 a0 0) 9) ∧ (∃ y5, y5 = mu y4 (y4 a0 0) 1 0 ∧ ((((y5 a0 13) = 0) ∧ (∃ y7, y7 = mu y5 a0 11 (y5 a0 12) ∧ (∃ y8, y8 = mu y7 a0 12 (y5 a0 11) ∧ (o = (.ireturn, [(1, y8 (y8 a0 11) 5)], y8))))) ∨ (¬ ((y5 a0 13) = 0) ∧ (o = (.ireturn, [(1, s32 ((-1) - (y5 (y5 a0 0) 10)))], y5))))))) := by
  have h := CR_aload_n h rfl
  have h : MR X ρ 2 0 0 qP31 N 1 [a0, 0] [(1, a0)] m o := h
  have h := CR_getf h rfl (by decide)
  have h : MR X ρ 2 0 0 qP31 N 4 [a0, 0] [(1, m a0 12)] m o := h
  have h := CR_aload_n h rfl
  have h : MR X ρ 2 0 0 qP31 N 5 [a0, 0] [(1, a0), (1, m a0 12)] m o := h
  have h := CR_getf h rfl (by decide)
  have h : MR X ρ 2 0 0 qP31 N 8 [a0, 0] [(1, m a0 0), (1, m a0 12)] m o := h
  have h := CR_aload_n h rfl
  have h : MR X ρ 2 0 0 qP31 N 9 [a0, 0] [(1, a0), (1, m a0 0), (1, m a0 12)] m o := h
  have h := CR_getf h rfl (by decide)
  have h : MR X ρ 2 0 0 qP31 N 12 [a0, 0] [(1, m a0 1), (1, m a0 0), (1, m a0 12)] m o := h
  obtain ⟨r1, m2, q3, h⟩ := MR_invV h rfl rfl
  have q3 : Run X ρ 100 [(1, m a0 12), (1, m a0 0), (1, m a0 1)] m r1 m2 := q3
  obtain rfl := Run_v q3 rfl
  have h : MR X ρ 2 0 0 qP31 N 15 [a0, 0] [] m2 o := h
  refine ⟨m2, q3, ?_⟩
  have h := CR_aload_n h rfl
  have h : MR X ρ 2 0 0 qP31 N 16 [a0, 0] [(1, a0)] m2 o := h
  have h := CR_aload_n h rfl
  have h : MR X ρ 2 0 0 qP31 N 17 [a0, 0] [(1, a0), (1, a0)] m2 o := h
  have h := CR_getf h rfl (by decide)
  have h : MR X ρ 2 0 0 qP31 N 20 [a0, 0] [(1, m2 a0 0), (1, a0)] m2 o := h
  have h := CR_getf h rfl (by decide)
  have h : MR X ρ 2 0 0 qP31 N 23 [a0, 0] [(1, m2 (m2 a0 0) 9), (1, a0)] m2 o := h
  have h := CR_putf h rfl
  have h : MR X ρ 2 0 0 qP31 N 26 [a0, 0] [] (mu m2 a0 13 (m2 (m2 a0 0) 9)) o := h
  obtain ⟨y4, zy4, h⟩ : ∃ y, y = mu m2 a0 13 (m2 (m2 a0 0) 9) ∧ MR X ρ 2 0 0 qP31 N 26 [a0, 0] [] y o := ⟨_, rfl, h⟩
  have h : MR X ρ 2 0 0 qP31 N 26 [a0, 0] [] y4 o := h
  refine ⟨y4, zy4, ?_⟩
  have h := CR_aload_n h rfl
  have h : MR X ρ 2 0 0 qP31 N 27 [a0, 0] [(1, a0)] y4 o := h
  have h := CR_getf h rfl (by decide)
  have h : MR X ρ 2 0 0 qP31 N 30 [a0, 0] [(1, y4 a0 0)] y4 o := h
  have h := CR_iconst h rfl rfl
  have h : MR X ρ 2 0 0 qP31 N 31 [a0, 0] [(1, 0), (1, y4 a0 0)] y4 o := h
  have h := CR_putf h rfl
  have h : MR X ρ 2 0 0 qP31 N 34 [a0, 0] [] (mu y4 (y4 a0 0) 1 0) o := h
  obtain ⟨y5, zy5, h⟩ : ∃ y, y = mu y4 (y4 a0 0) 1 0 ∧ MR X ρ 2 0 0 qP31 N 34 [a0, 0] [] y o := ⟨_, rfl, h⟩
  have h : MR X ρ 2 0 0 qP31 N 34 [a0, 0] [] y5 o := h
  refine ⟨y5, zy5, ?_⟩
  have h := CR_aload_n h rfl
  have h : MR X ρ 2 0 0 qP31 N 35 [a0, 0] [(1, a0)] y5 o := h
  have h := CR_getf h rfl (by decide)
  have h : MR X ρ 2 0 0 qP31 N 38 [a0, 0] [(1, y5 a0 13)] y5 o := h
  rcases MR_if h rfl rfl with ⟨c6, h⟩ | ⟨c6, h⟩
  ·
    have c6 : (y5 a0 13) = 0 := c6
    refine Or.inl ⟨c6, ?_⟩
    have h : MR X ρ 2 0 0 qP31 N 51 [a0, 0] [] y5 o := h
    have h := CR_aload_n h rfl
    have h : MR X ρ 2 0 0 qP31 N 52 [a0, 0] [(1, a0)] y5 o := h
    have h := CR_getf h rfl (by decide)
    have h : MR X ρ 2 0 0 qP31 N 55 [a0, 0] [(1, y5 a0 11)] y5 o := h
    have h := CR_astore_n h rfl (Nat.le_of_ble_eq_true rfl)
    have h : MR X ρ 2 0 0 qP31 N 56 [a0, y5 a0 11] [] y5 o := h
    have h := CR_aload_n h rfl
    have h : MR X ρ 2 0 0 qP31 N 57 [a0, y5 a0 11] [(1, a0)] y5 o := h
    have h := CR_aload_n h rfl
    have h : MR X ρ 2 0 0 qP31 N 58 [a0, y5 a0 11] [(1, a0), (1, a0)] y5 o := h
    have h := CR_getf h rfl (by decide)
    have h : MR X ρ 2 0 0 qP31 N 61 [a0, y5 a0 11] [(1, y5 a0 12), (1, a0)] y5 o := h
    have h := CR_putf h rfl
    have h : MR X ρ 2 0 0 qP31 N 64 [a0, y5 a0 11] [] (mu y5 a0 11 (y5 a0 12)) o := h
    obtain ⟨y7, zy7, h⟩ : ∃ y, y = mu y5 a0 11 (y5 a0 12) ∧ MR X ρ 2 0 0 qP31 N 64 [a0, y5 a0 11] [] y o := ⟨_, rfl, h⟩
    have h : MR X ρ 2 0 0 qP31 N 64 [a0, y5 a0 11] [] y7 o := h
    refine ⟨y7, zy7, ?_⟩
    have h := CR_aload_n h rfl
    have h : MR X ρ 2 0 0 qP31 N 65 [a0, y5 a0 11] [(1, a0)] y7 o := h
    have h := CR_aload_n h rfl
    have h : MR X ρ 2 0 0 qP31 N 66 [a0, y5 a0 11] [(1, y5 a0 11), (1, a0)] y7 o := h
    have h := CR_putf h rfl
    have h : MR X ρ 2 0 0 qP31 N 69 [a0, y5 a0 11] [] (mu y7 a0 12 (y5 a0 11)) o := h
    obtain ⟨y8, zy8, h⟩ : ∃ y, y = mu y7 a0 12 (y5 a0 11) ∧ MR X ρ 2 0 0 qP31 N 69 [a0, y5 a0 11] [] y o := ⟨_, rfl, h⟩
    have h : MR X ρ 2 0 0 qP31 N 69 [a0, y5 a0 11] [] y8 o := h
    refine ⟨y8, zy8, ?_⟩
    have h := CR_aload_n h rfl
    have h : MR X ρ 2 0 0 qP31 N 70 [a0, y5 a0 11] [(1, a0)] y8 o := h
    have h := CR_getf h rfl (by decide)
    have h : MR X ρ 2 0 0 qP31 N 73 [a0, y5 a0 11] [(1, y8 a0 11)] y8 o := h
    have h := CR_getf h rfl (by decide)
    have h : MR X ρ 2 0 0 qP31 N 76 [a0, y5 a0 11] [(1, y8 (y8 a0 11) 5)] y8 o := h
    exact CR_end h rfl rfl
  ·
    have c6 : ¬ ((y5 a0 13) = 0) := c6
    refine Or.inr ⟨c6, ?_⟩
    have h : MR X ρ 2 0 0 qP31 N 41 [a0, 0] [] y5 o := h
    have h := CR_iconst h rfl rfl
    have h : MR X ρ 2 0 0 qP31 N 42 [a0, 0] [(1, -1)] y5 o := h
    have h := CR_aload_n h rfl
    have h : MR X ρ 2 0 0 qP31 N 43 [a0, 0] [(1, a0), (1, -1)] y5 o := h
    have h := CR_getf h rfl (by decide)
    have h : MR X ρ 2 0 0 qP31 N 46 [a0, 0] [(1, y5 a0 0), (1, -1)] y5 o := h
    have h := CR_getf h rfl (by decide)
    have h : MR X ρ 2 0 0 qP31 N 49 [a0, 0] [(1, y5 (y5 a0 0) 10), (1, -1)] y5 o := h
    have h := CR_isub h rfl
    have h : MR X ρ 2 0 0 qP31 N 50 [a0, 0] [(1, s32 ((-1) - (y5 (y5 a0 0) 10)))] y5 o := h
    exact CR_end h rfl rfl
set_option maxRecDepth 16384 in
theorem s100_0 {X : KO} {ρ : Nat → Int32} {m : MM} {N : Nat} {o : Instr × List (Nat × Int) × MM} {a0 a1 a2 : Int} (h : MR X ρ 3 0 0 qP100 N 0 [a0, a1, a2] [] m o) : (∃ y6, y6 = g89 m a0 ∧ (∃ m8, Run X ρ 149 [(1, a1), (1, 200)] y6 [] m8 ∧ (∃ v13 m11, Run X ρ 95 [(1, a0), (1, a1), (1, a2), (1, 1)] m8 [(1, v13)] m11 ∧ (v13 = 0 ∨ v13 = 1) ∧ (((v13 = 0) ∧ (o = (.return_, [], m11))) ∨ (¬ (v13 = 0) ∧ ((((m11 a1 4) = 0) ∧ (o = (.return_, [], m11))) ∨ (¬ ((m11 a1 4) = 0) ∧ (∃ y21, y21 = g158 m11 a1 1 ∧ (o = (.return_, [], y21)))))))))) := by
  have h := CR_aload_n h rfl
  have h : MR X ρ 3 0 0 qP100 N 1 [a0, a1, a2] [(1, a0)] m o := h
  obtain ⟨r1, m2, q3, h⟩ := MR_invV h rfl rfl
  have q3 : Run X ρ 89 [(1, a0)] m r1 m2 := q3
  obtain ⟨e4, e5⟩ := d89 q3
  rw [e4, e5] at h
  have h : MR X ρ 3 0 0 qP100 N 4 [a0, a1, a2] [] (g89 m a0) o := h
  obtain ⟨y6, zy6, h⟩ : ∃ y, y = g89 m a0 ∧ MR X ρ 3 0 0 qP100 N 4 [a0, a1, a2] [] y o := ⟨_, rfl, h⟩
  have h : MR X ρ 3 0 0 qP100 N 4 [a0, a1, a2] [] y6 o := h
  refine ⟨y6, zy6, ?_⟩
  have h := CR_aload_n h rfl
  have h : MR X ρ 3 0 0 qP100 N 5 [a0, a1, a2] [(1, a1)] y6 o := h
  have h := CR_sipush h rfl rfl
  have h : MR X ρ 3 0 0 qP100 N 8 [a0, a1, a2] [(1, 200), (1, a1)] y6 o := h
  obtain ⟨r7, m8, q9, h⟩ := MR_invV h rfl rfl
  have q9 : Run X ρ 149 [(1, a1), (1, 200)] y6 r7 m8 := q9
  obtain rfl := Run_v q9 rfl
  have h : MR X ρ 3 0 0 qP100 N 11 [a0, a1, a2] [] m8 o := h
  refine ⟨m8, q9, ?_⟩
  have h := CR_aload_n h rfl
  have h : MR X ρ 3 0 0 qP100 N 12 [a0, a1, a2] [(1, a0)] m8 o := h
  have h := CR_aload_n h rfl
  have h : MR X ρ 3 0 0 qP100 N 13 [a0, a1, a2] [(1, a1), (1, a0)] m8 o := h
  have h := CR_aload_n h rfl
  have h : MR X ρ 3 0 0 qP100 N 14 [a0, a1, a2] [(1, a2), (1, a1), (1, a0)] m8 o := h
  have h := CR_iconst h rfl rfl
  have h : MR X ρ 3 0 0 qP100 N 15 [a0, a1, a2] [(1, 1), (1, a2), (1, a1), (1, a0)] m8 o := h
  obtain ⟨r10, m11, q12, h⟩ := MR_invV h rfl rfl
  have q12 : Run X ρ 95 [(1, a0), (1, a1), (1, a2), (1, 1)] m8 r10 m11 := q12
  obtain ⟨v13, rfl, zv13⟩ := Run_z q12 rfl
  have h : MR X ρ 3 0 0 qP100 N 18 [a0, a1, a2] [(1, v13)] m11 o := h
  refine ⟨v13, m11, q12, zv13, ?_⟩
  rcases MR_if h rfl rfl with ⟨c14, h⟩ | ⟨c14, h⟩
  ·
    have c14 : v13 = 0 := c14
    refine Or.inl ⟨c14, ?_⟩
    have h : MR X ρ 3 0 0 qP100 N 34 [a0, a1, a2] [] m11 o := h
    exact CR_end h rfl rfl
  ·
    have c14 : ¬ (v13 = 0) := c14
    refine Or.inr ⟨c14, ?_⟩
    have h : MR X ρ 3 0 0 qP100 N 21 [a0, a1, a2] [] m11 o := h
    have h := CR_aload_n h rfl
    have h : MR X ρ 3 0 0 qP100 N 22 [a0, a1, a2] [(1, a1)] m11 o := h
    have h := CR_getf h rfl (by decide)
    have h : MR X ρ 3 0 0 qP100 N 25 [a0, a1, a2] [(1, m11 a1 4)] m11 o := h
    rcases MR_if h rfl rfl with ⟨c15, h⟩ | ⟨c15, h⟩
    ·
      have c15 : (m11 a1 4) = 0 := c15
      refine Or.inl ⟨c15, ?_⟩
      have h : MR X ρ 3 0 0 qP100 N 34 [a0, a1, a2] [] m11 o := h
      exact CR_end h rfl rfl
    ·
      have c15 : ¬ ((m11 a1 4) = 0) := c15
      refine Or.inr ⟨c15, ?_⟩
      have h : MR X ρ 3 0 0 qP100 N 28 [a0, a1, a2] [] m11 o := h
      have h := CR_aload_n h rfl
      have h : MR X ρ 3 0 0 qP100 N 29 [a0, a1, a2] [(1, a1)] m11 o := h
      have h := CR_iconst h rfl rfl
      have h : MR X ρ 3 0 0 qP100 N 30 [a0, a1, a2] [(1, 1), (1, a1)] m11 o := h
      obtain ⟨r16, m17, q18, h⟩ := MR_invV h rfl rfl
      have q18 : Run X ρ 158 [(1, a1), (1, 1)] m11 r16 m17 := q18
      obtain ⟨e19, e20⟩ := d158 q18
      rw [e19, e20] at h
      have h : MR X ρ 3 0 0 qP100 N 33 [a0, a1, a2] [(1, f158 m11 a1 1)] (g158 m11 a1 1) o := h
      obtain ⟨y21, zy21, h⟩ : ∃ y, y = g158 m11 a1 1 ∧ MR X ρ 3 0 0 qP100 N 33 [a0, a1, a2] [(1, f158 m11 a1 1)] y o := ⟨_, rfl, h⟩
      have h : MR X ρ 3 0 0 qP100 N 33 [a0, a1, a2] [(1, f158 m11 a1 1)] y21 o := h
      refine ⟨y21, zy21, ?_⟩
      have h := CR_pop h rfl
      have h : MR X ρ 3 0 0 qP100 N 34 [a0, a1, a2] [] y21 o := h
      exact CR_end h rfl rfl
set_option maxRecDepth 16384 in
theorem s95_0 {X : KO} {ρ : Nat → Int32} {m : MM} {N : Nat} {o : Instr × List (Nat × Int) × MM} {a0 a1 a2 a3 : Int} (h : MR X ρ 8 0 0 qP95 N 0 [a0, a1, a2, a3, 0, 0, 0, 0] [] m o) : (∃ v4 m2, Run X ρ 97 [(1, a0), (1, a1), (1, a2), (1, a3)] m [(1, v4)] m2 ∧ (v4 = 0 ∨ v4 = 1) ∧ (MR X ρ 8 0 0 qP95 N 15 [a0, a1, a2, a3, v4, 0, 0, 0] [] m2 o)) := by
  have h := CR_aload_n h rfl
  have h : MR X ρ 8 0 0 qP95 N 1 [a0, a1, a2, a3, 0, 0, 0, 0] [(1, a0)] m o := h
  have h := CR_aload_n h rfl
  have h : MR X ρ 8 0 0 qP95 N 2 [a0, a1, a2, a3, 0, 0, 0, 0] [(1, a1), (1, a0)] m o := h
  have h := CR_aload_n h rfl
  have h : MR X ρ 8 0 0 qP95 N 3 [a0, a1, a2, a3, 0, 0, 0, 0] [(1, a2), (1, a1), (1, a0)] m o := h
  have h := CR_iload_n h rfl
  have h : MR X ρ 8 0 0 qP95 N 4 [a0, a1, a2, a3, 0, 0, 0, 0] [(1, a3), (1, a2), (1, a1), (1, a0)] m o := h
  obtain ⟨r1, m2, q3, h⟩ := MR_invV h rfl rfl
  have q3 : Run X ρ 97 [(1, a0), (1, a1), (1, a2), (1, a3)] m r1 m2 := q3
  obtain ⟨v4, rfl, zv4⟩ := Run_z q3 rfl
  have h : MR X ρ 8 0 0 qP95 N 7 [a0, a1, a2, a3, 0, 0, 0, 0] [(1, v4)] m2 o := h
  refine ⟨v4, m2, q3, zv4, ?_⟩
  have h := CR_istore h rfl (Nat.le_of_ble_eq_true rfl)
  have h : MR X ρ 8 0 0 qP95 N 9 [a0, a1, a2, a3, v4, 0, 0, 0] [] m2 o := h
  have h := CR_iconst h rfl rfl
  have h : MR X ρ 8 0 0 qP95 N 10 [a0, a1, a2, a3, v4, 0, 0, 0] [(1, 0)] m2 o := h
  have h := CR_istore h rfl (Nat.le_of_ble_eq_true rfl)
  have h : MR X ρ 8 0 0 qP95 N 12 [a0, a1, a2, a3, v4, 0, 0, 0] [] m2 o := h
  have h := CR_iconst h rfl rfl
  have h : MR X ρ 8 0 0 qP95 N 13 [a0, a1, a2, a3, v4, 0, 0, 0] [(1, 0)] m2 o := h
  have h := CR_istore h rfl (Nat.le_of_ble_eq_true rfl)
  have h : MR X ρ 8 0 0 qP95 N 15 [a0, a1, a2, a3, v4, 0, 0, 0] [] m2 o := h
  exact h
set_option maxRecDepth 16384 in
theorem s95_15 {X : KO} {ρ : Nat → Int32} {m : MM} {N : Nat} {o : Instr × List (Nat × Int) × MM} {b0 b1 b2 b3 b4 b5 b6 b7 : Int} (h : MR X ρ 8 0 0 qP95 N 15 [b0, b1, b2, b3, b4, b5, b6, b7] [] m o) : (((20 < b6) ∧ (((b4 = 0) ∧ (o = (.ireturn, [(1, 0)], m))) ∨ (¬ (b4 = 0) ∧ (((b5 = 0) ∧ (o = (.ireturn, [(1, 1)], m))) ∨ (¬ (b5 = 0) ∧ (∃ y9, y9 = g101 m b0 2 0 0 ∧ ((((f101 m b0 2 0 0) = 0) ∧ (o = (.ireturn, [(1, 0)], y9))) ∨ (¬ ((f101 m b0 2 0 0) = 0) ∧ (o = (.ireturn, [(1, 1)], y9)))))))))) ∨ (¬ (20 < b6) ∧ (((b4 = 0) ∧ (o = (.ireturn, [(1, 0)], m))) ∨ (¬ (b4 = 0) ∧ ((((f155 X m b1 1000029) = 0) ∧ ((((f155 X m b1 1000030) = 0) ∧ (((b5 = 0) ∧ (o = (.ireturn, [(1, 1)], m))) ∨ (¬ (b5 = 0) ∧ (∃ y80, y80 = g101 m b0 2 0 0 ∧ ((((f101 m b0 2 0 0) = 0) ∧ (o = (.ireturn, [(1, 0)], y80))) ∨ (¬ ((f101 m b0 2 0 0) = 0) ∧ (o = (.ireturn, [(1, 1)], y80)))))))) ∨ (¬ ((f155 X m b1 1000030) = 0) ∧ (((b5 = 0) ∧ (∃ m92, Run X ρ 148 [(1, b1)] m [] m92 ∧ (∃ v97 m95, Run X ρ 97 [(1, b0), (1, b1), (1, b2), (1, b3)] m92 [(1, v97)] m95 ∧ (v97 = 0 ∨ v97 = 1) ∧ (((v97 = 0) ∧ (∃ N99, N = N99 + 1 ∧ MR X ρ 8 0 0 qP95 N99 15 [b0, b1, b2, b3, 0, 1, s32 (b6 + 1), f155 X m b1 1000029] [] m95 o)) ∨ (¬ (v97 = 0) ∧ ((((f155 X m b1 1000029) = 0) ∧ (∃ N101, N = N101 + 1 ∧ MR X ρ 8 0 0 qP95 N101 15 [b0, b1, b2, b3, 1, 1, s32 (b6 + 1), f155 X m b1 1000029] [] m95 o)) ∨ (¬ ((f155 X m b1 1000029) = 0) ∧ (∃ y107, y107 = g101 m95 b0 1 0 0 ∧ ((((f101 m95 b0 1 0 0) = 0) ∧ (∃ N109, N = N109 + 1 ∧ MR X ρ 8 0 0 qP95 N109 15 [b0, b1, b2, b3, 0, 1, s32 (b6 + 1), f155 X m b1 1000029] [] y107 o)) ∨ (¬ ((f101 m95 b0 1 0 0) = 0) ∧ (∃ N110, N = N110 + 1 ∧ MR X ρ 8 0 0 qP95 N110 15 [b0, b1, b2, b3, 1, 1, s32 (b6 + 1), f155 X m b1 1000029] [] y107 o))))))))))) ∨ (¬ (b5 = 0) ∧ (∃ y116, y116 = g101 m b0 2 0 0 ∧ (∃ m119, Run X ρ 148 [(1, b1)] y116 [] m119 ∧ (∃ v124 m122, Run X ρ 97 [(1, b0), (1, b1), (1, b2), (1, b3)] m119 [(1, v124)] m122 ∧ (v124 = 0 ∨ v124 = 1) ∧ (((v124 = 0) ∧ (∃ N126, N = N126 + 1 ∧ MR X ρ 8 0 0 qP95 N126 15 [b0, b1, b2, b3, 0, 1, s32 (b6 + 1), f155 X m b1 1000029] [] m122 o)) ∨ (¬ (v124 = 0) ∧ ((((f155 X m b1 1000029) = 0) ∧ (∃ N128, N = N128 + 1 ∧ MR X ρ 8 0 0 qP95 N128 15 [b0, b1, b2, b3, 1, 1, s32 (b6 + 1), f155 X m b1 1000029] [] m122 o)) ∨ (¬ ((f155 X m b1 1000029) = 0) ∧ (∃ y134, y134 = g101 m122 b0 1 0 0 ∧ ((((f101 m122 b0 1 0 0) = 0) ∧ (∃ N136, N = N136 + 1 ∧ MR X ρ 8 0 0 qP95 N136 15 [b0, b1, b2, b3, 0, 1, s32 (b6 + 1), f155 X m b1 1000029] [] y134 o)) ∨ (¬ ((f101 m122 b0 1 0 0) = 0) ∧ (∃ N137, N = N137 + 1 ∧ MR X ρ 8 0 0 qP95 N137 15 [b0, b1, b2, b3, 1, 1, s32 (b6 + 1), f155 X m b1 1000029] [] y134 o)))))))))))))))) ∨ (¬ ((f155 X m b1 1000029) = 0) ∧ (((b5 = 0) ∧ (∃ m48, Run X ρ 148 [(1, b1)] m [] m48 ∧ (∃ v53 m51, Run X ρ 97 [(1, b0), (1, b1), (1, b2), (1, b3)] m48 [(1, v53)] m51 ∧ (v53 = 0 ∨ v53 = 1) ∧ (((v53 = 0) ∧ (∃ N55, N = N55 + 1 ∧ MR X ρ 8 0 0 qP95 N55 15 [b0, b1, b2, b3, 0, 0, s32 (b6 + 1), f155 X m b1 1000029] [] m51 o)) ∨ (¬ (v53 = 0) ∧ ((((f155 X m b1 1000029) = 0) ∧ (∃ N57, N = N57 + 1 ∧ MR X ρ 8 0 0 qP95 N57 15 [b0, b1, b2, b3, 1, 0, s32 (b6 + 1), f155 X m b1 1000029] [] m51 o)) ∨ (¬ ((f155 X m b1 1000029) = 0) ∧ (∃ y63, y63 = g101 m51 b0 1 0 0 ∧ ((((f101 m51 b0 1 0 0) = 0) ∧ (∃ N65, N = N65 + 1 ∧ MR X ρ 8 0 0 qP95 N65 15 [b0, b1, b2, b3, 0, 0, s32 (b6 + 1), f155 X m b1 1000029] [] y63 o)) ∨ (¬ ((f101 m51 b0 1 0 0) = 0) ∧ (∃ N66, N = N66 + 1 ∧ MR X ρ 8 0 0 qP95 N66 15 [b0, b1, b2, b3, 1, 0, s32 (b6 + 1), f155 X m b1 1000029] [] y63 o))))))))))) ∨ (¬ (b5 = 0) ∧ (∃ m27, Run X ρ 148 [(1, b1)] m [] m27 ∧ (∃ v32 m30, Run X ρ 97 [(1, b0), (1, b1), (1, b2), (1, b3)] m27 [(1, v32)] m30 ∧ (v32 = 0 ∨ v32 = 1) ∧ (((v32 = 0) ∧ (∃ N34, N = N34 + 1 ∧ MR X ρ 8 0 0 qP95 N34 15 [b0, b1, b2, b3, 0, 1, s32 (b6 + 1), f155 X m b1 1000029] [] m30 o)) ∨ (¬ (v32 = 0) ∧ ((((f155 X m b1 1000029) = 0) ∧ (∃ N36, N = N36 + 1 ∧ MR X ρ 8 0 0 qP95 N36 15 [b0, b1, b2, b3, 1, 1, s32 (b6 + 1), f155 X m b1 1000029] [] m30 o)) ∨ (¬ ((f155 X m b1 1000029) = 0) ∧ (∃ y42, y42 = g101 m30 b0 1 0 0 ∧ ((((f101 m30 b0 1 0 0) = 0) ∧ (∃ N44, N = N44 + 1 ∧ MR X ρ 8 0 0 qP95 N44 15 [b0, b1, b2, b3, 0, 1, s32 (b6 + 1), f155 X m b1 1000029] [] y42 o)) ∨ (¬ ((f101 m30 b0 1 0 0) = 0) ∧ (∃ N45, N = N45 + 1 ∧ MR X ρ 8 0 0 qP95 N45 15 [b0, b1, b2, b3, 1, 1, s32 (b6 + 1), f155 X m b1 1000029] [] y42 o)))))))))))))))))) := by
  have h := CR_iload h rfl
  have h : MR X ρ 8 0 0 qP95 N 17 [b0, b1, b2, b3, b4, b5, b6, b7] [(1, b6)] m o := h
  have h := CR_bipush h rfl rfl
  have h : MR X ρ 8 0 0 qP95 N 19 [b0, b1, b2, b3, b4, b5, b6, b7] [(1, 20), (1, b6)] m o := h
  rcases MR_icmp h rfl rfl with ⟨c1, h⟩ | ⟨c1, h⟩
  ·
    have c1 : 20 < b6 := c1
    refine Or.inl ⟨c1, ?_⟩
    have h : MR X ρ 8 0 0 qP95 N 133 [b0, b1, b2, b3, b4, b5, b6, b7] [] m o := h
    have h := CR_iload h rfl
    have h : MR X ρ 8 0 0 qP95 N 135 [b0, b1, b2, b3, b4, b5, b6, b7] [(1, b4)] m o := h
    rcases MR_if h rfl rfl with ⟨c2, h⟩ | ⟨c2, h⟩
    ·
      have c2 : b4 = 0 := c2
      refine Or.inl ⟨c2, ?_⟩
      have h : MR X ρ 8 0 0 qP95 N 157 [b0, b1, b2, b3, b4, b5, b6, b7] [] m o := h
      have h := CR_iconst h rfl rfl
      have h : MR X ρ 8 0 0 qP95 N 158 [b0, b1, b2, b3, b4, b5, b6, b7] [(1, 0)] m o := h
      exact CR_end h rfl rfl
    ·
      have c2 : ¬ (b4 = 0) := c2
      refine Or.inr ⟨c2, ?_⟩
      have h : MR X ρ 8 0 0 qP95 N 138 [b0, b1, b2, b3, b4, b5, b6, b7] [] m o := h
      have h := CR_iload h rfl
      have h : MR X ρ 8 0 0 qP95 N 140 [b0, b1, b2, b3, b4, b5, b6, b7] [(1, b5)] m o := h
      rcases MR_if h rfl rfl with ⟨c3, h⟩ | ⟨c3, h⟩
      ·
        have c3 : b5 = 0 := c3
        refine Or.inl ⟨c3, ?_⟩
        have h : MR X ρ 8 0 0 qP95 N 153 [b0, b1, b2, b3, b4, b5, b6, b7] [] m o := h
        have h := CR_iconst h rfl rfl
        have h : MR X ρ 8 0 0 qP95 N 154 [b0, b1, b2, b3, b4, b5, b6, b7] [(1, 1)] m o := h
        have h := CR_go h rfl rfl
        have h : MR X ρ 8 0 0 qP95 N 158 [b0, b1, b2, b3, b4, b5, b6, b7] [(1, 1)] m o := h
        exact CR_end h rfl rfl
      ·
        have c3 : ¬ (b5 = 0) := c3
        refine Or.inr ⟨c3, ?_⟩
        have h : MR X ρ 8 0 0 qP95 N 143 [b0, b1, b2, b3, b4, b5, b6, b7] [] m o := h
        have h := CR_aload_n h rfl
        have h : MR X ρ 8 0 0 qP95 N 144 [b0, b1, b2, b3, b4, b5, b6, b7] [(1, b0)] m o := h
        have h := CR_iconst h rfl rfl
        have h : MR X ρ 8 0 0 qP95 N 145 [b0, b1, b2, b3, b4, b5, b6, b7] [(1, 2), (1, b0)] m o := h
        have h := CR_iconst h rfl rfl
        have h : MR X ρ 8 0 0 qP95 N 146 [b0, b1, b2, b3, b4, b5, b6, b7] [(1, 0), (1, 2), (1, b0)] m o := h
        have h := CR_iconst h rfl rfl
        have h : MR X ρ 8 0 0 qP95 N 147 [b0, b1, b2, b3, b4, b5, b6, b7] [(1, 0), (1, 0), (1, 2), (1, b0)] m o := h
        obtain ⟨r4, m5, q6, h⟩ := MR_invV h rfl rfl
        have q6 : Run X ρ 101 [(1, b0), (1, 2), (1, 0), (1, 0)] m r4 m5 := q6
        obtain ⟨e7, e8⟩ := d101 q6
        rw [e7, e8] at h
        have h : MR X ρ 8 0 0 qP95 N 150 [b0, b1, b2, b3, b4, b5, b6, b7] [(1, f101 m b0 2 0 0)] (g101 m b0 2 0 0) o := h
        obtain ⟨y9, zy9, h⟩ : ∃ y, y = g101 m b0 2 0 0 ∧ MR X ρ 8 0 0 qP95 N 150 [b0, b1, b2, b3, b4, b5, b6, b7] [(1, f101 m b0 2 0 0)] y o := ⟨_, rfl, h⟩
        have h : MR X ρ 8 0 0 qP95 N 150 [b0, b1, b2, b3, b4, b5, b6, b7] [(1, f101 m b0 2 0 0)] y9 o := h
        refine ⟨y9, zy9, ?_⟩
        rcases MR_if h rfl rfl with ⟨c10, h⟩ | ⟨c10, h⟩
        ·
          have c10 : (f101 m b0 2 0 0) = 0 := c10
          refine Or.inl ⟨c10, ?_⟩
          have h : MR X ρ 8 0 0 qP95 N 157 [b0, b1, b2, b3, b4, b5, b6, b7] [] y9 o := h
          have h := CR_iconst h rfl rfl
          have h : MR X ρ 8 0 0 qP95 N 158 [b0, b1, b2, b3, b4, b5, b6, b7] [(1, 0)] y9 o := h
          exact CR_end h rfl rfl
        ·
          have c10 : ¬ ((f101 m b0 2 0 0) = 0) := c10
          refine Or.inr ⟨c10, ?_⟩
          have h : MR X ρ 8 0 0 qP95 N 153 [b0, b1, b2, b3, b4, b5, b6, b7] [] y9 o := h
          have h := CR_iconst h rfl rfl
          have h : MR X ρ 8 0 0 qP95 N 154 [b0, b1, b2, b3, b4, b5, b6, b7] [(1, 1)] y9 o := h
          have h := CR_go h rfl rfl
          have h : MR X ρ 8 0 0 qP95 N 158 [b0, b1, b2, b3, b4, b5, b6, b7] [(1, 1)] y9 o := h
          exact CR_end h rfl rfl
  ·
    have c1 : ¬ (20 < b6) := c1
    refine Or.inr ⟨c1, ?_⟩
    have h : MR X ρ 8 0 0 qP95 N 22 [b0, b1, b2, b3, b4, b5, b6, b7] [] m o := h
    have h := CR_iload h rfl
    have h : MR X ρ 8 0 0 qP95 N 24 [b0, b1, b2, b3, b4, b5, b6, b7] [(1, b4)] m o := h
    rcases MR_if h rfl rfl with ⟨c11, h⟩ | ⟨c11, h⟩
    ·
      have c11 : b4 = 0 := c11
      refine Or.inl ⟨c11, ?_⟩
      have h : MR X ρ 8 0 0 qP95 N 133 [b0, b1, b2, b3, b4, b5, b6, b7] [] m o := h
      have h := CR_iload h rfl
      have h : MR X ρ 8 0 0 qP95 N 135 [b0, b1, b2, b3, b4, b5, b6, b7] [(1, b4)] m o := h
      rcases MR_if h rfl rfl with ⟨c12, h⟩ | ⟨c12, h⟩
      ·
        have h : MR X ρ 8 0 0 qP95 N 157 [b0, b1, b2, b3, b4, b5, b6, b7] [] m o := h
        have h := CR_iconst h rfl rfl
        have h : MR X ρ 8 0 0 qP95 N 158 [b0, b1, b2, b3, b4, b5, b6, b7] [(1, 0)] m o := h
        exact CR_end h rfl rfl
      · exact absurd c11 (show ¬ (b4 = 0) from c12)
    ·
      have c11 : ¬ (b4 = 0) := c11
      refine Or.inr ⟨c11, ?_⟩
      have h : MR X ρ 8 0 0 qP95 N 27 [b0, b1, b2, b3, b4, b5, b6, b7] [] m o := h
      have h := CR_aload_n h rfl
      have h : MR X ρ 8 0 0 qP95 N 28 [b0, b1, b2, b3, b4, b5, b6, b7] [(1, b1)] m o := h
      have h := CR_getstatic h rfl
      have h : MR X ρ 8 0 0 qP95 N 31 [b0, b1, b2, b3, b4, b5, b6, b7] [(1, 1000029), (1, b1)] m o := h
      obtain ⟨r13, m14, q15, h⟩ := MR_invV h rfl rfl
      have q15 : Run X ρ 155 [(1, b1), (1, 1000029)] m r13 m14 := q15
      obtain ⟨e16, e17⟩ := d155 q15
      rw [e16, e17] at h
      have h : MR X ρ 8 0 0 qP95 N 34 [b0, b1, b2, b3, b4, b5, b6, b7] [(1, f155 X m b1 1000029)] m o := h
      rcases MR_if h rfl rfl with ⟨c18, h⟩ | ⟨c18, h⟩
      ·
        have c18 : ¬ ((f155 X m b1 1000029) = 0) := c18
        refine Or.inr ⟨c18, ?_⟩
        have h : MR X ρ 8 0 0 qP95 N 47 [b0, b1, b2, b3, b4, b5, b6, b7] [] m o := h
        have h := CR_aload_n h rfl
        have h : MR X ρ 8 0 0 qP95 N 48 [b0, b1, b2, b3, b4, b5, b6, b7] [(1, b1)] m o := h
        have h := CR_getstatic h rfl
        have h : MR X ρ 8 0 0 qP95 N 51 [b0, b1, b2, b3, b4, b5, b6, b7] [(1, 1000029), (1, b1)] m o := h
        obtain ⟨r19, m20, q21, h⟩ := MR_invV h rfl rfl
        have q21 : Run X ρ 155 [(1, b1), (1, 1000029)] m r19 m20 := q21
        obtain ⟨e22, e23⟩ := d155 q21
        rw [e22, e23] at h
        have h : MR X ρ 8 0 0 qP95 N 54 [b0, b1, b2, b3, b4, b5, b6, b7] [(1, f155 X m b1 1000029)] m o := h
        have h := CR_istore h rfl (Nat.le_of_ble_eq_true rfl)
        have h : MR X ρ 8 0 0 qP95 N 56 [b0, b1, b2, b3, b4, b5, b6, f155 X m b1 1000029] [] m o := h
        have h := CR_iload h rfl
        have h : MR X ρ 8 0 0 qP95 N 58 [b0, b1, b2, b3, b4, b5, b6, f155 X m b1 1000029] [(1, f155 X m b1 1000029)] m o := h
        rcases MR_if h rfl rfl with ⟨c24, h⟩ | ⟨c24, h⟩
        ·
          have h : MR X ρ 8 0 0 qP95 N 74 [b0, b1, b2, b3, b4, b5, b6, f155 X m b1 1000029] [] m o := h
          have h := CR_iload h rfl
          have h : MR X ρ 8 0 0 qP95 N 76 [b0, b1, b2, b3, b4, b5, b6, f155 X m b1 1000029] [(1, b5)] m o := h
          rcases MR_if h rfl rfl with ⟨c25, h⟩ | ⟨c25, h⟩
          ·
            have c25 : ¬ (b5 = 0) := c25
            refine Or.inr ⟨c25, ?_⟩
            have h : MR X ρ 8 0 0 qP95 N 84 [b0, b1, b2, b3, b4, b5, b6, f155 X m b1 1000029] [] m o := h
            have h := CR_iconst h rfl rfl
            have h : MR X ρ 8 0 0 qP95 N 85 [b0, b1, b2, b3, b4, b5, b6, f155 X m b1 1000029] [(1, 1)] m o := h
            have h := CR_go h rfl rfl
            have h : MR X ρ 8 0 0 qP95 N 89 [b0, b1, b2, b3, b4, b5, b6, f155 X m b1 1000029] [(1, 1)] m o := h
            have h := CR_istore h rfl (Nat.le_of_ble_eq_true rfl)
            have h : MR X ρ 8 0 0 qP95 N 91 [b0, b1, b2, b3, b4, 1, b6, f155 X m b1 1000029] [] m o := h
            have h := CR_aload_n h rfl
            have h : MR X ρ 8 0 0 qP95 N 92 [b0, b1, b2, b3, b4, 1, b6, f155 X m b1 1000029] [(1, b1)] m o := h
            obtain ⟨r26, m27, q28, h⟩ := MR_invV h rfl rfl
            have q28 : Run X ρ 148 [(1, b1)] m r26 m27 := q28
            obtain rfl := Run_v q28 rfl
            have h : MR X ρ 8 0 0 qP95 N 95 [b0, b1, b2, b3, b4, 1, b6, f155 X m b1 1000029] [] m27 o := h
            refine ⟨m27, q28, ?_⟩
            have h := CR_aload_n h rfl
            have h : MR X ρ 8 0 0 qP95 N 96 [b0, b1, b2, b3, b4, 1, b6, f155 X m b1 1000029] [(1, b0)] m27 o := h
            have h := CR_aload_n h rfl
            have h : MR X ρ 8 0 0 qP95 N 97 [b0, b1, b2, b3, b4, 1, b6, f155 X m b1 1000029] [(1, b1), (1, b0)] m27 o := h
            have h := CR_aload_n h rfl
            have h : MR X ρ 8 0 0 qP95 N 98 [b0, b1, b2, b3, b4, 1, b6, f155 X m b1 1000029] [(1, b2), (1, b1), (1, b0)] m27 o := h
            have h := CR_iload_n h rfl
            have h : MR X ρ 8 0 0 qP95 N 99 [b0, b1, b2, b3, b4, 1, b6, f155 X m b1 1000029] [(1, b3), (1, b2), (1, b1), (1, b0)] m27 o := h
            obtain ⟨r29, m30, q31, h⟩ := MR_invV h rfl rfl
            have q31 : Run X ρ 97 [(1, b0), (1, b1), (1, b2), (1, b3)] m27 r29 m30 := q31
            obtain ⟨v32, rfl, zv32⟩ := Run_z q31 rfl
            have h : MR X ρ 8 0 0 qP95 N 102 [b0, b1, b2, b3, b4, 1, b6, f155 X m b1 1000029] [(1, v32)] m30 o := h
            refine ⟨v32, m30, q31, zv32, ?_⟩
            rcases MR_if h rfl rfl with ⟨c33, h⟩ | ⟨c33, h⟩
            ·
              have c33 : v32 = 0 := c33
              refine Or.inl ⟨c33, ?_⟩
              have h : MR X ρ 8 0 0 qP95 N 124 [b0, b1, b2, b3, b4, 1, b6, f155 X m b1 1000029] [] m30 o := h
              have h := CR_iconst h rfl rfl
              have h : MR X ρ 8 0 0 qP95 N 125 [b0, b1, b2, b3, b4, 1, b6, f155 X m b1 1000029] [(1, 0)] m30 o := h
              have h := CR_istore h rfl (Nat.le_of_ble_eq_true rfl)
              have h : MR X ρ 8 0 0 qP95 N 127 [b0, b1, b2, b3, 0, 1, b6, f155 X m b1 1000029] [] m30 o := h
              have h := CR_inc h rfl (Nat.le_of_ble_eq_true rfl)
              have h : MR X ρ 8 0 0 qP95 N 130 [b0, b1, b2, b3, 0, 1, s32 (b6 + 1), f155 X m b1 1000029] [] m30 o := h
              obtain ⟨N34, eN34, h⟩ := CR_goto h rfl rfl
              have h : MR X ρ 8 0 0 qP95 N34 15 [b0, b1, b2, b3, 0, 1, s32 (b6 + 1), f155 X m b1 1000029] [] m30 o := h
              exact ⟨N34, eN34, h⟩
            ·
              have c33 : ¬ (v32 = 0) := c33
              refine Or.inr ⟨c33, ?_⟩
              have h : MR X ρ 8 0 0 qP95 N 105 [b0, b1, b2, b3, b4, 1, b6, f155 X m b1 1000029] [] m30 o := h
              have h := CR_iload h rfl
              have h : MR X ρ 8 0 0 qP95 N 107 [b0, b1, b2, b3, b4, 1, b6, f155 X m b1 1000029] [(1, f155 X m b1 1000029)] m30 o := h
              rcases MR_if h rfl rfl with ⟨c35, h⟩ | ⟨c35, h⟩
              ·
                have c35 : (f155 X m b1 1000029) = 0 := c35
                refine Or.inl ⟨c35, ?_⟩
                have h : MR X ρ 8 0 0 qP95 N 120 [b0, b1, b2, b3, b4, 1, b6, f155 X m b1 1000029] [] m30 o := h
                have h := CR_iconst h rfl rfl
                have h : MR X ρ 8 0 0 qP95 N 121 [b0, b1, b2, b3, b4, 1, b6, f155 X m b1 1000029] [(1, 1)] m30 o := h
                have h := CR_go h rfl rfl
                have h : MR X ρ 8 0 0 qP95 N 125 [b0, b1, b2, b3, b4, 1, b6, f155 X m b1 1000029] [(1, 1)] m30 o := h
                have h := CR_istore h rfl (Nat.le_of_ble_eq_true rfl)
                have h : MR X ρ 8 0 0 qP95 N 127 [b0, b1, b2, b3, 1, 1, b6, f155 X m b1 1000029] [] m30 o := h
                have h := CR_inc h rfl (Nat.le_of_ble_eq_true rfl)
                have h : MR X ρ 8 0 0 qP95 N 130 [b0, b1, b2, b3, 1, 1, s32 (b6 + 1), f155 X m b1 1000029] [] m30 o := h
                obtain ⟨N36, eN36, h⟩ := CR_goto h rfl rfl
                have h : MR X ρ 8 0 0 qP95 N36 15 [b0, b1, b2, b3, 1, 1, s32 (b6 + 1), f155 X m b1 1000029] [] m30 o := h
                exact ⟨N36, eN36, h⟩
              ·
                have c35 : ¬ ((f155 X m b1 1000029) = 0) := c35
                refine Or.inr ⟨c35, ?_⟩
                have h : MR X ρ 8 0 0 qP95 N 110 [b0, b1, b2, b3, b4, 1, b6, f155 X m b1 1000029] [] m30 o := h
                have h := CR_aload_n h rfl
                have h : MR X ρ 8 0 0 qP95 N 111 [b0, b1, b2, b3, b4, 1, b6, f155 X m b1 1000029] [(1, b0)] m30 o := h
                have h := CR_iconst h rfl rfl
                have h : MR X ρ 8 0 0 qP95 N 112 [b0, b1, b2, b3, b4, 1, b6, f155 X m b1 1000029] [(1, 1), (1, b0)] m30 o := h
                have h := CR_iconst h rfl rfl
                have h : MR X ρ 8 0 0 qP95 N 113 [b0, b1, b2, b3, b4, 1, b6, f155 X m b1 1000029] [(1, 0), (1, 1), (1, b0)] m30 o := h
                have h := CR_iconst h rfl rfl
                have h : MR X ρ 8 0 0 qP95 N 114 [b0, b1, b2, b3, b4, 1, b6, f155 X m b1 1000029] [(1, 0), (1, 0), (1, 1), (1, b0)] m30 o := h
                obtain ⟨r37, m38, q39, h⟩ := MR_invV h rfl rfl
                have q39 : Run X ρ 101 [(1, b0), (1, 1), (1, 0), (1, 0)] m30 r37 m38 := q39
                obtain ⟨e40, e41⟩ := d101 q39
                rw [e40, e41] at h
                have h : MR X ρ 8 0 0 qP95 N 117 [b0, b1, b2, b3, b4, 1, b6, f155 X m b1 1000029] [(1, f101 m30 b0 1 0 0)] (g101 m30 b0 1 0 0) o := h
                obtain ⟨y42, zy42, h⟩ : ∃ y, y = g101 m30 b0 1 0 0 ∧ MR X ρ 8 0 0 qP95 N 117 [b0, b1, b2, b3, b4, 1, b6, f155 X m b1 1000029] [(1, f101 m30 b0 1 0 0)] y o := ⟨_, rfl, h⟩
                have h : MR X ρ 8 0 0 qP95 N 117 [b0, b1, b2, b3, b4, 1, b6, f155 X m b1 1000029] [(1, f101 m30 b0 1 0 0)] y42 o := h
                refine ⟨y42, zy42, ?_⟩
                rcases MR_if h rfl rfl with ⟨c43, h⟩ | ⟨c43, h⟩
                ·
                  have c43 : (f101 m30 b0 1 0 0) = 0 := c43
                  refine Or.inl ⟨c43, ?_⟩
                  have h : MR X ρ 8 0 0 qP95 N 124 [b0, b1, b2, b3, b4, 1, b6, f155 X m b1 1000029] [] y42 o := h
                  have h := CR_iconst h rfl rfl
                  have h : MR X ρ 8 0 0 qP95 N 125 [b0, b1, b2, b3, b4, 1, b6, f155 X m b1 1000029] [(1, 0)] y42 o := h
                  have h := CR_istore h rfl (Nat.le_of_ble_eq_true rfl)
                  have h : MR X ρ 8 0 0 qP95 N 127 [b0, b1, b2, b3, 0, 1, b6, f155 X m b1 1000029] [] y42 o := h
                  have h := CR_inc h rfl (Nat.le_of_ble_eq_true rfl)
                  have h : MR X ρ 8 0 0 qP95 N 130 [b0, b1, b2, b3, 0, 1, s32 (b6 + 1), f155 X m b1 1000029] [] y42 o := h
                  obtain ⟨N44, eN44, h⟩ := CR_goto h rfl rfl
                  have h : MR X ρ 8 0 0 qP95 N44 15 [b0, b1, b2, b3, 0, 1, s32 (b6 + 1), f155 X m b1 1000029] [] y42 o := h
                  exact ⟨N44, eN44, h⟩
                ·
                  have c43 : ¬ ((f101 m30 b0 1 0 0) = 0) := c43
                  refine Or.inr ⟨c43, ?_⟩
                  have h : MR X ρ 8 0 0 qP95 N 120 [b0, b1, b2, b3, b4, 1, b6, f155 X m b1 1000029] [] y42 o := h
                  have h := CR_iconst h rfl rfl
                  have h : MR X ρ 8 0 0 qP95 N 121 [b0, b1, b2, b3, b4, 1, b6, f155 X m b1 1000029] [(1, 1)] y42 o := h
                  have h := CR_go h rfl rfl
                  have h : MR X ρ 8 0 0 qP95 N 125 [b0, b1, b2, b3, b4, 1, b6, f155 X m b1 1000029] [(1, 1)] y42 o := h
                  have h := CR_istore h rfl (Nat.le_of_ble_eq_true rfl)
                  have h : MR X ρ 8 0 0 qP95 N 127 [b0, b1, b2, b3, 1, 1, b6, f155 X m b1 1000029] [] y42 o := h
                  have h := CR_inc h rfl (Nat.le_of_ble_eq_true rfl)
                  have h : MR X ρ 8 0 0 qP95 N 130 [b0, b1, b2, b3, 1, 1, s32 (b6 + 1), f155 X m b1 1000029] [] y42 o := h
                  obtain ⟨N45, eN45, h⟩ := CR_goto h rfl rfl
                  have h : MR X ρ 8 0 0 qP95 N45 15 [b0, b1, b2, b3, 1, 1, s32 (b6 + 1), f155 X m b1 1000029] [] y42 o := h
                  exact ⟨N45, eN45, h⟩
          ·
            have c25 : b5 = 0 := Decidable.of_not_not (show ¬ ¬ (b5 = 0) from c25)
            refine Or.inl ⟨c25, ?_⟩
            have h : MR X ρ 8 0 0 qP95 N 79 [b0, b1, b2, b3, b4, b5, b6, f155 X m b1 1000029] [] m o := h
            have h := CR_iload h rfl
            have h : MR X ρ 8 0 0 qP95 N 81 [b0, b1, b2, b3, b4, b5, b6, f155 X m b1 1000029] [(1, f155 X m b1 1000029)] m o := h
            rcases MR_if h rfl rfl with ⟨c46, h⟩ | ⟨c46, h⟩
            ·
              have h : MR X ρ 8 0 0 qP95 N 88 [b0, b1, b2, b3, b4, b5, b6, f155 X m b1 1000029] [] m o := h
              have h := CR_iconst h rfl rfl
              have h : MR X ρ 8 0 0 qP95 N 89 [b0, b1, b2, b3, b4, b5, b6, f155 X m b1 1000029] [(1, 0)] m o := h
              have h := CR_istore h rfl (Nat.le_of_ble_eq_true rfl)
              have h : MR X ρ 8 0 0 qP95 N 91 [b0, b1, b2, b3, b4, 0, b6, f155 X m b1 1000029] [] m o := h
              have h := CR_aload_n h rfl
              have h : MR X ρ 8 0 0 qP95 N 92 [b0, b1, b2, b3, b4, 0, b6, f155 X m b1 1000029] [(1, b1)] m o := h
              obtain ⟨r47, m48, q49, h⟩ := MR_invV h rfl rfl
              have q49 : Run X ρ 148 [(1, b1)] m r47 m48 := q49
              obtain rfl := Run_v q49 rfl
              have h : MR X ρ 8 0 0 qP95 N 95 [b0, b1, b2, b3, b4, 0, b6, f155 X m b1 1000029] [] m48 o := h
              refine ⟨m48, q49, ?_⟩
              have h := CR_aload_n h rfl
              have h : MR X ρ 8 0 0 qP95 N 96 [b0, b1, b2, b3, b4, 0, b6, f155 X m b1 1000029] [(1, b0)] m48 o := h
              have h := CR_aload_n h rfl
              have h : MR X ρ 8 0 0 qP95 N 97 [b0, b1, b2, b3, b4, 0, b6, f155 X m b1 1000029] [(1, b1), (1, b0)] m48 o := h
              have h := CR_aload_n h rfl
              have h : MR X ρ 8 0 0 qP95 N 98 [b0, b1, b2, b3, b4, 0, b6, f155 X m b1 1000029] [(1, b2), (1, b1), (1, b0)] m48 o := h
              have h := CR_iload_n h rfl
              have h : MR X ρ 8 0 0 qP95 N 99 [b0, b1, b2, b3, b4, 0, b6, f155 X m b1 1000029] [(1, b3), (1, b2), (1, b1), (1, b0)] m48 o := h
              obtain ⟨r50, m51, q52, h⟩ := MR_invV h rfl rfl
              have q52 : Run X ρ 97 [(1, b0), (1, b1), (1, b2), (1, b3)] m48 r50 m51 := q52
              obtain ⟨v53, rfl, zv53⟩ := Run_z q52 rfl
              have h : MR X ρ 8 0 0 qP95 N 102 [b0, b1, b2, b3, b4, 0, b6, f155 X m b1 1000029] [(1, v53)] m51 o := h
              refine ⟨v53, m51, q52, zv53, ?_⟩
              rcases MR_if h rfl rfl with ⟨c54, h⟩ | ⟨c54, h⟩
              ·
                have c54 : v53 = 0 := c54
                refine Or.inl ⟨c54, ?_⟩
                have h : MR X ρ 8 0 0 qP95 N 124 [b0, b1, b2, b3, b4, 0, b6, f155 X m b1 1000029] [] m51 o := h
                have h := CR_iconst h rfl rfl
                have h : MR X ρ 8 0 0 qP95 N 125 [b0, b1, b2, b3, b4, 0, b6, f155 X m b1 1000029] [(1, 0)] m51 o := h
                have h := CR_istore h rfl (Nat.le_of_ble_eq_true rfl)
                have h : MR X ρ 8 0 0 qP95 N 127 [b0, b1, b2, b3, 0, 0, b6, f155 X m b1 1000029] [] m51 o := h
                have h := CR_inc h rfl (Nat.le_of_ble_eq_true rfl)
                have h : MR X ρ 8 0 0 qP95 N 130 [b0, b1, b2, b3, 0, 0, s32 (b6 + 1), f155 X m b1 1000029] [] m51 o := h
                obtain ⟨N55, eN55, h⟩ := CR_goto h rfl rfl
                have h : MR X ρ 8 0 0 qP95 N55 15 [b0, b1, b2, b3, 0, 0, s32 (b6 + 1), f155 X m b1 1000029] [] m51 o := h
                exact ⟨N55, eN55, h⟩
              ·
                have c54 : ¬ (v53 = 0) := c54
                refine Or.inr ⟨c54, ?_⟩
                have h : MR X ρ 8 0 0 qP95 N 105 [b0, b1, b2, b3, b4, 0, b6, f155 X m b1 1000029] [] m51 o := h
                have h := CR_iload h rfl
                have h : MR X ρ 8 0 0 qP95 N 107 [b0, b1, b2, b3, b4, 0, b6, f155 X m b1 1000029] [(1, f155 X m b1 1000029)] m51 o := h
                rcases MR_if h rfl rfl with ⟨c56, h⟩ | ⟨c56, h⟩
                ·
                  have c56 : (f155 X m b1 1000029) = 0 := c56
                  refine Or.inl ⟨c56, ?_⟩
                  have h : MR X ρ 8 0 0 qP95 N 120 [b0, b1, b2, b3, b4, 0, b6, f155 X m b1 1000029] [] m51 o := h
                  have h := CR_iconst h rfl rfl
                  have h : MR X ρ 8 0 0 qP95 N 121 [b0, b1, b2, b3, b4, 0, b6, f155 X m b1 1000029] [(1, 1)] m51 o := h
                  have h := CR_go h rfl rfl
                  have h : MR X ρ 8 0 0 qP95 N 125 [b0, b1, b2, b3, b4, 0, b6, f155 X m b1 1000029] [(1, 1)] m51 o := h
                  have h := CR_istore h rfl (Nat.le_of_ble_eq_true rfl)
                  have h : MR X ρ 8 0 0 qP95 N 127 [b0, b1, b2, b3, 1, 0, b6, f155 X m b1 1000029] [] m51 o := h
                  have h := CR_inc h rfl (Nat.le_of_ble_eq_true rfl)
                  have h : MR X ρ 8 0 0 qP95 N 130 [b0, b1, b2, b3, 1, 0, s32 (b6 + 1), f155 X m b1 1000029] [] m51 o := h
                  obtain ⟨N57, eN57, h⟩ := CR_goto h rfl rfl
                  have h : MR X ρ 8 0 0 qP95 N57 15 [b0, b1, b2, b3, 1, 0, s32 (b6 + 1), f155 X m b1 1000029] [] m51 o := h
                  exact ⟨N57, eN57, h⟩
                ·
                  have c56 : ¬ ((f155 X m b1 1000029) = 0) := c56
                  refine Or.inr ⟨c56, ?_⟩
                  have h : MR X ρ 8 0 0 qP95 N 110 [b0, b1, b2, b3, b4, 0, b6, f155 X m b1 1000029] [] m51 o := h
                  have h := CR_aload_n h rfl
                  have h : MR X ρ 8 0 0 qP95 N 111 [b0, b1, b2, b3, b4, 0, b6, f155 X m b1 1000029] [(1, b0)] m51 o := h
                  have h := CR_iconst h rfl rfl
                  have h : MR X ρ 8 0 0 qP95 N 112 [b0, b1, b2, b3, b4, 0, b6, f155 X m b1 1000029] [(1, 1), (1, b0)] m51 o := h
                  have h := CR_iconst h rfl rfl
                  have h : MR X ρ 8 0 0 qP95 N 113 [b0, b1, b2, b3, b4, 0, b6, f155 X m b1 1000029] [(1, 0), (1, 1), (1, b0)] m51 o := h
                  have h := CR_iconst h rfl rfl
                  have h : MR X ρ 8 0 0 qP95 N 114 [b0, b1, b2, b3, b4, 0, b6, f155 X m b1 1000029] [(1, 0), (1, 0), (1, 1), (1, b0)] m51 o := h
                  obtain ⟨r58, m59, q60, h⟩ := MR_invV h rfl rfl
                  have q60 : Run X ρ 101 [(1, b0), (1, 1), (1, 0), (1, 0)] m51 r58 m59 := q60
                  obtain ⟨e61, e62⟩ := d101 q60
                  rw [e61, e62] at h
                  have h : MR X ρ 8 0 0 qP95 N 117 [b0, b1, b2, b3, b4, 0, b6, f155 X m b1 1000029] [(1, f101 m51 b0 1 0 0)] (g101 m51 b0 1 0 0) o := h
                  obtain ⟨y63, zy63, h⟩ : ∃ y, y = g101 m51 b0 1 0 0 ∧ MR X ρ 8 0 0 qP95 N 117 [b0, b1, b2, b3, b4, 0, b6, f155 X m b1 1000029] [(1, f101 m51 b0 1 0 0)] y o := ⟨_, rfl, h⟩
                  have h : MR X ρ 8 0 0 qP95 N 117 [b0, b1, b2, b3, b4, 0, b6, f155 X m b1 1000029] [(1, f101 m51 b0 1 0 0)] y63 o := h
                  refine ⟨y63, zy63, ?_⟩
                  rcases MR_if h rfl rfl with ⟨c64, h⟩ | ⟨c64, h⟩
                  ·
                    have c64 : (f101 m51 b0 1 0 0) = 0 := c64
                    refine Or.inl ⟨c64, ?_⟩
                    have h : MR X ρ 8 0 0 qP95 N 124 [b0, b1, b2, b3, b4, 0, b6, f155 X m b1 1000029] [] y63 o := h
                    have h := CR_iconst h rfl rfl
                    have h : MR X ρ 8 0 0 qP95 N 125 [b0, b1, b2, b3, b4, 0, b6, f155 X m b1 1000029] [(1, 0)] y63 o := h
                    have h := CR_istore h rfl (Nat.le_of_ble_eq_true rfl)
                    have h : MR X ρ 8 0 0 qP95 N 127 [b0, b1, b2, b3, 0, 0, b6, f155 X m b1 1000029] [] y63 o := h
                    have h := CR_inc h rfl (Nat.le_of_ble_eq_true rfl)
                    have h : MR X ρ 8 0 0 qP95 N 130 [b0, b1, b2, b3, 0, 0, s32 (b6 + 1), f155 X m b1 1000029] [] y63 o := h
                    obtain ⟨N65, eN65, h⟩ := CR_goto h rfl rfl
                    have h : MR X ρ 8 0 0 qP95 N65 15 [b0, b1, b2, b3, 0, 0, s32 (b6 + 1), f155 X m b1 1000029] [] y63 o := h
                    exact ⟨N65, eN65, h⟩
                  ·
                    have c64 : ¬ ((f101 m51 b0 1 0 0) = 0) := c64
                    refine Or.inr ⟨c64, ?_⟩
                    have h : MR X ρ 8 0 0 qP95 N 120 [b0, b1, b2, b3, b4, 0, b6, f155 X m b1 1000029] [] y63 o := h
                    have h := CR_iconst h rfl rfl
                    have h : MR X ρ 8 0 0 qP95 N 121 [b0, b1, b2, b3, b4, 0, b6, f155 X m b1 1000029] [(1, 1)] y63 o := h
                    have h := CR_go h rfl rfl
                    have h : MR X ρ 8 0 0 qP95 N 125 [b0, b1, b2, b3, b4, 0, b6, f155 X m b1 1000029] [(1, 1)] y63 o := h
                    have h := CR_istore h rfl (Nat.le_of_ble_eq_true rfl)
                    have h : MR X ρ 8 0 0 qP95 N 127 [b0, b1, b2, b3, 1, 0, b6, f155 X m b1 1000029] [] y63 o := h
                    have h := CR_inc h rfl (Nat.le_of_ble_eq_true rfl)
                    have h : MR X ρ 8 0 0 qP95 N 130 [b0, b1, b2, b3, 1, 0, s32 (b6 + 1), f155 X m b1 1000029] [] y63 o := h
                    obtain ⟨N66, eN66, h⟩ := CR_goto h rfl rfl
                    have h : MR X ρ 8 0 0 qP95 N66 15 [b0, b1, b2, b3, 1, 0, s32 (b6 + 1), f155 X m b1 1000029] [] y63 o := h
                    exact ⟨N66, eN66, h⟩
            · exact absurd c18 c46
        · exact absurd c18 c24
      ·
        have c18 : (f155 X m b1 1000029) = 0 := Decidable.of_not_not (show ¬ ¬ ((f155 X m b1 1000029) = 0) from c18)
        refine Or.inl ⟨c18, ?_⟩
        have h : MR X ρ 8 0 0 qP95 N 37 [b0, b1, b2, b3, b4, b5, b6, b7] [] m o := h
        have h := CR_aload_n h rfl
        have h : MR X ρ 8 0 0 qP95 N 38 [b0, b1, b2, b3, b4, b5, b6, b7] [(1, b1)] m o := h
        have h := CR_getstatic h rfl
        have h : MR X ρ 8 0 0 qP95 N 41 [b0, b1, b2, b3, b4, b5, b6, b7] [(1, 1000030), (1, b1)] m o := h
        obtain ⟨r67, m68, q69, h⟩ := MR_invV h rfl rfl
        have q69 : Run X ρ 155 [(1, b1), (1, 1000030)] m r67 m68 := q69
        obtain ⟨e70, e71⟩ := d155 q69
        rw [e70, e71] at h
        have h : MR X ρ 8 0 0 qP95 N 44 [b0, b1, b2, b3, b4, b5, b6, b7] [(1, f155 X m b1 1000030)] m o := h
        rcases MR_if h rfl rfl with ⟨c72, h⟩ | ⟨c72, h⟩
        ·
          have c72 : (f155 X m b1 1000030) = 0 := c72
          refine Or.inl ⟨c72, ?_⟩
          have h : MR X ρ 8 0 0 qP95 N 133 [b0, b1, b2, b3, b4, b5, b6, b7] [] m o := h
          have h := CR_iload h rfl
          have h : MR X ρ 8 0 0 qP95 N 135 [b0, b1, b2, b3, b4, b5, b6, b7] [(1, b4)] m o := h
          rcases MR_if h rfl rfl with ⟨c73, h⟩ | ⟨c73, h⟩
          · exact absurd (show b4 = 0 from c73) c11
          ·
            have h : MR X ρ 8 0 0 qP95 N 138 [b0, b1, b2, b3, b4, b5, b6, b7] [] m o := h
            have h := CR_iload h rfl
            have h : MR X ρ 8 0 0 qP95 N 140 [b0, b1, b2, b3, b4, b5, b6, b7] [(1, b5)] m o := h
            rcases MR_if h rfl rfl with ⟨c74, h⟩ | ⟨c74, h⟩
            ·
              have c74 : b5 = 0 := c74
              refine Or.inl ⟨c74, ?_⟩
              have h : MR X ρ 8 0 0 qP95 N 153 [b0, b1, b2, b3, b4, b5, b6, b7] [] m o := h
              have h := CR_iconst h rfl rfl
              have h : MR X ρ 8 0 0 qP95 N 154 [b0, b1, b2, b3, b4, b5, b6, b7] [(1, 1)] m o := h
              have h := CR_go h rfl rfl
              have h : MR X ρ 8 0 0 qP95 N 158 [b0, b1, b2, b3, b4, b5, b6, b7] [(1, 1)] m o := h
              exact CR_end h rfl rfl
            ·
              have c74 : ¬ (b5 = 0) := c74
              refine Or.inr ⟨c74, ?_⟩
              have h : MR X ρ 8 0 0 qP95 N 143 [b0, b1, b2, b3, b4, b5, b6, b7] [] m o := h
              have h := CR_aload_n h rfl
              have h : MR X ρ 8 0 0 qP95 N 144 [b0, b1, b2, b3, b4, b5, b6, b7] [(1, b0)] m o := h
              have h := CR_iconst h rfl rfl
              have h : MR X ρ 8 0 0 qP95 N 145 [b0, b1, b2, b3, b4, b5, b6, b7] [(1, 2), (1, b0)] m o := h
              have h := CR_iconst h rfl rfl
              have h : MR X ρ 8 0 0 qP95 N 146 [b0, b1, b2, b3, b4, b5, b6, b7] [(1, 0), (1, 2), (1, b0)] m o := h
              have h := CR_iconst h rfl rfl
              have h : MR X ρ 8 0 0 qP95 N 147 [b0, b1, b2, b3, b4, b5, b6, b7] [(1, 0), (1, 0), (1, 2), (1, b0)] m o := h
              obtain ⟨r75, m76, q77, h⟩ := MR_invV h rfl rfl
              have q77 : Run X ρ 101 [(1, b0), (1, 2), (1, 0), (1, 0)] m r75 m76 := q77
              obtain ⟨e78, e79⟩ := d101 q77
              rw [e78, e79] at h
              have h : MR X ρ 8 0 0 qP95 N 150 [b0, b1, b2, b3, b4, b5, b6, b7] [(1, f101 m b0 2 0 0)] (g101 m b0 2 0 0) o := h
              obtain ⟨y80, zy80, h⟩ : ∃ y, y = g101 m b0 2 0 0 ∧ MR X ρ 8 0 0 qP95 N 150 [b0, b1, b2, b3, b4, b5, b6, b7] [(1, f101 m b0 2 0 0)] y o := ⟨_, rfl, h⟩
              have h : MR X ρ 8 0 0 qP95 N 150 [b0, b1, b2, b3, b4, b5, b6, b7] [(1, f101 m b0 2 0 0)] y80 o := h
              refine ⟨y80, zy80, ?_⟩
              rcases MR_if h rfl rfl with ⟨c81, h⟩ | ⟨c81, h⟩
              ·
                have c81 : (f101 m b0 2 0 0) = 0 := c81
                refine Or.inl ⟨c81, ?_⟩
                have h : MR X ρ 8 0 0 qP95 N 157 [b0, b1, b2, b3, b4, b5, b6, b7] [] y80 o := h
                have h := CR_iconst h rfl rfl
                have h : MR X ρ 8 0 0 qP95 N 158 [b0, b1, b2, b3, b4, b5, b6, b7] [(1, 0)] y80 o := h
                exact CR_end h rfl rfl
              ·
                have c81 : ¬ ((f101 m b0 2 0 0) = 0) := c81
                refine Or.inr ⟨c81, ?_⟩
                have h : MR X ρ 8 0 0 qP95 N 153 [b0, b1, b2, b3, b4, b5, b6, b7] [] y80 o := h
                have h := CR_iconst h rfl rfl
                have h : MR X ρ 8 0 0 qP95 N 154 [b0, b1, b2, b3, b4, b5, b6, b7] [(1, 1)] y80 o := h
                have h := CR_go h rfl rfl
                have h : MR X ρ 8 0 0 qP95 N 158 [b0, b1, b2, b3, b4, b5, b6, b7] [(1, 1)] y80 o := h
                exact CR_end h rfl rfl
        ·
          have c72 : ¬ ((f155 X m b1 1000030) = 0) := c72
          refine Or.inr ⟨c72, ?_⟩
          have h : MR X ρ 8 0 0 qP95 N 47 [b0, b1, b2, b3, b4, b5, b6, b7] [] m o := h
          have h := CR_aload_n h rfl
          have h : MR X ρ 8 0 0 qP95 N 48 [b0, b1, b2, b3, b4, b5, b6, b7] [(1, b1)] m o := h
          have h := CR_getstatic h rfl
          have h : MR X ρ 8 0 0 qP95 N 51 [b0, b1, b2, b3, b4, b5, b6, b7] [(1, 1000029), (1, b1)] m o := h
          obtain ⟨r82, m83, q84, h⟩ := MR_invV h rfl rfl
          have q84 : Run X ρ 155 [(1, b1), (1, 1000029)] m r82 m83 := q84
          obtain ⟨e85, e86⟩ := d155 q84
          rw [e85, e86] at h
          have h : MR X ρ 8 0 0 qP95 N 54 [b0, b1, b2, b3, b4, b5, b6, b7] [(1, f155 X m b1 1000029)] m o := h
          have h := CR_istore h rfl (Nat.le_of_ble_eq_true rfl)
          have h : MR X ρ 8 0 0 qP95 N 56 [b0, b1, b2, b3, b4, b5, b6, f155 X m b1 1000029] [] m o := h
          have h := CR_iload h rfl
          have h : MR X ρ 8 0 0 qP95 N 58 [b0, b1, b2, b3, b4, b5, b6, f155 X m b1 1000029] [(1, f155 X m b1 1000029)] m o := h
          rcases MR_if h rfl rfl with ⟨c87, h⟩ | ⟨c87, h⟩
          · exact absurd c18 (show ¬ ((f155 X m b1 1000029) = 0) from c87)
          ·
            have h : MR X ρ 8 0 0 qP95 N 61 [b0, b1, b2, b3, b4, b5, b6, f155 X m b1 1000029] [] m o := h
            have h := CR_iload h rfl
            have h : MR X ρ 8 0 0 qP95 N 63 [b0, b1, b2, b3, b4, b5, b6, f155 X m b1 1000029] [(1, b5)] m o := h
            rcases MR_if h rfl rfl with ⟨c88, h⟩ | ⟨c88, h⟩
            ·
              have c88 : b5 = 0 := c88
              refine Or.inl ⟨c88, ?_⟩
              have h : MR X ρ 8 0 0 qP95 N 74 [b0, b1, b2, b3, b4, b5, b6, f155 X m b1 1000029] [] m o := h
              have h := CR_iload h rfl
              have h : MR X ρ 8 0 0 qP95 N 76 [b0, b1, b2, b3, b4, b5, b6, f155 X m b1 1000029] [(1, b5)] m o := h
              rcases MR_if h rfl rfl with ⟨c89, h⟩ | ⟨c89, h⟩
              · exact absurd c88 (show ¬ (b5 = 0) from c89)
              ·
                have h : MR X ρ 8 0 0 qP95 N 79 [b0, b1, b2, b3, b4, b5, b6, f155 X m b1 1000029] [] m o := h
                have h := CR_iload h rfl
                have h : MR X ρ 8 0 0 qP95 N 81 [b0, b1, b2, b3, b4, b5, b6, f155 X m b1 1000029] [(1, f155 X m b1 1000029)] m o := h
                rcases MR_if h rfl rfl with ⟨c90, h⟩ | ⟨c90, h⟩
                · exact absurd c18 (show ¬ ((f155 X m b1 1000029) = 0) from c90)
                ·
                  have h : MR X ρ 8 0 0 qP95 N 84 [b0, b1, b2, b3, b4, b5, b6, f155 X m b1 1000029] [] m o := h
                  have h := CR_iconst h rfl rfl
                  have h : MR X ρ 8 0 0 qP95 N 85 [b0, b1, b2, b3, b4, b5, b6, f155 X m b1 1000029] [(1, 1)] m o := h
                  have h := CR_go h rfl rfl
                  have h : MR X ρ 8 0 0 qP95 N 89 [b0, b1, b2, b3, b4, b5, b6, f155 X m b1 1000029] [(1, 1)] m o := h
                  have h := CR_istore h rfl (Nat.le_of_ble_eq_true rfl)
                  have h : MR X ρ 8 0 0 qP95 N 91 [b0, b1, b2, b3, b4, 1, b6, f155 X m b1 1000029] [] m o := h
                  have h := CR_aload_n h rfl
                  have h : MR X ρ 8 0 0 qP95 N 92 [b0, b1, b2, b3, b4, 1, b6, f155 X m b1 1000029] [(1, b1)] m o := h
                  obtain ⟨r91, m92, q93, h⟩ := MR_invV h rfl rfl
                  have q93 : Run X ρ 148 [(1, b1)] m r91 m92 := q93
                  obtain rfl := Run_v q93 rfl
                  have h : MR X ρ 8 0 0 qP95 N 95 [b0, b1, b2, b3, b4, 1, b6, f155 X m b1 1000029] [] m92 o := h
                  refine ⟨m92, q93, ?_⟩
                  have h := CR_aload_n h rfl
                  have h : MR X ρ 8 0 0 qP95 N 96 [b0, b1, b2, b3, b4, 1, b6, f155 X m b1 1000029] [(1, b0)] m92 o := h
                  have h := CR_aload_n h rfl
                  have h : MR X ρ 8 0 0 qP95 N 97 [b0, b1, b2, b3, b4, 1, b6, f155 X m b1 1000029] [(1, b1), (1, b0)] m92 o := h
                  have h := CR_aload_n h rfl
                  have h : MR X ρ 8 0 0 qP95 N 98 [b0, b1, b2, b3, b4, 1, b6, f155 X m b1 1000029] [(1, b2), (1, b1), (1, b0)] m92 o := h
                  have h := CR_iload_n h rfl
                  have h : MR X ρ 8 0 0 qP95 N 99 [b0, b1, b2, b3, b4, 1, b6, f155 X m b1 1000029] [(1, b3), (1, b2), (1, b1), (1, b0)] m92 o := h
                  obtain ⟨r94, m95, q96, h⟩ := MR_invV h rfl rfl
                  have q96 : Run X ρ 97 [(1, b0), (1, b1), (1, b2), (1, b3)] m92 r94 m95 := q96
                  obtain ⟨v97, rfl, zv97⟩ := Run_z q96 rfl
                  have h : MR X ρ 8 0 0 qP95 N 102 [b0, b1, b2, b3, b4, 1, b6, f155 X m b1 1000029] [(1, v97)] m95 o := h
                  refine ⟨v97, m95, q96, zv97, ?_⟩
                  rcases MR_if h rfl rfl with ⟨c98, h⟩ | ⟨c98, h⟩
                  ·
                    have c98 : v97 = 0 := c98
                    refine Or.inl ⟨c98, ?_⟩
                    have h : MR X ρ 8 0 0 qP95 N 124 [b0, b1, b2, b3, b4, 1, b6, f155 X m b1 1000029] [] m95 o := h
                    have h := CR_iconst h rfl rfl
                    have h : MR X ρ 8 0 0 qP95 N 125 [b0, b1, b2, b3, b4, 1, b6, f155 X m b1 1000029] [(1, 0)] m95 o := h
                    have h := CR_istore h rfl (Nat.le_of_ble_eq_true rfl)
                    have h : MR X ρ 8 0 0 qP95 N 127 [b0, b1, b2, b3, 0, 1, b6, f155 X m b1 1000029] [] m95 o := h
                    have h := CR_inc h rfl (Nat.le_of_ble_eq_true rfl)
                    have h : MR X ρ 8 0 0 qP95 N 130 [b0, b1, b2, b3, 0, 1, s32 (b6 + 1), f155 X m b1 1000029] [] m95 o := h
                    obtain ⟨N99, eN99, h⟩ := CR_goto h rfl rfl
                    have h : MR X ρ 8 0 0 qP95 N99 15 [b0, b1, b2, b3, 0, 1, s32 (b6 + 1), f155 X m b1 1000029] [] m95 o := h
                    exact ⟨N99, eN99, h⟩
                  ·
                    have c98 : ¬ (v97 = 0) := c98
                    refine Or.inr ⟨c98, ?_⟩
                    have h : MR X ρ 8 0 0 qP95 N 105 [b0, b1, b2, b3, b4, 1, b6, f155 X m b1 1000029] [] m95 o := h
                    have h := CR_iload h rfl
                    have h : MR X ρ 8 0 0 qP95 N 107 [b0, b1, b2, b3, b4, 1, b6, f155 X m b1 1000029] [(1, f155 X m b1 1000029)] m95 o := h
                    rcases MR_if h rfl rfl with ⟨c100, h⟩ | ⟨c100, h⟩
                    ·
                      have c100 : (f155 X m b1 1000029) = 0 := c100
                      refine Or.inl ⟨c100, ?_⟩
                      have h : MR X ρ 8 0 0 qP95 N 120 [b0, b1, b2, b3, b4, 1, b6, f155 X m b1 1000029] [] m95 o := h
                      have h := CR_iconst h rfl rfl
                      have h : MR X ρ 8 0 0 qP95 N 121 [b0, b1, b2, b3, b4, 1, b6, f155 X m b1 1000029] [(1, 1)] m95 o := h
                      have h := CR_go h rfl rfl
                      have h : MR X ρ 8 0 0 qP95 N 125 [b0, b1, b2, b3, b4, 1, b6, f155 X m b1 1000029] [(1, 1)] m95 o := h
                      have h := CR_istore h rfl (Nat.le_of_ble_eq_true rfl)
                      have h : MR X ρ 8 0 0 qP95 N 127 [b0, b1, b2, b3, 1, 1, b6, f155 X m b1 1000029] [] m95 o := h
                      have h := CR_inc h rfl (Nat.le_of_ble_eq_true rfl)
                      have h : MR X ρ 8 0 0 qP95 N 130 [b0, b1, b2, b3, 1, 1, s32 (b6 + 1), f155 X m b1 1000029] [] m95 o := h
                      obtain ⟨N101, eN101, h⟩ := CR_goto h rfl rfl
                      have h : MR X ρ 8 0 0 qP95 N101 15 [b0, b1, b2, b3, 1, 1, s32 (b6 + 1), f155 X m b1 1000029] [] m95 o := h
                      exact ⟨N101, eN101, h⟩
                    ·
                      have c100 : ¬ ((f155 X m b1 1000029) = 0) := c100
                      refine Or.inr ⟨c100, ?_⟩
                      have h : MR X ρ 8 0 0 qP95 N 110 [b0, b1, b2, b3, b4, 1, b6, f155 X m b1 1000029] [] m95 o := h
                      have h := CR_aload_n h rfl
                      have h : MR X ρ 8 0 0 qP95 N 111 [b0, b1, b2, b3, b4, 1, b6, f155 X m b1 1000029] [(1, b0)] m95 o := h
                      have h := CR_iconst h rfl rfl
                      have h : MR X ρ 8 0 0 qP95 N 112 [b0, b1, b2, b3, b4, 1, b6, f155 X m b1 1000029] [(1, 1), (1, b0)] m95 o := h
                      have h := CR_iconst h rfl rfl
                      have h : MR X ρ 8 0 0 qP95 N 113 [b0, b1, b2, b3, b4, 1, b6, f155 X m b1 1000029] [(1, 0), (1, 1), (1, b0)] m95 o := h
                      have h := CR_iconst h rfl rfl
                      have h : MR X ρ 8 0 0 qP95 N 114 [b0, b1, b2, b3, b4, 1, b6, f155 X m b1 1000029] [(1, 0), (1, 0), (1, 1), (1, b0)] m95 o := h
                      obtain ⟨r102, m103, q104, h⟩ := MR_invV h rfl rfl
                      have q104 : Run X ρ 101 [(1, b0), (1, 1), (1, 0), (1, 0)] m95 r102 m103 := q104
                      obtain ⟨e105, e106⟩ := d101 q104
                      rw [e105, e106] at h
                      have h : MR X ρ 8 0 0 qP95 N 117 [b0, b1, b2, b3, b4, 1, b6, f155 X m b1 1000029] [(1, f101 m95 b0 1 0 0)] (g101 m95 b0 1 0 0) o := h
                      obtain ⟨y107, zy107, h⟩ : ∃ y, y = g101 m95 b0 1 0 0 ∧ MR X ρ 8 0 0 qP95 N 117 [b0, b1, b2, b3, b4, 1, b6, f155 X m b1 1000029] [(1, f101 m95 b0 1 0 0)] y o := ⟨_, rfl, h⟩
                      have h : MR X ρ 8 0 0 qP95 N 117 [b0, b1, b2, b3, b4, 1, b6, f155 X m b1 1000029] [(1, f101 m95 b0 1 0 0)] y107 o := h
                      refine ⟨y107, zy107, ?_⟩
                      rcases MR_if h rfl rfl with ⟨c108, h⟩ | ⟨c108, h⟩
                      ·
                        have c108 : (f101 m95 b0 1 0 0) = 0 := c108
                        refine Or.inl ⟨c108, ?_⟩
                        have h : MR X ρ 8 0 0 qP95 N 124 [b0, b1, b2, b3, b4, 1, b6, f155 X m b1 1000029] [] y107 o := h
                        have h := CR_iconst h rfl rfl
                        have h : MR X ρ 8 0 0 qP95 N 125 [b0, b1, b2, b3, b4, 1, b6, f155 X m b1 1000029] [(1, 0)] y107 o := h
                        have h := CR_istore h rfl (Nat.le_of_ble_eq_true rfl)
                        have h : MR X ρ 8 0 0 qP95 N 127 [b0, b1, b2, b3, 0, 1, b6, f155 X m b1 1000029] [] y107 o := h
                        have h := CR_inc h rfl (Nat.le_of_ble_eq_true rfl)
                        have h : MR X ρ 8 0 0 qP95 N 130 [b0, b1, b2, b3, 0, 1, s32 (b6 + 1), f155 X m b1 1000029] [] y107 o := h
                        obtain ⟨N109, eN109, h⟩ := CR_goto h rfl rfl
                        have h : MR X ρ 8 0 0 qP95 N109 15 [b0, b1, b2, b3, 0, 1, s32 (b6 + 1), f155 X m b1 1000029] [] y107 o := h
                        exact ⟨N109, eN109, h⟩
                      ·
                        have c108 : ¬ ((f101 m95 b0 1 0 0) = 0) := c108
                        refine Or.inr ⟨c108, ?_⟩
                        have h : MR X ρ 8 0 0 qP95 N 120 [b0, b1, b2, b3, b4, 1, b6, f155 X m b1 1000029] [] y107 o := h
                        have h := CR_iconst h rfl rfl
                        have h : MR X ρ 8 0 0 qP95 N 121 [b0, b1, b2, b3, b4, 1, b6, f155 X m b1 1000029] [(1, 1)] y107 o := h
                        have h := CR_go h rfl rfl
                        have h : MR X ρ 8 0 0 qP95 N 125 [b0, b1, b2, b3, b4, 1, b6, f155 X m b1 1000029] [(1, 1)] y107 o := h
                        have h := CR_istore h rfl (Nat.le_of_ble_eq_true rfl)
                        have h : MR X ρ 8 0 0 qP95 N 127 [b0, b1, b2, b3, 1, 1, b6, f155 X m b1 1000029] [] y107 o := h
                        have h := CR_inc h rfl (Nat.le_of_ble_eq_true rfl)
                        have h : MR X ρ 8 0 0 qP95 N 130 [b0, b1, b2, b3, 1, 1, s32 (b6 + 1), f155 X m b1 1000029] [] y107 o := h
                        obtain ⟨N110, eN110, h⟩ := CR_goto h rfl rfl
                        have h : MR X ρ 8 0 0 qP95 N110 15 [b0, b1, b2, b3, 1, 1, s32 (b6 + 1), f155 X m b1 1000029] [] y107 o := h
                        exact ⟨N110, eN110, h⟩
            ·
              have c88 : ¬ (b5 = 0) := c88
              refine Or.inr ⟨c88, ?_⟩
              have h : MR X ρ 8 0 0 qP95 N 66 [b0, b1, b2, b3, b4, b5, b6, f155 X m b1 1000029] [] m o := h
              have h := CR_aload_n h rfl
              have h : MR X ρ 8 0 0 qP95 N 67 [b0, b1, b2, b3, b4, b5, b6, f155 X m b1 1000029] [(1, b0)] m o := h
              have h := CR_iconst h rfl rfl
              have h : MR X ρ 8 0 0 qP95 N 68 [b0, b1, b2, b3, b4, b5, b6, f155 X m b1 1000029] [(1, 2), (1, b0)] m o := h
              have h := CR_iconst h rfl rfl
              have h : MR X ρ 8 0 0 qP95 N 69 [b0, b1, b2, b3, b4, b5, b6, f155 X m b1 1000029] [(1, 0), (1, 2), (1, b0)] m o := h
              have h := CR_iconst h rfl rfl
              have h : MR X ρ 8 0 0 qP95 N 70 [b0, b1, b2, b3, b4, b5, b6, f155 X m b1 1000029] [(1, 0), (1, 0), (1, 2), (1, b0)] m o := h
              obtain ⟨r111, m112, q113, h⟩ := MR_invV h rfl rfl
              have q113 : Run X ρ 101 [(1, b0), (1, 2), (1, 0), (1, 0)] m r111 m112 := q113
              obtain ⟨e114, e115⟩ := d101 q113
              rw [e114, e115] at h
              have h : MR X ρ 8 0 0 qP95 N 73 [b0, b1, b2, b3, b4, b5, b6, f155 X m b1 1000029] [(1, f101 m b0 2 0 0)] (g101 m b0 2 0 0) o := h
              obtain ⟨y116, zy116, h⟩ : ∃ y, y = g101 m b0 2 0 0 ∧ MR X ρ 8 0 0 qP95 N 73 [b0, b1, b2, b3, b4, b5, b6, f155 X m b1 1000029] [(1, f101 m b0 2 0 0)] y o := ⟨_, rfl, h⟩
              have h : MR X ρ 8 0 0 qP95 N 73 [b0, b1, b2, b3, b4, b5, b6, f155 X m b1 1000029] [(1, f101 m b0 2 0 0)] y116 o := h
              refine ⟨y116, zy116, ?_⟩
              have h := CR_pop h rfl
              have h : MR X ρ 8 0 0 qP95 N 74 [b0, b1, b2, b3, b4, b5, b6, f155 X m b1 1000029] [] y116 o := h
              have h := CR_iload h rfl
              have h : MR X ρ 8 0 0 qP95 N 76 [b0, b1, b2, b3, b4, b5, b6, f155 X m b1 1000029] [(1, b5)] y116 o := h
              rcases MR_if h rfl rfl with ⟨c117, h⟩ | ⟨c117, h⟩
              ·
                have h : MR X ρ 8 0 0 qP95 N 84 [b0, b1, b2, b3, b4, b5, b6, f155 X m b1 1000029] [] y116 o := h
                have h := CR_iconst h rfl rfl
                have h : MR X ρ 8 0 0 qP95 N 85 [b0, b1, b2, b3, b4, b5, b6, f155 X m b1 1000029] [(1, 1)] y116 o := h
                have h := CR_go h rfl rfl
                have h : MR X ρ 8 0 0 qP95 N 89 [b0, b1, b2, b3, b4, b5, b6, f155 X m b1 1000029] [(1, 1)] y116 o := h
                have h := CR_istore h rfl (Nat.le_of_ble_eq_true rfl)
                have h : MR X ρ 8 0 0 qP95 N 91 [b0, b1, b2, b3, b4, 1, b6, f155 X m b1 1000029] [] y116 o := h
                have h := CR_aload_n h rfl
                have h : MR X ρ 8 0 0 qP95 N 92 [b0, b1, b2, b3, b4, 1, b6, f155 X m b1 1000029] [(1, b1)] y116 o := h
                obtain ⟨r118, m119, q120, h⟩ := MR_invV h rfl rfl
                have q120 : Run X ρ 148 [(1, b1)] y116 r118 m119 := q120
                obtain rfl := Run_v q120 rfl
                have h : MR X ρ 8 0 0 qP95 N 95 [b0, b1, b2, b3, b4, 1, b6, f155 X m b1 1000029] [] m119 o := h
                refine ⟨m119, q120, ?_⟩
                have h := CR_aload_n h rfl
                have h : MR X ρ 8 0 0 qP95 N 96 [b0, b1, b2, b3, b4, 1, b6, f155 X m b1 1000029] [(1, b0)] m119 o := h
                have h := CR_aload_n h rfl
                have h : MR X ρ 8 0 0 qP95 N 97 [b0, b1, b2, b3, b4, 1, b6, f155 X m b1 1000029] [(1, b1), (1, b0)] m119 o := h
                have h := CR_aload_n h rfl
                have h : MR X ρ 8 0 0 qP95 N 98 [b0, b1, b2, b3, b4, 1, b6, f155 X m b1 1000029] [(1, b2), (1, b1), (1, b0)] m119 o := h
                have h := CR_iload_n h rfl
                have h : MR X ρ 8 0 0 qP95 N 99 [b0, b1, b2, b3, b4, 1, b6, f155 X m b1 1000029] [(1, b3), (1, b2), (1, b1), (1, b0)] m119 o := h
                obtain ⟨r121, m122, q123, h⟩ := MR_invV h rfl rfl
                have q123 : Run X ρ 97 [(1, b0), (1, b1), (1, b2), (1, b3)] m119 r121 m122 := q123
                obtain ⟨v124, rfl, zv124⟩ := Run_z q123 rfl
                have h : MR X ρ 8 0 0 qP95 N 102 [b0, b1, b2, b3, b4, 1, b6, f155 X m b1 1000029] [(1, v124)] m122 o := h
                refine ⟨v124, m122, q123, zv124, ?_⟩
                rcases MR_if h rfl rfl with ⟨c125, h⟩ | ⟨c125, h⟩
                ·
                  have c125 : v124 = 0 := c125
                  refine Or.inl ⟨c125, ?_⟩
                  have h : MR X ρ 8 0 0 qP95 N 124 [b0, b1, b2, b3, b4, 1, b6, f155 X m b1 1000029] [] m122 o := h
                  have h := CR_iconst h rfl rfl
                  have h : MR X ρ 8 0 0 qP95 N 125 [b0, b1, b2, b3, b4, 1, b6, f155 X m b1 1000029] [(1, 0)] m122 o := h
                  have h := CR_istore h rfl (Nat.le_of_ble_eq_true rfl)
                  have h : MR X ρ 8 0 0 qP95 N 127 [b0, b1, b2, b3, 0, 1, b6, f155 X m b1 1000029] [] m122 o := h
                  have h := CR_inc h rfl (Nat.le_of_ble_eq_true rfl)
                  have h : MR X ρ 8 0 0 qP95 N 130 [b0, b1, b2, b3, 0, 1, s32 (b6 + 1), f155 X m b1 1000029] [] m122 o := h
                  obtain ⟨N126, eN126, h⟩ := CR_goto h rfl rfl
                  have h : MR X ρ 8 0 0 qP95 N126 15 [b0, b1, b2, b3, 0, 1, s32 (b6 + 1), f155 X m b1 1000029] [] m122 o := h
                  exact ⟨N126, eN126, h⟩
                ·
                  have c125 : ¬ (v124 = 0) := c125
                  refine Or.inr ⟨c125, ?_⟩
                  have h : MR X ρ 8 0 0 qP95 N 105 [b0, b1, b2, b3, b4, 1, b6, f155 X m b1 1000029] [] m122 o := h
                  have h := CR_iload h rfl
                  have h : MR X ρ 8 0 0 qP95 N 107 [b0, b1, b2, b3, b4, 1, b6, f155 X m b1 1000029] [(1, f155 X m b1 1000029)] m122 o := h
                  rcases MR_if h rfl rfl with ⟨c127, h⟩ | ⟨c127, h⟩
                  ·
                    have c127 : (f155 X m b1 1000029) = 0 := c127
                    refine Or.inl ⟨c127, ?_⟩
                    have h : MR X ρ 8 0 0 qP95 N 120 [b0, b1, b2, b3, b4, 1, b6, f155 X m b1 1000029] [] m122 o := h
                    have h := CR_iconst h rfl rfl
                    have h : MR X ρ 8 0 0 qP95 N 121 [b0, b1, b2, b3, b4, 1, b6, f155 X m b1 1000029] [(1, 1)] m122 o := h
                    have h := CR_go h rfl rfl
                    have h : MR X ρ 8 0 0 qP95 N 125 [b0, b1, b2, b3, b4, 1, b6, f155 X m b1 1000029] [(1, 1)] m122 o := h
                    have h := CR_istore h rfl (Nat.le_of_ble_eq_true rfl)
                    have h : MR X ρ 8 0 0 qP95 N 127 [b0, b1, b2, b3, 1, 1, b6, f155 X m b1 1000029] [] m122 o := h
                    have h := CR_inc h rfl (Nat.le_of_ble_eq_true rfl)
                    have h : MR X ρ 8 0 0 qP95 N 130 [b0, b1, b2, b3, 1, 1, s32 (b6 + 1), f155 X m b1 1000029] [] m122 o := h
                    obtain ⟨N128, eN128, h⟩ := CR_goto h rfl rfl
                    have h : MR X ρ 8 0 0 qP95 N128 15 [b0, b1, b2, b3, 1, 1, s32 (b6 + 1), f155 X m b1 1000029] [] m122 o := h
                    exact ⟨N128, eN128, h⟩
                  ·
                    have c127 : ¬ ((f155 X m b1 1000029) = 0) := c127
                    refine Or.inr ⟨c127, ?_⟩
                    have h : MR X ρ 8 0 0 qP95 N 110 [b0, b1, b2, b3, b4, 1, b6, f155 X m b1 1000029] [] m122 o := h
                    have h := CR_aload_n h rfl
                    have h : MR X ρ 8 0 0 qP95 N 111 [b0, b1, b2, b3, b4, 1, b6, f155 X m b1 1000029] [(1, b0)] m122 o := h
                    have h := CR_iconst h rfl rfl
                    have h : MR X ρ 8 0 0 qP95 N 112 [b0, b1, b2, b3, b4, 1, b6, f155 X m b1 1000029] [(1, 1), (1, b0)] m122 o := h
                    have h := CR_iconst h rfl rfl
                    have h : MR X ρ 8 0 0 qP95 N 113 [b0, b1, b2, b3, b4, 1, b6, f155 X m b1 1000029] [(1, 0), (1, 1), (1, b0)] m122 o := h
                    have h := CR_iconst h rfl rfl
                    have h : MR X ρ 8 0 0 qP95 N 114 [b0, b1, b2, b3, b4, 1, b6, f155 X m b1 1000029] [(1, 0), (1, 0), (1, 1), (1, b0)] m122 o := h
                    obtain ⟨r129, m130, q131, h⟩ := MR_invV h rfl rfl
                    have q131 : Run X ρ 101 [(1, b0), (1, 1), (1, 0), (1, 0)] m122 r129 m130 := q131
                    obtain ⟨e132, e133⟩ := d101 q131
                    rw [e132, e133] at h
                    have h : MR X ρ 8 0 0 qP95 N 117 [b0, b1, b2, b3, b4, 1, b6, f155 X m b1 1000029] [(1, f101 m122 b0 1 0 0)] (g101 m122 b0 1 0 0) o := h
                    obtain ⟨y134, zy134, h⟩ : ∃ y, y = g101 m122 b0 1 0 0 ∧ MR X ρ 8 0 0 qP95 N 117 [b0, b1, b2, b3, b4, 1, b6, f155 X m b1 1000029] [(1, f101 m122 b0 1 0 0)] y o := ⟨_, rfl, h⟩
                    have h : MR X ρ 8 0 0 qP95 N 117 [b0, b1, b2, b3, b4, 1, b6, f155 X m b1 1000029] [(1, f101 m122 b0 1 0 0)] y134 o := h
                    refine ⟨y134, zy134, ?_⟩
                    rcases MR_if h rfl rfl with ⟨c135, h⟩ | ⟨c135, h⟩
                    ·
                      have c135 : (f101 m122 b0 1 0 0) = 0 := c135
                      refine Or.inl ⟨c135, ?_⟩
                      have h : MR X ρ 8 0 0 qP95 N 124 [b0, b1, b2, b3, b4, 1, b6, f155 X m b1 1000029] [] y134 o := h
                      have h := CR_iconst h rfl rfl
                      have h : MR X ρ 8 0 0 qP95 N 125 [b0, b1, b2, b3, b4, 1, b6, f155 X m b1 1000029] [(1, 0)] y134 o := h
                      have h := CR_istore h rfl (Nat.le_of_ble_eq_true rfl)
                      have h : MR X ρ 8 0 0 qP95 N 127 [b0, b1, b2, b3, 0, 1, b6, f155 X m b1 1000029] [] y134 o := h
                      have h := CR_inc h rfl (Nat.le_of_ble_eq_true rfl)
                      have h : MR X ρ 8 0 0 qP95 N 130 [b0, b1, b2, b3, 0, 1, s32 (b6 + 1), f155 X m b1 1000029] [] y134 o := h
                      obtain ⟨N136, eN136, h⟩ := CR_goto h rfl rfl
                      have h : MR X ρ 8 0 0 qP95 N136 15 [b0, b1, b2, b3, 0, 1, s32 (b6 + 1), f155 X m b1 1000029] [] y134 o := h
                      exact ⟨N136, eN136, h⟩
                    ·
                      have c135 : ¬ ((f101 m122 b0 1 0 0) = 0) := c135
                      refine Or.inr ⟨c135, ?_⟩
                      have h : MR X ρ 8 0 0 qP95 N 120 [b0, b1, b2, b3, b4, 1, b6, f155 X m b1 1000029] [] y134 o := h
                      have h := CR_iconst h rfl rfl
                      have h : MR X ρ 8 0 0 qP95 N 121 [b0, b1, b2, b3, b4, 1, b6, f155 X m b1 1000029] [(1, 1)] y134 o := h
                      have h := CR_go h rfl rfl
                      have h : MR X ρ 8 0 0 qP95 N 125 [b0, b1, b2, b3, b4, 1, b6, f155 X m b1 1000029] [(1, 1)] y134 o := h
                      have h := CR_istore h rfl (Nat.le_of_ble_eq_true rfl)
                      have h : MR X ρ 8 0 0 qP95 N 127 [b0, b1, b2, b3, 1, 1, b6, f155 X m b1 1000029] [] y134 o := h
                      have h := CR_inc h rfl (Nat.le_of_ble_eq_true rfl)
                      have h : MR X ρ 8 0 0 qP95 N 130 [b0, b1, b2, b3, 1, 1, s32 (b6 + 1), f155 X m b1 1000029] [] y134 o := h
                      obtain ⟨N137, eN137, h⟩ := CR_goto h rfl rfl
                      have h : MR X ρ 8 0 0 qP95 N137 15 [b0, b1, b2, b3, 1, 1, s32 (b6 + 1), f155 X m b1 1000029] [] y134 o := h
                      exact ⟨N137, eN137, h⟩
              · exact absurd c88 c117
set_option maxRecDepth 16384 in
theorem s97_0 {X : KO} {ρ : Nat → Int32} {m : MM} {N : Nat} {o : Instr × List (Nat × Int) × MM} {a0 a1 a2 a3 : Int} (h : MR X ρ 5 0 0 qP97 N 0 [a0, a1, a2, a3, 0] [] m o) : ((((f152 m a1 40) = 0) ∧ ((((m a1 4) = 1) ∧ ((((f86 X m (m a1 8)) = 0) ∧ (∃ y289, y289 = g158 m a1 1 ∧ (o = (.ireturn, [(1, f158 m a1 1)], y289)))) ∨ (¬ ((f86 X m (m a1 8)) = 0) ∧ (((20 ≤ (m a0 5)) ∧ (∃ y204, y204 = g158 m a1 4 ∧ (o = (.ireturn, [(1, f158 m a1 4)], y204)))) ∨ (¬ (20 ≤ (m a0 5)) ∧ (((a3 ≤ 8) ∧ (∃ y206, y206 = mu m a0 5 (s32 ((m a0 5) + 1)) ∧ ((((f152 y206 a1 40) = 0) ∧ ((((f155 X y206 a1 1000017) = 0) ∧ (∃ m224, Run X ρ 148 [(1, a1)] y206 [] m224 ∧ (((qer X (y206 a1 8) 1000019) ∧ (∃ v230 m228, Run X ρ 99 [(1, a0), (1, a1), (1, a2), (1, y206 a1 8)] m224 [(1, v230)] m228 ∧ (v230 = 0 ∨ v230 = 1) ∧ (o = (.ireturn, [(1, v230)], m228)))) ∨ (¬ (qer X (y206 a1 8) 1000019) ∧ (((qer X (y206 a1 8) 1000020) ∧ (∃ v235 m233, Run X ρ 99 [(1, a0), (1, a1), (1, a2), (1, y206 a1 8)] m224 [(1, v235)] m233 ∧ (v235 = 0 ∨ v235 = 1) ∧ (o = (.ireturn, [(1, v235)], m233)))) ∨ (¬ (qer X (y206 a1 8) 1000020) ∧ (((qer X (y206 a1 8) 1000021) ∧ (∃ v273 m271, Run X ρ 99 [(1, a0), (1, a1), (1, a2), (1, y206 a1 8)] m224 [(1, v273)] m271 ∧ (v273 = 0 ∨ v273 = 1) ∧ (o = (.ireturn, [(1, v273)], m271)))) ∨ (¬ (qer X (y206 a1 8) 1000021) ∧ (((qer X (y206 a1 8) 1000022) ∧ (∃ v241 m239, Run X ρ 96 [(1, a0), (1, a1), (1, y206 a1 8)] m224 [(1, v241)] m239 ∧ (v241 = 0 ∨ v241 = 1) ∧ (o = (.ireturn, [(1, v241)], m239)))) ∨ (¬ (qer X (y206 a1 8) 1000022) ∧ (((qer X (y206 a1 8) 1000023) ∧ (∃ v246 m244, Run X ρ 96 [(1, a0), (1, a1), (1, y206 a1 8)] m224 [(1, v246)] m244 ∧ (v246 = 0 ∨ v246 = 1) ∧ (o = (.ireturn, [(1, v246)], m244)))) ∨ (¬ (qer X (y206 a1 8) 1000023) ∧ (((qer X (y206 a1 8) 1000024) ∧ (∃ v269 m267, Run X ρ 96 [(1, a0), (1, a1), (1, y206 a1 8)] m224 [(1, v269)] m267 ∧ (v269 = 0 ∨ v269 = 1) ∧ (o = (.ireturn, [(1, v269)], m267)))) ∨ (¬ (qer X (y206 a1 8) 1000024) ∧ (((qer X (y206 a1 8) 1000018) ∧ (∃ y265, y265 = g101 m224 a0 4 0 0 ∧ (o = (.ireturn, [(1, f101 m224 a0 4 0 0)], y265)))) ∨ (¬ (qer X (y206 a1 8) 1000018) ∧ (∃ y259, y259 = g101 m224 a0 3 (f92 X m224 (y206 a1 8)) 0 ∧ (o = (.ireturn, [(1, f101 m224 a0 3 (f92 X m224 (y206 a1 8)) 0)], y259))))))))))))))))))) ∨ (¬ ((f155 X y206 a1 1000017) = 0) ∧ (∃ v277 m275, Run X ρ 98 [(1, a0), (1, a1), (1, a2), (1, a3)] y206 [(1, v277)] m275 ∧ (v277 = 0 ∨ v277 = 1) ∧ (o = (.ireturn, [(1, v277)], m275)))))) ∨ (¬ ((f152 y206 a1 40) = 0) ∧ (∃ v216 m214, Run X ρ 98 [(1, a0), (1, a1), (1, a2), (1, a3)] y206 [(1, v216)] m214 ∧ (v216 = 0 ∨ v216 = 1) ∧ (o = (.ireturn, [(1, v216)], m214))))))) ∨ (¬ (a3 ≤ 8) ∧ (∃ y283, y283 = g158 m a1 4 ∧ (o = (.ireturn, [(1, f158 m a1 4)], y283)))))))))) ∨ (¬ ((m a1 4) = 1) ∧ ((((f86 X m (-1)) = 0) ∧ (∃ y191, y191 = g158 m a1 1 ∧ (o = (.ireturn, [(1, f158 m a1 1)], y191)))) ∨ (¬ ((f86 X m (-1)) = 0) ∧ (((20 ≤ (m a0 5)) ∧ (∃ y106, y106 = g158 m a1 4 ∧ (o = (.ireturn, [(1, f158 m a1 4)], y106)))) ∨ (¬ (20 ≤ (m a0 5)) ∧ (((a3 ≤ 8) ∧ (∃ y108, y108 = mu m a0 5 (s32 ((m a0 5) + 1)) ∧ ((((f152 y108 a1 40) = 0) ∧ ((((f155 X y108 a1 1000017) = 0) ∧ (∃ m126, Run X ρ 148 [(1, a1)] y108 [] m126 ∧ (((qer X (y108 a1 8) 1000019) ∧ (∃ v132 m130, Run X ρ 99 [(1, a0), (1, a1), (1, a2), (1, y108 a1 8)] m126 [(1, v132)] m130 ∧ (v132 = 0 ∨ v132 = 1) ∧ (o = (.ireturn, [(1, v132)], m130)))) ∨ (¬ (qer X (y108 a1 8) 1000019) ∧ (((qer X (y108 a1 8) 1000020) ∧ (∃ v137 m135, Run X ρ 99 [(1, a0), (1, a1), (1, a2), (1, y108 a1 8)] m126 [(1, v137)] m135 ∧ (v137 = 0 ∨ v137 = 1) ∧ (o = (.ireturn, [(1, v137)], m135)))) ∨ (¬ (qer X (y108 a1 8) 1000020) ∧ (((qer X (y108 a1 8) 1000021) ∧ (∃ v175 m173, Run X ρ 99 [(1, a0), (1, a1), (1, a2), (1, y108 a1 8)] m126 [(1, v175)] m173 ∧ (v175 = 0 ∨ v175 = 1) ∧ (o = (.ireturn, [(1, v175)], m173)))) ∨ (¬ (qer X (y108 a1 8) 1000021) ∧ (((qer X (y108 a1 8) 1000022) ∧ (∃ v143 m141, Run X ρ 96 [(1, a0), (1, a1), (1, y108 a1 8)] m126 [(1, v143)] m141 ∧ (v143 = 0 ∨ v143 = 1) ∧ (o = (.ireturn, [(1, v143)], m141)))) ∨ (¬ (qer X (y108 a1 8) 1000022) ∧ (((qer X (y108 a1 8) 1000023) ∧ (∃ v148 m146, Run X ρ 96 [(1, a0), (1, a1), (1, y108 a1 8)] m126 [(1, v148)] m146 ∧ (v148 = 0 ∨ v148 = 1) ∧ (o = (.ireturn, [(1, v148)], m146)))) ∨ (¬ (qer X (y108 a1 8) 1000023) ∧ (((qer X (y108 a1 8) 1000024) ∧ (∃ v171 m169, Run X ρ 96 [(1, a0), (1, a1), (1, y108 a1 8)] m126 [(1, v171)] m169 ∧ (v171 = 0 ∨ v171 = 1) ∧ (o = (.ireturn, [(1, v171)], m169)))) ∨ (¬ (qer X (y108 a1 8) 1000024) ∧ (((qer X (y108 a1 8) 1000018) ∧ (∃ y167, y167 = g101 m126 a0 4 0 0 ∧ (o = (.ireturn, [(1, f101 m126 a0 4 0 0)], y167)))) ∨ (¬ (qer X (y108 a1 8) 1000018) ∧ (∃ y161, y161 = g101 m126 a0 3 (f92 X m126 (y108 a1 8)) 0 ∧ (o = (.ireturn, [(1, f101 m126 a0 3 (f92 X m126 (y108 a1 8)) 0)], y161))))))))))))))))))) ∨ (¬ ((f155 X y108 a1 1000017) = 0) ∧ (∃ v179 m177, Run X ρ 98 [(1, a0), (1, a1), (1, a2), (1, a3)] y108 [(1, v179)] m177 ∧ (v179 = 0 ∨ v179 = 1) ∧ (o = (.ireturn, [(1, v179)], m177)))))) ∨ (¬ ((f152 y108 a1 40) = 0) ∧ (∃ v118 m116, Run X ρ 98 [(1, a0), (1, a1), (1, a2), (1, a3)] y108 [(1, v118)] m116 ∧ (v118 = 0 ∨ v118 = 1) ∧ (o = (.ireturn, [(1, v118)], m116))))))) ∨ (¬ (a3 ≤ 8) ∧ (∃ y185, y185 = g158 m a1 4 ∧ (o = (.ireturn, [(1, f158 m a1 4)], y185)))))))))))) ∨ (¬ ((f152 m a1 40) = 0) ∧ (((20 ≤ (m a0 5)) ∧ (∃ y13, y13 = g158 m a1 4 ∧ (o = (.ireturn, [(1, f158 m a1 4)], y13)))) ∨ (¬ (20 ≤ (m a0 5)) ∧ (((a3 ≤ 8) ∧ (∃ y15, y15 = mu m a0 5 (s32 ((m a0 5) + 1)) ∧ ((((f152 y15 a1 40) = 0) ∧ ((((f155 X y15 a1 1000017) = 0) ∧ (∃ m33, Run X ρ 148 [(1, a1)] y15 [] m33 ∧ (((qer X (y15 a1 8) 1000019) ∧ (∃ v39 m37, Run X ρ 99 [(1, a0), (1, a1), (1, a2), (1, y15 a1 8)] m33 [(1, v39)] m37 ∧ (v39 = 0 ∨ v39 = 1) ∧ (o = (.ireturn, [(1, v39)], m37)))) ∨ (¬ (qer X (y15 a1 8) 1000019) ∧ (((qer X (y15 a1 8) 1000020) ∧ (∃ v44 m42, Run X ρ 99 [(1, a0), (1, a1), (1, a2), (1, y15 a1 8)] m33 [(1, v44)] m42 ∧ (v44 = 0 ∨ v44 = 1) ∧ (o = (.ireturn, [(1, v44)], m42)))) ∨ (¬ (qer X (y15 a1 8) 1000020) ∧ (((qer X (y15 a1 8) 1000021) ∧ (∃ v82 m80, Run X ρ 99 [(1, a0), (1, a1), (1, a2), (1, y15 a1 8)] m33 [(1, v82)] m80 ∧ (v82 = 0 ∨ v82 = 1) ∧ (o = (.ireturn, [(1, v82)], m80)))) ∨ (¬ (qer X (y15 a1 8) 1000021) ∧ (((qer X (y15 a1 8) 1000022) ∧ (∃ v50 m48, Run X ρ 96 [(1, a0), (1, a1), (1, y15 a1 8)] m33 [(1, v50)] m48 ∧ (v50 = 0 ∨ v50 = 1) ∧ (o = (.ireturn, [(1, v50)], m48)))) ∨ (¬ (qer X (y15 a1 8) 1000022) ∧ (((qer X (y15 a1 8) 1000023) ∧ (∃ v55 m53, Run X ρ 96 [(1, a0), (1, a1), (1, y15 a1 8)] m33 [(1, v55)] m53 ∧ (v55 = 0 ∨ v55 = 1) ∧ (o = (.ireturn, [(1, v55)], m53)))) ∨ (¬ (qer X (y15 a1 8) 1000023) ∧ (((qer X (y15 a1 8) 1000024) ∧ (∃ v78 m76, Run X ρ 96 [(1, a0), (1, a1), (1, y15 a1 8)] m33 [(1, v78)] m76 ∧ (v78 = 0 ∨ v78 = 1) ∧ (o = (.ireturn, [(1, v78)], m76)))) ∨ (¬ (qer X (y15 a1 8) 1000024) ∧ (((qer X (y15 a1 8) 1000018) ∧ (∃ y74, y74 = g101 m33 a0 4 0 0 ∧ (o = (.ireturn, [(1, f101 m33 a0 4 0 0)], y74)))) ∨ (¬ (qer X (y15 a1 8) 1000018) ∧ (∃ y68, y68 = g101 m33 a0 3 (f92 X m33 (y15 a1 8)) 0 ∧ (o = (.ireturn, [(1, f101 m33 a0 3 (f92 X m33 (y15 a1 8)) 0)], y68))))))))))))))))))) ∨ (¬ ((f155 X y15 a1 1000017) = 0) ∧ (∃ v86 m84, Run X ρ 98 [(1, a0), (1, a1), (1, a2), (1, a3)] y15 [(1, v86)] m84 ∧ (v86 = 0 ∨ v86 = 1) ∧ (o = (.ireturn, [(1, v86)], m84)))))) ∨ (¬ ((f152 y15 a1 40) = 0) ∧ (∃ v25 m23, Run X ρ 98 [(1, a0), (1, a1), (1, a2), (1, a3)] y15 [(1, v25)] m23 ∧ (v25 = 0 ∨ v25 = 1) ∧ (o = (.ireturn, [(1, v25)], m23))))))) ∨ (¬ (a3 ≤ 8) ∧ (∃ y92, y92 = g158 m a1 4 ∧ (o = (.ireturn, [(1, f158 m a1 4)], y92))))))))) := by
  have h := CR_aload_n h rfl
  have h : MR X ρ 5 0 0 qP97 N 1 [a0, a1, a2, a3, 0] [(1, a1)] m o := h
  have h := CR_bipush h rfl rfl
  have h : MR X ρ 5 0 0 qP97 N 3 [a0, a1, a2, a3, 0] [(1, 40), (1, a1)] m o := h
  obtain ⟨r1, m2, q3, h⟩ := MR_invV h rfl rfl
  have q3 : Run X ρ 152 [(1, a1), (1, 40)] m r1 m2 := q3
  obtain ⟨e4, e5⟩ := d152 q3
  rw [e4, e5] at h
  have h : MR X ρ 5 0 0 qP97 N 6 [a0, a1, a2, a3, 0] [(1, f152 m a1 40)] m o := h
  rcases MR_if h rfl rfl with ⟨c6, h⟩ | ⟨c6, h⟩
  ·
    have c6 : ¬ ((f152 m a1 40) = 0) := c6
    refine Or.inr ⟨c6, ?_⟩
    have h : MR X ρ 5 0 0 qP97 N 37 [a0, a1, a2, a3, 0] [] m o := h
    have h := CR_aload_n h rfl
    have h : MR X ρ 5 0 0 qP97 N 38 [a0, a1, a2, a3, 0] [(1, a0)] m o := h
    have h := CR_getf h rfl (by decide)
    have h : MR X ρ 5 0 0 qP97 N 41 [a0, a1, a2, a3, 0] [(1, m a0 5)] m o := h
    have h := CR_bipush h rfl rfl
    have h : MR X ρ 5 0 0 qP97 N 43 [a0, a1, a2, a3, 0] [(1, 20), (1, m a0 5)] m o := h
    rcases MR_icmp h rfl rfl with ⟨c7, h⟩ | ⟨c7, h⟩
    ·
      have c7 : 20 ≤ (m a0 5) := c7
      refine Or.inl ⟨c7, ?_⟩
      have h : MR X ρ 5 0 0 qP97 N 52 [a0, a1, a2, a3, 0] [] m o := h
      have h := CR_aload_n h rfl
      have h : MR X ρ 5 0 0 qP97 N 53 [a0, a1, a2, a3, 0] [(1, a1)] m o := h
      have h := CR_iconst h rfl rfl
      have h : MR X ρ 5 0 0 qP97 N 54 [a0, a1, a2, a3, 0] [(1, 4), (1, a1)] m o := h
      obtain ⟨r8, m9, q10, h⟩ := MR_invV h rfl rfl
      have q10 : Run X ρ 158 [(1, a1), (1, 4)] m r8 m9 := q10
      obtain ⟨e11, e12⟩ := d158 q10
      rw [e11, e12] at h
      have h : MR X ρ 5 0 0 qP97 N 57 [a0, a1, a2, a3, 0] [(1, f158 m a1 4)] (g158 m a1 4) o := h
      obtain ⟨y13, zy13, h⟩ : ∃ y, y = g158 m a1 4 ∧ MR X ρ 5 0 0 qP97 N 57 [a0, a1, a2, a3, 0] [(1, f158 m a1 4)] y o := ⟨_, rfl, h⟩
      have h : MR X ρ 5 0 0 qP97 N 57 [a0, a1, a2, a3, 0] [(1, f158 m a1 4)] y13 o := h
      refine ⟨y13, zy13, ?_⟩
      exact CR_end h rfl rfl
    ·
      have c7 : ¬ (20 ≤ (m a0 5)) := c7
      refine Or.inr ⟨c7, ?_⟩
      have h : MR X ρ 5 0 0 qP97 N 46 [a0, a1, a2, a3, 0] [] m o := h
      have h := CR_iload_n h rfl
      have h : MR X ρ 5 0 0 qP97 N 47 [a0, a1, a2, a3, 0] [(1, a3)] m o := h
      have h := CR_bipush h rfl rfl
      have h : MR X ρ 5 0 0 qP97 N 49 [a0, a1, a2, a3, 0] [(1, 8), (1, a3)] m o := h
      rcases MR_icmp h rfl rfl with ⟨c14, h⟩ | ⟨c14, h⟩
      ·
        have c14 : a3 ≤ 8 := c14
        refine Or.inl ⟨c14, ?_⟩
        have h : MR X ρ 5 0 0 qP97 N 58 [a0, a1, a2, a3, 0] [] m o := h
        have h := CR_aload_n h rfl
        have h : MR X ρ 5 0 0 qP97 N 59 [a0, a1, a2, a3, 0] [(1, a0)] m o := h
        have h := CR_dup h rfl
        have h : MR X ρ 5 0 0 qP97 N 60 [a0, a1, a2, a3, 0] [(1, a0), (1, a0)] m o := h
        have h := CR_getf h rfl (by decide)
        have h : MR X ρ 5 0 0 qP97 N 63 [a0, a1, a2, a3, 0] [(1, m a0 5), (1, a0)] m o := h
        have h := CR_iconst h rfl rfl
        have h : MR X ρ 5 0 0 qP97 N 64 [a0, a1, a2, a3, 0] [(1, 1), (1, m a0 5), (1, a0)] m o := h
        have h := CR_iadd h rfl
        have h : MR X ρ 5 0 0 qP97 N 65 [a0, a1, a2, a3, 0] [(1, s32 ((m a0 5) + 1)), (1, a0)] m o := h
        have h := CR_putf h rfl
        have h : MR X ρ 5 0 0 qP97 N 68 [a0, a1, a2, a3, 0] [] (mu m a0 5 (s32 ((m a0 5) + 1))) o := h
        obtain ⟨y15, zy15, h⟩ : ∃ y, y = mu m a0 5 (s32 ((m a0 5) + 1)) ∧ MR X ρ 5 0 0 qP97 N 68 [a0, a1, a2, a3, 0] [] y o := ⟨_, rfl, h⟩
        have h : MR X ρ 5 0 0 qP97 N 68 [a0, a1, a2, a3, 0] [] y15 o := h
        refine ⟨y15, zy15, ?_⟩
        have h := CR_aload_n h rfl
        have h : MR X ρ 5 0 0 qP97 N 69 [a0, a1, a2, a3, 0] [(1, a1)] y15 o := h
        have h := CR_bipush h rfl rfl
        have h : MR X ρ 5 0 0 qP97 N 71 [a0, a1, a2, a3, 0] [(1, 40), (1, a1)] y15 o := h
        obtain ⟨r16, m17, q18, h⟩ := MR_invV h rfl rfl
        have q18 : Run X ρ 152 [(1, a1), (1, 40)] y15 r16 m17 := q18
        obtain ⟨e19, e20⟩ := d152 q18
        rw [e19, e20] at h
        have h : MR X ρ 5 0 0 qP97 N 74 [a0, a1, a2, a3, 0] [(1, f152 y15 a1 40)] y15 o := h
        rcases MR_if h rfl rfl with ⟨c21, h⟩ | ⟨c21, h⟩
        ·
          have c21 : ¬ ((f152 y15 a1 40) = 0) := c21
          refine Or.inr ⟨c21, ?_⟩
          have h : MR X ρ 5 0 0 qP97 N 87 [a0, a1, a2, a3, 0] [] y15 o := h
          have h := CR_aload_n h rfl
          have h : MR X ρ 5 0 0 qP97 N 88 [a0, a1, a2, a3, 0] [(1, a0)] y15 o := h
          have h := CR_aload_n h rfl
          have h : MR X ρ 5 0 0 qP97 N 89 [a0, a1, a2, a3, 0] [(1, a1), (1, a0)] y15 o := h
          have h := CR_aload_n h rfl
          have h : MR X ρ 5 0 0 qP97 N 90 [a0, a1, a2, a3, 0] [(1, a2), (1, a1), (1, a0)] y15 o := h
          have h := CR_iload_n h rfl
          have h : MR X ρ 5 0 0 qP97 N 91 [a0, a1, a2, a3, 0] [(1, a3), (1, a2), (1, a1), (1, a0)] y15 o := h
          obtain ⟨r22, m23, q24, h⟩ := MR_invV h rfl rfl
          have q24 : Run X ρ 98 [(1, a0), (1, a1), (1, a2), (1, a3)] y15 r22 m23 := q24
          obtain ⟨v25, rfl, zv25⟩ := Run_z q24 rfl
          have h : MR X ρ 5 0 0 qP97 N 94 [a0, a1, a2, a3, 0] [(1, v25)] m23 o := h
          refine ⟨v25, m23, q24, zv25, ?_⟩
          exact CR_end h rfl rfl
        ·
          have c21 : (f152 y15 a1 40) = 0 := Decidable.of_not_not (show ¬ ¬ ((f152 y15 a1 40) = 0) from c21)
          refine Or.inl ⟨c21, ?_⟩
          have h : MR X ρ 5 0 0 qP97 N 77 [a0, a1, a2, a3, 0] [] y15 o := h
          have h := CR_aload_n h rfl
          have h : MR X ρ 5 0 0 qP97 N 78 [a0, a1, a2, a3, 0] [(1, a1)] y15 o := h
          have h := CR_getstatic h rfl
          have h : MR X ρ 5 0 0 qP97 N 81 [a0, a1, a2, a3, 0] [(1, 1000017), (1, a1)] y15 o := h
          obtain ⟨r26, m27, q28, h⟩ := MR_invV h rfl rfl
          have q28 : Run X ρ 155 [(1, a1), (1, 1000017)] y15 r26 m27 := q28
          obtain ⟨e29, e30⟩ := d155 q28
          rw [e29, e30] at h
          have h : MR X ρ 5 0 0 qP97 N 84 [a0, a1, a2, a3, 0] [(1, f155 X y15 a1 1000017)] y15 o := h
          rcases MR_if h rfl rfl with ⟨c31, h⟩ | ⟨c31, h⟩
          ·
            have c31 : (f155 X y15 a1 1000017) = 0 := c31
            refine Or.inl ⟨c31, ?_⟩
            have h : MR X ρ 5 0 0 qP97 N 95 [a0, a1, a2, a3, 0] [] y15 o := h
            have h := CR_aload_n h rfl
            have h : MR X ρ 5 0 0 qP97 N 96 [a0, a1, a2, a3, 0] [(1, a1)] y15 o := h
            have h := CR_getf h rfl (by decide)
            have h : MR X ρ 5 0 0 qP97 N 99 [a0, a1, a2, a3, 0] [(1, y15 a1 8)] y15 o := h
            have h := CR_astore h rfl (Nat.le_of_ble_eq_true rfl)
            have h : MR X ρ 5 0 0 qP97 N 101 [a0, a1, a2, a3, y15 a1 8] [] y15 o := h
            have h := CR_aload_n h rfl
            have h : MR X ρ 5 0 0 qP97 N 102 [a0, a1, a2, a3, y15 a1 8] [(1, a1)] y15 o := h
            obtain ⟨r32, m33, q34, h⟩ := MR_invV h rfl rfl
            have q34 : Run X ρ 148 [(1, a1)] y15 r32 m33 := q34
            obtain rfl := Run_v q34 rfl
            have h : MR X ρ 5 0 0 qP97 N 105 [a0, a1, a2, a3, y15 a1 8] [] m33 o := h
            refine ⟨m33, q34, ?_⟩
            have h := CR_aload h rfl
            have h : MR X ρ 5 0 0 qP97 N 107 [a0, a1, a2, a3, y15 a1 8] [(1, y15 a1 8)] m33 o := h
            have h := CR_getstatic h rfl
            have h : MR X ρ 5 0 0 qP97 N 110 [a0, a1, a2, a3, y15 a1 8] [(1, 1000019), (1, y15 a1 8)] m33 o := h
            rcases CR_acmp h rfl rfl with ⟨c35, h⟩ | ⟨c35, h⟩
            ·
              have c35 : qer X (y15 a1 8) 1000019 := c35
              refine Or.inl ⟨c35, ?_⟩
              have h : MR X ρ 5 0 0 qP97 N 129 [a0, a1, a2, a3, y15 a1 8] [] m33 o := h
              have h := CR_aload_n h rfl
              have h : MR X ρ 5 0 0 qP97 N 130 [a0, a1, a2, a3, y15 a1 8] [(1, a0)] m33 o := h
              have h := CR_aload_n h rfl
              have h : MR X ρ 5 0 0 qP97 N 131 [a0, a1, a2, a3, y15 a1 8] [(1, a1), (1, a0)] m33 o := h
              have h := CR_aload_n h rfl
              have h : MR X ρ 5 0 0 qP97 N 132 [a0, a1, a2, a3, y15 a1 8] [(1, a2), (1, a1), (1, a0)] m33 o := h
              have h := CR_aload h rfl
              have h : MR X ρ 5 0 0 qP97 N 134 [a0, a1, a2, a3, y15 a1 8] [(1, y15 a1 8), (1, a2), (1, a1), (1, a0)] m33 o := h
              obtain ⟨r36, m37, q38, h⟩ := MR_invV h rfl rfl
              have q38 : Run X ρ 99 [(1, a0), (1, a1), (1, a2), (1, y15 a1 8)] m33 r36 m37 := q38
              obtain ⟨v39, rfl, zv39⟩ := Run_z q38 rfl
              have h : MR X ρ 5 0 0 qP97 N 137 [a0, a1, a2, a3, y15 a1 8] [(1, v39)] m37 o := h
              refine ⟨v39, m37, q38, zv39, ?_⟩
              exact CR_end h rfl rfl
            ·
              have c35 : ¬ (qer X (y15 a1 8) 1000019) := c35
              refine Or.inr ⟨c35, ?_⟩
              have h : MR X ρ 5 0 0 qP97 N 113 [a0, a1, a2, a3, y15 a1 8] [] m33 o := h
              have h := CR_aload h rfl
              have h : MR X ρ 5 0 0 qP97 N 115 [a0, a1, a2, a3, y15 a1 8] [(1, y15 a1 8)] m33 o := h
              have h := CR_getstatic h rfl
              have h : MR X ρ 5 0 0 qP97 N 118 [a0, a1, a2, a3, y15 a1 8] [(1, 1000020), (1, y15 a1 8)] m33 o := h
              rcases CR_acmp h rfl rfl with ⟨c40, h⟩ | ⟨c40, h⟩
              ·
                have c40 : qer X (y15 a1 8) 1000020 := c40
                refine Or.inl ⟨c40, ?_⟩
                have h : MR X ρ 5 0 0 qP97 N 129 [a0, a1, a2, a3, y15 a1 8] [] m33 o := h
                have h := CR_aload_n h rfl
                have h : MR X ρ 5 0 0 qP97 N 130 [a0, a1, a2, a3, y15 a1 8] [(1, a0)] m33 o := h
                have h := CR_aload_n h rfl
                have h : MR X ρ 5 0 0 qP97 N 131 [a0, a1, a2, a3, y15 a1 8] [(1, a1), (1, a0)] m33 o := h
                have h := CR_aload_n h rfl
                have h : MR X ρ 5 0 0 qP97 N 132 [a0, a1, a2, a3, y15 a1 8] [(1, a2), (1, a1), (1, a0)] m33 o := h
                have h := CR_aload h rfl
                have h : MR X ρ 5 0 0 qP97 N 134 [a0, a1, a2, a3, y15 a1 8] [(1, y15 a1 8), (1, a2), (1, a1), (1, a0)] m33 o := h
                obtain ⟨r41, m42, q43, h⟩ := MR_invV h rfl rfl
                have q43 : Run X ρ 99 [(1, a0), (1, a1), (1, a2), (1, y15 a1 8)] m33 r41 m42 := q43
                obtain ⟨v44, rfl, zv44⟩ := Run_z q43 rfl
                have h : MR X ρ 5 0 0 qP97 N 137 [a0, a1, a2, a3, y15 a1 8] [(1, v44)] m42 o := h
                refine ⟨v44, m42, q43, zv44, ?_⟩
                exact CR_end h rfl rfl
              ·
                have c40 : ¬ (qer X (y15 a1 8) 1000020) := c40
                refine Or.inr ⟨c40, ?_⟩
                have h : MR X ρ 5 0 0 qP97 N 121 [a0, a1, a2, a3, y15 a1 8] [] m33 o := h
                have h := CR_aload h rfl
                have h : MR X ρ 5 0 0 qP97 N 123 [a0, a1, a2, a3, y15 a1 8] [(1, y15 a1 8)] m33 o := h
                have h := CR_getstatic h rfl
                have h : MR X ρ 5 0 0 qP97 N 126 [a0, a1, a2, a3, y15 a1 8] [(1, 1000021), (1, y15 a1 8)] m33 o := h
                rcases CR_acmp h rfl rfl with ⟨c45, h⟩ | ⟨c45, h⟩
                ·
                  have c45 : ¬ (qer X (y15 a1 8) 1000021) := c45
                  refine Or.inr ⟨c45, ?_⟩
                  have h : MR X ρ 5 0 0 qP97 N 138 [a0, a1, a2, a3, y15 a1 8] [] m33 o := h
                  have h := CR_aload h rfl
                  have h : MR X ρ 5 0 0 qP97 N 140 [a0, a1, a2, a3, y15 a1 8] [(1, y15 a1 8)] m33 o := h
                  have h := CR_getstatic h rfl
                  have h : MR X ρ 5 0 0 qP97 N 143 [a0, a1, a2, a3, y15 a1 8] [(1, 1000022), (1, y15 a1 8)] m33 o := h
                  rcases CR_acmp h rfl rfl with ⟨c46, h⟩ | ⟨c46, h⟩
                  ·
                    have c46 : qer X (y15 a1 8) 1000022 := c46
                    refine Or.inl ⟨c46, ?_⟩
                    have h : MR X ρ 5 0 0 qP97 N 162 [a0, a1, a2, a3, y15 a1 8] [] m33 o := h
                    have h := CR_aload_n h rfl
                    have h : MR X ρ 5 0 0 qP97 N 163 [a0, a1, a2, a3, y15 a1 8] [(1, a0)] m33 o := h
                    have h := CR_aload_n h rfl
                    have h : MR X ρ 5 0 0 qP97 N 164 [a0, a1, a2, a3, y15 a1 8] [(1, a1), (1, a0)] m33 o := h
                    have h := CR_aload h rfl
                    have h : MR X ρ 5 0 0 qP97 N 166 [a0, a1, a2, a3, y15 a1 8] [(1, y15 a1 8), (1, a1), (1, a0)] m33 o := h
                    obtain ⟨r47, m48, q49, h⟩ := MR_invV h rfl rfl
                    have q49 : Run X ρ 96 [(1, a0), (1, a1), (1, y15 a1 8)] m33 r47 m48 := q49
                    obtain ⟨v50, rfl, zv50⟩ := Run_z q49 rfl
                    have h : MR X ρ 5 0 0 qP97 N 169 [a0, a1, a2, a3, y15 a1 8] [(1, v50)] m48 o := h
                    refine ⟨v50, m48, q49, zv50, ?_⟩
                    exact CR_end h rfl rfl
                  ·
                    have c46 : ¬ (qer X (y15 a1 8) 1000022) := c46
                    refine Or.inr ⟨c46, ?_⟩
                    have h : MR X ρ 5 0 0 qP97 N 146 [a0, a1, a2, a3, y15 a1 8] [] m33 o := h
                    have h := CR_aload h rfl
                    have h : MR X ρ 5 0 0 qP97 N 148 [a0, a1, a2, a3, y15 a1 8] [(1, y15 a1 8)] m33 o := h
                    have h := CR_getstatic h rfl
                    have h : MR X ρ 5 0 0 qP97 N 151 [a0, a1, a2, a3, y15 a1 8] [(1, 1000023), (1, y15 a1 8)] m33 o := h
                    rcases CR_acmp h rfl rfl with ⟨c51, h⟩ | ⟨c51, h⟩
                    ·
                      have c51 : qer X (y15 a1 8) 1000023 := c51
                      refine Or.inl ⟨c51, ?_⟩
                      have h : MR X ρ 5 0 0 qP97 N 162 [a0, a1, a2, a3, y15 a1 8] [] m33 o := h
                      have h := CR_aload_n h rfl
                      have h : MR X ρ 5 0 0 qP97 N 163 [a0, a1, a2, a3, y15 a1 8] [(1, a0)] m33 o := h
                      have h := CR_aload_n h rfl
                      have h : MR X ρ 5 0 0 qP97 N 164 [a0, a1, a2, a3, y15 a1 8] [(1, a1), (1, a0)] m33 o := h
                      have h := CR_aload h rfl
                      have h : MR X ρ 5 0 0 qP97 N 166 [a0, a1, a2, a3, y15 a1 8] [(1, y15 a1 8), (1, a1), (1, a0)] m33 o := h
                      obtain ⟨r52, m53, q54, h⟩ := MR_invV h rfl rfl
                      have q54 : Run X ρ 96 [(1, a0), (1, a1), (1, y15 a1 8)] m33 r52 m53 := q54
                      obtain ⟨v55, rfl, zv55⟩ := Run_z q54 rfl
                      have h : MR X ρ 5 0 0 qP97 N 169 [a0, a1, a2, a3, y15 a1 8] [(1, v55)] m53 o := h
                      refine ⟨v55, m53, q54, zv55, ?_⟩
                      exact CR_end h rfl rfl
                    ·
                      have c51 : ¬ (qer X (y15 a1 8) 1000023) := c51
                      refine Or.inr ⟨c51, ?_⟩
                      have h : MR X ρ 5 0 0 qP97 N 154 [a0, a1, a2, a3, y15 a1 8] [] m33 o := h
                      have h := CR_aload h rfl
                      have h : MR X ρ 5 0 0 qP97 N 156 [a0, a1, a2, a3, y15 a1 8] [(1, y15 a1 8)] m33 o := h
                      have h := CR_getstatic h rfl
                      have h : MR X ρ 5 0 0 qP97 N 159 [a0, a1, a2, a3, y15 a1 8] [(1, 1000024), (1, y15 a1 8)] m33 o := h
                      rcases CR_acmp h rfl rfl with ⟨c56, h⟩ | ⟨c56, h⟩
                      ·
                        have c56 : ¬ (qer X (y15 a1 8) 1000024) := c56
                        refine Or.inr ⟨c56, ?_⟩
                        have h : MR X ρ 5 0 0 qP97 N 170 [a0, a1, a2, a3, y15 a1 8] [] m33 o := h
                        have h := CR_aload h rfl
                        have h : MR X ρ 5 0 0 qP97 N 172 [a0, a1, a2, a3, y15 a1 8] [(1, y15 a1 8)] m33 o := h
                        have h := CR_getstatic h rfl
                        have h : MR X ρ 5 0 0 qP97 N 175 [a0, a1, a2, a3, y15 a1 8] [(1, 1000018), (1, y15 a1 8)] m33 o := h
                        rcases CR_acmp h rfl rfl with ⟨c57, h⟩ | ⟨c57, h⟩
                        ·
                          have c57 : ¬ (qer X (y15 a1 8) 1000018) := c57
                          refine Or.inr ⟨c57, ?_⟩
                          have h : MR X ρ 5 0 0 qP97 N 188 [a0, a1, a2, a3, y15 a1 8] [] m33 o := h
                          have h := CR_aload_n h rfl
                          have h : MR X ρ 5 0 0 qP97 N 189 [a0, a1, a2, a3, y15 a1 8] [(1, a0)] m33 o := h
                          have h := CR_iconst h rfl rfl
                          have h : MR X ρ 5 0 0 qP97 N 190 [a0, a1, a2, a3, y15 a1 8] [(1, 3), (1, a0)] m33 o := h
                          have h := CR_aload h rfl
                          have h : MR X ρ 5 0 0 qP97 N 192 [a0, a1, a2, a3, y15 a1 8] [(1, y15 a1 8), (1, 3), (1, a0)] m33 o := h
                          obtain ⟨r58, m59, q60, h⟩ := MR_invS h rfl rfl
                          have q60 : Run X ρ 92 [(1, y15 a1 8)] m33 r58 m59 := q60
                          obtain ⟨e61, e62⟩ := d92 q60
                          rw [e61, e62] at h
                          have h : MR X ρ 5 0 0 qP97 N 195 [a0, a1, a2, a3, y15 a1 8] [(1, f92 X m33 (y15 a1 8)), (1, 3), (1, a0)] m33 o := h
                          have h := CR_iconst h rfl rfl
                          have h : MR X ρ 5 0 0 qP97 N 196 [a0, a1, a2, a3, y15 a1 8] [(1, 0), (1, f92 X m33 (y15 a1 8)), (1, 3), (1, a0)] m33 o := h
                          obtain ⟨r63, m64, q65, h⟩ := MR_invV h rfl rfl
                          have q65 : Run X ρ 101 [(1, a0), (1, 3), (1, f92 X m33 (y15 a1 8)), (1, 0)] m33 r63 m64 := q65
                          obtain ⟨e66, e67⟩ := d101 q65
                          rw [e66, e67] at h
                          have h : MR X ρ 5 0 0 qP97 N 199 [a0, a1, a2, a3, y15 a1 8] [(1, f101 m33 a0 3 (f92 X m33 (y15 a1 8)) 0)] (g101 m33 a0 3 (f92 X m33 (y15 a1 8)) 0) o := h
                          obtain ⟨y68, zy68, h⟩ : ∃ y, y = g101 m33 a0 3 (f92 X m33 (y15 a1 8)) 0 ∧ MR X ρ 5 0 0 qP97 N 199 [a0, a1, a2, a3, y15 a1 8] [(1, f101 m33 a0 3 (f92 X m33 (y15 a1 8)) 0)] y o := ⟨_, rfl, h⟩
                          have h : MR X ρ 5 0 0 qP97 N 199 [a0, a1, a2, a3, y15 a1 8] [(1, f101 m33 a0 3 (f92 X m33 (y15 a1 8)) 0)] y68 o := h
                          refine ⟨y68, zy68, ?_⟩
                          exact CR_end h rfl rfl
                        ·
                          have c57 : qer X (y15 a1 8) 1000018 := Decidable.of_not_not (show ¬ ¬ (qer X (y15 a1 8) 1000018) from c57)
                          refine Or.inl ⟨c57, ?_⟩
                          have h : MR X ρ 5 0 0 qP97 N 178 [a0, a1, a2, a3, y15 a1 8] [] m33 o := h
                          have h := CR_aload_n h rfl
                          have h : MR X ρ 5 0 0 qP97 N 179 [a0, a1, a2, a3, y15 a1 8] [(1, a0)] m33 o := h
                          have h := CR_iconst h rfl rfl
                          have h : MR X ρ 5 0 0 qP97 N 180 [a0, a1, a2, a3, y15 a1 8] [(1, 4), (1, a0)] m33 o := h
                          have h := CR_iconst h rfl rfl
                          have h : MR X ρ 5 0 0 qP97 N 181 [a0, a1, a2, a3, y15 a1 8] [(1, 0), (1, 4), (1, a0)] m33 o := h
                          have h := CR_iconst h rfl rfl
                          have h : MR X ρ 5 0 0 qP97 N 182 [a0, a1, a2, a3, y15 a1 8] [(1, 0), (1, 0), (1, 4), (1, a0)] m33 o := h
                          obtain ⟨r69, m70, q71, h⟩ := MR_invV h rfl rfl
                          have q71 : Run X ρ 101 [(1, a0), (1, 4), (1, 0), (1, 0)] m33 r69 m70 := q71
                          obtain ⟨e72, e73⟩ := d101 q71
                          rw [e72, e73] at h
                          have h : MR X ρ 5 0 0 qP97 N 185 [a0, a1, a2, a3, y15 a1 8] [(1, f101 m33 a0 4 0 0)] (g101 m33 a0 4 0 0) o := h
                          obtain ⟨y74, zy74, h⟩ : ∃ y, y = g101 m33 a0 4 0 0 ∧ MR X ρ 5 0 0 qP97 N 185 [a0, a1, a2, a3, y15 a1 8] [(1, f101 m33 a0 4 0 0)] y o := ⟨_, rfl, h⟩
                          have h : MR X ρ 5 0 0 qP97 N 185 [a0, a1, a2, a3, y15 a1 8] [(1, f101 m33 a0 4 0 0)] y74 o := h
                          refine ⟨y74, zy74, ?_⟩
                          have h := CR_go h rfl rfl
                          have h : MR X ρ 5 0 0 qP97 N 199 [a0, a1, a2, a3, y15 a1 8] [(1, f101 m33 a0 4 0 0)] y74 o := h
                          exact CR_end h rfl rfl
                      ·
                        have c56 : qer X (y15 a1 8) 1000024 := Decidable.of_not_not (show ¬ ¬ (qer X (y15 a1 8) 1000024) from c56)
                        refine Or.inl ⟨c56, ?_⟩
                        have h : MR X ρ 5 0 0 qP97 N 162 [a0, a1, a2, a3, y15 a1 8] [] m33 o := h
                        have h := CR_aload_n h rfl
                        have h : MR X ρ 5 0 0 qP97 N 163 [a0, a1, a2, a3, y15 a1 8] [(1, a0)] m33 o := h
                        have h := CR_aload_n h rfl
                        have h : MR X ρ 5 0 0 qP97 N 164 [a0, a1, a2, a3, y15 a1 8] [(1, a1), (1, a0)] m33 o := h
                        have h := CR_aload h rfl
                        have h : MR X ρ 5 0 0 qP97 N 166 [a0, a1, a2, a3, y15 a1 8] [(1, y15 a1 8), (1, a1), (1, a0)] m33 o := h
                        obtain ⟨r75, m76, q77, h⟩ := MR_invV h rfl rfl
                        have q77 : Run X ρ 96 [(1, a0), (1, a1), (1, y15 a1 8)] m33 r75 m76 := q77
                        obtain ⟨v78, rfl, zv78⟩ := Run_z q77 rfl
                        have h : MR X ρ 5 0 0 qP97 N 169 [a0, a1, a2, a3, y15 a1 8] [(1, v78)] m76 o := h
                        refine ⟨v78, m76, q77, zv78, ?_⟩
                        exact CR_end h rfl rfl
                ·
                  have c45 : qer X (y15 a1 8) 1000021 := Decidable.of_not_not (show ¬ ¬ (qer X (y15 a1 8) 1000021) from c45)
                  refine Or.inl ⟨c45, ?_⟩
                  have h : MR X ρ 5 0 0 qP97 N 129 [a0, a1, a2, a3, y15 a1 8] [] m33 o := h
                  have h := CR_aload_n h rfl
                  have h : MR X ρ 5 0 0 qP97 N 130 [a0, a1, a2, a3, y15 a1 8] [(1, a0)] m33 o := h
                  have h := CR_aload_n h rfl
                  have h : MR X ρ 5 0 0 qP97 N 131 [a0, a1, a2, a3, y15 a1 8] [(1, a1), (1, a0)] m33 o := h
                  have h := CR_aload_n h rfl
                  have h : MR X ρ 5 0 0 qP97 N 132 [a0, a1, a2, a3, y15 a1 8] [(1, a2), (1, a1), (1, a0)] m33 o := h
                  have h := CR_aload h rfl
                  have h : MR X ρ 5 0 0 qP97 N 134 [a0, a1, a2, a3, y15 a1 8] [(1, y15 a1 8), (1, a2), (1, a1), (1, a0)] m33 o := h
                  obtain ⟨r79, m80, q81, h⟩ := MR_invV h rfl rfl
                  have q81 : Run X ρ 99 [(1, a0), (1, a1), (1, a2), (1, y15 a1 8)] m33 r79 m80 := q81
                  obtain ⟨v82, rfl, zv82⟩ := Run_z q81 rfl
                  have h : MR X ρ 5 0 0 qP97 N 137 [a0, a1, a2, a3, y15 a1 8] [(1, v82)] m80 o := h
                  refine ⟨v82, m80, q81, zv82, ?_⟩
                  exact CR_end h rfl rfl
          ·
            have c31 : ¬ ((f155 X y15 a1 1000017) = 0) := c31
            refine Or.inr ⟨c31, ?_⟩
            have h : MR X ρ 5 0 0 qP97 N 87 [a0, a1, a2, a3, 0] [] y15 o := h
            have h := CR_aload_n h rfl
            have h : MR X ρ 5 0 0 qP97 N 88 [a0, a1, a2, a3, 0] [(1, a0)] y15 o := h
            have h := CR_aload_n h rfl
            have h : MR X ρ 5 0 0 qP97 N 89 [a0, a1, a2, a3, 0] [(1, a1), (1, a0)] y15 o := h
            have h := CR_aload_n h rfl
            have h : MR X ρ 5 0 0 qP97 N 90 [a0, a1, a2, a3, 0] [(1, a2), (1, a1), (1, a0)] y15 o := h
            have h := CR_iload_n h rfl
            have h : MR X ρ 5 0 0 qP97 N 91 [a0, a1, a2, a3, 0] [(1, a3), (1, a2), (1, a1), (1, a0)] y15 o := h
            obtain ⟨r83, m84, q85, h⟩ := MR_invV h rfl rfl
            have q85 : Run X ρ 98 [(1, a0), (1, a1), (1, a2), (1, a3)] y15 r83 m84 := q85
            obtain ⟨v86, rfl, zv86⟩ := Run_z q85 rfl
            have h : MR X ρ 5 0 0 qP97 N 94 [a0, a1, a2, a3, 0] [(1, v86)] m84 o := h
            refine ⟨v86, m84, q85, zv86, ?_⟩
            exact CR_end h rfl rfl
      ·
        have c14 : ¬ (a3 ≤ 8) := c14
        refine Or.inr ⟨c14, ?_⟩
        have h : MR X ρ 5 0 0 qP97 N 52 [a0, a1, a2, a3, 0] [] m o := h
        have h := CR_aload_n h rfl
        have h : MR X ρ 5 0 0 qP97 N 53 [a0, a1, a2, a3, 0] [(1, a1)] m o := h
        have h := CR_iconst h rfl rfl
        have h : MR X ρ 5 0 0 qP97 N 54 [a0, a1, a2, a3, 0] [(1, 4), (1, a1)] m o := h
        obtain ⟨r87, m88, q89, h⟩ := MR_invV h rfl rfl
        have q89 : Run X ρ 158 [(1, a1), (1, 4)] m r87 m88 := q89
        obtain ⟨e90, e91⟩ := d158 q89
        rw [e90, e91] at h
        have h : MR X ρ 5 0 0 qP97 N 57 [a0, a1, a2, a3, 0] [(1, f158 m a1 4)] (g158 m a1 4) o := h
        obtain ⟨y92, zy92, h⟩ : ∃ y, y = g158 m a1 4 ∧ MR X ρ 5 0 0 qP97 N 57 [a0, a1, a2, a3, 0] [(1, f158 m a1 4)] y o := ⟨_, rfl, h⟩
        have h : MR X ρ 5 0 0 qP97 N 57 [a0, a1, a2, a3, 0] [(1, f158 m a1 4)] y92 o := h
        refine ⟨y92, zy92, ?_⟩
        exact CR_end h rfl rfl
  ·
    have c6 : (f152 m a1 40) = 0 := Decidable.of_not_not (show ¬ ¬ ((f152 m a1 40) = 0) from c6)
    refine Or.inl ⟨c6, ?_⟩
    have h : MR X ρ 5 0 0 qP97 N 9 [a0, a1, a2, a3, 0] [] m o := h
    have h := CR_aload_n h rfl
    have h : MR X ρ 5 0 0 qP97 N 10 [a0, a1, a2, a3, 0] [(1, a1)] m o := h
    have h := CR_getf h rfl (by decide)
    have h : MR X ρ 5 0 0 qP97 N 13 [a0, a1, a2, a3, 0] [(1, m a1 4)] m o := h
    have h := CR_iconst h rfl rfl
    have h : MR X ρ 5 0 0 qP97 N 14 [a0, a1, a2, a3, 0] [(1, 1), (1, m a1 4)] m o := h
    rcases MR_icmp h rfl rfl with ⟨c93, h⟩ | ⟨c93, h⟩
    ·
      have c93 : ¬ ((m a1 4) = 1) := c93
      refine Or.inr ⟨c93, ?_⟩
      have h : MR X ρ 5 0 0 qP97 N 24 [a0, a1, a2, a3, 0] [] m o := h
      have h := CR_anull h rfl
      have h : MR X ρ 5 0 0 qP97 N 25 [a0, a1, a2, a3, 0] [(1, -1)] m o := h
      obtain ⟨r94, m95, q96, h⟩ := MR_invS h rfl rfl
      have q96 : Run X ρ 86 [(1, -1)] m r94 m95 := q96
      obtain ⟨e97, e98⟩ := d86 q96
      rw [e97, e98] at h
      have h : MR X ρ 5 0 0 qP97 N 28 [a0, a1, a2, a3, 0] [(1, f86 X m (-1))] m o := h
      rcases MR_if h rfl rfl with ⟨c99, h⟩ | ⟨c99, h⟩
      ·
        have c99 : ¬ ((f86 X m (-1)) = 0) := c99
        refine Or.inr ⟨c99, ?_⟩
        have h : MR X ρ 5 0 0 qP97 N 37 [a0, a1, a2, a3, 0] [] m o := h
        have h := CR_aload_n h rfl
        have h : MR X ρ 5 0 0 qP97 N 38 [a0, a1, a2, a3, 0] [(1, a0)] m o := h
        have h := CR_getf h rfl (by decide)
        have h : MR X ρ 5 0 0 qP97 N 41 [a0, a1, a2, a3, 0] [(1, m a0 5)] m o := h
        have h := CR_bipush h rfl rfl
        have h : MR X ρ 5 0 0 qP97 N 43 [a0, a1, a2, a3, 0] [(1, 20), (1, m a0 5)] m o := h
        rcases MR_icmp h rfl rfl with ⟨c100, h⟩ | ⟨c100, h⟩
        ·
          have c100 : 20 ≤ (m a0 5) := c100
          refine Or.inl ⟨c100, ?_⟩
          have h : MR X ρ 5 0 0 qP97 N 52 [a0, a1, a2, a3, 0] [] m o := h
          have h := CR_aload_n h rfl
          have h : MR X ρ 5 0 0 qP97 N 53 [a0, a1, a2, a3, 0] [(1, a1)] m o := h
          have h := CR_iconst h rfl rfl
          have h : MR X ρ 5 0 0 qP97 N 54 [a0, a1, a2, a3, 0] [(1, 4), (1, a1)] m o := h
          obtain ⟨r101, m102, q103, h⟩ := MR_invV h rfl rfl
          have q103 : Run X ρ 158 [(1, a1), (1, 4)] m r101 m102 := q103
          obtain ⟨e104, e105⟩ := d158 q103
          rw [e104, e105] at h
          have h : MR X ρ 5 0 0 qP97 N 57 [a0, a1, a2, a3, 0] [(1, f158 m a1 4)] (g158 m a1 4) o := h
          obtain ⟨y106, zy106, h⟩ : ∃ y, y = g158 m a1 4 ∧ MR X ρ 5 0 0 qP97 N 57 [a0, a1, a2, a3, 0] [(1, f158 m a1 4)] y o := ⟨_, rfl, h⟩
          have h : MR X ρ 5 0 0 qP97 N 57 [a0, a1, a2, a3, 0] [(1, f158 m a1 4)] y106 o := h
          refine ⟨y106, zy106, ?_⟩
          exact CR_end h rfl rfl
        ·
          have c100 : ¬ (20 ≤ (m a0 5)) := c100
          refine Or.inr ⟨c100, ?_⟩
          have h : MR X ρ 5 0 0 qP97 N 46 [a0, a1, a2, a3, 0] [] m o := h
          have h := CR_iload_n h rfl
          have h : MR X ρ 5 0 0 qP97 N 47 [a0, a1, a2, a3, 0] [(1, a3)] m o := h
          have h := CR_bipush h rfl rfl
          have h : MR X ρ 5 0 0 qP97 N 49 [a0, a1, a2, a3, 0] [(1, 8), (1, a3)] m o := h
          rcases MR_icmp h rfl rfl with ⟨c107, h⟩ | ⟨c107, h⟩
          ·
            have c107 : a3 ≤ 8 := c107
            refine Or.inl ⟨c107, ?_⟩
            have h : MR X ρ 5 0 0 qP97 N 58 [a0, a1, a2, a3, 0] [] m o := h
            have h := CR_aload_n h rfl
            have h : MR X ρ 5 0 0 qP97 N 59 [a0, a1, a2, a3, 0] [(1, a0)] m o := h
            have h := CR_dup h rfl
            have h : MR X ρ 5 0 0 qP97 N 60 [a0, a1, a2, a3, 0] [(1, a0), (1, a0)] m o := h
            have h := CR_getf h rfl (by decide)
            have h : MR X ρ 5 0 0 qP97 N 63 [a0, a1, a2, a3, 0] [(1, m a0 5), (1, a0)] m o := h
            have h := CR_iconst h rfl rfl
            have h : MR X ρ 5 0 0 qP97 N 64 [a0, a1, a2, a3, 0] [(1, 1), (1, m a0 5), (1, a0)] m o := h
            have h := CR_iadd h rfl
            have h : MR X ρ 5 0 0 qP97 N 65 [a0, a1, a2, a3, 0] [(1, s32 ((m a0 5) + 1)), (1, a0)] m o := h
            have h := CR_putf h rfl
            have h : MR X ρ 5 0 0 qP97 N 68 [a0, a1, a2, a3, 0] [] (mu m a0 5 (s32 ((m a0 5) + 1))) o := h
            obtain ⟨y108, zy108, h⟩ : ∃ y, y = mu m a0 5 (s32 ((m a0 5) + 1)) ∧ MR X ρ 5 0 0 qP97 N 68 [a0, a1, a2, a3, 0] [] y o := ⟨_, rfl, h⟩
            have h : MR X ρ 5 0 0 qP97 N 68 [a0, a1, a2, a3, 0] [] y108 o := h
            refine ⟨y108, zy108, ?_⟩
            have h := CR_aload_n h rfl
            have h : MR X ρ 5 0 0 qP97 N 69 [a0, a1, a2, a3, 0] [(1, a1)] y108 o := h
            have h := CR_bipush h rfl rfl
            have h : MR X ρ 5 0 0 qP97 N 71 [a0, a1, a2, a3, 0] [(1, 40), (1, a1)] y108 o := h
            obtain ⟨r109, m110, q111, h⟩ := MR_invV h rfl rfl
            have q111 : Run X ρ 152 [(1, a1), (1, 40)] y108 r109 m110 := q111
            obtain ⟨e112, e113⟩ := d152 q111
            rw [e112, e113] at h
            have h : MR X ρ 5 0 0 qP97 N 74 [a0, a1, a2, a3, 0] [(1, f152 y108 a1 40)] y108 o := h
            rcases MR_if h rfl rfl with ⟨c114, h⟩ | ⟨c114, h⟩
            ·
              have c114 : ¬ ((f152 y108 a1 40) = 0) := c114
              refine Or.inr ⟨c114, ?_⟩
              have h : MR X ρ 5 0 0 qP97 N 87 [a0, a1, a2, a3, 0] [] y108 o := h
              have h := CR_aload_n h rfl
              have h : MR X ρ 5 0 0 qP97 N 88 [a0, a1, a2, a3, 0] [(1, a0)] y108 o := h
              have h := CR_aload_n h rfl
              have h : MR X ρ 5 0 0 qP97 N 89 [a0, a1, a2, a3, 0] [(1, a1), (1, a0)] y108 o := h
              have h := CR_aload_n h rfl
              have h : MR X ρ 5 0 0 qP97 N 90 [a0, a1, a2, a3, 0] [(1, a2), (1, a1), (1, a0)] y108 o := h
              have h := CR_iload_n h rfl
              have h : MR X ρ 5 0 0 qP97 N 91 [a0, a1, a2, a3, 0] [(1, a3), (1, a2), (1, a1), (1, a0)] y108 o := h
              obtain ⟨r115, m116, q117, h⟩ := MR_invV h rfl rfl
              have q117 : Run X ρ 98 [(1, a0), (1, a1), (1, a2), (1, a3)] y108 r115 m116 := q117
              obtain ⟨v118, rfl, zv118⟩ := Run_z q117 rfl
              have h : MR X ρ 5 0 0 qP97 N 94 [a0, a1, a2, a3, 0] [(1, v118)] m116 o := h
              refine ⟨v118, m116, q117, zv118, ?_⟩
              exact CR_end h rfl rfl
            ·
              have c114 : (f152 y108 a1 40) = 0 := Decidable.of_not_not (show ¬ ¬ ((f152 y108 a1 40) = 0) from c114)
              refine Or.inl ⟨c114, ?_⟩
              have h : MR X ρ 5 0 0 qP97 N 77 [a0, a1, a2, a3, 0] [] y108 o := h
              have h := CR_aload_n h rfl
              have h : MR X ρ 5 0 0 qP97 N 78 [a0, a1, a2, a3, 0] [(1, a1)] y108 o := h
              have h := CR_getstatic h rfl
              have h : MR X ρ 5 0 0 qP97 N 81 [a0, a1, a2, a3, 0] [(1, 1000017), (1, a1)] y108 o := h
              obtain ⟨r119, m120, q121, h⟩ := MR_invV h rfl rfl
              have q121 : Run X ρ 155 [(1, a1), (1, 1000017)] y108 r119 m120 := q121
              obtain ⟨e122, e123⟩ := d155 q121
              rw [e122, e123] at h
              have h : MR X ρ 5 0 0 qP97 N 84 [a0, a1, a2, a3, 0] [(1, f155 X y108 a1 1000017)] y108 o := h
              rcases MR_if h rfl rfl with ⟨c124, h⟩ | ⟨c124, h⟩
              ·
                have c124 : (f155 X y108 a1 1000017) = 0 := c124
                refine Or.inl ⟨c124, ?_⟩
                have h : MR X ρ 5 0 0 qP97 N 95 [a0, a1, a2, a3, 0] [] y108 o := h
                have h := CR_aload_n h rfl
                have h : MR X ρ 5 0 0 qP97 N 96 [a0, a1, a2, a3, 0] [(1, a1)] y108 o := h
                have h := CR_getf h rfl (by decide)
                have h : MR X ρ 5 0 0 qP97 N 99 [a0, a1, a2, a3, 0] [(1, y108 a1 8)] y108 o := h
                have h := CR_astore h rfl (Nat.le_of_ble_eq_true rfl)
                have h : MR X ρ 5 0 0 qP97 N 101 [a0, a1, a2, a3, y108 a1 8] [] y108 o := h
                have h := CR_aload_n h rfl
                have h : MR X ρ 5 0 0 qP97 N 102 [a0, a1, a2, a3, y108 a1 8] [(1, a1)] y108 o := h
                obtain ⟨r125, m126, q127, h⟩ := MR_invV h rfl rfl
                have q127 : Run X ρ 148 [(1, a1)] y108 r125 m126 := q127
                obtain rfl := Run_v q127 rfl
                have h : MR X ρ 5 0 0 qP97 N 105 [a0, a1, a2, a3, y108 a1 8] [] m126 o := h
                refine ⟨m126, q127, ?_⟩
                have h := CR_aload h rfl
                have h : MR X ρ 5 0 0 qP97 N 107 [a0, a1, a2, a3, y108 a1 8] [(1, y108 a1 8)] m126 o := h
                have h := CR_getstatic h rfl
                have h : MR X ρ 5 0 0 qP97 N 110 [a0, a1, a2, a3, y108 a1 8] [(1, 1000019), (1, y108 a1 8)] m126 o := h
                rcases CR_acmp h rfl rfl with ⟨c128, h⟩ | ⟨c128, h⟩
                ·
                  have c128 : qer X (y108 a1 8) 1000019 := c128
                  refine Or.inl ⟨c128, ?_⟩
                  have h : MR X ρ 5 0 0 qP97 N 129 [a0, a1, a2, a3, y108 a1 8] [] m126 o := h
                  have h := CR_aload_n h rfl
                  have h : MR X ρ 5 0 0 qP97 N 130 [a0, a1, a2, a3, y108 a1 8] [(1, a0)] m126 o := h
                  have h := CR_aload_n h rfl
                  have h : MR X ρ 5 0 0 qP97 N 131 [a0, a1, a2, a3, y108 a1 8] [(1, a1), (1, a0)] m126 o := h
                  have h := CR_aload_n h rfl
                  have h : MR X ρ 5 0 0 qP97 N 132 [a0, a1, a2, a3, y108 a1 8] [(1, a2), (1, a1), (1, a0)] m126 o := h
                  have h := CR_aload h rfl
                  have h : MR X ρ 5 0 0 qP97 N 134 [a0, a1, a2, a3, y108 a1 8] [(1, y108 a1 8), (1, a2), (1, a1), (1, a0)] m126 o := h
                  obtain ⟨r129, m130, q131, h⟩ := MR_invV h rfl rfl
                  have q131 : Run X ρ 99 [(1, a0), (1, a1), (1, a2), (1, y108 a1 8)] m126 r129 m130 := q131
                  obtain ⟨v132, rfl, zv132⟩ := Run_z q131 rfl
                  have h : MR X ρ 5 0 0 qP97 N 137 [a0, a1, a2, a3, y108 a1 8] [(1, v132)] m130 o := h
                  refine ⟨v132, m130, q131, zv132, ?_⟩
                  exact CR_end h rfl rfl
                ·
                  have c128 : ¬ (qer X (y108 a1 8) 1000019) := c128
                  refine Or.inr ⟨c128, ?_⟩
                  have h : MR X ρ 5 0 0 qP97 N 113 [a0, a1, a2, a3, y108 a1 8] [] m126 o := h
                  have h := CR_aload h rfl
                  have h : MR X ρ 5 0 0 qP97 N 115 [a0, a1, a2, a3, y108 a1 8] [(1, y108 a1 8)] m126 o := h
                  have h := CR_getstatic h rfl
                  have h : MR X ρ 5 0 0 qP97 N 118 [a0, a1, a2, a3, y108 a1 8] [(1, 1000020), (1, y108 a1 8)] m126 o := h
                  rcases CR_acmp h rfl rfl with ⟨c133, h⟩ | ⟨c133, h⟩
                  ·
                    have c133 : qer X (y108 a1 8) 1000020 := c133
                    refine Or.inl ⟨c133, ?_⟩
                    have h : MR X ρ 5 0 0 qP97 N 129 [a0, a1, a2, a3, y108 a1 8] [] m126 o := h
                    have h := CR_aload_n h rfl
                    have h : MR X ρ 5 0 0 qP97 N 130 [a0, a1, a2, a3, y108 a1 8] [(1, a0)] m126 o := h
                    have h := CR_aload_n h rfl
                    have h : MR X ρ 5 0 0 qP97 N 131 [a0, a1, a2, a3, y108 a1 8] [(1, a1), (1, a0)] m126 o := h
                    have h := CR_aload_n h rfl
                    have h : MR X ρ 5 0 0 qP97 N 132 [a0, a1, a2, a3, y108 a1 8] [(1, a2), (1, a1), (1, a0)] m126 o := h
                    have h := CR_aload h rfl
                    have h : MR X ρ 5 0 0 qP97 N 134 [a0, a1, a2, a3, y108 a1 8] [(1, y108 a1 8), (1, a2), (1, a1), (1, a0)] m126 o := h
                    obtain ⟨r134, m135, q136, h⟩ := MR_invV h rfl rfl
                    have q136 : Run X ρ 99 [(1, a0), (1, a1), (1, a2), (1, y108 a1 8)] m126 r134 m135 := q136
                    obtain ⟨v137, rfl, zv137⟩ := Run_z q136 rfl
                    have h : MR X ρ 5 0 0 qP97 N 137 [a0, a1, a2, a3, y108 a1 8] [(1, v137)] m135 o := h
                    refine ⟨v137, m135, q136, zv137, ?_⟩
                    exact CR_end h rfl rfl
                  ·
                    have c133 : ¬ (qer X (y108 a1 8) 1000020) := c133
                    refine Or.inr ⟨c133, ?_⟩
                    have h : MR X ρ 5 0 0 qP97 N 121 [a0, a1, a2, a3, y108 a1 8] [] m126 o := h
                    have h := CR_aload h rfl
                    have h : MR X ρ 5 0 0 qP97 N 123 [a0, a1, a2, a3, y108 a1 8] [(1, y108 a1 8)] m126 o := h
                    have h := CR_getstatic h rfl
                    have h : MR X ρ 5 0 0 qP97 N 126 [a0, a1, a2, a3, y108 a1 8] [(1, 1000021), (1, y108 a1 8)] m126 o := h
                    rcases CR_acmp h rfl rfl with ⟨c138, h⟩ | ⟨c138, h⟩
                    ·
                      have c138 : ¬ (qer X (y108 a1 8) 1000021) := c138
                      refine Or.inr ⟨c138, ?_⟩
                      have h : MR X ρ 5 0 0 qP97 N 138 [a0, a1, a2, a3, y108 a1 8] [] m126 o := h
                      have h := CR_aload h rfl
                      have h : MR X ρ 5 0 0 qP97 N 140 [a0, a1, a2, a3, y108 a1 8] [(1, y108 a1 8)] m126 o := h
                      have h := CR_getstatic h rfl
                      have h : MR X ρ 5 0 0 qP97 N 143 [a0, a1, a2, a3, y108 a1 8] [(1, 1000022), (1, y108 a1 8)] m126 o := h
                      rcases CR_acmp h rfl rfl with ⟨c139, h⟩ | ⟨c139, h⟩
                      ·
                        have c139 : qer X (y108 a1 8) 1000022 := c139
                        refine Or.inl ⟨c139, ?_⟩
                        have h : MR X ρ 5 0 0 qP97 N 162 [a0, a1, a2, a3, y108 a1 8] [] m126 o := h
                        have h := CR_aload_n h rfl
                        have h : MR X ρ 5 0 0 qP97 N 163 [a0, a1, a2, a3, y108 a1 8] [(1, a0)] m126 o := h
                        have h := CR_aload_n h rfl
                        have h : MR X ρ 5 0 0 qP97 N 164 [a0, a1, a2, a3, y108 a1 8] [(1, a1), (1, a0)] m126 o := h
                        have h := CR_aload h rfl
                        have h : MR X ρ 5 0 0 qP97 N 166 [a0, a1, a2, a3, y108 a1 8] [(1, y108 a1 8), (1, a1), (1, a0)] m126 o := h
                        obtain ⟨r140, m141, q142, h⟩ := MR_invV h rfl rfl
                        have q142 : Run X ρ 96 [(1, a0), (1, a1), (1, y108 a1 8)] m126 r140 m141 := q142
                        obtain ⟨v143, rfl, zv143⟩ := Run_z q142 rfl
                        have h : MR X ρ 5 0 0 qP97 N 169 [a0, a1, a2, a3, y108 a1 8] [(1, v143)] m141 o := h
                        refine ⟨v143, m141, q142, zv143, ?_⟩
                        exact CR_end h rfl rfl
                      ·
                        have c139 : ¬ (qer X (y108 a1 8) 1000022) := c139
                        refine Or.inr ⟨c139, ?_⟩
                        have h : MR X ρ 5 0 0 qP97 N 146 [a0, a1, a2, a3, y108 a1 8] [] m126 o := h
                        have h := CR_aload h rfl
                        have h : MR X ρ 5 0 0 qP97 N 148 [a0, a1, a2, a3, y108 a1 8] [(1, y108 a1 8)] m126 o := h
                        have h := CR_getstatic h rfl
                        have h : MR X ρ 5 0 0 qP97 N 151 [a0, a1, a2, a3, y108 a1 8] [(1, 1000023), (1, y108 a1 8)] m126 o := h
                        rcases CR_acmp h rfl rfl with ⟨c144, h⟩ | ⟨c144, h⟩
                        ·
                          have c144 : qer X (y108 a1 8) 1000023 := c144
                          refine Or.inl ⟨c144, ?_⟩
                          have h : MR X ρ 5 0 0 qP97 N 162 [a0, a1, a2, a3, y108 a1 8] [] m126 o := h
                          have h := CR_aload_n h rfl
                          have h : MR X ρ 5 0 0 qP97 N 163 [a0, a1, a2, a3, y108 a1 8] [(1, a0)] m126 o := h
                          have h := CR_aload_n h rfl
                          have h : MR X ρ 5 0 0 qP97 N 164 [a0, a1, a2, a3, y108 a1 8] [(1, a1), (1, a0)] m126 o := h
                          have h := CR_aload h rfl
                          have h : MR X ρ 5 0 0 qP97 N 166 [a0, a1, a2, a3, y108 a1 8] [(1, y108 a1 8), (1, a1), (1, a0)] m126 o := h
                          obtain ⟨r145, m146, q147, h⟩ := MR_invV h rfl rfl
                          have q147 : Run X ρ 96 [(1, a0), (1, a1), (1, y108 a1 8)] m126 r145 m146 := q147
                          obtain ⟨v148, rfl, zv148⟩ := Run_z q147 rfl
                          have h : MR X ρ 5 0 0 qP97 N 169 [a0, a1, a2, a3, y108 a1 8] [(1, v148)] m146 o := h
                          refine ⟨v148, m146, q147, zv148, ?_⟩
                          exact CR_end h rfl rfl
                        ·
                          have c144 : ¬ (qer X (y108 a1 8) 1000023) := c144
                          refine Or.inr ⟨c144, ?_⟩
                          have h : MR X ρ 5 0 0 qP97 N 154 [a0, a1, a2, a3, y108 a1 8] [] m126 o := h
                          have h := CR_aload h rfl
                          have h : MR X ρ 5 0 0 qP97 N 156 [a0, a1, a2, a3, y108 a1 8] [(1, y108 a1 8)] m126 o := h
                          have h := CR_getstatic h rfl
                          have h : MR X ρ 5 0 0 qP97 N 159 [a0, a1, a2, a3, y108 a1 8] [(1, 1000024), (1, y108 a1 8)] m126 o := h
                          rcases CR_acmp h rfl rfl with ⟨c149, h⟩ | ⟨c149, h⟩
                          ·
                            have c149 : ¬ (qer X (y108 a1 8) 1000024) := c149
                            refine Or.inr ⟨c149, ?_⟩
                            have h : MR X ρ 5 0 0 qP97 N 170 [a0, a1, a2, a3, y108 a1 8] [] m126 o := h
                            have h := CR_aload h rfl
                            have h : MR X ρ 5 0 0 qP97 N 172 [a0, a1, a2, a3, y108 a1 8] [(1, y108 a1 8)] m126 o := h
                            have h := CR_getstatic h rfl
                            have h : MR X ρ 5 0 0 qP97 N 175 [a0, a1, a2, a3, y108 a1 8] [(1, 1000018), (1, y108 a1 8)] m126 o := h
                            rcases CR_acmp h rfl rfl with ⟨c150, h⟩ | ⟨c150, h⟩
                            ·
                              have c150 : ¬ (qer X (y108 a1 8) 1000018) := c150
                              refine Or.inr ⟨c150, ?_⟩
                              have h : MR X ρ 5 0 0 qP97 N 188 [a0, a1, a2, a3, y108 a1 8] [] m126 o := h
                              have h := CR_aload_n h rfl
                              have h : MR X ρ 5 0 0 qP97 N 189 [a0, a1, a2, a3, y108 a1 8] [(1, a0)] m126 o := h
                              have h := CR_iconst h rfl rfl
                              have h : MR X ρ 5 0 0 qP97 N 190 [a0, a1, a2, a3, y108 a1 8] [(1, 3), (1, a0)] m126 o := h
                              have h := CR_aload h rfl
                              have h : MR X ρ 5 0 0 qP97 N 192 [a0, a1, a2, a3, y108 a1 8] [(1, y108 a1 8), (1, 3), (1, a0)] m126 o := h
                              obtain ⟨r151, m152, q153, h⟩ := MR_invS h rfl rfl
                              have q153 : Run X ρ 92 [(1, y108 a1 8)] m126 r151 m152 := q153
                              obtain ⟨e154, e155⟩ := d92 q153
                              rw [e154, e155] at h
                              have h : MR X ρ 5 0 0 qP97 N 195 [a0, a1, a2, a3, y108 a1 8] [(1, f92 X m126 (y108 a1 8)), (1, 3), (1, a0)] m126 o := h
                              have h := CR_iconst h rfl rfl
                              have h : MR X ρ 5 0 0 qP97 N 196 [a0, a1, a2, a3, y108 a1 8] [(1, 0), (1, f92 X m126 (y108 a1 8)), (1, 3), (1, a0)] m126 o := h
                              obtain ⟨r156, m157, q158, h⟩ := MR_invV h rfl rfl
                              have q158 : Run X ρ 101 [(1, a0), (1, 3), (1, f92 X m126 (y108 a1 8)), (1, 0)] m126 r156 m157 := q158
                              obtain ⟨e159, e160⟩ := d101 q158
                              rw [e159, e160] at h
                              have h : MR X ρ 5 0 0 qP97 N 199 [a0, a1, a2, a3, y108 a1 8] [(1, f101 m126 a0 3 (f92 X m126 (y108 a1 8)) 0)] (g101 m126 a0 3 (f92 X m126 (y108 a1 8)) 0) o := h
                              obtain ⟨y161, zy161, h⟩ : ∃ y, y = g101 m126 a0 3 (f92 X m126 (y108 a1 8)) 0 ∧ MR X ρ 5 0 0 qP97 N 199 [a0, a1, a2, a3, y108 a1 8] [(1, f101 m126 a0 3 (f92 X m126 (y108 a1 8)) 0)] y o := ⟨_, rfl, h⟩
                              have h : MR X ρ 5 0 0 qP97 N 199 [a0, a1, a2, a3, y108 a1 8] [(1, f101 m126 a0 3 (f92 X m126 (y108 a1 8)) 0)] y161 o := h
                              refine ⟨y161, zy161, ?_⟩
                              exact CR_end h rfl rfl
                            ·
                              have c150 : qer X (y108 a1 8) 1000018 := Decidable.of_not_not (show ¬ ¬ (qer X (y108 a1 8) 1000018) from c150)
                              refine Or.inl ⟨c150, ?_⟩
                              have h : MR X ρ 5 0 0 qP97 N 178 [a0, a1, a2, a3, y108 a1 8] [] m126 o := h
                              have h := CR_aload_n h rfl
                              have h : MR X ρ 5 0 0 qP97 N 179 [a0, a1, a2, a3, y108 a1 8] [(1, a0)] m126 o := h
                              have h := CR_iconst h rfl rfl
                              have h : MR X ρ 5 0 0 qP97 N 180 [a0, a1, a2, a3, y108 a1 8] [(1, 4), (1, a0)] m126 o := h
                              have h := CR_iconst h rfl rfl
                              have h : MR X ρ 5 0 0 qP97 N 181 [a0, a1, a2, a3, y108 a1 8] [(1, 0), (1, 4), (1, a0)] m126 o := h
                              have h := CR_iconst h rfl rfl
                              have h : MR X ρ 5 0 0 qP97 N 182 [a0, a1, a2, a3, y108 a1 8] [(1, 0), (1, 0), (1, 4), (1, a0)] m126 o := h
                              obtain ⟨r162, m163, q164, h⟩ := MR_invV h rfl rfl
                              have q164 : Run X ρ 101 [(1, a0), (1, 4), (1, 0), (1, 0)] m126 r162 m163 := q164
                              obtain ⟨e165, e166⟩ := d101 q164
                              rw [e165, e166] at h
                              have h : MR X ρ 5 0 0 qP97 N 185 [a0, a1, a2, a3, y108 a1 8] [(1, f101 m126 a0 4 0 0)] (g101 m126 a0 4 0 0) o := h
                              obtain ⟨y167, zy167, h⟩ : ∃ y, y = g101 m126 a0 4 0 0 ∧ MR X ρ 5 0 0 qP97 N 185 [a0, a1, a2, a3, y108 a1 8] [(1, f101 m126 a0 4 0 0)] y o := ⟨_, rfl, h⟩
                              have h : MR X ρ 5 0 0 qP97 N 185 [a0, a1, a2, a3, y108 a1 8] [(1, f101 m126 a0 4 0 0)] y167 o := h
                              refine ⟨y167, zy167, ?_⟩
                              have h := CR_go h rfl rfl
                              have h : MR X ρ 5 0 0 qP97 N 199 [a0, a1, a2, a3, y108 a1 8] [(1, f101 m126 a0 4 0 0)] y167 o := h
                              exact CR_end h rfl rfl
                          ·
                            have c149 : qer X (y108 a1 8) 1000024 := Decidable.of_not_not (show ¬ ¬ (qer X (y108 a1 8) 1000024) from c149)
                            refine Or.inl ⟨c149, ?_⟩
                            have h : MR X ρ 5 0 0 qP97 N 162 [a0, a1, a2, a3, y108 a1 8] [] m126 o := h
                            have h := CR_aload_n h rfl
                            have h : MR X ρ 5 0 0 qP97 N 163 [a0, a1, a2, a3, y108 a1 8] [(1, a0)] m126 o := h
                            have h := CR_aload_n h rfl
                            have h : MR X ρ 5 0 0 qP97 N 164 [a0, a1, a2, a3, y108 a1 8] [(1, a1), (1, a0)] m126 o := h
                            have h := CR_aload h rfl
                            have h : MR X ρ 5 0 0 qP97 N 166 [a0, a1, a2, a3, y108 a1 8] [(1, y108 a1 8), (1, a1), (1, a0)] m126 o := h
                            obtain ⟨r168, m169, q170, h⟩ := MR_invV h rfl rfl
                            have q170 : Run X ρ 96 [(1, a0), (1, a1), (1, y108 a1 8)] m126 r168 m169 := q170
                            obtain ⟨v171, rfl, zv171⟩ := Run_z q170 rfl
                            have h : MR X ρ 5 0 0 qP97 N 169 [a0, a1, a2, a3, y108 a1 8] [(1, v171)] m169 o := h
                            refine ⟨v171, m169, q170, zv171, ?_⟩
                            exact CR_end h rfl rfl
                    ·
                      have c138 : qer X (y108 a1 8) 1000021 := Decidable.of_not_not (show ¬ ¬ (qer X (y108 a1 8) 1000021) from c138)
                      refine Or.inl ⟨c138, ?_⟩
                      have h : MR X ρ 5 0 0 qP97 N 129 [a0, a1, a2, a3, y108 a1 8] [] m126 o := h
                      have h := CR_aload_n h rfl
                      have h : MR X ρ 5 0 0 qP97 N 130 [a0, a1, a2, a3, y108 a1 8] [(1, a0)] m126 o := h
                      have h := CR_aload_n h rfl
                      have h : MR X ρ 5 0 0 qP97 N 131 [a0, a1, a2, a3, y108 a1 8] [(1, a1), (1, a0)] m126 o := h
                      have h := CR_aload_n h rfl
                      have h : MR X ρ 5 0 0 qP97 N 132 [a0, a1, a2, a3, y108 a1 8] [(1, a2), (1, a1), (1, a0)] m126 o := h
                      have h := CR_aload h rfl
                      have h : MR X ρ 5 0 0 qP97 N 134 [a0, a1, a2, a3, y108 a1 8] [(1, y108 a1 8), (1, a2), (1, a1), (1, a0)] m126 o := h
                      obtain ⟨r172, m173, q174, h⟩ := MR_invV h rfl rfl
                      have q174 : Run X ρ 99 [(1, a0), (1, a1), (1, a2), (1, y108 a1 8)] m126 r172 m173 := q174
                      obtain ⟨v175, rfl, zv175⟩ := Run_z q174 rfl
                      have h : MR X ρ 5 0 0 qP97 N 137 [a0, a1, a2, a3, y108 a1 8] [(1, v175)] m173 o := h
                      refine ⟨v175, m173, q174, zv175, ?_⟩
                      exact CR_end h rfl rfl
              ·
                have c124 : ¬ ((f155 X y108 a1 1000017) = 0) := c124
                refine Or.inr ⟨c124, ?_⟩
                have h : MR X ρ 5 0 0 qP97 N 87 [a0, a1, a2, a3, 0] [] y108 o := h
                have h := CR_aload_n h rfl
                have h : MR X ρ 5 0 0 qP97 N 88 [a0, a1, a2, a3, 0] [(1, a0)] y108 o := h
                have h := CR_aload_n h rfl
                have h : MR X ρ 5 0 0 qP97 N 89 [a0, a1, a2, a3, 0] [(1, a1), (1, a0)] y108 o := h
                have h := CR_aload_n h rfl
                have h : MR X ρ 5 0 0 qP97 N 90 [a0, a1, a2, a3, 0] [(1, a2), (1, a1), (1, a0)] y108 o := h
                have h := CR_iload_n h rfl
                have h : MR X ρ 5 0 0 qP97 N 91 [a0, a1, a2, a3, 0] [(1, a3), (1, a2), (1, a1), (1, a0)] y108 o := h
                obtain ⟨r176, m177, q178, h⟩ := MR_invV h rfl rfl
                have q178 : Run X ρ 98 [(1, a0), (1, a1), (1, a2), (1, a3)] y108 r176 m177 := q178
                obtain ⟨v179, rfl, zv179⟩ := Run_z q178 rfl
                have h : MR X ρ 5 0 0 qP97 N 94 [a0, a1, a2, a3, 0] [(1, v179)] m177 o := h
                refine ⟨v179, m177, q178, zv179, ?_⟩
                exact CR_end h rfl rfl
          ·
            have c107 : ¬ (a3 ≤ 8) := c107
            refine Or.inr ⟨c107, ?_⟩
            have h : MR X ρ 5 0 0 qP97 N 52 [a0, a1, a2, a3, 0] [] m o := h
            have h := CR_aload_n h rfl
            have h : MR X ρ 5 0 0 qP97 N 53 [a0, a1, a2, a3, 0] [(1, a1)] m o := h
            have h := CR_iconst h rfl rfl
            have h : MR X ρ 5 0 0 qP97 N 54 [a0, a1, a2, a3, 0] [(1, 4), (1, a1)] m o := h
            obtain ⟨r180, m181, q182, h⟩ := MR_invV h rfl rfl
            have q182 : Run X ρ 158 [(1, a1), (1, 4)] m r180 m181 := q182
            obtain ⟨e183, e184⟩ := d158 q182
            rw [e183, e184] at h
            have h : MR X ρ 5 0 0 qP97 N 57 [a0, a1, a2, a3, 0] [(1, f158 m a1 4)] (g158 m a1 4) o := h
            obtain ⟨y185, zy185, h⟩ : ∃ y, y = g158 m a1 4 ∧ MR X ρ 5 0 0 qP97 N 57 [a0, a1, a2, a3, 0] [(1, f158 m a1 4)] y o := ⟨_, rfl, h⟩
            have h : MR X ρ 5 0 0 qP97 N 57 [a0, a1, a2, a3, 0] [(1, f158 m a1 4)] y185 o := h
            refine ⟨y185, zy185, ?_⟩
            exact CR_end h rfl rfl
      ·
        have c99 : (f86 X m (-1)) = 0 := Decidable.of_not_not (show ¬ ¬ ((f86 X m (-1)) = 0) from c99)
        refine Or.inl ⟨c99, ?_⟩
        have h : MR X ρ 5 0 0 qP97 N 31 [a0, a1, a2, a3, 0] [] m o := h
        have h := CR_aload_n h rfl
        have h : MR X ρ 5 0 0 qP97 N 32 [a0, a1, a2, a3, 0] [(1, a1)] m o := h
        have h := CR_iconst h rfl rfl
        have h : MR X ρ 5 0 0 qP97 N 33 [a0, a1, a2, a3, 0] [(1, 1), (1, a1)] m o := h
        obtain ⟨r186, m187, q188, h⟩ := MR_invV h rfl rfl
        have q188 : Run X ρ 158 [(1, a1), (1, 1)] m r186 m187 := q188
        obtain ⟨e189, e190⟩ := d158 q188
        rw [e189, e190] at h
        have h : MR X ρ 5 0 0 qP97 N 36 [a0, a1, a2, a3, 0] [(1, f158 m a1 1)] (g158 m a1 1) o := h
        obtain ⟨y191, zy191, h⟩ : ∃ y, y = g158 m a1 1 ∧ MR X ρ 5 0 0 qP97 N 36 [a0, a1, a2, a3, 0] [(1, f158 m a1 1)] y o := ⟨_, rfl, h⟩
        have h : MR X ρ 5 0 0 qP97 N 36 [a0, a1, a2, a3, 0] [(1, f158 m a1 1)] y191 o := h
        refine ⟨y191, zy191, ?_⟩
        exact CR_end h rfl rfl
    ·
      have c93 : (m a1 4) = 1 := Decidable.of_not_not (show ¬ ¬ ((m a1 4) = 1) from c93)
      refine Or.inl ⟨c93, ?_⟩
      have h : MR X ρ 5 0 0 qP97 N 17 [a0, a1, a2, a3, 0] [] m o := h
      have h := CR_aload_n h rfl
      have h : MR X ρ 5 0 0 qP97 N 18 [a0, a1, a2, a3, 0] [(1, a1)] m o := h
      have h := CR_getf h rfl (by decide)
      have h : MR X ρ 5 0 0 qP97 N 21 [a0, a1, a2, a3, 0] [(1, m a1 8)] m o := h
      have h := CR_go h rfl rfl
      have h : MR X ρ 5 0 0 qP97 N 25 [a0, a1, a2, a3, 0] [(1, m a1 8)] m o := h
      obtain ⟨r192, m193, q194, h⟩ := MR_invS h rfl rfl
      have q194 : Run X ρ 86 [(1, m a1 8)] m r192 m193 := q194
      obtain ⟨e195, e196⟩ := d86 q194
      rw [e195, e196] at h
      have h : MR X ρ 5 0 0 qP97 N 28 [a0, a1, a2, a3, 0] [(1, f86 X m (m a1 8))] m o := h
      rcases MR_if h rfl rfl with ⟨c197, h⟩ | ⟨c197, h⟩
      ·
        have c197 : ¬ ((f86 X m (m a1 8)) = 0) := c197
        refine Or.inr ⟨c197, ?_⟩
        have h : MR X ρ 5 0 0 qP97 N 37 [a0, a1, a2, a3, 0] [] m o := h
        have h := CR_aload_n h rfl
        have h : MR X ρ 5 0 0 qP97 N 38 [a0, a1, a2, a3, 0] [(1, a0)] m o := h
        have h := CR_getf h rfl (by decide)
        have h : MR X ρ 5 0 0 qP97 N 41 [a0, a1, a2, a3, 0] [(1, m a0 5)] m o := h
        have h := CR_bipush h rfl rfl
        have h : MR X ρ 5 0 0 qP97 N 43 [a0, a1, a2, a3, 0] [(1, 20), (1, m a0 5)] m o := h
        rcases MR_icmp h rfl rfl with ⟨c198, h⟩ | ⟨c198, h⟩
        ·
          have c198 : 20 ≤ (m a0 5) := c198
          refine Or.inl ⟨c198, ?_⟩
          have h : MR X ρ 5 0 0 qP97 N 52 [a0, a1, a2, a3, 0] [] m o := h
          have h := CR_aload_n h rfl
          have h : MR X ρ 5 0 0 qP97 N 53 [a0, a1, a2, a3, 0] [(1, a1)] m o := h
          have h := CR_iconst h rfl rfl
          have h : MR X ρ 5 0 0 qP97 N 54 [a0, a1, a2, a3, 0] [(1, 4), (1, a1)] m o := h
          obtain ⟨r199, m200, q201, h⟩ := MR_invV h rfl rfl
          have q201 : Run X ρ 158 [(1, a1), (1, 4)] m r199 m200 := q201
          obtain ⟨e202, e203⟩ := d158 q201
          rw [e202, e203] at h
          have h : MR X ρ 5 0 0 qP97 N 57 [a0, a1, a2, a3, 0] [(1, f158 m a1 4)] (g158 m a1 4) o := h
          obtain ⟨y204, zy204, h⟩ : ∃ y, y = g158 m a1 4 ∧ MR X ρ 5 0 0 qP97 N 57 [a0, a1, a2, a3, 0] [(1, f158 m a1 4)] y o := ⟨_, rfl, h⟩
          have h : MR X ρ 5 0 0 qP97 N 57 [a0, a1, a2, a3, 0] [(1, f158 m a1 4)] y204 o := h
          refine ⟨y204, zy204, ?_⟩
          exact CR_end h rfl rfl
        ·
          have c198 : ¬ (20 ≤ (m a0 5)) := c198
          refine Or.inr ⟨c198, ?_⟩
          have h : MR X ρ 5 0 0 qP97 N 46 [a0, a1, a2, a3, 0] [] m o := h
          have h := CR_iload_n h rfl
          have h : MR X ρ 5 0 0 qP97 N 47 [a0, a1, a2, a3, 0] [(1, a3)] m o := h
          have h := CR_bipush h rfl rfl
          have h : MR X ρ 5 0 0 qP97 N 49 [a0, a1, a2, a3, 0] [(1, 8), (1, a3)] m o := h
          rcases MR_icmp h rfl rfl with ⟨c205, h⟩ | ⟨c205, h⟩
          ·
            have c205 : a3 ≤ 8 := c205
            refine Or.inl ⟨c205, ?_⟩
            have h : MR X ρ 5 0 0 qP97 N 58 [a0, a1, a2, a3, 0] [] m o := h
            have h := CR_aload_n h rfl
            have h : MR X ρ 5 0 0 qP97 N 59 [a0, a1, a2, a3, 0] [(1, a0)] m o := h
            have h := CR_dup h rfl
            have h : MR X ρ 5 0 0 qP97 N 60 [a0, a1, a2, a3, 0] [(1, a0), (1, a0)] m o := h
            have h := CR_getf h rfl (by decide)
            have h : MR X ρ 5 0 0 qP97 N 63 [a0, a1, a2, a3, 0] [(1, m a0 5), (1, a0)] m o := h
            have h := CR_iconst h rfl rfl
            have h : MR X ρ 5 0 0 qP97 N 64 [a0, a1, a2, a3, 0] [(1, 1), (1, m a0 5), (1, a0)] m o := h
            have h := CR_iadd h rfl
            have h : MR X ρ 5 0 0 qP97 N 65 [a0, a1, a2, a3, 0] [(1, s32 ((m a0 5) + 1)), (1, a0)] m o := h
            have h := CR_putf h rfl
            have h : MR X ρ 5 0 0 qP97 N 68 [a0, a1, a2, a3, 0] [] (mu m a0 5 (s32 ((m a0 5) + 1))) o := h
            obtain ⟨y206, zy206, h⟩ : ∃ y, y = mu m a0 5 (s32 ((m a0 5) + 1)) ∧ MR X ρ 5 0 0 qP97 N 68 [a0, a1, a2, a3, 0] [] y o := ⟨_, rfl, h⟩
            have h : MR X ρ 5 0 0 qP97 N 68 [a0, a1, a2, a3, 0] [] y206 o := h
            refine ⟨y206, zy206, ?_⟩
            have h := CR_aload_n h rfl
            have h : MR X ρ 5 0 0 qP97 N 69 [a0, a1, a2, a3, 0] [(1, a1)] y206 o := h
            have h := CR_bipush h rfl rfl
            have h : MR X ρ 5 0 0 qP97 N 71 [a0, a1, a2, a3, 0] [(1, 40), (1, a1)] y206 o := h
            obtain ⟨r207, m208, q209, h⟩ := MR_invV h rfl rfl
            have q209 : Run X ρ 152 [(1, a1), (1, 40)] y206 r207 m208 := q209
            obtain ⟨e210, e211⟩ := d152 q209
            rw [e210, e211] at h
            have h : MR X ρ 5 0 0 qP97 N 74 [a0, a1, a2, a3, 0] [(1, f152 y206 a1 40)] y206 o := h
            rcases MR_if h rfl rfl with ⟨c212, h⟩ | ⟨c212, h⟩
            ·
              have c212 : ¬ ((f152 y206 a1 40) = 0) := c212
              refine Or.inr ⟨c212, ?_⟩
              have h : MR X ρ 5 0 0 qP97 N 87 [a0, a1, a2, a3, 0] [] y206 o := h
              have h := CR_aload_n h rfl
              have h : MR X ρ 5 0 0 qP97 N 88 [a0, a1, a2, a3, 0] [(1, a0)] y206 o := h
              have h := CR_aload_n h rfl
              have h : MR X ρ 5 0 0 qP97 N 89 [a0, a1, a2, a3, 0] [(1, a1), (1, a0)] y206 o := h
              have h := CR_aload_n h rfl
              have h : MR X ρ 5 0 0 qP97 N 90 [a0, a1, a2, a3, 0] [(1, a2), (1, a1), (1, a0)] y206 o := h
              have h := CR_iload_n h rfl
              have h : MR X ρ 5 0 0 qP97 N 91 [a0, a1, a2, a3, 0] [(1, a3), (1, a2), (1, a1), (1, a0)] y206 o := h
              obtain ⟨r213, m214, q215, h⟩ := MR_invV h rfl rfl
              have q215 : Run X ρ 98 [(1, a0), (1, a1), (1, a2), (1, a3)] y206 r213 m214 := q215
              obtain ⟨v216, rfl, zv216⟩ := Run_z q215 rfl
              have h : MR X ρ 5 0 0 qP97 N 94 [a0, a1, a2, a3, 0] [(1, v216)] m214 o := h
              refine ⟨v216, m214, q215, zv216, ?_⟩
              exact CR_end h rfl rfl
            ·
              have c212 : (f152 y206 a1 40) = 0 := Decidable.of_not_not (show ¬ ¬ ((f152 y206 a1 40) = 0) from c212)
              refine Or.inl ⟨c212, ?_⟩
              have h : MR X ρ 5 0 0 qP97 N 77 [a0, a1, a2, a3, 0] [] y206 o := h
              have h := CR_aload_n h rfl
              have h : MR X ρ 5 0 0 qP97 N 78 [a0, a1, a2, a3, 0] [(1, a1)] y206 o := h
              have h := CR_getstatic h rfl
              have h : MR X ρ 5 0 0 qP97 N 81 [a0, a1, a2, a3, 0] [(1, 1000017), (1, a1)] y206 o := h
              obtain ⟨r217, m218, q219, h⟩ := MR_invV h rfl rfl
              have q219 : Run X ρ 155 [(1, a1), (1, 1000017)] y206 r217 m218 := q219
              obtain ⟨e220, e221⟩ := d155 q219
              rw [e220, e221] at h
              have h : MR X ρ 5 0 0 qP97 N 84 [a0, a1, a2, a3, 0] [(1, f155 X y206 a1 1000017)] y206 o := h
              rcases MR_if h rfl rfl with ⟨c222, h⟩ | ⟨c222, h⟩
              ·
                have c222 : (f155 X y206 a1 1000017) = 0 := c222
                refine Or.inl ⟨c222, ?_⟩
                have h : MR X ρ 5 0 0 qP97 N 95 [a0, a1, a2, a3, 0] [] y206 o := h
                have h := CR_aload_n h rfl
                have h : MR X ρ 5 0 0 qP97 N 96 [a0, a1, a2, a3, 0] [(1, a1)] y206 o := h
                have h := CR_getf h rfl (by decide)
                have h : MR X ρ 5 0 0 qP97 N 99 [a0, a1, a2, a3, 0] [(1, y206 a1 8)] y206 o := h
                have h := CR_astore h rfl (Nat.le_of_ble_eq_true rfl)
                have h : MR X ρ 5 0 0 qP97 N 101 [a0, a1, a2, a3, y206 a1 8] [] y206 o := h
                have h := CR_aload_n h rfl
                have h : MR X ρ 5 0 0 qP97 N 102 [a0, a1, a2, a3, y206 a1 8] [(1, a1)] y206 o := h
                obtain ⟨r223, m224, q225, h⟩ := MR_invV h rfl rfl
                have q225 : Run X ρ 148 [(1, a1)] y206 r223 m224 := q225
                obtain rfl := Run_v q225 rfl
                have h : MR X ρ 5 0 0 qP97 N 105 [a0, a1, a2, a3, y206 a1 8] [] m224 o := h
                refine ⟨m224, q225, ?_⟩
                have h := CR_aload h rfl
                have h : MR X ρ 5 0 0 qP97 N 107 [a0, a1, a2, a3, y206 a1 8] [(1, y206 a1 8)] m224 o := h
                have h := CR_getstatic h rfl
                have h : MR X ρ 5 0 0 qP97 N 110 [a0, a1, a2, a3, y206 a1 8] [(1, 1000019), (1, y206 a1 8)] m224 o := h
                rcases CR_acmp h rfl rfl with ⟨c226, h⟩ | ⟨c226, h⟩
                ·
                  have c226 : qer X (y206 a1 8) 1000019 := c226
                  refine Or.inl ⟨c226, ?_⟩
                  have h : MR X ρ 5 0 0 qP97 N 129 [a0, a1, a2, a3, y206 a1 8] [] m224 o := h
                  have h := CR_aload_n h rfl
                  have h : MR X ρ 5 0 0 qP97 N 130 [a0, a1, a2, a3, y206 a1 8] [(1, a0)] m224 o := h
                  have h := CR_aload_n h rfl
                  have h : MR X ρ 5 0 0 qP97 N 131 [a0, a1, a2, a3, y206 a1 8] [(1, a1), (1, a0)] m224 o := h
                  have h := CR_aload_n h rfl
                  have h : MR X ρ 5 0 0 qP97 N 132 [a0, a1, a2, a3, y206 a1 8] [(1, a2), (1, a1), (1, a0)] m224 o := h
                  have h := CR_aload h rfl
                  have h : MR X ρ 5 0 0 qP97 N 134 [a0, a1, a2, a3, y206 a1 8] [(1, y206 a1 8), (1, a2), (1, a1), (1, a0)] m224 o := h
                  obtain ⟨r227, m228, q229, h⟩ := MR_invV h rfl rfl
                  have q229 : Run X ρ 99 [(1, a0), (1, a1), (1, a2), (1, y206 a1 8)] m224 r227 m228 := q229
                  obtain ⟨v230, rfl, zv230⟩ := Run_z q229 rfl
                  have h : MR X ρ 5 0 0 qP97 N 137 [a0, a1, a2, a3, y206 a1 8] [(1, v230)] m228 o := h
                  refine ⟨v230, m228, q229, zv230, ?_⟩
                  exact CR_end h rfl rfl
                ·
                  have c226 : ¬ (qer X (y206 a1 8) 1000019) := c226
                  refine Or.inr ⟨c226, ?_⟩
                  have h : MR X ρ 5 0 0 qP97 N 113 [a0, a1, a2, a3, y206 a1 8] [] m224 o := h
                  have h := CR_aload h rfl
                  have h : MR X ρ 5 0 0 qP97 N 115 [a0, a1, a2, a3, y206 a1 8] [(1, y206 a1 8)] m224 o := h
                  have h := CR_getstatic h rfl
                  have h : MR X ρ 5 0 0 qP97 N 118 [a0, a1, a2, a3, y206 a1 8] [(1, 1000020), (1, y206 a1 8)] m224 o := h
                  rcases CR_acmp h rfl rfl with ⟨c231, h⟩ | ⟨c231, h⟩
                  ·
                    have c231 : qer X (y206 a1 8) 1000020 := c231
                    refine Or.inl ⟨c231, ?_⟩
                    have h : MR X ρ 5 0 0 qP97 N 129 [a0, a1, a2, a3, y206 a1 8] [] m224 o := h
                    have h := CR_aload_n h rfl
                    have h : MR X ρ 5 0 0 qP97 N 130 [a0, a1, a2, a3, y206 a1 8] [(1, a0)] m224 o := h
                    have h := CR_aload_n h rfl
                    have h : MR X ρ 5 0 0 qP97 N 131 [a0, a1, a2, a3, y206 a1 8] [(1, a1), (1, a0)] m224 o := h
                    have h := CR_aload_n h rfl
                    have h : MR X ρ 5 0 0 qP97 N 132 [a0, a1, a2, a3, y206 a1 8] [(1, a2), (1, a1), (1, a0)] m224 o := h
                    have h := CR_aload h rfl
                    have h : MR X ρ 5 0 0 qP97 N 134 [a0, a1, a2, a3, y206 a1 8] [(1, y206 a1 8), (1, a2), (1, a1), (1, a0)] m224 o := h
                    obtain ⟨r232, m233, q234, h⟩ := MR_invV h rfl rfl
                    have q234 : Run X ρ 99 [(1, a0), (1, a1), (1, a2), (1, y206 a1 8)] m224 r232 m233 := q234
                    obtain ⟨v235, rfl, zv235⟩ := Run_z q234 rfl
                    have h : MR X ρ 5 0 0 qP97 N 137 [a0, a1, a2, a3, y206 a1 8] [(1, v235)] m233 o := h
                    refine ⟨v235, m233, q234, zv235, ?_⟩
                    exact CR_end h rfl rfl
                  ·
                    have c231 : ¬ (qer X (y206 a1 8) 1000020) := c231
                    refine Or.inr ⟨c231, ?_⟩
                    have h : MR X ρ 5 0 0 qP97 N 121 [a0, a1, a2, a3, y206 a1 8] [] m224 o := h
                    have h := CR_aload h rfl
                    have h : MR X ρ 5 0 0 qP97 N 123 [a0, a1, a2, a3, y206 a1 8] [(1, y206 a1 8)] m224 o := h
                    have h := CR_getstatic h rfl
                    have h : MR X ρ 5 0 0 qP97 N 126 [a0, a1, a2, a3, y206 a1 8] [(1, 1000021), (1, y206 a1 8)] m224 o := h
                    rcases CR_acmp h rfl rfl with ⟨c236, h⟩ | ⟨c236, h⟩
                    ·
                      have c236 : ¬ (qer X (y206 a1 8) 1000021) := c236
                      refine Or.inr ⟨c236, ?_⟩
                      have h : MR X ρ 5 0 0 qP97 N 138 [a0, a1, a2, a3, y206 a1 8] [] m224 o := h
                      have h := CR_aload h rfl
                      have h : MR X ρ 5 0 0 qP97 N 140 [a0, a1, a2, a3, y206 a1 8] [(1, y206 a1 8)] m224 o := h
                      have h := CR_getstatic h rfl
                      have h : MR X ρ 5 0 0 qP97 N 143 [a0, a1, a2, a3, y206 a1 8] [(1, 1000022), (1, y206 a1 8)] m224 o := h
                      rcases CR_acmp h rfl rfl with ⟨c237, h⟩ | ⟨c237, h⟩
                      ·
                        have c237 : qer X (y206 a1 8) 1000022 := c237
                        refine Or.inl ⟨c237, ?_⟩
                        have h : MR X ρ 5 0 0 qP97 N 162 [a0, a1, a2, a3, y206 a1 8] [] m224 o := h
                        have h := CR_aload_n h rfl
                        have h : MR X ρ 5 0 0 qP97 N 163 [a0, a1, a2, a3, y206 a1 8] [(1, a0)] m224 o := h
                        have h := CR_aload_n h rfl
                        have h : MR X ρ 5 0 0 qP97 N 164 [a0, a1, a2, a3, y206 a1 8] [(1, a1), (1, a0)] m224 o := h
                        have h := CR_aload h rfl
                        have h : MR X ρ 5 0 0 qP97 N 166 [a0, a1, a2, a3, y206 a1 8] [(1, y206 a1 8), (1, a1), (1, a0)] m224 o := h
                        obtain ⟨r238, m239, q240, h⟩ := MR_invV h rfl rfl
                        have q240 : Run X ρ 96 [(1, a0), (1, a1), (1, y206 a1 8)] m224 r238 m239 := q240
                        obtain ⟨v241, rfl, zv241⟩ := Run_z q240 rfl
                        have h : MR X ρ 5 0 0 qP97 N 169 [a0, a1, a2, a3, y206 a1 8] [(1, v241)] m239 o := h
                        refine ⟨v241, m239, q240, zv241, ?_⟩
                        exact CR_end h rfl rfl
                      ·
                        have c237 : ¬ (qer X (y206 a1 8) 1000022) := c237
                        refine Or.inr ⟨c237, ?_⟩
                        have h : MR X ρ 5 0 0 qP97 N 146 [a0, a1, a2, a3, y206 a1 8] [] m224 o := h
                        have h := CR_aload h rfl
                        have h : MR X ρ 5 0 0 qP97 N 148 [a0, a1, a2, a3, y206 a1 8] [(1, y206 a1 8)] m224 o := h
                        have h := CR_getstatic h rfl
                        have h : MR X ρ 5 0 0 qP97 N 151 [a0, a1, a2, a3, y206 a1 8] [(1, 1000023), (1, y206 a1 8)] m224 o := h
                        rcases CR_acmp h rfl rfl with ⟨c242, h⟩ | ⟨c242, h⟩
                        ·
                          have c242 : qer X (y206 a1 8) 1000023 := c242
                          refine Or.inl ⟨c242, ?_⟩
                          have h : MR X ρ 5 0 0 qP97 N 162 [a0, a1, a2, a3, y206 a1 8] [] m224 o := h
                          have h := CR_aload_n h rfl
                          have h : MR X ρ 5 0 0 qP97 N 163 [a0, a1, a2, a3, y206 a1 8] [(1, a0)] m224 o := h
                          have h := CR_aload_n h rfl
                          have h : MR X ρ 5 0 0 qP97 N 164 [a0, a1, a2, a3, y206 a1 8] [(1, a1), (1, a0)] m224 o := h
                          have h := CR_aload h rfl
                          have h : MR X ρ 5 0 0 qP97 N 166 [a0, a1, a2, a3, y206 a1 8] [(1, y206 a1 8), (1, a1), (1, a0)] m224 o := h
                          obtain ⟨r243, m244, q245, h⟩ := MR_invV h rfl rfl
                          have q245 : Run X ρ 96 [(1, a0), (1, a1), (1, y206 a1 8)] m224 r243 m244 := q245
                          obtain ⟨v246, rfl, zv246⟩ := Run_z q245 rfl
                          have h : MR X ρ 5 0 0 qP97 N 169 [a0, a1, a2, a3, y206 a1 8] [(1, v246)] m244 o := h
                          refine ⟨v246, m244, q245, zv246, ?_⟩
                          exact CR_end h rfl rfl
                        ·
                          have c242 : ¬ (qer X (y206 a1 8) 1000023) := c242
                          refine Or.inr ⟨c242, ?_⟩
                          have h : MR X ρ 5 0 0 qP97 N 154 [a0, a1, a2, a3, y206 a1 8] [] m224 o := h
                          have h := CR_aload h rfl
                          have h : MR X ρ 5 0 0 qP97 N 156 [a0, a1, a2, a3, y206 a1 8] [(1, y206 a1 8)] m224 o := h
                          have h := CR_getstatic h rfl
                          have h : MR X ρ 5 0 0 qP97 N 159 [a0, a1, a2, a3, y206 a1 8] [(1, 1000024), (1, y206 a1 8)] m224 o := h
                          rcases CR_acmp h rfl rfl with ⟨c247, h⟩ | ⟨c247, h⟩
                          ·
                            have c247 : ¬ (qer X (y206 a1 8) 1000024) := c247
                            refine Or.inr ⟨c247, ?_⟩
                            have h : MR X ρ 5 0 0 qP97 N 170 [a0, a1, a2, a3, y206 a1 8] [] m224 o := h
                            have h := CR_aload h rfl
                            have h : MR X ρ 5 0 0 qP97 N 172 [a0, a1, a2, a3, y206 a1 8] [(1, y206 a1 8)] m224 o := h
                            have h := CR_getstatic h rfl
                            have h : MR X ρ 5 0 0 qP97 N 175 [a0, a1, a2, a3, y206 a1 8] [(1, 1000018), (1, y206 a1 8)] m224 o := h
                            rcases CR_acmp h rfl rfl with ⟨c248, h⟩ | ⟨c248, h⟩
                            ·
                              have c248 : ¬ (qer X (y206 a1 8) 1000018) := c248
                              refine Or.inr ⟨c248, ?_⟩
                              have h : MR X ρ 5 0 0 qP97 N 188 [a0, a1, a2, a3, y206 a1 8] [] m224 o := h
                              have h := CR_aload_n h rfl
                              have h : MR X ρ 5 0 0 qP97 N 189 [a0, a1, a2, a3, y206 a1 8] [(1, a0)] m224 o := h
                              have h := CR_iconst h rfl rfl
                              have h : MR X ρ 5 0 0 qP97 N 190 [a0, a1, a2, a3, y206 a1 8] [(1, 3), (1, a0)] m224 o := h
                              have h := CR_aload h rfl
                              have h : MR X ρ 5 0 0 qP97 N 192 [a0, a1, a2, a3, y206 a1 8] [(1, y206 a1 8), (1, 3), (1, a0)] m224 o := h
                              obtain ⟨r249, m250, q251, h⟩ := MR_invS h rfl rfl
                              have q251 : Run X ρ 92 [(1, y206 a1 8)] m224 r249 m250 := q251
                              obtain ⟨e252, e253⟩ := d92 q251
                              rw [e252, e253] at h
                              have h : MR X ρ 5 0 0 qP97 N 195 [a0, a1, a2, a3, y206 a1 8] [(1, f92 X m224 (y206 a1 8)), (1, 3), (1, a0)] m224 o := h
                              have h := CR_iconst h rfl rfl
                              have h : MR X ρ 5 0 0 qP97 N 196 [a0, a1, a2, a3, y206 a1 8] [(1, 0), (1, f92 X m224 (y206 a1 8)), (1, 3), (1, a0)] m224 o := h
                              obtain ⟨r254, m255, q256, h⟩ := MR_invV h rfl rfl
                              have q256 : Run X ρ 101 [(1, a0), (1, 3), (1, f92 X m224 (y206 a1 8)), (1, 0)] m224 r254 m255 := q256
                              obtain ⟨e257, e258⟩ := d101 q256
                              rw [e257, e258] at h
                              have h : MR X ρ 5 0 0 qP97 N 199 [a0, a1, a2, a3, y206 a1 8] [(1, f101 m224 a0 3 (f92 X m224 (y206 a1 8)) 0)] (g101 m224 a0 3 (f92 X m224 (y206 a1 8)) 0) o := h
                              obtain ⟨y259, zy259, h⟩ : ∃ y, y = g101 m224 a0 3 (f92 X m224 (y206 a1 8)) 0 ∧ MR X ρ 5 0 0 qP97 N 199 [a0, a1, a2, a3, y206 a1 8] [(1, f101 m224 a0 3 (f92 X m224 (y206 a1 8)) 0)] y o := ⟨_, rfl, h⟩
                              have h : MR X ρ 5 0 0 qP97 N 199 [a0, a1, a2, a3, y206 a1 8] [(1, f101 m224 a0 3 (f92 X m224 (y206 a1 8)) 0)] y259 o := h
                              refine ⟨y259, zy259, ?_⟩
                              exact CR_end h rfl rfl
                            ·
                              have c248 : qer X (y206 a1 8) 1000018 := Decidable.of_not_not (show ¬ ¬ (qer X (y206 a1 8) 1000018) from c248)
                              refine Or.inl ⟨c248, ?_⟩
                              have h : MR X ρ 5 0 0 qP97 N 178 [a0, a1, a2, a3, y206 a1 8] [] m224 o := h
                              have h := CR_aload_n h rfl
                              have h : MR X ρ 5 0 0 qP97 N 179 [a0, a1, a2, a3, y206 a1 8] [(1, a0)] m224 o := h
                              have h := CR_iconst h rfl rfl
                              have h : MR X ρ 5 0 0 qP97 N 180 [a0, a1, a2, a3, y206 a1 8] [(1, 4), (1, a0)] m224 o := h
                              have h := CR_iconst h rfl rfl
                              have h : MR X ρ 5 0 0 qP97 N 181 [a0, a1, a2, a3, y206 a1 8] [(1, 0), (1, 4), (1, a0)] m224 o := h
                              have h := CR_iconst h rfl rfl
                              have h : MR X ρ 5 0 0 qP97 N 182 [a0, a1, a2, a3, y206 a1 8] [(1, 0), (1, 0), (1, 4), (1, a0)] m224 o := h
                              obtain ⟨r260, m261, q262, h⟩ := MR_invV h rfl rfl
                              have q262 : Run X ρ 101 [(1, a0), (1, 4), (1, 0), (1, 0)] m224 r260 m261 := q262
                              obtain ⟨e263, e264⟩ := d101 q262
                              rw [e263, e264] at h
                              have h : MR X ρ 5 0 0 qP97 N 185 [a0, a1, a2, a3, y206 a1 8] [(1, f101 m224 a0 4 0 0)] (g101 m224 a0 4 0 0) o := h
                              obtain ⟨y265, zy265, h⟩ : ∃ y, y = g101 m224 a0 4 0 0 ∧ MR X ρ 5 0 0 qP97 N 185 [a0, a1, a2, a3, y206 a1 8] [(1, f101 m224 a0 4 0 0)] y o := ⟨_, rfl, h⟩
                              have h : MR X ρ 5 0 0 qP97 N 185 [a0, a1, a2, a3, y206 a1 8] [(1, f101 m224 a0 4 0 0)] y265 o := h
                              refine ⟨y265, zy265, ?_⟩
                              have h := CR_go h rfl rfl
                              have h : MR X ρ 5 0 0 qP97 N 199 [a0, a1, a2, a3, y206 a1 8] [(1, f101 m224 a0 4 0 0)] y265 o := h
                              exact CR_end h rfl rfl
                          ·
                            have c247 : qer X (y206 a1 8) 1000024 := Decidable.of_not_not (show ¬ ¬ (qer X (y206 a1 8) 1000024) from c247)
                            refine Or.inl ⟨c247, ?_⟩
                            have h : MR X ρ 5 0 0 qP97 N 162 [a0, a1, a2, a3, y206 a1 8] [] m224 o := h
                            have h := CR_aload_n h rfl
                            have h : MR X ρ 5 0 0 qP97 N 163 [a0, a1, a2, a3, y206 a1 8] [(1, a0)] m224 o := h
                            have h := CR_aload_n h rfl
                            have h : MR X ρ 5 0 0 qP97 N 164 [a0, a1, a2, a3, y206 a1 8] [(1, a1), (1, a0)] m224 o := h
                            have h := CR_aload h rfl
                            have h : MR X ρ 5 0 0 qP97 N 166 [a0, a1, a2, a3, y206 a1 8] [(1, y206 a1 8), (1, a1), (1, a0)] m224 o := h
                            obtain ⟨r266, m267, q268, h⟩ := MR_invV h rfl rfl
                            have q268 : Run X ρ 96 [(1, a0), (1, a1), (1, y206 a1 8)] m224 r266 m267 := q268
                            obtain ⟨v269, rfl, zv269⟩ := Run_z q268 rfl
                            have h : MR X ρ 5 0 0 qP97 N 169 [a0, a1, a2, a3, y206 a1 8] [(1, v269)] m267 o := h
                            refine ⟨v269, m267, q268, zv269, ?_⟩
                            exact CR_end h rfl rfl
                    ·
                      have c236 : qer X (y206 a1 8) 1000021 := Decidable.of_not_not (show ¬ ¬ (qer X (y206 a1 8) 1000021) from c236)
                      refine Or.inl ⟨c236, ?_⟩
                      have h : MR X ρ 5 0 0 qP97 N 129 [a0, a1, a2, a3, y206 a1 8] [] m224 o := h
                      have h := CR_aload_n h rfl
                      have h : MR X ρ 5 0 0 qP97 N 130 [a0, a1, a2, a3, y206 a1 8] [(1, a0)] m224 o := h
                      have h := CR_aload_n h rfl
                      have h : MR X ρ 5 0 0 qP97 N 131 [a0, a1, a2, a3, y206 a1 8] [(1, a1), (1, a0)] m224 o := h
                      have h := CR_aload_n h rfl
                      have h : MR X ρ 5 0 0 qP97 N 132 [a0, a1, a2, a3, y206 a1 8] [(1, a2), (1, a1), (1, a0)] m224 o := h
                      have h := CR_aload h rfl
                      have h : MR X ρ 5 0 0 qP97 N 134 [a0, a1, a2, a3, y206 a1 8] [(1, y206 a1 8), (1, a2), (1, a1), (1, a0)] m224 o := h
                      obtain ⟨r270, m271, q272, h⟩ := MR_invV h rfl rfl
                      have q272 : Run X ρ 99 [(1, a0), (1, a1), (1, a2), (1, y206 a1 8)] m224 r270 m271 := q272
                      obtain ⟨v273, rfl, zv273⟩ := Run_z q272 rfl
                      have h : MR X ρ 5 0 0 qP97 N 137 [a0, a1, a2, a3, y206 a1 8] [(1, v273)] m271 o := h
                      refine ⟨v273, m271, q272, zv273, ?_⟩
                      exact CR_end h rfl rfl
              ·
                have c222 : ¬ ((f155 X y206 a1 1000017) = 0) := c222
                refine Or.inr ⟨c222, ?_⟩
                have h : MR X ρ 5 0 0 qP97 N 87 [a0, a1, a2, a3, 0] [] y206 o := h
                have h := CR_aload_n h rfl
                have h : MR X ρ 5 0 0 qP97 N 88 [a0, a1, a2, a3, 0] [(1, a0)] y206 o := h
                have h := CR_aload_n h rfl
                have h : MR X ρ 5 0 0 qP97 N 89 [a0, a1, a2, a3, 0] [(1, a1), (1, a0)] y206 o := h
                have h := CR_aload_n h rfl
                have h : MR X ρ 5 0 0 qP97 N 90 [a0, a1, a2, a3, 0] [(1, a2), (1, a1), (1, a0)] y206 o := h
                have h := CR_iload_n h rfl
                have h : MR X ρ 5 0 0 qP97 N 91 [a0, a1, a2, a3, 0] [(1, a3), (1, a2), (1, a1), (1, a0)] y206 o := h
                obtain ⟨r274, m275, q276, h⟩ := MR_invV h rfl rfl
                have q276 : Run X ρ 98 [(1, a0), (1, a1), (1, a2), (1, a3)] y206 r274 m275 := q276
                obtain ⟨v277, rfl, zv277⟩ := Run_z q276 rfl
                have h : MR X ρ 5 0 0 qP97 N 94 [a0, a1, a2, a3, 0] [(1, v277)] m275 o := h
                refine ⟨v277, m275, q276, zv277, ?_⟩
                exact CR_end h rfl rfl
          ·
            have c205 : ¬ (a3 ≤ 8) := c205
            refine Or.inr ⟨c205, ?_⟩
            have h : MR X ρ 5 0 0 qP97 N 52 [a0, a1, a2, a3, 0] [] m o := h
            have h := CR_aload_n h rfl
            have h : MR X ρ 5 0 0 qP97 N 53 [a0, a1, a2, a3, 0] [(1, a1)] m o := h
            have h := CR_iconst h rfl rfl
            have h : MR X ρ 5 0 0 qP97 N 54 [a0, a1, a2, a3, 0] [(1, 4), (1, a1)] m o := h
            obtain ⟨r278, m279, q280, h⟩ := MR_invV h rfl rfl
            have q280 : Run X ρ 158 [(1, a1), (1, 4)] m r278 m279 := q280
            obtain ⟨e281, e282⟩ := d158 q280
            rw [e281, e282] at h
            have h : MR X ρ 5 0 0 qP97 N 57 [a0, a1, a2, a3, 0] [(1, f158 m a1 4)] (g158 m a1 4) o := h
            obtain ⟨y283, zy283, h⟩ : ∃ y, y = g158 m a1 4 ∧ MR X ρ 5 0 0 qP97 N 57 [a0, a1, a2, a3, 0] [(1, f158 m a1 4)] y o := ⟨_, rfl, h⟩
            have h : MR X ρ 5 0 0 qP97 N 57 [a0, a1, a2, a3, 0] [(1, f158 m a1 4)] y283 o := h
            refine ⟨y283, zy283, ?_⟩
            exact CR_end h rfl rfl
      ·
        have c197 : (f86 X m (m a1 8)) = 0 := Decidable.of_not_not (show ¬ ¬ ((f86 X m (m a1 8)) = 0) from c197)
        refine Or.inl ⟨c197, ?_⟩
        have h : MR X ρ 5 0 0 qP97 N 31 [a0, a1, a2, a3, 0] [] m o := h
        have h := CR_aload_n h rfl
        have h : MR X ρ 5 0 0 qP97 N 32 [a0, a1, a2, a3, 0] [(1, a1)] m o := h
        have h := CR_iconst h rfl rfl
        have h : MR X ρ 5 0 0 qP97 N 33 [a0, a1, a2, a3, 0] [(1, 1), (1, a1)] m o := h
        obtain ⟨r284, m285, q286, h⟩ := MR_invV h rfl rfl
        have q286 : Run X ρ 158 [(1, a1), (1, 1)] m r284 m285 := q286
        obtain ⟨e287, e288⟩ := d158 q286
        rw [e287, e288] at h
        have h : MR X ρ 5 0 0 qP97 N 36 [a0, a1, a2, a3, 0] [(1, f158 m a1 1)] (g158 m a1 1) o := h
        obtain ⟨y289, zy289, h⟩ : ∃ y, y = g158 m a1 1 ∧ MR X ρ 5 0 0 qP97 N 36 [a0, a1, a2, a3, 0] [(1, f158 m a1 1)] y o := ⟨_, rfl, h⟩
        have h : MR X ρ 5 0 0 qP97 N 36 [a0, a1, a2, a3, 0] [(1, f158 m a1 1)] y289 o := h
        refine ⟨y289, zy289, ?_⟩
        exact CR_end h rfl rfl
set_option maxRecDepth 16384 in
theorem s98_0 {X : KO} {ρ : Nat → Int32} {m : MM} {N : Nat} {o : Instr × List (Nat × Int) × MM} {a0 a1 a2 a3 : Int} (h : MR X ρ 5 0 0 qP98 N 0 [a0, a1, a2, a3, 0] [] m o) : (∃ m7, Run X ρ 148 [(1, a1)] m [] m7 ∧ ((((f155 X m a1 1000017) = 0) ∧ (∃ v13 m11, Run X ρ 95 [(1, a0), (1, a1), (1, a2), (1, s32 (a3 + 1))] m7 [(1, v13)] m11 ∧ (v13 = 0 ∨ v13 = 1) ∧ (((v13 = 0) ∧ (o = (.ireturn, [(1, 0)], m11))) ∨ (¬ (v13 = 0) ∧ ((((f152 m11 a1 41) = 0) ∧ (∃ y29, y29 = g158 m11 a1 1 ∧ (o = (.ireturn, [(1, f158 m11 a1 1)], y29)))) ∨ (¬ ((f152 m11 a1 41) = 0) ∧ (∃ m22, Run X ρ 148 [(1, a1)] m11 [] m22 ∧ (o = (.ireturn, [(1, 1)], m22))))))))) ∨ (¬ ((f155 X m a1 1000017) = 0) ∧ (∃ v33 m31, Run X ρ 97 [(1, a0), (1, a1), (1, a2), (1, s32 (a3 + 1))] m7 [(1, v33)] m31 ∧ (v33 = 0 ∨ v33 = 1) ∧ (((v33 = 0) ∧ (o = (.ireturn, [(1, 0)], m31))) ∨ (¬ (v33 = 0) ∧ (∃ y40, y40 = g101 m31 a0 0 0 0 ∧ ((((f101 m31 a0 0 0 0) = 0) ∧ (o = (.ireturn, [(1, 0)], y40))) ∨ (¬ ((f101 m31 a0 0 0 0) = 0) ∧ (o = (.ireturn, [(1, 1)], y40))))))))))) := by
  have h := CR_aload_n h rfl
  have h : MR X ρ 5 0 0 qP98 N 1 [a0, a1, a2, a3, 0] [(1, a1)] m o := h
  have h := CR_getstatic h rfl
  have h : MR X ρ 5 0 0 qP98 N 4 [a0, a1, a2, a3, 0] [(1, 1000017), (1, a1)] m o := h
  obtain ⟨r1, m2, q3, h⟩ := MR_invV h rfl rfl
  have q3 : Run X ρ 155 [(1, a1), (1, 1000017)] m r1 m2 := q3
  obtain ⟨e4, e5⟩ := d155 q3
  rw [e4, e5] at h
  have h : MR X ρ 5 0 0 qP98 N 7 [a0, a1, a2, a3, 0] [(1, f155 X m a1 1000017)] m o := h
  have h := CR_istore h rfl (Nat.le_of_ble_eq_true rfl)
  have h : MR X ρ 5 0 0 qP98 N 9 [a0, a1, a2, a3, f155 X m a1 1000017] [] m o := h
  have h := CR_aload_n h rfl
  have h : MR X ρ 5 0 0 qP98 N 10 [a0, a1, a2, a3, f155 X m a1 1000017] [(1, a1)] m o := h
  obtain ⟨r6, m7, q8, h⟩ := MR_invV h rfl rfl
  have q8 : Run X ρ 148 [(1, a1)] m r6 m7 := q8
  obtain rfl := Run_v q8 rfl
  have h : MR X ρ 5 0 0 qP98 N 13 [a0, a1, a2, a3, f155 X m a1 1000017] [] m7 o := h
  refine ⟨m7, q8, ?_⟩
  have h := CR_iload h rfl
  have h : MR X ρ 5 0 0 qP98 N 15 [a0, a1, a2, a3, f155 X m a1 1000017] [(1, f155 X m a1 1000017)] m7 o := h
  rcases MR_if h rfl rfl with ⟨c9, h⟩ | ⟨c9, h⟩
  ·
    have c9 : (f155 X m a1 1000017) = 0 := c9
    refine Or.inl ⟨c9, ?_⟩
    have h : MR X ρ 5 0 0 qP98 N 46 [a0, a1, a2, a3, f155 X m a1 1000017] [] m7 o := h
    have h := CR_aload_n h rfl
    have h : MR X ρ 5 0 0 qP98 N 47 [a0, a1, a2, a3, f155 X m a1 1000017] [(1, a0)] m7 o := h
    have h := CR_aload_n h rfl
    have h : MR X ρ 5 0 0 qP98 N 48 [a0, a1, a2, a3, f155 X m a1 1000017] [(1, a1), (1, a0)] m7 o := h
    have h := CR_aload_n h rfl
    have h : MR X ρ 5 0 0 qP98 N 49 [a0, a1, a2, a3, f155 X m a1 1000017] [(1, a2), (1, a1), (1, a0)] m7 o := h
    have h := CR_iload_n h rfl
    have h : MR X ρ 5 0 0 qP98 N 50 [a0, a1, a2, a3, f155 X m a1 1000017] [(1, a3), (1, a2), (1, a1), (1, a0)] m7 o := h
    have h := CR_iconst h rfl rfl
    have h : MR X ρ 5 0 0 qP98 N 51 [a0, a1, a2, a3, f155 X m a1 1000017] [(1, 1), (1, a3), (1, a2), (1, a1), (1, a0)] m7 o := h
    have h := CR_iadd h rfl
    have h : MR X ρ 5 0 0 qP98 N 52 [a0, a1, a2, a3, f155 X m a1 1000017] [(1, s32 (a3 + 1)), (1, a2), (1, a1), (1, a0)] m7 o := h
    obtain ⟨r10, m11, q12, h⟩ := MR_invV h rfl rfl
    have q12 : Run X ρ 95 [(1, a0), (1, a1), (1, a2), (1, s32 (a3 + 1))] m7 r10 m11 := q12
    obtain ⟨v13, rfl, zv13⟩ := Run_z q12 rfl
    have h : MR X ρ 5 0 0 qP98 N 55 [a0, a1, a2, a3, f155 X m a1 1000017] [(1, v13)] m11 o := h
    refine ⟨v13, m11, q12, zv13, ?_⟩
    rcases MR_if h rfl rfl with ⟨c14, h⟩ | ⟨c14, h⟩
    ·
      have c14 : ¬ (v13 = 0) := c14
      refine Or.inr ⟨c14, ?_⟩
      have h : MR X ρ 5 0 0 qP98 N 60 [a0, a1, a2, a3, f155 X m a1 1000017] [] m11 o := h
      have h := CR_aload_n h rfl
      have h : MR X ρ 5 0 0 qP98 N 61 [a0, a1, a2, a3, f155 X m a1 1000017] [(1, a1)] m11 o := h
      have h := CR_bipush h rfl rfl
      have h : MR X ρ 5 0 0 qP98 N 63 [a0, a1, a2, a3, f155 X m a1 1000017] [(1, 41), (1, a1)] m11 o := h
      obtain ⟨r15, m16, q17, h⟩ := MR_invV h rfl rfl
      have q17 : Run X ρ 152 [(1, a1), (1, 41)] m11 r15 m16 := q17
      obtain ⟨e18, e19⟩ := d152 q17
      rw [e18, e19] at h
      have h : MR X ρ 5 0 0 qP98 N 66 [a0, a1, a2, a3, f155 X m a1 1000017] [(1, f152 m11 a1 41)] m11 o := h
      rcases MR_if h rfl rfl with ⟨c20, h⟩ | ⟨c20, h⟩
      ·
        have c20 : ¬ ((f152 m11 a1 41) = 0) := c20
        refine Or.inr ⟨c20, ?_⟩
        have h : MR X ρ 5 0 0 qP98 N 75 [a0, a1, a2, a3, f155 X m a1 1000017] [] m11 o := h
        have h := CR_aload_n h rfl
        have h : MR X ρ 5 0 0 qP98 N 76 [a0, a1, a2, a3, f155 X m a1 1000017] [(1, a1)] m11 o := h
        obtain ⟨r21, m22, q23, h⟩ := MR_invV h rfl rfl
        have q23 : Run X ρ 148 [(1, a1)] m11 r21 m22 := q23
        obtain rfl := Run_v q23 rfl
        have h : MR X ρ 5 0 0 qP98 N 79 [a0, a1, a2, a3, f155 X m a1 1000017] [] m22 o := h
        refine ⟨m22, q23, ?_⟩
        have h := CR_iconst h rfl rfl
        have h : MR X ρ 5 0 0 qP98 N 80 [a0, a1, a2, a3, f155 X m a1 1000017] [(1, 1)] m22 o := h
        exact CR_end h rfl rfl
      ·
        have c20 : (f152 m11 a1 41) = 0 := Decidable.of_not_not (show ¬ ¬ ((f152 m11 a1 41) = 0) from c20)
        refine Or.inl ⟨c20, ?_⟩
        have h : MR X ρ 5 0 0 qP98 N 69 [a0, a1, a2, a3, f155 X m a1 1000017] [] m11 o := h
        have h := CR_aload_n h rfl
        have h : MR X ρ 5 0 0 qP98 N 70 [a0, a1, a2, a3, f155 X m a1 1000017] [(1, a1)] m11 o := h
        have h := CR_iconst h rfl rfl
        have h : MR X ρ 5 0 0 qP98 N 71 [a0, a1, a2, a3, f155 X m a1 1000017] [(1, 1), (1, a1)] m11 o := h
        obtain ⟨r24, m25, q26, h⟩ := MR_invV h rfl rfl
        have q26 : Run X ρ 158 [(1, a1), (1, 1)] m11 r24 m25 := q26
        obtain ⟨e27, e28⟩ := d158 q26
        rw [e27, e28] at h
        have h : MR X ρ 5 0 0 qP98 N 74 [a0, a1, a2, a3, f155 X m a1 1000017] [(1, f158 m11 a1 1)] (g158 m11 a1 1) o := h
        obtain ⟨y29, zy29, h⟩ : ∃ y, y = g158 m11 a1 1 ∧ MR X ρ 5 0 0 qP98 N 74 [a0, a1, a2, a3, f155 X m a1 1000017] [(1, f158 m11 a1 1)] y o := ⟨_, rfl, h⟩
        have h : MR X ρ 5 0 0 qP98 N 74 [a0, a1, a2, a3, f155 X m a1 1000017] [(1, f158 m11 a1 1)] y29 o := h
        refine ⟨y29, zy29, ?_⟩
        exact CR_end h rfl rfl
    ·
      have c14 : v13 = 0 := Decidable.of_not_not (show ¬ ¬ (v13 = 0) from c14)
      refine Or.inl ⟨c14, ?_⟩
      have h : MR X ρ 5 0 0 qP98 N 58 [a0, a1, a2, a3, f155 X m a1 1000017] [] m11 o := h
      have h := CR_iconst h rfl rfl
      have h : MR X ρ 5 0 0 qP98 N 59 [a0, a1, a2, a3, f155 X m a1 1000017] [(1, 0)] m11 o := h
      exact CR_end h rfl rfl
  ·
    have c9 : ¬ ((f155 X m a1 1000017) = 0) := c9
    refine Or.inr ⟨c9, ?_⟩
    have h : MR X ρ 5 0 0 qP98 N 18 [a0, a1, a2, a3, f155 X m a1 1000017] [] m7 o := h
    have h := CR_aload_n h rfl
    have h : MR X ρ 5 0 0 qP98 N 19 [a0, a1, a2, a3, f155 X m a1 1000017] [(1, a0)] m7 o := h
    have h := CR_aload_n h rfl
    have h : MR X ρ 5 0 0 qP98 N 20 [a0, a1, a2, a3, f155 X m a1 1000017] [(1, a1), (1, a0)] m7 o := h
    have h := CR_aload_n h rfl
    have h : MR X ρ 5 0 0 qP98 N 21 [a0, a1, a2, a3, f155 X m a1 1000017] [(1, a2), (1, a1), (1, a0)] m7 o := h
    have h := CR_iload_n h rfl
    have h : MR X ρ 5 0 0 qP98 N 22 [a0, a1, a2, a3, f155 X m a1 1000017] [(1, a3), (1, a2), (1, a1), (1, a0)] m7 o := h
    have h := CR_iconst h rfl rfl
    have h : MR X ρ 5 0 0 qP98 N 23 [a0, a1, a2, a3, f155 X m a1 1000017] [(1, 1), (1, a3), (1, a2), (1, a1), (1, a0)] m7 o := h
    have h := CR_iadd h rfl
    have h : MR X ρ 5 0 0 qP98 N 24 [a0, a1, a2, a3, f155 X m a1 1000017] [(1, s32 (a3 + 1)), (1, a2), (1, a1), (1, a0)] m7 o := h
    obtain ⟨r30, m31, q32, h⟩ := MR_invV h rfl rfl
    have q32 : Run X ρ 97 [(1, a0), (1, a1), (1, a2), (1, s32 (a3 + 1))] m7 r30 m31 := q32
    obtain ⟨v33, rfl, zv33⟩ := Run_z q32 rfl
    have h : MR X ρ 5 0 0 qP98 N 27 [a0, a1, a2, a3, f155 X m a1 1000017] [(1, v33)] m31 o := h
    refine ⟨v33, m31, q32, zv33, ?_⟩
    rcases MR_if h rfl rfl with ⟨c34, h⟩ | ⟨c34, h⟩
    ·
      have c34 : v33 = 0 := c34
      refine Or.inl ⟨c34, ?_⟩
      have h : MR X ρ 5 0 0 qP98 N 44 [a0, a1, a2, a3, f155 X m a1 1000017] [] m31 o := h
      have h := CR_iconst h rfl rfl
      have h : MR X ρ 5 0 0 qP98 N 45 [a0, a1, a2, a3, f155 X m a1 1000017] [(1, 0)] m31 o := h
      exact CR_end h rfl rfl
    ·
      have c34 : ¬ (v33 = 0) := c34
      refine Or.inr ⟨c34, ?_⟩
      have h : MR X ρ 5 0 0 qP98 N 30 [a0, a1, a2, a3, f155 X m a1 1000017] [] m31 o := h
      have h := CR_aload_n h rfl
      have h : MR X ρ 5 0 0 qP98 N 31 [a0, a1, a2, a3, f155 X m a1 1000017] [(1, a0)] m31 o := h
      have h := CR_iconst h rfl rfl
      have h : MR X ρ 5 0 0 qP98 N 32 [a0, a1, a2, a3, f155 X m a1 1000017] [(1, 0), (1, a0)] m31 o := h
      have h := CR_iconst h rfl rfl
      have h : MR X ρ 5 0 0 qP98 N 33 [a0, a1, a2, a3, f155 X m a1 1000017] [(1, 0), (1, 0), (1, a0)] m31 o := h
      have h := CR_iconst h rfl rfl
      have h : MR X ρ 5 0 0 qP98 N 34 [a0, a1, a2, a3, f155 X m a1 1000017] [(1, 0), (1, 0), (1, 0), (1, a0)] m31 o := h
      obtain ⟨r35, m36, q37, h⟩ := MR_invV h rfl rfl
      have q37 : Run X ρ 101 [(1, a0), (1, 0), (1, 0), (1, 0)] m31 r35 m36 := q37
      obtain ⟨e38, e39⟩ := d101 q37
      rw [e38, e39] at h
      have h : MR X ρ 5 0 0 qP98 N 37 [a0, a1, a2, a3, f155 X m a1 1000017] [(1, f101 m31 a0 0 0 0)] (g101 m31 a0 0 0 0) o := h
      obtain ⟨y40, zy40, h⟩ : ∃ y, y = g101 m31 a0 0 0 0 ∧ MR X ρ 5 0 0 qP98 N 37 [a0, a1, a2, a3, f155 X m a1 1000017] [(1, f101 m31 a0 0 0 0)] y o := ⟨_, rfl, h⟩
      have h : MR X ρ 5 0 0 qP98 N 37 [a0, a1, a2, a3, f155 X m a1 1000017] [(1, f101 m31 a0 0 0 0)] y40 o := h
      refine ⟨y40, zy40, ?_⟩
      rcases MR_if h rfl rfl with ⟨c41, h⟩ | ⟨c41, h⟩
      ·
        have c41 : (f101 m31 a0 0 0 0) = 0 := c41
        refine Or.inl ⟨c41, ?_⟩
        have h : MR X ρ 5 0 0 qP98 N 44 [a0, a1, a2, a3, f155 X m a1 1000017] [] y40 o := h
        have h := CR_iconst h rfl rfl
        have h : MR X ρ 5 0 0 qP98 N 45 [a0, a1, a2, a3, f155 X m a1 1000017] [(1, 0)] y40 o := h
        exact CR_end h rfl rfl
      ·
        have c41 : ¬ ((f101 m31 a0 0 0 0) = 0) := c41
        refine Or.inr ⟨c41, ?_⟩
        have h : MR X ρ 5 0 0 qP98 N 40 [a0, a1, a2, a3, f155 X m a1 1000017] [] y40 o := h
        have h := CR_iconst h rfl rfl
        have h : MR X ρ 5 0 0 qP98 N 41 [a0, a1, a2, a3, f155 X m a1 1000017] [(1, 1)] y40 o := h
        have h := CR_go h rfl rfl
        have h : MR X ρ 5 0 0 qP98 N 45 [a0, a1, a2, a3, f155 X m a1 1000017] [(1, 1)] y40 o := h
        exact CR_end h rfl rfl
set_option maxRecDepth 16384 in
theorem s99_0 {X : KO} {ρ : Nat → Int32} {m : MM} {N : Nat} {o : Instr × List (Nat × Int) × MM} {a0 a1 a2 a3 : Int} (h : MR X ρ 5 0 0 qP99 N 0 [a0, a1, a2, a3, 0] [] m o) : (∃ v4 m2, Run X ρ 76 [(1, a2), (1, a1)] m [(1, v4)] m2 ∧ (((v4 = (-1)) ∧ (o = (.ireturn, [(1, 0)], m2))) ∨ (¬ (v4 = (-1)) ∧ (∃ m7, Run X ρ 148 [(1, a1)] m2 [] m7 ∧ (((qer X a3 1000019) ∧ (∃ y28, y28 = g101 m7 a0 5 v4 0 ∧ (o = (.ireturn, [(1, f101 m7 a0 5 v4 0)], y28)))) ∨ (¬ (qer X a3 1000019) ∧ (((qer X a3 1000020) ∧ (∃ y22, y22 = g101 m7 a0 6 v4 0 ∧ (o = (.ireturn, [(1, f101 m7 a0 6 v4 0)], y22)))) ∨ (¬ (qer X a3 1000020) ∧ (∃ y16, y16 = g101 m7 a0 7 v4 0 ∧ (o = (.ireturn, [(1, f101 m7 a0 7 v4 0)], y16))))))))))) := by
  have h := CR_aload_n h rfl
  have h : MR X ρ 5 0 0 qP99 N 1 [a0, a1, a2, a3, 0] [(1, a2)] m o := h
  have h := CR_aload_n h rfl
  have h : MR X ρ 5 0 0 qP99 N 2 [a0, a1, a2, a3, 0] [(1, a1), (1, a2)] m o := h
  obtain ⟨r1, m2, q3, h⟩ := MR_invV h rfl rfl
  have q3 : Run X ρ 76 [(1, a2), (1, a1)] m r1 m2 := q3
  obtain ⟨v4, rfl⟩ := Run_i q3 rfl
  have h : MR X ρ 5 0 0 qP99 N 5 [a0, a1, a2, a3, 0] [(1, v4)] m2 o := h
  refine ⟨v4, m2, q3, ?_⟩
  have h := CR_istore h rfl (Nat.le_of_ble_eq_true rfl)
  have h : MR X ρ 5 0 0 qP99 N 7 [a0, a1, a2, a3, v4] [] m2 o := h
  have h := CR_iload h rfl
  have h : MR X ρ 5 0 0 qP99 N 9 [a0, a1, a2, a3, v4] [(1, v4)] m2 o := h
  have h := CR_iconst h rfl rfl
  have h : MR X ρ 5 0 0 qP99 N 10 [a0, a1, a2, a3, v4] [(1, -1), (1, v4)] m2 o := h
  rcases MR_icmp h rfl rfl with ⟨c5, h⟩ | ⟨c5, h⟩
  ·
    have c5 : ¬ (v4 = (-1)) := c5
    refine Or.inr ⟨c5, ?_⟩
    have h : MR X ρ 5 0 0 qP99 N 15 [a0, a1, a2, a3, v4] [] m2 o := h
    have h := CR_aload_n h rfl
    have h : MR X ρ 5 0 0 qP99 N 16 [a0, a1, a2, a3, v4] [(1, a1)] m2 o := h
    obtain ⟨r6, m7, q8, h⟩ := MR_invV h rfl rfl
    have q8 : Run X ρ 148 [(1, a1)] m2 r6 m7 := q8
    obtain rfl := Run_v q8 rfl
    have h : MR X ρ 5 0 0 qP99 N 19 [a0, a1, a2, a3, v4] [] m7 o := h
    refine ⟨m7, q8, ?_⟩
    have h := CR_aload_n h rfl
    have h : MR X ρ 5 0 0 qP99 N 20 [a0, a1, a2, a3, v4] [(1, a3)] m7 o := h
    have h := CR_getstatic h rfl
    have h : MR X ρ 5 0 0 qP99 N 23 [a0, a1, a2, a3, v4] [(1, 1000019), (1, a3)] m7 o := h
    rcases CR_acmp h rfl rfl with ⟨c9, h⟩ | ⟨c9, h⟩
    ·
      have c9 : ¬ (qer X a3 1000019) := c9
      refine Or.inr ⟨c9, ?_⟩
      have h : MR X ρ 5 0 0 qP99 N 35 [a0, a1, a2, a3, v4] [] m7 o := h
      have h := CR_aload_n h rfl
      have h : MR X ρ 5 0 0 qP99 N 36 [a0, a1, a2, a3, v4] [(1, a3)] m7 o := h
      have h := CR_getstatic h rfl
      have h : MR X ρ 5 0 0 qP99 N 39 [a0, a1, a2, a3, v4] [(1, 1000020), (1, a3)] m7 o := h
      rcases CR_acmp h rfl rfl with ⟨c10, h⟩ | ⟨c10, h⟩
      ·
        have c10 : ¬ (qer X a3 1000020) := c10
        refine Or.inr ⟨c10, ?_⟩
        have h : MR X ρ 5 0 0 qP99 N 54 [a0, a1, a2, a3, v4] [] m7 o := h
        have h := CR_aload_n h rfl
        have h : MR X ρ 5 0 0 qP99 N 55 [a0, a1, a2, a3, v4] [(1, a0)] m7 o := h
        have h := CR_bipush h rfl rfl
        have h : MR X ρ 5 0 0 qP99 N 57 [a0, a1, a2, a3, v4] [(1, 7), (1, a0)] m7 o := h
        have h := CR_iload h rfl
        have h : MR X ρ 5 0 0 qP99 N 59 [a0, a1, a2, a3, v4] [(1, v4), (1, 7), (1, a0)] m7 o := h
        have h := CR_iconst h rfl rfl
        have h : MR X ρ 5 0 0 qP99 N 60 [a0, a1, a2, a3, v4] [(1, 0), (1, v4), (1, 7), (1, a0)] m7 o := h
        obtain ⟨r11, m12, q13, h⟩ := MR_invV h rfl rfl
        have q13 : Run X ρ 101 [(1, a0), (1, 7), (1, v4), (1, 0)] m7 r11 m12 := q13
        obtain ⟨e14, e15⟩ := d101 q13
        rw [e14, e15] at h
        have h : MR X ρ 5 0 0 qP99 N 63 [a0, a1, a2, a3, v4] [(1, f101 m7 a0 7 v4 0)] (g101 m7 a0 7 v4 0) o := h
        obtain ⟨y16, zy16, h⟩ : ∃ y, y = g101 m7 a0 7 v4 0 ∧ MR X ρ 5 0 0 qP99 N 63 [a0, a1, a2, a3, v4] [(1, f101 m7 a0 7 v4 0)] y o := ⟨_, rfl, h⟩
        have h : MR X ρ 5 0 0 qP99 N 63 [a0, a1, a2, a3, v4] [(1, f101 m7 a0 7 v4 0)] y16 o := h
        refine ⟨y16, zy16, ?_⟩
        exact CR_end h rfl rfl
      ·
        have c10 : qer X a3 1000020 := Decidable.of_not_not (show ¬ ¬ (qer X a3 1000020) from c10)
        refine Or.inl ⟨c10, ?_⟩
        have h : MR X ρ 5 0 0 qP99 N 42 [a0, a1, a2, a3, v4] [] m7 o := h
        have h := CR_aload_n h rfl
        have h : MR X ρ 5 0 0 qP99 N 43 [a0, a1, a2, a3, v4] [(1, a0)] m7 o := h
        have h := CR_bipush h rfl rfl
        have h : MR X ρ 5 0 0 qP99 N 45 [a0, a1, a2, a3, v4] [(1, 6), (1, a0)] m7 o := h
        have h := CR_iload h rfl
        have h : MR X ρ 5 0 0 qP99 N 47 [a0, a1, a2, a3, v4] [(1, v4), (1, 6), (1, a0)] m7 o := h
        have h := CR_iconst h rfl rfl
        have h : MR X ρ 5 0 0 qP99 N 48 [a0, a1, a2, a3, v4] [(1, 0), (1, v4), (1, 6), (1, a0)] m7 o := h
        obtain ⟨r17, m18, q19, h⟩ := MR_invV h rfl rfl
        have q19 : Run X ρ 101 [(1, a0), (1, 6), (1, v4), (1, 0)] m7 r17 m18 := q19
        obtain ⟨e20, e21⟩ := d101 q19
        rw [e20, e21] at h
        have h : MR X ρ 5 0 0 qP99 N 51 [a0, a1, a2, a3, v4] [(1, f101 m7 a0 6 v4 0)] (g101 m7 a0 6 v4 0) o := h
        obtain ⟨y22, zy22, h⟩ : ∃ y, y = g101 m7 a0 6 v4 0 ∧ MR X ρ 5 0 0 qP99 N 51 [a0, a1, a2, a3, v4] [(1, f101 m7 a0 6 v4 0)] y o := ⟨_, rfl, h⟩
        have h : MR X ρ 5 0 0 qP99 N 51 [a0, a1, a2, a3, v4] [(1, f101 m7 a0 6 v4 0)] y22 o := h
        refine ⟨y22, zy22, ?_⟩
        have h := CR_go h rfl rfl
        have h : MR X ρ 5 0 0 qP99 N 63 [a0, a1, a2, a3, v4] [(1, f101 m7 a0 6 v4 0)] y22 o := h
        exact CR_end h rfl rfl
    ·
      have c9 : qer X a3 1000019 := Decidable.of_not_not (show ¬ ¬ (qer X a3 1000019) from c9)
      refine Or.inl ⟨c9, ?_⟩
      have h : MR X ρ 5 0 0 qP99 N 26 [a0, a1, a2, a3, v4] [] m7 o := h
      have h := CR_aload_n h rfl
      have h : MR X ρ 5 0 0 qP99 N 27 [a0, a1, a2, a3, v4] [(1, a0)] m7 o := h
      have h := CR_iconst h rfl rfl
      have h : MR X ρ 5 0 0 qP99 N 28 [a0, a1, a2, a3, v4] [(1, 5), (1, a0)] m7 o := h
      have h := CR_iload h rfl
      have h : MR X ρ 5 0 0 qP99 N 30 [a0, a1, a2, a3, v4] [(1, v4), (1, 5), (1, a0)] m7 o := h
      have h := CR_iconst h rfl rfl
      have h : MR X ρ 5 0 0 qP99 N 31 [a0, a1, a2, a3, v4] [(1, 0), (1, v4), (1, 5), (1, a0)] m7 o := h
      obtain ⟨r23, m24, q25, h⟩ := MR_invV h rfl rfl
      have q25 : Run X ρ 101 [(1, a0), (1, 5), (1, v4), (1, 0)] m7 r23 m24 := q25
      obtain ⟨e26, e27⟩ := d101 q25
      rw [e26, e27] at h
      have h : MR X ρ 5 0 0 qP99 N 34 [a0, a1, a2, a3, v4] [(1, f101 m7 a0 5 v4 0)] (g101 m7 a0 5 v4 0) o := h
      obtain ⟨y28, zy28, h⟩ : ∃ y, y = g101 m7 a0 5 v4 0 ∧ MR X ρ 5 0 0 qP99 N 34 [a0, a1, a2, a3, v4] [(1, f101 m7 a0 5 v4 0)] y o := ⟨_, rfl, h⟩
      have h : MR X ρ 5 0 0 qP99 N 34 [a0, a1, a2, a3, v4] [(1, f101 m7 a0 5 v4 0)] y28 o := h
      refine ⟨y28, zy28, ?_⟩
      exact CR_end h rfl rfl
  ·
    have c5 : v4 = (-1) := Decidable.of_not_not (show ¬ ¬ (v4 = (-1)) from c5)
    refine Or.inl ⟨c5, ?_⟩
    have h : MR X ρ 5 0 0 qP99 N 13 [a0, a1, a2, a3, v4] [] m2 o := h
    have h := CR_iconst h rfl rfl
    have h : MR X ρ 5 0 0 qP99 N 14 [a0, a1, a2, a3, v4] [(1, 0)] m2 o := h
    exact CR_end h rfl rfl
set_option maxRecDepth 16384 in
theorem s96_0 {X : KO} {ρ : Nat → Int32} {m : MM} {N : Nat} {o : Instr × List (Nat × Int) × MM} {a0 a1 a2 : Int} (h : MR X ρ 5 0 0 qP96 N 0 [a0, a1, a2, 0, 0] [] m o) : ((((f152 m a1 60) = 0) ∧ ((((f152 m a1 61) = 0) ∧ ((((f152 m a1 62) = 0) ∧ (∃ y123, y123 = g158 m a1 1 ∧ (o = (.ireturn, [(1, f158 m a1 1)], y123)))) ∨ (¬ ((f152 m a1 62) = 0) ∧ (∃ m86, Run X ρ 148 [(1, a1)] m [] m86 ∧ (∃ y93, y93 = g156 m86 a1 0 999 ∧ ((((f156 m86 a1 0 999) = (-1)) ∧ (o = (.ireturn, [(1, 0)], y93))) ∨ (¬ ((f156 m86 a1 0 999) = (-1)) ∧ (∃ m96, Run X ρ 148 [(1, a1)] y93 [] m96 ∧ (((qer X a2 1000022) ∧ (∃ y117, y117 = g101 m96 a0 8 (m a1 6) (f156 m86 a1 0 999) ∧ (o = (.ireturn, [(1, f101 m96 a0 8 (m a1 6) (f156 m86 a1 0 999))], y117)))) ∨ (¬ (qer X a2 1000022) ∧ (((qer X a2 1000023) ∧ (∃ y111, y111 = g101 m96 a0 9 (m a1 6) (f156 m86 a1 0 999) ∧ (o = (.ireturn, [(1, f101 m96 a0 9 (m a1 6) (f156 m86 a1 0 999))], y111)))) ∨ (¬ (qer X a2 1000023) ∧ (∃ y105, y105 = g101 m96 a0 10 (m a1 6) (f156 m86 a1 0 999) ∧ (o = (.ireturn, [(1, f101 m96 a0 10 (m a1 6) (f156 m86 a1 0 999))], y105))))))))))))))) ∨ (¬ ((f152 m a1 61) = 0) ∧ (∃ m47, Run X ρ 148 [(1, a1)] m [] m47 ∧ (∃ y54, y54 = g156 m47 a1 0 999 ∧ ((((f156 m47 a1 0 999) = (-1)) ∧ (o = (.ireturn, [(1, 0)], y54))) ∨ (¬ ((f156 m47 a1 0 999) = (-1)) ∧ (∃ m57, Run X ρ 148 [(1, a1)] y54 [] m57 ∧ (((qer X a2 1000022) ∧ (∃ y78, y78 = g101 m57 a0 8 (m a1 6) (f156 m47 a1 0 999) ∧ (o = (.ireturn, [(1, f101 m57 a0 8 (m a1 6) (f156 m47 a1 0 999))], y78)))) ∨ (¬ (qer X a2 1000022) ∧ (((qer X a2 1000023) ∧ (∃ y72, y72 = g101 m57 a0 9 (m a1 6) (f156 m47 a1 0 999) ∧ (o = (.ireturn, [(1, f101 m57 a0 9 (m a1 6) (f156 m47 a1 0 999))], y72)))) ∨ (¬ (qer X a2 1000023) ∧ (∃ y66, y66 = g101 m57 a0 10 (m a1 6) (f156 m47 a1 0 999) ∧ (o = (.ireturn, [(1, f101 m57 a0 10 (m a1 6) (f156 m47 a1 0 999))], y66))))))))))))))) ∨ (¬ ((f152 m a1 60) = 0) ∧ (∃ m8, Run X ρ 148 [(1, a1)] m [] m8 ∧ (∃ y15, y15 = g156 m8 a1 0 999 ∧ ((((f156 m8 a1 0 999) = (-1)) ∧ (o = (.ireturn, [(1, 0)], y15))) ∨ (¬ ((f156 m8 a1 0 999) = (-1)) ∧ (∃ m18, Run X ρ 148 [(1, a1)] y15 [] m18 ∧ (((qer X a2 1000022) ∧ (∃ y39, y39 = g101 m18 a0 8 (m a1 6) (f156 m8 a1 0 999) ∧ (o = (.ireturn, [(1, f101 m18 a0 8 (m a1 6) (f156 m8 a1 0 999))], y39)))) ∨ (¬ (qer X a2 1000022) ∧ (((qer X a2 1000023) ∧ (∃ y33, y33 = g101 m18 a0 9 (m a1 6) (f156 m8 a1 0 999) ∧ (o = (.ireturn, [(1, f101 m18 a0 9 (m a1 6) (f156 m8 a1 0 999))], y33)))) ∨ (¬ (qer X a2 1000023) ∧ (∃ y27, y27 = g101 m18 a0 10 (m a1 6) (f156 m8 a1 0 999) ∧ (o = (.ireturn, [(1, f101 m18 a0 10 (m a1 6) (f156 m8 a1 0 999))], y27)))))))))))))) := by
  have h := CR_aload_n h rfl
  have h : MR X ρ 5 0 0 qP96 N 1 [a0, a1, a2, 0, 0] [(1, a1)] m o := h
  have h := CR_bipush h rfl rfl
  have h : MR X ρ 5 0 0 qP96 N 3 [a0, a1, a2, 0, 0] [(1, 60), (1, a1)] m o := h
  obtain ⟨r1, m2, q3, h⟩ := MR_invV h rfl rfl
  have q3 : Run X ρ 152 [(1, a1), (1, 60)] m r1 m2 := q3
  obtain ⟨e4, e5⟩ := d152 q3
  rw [e4, e5] at h
  have h : MR X ρ 5 0 0 qP96 N 6 [a0, a1, a2, 0, 0] [(1, f152 m a1 60)] m o := h
  rcases MR_if h rfl rfl with ⟨c6, h⟩ | ⟨c6, h⟩
  ·
    have c6 : ¬ ((f152 m a1 60) = 0) := c6
    refine Or.inr ⟨c6, ?_⟩
    have h : MR X ρ 5 0 0 qP96 N 33 [a0, a1, a2, 0, 0] [] m o := h
    have h := CR_aload_n h rfl
    have h : MR X ρ 5 0 0 qP96 N 34 [a0, a1, a2, 0, 0] [(1, a1)] m o := h
    have h := CR_getf h rfl (by decide)
    have h : MR X ρ 5 0 0 qP96 N 37 [a0, a1, a2, 0, 0] [(1, m a1 6)] m o := h
    have h := CR_istore_n h rfl (Nat.le_of_ble_eq_true rfl)
    have h : MR X ρ 5 0 0 qP96 N 38 [a0, a1, a2, m a1 6, 0] [] m o := h
    have h := CR_aload_n h rfl
    have h : MR X ρ 5 0 0 qP96 N 39 [a0, a1, a2, m a1 6, 0] [(1, a1)] m o := h
    obtain ⟨r7, m8, q9, h⟩ := MR_invV h rfl rfl
    have q9 : Run X ρ 148 [(1, a1)] m r7 m8 := q9
    obtain rfl := Run_v q9 rfl
    have h : MR X ρ 5 0 0 qP96 N 42 [a0, a1, a2, m a1 6, 0] [] m8 o := h
    refine ⟨m8, q9, ?_⟩
    have h := CR_aload_n h rfl
    have h : MR X ρ 5 0 0 qP96 N 43 [a0, a1, a2, m a1 6, 0] [(1, a1)] m8 o := h
    have h := CR_iconst h rfl rfl
    have h : MR X ρ 5 0 0 qP96 N 44 [a0, a1, a2, m a1 6, 0] [(1, 0), (1, a1)] m8 o := h
    have h := CR_sipush h rfl rfl
    have h : MR X ρ 5 0 0 qP96 N 47 [a0, a1, a2, m a1 6, 0] [(1, 999), (1, 0), (1, a1)] m8 o := h
    obtain ⟨r10, m11, q12, h⟩ := MR_invV h rfl rfl
    have q12 : Run X ρ 156 [(1, a1), (1, 0), (1, 999)] m8 r10 m11 := q12
    obtain ⟨e13, e14⟩ := d156 q12
    rw [e13, e14] at h
    have h : MR X ρ 5 0 0 qP96 N 50 [a0, a1, a2, m a1 6, 0] [(1, f156 m8 a1 0 999)] (g156 m8 a1 0 999) o := h
    obtain ⟨y15, zy15, h⟩ : ∃ y, y = g156 m8 a1 0 999 ∧ MR X ρ 5 0 0 qP96 N 50 [a0, a1, a2, m a1 6, 0] [(1, f156 m8 a1 0 999)] y o := ⟨_, rfl, h⟩
    have h : MR X ρ 5 0 0 qP96 N 50 [a0, a1, a2, m a1 6, 0] [(1, f156 m8 a1 0 999)] y15 o := h
    refine ⟨y15, zy15, ?_⟩
    have h := CR_istore h rfl (Nat.le_of_ble_eq_true rfl)
    have h : MR X ρ 5 0 0 qP96 N 52 [a0, a1, a2, m a1 6, f156 m8 a1 0 999] [] y15 o := h
    have h := CR_iload h rfl
    have h : MR X ρ 5 0 0 qP96 N 54 [a0, a1, a2, m a1 6, f156 m8 a1 0 999] [(1, f156 m8 a1 0 999)] y15 o := h
    have h := CR_iconst h rfl rfl
    have h : MR X ρ 5 0 0 qP96 N 55 [a0, a1, a2, m a1 6, f156 m8 a1 0 999] [(1, -1), (1, f156 m8 a1 0 999)] y15 o := h
    rcases MR_icmp h rfl rfl with ⟨c16, h⟩ | ⟨c16, h⟩
    ·
      have c16 : ¬ ((f156 m8 a1 0 999) = (-1)) := c16
      refine Or.inr ⟨c16, ?_⟩
      have h : MR X ρ 5 0 0 qP96 N 60 [a0, a1, a2, m a1 6, f156 m8 a1 0 999] [] y15 o := h
      have h := CR_aload_n h rfl
      have h : MR X ρ 5 0 0 qP96 N 61 [a0, a1, a2, m a1 6, f156 m8 a1 0 999] [(1, a1)] y15 o := h
      obtain ⟨r17, m18, q19, h⟩ := MR_invV h rfl rfl
      have q19 : Run X ρ 148 [(1, a1)] y15 r17 m18 := q19
      obtain rfl := Run_v q19 rfl
      have h : MR X ρ 5 0 0 qP96 N 64 [a0, a1, a2, m a1 6, f156 m8 a1 0 999] [] m18 o := h
      refine ⟨m18, q19, ?_⟩
      have h := CR_aload_n h rfl
      have h : MR X ρ 5 0 0 qP96 N 65 [a0, a1, a2, m a1 6, f156 m8 a1 0 999] [(1, a2)] m18 o := h
      have h := CR_getstatic h rfl
      have h : MR X ρ 5 0 0 qP96 N 68 [a0, a1, a2, m a1 6, f156 m8 a1 0 999] [(1, 1000022), (1, a2)] m18 o := h
      rcases CR_acmp h rfl rfl with ⟨c20, h⟩ | ⟨c20, h⟩
      ·
        have c20 : ¬ (qer X a2 1000022) := c20
        refine Or.inr ⟨c20, ?_⟩
        have h : MR X ρ 5 0 0 qP96 N 81 [a0, a1, a2, m a1 6, f156 m8 a1 0 999] [] m18 o := h
        have h := CR_aload_n h rfl
        have h : MR X ρ 5 0 0 qP96 N 82 [a0, a1, a2, m a1 6, f156 m8 a1 0 999] [(1, a2)] m18 o := h
        have h := CR_getstatic h rfl
        have h : MR X ρ 5 0 0 qP96 N 85 [a0, a1, a2, m a1 6, f156 m8 a1 0 999] [(1, 1000023), (1, a2)] m18 o := h
        rcases CR_acmp h rfl rfl with ⟨c21, h⟩ | ⟨c21, h⟩
        ·
          have c21 : ¬ (qer X a2 1000023) := c21
          refine Or.inr ⟨c21, ?_⟩
          have h : MR X ρ 5 0 0 qP96 N 100 [a0, a1, a2, m a1 6, f156 m8 a1 0 999] [] m18 o := h
          have h := CR_aload_n h rfl
          have h : MR X ρ 5 0 0 qP96 N 101 [a0, a1, a2, m a1 6, f156 m8 a1 0 999] [(1, a0)] m18 o := h
          have h := CR_bipush h rfl rfl
          have h : MR X ρ 5 0 0 qP96 N 103 [a0, a1, a2, m a1 6, f156 m8 a1 0 999] [(1, 10), (1, a0)] m18 o := h
          have h := CR_iload_n h rfl
          have h : MR X ρ 5 0 0 qP96 N 104 [a0, a1, a2, m a1 6, f156 m8 a1 0 999] [(1, m a1 6), (1, 10), (1, a0)] m18 o := h
          have h := CR_iload h rfl
          have h : MR X ρ 5 0 0 qP96 N 106 [a0, a1, a2, m a1 6, f156 m8 a1 0 999] [(1, f156 m8 a1 0 999), (1, m a1 6), (1, 10), (1, a0)] m18 o := h
          obtain ⟨r22, m23, q24, h⟩ := MR_invV h rfl rfl
          have q24 : Run X ρ 101 [(1, a0), (1, 10), (1, m a1 6), (1, f156 m8 a1 0 999)] m18 r22 m23 := q24
          obtain ⟨e25, e26⟩ := d101 q24
          rw [e25, e26] at h
          have h : MR X ρ 5 0 0 qP96 N 109 [a0, a1, a2, m a1 6, f156 m8 a1 0 999] [(1, f101 m18 a0 10 (m a1 6) (f156 m8 a1 0 999))] (g101 m18 a0 10 (m a1 6) (f156 m8 a1 0 999)) o := h
          obtain ⟨y27, zy27, h⟩ : ∃ y, y = g101 m18 a0 10 (m a1 6) (f156 m8 a1 0 999) ∧ MR X ρ 5 0 0 qP96 N 109 [a0, a1, a2, m a1 6, f156 m8 a1 0 999] [(1, f101 m18 a0 10 (m a1 6) (f156 m8 a1 0 999))] y o := ⟨_, rfl, h⟩
          have h : MR X ρ 5 0 0 qP96 N 109 [a0, a1, a2, m a1 6, f156 m8 a1 0 999] [(1, f101 m18 a0 10 (m a1 6) (f156 m8 a1 0 999))] y27 o := h
          refine ⟨y27, zy27, ?_⟩
          exact CR_end h rfl rfl
        ·
          have c21 : qer X a2 1000023 := Decidable.of_not_not (show ¬ ¬ (qer X a2 1000023) from c21)
          refine Or.inl ⟨c21, ?_⟩
          have h : MR X ρ 5 0 0 qP96 N 88 [a0, a1, a2, m a1 6, f156 m8 a1 0 999] [] m18 o := h
          have h := CR_aload_n h rfl
          have h : MR X ρ 5 0 0 qP96 N 89 [a0, a1, a2, m a1 6, f156 m8 a1 0 999] [(1, a0)] m18 o := h
          have h := CR_bipush h rfl rfl
          have h : MR X ρ 5 0 0 qP96 N 91 [a0, a1, a2, m a1 6, f156 m8 a1 0 999] [(1, 9), (1, a0)] m18 o := h
          have h := CR_iload_n h rfl
          have h : MR X ρ 5 0 0 qP96 N 92 [a0, a1, a2, m a1 6, f156 m8 a1 0 999] [(1, m a1 6), (1, 9), (1, a0)] m18 o := h
          have h := CR_iload h rfl
          have h : MR X ρ 5 0 0 qP96 N 94 [a0, a1, a2, m a1 6, f156 m8 a1 0 999] [(1, f156 m8 a1 0 999), (1, m a1 6), (1, 9), (1, a0)] m18 o := h
          obtain ⟨r28, m29, q30, h⟩ := MR_invV h rfl rfl
          have q30 : Run X ρ 101 [(1, a0), (1, 9), (1, m a1 6), (1, f156 m8 a1 0 999)] m18 r28 m29 := q30
          obtain ⟨e31, e32⟩ := d101 q30
          rw [e31, e32] at h
          have h : MR X ρ 5 0 0 qP96 N 97 [a0, a1, a2, m a1 6, f156 m8 a1 0 999] [(1, f101 m18 a0 9 (m a1 6) (f156 m8 a1 0 999))] (g101 m18 a0 9 (m a1 6) (f156 m8 a1 0 999)) o := h
          obtain ⟨y33, zy33, h⟩ : ∃ y, y = g101 m18 a0 9 (m a1 6) (f156 m8 a1 0 999) ∧ MR X ρ 5 0 0 qP96 N 97 [a0, a1, a2, m a1 6, f156 m8 a1 0 999] [(1, f101 m18 a0 9 (m a1 6) (f156 m8 a1 0 999))] y o := ⟨_, rfl, h⟩
          have h : MR X ρ 5 0 0 qP96 N 97 [a0, a1, a2, m a1 6, f156 m8 a1 0 999] [(1, f101 m18 a0 9 (m a1 6) (f156 m8 a1 0 999))] y33 o := h
          refine ⟨y33, zy33, ?_⟩
          have h := CR_go h rfl rfl
          have h : MR X ρ 5 0 0 qP96 N 109 [a0, a1, a2, m a1 6, f156 m8 a1 0 999] [(1, f101 m18 a0 9 (m a1 6) (f156 m8 a1 0 999))] y33 o := h
          exact CR_end h rfl rfl
      ·
        have c20 : qer X a2 1000022 := Decidable.of_not_not (show ¬ ¬ (qer X a2 1000022) from c20)
        refine Or.inl ⟨c20, ?_⟩
        have h : MR X ρ 5 0 0 qP96 N 71 [a0, a1, a2, m a1 6, f156 m8 a1 0 999] [] m18 o := h
        have h := CR_aload_n h rfl
        have h : MR X ρ 5 0 0 qP96 N 72 [a0, a1, a2, m a1 6, f156 m8 a1 0 999] [(1, a0)] m18 o := h
        have h := CR_bipush h rfl rfl
        have h : MR X ρ 5 0 0 qP96 N 74 [a0, a1, a2, m a1 6, f156 m8 a1 0 999] [(1, 8), (1, a0)] m18 o := h
        have h := CR_iload_n h rfl
        have h : MR X ρ 5 0 0 qP96 N 75 [a0, a1, a2, m a1 6, f156 m8 a1 0 999] [(1, m a1 6), (1, 8), (1, a0)] m18 o := h
        have h := CR_iload h rfl
        have h : MR X ρ 5 0 0 qP96 N 77 [a0, a1, a2, m a1 6, f156 m8 a1 0 999] [(1, f156 m8 a1 0 999), (1, m a1 6), (1, 8), (1, a0)] m18 o := h
        obtain ⟨r34, m35, q36, h⟩ := MR_invV h rfl rfl
        have q36 : Run X ρ 101 [(1, a0), (1, 8), (1, m a1 6), (1, f156 m8 a1 0 999)] m18 r34 m35 := q36
        obtain ⟨e37, e38⟩ := d101 q36
        rw [e37, e38] at h
        have h : MR X ρ 5 0 0 qP96 N 80 [a0, a1, a2, m a1 6, f156 m8 a1 0 999] [(1, f101 m18 a0 8 (m a1 6) (f156 m8 a1 0 999))] (g101 m18 a0 8 (m a1 6) (f156 m8 a1 0 999)) o := h
        obtain ⟨y39, zy39, h⟩ : ∃ y, y = g101 m18 a0 8 (m a1 6) (f156 m8 a1 0 999) ∧ MR X ρ 5 0 0 qP96 N 80 [a0, a1, a2, m a1 6, f156 m8 a1 0 999] [(1, f101 m18 a0 8 (m a1 6) (f156 m8 a1 0 999))] y o := ⟨_, rfl, h⟩
        have h : MR X ρ 5 0 0 qP96 N 80 [a0, a1, a2, m a1 6, f156 m8 a1 0 999] [(1, f101 m18 a0 8 (m a1 6) (f156 m8 a1 0 999))] y39 o := h
        refine ⟨y39, zy39, ?_⟩
        exact CR_end h rfl rfl
    ·
      have c16 : (f156 m8 a1 0 999) = (-1) := Decidable.of_not_not (show ¬ ¬ ((f156 m8 a1 0 999) = (-1)) from c16)
      refine Or.inl ⟨c16, ?_⟩
      have h : MR X ρ 5 0 0 qP96 N 58 [a0, a1, a2, m a1 6, f156 m8 a1 0 999] [] y15 o := h
      have h := CR_iconst h rfl rfl
      have h : MR X ρ 5 0 0 qP96 N 59 [a0, a1, a2, m a1 6, f156 m8 a1 0 999] [(1, 0)] y15 o := h
      exact CR_end h rfl rfl
  ·
    have c6 : (f152 m a1 60) = 0 := Decidable.of_not_not (show ¬ ¬ ((f152 m a1 60) = 0) from c6)
    refine Or.inl ⟨c6, ?_⟩
    have h : MR X ρ 5 0 0 qP96 N 9 [a0, a1, a2, 0, 0] [] m o := h
    have h := CR_aload_n h rfl
    have h : MR X ρ 5 0 0 qP96 N 10 [a0, a1, a2, 0, 0] [(1, a1)] m o := h
    have h := CR_bipush h rfl rfl
    have h : MR X ρ 5 0 0 qP96 N 12 [a0, a1, a2, 0, 0] [(1, 61), (1, a1)] m o := h
    obtain ⟨r40, m41, q42, h⟩ := MR_invV h rfl rfl
    have q42 : Run X ρ 152 [(1, a1), (1, 61)] m r40 m41 := q42
    obtain ⟨e43, e44⟩ := d152 q42
    rw [e43, e44] at h
    have h : MR X ρ 5 0 0 qP96 N 15 [a0, a1, a2, 0, 0] [(1, f152 m a1 61)] m o := h
    rcases MR_if h rfl rfl with ⟨c45, h⟩ | ⟨c45, h⟩
    ·
      have c45 : ¬ ((f152 m a1 61) = 0) := c45
      refine Or.inr ⟨c45, ?_⟩
      have h : MR X ρ 5 0 0 qP96 N 33 [a0, a1, a2, 0, 0] [] m o := h
      have h := CR_aload_n h rfl
      have h : MR X ρ 5 0 0 qP96 N 34 [a0, a1, a2, 0, 0] [(1, a1)] m o := h
      have h := CR_getf h rfl (by decide)
      have h : MR X ρ 5 0 0 qP96 N 37 [a0, a1, a2, 0, 0] [(1, m a1 6)] m o := h
      have h := CR_istore_n h rfl (Nat.le_of_ble_eq_true rfl)
      have h : MR X ρ 5 0 0 qP96 N 38 [a0, a1, a2, m a1 6, 0] [] m o := h
      have h := CR_aload_n h rfl
      have h : MR X ρ 5 0 0 qP96 N 39 [a0, a1, a2, m a1 6, 0] [(1, a1)] m o := h
      obtain ⟨r46, m47, q48, h⟩ := MR_invV h rfl rfl
      have q48 : Run X ρ 148 [(1, a1)] m r46 m47 := q48
      obtain rfl := Run_v q48 rfl
      have h : MR X ρ 5 0 0 qP96 N 42 [a0, a1, a2, m a1 6, 0] [] m47 o := h
      refine ⟨m47, q48, ?_⟩
      have h := CR_aload_n h rfl
      have h : MR X ρ 5 0 0 qP96 N 43 [a0, a1, a2, m a1 6, 0] [(1, a1)] m47 o := h
      have h := CR_iconst h rfl rfl
      have h : MR X ρ 5 0 0 qP96 N 44 [a0, a1, a2, m a1 6, 0] [(1, 0), (1, a1)] m47 o := h
      have h := CR_sipush h rfl rfl
      have h : MR X ρ 5 0 0 qP96 N 47 [a0, a1, a2, m a1 6, 0] [(1, 999), (1, 0), (1, a1)] m47 o := h
      obtain ⟨r49, m50, q51, h⟩ := MR_invV h rfl rfl
      have q51 : Run X ρ 156 [(1, a1), (1, 0), (1, 999)] m47 r49 m50 := q51
      obtain ⟨e52, e53⟩ := d156 q51
      rw [e52, e53] at h
      have h : MR X ρ 5 0 0 qP96 N 50 [a0, a1, a2, m a1 6, 0] [(1, f156 m47 a1 0 999)] (g156 m47 a1 0 999) o := h
      obtain ⟨y54, zy54, h⟩ : ∃ y, y = g156 m47 a1 0 999 ∧ MR X ρ 5 0 0 qP96 N 50 [a0, a1, a2, m a1 6, 0] [(1, f156 m47 a1 0 999)] y o := ⟨_, rfl, h⟩
      have h : MR X ρ 5 0 0 qP96 N 50 [a0, a1, a2, m a1 6, 0] [(1, f156 m47 a1 0 999)] y54 o := h
      refine ⟨y54, zy54, ?_⟩
      have h := CR_istore h rfl (Nat.le_of_ble_eq_true rfl)
      have h : MR X ρ 5 0 0 qP96 N 52 [a0, a1, a2, m a1 6, f156 m47 a1 0 999] [] y54 o := h
      have h := CR_iload h rfl
      have h : MR X ρ 5 0 0 qP96 N 54 [a0, a1, a2, m a1 6, f156 m47 a1 0 999] [(1, f156 m47 a1 0 999)] y54 o := h
      have h := CR_iconst h rfl rfl
      have h : MR X ρ 5 0 0 qP96 N 55 [a0, a1, a2, m a1 6, f156 m47 a1 0 999] [(1, -1), (1, f156 m47 a1 0 999)] y54 o := h
      rcases MR_icmp h rfl rfl with ⟨c55, h⟩ | ⟨c55, h⟩
      ·
        have c55 : ¬ ((f156 m47 a1 0 999) = (-1)) := c55
        refine Or.inr ⟨c55, ?_⟩
        have h : MR X ρ 5 0 0 qP96 N 60 [a0, a1, a2, m a1 6, f156 m47 a1 0 999] [] y54 o := h
        have h := CR_aload_n h rfl
        have h : MR X ρ 5 0 0 qP96 N 61 [a0, a1, a2, m a1 6, f156 m47 a1 0 999] [(1, a1)] y54 o := h
        obtain ⟨r56, m57, q58, h⟩ := MR_invV h rfl rfl
        have q58 : Run X ρ 148 [(1, a1)] y54 r56 m57 := q58
        obtain rfl := Run_v q58 rfl
        have h : MR X ρ 5 0 0 qP96 N 64 [a0, a1, a2, m a1 6, f156 m47 a1 0 999] [] m57 o := h
        refine ⟨m57, q58, ?_⟩
        have h := CR_aload_n h rfl
        have h : MR X ρ 5 0 0 qP96 N 65 [a0, a1, a2, m a1 6, f156 m47 a1 0 999] [(1, a2)] m57 o := h
        have h := CR_getstatic h rfl
        have h : MR X ρ 5 0 0 qP96 N 68 [a0, a1, a2, m a1 6, f156 m47 a1 0 999] [(1, 1000022), (1, a2)] m57 o := h
        rcases CR_acmp h rfl rfl with ⟨c59, h⟩ | ⟨c59, h⟩
        ·
          have c59 : ¬ (qer X a2 1000022) := c59
          refine Or.inr ⟨c59, ?_⟩
          have h : MR X ρ 5 0 0 qP96 N 81 [a0, a1, a2, m a1 6, f156 m47 a1 0 999] [] m57 o := h
          have h := CR_aload_n h rfl
          have h : MR X ρ 5 0 0 qP96 N 82 [a0, a1, a2, m a1 6, f156 m47 a1 0 999] [(1, a2)] m57 o := h
          have h := CR_getstatic h rfl
          have h : MR X ρ 5 0 0 qP96 N 85 [a0, a1, a2, m a1 6, f156 m47 a1 0 999] [(1, 1000023), (1, a2)] m57 o := h
          rcases CR_acmp h rfl rfl with ⟨c60, h⟩ | ⟨c60, h⟩
          ·
            have c60 : ¬ (qer X a2 1000023) := c60
            refine Or.inr ⟨c60, ?_⟩
            have h : MR X ρ 5 0 0 qP96 N 100 [a0, a1, a2, m a1 6, f156 m47 a1 0 999] [] m57 o := h
            have h := CR_aload_n h rfl
            have h : MR X ρ 5 0 0 qP96 N 101 [a0, a1, a2, m a1 6, f156 m47 a1 0 999] [(1, a0)] m57 o := h
            have h := CR_bipush h rfl rfl
            have h : MR X ρ 5 0 0 qP96 N 103 [a0, a1, a2, m a1 6, f156 m47 a1 0 999] [(1, 10), (1, a0)] m57 o := h
            have h := CR_iload_n h rfl
            have h : MR X ρ 5 0 0 qP96 N 104 [a0, a1, a2, m a1 6, f156 m47 a1 0 999] [(1, m a1 6), (1, 10), (1, a0)] m57 o := h
            have h := CR_iload h rfl
            have h : MR X ρ 5 0 0 qP96 N 106 [a0, a1, a2, m a1 6, f156 m47 a1 0 999] [(1, f156 m47 a1 0 999), (1, m a1 6), (1, 10), (1, a0)] m57 o := h
            obtain ⟨r61, m62, q63, h⟩ := MR_invV h rfl rfl
            have q63 : Run X ρ 101 [(1, a0), (1, 10), (1, m a1 6), (1, f156 m47 a1 0 999)] m57 r61 m62 := q63
            obtain ⟨e64, e65⟩ := d101 q63
            rw [e64, e65] at h
            have h : MR X ρ 5 0 0 qP96 N 109 [a0, a1, a2, m a1 6, f156 m47 a1 0 999] [(1, f101 m57 a0 10 (m a1 6) (f156 m47 a1 0 999))] (g101 m57 a0 10 (m a1 6) (f156 m47 a1 0 999)) o := h
            obtain ⟨y66, zy66, h⟩ : ∃ y, y = g101 m57 a0 10 (m a1 6) (f156 m47 a1 0 999) ∧ MR X ρ 5 0 0 qP96 N 109 [a0, a1, a2, m a1 6, f156 m47 a1 0 999] [(1, f101 m57 a0 10 (m a1 6) (f156 m47 a1 0 999))] y o := ⟨_, rfl, h⟩
            have h : MR X ρ 5 0 0 qP96 N 109 [a0, a1, a2, m a1 6, f156 m47 a1 0 999] [(1, f101 m57 a0 10 (m a1 6) (f156 m47 a1 0 999))] y66 o := h
            refine ⟨y66, zy66, ?_⟩
            exact CR_end h rfl rfl
          ·
            have c60 : qer X a2 1000023 := Decidable.of_not_not (show ¬ ¬ (qer X a2 1000023) from c60)
            refine Or.inl ⟨c60, ?_⟩
            have h : MR X ρ 5 0 0 qP96 N 88 [a0, a1, a2, m a1 6, f156 m47 a1 0 999] [] m57 o := h
            have h := CR_aload_n h rfl
            have h : MR X ρ 5 0 0 qP96 N 89 [a0, a1, a2, m a1 6, f156 m47 a1 0 999] [(1, a0)] m57 o := h
            have h := CR_bipush h rfl rfl
            have h : MR X ρ 5 0 0 qP96 N 91 [a0, a1, a2, m a1 6, f156 m47 a1 0 999] [(1, 9), (1, a0)] m57 o := h
            have h := CR_iload_n h rfl
            have h : MR X ρ 5 0 0 qP96 N 92 [a0, a1, a2, m a1 6, f156 m47 a1 0 999] [(1, m a1 6), (1, 9), (1, a0)] m57 o := h
            have h := CR_iload h rfl
            have h : MR X ρ 5 0 0 qP96 N 94 [a0, a1, a2, m a1 6, f156 m47 a1 0 999] [(1, f156 m47 a1 0 999), (1, m a1 6), (1, 9), (1, a0)] m57 o := h
            obtain ⟨r67, m68, q69, h⟩ := MR_invV h rfl rfl
            have q69 : Run X ρ 101 [(1, a0), (1, 9), (1, m a1 6), (1, f156 m47 a1 0 999)] m57 r67 m68 := q69
            obtain ⟨e70, e71⟩ := d101 q69
            rw [e70, e71] at h
            have h : MR X ρ 5 0 0 qP96 N 97 [a0, a1, a2, m a1 6, f156 m47 a1 0 999] [(1, f101 m57 a0 9 (m a1 6) (f156 m47 a1 0 999))] (g101 m57 a0 9 (m a1 6) (f156 m47 a1 0 999)) o := h
            obtain ⟨y72, zy72, h⟩ : ∃ y, y = g101 m57 a0 9 (m a1 6) (f156 m47 a1 0 999) ∧ MR X ρ 5 0 0 qP96 N 97 [a0, a1, a2, m a1 6, f156 m47 a1 0 999] [(1, f101 m57 a0 9 (m a1 6) (f156 m47 a1 0 999))] y o := ⟨_, rfl, h⟩
            have h : MR X ρ 5 0 0 qP96 N 97 [a0, a1, a2, m a1 6, f156 m47 a1 0 999] [(1, f101 m57 a0 9 (m a1 6) (f156 m47 a1 0 999))] y72 o := h
            refine ⟨y72, zy72, ?_⟩
            have h := CR_go h rfl rfl
            have h : MR X ρ 5 0 0 qP96 N 109 [a0, a1, a2, m a1 6, f156 m47 a1 0 999] [(1, f101 m57 a0 9 (m a1 6) (f156 m47 a1 0 999))] y72 o := h
            exact CR_end h rfl rfl
        ·
          have c59 : qer X a2 1000022 := Decidable.of_not_not (show ¬ ¬ (qer X a2 1000022) from c59)
          refine Or.inl ⟨c59, ?_⟩
          have h : MR X ρ 5 0 0 qP96 N 71 [a0, a1, a2, m a1 6, f156 m47 a1 0 999] [] m57 o := h
          have h := CR_aload_n h rfl
          have h : MR X ρ 5 0 0 qP96 N 72 [a0, a1, a2, m a1 6, f156 m47 a1 0 999] [(1, a0)] m57 o := h
          have h := CR_bipush h rfl rfl
          have h : MR X ρ 5 0 0 qP96 N 74 [a0, a1, a2, m a1 6, f156 m47 a1 0 999] [(1, 8), (1, a0)] m57 o := h
          have h := CR_iload_n h rfl
          have h : MR X ρ 5 0 0 qP96 N 75 [a0, a1, a2, m a1 6, f156 m47 a1 0 999] [(1, m a1 6), (1, 8), (1, a0)] m57 o := h
          have h := CR_iload h rfl
          have h : MR X ρ 5 0 0 qP96 N 77 [a0, a1, a2, m a1 6, f156 m47 a1 0 999] [(1, f156 m47 a1 0 999), (1, m a1 6), (1, 8), (1, a0)] m57 o := h
          obtain ⟨r73, m74, q75, h⟩ := MR_invV h rfl rfl
          have q75 : Run X ρ 101 [(1, a0), (1, 8), (1, m a1 6), (1, f156 m47 a1 0 999)] m57 r73 m74 := q75
          obtain ⟨e76, e77⟩ := d101 q75
          rw [e76, e77] at h
          have h : MR X ρ 5 0 0 qP96 N 80 [a0, a1, a2, m a1 6, f156 m47 a1 0 999] [(1, f101 m57 a0 8 (m a1 6) (f156 m47 a1 0 999))] (g101 m57 a0 8 (m a1 6) (f156 m47 a1 0 999)) o := h
          obtain ⟨y78, zy78, h⟩ : ∃ y, y = g101 m57 a0 8 (m a1 6) (f156 m47 a1 0 999) ∧ MR X ρ 5 0 0 qP96 N 80 [a0, a1, a2, m a1 6, f156 m47 a1 0 999] [(1, f101 m57 a0 8 (m a1 6) (f156 m47 a1 0 999))] y o := ⟨_, rfl, h⟩
          have h : MR X ρ 5 0 0 qP96 N 80 [a0, a1, a2, m a1 6, f156 m47 a1 0 999] [(1, f101 m57 a0 8 (m a1 6) (f156 m47 a1 0 999))] y78 o := h
          refine ⟨y78, zy78, ?_⟩
          exact CR_end h rfl rfl
      ·
        have c55 : (f156 m47 a1 0 999) = (-1) := Decidable.of_not_not (show ¬ ¬ ((f156 m47 a1 0 999) = (-1)) from c55)
        refine Or.inl ⟨c55, ?_⟩
        have h : MR X ρ 5 0 0 qP96 N 58 [a0, a1, a2, m a1 6, f156 m47 a1 0 999] [] y54 o := h
        have h := CR_iconst h rfl rfl
        have h : MR X ρ 5 0 0 qP96 N 59 [a0, a1, a2, m a1 6, f156 m47 a1 0 999] [(1, 0)] y54 o := h
        exact CR_end h rfl rfl
    ·
      have c45 : (f152 m a1 61) = 0 := Decidable.of_not_not (show ¬ ¬ ((f152 m a1 61) = 0) from c45)
      refine Or.inl ⟨c45, ?_⟩
      have h : MR X ρ 5 0 0 qP96 N 18 [a0, a1, a2, 0, 0] [] m o := h
      have h := CR_aload_n h rfl
      have h : MR X ρ 5 0 0 qP96 N 19 [a0, a1, a2, 0, 0] [(1, a1)] m o := h
      have h := CR_bipush h rfl rfl
      have h : MR X ρ 5 0 0 qP96 N 21 [a0, a1, a2, 0, 0] [(1, 62), (1, a1)] m o := h
      obtain ⟨r79, m80, q81, h⟩ := MR_invV h rfl rfl
      have q81 : Run X ρ 152 [(1, a1), (1, 62)] m r79 m80 := q81
      obtain ⟨e82, e83⟩ := d152 q81
      rw [e82, e83] at h
      have h : MR X ρ 5 0 0 qP96 N 24 [a0, a1, a2, 0, 0] [(1, f152 m a1 62)] m o := h
      rcases MR_if h rfl rfl with ⟨c84, h⟩ | ⟨c84, h⟩
      ·
        have c84 : ¬ ((f152 m a1 62) = 0) := c84
        refine Or.inr ⟨c84, ?_⟩
        have h : MR X ρ 5 0 0 qP96 N 33 [a0, a1, a2, 0, 0] [] m o := h
        have h := CR_aload_n h rfl
        have h : MR X ρ 5 0 0 qP96 N 34 [a0, a1, a2, 0, 0] [(1, a1)] m o := h
        have h := CR_getf h rfl (by decide)
        have h : MR X ρ 5 0 0 qP96 N 37 [a0, a1, a2, 0, 0] [(1, m a1 6)] m o := h
        have h := CR_istore_n h rfl (Nat.le_of_ble_eq_true rfl)
        have h : MR X ρ 5 0 0 qP96 N 38 [a0, a1, a2, m a1 6, 0] [] m o := h
        have h := CR_aload_n h rfl
        have h : MR X ρ 5 0 0 qP96 N 39 [a0, a1, a2, m a1 6, 0] [(1, a1)] m o := h
        obtain ⟨r85, m86, q87, h⟩ := MR_invV h rfl rfl
        have q87 : Run X ρ 148 [(1, a1)] m r85 m86 := q87
        obtain rfl := Run_v q87 rfl
        have h : MR X ρ 5 0 0 qP96 N 42 [a0, a1, a2, m a1 6, 0] [] m86 o := h
        refine ⟨m86, q87, ?_⟩
        have h := CR_aload_n h rfl
        have h : MR X ρ 5 0 0 qP96 N 43 [a0, a1, a2, m a1 6, 0] [(1, a1)] m86 o := h
        have h := CR_iconst h rfl rfl
        have h : MR X ρ 5 0 0 qP96 N 44 [a0, a1, a2, m a1 6, 0] [(1, 0), (1, a1)] m86 o := h
        have h := CR_sipush h rfl rfl
        have h : MR X ρ 5 0 0 qP96 N 47 [a0, a1, a2, m a1 6, 0] [(1, 999), (1, 0), (1, a1)] m86 o := h
        obtain ⟨r88, m89, q90, h⟩ := MR_invV h rfl rfl
        have q90 : Run X ρ 156 [(1, a1), (1, 0), (1, 999)] m86 r88 m89 := q90
        obtain ⟨e91, e92⟩ := d156 q90
        rw [e91, e92] at h
        have h : MR X ρ 5 0 0 qP96 N 50 [a0, a1, a2, m a1 6, 0] [(1, f156 m86 a1 0 999)] (g156 m86 a1 0 999) o := h
        obtain ⟨y93, zy93, h⟩ : ∃ y, y = g156 m86 a1 0 999 ∧ MR X ρ 5 0 0 qP96 N 50 [a0, a1, a2, m a1 6, 0] [(1, f156 m86 a1 0 999)] y o := ⟨_, rfl, h⟩
        have h : MR X ρ 5 0 0 qP96 N 50 [a0, a1, a2, m a1 6, 0] [(1, f156 m86 a1 0 999)] y93 o := h
        refine ⟨y93, zy93, ?_⟩
        have h := CR_istore h rfl (Nat.le_of_ble_eq_true rfl)
        have h : MR X ρ 5 0 0 qP96 N 52 [a0, a1, a2, m a1 6, f156 m86 a1 0 999] [] y93 o := h
        have h := CR_iload h rfl
        have h : MR X ρ 5 0 0 qP96 N 54 [a0, a1, a2, m a1 6, f156 m86 a1 0 999] [(1, f156 m86 a1 0 999)] y93 o := h
        have h := CR_iconst h rfl rfl
        have h : MR X ρ 5 0 0 qP96 N 55 [a0, a1, a2, m a1 6, f156 m86 a1 0 999] [(1, -1), (1, f156 m86 a1 0 999)] y93 o := h
        rcases MR_icmp h rfl rfl with ⟨c94, h⟩ | ⟨c94, h⟩
        ·
          have c94 : ¬ ((f156 m86 a1 0 999) = (-1)) := c94
          refine Or.inr ⟨c94, ?_⟩
          have h : MR X ρ 5 0 0 qP96 N 60 [a0, a1, a2, m a1 6, f156 m86 a1 0 999] [] y93 o := h
          have h := CR_aload_n h rfl
          have h : MR X ρ 5 0 0 qP96 N 61 [a0, a1, a2, m a1 6, f156 m86 a1 0 999] [(1, a1)] y93 o := h
          obtain ⟨r95, m96, q97, h⟩ := MR_invV h rfl rfl
          have q97 : Run X ρ 148 [(1, a1)] y93 r95 m96 := q97
          obtain rfl := Run_v q97 rfl
          have h : MR X ρ 5 0 0 qP96 N 64 [a0, a1, a2, m a1 6, f156 m86 a1 0 999] [] m96 o := h
          refine ⟨m96, q97, ?_⟩
          have h := CR_aload_n h rfl
          have h : MR X ρ 5 0 0 qP96 N 65 [a0, a1, a2, m a1 6, f156 m86 a1 0 999] [(1, a2)] m96 o := h
          have h := CR_getstatic h rfl
          have h : MR X ρ 5 0 0 qP96 N 68 [a0, a1, a2, m a1 6, f156 m86 a1 0 999] [(1, 1000022), (1, a2)] m96 o := h
          rcases CR_acmp h rfl rfl with ⟨c98, h⟩ | ⟨c98, h⟩
          ·
            have c98 : ¬ (qer X a2 1000022) := c98
            refine Or.inr ⟨c98, ?_⟩
            have h : MR X ρ 5 0 0 qP96 N 81 [a0, a1, a2, m a1 6, f156 m86 a1 0 999] [] m96 o := h
            have h := CR_aload_n h rfl
            have h : MR X ρ 5 0 0 qP96 N 82 [a0, a1, a2, m a1 6, f156 m86 a1 0 999] [(1, a2)] m96 o := h
            have h := CR_getstatic h rfl
            have h : MR X ρ 5 0 0 qP96 N 85 [a0, a1, a2, m a1 6, f156 m86 a1 0 999] [(1, 1000023), (1, a2)] m96 o := h
            rcases CR_acmp h rfl rfl with ⟨c99, h⟩ | ⟨c99, h⟩
            ·
              have c99 : ¬ (qer X a2 1000023) := c99
              refine Or.inr ⟨c99, ?_⟩
              have h : MR X ρ 5 0 0 qP96 N 100 [a0, a1, a2, m a1 6, f156 m86 a1 0 999] [] m96 o := h
              have h := CR_aload_n h rfl
              have h : MR X ρ 5 0 0 qP96 N 101 [a0, a1, a2, m a1 6, f156 m86 a1 0 999] [(1, a0)] m96 o := h
              have h := CR_bipush h rfl rfl
              have h : MR X ρ 5 0 0 qP96 N 103 [a0, a1, a2, m a1 6, f156 m86 a1 0 999] [(1, 10), (1, a0)] m96 o := h
              have h := CR_iload_n h rfl
              have h : MR X ρ 5 0 0 qP96 N 104 [a0, a1, a2, m a1 6, f156 m86 a1 0 999] [(1, m a1 6), (1, 10), (1, a0)] m96 o := h
              have h := CR_iload h rfl
              have h : MR X ρ 5 0 0 qP96 N 106 [a0, a1, a2, m a1 6, f156 m86 a1 0 999] [(1, f156 m86 a1 0 999), (1, m a1 6), (1, 10), (1, a0)] m96 o := h
              obtain ⟨r100, m101, q102, h⟩ := MR_invV h rfl rfl
              have q102 : Run X ρ 101 [(1, a0), (1, 10), (1, m a1 6), (1, f156 m86 a1 0 999)] m96 r100 m101 := q102
              obtain ⟨e103, e104⟩ := d101 q102
              rw [e103, e104] at h
              have h : MR X ρ 5 0 0 qP96 N 109 [a0, a1, a2, m a1 6, f156 m86 a1 0 999] [(1, f101 m96 a0 10 (m a1 6) (f156 m86 a1 0 999))] (g101 m96 a0 10 (m a1 6) (f156 m86 a1 0 999)) o := h
              obtain ⟨y105, zy105, h⟩ : ∃ y, y = g101 m96 a0 10 (m a1 6) (f156 m86 a1 0 999) ∧ MR X ρ 5 0 0 qP96 N 109 [a0, a1, a2, m a1 6, f156 m86 a1 0 999] [(1, f101 m96 a0 10 (m a1 6) (f156 m86 a1 0 999))] y o := ⟨_, rfl, h⟩
              have h : MR X ρ 5 0 0 qP96 N 109 [a0, a1, a2, m a1 6, f156 m86 a1 0 999] [(1, f101 m96 a0 10 (m a1 6) (f156 m86 a1 0 999))] y105 o := h
              refine ⟨y105, zy105, ?_⟩
              exact CR_end h rfl rfl
            ·
              have c99 : qer X a2 1000023 := Decidable.of_not_not (show ¬ ¬ (qer X a2 1000023) from c99)
              refine Or.inl ⟨c99, ?_⟩
              have h : MR X ρ 5 0 0 qP96 N 88 [a0, a1, a2, m a1 6, f156 m86 a1 0 999] [] m96 o := h
              have h := CR_aload_n h rfl
              have h : MR X ρ 5 0 0 qP96 N 89 [a0, a1, a2, m a1 6, f156 m86 a1 0 999] [(1, a0)] m96 o := h
              have h := CR_bipush h rfl rfl
              have h : MR X ρ 5 0 0 qP96 N 91 [a0, a1, a2, m a1 6, f156 m86 a1 0 999] [(1, 9), (1, a0)] m96 o := h
              have h := CR_iload_n h rfl
              have h : MR X ρ 5 0 0 qP96 N 92 [a0, a1, a2, m a1 6, f156 m86 a1 0 999] [(1, m a1 6), (1, 9), (1, a0)] m96 o := h
              have h := CR_iload h rfl
              have h : MR X ρ 5 0 0 qP96 N 94 [a0, a1, a2, m a1 6, f156 m86 a1 0 999] [(1, f156 m86 a1 0 999), (1, m a1 6), (1, 9), (1, a0)] m96 o := h
              obtain ⟨r106, m107, q108, h⟩ := MR_invV h rfl rfl
              have q108 : Run X ρ 101 [(1, a0), (1, 9), (1, m a1 6), (1, f156 m86 a1 0 999)] m96 r106 m107 := q108
              obtain ⟨e109, e110⟩ := d101 q108
              rw [e109, e110] at h
              have h : MR X ρ 5 0 0 qP96 N 97 [a0, a1, a2, m a1 6, f156 m86 a1 0 999] [(1, f101 m96 a0 9 (m a1 6) (f156 m86 a1 0 999))] (g101 m96 a0 9 (m a1 6) (f156 m86 a1 0 999)) o := h
              obtain ⟨y111, zy111, h⟩ : ∃ y, y = g101 m96 a0 9 (m a1 6) (f156 m86 a1 0 999) ∧ MR X ρ 5 0 0 qP96 N 97 [a0, a1, a2, m a1 6, f156 m86 a1 0 999] [(1, f101 m96 a0 9 (m a1 6) (f156 m86 a1 0 999))] y o := ⟨_, rfl, h⟩
              have h : MR X ρ 5 0 0 qP96 N 97 [a0, a1, a2, m a1 6, f156 m86 a1 0 999] [(1, f101 m96 a0 9 (m a1 6) (f156 m86 a1 0 999))] y111 o := h
              refine ⟨y111, zy111, ?_⟩
              have h := CR_go h rfl rfl
              have h : MR X ρ 5 0 0 qP96 N 109 [a0, a1, a2, m a1 6, f156 m86 a1 0 999] [(1, f101 m96 a0 9 (m a1 6) (f156 m86 a1 0 999))] y111 o := h
              exact CR_end h rfl rfl
          ·
            have c98 : qer X a2 1000022 := Decidable.of_not_not (show ¬ ¬ (qer X a2 1000022) from c98)
            refine Or.inl ⟨c98, ?_⟩
            have h : MR X ρ 5 0 0 qP96 N 71 [a0, a1, a2, m a1 6, f156 m86 a1 0 999] [] m96 o := h
            have h := CR_aload_n h rfl
            have h : MR X ρ 5 0 0 qP96 N 72 [a0, a1, a2, m a1 6, f156 m86 a1 0 999] [(1, a0)] m96 o := h
            have h := CR_bipush h rfl rfl
            have h : MR X ρ 5 0 0 qP96 N 74 [a0, a1, a2, m a1 6, f156 m86 a1 0 999] [(1, 8), (1, a0)] m96 o := h
            have h := CR_iload_n h rfl
            have h : MR X ρ 5 0 0 qP96 N 75 [a0, a1, a2, m a1 6, f156 m86 a1 0 999] [(1, m a1 6), (1, 8), (1, a0)] m96 o := h
            have h := CR_iload h rfl
            have h : MR X ρ 5 0 0 qP96 N 77 [a0, a1, a2, m a1 6, f156 m86 a1 0 999] [(1, f156 m86 a1 0 999), (1, m a1 6), (1, 8), (1, a0)] m96 o := h
            obtain ⟨r112, m113, q114, h⟩ := MR_invV h rfl rfl
            have q114 : Run X ρ 101 [(1, a0), (1, 8), (1, m a1 6), (1, f156 m86 a1 0 999)] m96 r112 m113 := q114
            obtain ⟨e115, e116⟩ := d101 q114
            rw [e115, e116] at h
            have h : MR X ρ 5 0 0 qP96 N 80 [a0, a1, a2, m a1 6, f156 m86 a1 0 999] [(1, f101 m96 a0 8 (m a1 6) (f156 m86 a1 0 999))] (g101 m96 a0 8 (m a1 6) (f156 m86 a1 0 999)) o := h
            obtain ⟨y117, zy117, h⟩ : ∃ y, y = g101 m96 a0 8 (m a1 6) (f156 m86 a1 0 999) ∧ MR X ρ 5 0 0 qP96 N 80 [a0, a1, a2, m a1 6, f156 m86 a1 0 999] [(1, f101 m96 a0 8 (m a1 6) (f156 m86 a1 0 999))] y o := ⟨_, rfl, h⟩
            have h : MR X ρ 5 0 0 qP96 N 80 [a0, a1, a2, m a1 6, f156 m86 a1 0 999] [(1, f101 m96 a0 8 (m a1 6) (f156 m86 a1 0 999))] y117 o := h
            refine ⟨y117, zy117, ?_⟩
            exact CR_end h rfl rfl
        ·
          have c94 : (f156 m86 a1 0 999) = (-1) := Decidable.of_not_not (show ¬ ¬ ((f156 m86 a1 0 999) = (-1)) from c94)
          refine Or.inl ⟨c94, ?_⟩
          have h : MR X ρ 5 0 0 qP96 N 58 [a0, a1, a2, m a1 6, f156 m86 a1 0 999] [] y93 o := h
          have h := CR_iconst h rfl rfl
          have h : MR X ρ 5 0 0 qP96 N 59 [a0, a1, a2, m a1 6, f156 m86 a1 0 999] [(1, 0)] y93 o := h
          exact CR_end h rfl rfl
      ·
        have c84 : (f152 m a1 62) = 0 := Decidable.of_not_not (show ¬ ¬ ((f152 m a1 62) = 0) from c84)
        refine Or.inl ⟨c84, ?_⟩
        have h : MR X ρ 5 0 0 qP96 N 27 [a0, a1, a2, 0, 0] [] m o := h
        have h := CR_aload_n h rfl
        have h : MR X ρ 5 0 0 qP96 N 28 [a0, a1, a2, 0, 0] [(1, a1)] m o := h
        have h := CR_iconst h rfl rfl
        have h : MR X ρ 5 0 0 qP96 N 29 [a0, a1, a2, 0, 0] [(1, 1), (1, a1)] m o := h
        obtain ⟨r118, m119, q120, h⟩ := MR_invV h rfl rfl
        have q120 : Run X ρ 158 [(1, a1), (1, 1)] m r118 m119 := q120
        obtain ⟨e121, e122⟩ := d158 q120
        rw [e121, e122] at h
        have h : MR X ρ 5 0 0 qP96 N 32 [a0, a1, a2, 0, 0] [(1, f158 m a1 1)] (g158 m a1 1) o := h
        obtain ⟨y123, zy123, h⟩ : ∃ y, y = g158 m a1 1 ∧ MR X ρ 5 0 0 qP96 N 32 [a0, a1, a2, 0, 0] [(1, f158 m a1 1)] y o := ⟨_, rfl, h⟩
        have h : MR X ρ 5 0 0 qP96 N 32 [a0, a1, a2, 0, 0] [(1, f158 m a1 1)] y123 o := h
        refine ⟨y123, zy123, ?_⟩
        exact CR_end h rfl rfl
set_option maxRecDepth 16384 in
theorem s149_0 {X : KO} {ρ : Nat → Int32} {m : MM} {N : Nat} {o : Instr × List (Nat × Int) × MM} {a0 a1 : Int} (h : MR X ρ 2 0 0 qP149 N 0 [a0, a1] [] m o) : (∃ y1, y1 = mu m a0 2 a1 ∧ (∃ y2, y2 = mu y1 a0 3 0 ∧ (∃ y3, y3 = mu y2 a0 9 0 ∧ (∃ y4, y4 = mu y3 a0 10 0 ∧ (∃ m6, Run X ρ 148 [(1, a0)] y4 [] m6 ∧ (o = (.return_, [], m6))))))) := by
  have h := CR_aload_n h rfl
  have h : MR X ρ 2 0 0 qP149 N 1 [a0, a1] [(1, a0)] m o := h
  have h := CR_iload_n h rfl
  have h : MR X ρ 2 0 0 qP149 N 2 [a0, a1] [(1, a1), (1, a0)] m o := h
  have h := CR_putf h rfl
  have h : MR X ρ 2 0 0 qP149 N 5 [a0, a1] [] (mu m a0 2 a1) o := h
  obtain ⟨y1, zy1, h⟩ : ∃ y, y = mu m a0 2 a1 ∧ MR X ρ 2 0 0 qP149 N 5 [a0, a1] [] y o := ⟨_, rfl, h⟩
  have h : MR X ρ 2 0 0 qP149 N 5 [a0, a1] [] y1 o := h
  refine ⟨y1, zy1, ?_⟩
  have h := CR_aload_n h rfl
  have h : MR X ρ 2 0 0 qP149 N 6 [a0, a1] [(1, a0)] y1 o := h
  have h := CR_iconst h rfl rfl
  have h : MR X ρ 2 0 0 qP149 N 7 [a0, a1] [(1, 0), (1, a0)] y1 o := h
  have h := CR_putf h rfl
  have h : MR X ρ 2 0 0 qP149 N 10 [a0, a1] [] (mu y1 a0 3 0) o := h
  obtain ⟨y2, zy2, h⟩ : ∃ y, y = mu y1 a0 3 0 ∧ MR X ρ 2 0 0 qP149 N 10 [a0, a1] [] y o := ⟨_, rfl, h⟩
  have h : MR X ρ 2 0 0 qP149 N 10 [a0, a1] [] y2 o := h
  refine ⟨y2, zy2, ?_⟩
  have h := CR_aload_n h rfl
  have h : MR X ρ 2 0 0 qP149 N 11 [a0, a1] [(1, a0)] y2 o := h
  have h := CR_iconst h rfl rfl
  have h : MR X ρ 2 0 0 qP149 N 12 [a0, a1] [(1, 0), (1, a0)] y2 o := h
  have h := CR_putf h rfl
  have h : MR X ρ 2 0 0 qP149 N 15 [a0, a1] [] (mu y2 a0 9 0) o := h
  obtain ⟨y3, zy3, h⟩ : ∃ y, y = mu y2 a0 9 0 ∧ MR X ρ 2 0 0 qP149 N 15 [a0, a1] [] y o := ⟨_, rfl, h⟩
  have h : MR X ρ 2 0 0 qP149 N 15 [a0, a1] [] y3 o := h
  refine ⟨y3, zy3, ?_⟩
  have h := CR_aload_n h rfl
  have h : MR X ρ 2 0 0 qP149 N 16 [a0, a1] [(1, a0)] y3 o := h
  have h := CR_iconst h rfl rfl
  have h : MR X ρ 2 0 0 qP149 N 17 [a0, a1] [(1, 0), (1, a0)] y3 o := h
  have h := CR_putf h rfl
  have h : MR X ρ 2 0 0 qP149 N 20 [a0, a1] [] (mu y3 a0 10 0) o := h
  obtain ⟨y4, zy4, h⟩ : ∃ y, y = mu y3 a0 10 0 ∧ MR X ρ 2 0 0 qP149 N 20 [a0, a1] [] y o := ⟨_, rfl, h⟩
  have h : MR X ρ 2 0 0 qP149 N 20 [a0, a1] [] y4 o := h
  refine ⟨y4, zy4, ?_⟩
  have h := CR_aload_n h rfl
  have h : MR X ρ 2 0 0 qP149 N 21 [a0, a1] [(1, a0)] y4 o := h
  obtain ⟨r5, m6, q7, h⟩ := MR_invV h rfl rfl
  have q7 : Run X ρ 148 [(1, a0)] y4 r5 m6 := q7
  obtain rfl := Run_v q7 rfl
  have h : MR X ρ 2 0 0 qP149 N 24 [a0, a1] [] m6 o := h
  refine ⟨m6, q7, ?_⟩
  exact CR_end h rfl rfl
set_option maxRecDepth 16384 in
theorem s269_0 {X : KO} {ρ : Nat → Int32} {m : MM} {N : Nat} {o : Instr × List (Nat × Int) × MM} {a0 : Int} (h : MR X ρ 2 0 0 qP269 N 0 [a0, 0] [] m o) : (∃ m2, Run X ρ 169 [(1, a0), (1, 200)] m [] m2 ∧ (∃ y4, y4 = mu m2 a0 41 0 ∧ (∃ y5, y5 = mu y4 a0 42 0 ∧ (∃ y6, y6 = mu y5 a0 43 0 ∧ (∃ v10 m8, Run X ρ 256 [(1, a0)] y6 [(1, v10)] m8 ∧ (v10 = 0 ∨ v10 = 1) ∧ (((v10 = 0) ∧ (o = (.ireturn, [(1, s32 ((-1) - (m8 a0 11)))], m8))) ∨ (¬ (v10 = 0) ∧ ((((m8 a0 7) = 0) ∧ (∃ y13, y13 = mu m8 (m8 a0 14) 214 (s32 1) ∧ (∃ y14, y14 = mu y13 (y13 a0 14) 215 (s32 (y13 a0 44)) ∧ (o = (.ireturn, [(1, ((L269_79 y14 a0 0).2.2.2) a0 42)], (L269_79 y14 a0 0).2.2.2))))) ∨ (¬ ((m8 a0 7) = 0) ∧ (∃ y20, y20 = g168 m8 a0 1 ∧ (o = (.ireturn, [(1, s32 ((-1) - (y20 a0 11)))], y20)))))))))))) := by
  have h := CR_aload_n h rfl
  have h : MR X ρ 2 0 0 qP269 N 1 [a0, 0] [(1, a0)] m o := h
  have h := CR_sipush h rfl rfl
  have h : MR X ρ 2 0 0 qP269 N 4 [a0, 0] [(1, 200), (1, a0)] m o := h
  obtain ⟨r1, m2, q3, h⟩ := MR_invV h rfl rfl
  have q3 : Run X ρ 169 [(1, a0), (1, 200)] m r1 m2 := q3
  obtain rfl := Run_v q3 rfl
  have h : MR X ρ 2 0 0 qP269 N 7 [a0, 0] [] m2 o := h
  refine ⟨m2, q3, ?_⟩
  have h := CR_aload_n h rfl
  have h : MR X ρ 2 0 0 qP269 N 8 [a0, 0] [(1, a0)] m2 o := h
  have h := CR_iconst h rfl rfl
  have h : MR X ρ 2 0 0 qP269 N 9 [a0, 0] [(1, 0), (1, a0)] m2 o := h
  have h := CR_putf h rfl
  have h : MR X ρ 2 0 0 qP269 N 12 [a0, 0] [] (mu m2 a0 41 0) o := h
  obtain ⟨y4, zy4, h⟩ : ∃ y, y = mu m2 a0 41 0 ∧ MR X ρ 2 0 0 qP269 N 12 [a0, 0] [] y o := ⟨_, rfl, h⟩
  have h : MR X ρ 2 0 0 qP269 N 12 [a0, 0] [] y4 o := h
  refine ⟨y4, zy4, ?_⟩
  have h := CR_aload_n h rfl
  have h : MR X ρ 2 0 0 qP269 N 13 [a0, 0] [(1, a0)] y4 o := h
  have h := CR_iconst h rfl rfl
  have h : MR X ρ 2 0 0 qP269 N 14 [a0, 0] [(1, 0), (1, a0)] y4 o := h
  have h := CR_putf h rfl
  have h : MR X ρ 2 0 0 qP269 N 17 [a0, 0] [] (mu y4 a0 42 0) o := h
  obtain ⟨y5, zy5, h⟩ : ∃ y, y = mu y4 a0 42 0 ∧ MR X ρ 2 0 0 qP269 N 17 [a0, 0] [] y o := ⟨_, rfl, h⟩
  have h : MR X ρ 2 0 0 qP269 N 17 [a0, 0] [] y5 o := h
  refine ⟨y5, zy5, ?_⟩
  have h := CR_aload_n h rfl
  have h : MR X ρ 2 0 0 qP269 N 18 [a0, 0] [(1, a0)] y5 o := h
  have h := CR_iconst h rfl rfl
  have h : MR X ρ 2 0 0 qP269 N 19 [a0, 0] [(1, 0), (1, a0)] y5 o := h
  have h := CR_putf h rfl
  have h : MR X ρ 2 0 0 qP269 N 22 [a0, 0] [] (mu y5 a0 43 0) o := h
  obtain ⟨y6, zy6, h⟩ : ∃ y, y = mu y5 a0 43 0 ∧ MR X ρ 2 0 0 qP269 N 22 [a0, 0] [] y o := ⟨_, rfl, h⟩
  have h : MR X ρ 2 0 0 qP269 N 22 [a0, 0] [] y6 o := h
  refine ⟨y6, zy6, ?_⟩
  have h := CR_aload_n h rfl
  have h : MR X ρ 2 0 0 qP269 N 23 [a0, 0] [(1, a0)] y6 o := h
  obtain ⟨r7, m8, q9, h⟩ := MR_invV h rfl rfl
  have q9 : Run X ρ 256 [(1, a0)] y6 r7 m8 := q9
  obtain ⟨v10, rfl, zv10⟩ := Run_z q9 rfl
  have h : MR X ρ 2 0 0 qP269 N 26 [a0, 0] [(1, v10)] m8 o := h
  refine ⟨v10, m8, q9, zv10, ?_⟩
  rcases MR_if h rfl rfl with ⟨c11, h⟩ | ⟨c11, h⟩
  ·
    have c11 : ¬ (v10 = 0) := c11
    refine Or.inr ⟨c11, ?_⟩
    have h : MR X ρ 2 0 0 qP269 N 36 [a0, 0] [] m8 o := h
    have h := CR_aload_n h rfl
    have h : MR X ρ 2 0 0 qP269 N 37 [a0, 0] [(1, a0)] m8 o := h
    have h := CR_getf h rfl (by decide)
    have h : MR X ρ 2 0 0 qP269 N 40 [a0, 0] [(1, m8 a0 7)] m8 o := h
    rcases MR_if h rfl rfl with ⟨c12, h⟩ | ⟨c12, h⟩
    ·
      have c12 : (m8 a0 7) = 0 := c12
      refine Or.inl ⟨c12, ?_⟩
      have h : MR X ρ 2 0 0 qP269 N 56 [a0, 0] [] m8 o := h
      have h := CR_aload_n h rfl
      have h : MR X ρ 2 0 0 qP269 N 57 [a0, 0] [(1, a0)] m8 o := h
      have h := CR_getf h rfl (by decide)
      have h : MR X ρ 2 0 0 qP269 N 60 [a0, 0] [(1, m8 a0 14)] m8 o := h
      have h := CR_sipush h rfl rfl
      have h : MR X ρ 2 0 0 qP269 N 63 [a0, 0] [(1, 214), (1, m8 a0 14)] m8 o := h
      have h := CR_iconst h rfl rfl
      have h : MR X ρ 2 0 0 qP269 N 64 [a0, 0] [(1, 1), (1, 214), (1, m8 a0 14)] m8 o := h
      have h := CR_iastore_ h rfl
      have h : MR X ρ 2 0 0 qP269 N 65 [a0, 0] [] (mu m8 (m8 a0 14) 214 (s32 1)) o := h
      obtain ⟨y13, zy13, h⟩ : ∃ y, y = mu m8 (m8 a0 14) 214 (s32 1) ∧ MR X ρ 2 0 0 qP269 N 65 [a0, 0] [] y o := ⟨_, rfl, h⟩
      have h : MR X ρ 2 0 0 qP269 N 65 [a0, 0] [] y13 o := h
      refine ⟨y13, zy13, ?_⟩
      have h := CR_aload_n h rfl
      have h : MR X ρ 2 0 0 qP269 N 66 [a0, 0] [(1, a0)] y13 o := h
      have h := CR_getf h rfl (by decide)
      have h : MR X ρ 2 0 0 qP269 N 69 [a0, 0] [(1, y13 a0 14)] y13 o := h
      have h := CR_sipush h rfl rfl
      have h : MR X ρ 2 0 0 qP269 N 72 [a0, 0] [(1, 215), (1, y13 a0 14)] y13 o := h
      have h := CR_aload_n h rfl
      have h : MR X ρ 2 0 0 qP269 N 73 [a0, 0] [(1, a0), (1, 215), (1, y13 a0 14)] y13 o := h
      have h := CR_getf h rfl (by decide)
      have h : MR X ρ 2 0 0 qP269 N 76 [a0, 0] [(1, y13 a0 44), (1, 215), (1, y13 a0 14)] y13 o := h
      have h := CR_iastore_ h rfl
      have h : MR X ρ 2 0 0 qP269 N 77 [a0, 0] [] (mu y13 (y13 a0 14) 215 (s32 (y13 a0 44))) o := h
      obtain ⟨y14, zy14, h⟩ : ∃ y, y = mu y13 (y13 a0 14) 215 (s32 (y13 a0 44)) ∧ MR X ρ 2 0 0 qP269 N 77 [a0, 0] [] y o := ⟨_, rfl, h⟩
      have h : MR X ρ 2 0 0 qP269 N 77 [a0, 0] [] y14 o := h
      refine ⟨y14, zy14, ?_⟩
      have h := CR_iconst h rfl rfl
      have h : MR X ρ 2 0 0 qP269 N 78 [a0, 0] [(1, 0)] y14 o := h
      have h := CR_istore_n h rfl (Nat.le_of_ble_eq_true rfl)
      have h : MR X ρ 2 0 0 qP269 N 79 [a0, 0] [] y14 o := h
      have h := l269_79 (Nat.le_refl _) h
      have h : MR X ρ 2 0 0 qP269 N 108 [a0, (L269_79 y14 a0 0).2.2.1] [] ((L269_79 y14 a0 0).2.2.2) o := h
      have h := CR_aload_n h rfl
      have h : MR X ρ 2 0 0 qP269 N 109 [a0, (L269_79 y14 a0 0).2.2.1] [(1, a0)] ((L269_79 y14 a0 0).2.2.2) o := h
      have h := CR_getf h rfl (by decide)
      have h : MR X ρ 2 0 0 qP269 N 112 [a0, (L269_79 y14 a0 0).2.2.1] [(1, ((L269_79 y14 a0 0).2.2.2) a0 42)] ((L269_79 y14 a0 0).2.2.2) o := h
      exact CR_end h rfl rfl
    ·
      have c12 : ¬ ((m8 a0 7) = 0) := c12
      refine Or.inr ⟨c12, ?_⟩
      have h : MR X ρ 2 0 0 qP269 N 43 [a0, 0] [] m8 o := h
      have h := CR_aload_n h rfl
      have h : MR X ρ 2 0 0 qP269 N 44 [a0, 0] [(1, a0)] m8 o := h
      have h := CR_iconst h rfl rfl
      have h : MR X ρ 2 0 0 qP269 N 45 [a0, 0] [(1, 1), (1, a0)] m8 o := h
      obtain ⟨r15, m16, q17, h⟩ := MR_invV h rfl rfl
      have q17 : Run X ρ 168 [(1, a0), (1, 1)] m8 r15 m16 := q17
      obtain ⟨e18, e19⟩ := d168 q17
      rw [e18, e19] at h
      have h : MR X ρ 2 0 0 qP269 N 48 [a0, 0] [(1, f168 m8 a0 1)] (g168 m8 a0 1) o := h
      obtain ⟨y20, zy20, h⟩ : ∃ y, y = g168 m8 a0 1 ∧ MR X ρ 2 0 0 qP269 N 48 [a0, 0] [(1, f168 m8 a0 1)] y o := ⟨_, rfl, h⟩
      have h : MR X ρ 2 0 0 qP269 N 48 [a0, 0] [(1, f168 m8 a0 1)] y20 o := h
      refine ⟨y20, zy20, ?_⟩
      have h := CR_pop h rfl
      have h : MR X ρ 2 0 0 qP269 N 49 [a0, 0] [] y20 o := h
      have h := CR_iconst h rfl rfl
      have h : MR X ρ 2 0 0 qP269 N 50 [a0, 0] [(1, -1)] y20 o := h
      have h := CR_aload_n h rfl
      have h : MR X ρ 2 0 0 qP269 N 51 [a0, 0] [(1, a0), (1, -1)] y20 o := h
      have h := CR_getf h rfl (by decide)
      have h : MR X ρ 2 0 0 qP269 N 54 [a0, 0] [(1, y20 a0 11), (1, -1)] y20 o := h
      have h := CR_isub h rfl
      have h : MR X ρ 2 0 0 qP269 N 55 [a0, 0] [(1, s32 ((-1) - (y20 a0 11)))] y20 o := h
      exact CR_end h rfl rfl
  ·
    have c11 : v10 = 0 := Decidable.of_not_not (show ¬ ¬ (v10 = 0) from c11)
    refine Or.inl ⟨c11, ?_⟩
    have h : MR X ρ 2 0 0 qP269 N 29 [a0, 0] [] m8 o := h
    have h := CR_iconst h rfl rfl
    have h : MR X ρ 2 0 0 qP269 N 30 [a0, 0] [(1, -1)] m8 o := h
    have h := CR_aload_n h rfl
    have h : MR X ρ 2 0 0 qP269 N 31 [a0, 0] [(1, a0), (1, -1)] m8 o := h
    have h := CR_getf h rfl (by decide)
    have h : MR X ρ 2 0 0 qP269 N 34 [a0, 0] [(1, m8 a0 11), (1, -1)] m8 o := h
    have h := CR_isub h rfl
    have h : MR X ρ 2 0 0 qP269 N 35 [a0, 0] [(1, s32 ((-1) - (m8 a0 11)))] m8 o := h
    exact CR_end h rfl rfl
set_option maxRecDepth 16384 in
theorem s256_0 {X : KO} {ρ : Nat → Int32} {m : MM} {N : Nat} {o : Instr × List (Nat × Int) × MM} {a0 : Int} (h : MR X ρ 2 0 0 qP256 N 0 [a0, 0] [] m o) : (∃ v4 m2, Run X ρ 240 [(1, a0)] m [(1, v4)] m2 ∧ (v4 = 0 ∨ v4 = 1) ∧ (((v4 = 0) ∧ (o = (.ireturn, [(1, 0)], m2))) ∨ (¬ (v4 = 0) ∧ (MR X ρ 2 0 0 qP256 N 14 [a0, m2 a0 44] [] m2 o)))) := by
  have h := CR_aload_n h rfl
  have h : MR X ρ 2 0 0 qP256 N 1 [a0, 0] [(1, a0)] m o := h
  obtain ⟨r1, m2, q3, h⟩ := MR_invV h rfl rfl
  have q3 : Run X ρ 240 [(1, a0)] m r1 m2 := q3
  obtain ⟨v4, rfl, zv4⟩ := Run_z q3 rfl
  have h : MR X ρ 2 0 0 qP256 N 4 [a0, 0] [(1, v4)] m2 o := h
  refine ⟨v4, m2, q3, zv4, ?_⟩
  rcases MR_if h rfl rfl with ⟨c5, h⟩ | ⟨c5, h⟩
  ·
    have c5 : ¬ (v4 = 0) := c5
    refine Or.inr ⟨c5, ?_⟩
    have h : MR X ρ 2 0 0 qP256 N 9 [a0, 0] [] m2 o := h
    have h := CR_aload_n h rfl
    have h : MR X ρ 2 0 0 qP256 N 10 [a0, 0] [(1, a0)] m2 o := h
    have h := CR_getf h rfl (by decide)
    have h : MR X ρ 2 0 0 qP256 N 13 [a0, 0] [(1, m2 a0 44)] m2 o := h
    have h := CR_istore_n h rfl (Nat.le_of_ble_eq_true rfl)
    have h : MR X ρ 2 0 0 qP256 N 14 [a0, m2 a0 44] [] m2 o := h
    exact h
  ·
    have c5 : v4 = 0 := Decidable.of_not_not (show ¬ ¬ (v4 = 0) from c5)
    refine Or.inl ⟨c5, ?_⟩
    have h : MR X ρ 2 0 0 qP256 N 7 [a0, 0] [] m2 o := h
    have h := CR_iconst h rfl rfl
    have h : MR X ρ 2 0 0 qP256 N 8 [a0, 0] [(1, 0)] m2 o := h
    exact CR_end h rfl rfl
set_option maxRecDepth 16384 in
theorem s256_14 {X : KO} {ρ : Nat → Int32} {m : MM} {N : Nat} {o : Instr × List (Nat × Int) × MM} {b0 b1 : Int} (h : MR X ρ 2 0 0 qP256 N 14 [b0, b1] [] m o) : ((((f217 m b0 16) = 0) ∧ (∃ y7, y7 = mu m b0 44 b1 ∧ (o = (.ireturn, [(1, 1)], y7)))) ∨ (¬ ((f217 m b0 16) = 0) ∧ (∃ m9, Run X ρ 195 [(1, b0)] m [] m9 ∧ (∃ v14 m12, Run X ρ 240 [(1, b0)] m9 [(1, v14)] m12 ∧ (v14 = 0 ∨ v14 = 1) ∧ (((v14 = 0) ∧ (o = (.ireturn, [(1, 0)], m12))) ∨ (¬ (v14 = 0) ∧ (∃ y21, y21 = g268 m12 b0 3 b1 (m12 b0 44) 0 ∧ (∃ N22, N = N22 + 1 ∧ MR X ρ 2 0 0 qP256 N22 14 [b0, f268 m12 b0 3 b1 (m12 b0 44) 0] [] y21 o)))))))) := by
  have h := CR_aload_n h rfl
  have h : MR X ρ 2 0 0 qP256 N 15 [b0, b1] [(1, b0)] m o := h
  have h := CR_bipush h rfl rfl
  have h : MR X ρ 2 0 0 qP256 N 17 [b0, b1] [(1, 16), (1, b0)] m o := h
  obtain ⟨r1, m2, q3, h⟩ := MR_invV h rfl rfl
  have q3 : Run X ρ 217 [(1, b0), (1, 16)] m r1 m2 := q3
  obtain ⟨e4, e5⟩ := d217 q3
  rw [e4, e5] at h
  have h : MR X ρ 2 0 0 qP256 N 20 [b0, b1] [(1, f217 m b0 16)] m o := h
  rcases MR_if h rfl rfl with ⟨c6, h⟩ | ⟨c6, h⟩
  ·
    have c6 : (f217 m b0 16) = 0 := c6
    refine Or.inl ⟨c6, ?_⟩
    have h : MR X ρ 2 0 0 qP256 N 51 [b0, b1] [] m o := h
    have h := CR_aload_n h rfl
    have h : MR X ρ 2 0 0 qP256 N 52 [b0, b1] [(1, b0)] m o := h
    have h := CR_iload_n h rfl
    have h : MR X ρ 2 0 0 qP256 N 53 [b0, b1] [(1, b1), (1, b0)] m o := h
    have h := CR_putf h rfl
    have h : MR X ρ 2 0 0 qP256 N 56 [b0, b1] [] (mu m b0 44 b1) o := h
    obtain ⟨y7, zy7, h⟩ : ∃ y, y = mu m b0 44 b1 ∧ MR X ρ 2 0 0 qP256 N 56 [b0, b1] [] y o := ⟨_, rfl, h⟩
    have h : MR X ρ 2 0 0 qP256 N 56 [b0, b1] [] y7 o := h
    refine ⟨y7, zy7, ?_⟩
    have h := CR_iconst h rfl rfl
    have h : MR X ρ 2 0 0 qP256 N 57 [b0, b1] [(1, 1)] y7 o := h
    exact CR_end h rfl rfl
  ·
    have c6 : ¬ ((f217 m b0 16) = 0) := c6
    refine Or.inr ⟨c6, ?_⟩
    have h : MR X ρ 2 0 0 qP256 N 23 [b0, b1] [] m o := h
    have h := CR_aload_n h rfl
    have h : MR X ρ 2 0 0 qP256 N 24 [b0, b1] [(1, b0)] m o := h
    obtain ⟨r8, m9, q10, h⟩ := MR_invV h rfl rfl
    have q10 : Run X ρ 195 [(1, b0)] m r8 m9 := q10
    obtain rfl := Run_v q10 rfl
    have h : MR X ρ 2 0 0 qP256 N 27 [b0, b1] [] m9 o := h
    refine ⟨m9, q10, ?_⟩
    have h := CR_aload_n h rfl
    have h : MR X ρ 2 0 0 qP256 N 28 [b0, b1] [(1, b0)] m9 o := h
    obtain ⟨r11, m12, q13, h⟩ := MR_invV h rfl rfl
    have q13 : Run X ρ 240 [(1, b0)] m9 r11 m12 := q13
    obtain ⟨v14, rfl, zv14⟩ := Run_z q13 rfl
    have h : MR X ρ 2 0 0 qP256 N 31 [b0, b1] [(1, v14)] m12 o := h
    refine ⟨v14, m12, q13, zv14, ?_⟩
    rcases MR_if h rfl rfl with ⟨c15, h⟩ | ⟨c15, h⟩
    ·
      have c15 : ¬ (v14 = 0) := c15
      refine Or.inr ⟨c15, ?_⟩
      have h : MR X ρ 2 0 0 qP256 N 36 [b0, b1] [] m12 o := h
      have h := CR_aload_n h rfl
      have h : MR X ρ 2 0 0 qP256 N 37 [b0, b1] [(1, b0)] m12 o := h
      have h := CR_iconst h rfl rfl
      have h : MR X ρ 2 0 0 qP256 N 38 [b0, b1] [(1, 3), (1, b0)] m12 o := h
      have h := CR_iload_n h rfl
      have h : MR X ρ 2 0 0 qP256 N 39 [b0, b1] [(1, b1), (1, 3), (1, b0)] m12 o := h
      have h := CR_aload_n h rfl
      have h : MR X ρ 2 0 0 qP256 N 40 [b0, b1] [(1, b0), (1, b1), (1, 3), (1, b0)] m12 o := h
      have h := CR_getf h rfl (by decide)
      have h : MR X ρ 2 0 0 qP256 N 43 [b0, b1] [(1, m12 b0 44), (1, b1), (1, 3), (1, b0)] m12 o := h
      have h := CR_iconst h rfl rfl
      have h : MR X ρ 2 0 0 qP256 N 44 [b0, b1] [(1, 0), (1, m12 b0 44), (1, b1), (1, 3), (1, b0)] m12 o := h
      obtain ⟨r16, m17, q18, h⟩ := MR_invV h rfl rfl
      have q18 : Run X ρ 268 [(1, b0), (1, 3), (1, b1), (1, m12 b0 44), (1, 0)] m12 r16 m17 := q18
      obtain ⟨e19, e20⟩ := d268 q18
      rw [e19, e20] at h
      have h : MR X ρ 2 0 0 qP256 N 47 [b0, b1] [(1, f268 m12 b0 3 b1 (m12 b0 44) 0)] (g268 m12 b0 3 b1 (m12 b0 44) 0) o := h
      obtain ⟨y21, zy21, h⟩ : ∃ y, y = g268 m12 b0 3 b1 (m12 b0 44) 0 ∧ MR X ρ 2 0 0 qP256 N 47 [b0, b1] [(1, f268 m12 b0 3 b1 (m12 b0 44) 0)] y o := ⟨_, rfl, h⟩
      have h : MR X ρ 2 0 0 qP256 N 47 [b0, b1] [(1, f268 m12 b0 3 b1 (m12 b0 44) 0)] y21 o := h
      refine ⟨y21, zy21, ?_⟩
      have h := CR_istore_n h rfl (Nat.le_of_ble_eq_true rfl)
      have h : MR X ρ 2 0 0 qP256 N 48 [b0, f268 m12 b0 3 b1 (m12 b0 44) 0] [] y21 o := h
      obtain ⟨N22, eN22, h⟩ := CR_goto h rfl rfl
      have h : MR X ρ 2 0 0 qP256 N22 14 [b0, f268 m12 b0 3 b1 (m12 b0 44) 0] [] y21 o := h
      exact ⟨N22, eN22, h⟩
    ·
      have c15 : v14 = 0 := Decidable.of_not_not (show ¬ ¬ (v14 = 0) from c15)
      refine Or.inl ⟨c15, ?_⟩
      have h : MR X ρ 2 0 0 qP256 N 34 [b0, b1] [] m12 o := h
      have h := CR_iconst h rfl rfl
      have h : MR X ρ 2 0 0 qP256 N 35 [b0, b1] [(1, 0)] m12 o := h
      exact CR_end h rfl rfl
set_option maxRecDepth 16384 in
theorem s240_0 {X : KO} {ρ : Nat → Int32} {m : MM} {N : Nat} {o : Instr × List (Nat × Int) × MM} {a0 : Int} (h : MR X ρ 2 0 0 qP240 N 0 [a0, 0] [] m o) : (∃ v4 m2, Run X ρ 261 [(1, a0)] m [(1, v4)] m2 ∧ (v4 = 0 ∨ v4 = 1) ∧ (((v4 = 0) ∧ (o = (.ireturn, [(1, 0)], m2))) ∨ (¬ (v4 = 0) ∧ (MR X ρ 2 0 0 qP240 N 14 [a0, m2 a0 44] [] m2 o)))) := by
  have h := CR_aload_n h rfl
  have h : MR X ρ 2 0 0 qP240 N 1 [a0, 0] [(1, a0)] m o := h
  obtain ⟨r1, m2, q3, h⟩ := MR_invV h rfl rfl
  have q3 : Run X ρ 261 [(1, a0)] m r1 m2 := q3
  obtain ⟨v4, rfl, zv4⟩ := Run_z q3 rfl
  have h : MR X ρ 2 0 0 qP240 N 4 [a0, 0] [(1, v4)] m2 o := h
  refine ⟨v4, m2, q3, zv4, ?_⟩
  rcases MR_if h rfl rfl with ⟨c5, h⟩ | ⟨c5, h⟩
  ·
    have c5 : ¬ (v4 = 0) := c5
    refine Or.inr ⟨c5, ?_⟩
    have h : MR X ρ 2 0 0 qP240 N 9 [a0, 0] [] m2 o := h
    have h := CR_aload_n h rfl
    have h : MR X ρ 2 0 0 qP240 N 10 [a0, 0] [(1, a0)] m2 o := h
    have h := CR_getf h rfl (by decide)
    have h : MR X ρ 2 0 0 qP240 N 13 [a0, 0] [(1, m2 a0 44)] m2 o := h
    have h := CR_istore_n h rfl (Nat.le_of_ble_eq_true rfl)
    have h : MR X ρ 2 0 0 qP240 N 14 [a0, m2 a0 44] [] m2 o := h
    exact h
  ·
    have c5 : v4 = 0 := Decidable.of_not_not (show ¬ ¬ (v4 = 0) from c5)
    refine Or.inl ⟨c5, ?_⟩
    have h : MR X ρ 2 0 0 qP240 N 7 [a0, 0] [] m2 o := h
    have h := CR_iconst h rfl rfl
    have h : MR X ρ 2 0 0 qP240 N 8 [a0, 0] [(1, 0)] m2 o := h
    exact CR_end h rfl rfl
set_option maxRecDepth 16384 in
theorem s240_14 {X : KO} {ρ : Nat → Int32} {m : MM} {N : Nat} {o : Instr × List (Nat × Int) × MM} {b0 b1 : Int} (h : MR X ρ 2 0 0 qP240 N 14 [b0, b1] [] m o) : ((((f217 m b0 17) = 0) ∧ (∃ y7, y7 = mu m b0 44 b1 ∧ (o = (.ireturn, [(1, 1)], y7)))) ∨ (¬ ((f217 m b0 17) = 0) ∧ (∃ m9, Run X ρ 195 [(1, b0)] m [] m9 ∧ (∃ v14 m12, Run X ρ 261 [(1, b0)] m9 [(1, v14)] m12 ∧ (v14 = 0 ∨ v14 = 1) ∧ (((v14 = 0) ∧ (o = (.ireturn, [(1, 0)], m12))) ∨ (¬ (v14 = 0) ∧ (∃ y21, y21 = g268 m12 b0 2 b1 (m12 b0 44) 0 ∧ (∃ N22, N = N22 + 1 ∧ MR X ρ 2 0 0 qP240 N22 14 [b0, f268 m12 b0 2 b1 (m12 b0 44) 0] [] y21 o)))))))) := by
  have h := CR_aload_n h rfl
  have h : MR X ρ 2 0 0 qP240 N 15 [b0, b1] [(1, b0)] m o := h
  have h := CR_bipush h rfl rfl
  have h : MR X ρ 2 0 0 qP240 N 17 [b0, b1] [(1, 17), (1, b0)] m o := h
  obtain ⟨r1, m2, q3, h⟩ := MR_invV h rfl rfl
  have q3 : Run X ρ 217 [(1, b0), (1, 17)] m r1 m2 := q3
  obtain ⟨e4, e5⟩ := d217 q3
  rw [e4, e5] at h
  have h : MR X ρ 2 0 0 qP240 N 20 [b0, b1] [(1, f217 m b0 17)] m o := h
  rcases MR_if h rfl rfl with ⟨c6, h⟩ | ⟨c6, h⟩
  ·
    have c6 : (f217 m b0 17) = 0 := c6
    refine Or.inl ⟨c6, ?_⟩
    have h : MR X ρ 2 0 0 qP240 N 51 [b0, b1] [] m o := h
    have h := CR_aload_n h rfl
    have h : MR X ρ 2 0 0 qP240 N 52 [b0, b1] [(1, b0)] m o := h
    have h := CR_iload_n h rfl
    have h : MR X ρ 2 0 0 qP240 N 53 [b0, b1] [(1, b1), (1, b0)] m o := h
    have h := CR_putf h rfl
    have h : MR X ρ 2 0 0 qP240 N 56 [b0, b1] [] (mu m b0 44 b1) o := h
    obtain ⟨y7, zy7, h⟩ : ∃ y, y = mu m b0 44 b1 ∧ MR X ρ 2 0 0 qP240 N 56 [b0, b1] [] y o := ⟨_, rfl, h⟩
    have h : MR X ρ 2 0 0 qP240 N 56 [b0, b1] [] y7 o := h
    refine ⟨y7, zy7, ?_⟩
    have h := CR_iconst h rfl rfl
    have h : MR X ρ 2 0 0 qP240 N 57 [b0, b1] [(1, 1)] y7 o := h
    exact CR_end h rfl rfl
  ·
    have c6 : ¬ ((f217 m b0 17) = 0) := c6
    refine Or.inr ⟨c6, ?_⟩
    have h : MR X ρ 2 0 0 qP240 N 23 [b0, b1] [] m o := h
    have h := CR_aload_n h rfl
    have h : MR X ρ 2 0 0 qP240 N 24 [b0, b1] [(1, b0)] m o := h
    obtain ⟨r8, m9, q10, h⟩ := MR_invV h rfl rfl
    have q10 : Run X ρ 195 [(1, b0)] m r8 m9 := q10
    obtain rfl := Run_v q10 rfl
    have h : MR X ρ 2 0 0 qP240 N 27 [b0, b1] [] m9 o := h
    refine ⟨m9, q10, ?_⟩
    have h := CR_aload_n h rfl
    have h : MR X ρ 2 0 0 qP240 N 28 [b0, b1] [(1, b0)] m9 o := h
    obtain ⟨r11, m12, q13, h⟩ := MR_invV h rfl rfl
    have q13 : Run X ρ 261 [(1, b0)] m9 r11 m12 := q13
    obtain ⟨v14, rfl, zv14⟩ := Run_z q13 rfl
    have h : MR X ρ 2 0 0 qP240 N 31 [b0, b1] [(1, v14)] m12 o := h
    refine ⟨v14, m12, q13, zv14, ?_⟩
    rcases MR_if h rfl rfl with ⟨c15, h⟩ | ⟨c15, h⟩
    ·
      have c15 : ¬ (v14 = 0) := c15
      refine Or.inr ⟨c15, ?_⟩
      have h : MR X ρ 2 0 0 qP240 N 36 [b0, b1] [] m12 o := h
      have h := CR_aload_n h rfl
      have h : MR X ρ 2 0 0 qP240 N 37 [b0, b1] [(1, b0)] m12 o := h
      have h := CR_iconst h rfl rfl
      have h : MR X ρ 2 0 0 qP240 N 38 [b0, b1] [(1, 2), (1, b0)] m12 o := h
      have h := CR_iload_n h rfl
      have h : MR X ρ 2 0 0 qP240 N 39 [b0, b1] [(1, b1), (1, 2), (1, b0)] m12 o := h
      have h := CR_aload_n h rfl
      have h : MR X ρ 2 0 0 qP240 N 40 [b0, b1] [(1, b0), (1, b1), (1, 2), (1, b0)] m12 o := h
      have h := CR_getf h rfl (by decide)
      have h : MR X ρ 2 0 0 qP240 N 43 [b0, b1] [(1, m12 b0 44), (1, b1), (1, 2), (1, b0)] m12 o := h
      have h := CR_iconst h rfl rfl
      have h : MR X ρ 2 0 0 qP240 N 44 [b0, b1] [(1, 0), (1, m12 b0 44), (1, b1), (1, 2), (1, b0)] m12 o := h
      obtain ⟨r16, m17, q18, h⟩ := MR_invV h rfl rfl
      have q18 : Run X ρ 268 [(1, b0), (1, 2), (1, b1), (1, m12 b0 44), (1, 0)] m12 r16 m17 := q18
      obtain ⟨e19, e20⟩ := d268 q18
      rw [e19, e20] at h
      have h : MR X ρ 2 0 0 qP240 N 47 [b0, b1] [(1, f268 m12 b0 2 b1 (m12 b0 44) 0)] (g268 m12 b0 2 b1 (m12 b0 44) 0) o := h
      obtain ⟨y21, zy21, h⟩ : ∃ y, y = g268 m12 b0 2 b1 (m12 b0 44) 0 ∧ MR X ρ 2 0 0 qP240 N 47 [b0, b1] [(1, f268 m12 b0 2 b1 (m12 b0 44) 0)] y o := ⟨_, rfl, h⟩
      have h : MR X ρ 2 0 0 qP240 N 47 [b0, b1] [(1, f268 m12 b0 2 b1 (m12 b0 44) 0)] y21 o := h
      refine ⟨y21, zy21, ?_⟩
      have h := CR_istore_n h rfl (Nat.le_of_ble_eq_true rfl)
      have h : MR X ρ 2 0 0 qP240 N 48 [b0, f268 m12 b0 2 b1 (m12 b0 44) 0] [] y21 o := h
      obtain ⟨N22, eN22, h⟩ := CR_goto h rfl rfl
      have h : MR X ρ 2 0 0 qP240 N22 14 [b0, f268 m12 b0 2 b1 (m12 b0 44) 0] [] y21 o := h
      exact ⟨N22, eN22, h⟩
    ·
      have c15 : v14 = 0 := Decidable.of_not_not (show ¬ ¬ (v14 = 0) from c15)
      refine Or.inl ⟨c15, ?_⟩
      have h : MR X ρ 2 0 0 qP240 N 34 [b0, b1] [] m12 o := h
      have h := CR_iconst h rfl rfl
      have h : MR X ρ 2 0 0 qP240 N 35 [b0, b1] [(1, 0)] m12 o := h
      exact CR_end h rfl rfl
set_option maxRecDepth 16384 in
theorem s261_0 {X : KO} {ρ : Nat → Int32} {m : MM} {N : Nat} {o : Instr × List (Nat × Int) × MM} {a0 : Int} (h : MR X ρ 4 0 0 qP261 N 0 [a0, 0, 0, 0] [] m o) : ((((f215 m a0 40) = 0) ∧ (((((L261_10 m a0 (f215 m a0 40) 18 0).2.2) ≤ 29) ∧ ((((m a0 42) = 20) ∧ (∃ y65, y65 = g168 m a0 4 ∧ (o = (.ireturn, [(1, f168 m a0 4)], y65)))) ∨ (¬ ((m a0 42) = 20) ∧ ((((m a0 43) = 8) ∧ (∃ y109, y109 = g168 m a0 4 ∧ (o = (.ireturn, [(1, f168 m a0 4)], y109)))) ∨ (¬ ((m a0 43) = 8) ∧ (∃ y67, y67 = mu m a0 42 (s32 ((m a0 42) + 1)) ∧ (∃ y68, y68 = mu y67 a0 43 (s32 ((y67 a0 43) + 1)) ∧ (∃ m70, Run X ρ 195 [(1, a0)] y68 [] m70 ∧ ((((f215 m a0 40) = 0) ∧ (((((L261_10 m a0 (f215 m a0 40) 18 0).2.2) = 18) ∧ (∃ v97 m95, Run X ρ 253 [(1, a0)] m70 [(1, v97)] m95 ∧ (v97 = 0 ∨ v97 = 1) ∧ (∃ y98, y98 = mu m95 a0 43 (s32 ((m95 a0 43) - 1)) ∧ (o = (.ireturn, [(1, v97)], y98))))) ∨ (¬ (((L261_10 m a0 (f215 m a0 40) 18 0).2.2) = 18) ∧ (((24 ≤ ((L261_10 m a0 (f215 m a0 40) 18 0).2.2)) ∧ (((27 ≤ ((L261_10 m a0 (f215 m a0 40) 18 0).2.2)) ∧ (∃ v79 m77, Run X ρ 243 [(1, a0), (1, (L261_10 m a0 (f215 m a0 40) 18 0).2.2)] m70 [(1, v79)] m77 ∧ (v79 = 0 ∨ v79 = 1) ∧ (∃ y80, y80 = mu m77 a0 43 (s32 ((m77 a0 43) - 1)) ∧ (o = (.ireturn, [(1, v79)], y80))))) ∨ (¬ (27 ≤ ((L261_10 m a0 (f215 m a0 40) 18 0).2.2)) ∧ (∃ v84 m82, Run X ρ 255 [(1, a0), (1, (L261_10 m a0 (f215 m a0 40) 18 0).2.2)] m70 [(1, v84)] m82 ∧ (v84 = 0 ∨ v84 = 1) ∧ (∃ y85, y85 = mu m82 a0 43 (s32 ((m82 a0 43) - 1)) ∧ (o = (.ireturn, [(1, v84)], y85))))))) ∨ (¬ (24 ≤ ((L261_10 m a0 (f215 m a0 40) 18 0).2.2)) ∧ (∃ y91, y91 = g268 m70 a0 (s32 (50 + ((L261_10 m a0 (f215 m a0 40) 18 0).2.2))) 0 0 0 ∧ (∃ y92, y92 = mu y91 a0 44 (f268 m70 a0 (s32 (50 + ((L261_10 m a0 (f215 m a0 40) 18 0).2.2))) 0 0 0) ∧ (∃ y93, y93 = mu y92 a0 43 (s32 ((y92 a0 43) - 1)) ∧ (o = (.ireturn, [(1, 1)], y93)))))))))) ∨ (¬ ((f215 m a0 40) = 0) ∧ (∃ v102 m100, Run X ρ 242 [(1, a0)] m70 [(1, v102)] m100 ∧ (v102 = 0 ∨ v102 = 1) ∧ (∃ y103, y103 = mu m100 a0 43 (s32 ((m100 a0 43) - 1)) ∧ (o = (.ireturn, [(1, v102)], y103)))))))))))))) ∨ (¬ (((L261_10 m a0 (f215 m a0 40) 18 0).2.2) ≤ 29) ∧ (∃ y115, y115 = g168 m a0 1 ∧ (o = (.ireturn, [(1, f168 m a0 1)], y115)))))) ∨ (¬ ((f215 m a0 40) = 0) ∧ ((((m a0 42) = 20) ∧ (∃ y13, y13 = g168 m a0 4 ∧ (o = (.ireturn, [(1, f168 m a0 4)], y13)))) ∨ (¬ ((m a0 42) = 20) ∧ ((((m a0 43) = 8) ∧ (∃ y57, y57 = g168 m a0 4 ∧ (o = (.ireturn, [(1, f168 m a0 4)], y57)))) ∨ (¬ ((m a0 43) = 8) ∧ (∃ y15, y15 = mu m a0 42 (s32 ((m a0 42) + 1)) ∧ (∃ y16, y16 = mu y15 a0 43 (s32 ((y15 a0 43) + 1)) ∧ (∃ m18, Run X ρ 195 [(1, a0)] y16 [] m18 ∧ ((((f215 m a0 40) = 0) ∧ (((((L261_10 m a0 (f215 m a0 40) 18 0).2.2) = 18) ∧ (∃ v45 m43, Run X ρ 253 [(1, a0)] m18 [(1, v45)] m43 ∧ (v45 = 0 ∨ v45 = 1) ∧ (∃ y46, y46 = mu m43 a0 43 (s32 ((m43 a0 43) - 1)) ∧ (o = (.ireturn, [(1, v45)], y46))))) ∨ (¬ (((L261_10 m a0 (f215 m a0 40) 18 0).2.2) = 18) ∧ (((24 ≤ ((L261_10 m a0 (f215 m a0 40) 18 0).2.2)) ∧ (((27 ≤ ((L261_10 m a0 (f215 m a0 40) 18 0).2.2)) ∧ (∃ v27 m25, Run X ρ 243 [(1, a0), (1, (L261_10 m a0 (f215 m a0 40) 18 0).2.2)] m18 [(1, v27)] m25 ∧ (v27 = 0 ∨ v27 = 1) ∧ (∃ y28, y28 = mu m25 a0 43 (s32 ((m25 a0 43) - 1)) ∧ (o = (.ireturn, [(1, v27)], y28))))) ∨ (¬ (27 ≤ ((L261_10 m a0 (f215 m a0 40) 18 0).2.2)) ∧ (∃ v32 m30, Run X ρ 255 [(1, a0), (1, (L261_10 m a0 (f215 m a0 40) 18 0).2.2)] m18 [(1, v32)] m30 ∧ (v32 = 0 ∨ v32 = 1) ∧ (∃ y33, y33 = mu m30 a0 43 (s32 ((m30 a0 43) - 1)) ∧ (o = (.ireturn, [(1, v32)], y33))))))) ∨ (¬ (24 ≤ ((L261_10 m a0 (f215 m a0 40) 18 0).2.2)) ∧ (∃ y39, y39 = g268 m18 a0 (s32 (50 + ((L261_10 m a0 (f215 m a0 40) 18 0).2.2))) 0 0 0 ∧ (∃ y40, y40 = mu y39 a0 44 (f268 m18 a0 (s32 (50 + ((L261_10 m a0 (f215 m a0 40) 18 0).2.2))) 0 0 0) ∧ (∃ y41, y41 = mu y40 a0 43 (s32 ((y40 a0 43) - 1)) ∧ (o = (.ireturn, [(1, 1)], y41)))))))))) ∨ (¬ ((f215 m a0 40) = 0) ∧ (∃ v50 m48, Run X ρ 242 [(1, a0)] m18 [(1, v50)] m48 ∧ (v50 = 0 ∨ v50 = 1) ∧ (∃ y51, y51 = mu m48 a0 43 (s32 ((m48 a0 43) - 1)) ∧ (o = (.ireturn, [(1, v50)], y51))))))))))))))) := by
  have h := CR_aload_n h rfl
  have h : MR X ρ 4 0 0 qP261 N 1 [a0, 0, 0, 0] [(1, a0)] m o := h
  have h := CR_bipush h rfl rfl
  have h : MR X ρ 4 0 0 qP261 N 3 [a0, 0, 0, 0] [(1, 40), (1, a0)] m o := h
  obtain ⟨r1, m2, q3, h⟩ := MR_invV h rfl rfl
  have q3 : Run X ρ 215 [(1, a0), (1, 40)] m r1 m2 := q3
  obtain ⟨e4, e5⟩ := d215 q3
  rw [e4, e5] at h
  have h : MR X ρ 4 0 0 qP261 N 6 [a0, 0, 0, 0] [(1, f215 m a0 40)] m o := h
  have h := CR_istore_n h rfl (Nat.le_of_ble_eq_true rfl)
  have h : MR X ρ 4 0 0 qP261 N 7 [a0, f215 m a0 40, 0, 0] [] m o := h
  have h := CR_bipush h rfl rfl
  have h : MR X ρ 4 0 0 qP261 N 9 [a0, f215 m a0 40, 0, 0] [(1, 18)] m o := h
  have h := CR_istore_n h rfl (Nat.le_of_ble_eq_true rfl)
  have h : MR X ρ 4 0 0 qP261 N 10 [a0, f215 m a0 40, 18, 0] [] m o := h
  have h := l261_10 (Nat.le_refl _) h
  have h : MR X ρ 4 0 0 qP261 N 30 [a0, f215 m a0 40, (L261_10 m a0 (f215 m a0 40) 18 0).2.2, 0] [] m o := h
  have h := CR_iload_n h rfl
  have h : MR X ρ 4 0 0 qP261 N 31 [a0, f215 m a0 40, (L261_10 m a0 (f215 m a0 40) 18 0).2.2, 0] [(1, f215 m a0 40)] m o := h
  rcases MR_if h rfl rfl with ⟨c6, h⟩ | ⟨c6, h⟩
  ·
    have c6 : ¬ ((f215 m a0 40) = 0) := c6
    refine Or.inr ⟨c6, ?_⟩
    have h : MR X ρ 4 0 0 qP261 N 46 [a0, f215 m a0 40, (L261_10 m a0 (f215 m a0 40) 18 0).2.2, 0] [] m o := h
    have h := CR_aload_n h rfl
    have h : MR X ρ 4 0 0 qP261 N 47 [a0, f215 m a0 40, (L261_10 m a0 (f215 m a0 40) 18 0).2.2, 0] [(1, a0)] m o := h
    have h := CR_getf h rfl (by decide)
    have h : MR X ρ 4 0 0 qP261 N 50 [a0, f215 m a0 40, (L261_10 m a0 (f215 m a0 40) 18 0).2.2, 0] [(1, m a0 42)] m o := h
    have h := CR_bipush h rfl rfl
    have h : MR X ρ 4 0 0 qP261 N 52 [a0, f215 m a0 40, (L261_10 m a0 (f215 m a0 40) 18 0).2.2, 0] [(1, 20), (1, m a0 42)] m o := h
    rcases MR_icmp h rfl rfl with ⟨c7, h⟩ | ⟨c7, h⟩
    ·
      have c7 : (m a0 42) = 20 := c7
      refine Or.inl ⟨c7, ?_⟩
      have h : MR X ρ 4 0 0 qP261 N 64 [a0, f215 m a0 40, (L261_10 m a0 (f215 m a0 40) 18 0).2.2, 0] [] m o := h
      have h := CR_aload_n h rfl
      have h : MR X ρ 4 0 0 qP261 N 65 [a0, f215 m a0 40, (L261_10 m a0 (f215 m a0 40) 18 0).2.2, 0] [(1, a0)] m o := h
      have h := CR_iconst h rfl rfl
      have h : MR X ρ 4 0 0 qP261 N 66 [a0, f215 m a0 40, (L261_10 m a0 (f215 m a0 40) 18 0).2.2, 0] [(1, 4), (1, a0)] m o := h
      obtain ⟨r8, m9, q10, h⟩ := MR_invV h rfl rfl
      have q10 : Run X ρ 168 [(1, a0), (1, 4)] m r8 m9 := q10
      obtain ⟨e11, e12⟩ := d168 q10
      rw [e11, e12] at h
      have h : MR X ρ 4 0 0 qP261 N 69 [a0, f215 m a0 40, (L261_10 m a0 (f215 m a0 40) 18 0).2.2, 0] [(1, f168 m a0 4)] (g168 m a0 4) o := h
      obtain ⟨y13, zy13, h⟩ : ∃ y, y = g168 m a0 4 ∧ MR X ρ 4 0 0 qP261 N 69 [a0, f215 m a0 40, (L261_10 m a0 (f215 m a0 40) 18 0).2.2, 0] [(1, f168 m a0 4)] y o := ⟨_, rfl, h⟩
      have h : MR X ρ 4 0 0 qP261 N 69 [a0, f215 m a0 40, (L261_10 m a0 (f215 m a0 40) 18 0).2.2, 0] [(1, f168 m a0 4)] y13 o := h
      refine ⟨y13, zy13, ?_⟩
      exact CR_end h rfl rfl
    ·
      have c7 : ¬ ((m a0 42) = 20) := c7
      refine Or.inr ⟨c7, ?_⟩
      have h : MR X ρ 4 0 0 qP261 N 55 [a0, f215 m a0 40, (L261_10 m a0 (f215 m a0 40) 18 0).2.2, 0] [] m o := h
      have h := CR_aload_n h rfl
      have h : MR X ρ 4 0 0 qP261 N 56 [a0, f215 m a0 40, (L261_10 m a0 (f215 m a0 40) 18 0).2.2, 0] [(1, a0)] m o := h
      have h := CR_getf h rfl (by decide)
      have h : MR X ρ 4 0 0 qP261 N 59 [a0, f215 m a0 40, (L261_10 m a0 (f215 m a0 40) 18 0).2.2, 0] [(1, m a0 43)] m o := h
      have h := CR_bipush h rfl rfl
      have h : MR X ρ 4 0 0 qP261 N 61 [a0, f215 m a0 40, (L261_10 m a0 (f215 m a0 40) 18 0).2.2, 0] [(1, 8), (1, m a0 43)] m o := h
      rcases MR_icmp h rfl rfl with ⟨c14, h⟩ | ⟨c14, h⟩
      ·
        have c14 : ¬ ((m a0 43) = 8) := c14
        refine Or.inr ⟨c14, ?_⟩
        have h : MR X ρ 4 0 0 qP261 N 70 [a0, f215 m a0 40, (L261_10 m a0 (f215 m a0 40) 18 0).2.2, 0] [] m o := h
        have h := CR_aload_n h rfl
        have h : MR X ρ 4 0 0 qP261 N 71 [a0, f215 m a0 40, (L261_10 m a0 (f215 m a0 40) 18 0).2.2, 0] [(1, a0)] m o := h
        have h := CR_dup h rfl
        have h : MR X ρ 4 0 0 qP261 N 72 [a0, f215 m a0 40, (L261_10 m a0 (f215 m a0 40) 18 0).2.2, 0] [(1, a0), (1, a0)] m o := h
        have h := CR_getf h rfl (by decide)
        have h : MR X ρ 4 0 0 qP261 N 75 [a0, f215 m a0 40, (L261_10 m a0 (f215 m a0 40) 18 0).2.2, 0] [(1, m a0 42), (1, a0)] m o := h
        have h := CR_iconst h rfl rfl
        have h : MR X ρ 4 0 0 qP261 N 76 [a0, f215 m a0 40, (L261_10 m a0 (f215 m a0 40) 18 0).2.2, 0] [(1, 1), (1, m a0 42), (1, a0)] m o := h
        have h := CR_iadd h rfl
        have h : MR X ρ 4 0 0 qP261 N 77 [a0, f215 m a0 40, (L261_10 m a0 (f215 m a0 40) 18 0).2.2, 0] [(1, s32 ((m a0 42) + 1)), (1, a0)] m o := h
        have h := CR_putf h rfl
        have h : MR X ρ 4 0 0 qP261 N 80 [a0, f215 m a0 40, (L261_10 m a0 (f215 m a0 40) 18 0).2.2, 0] [] (mu m a0 42 (s32 ((m a0 42) + 1))) o := h
        obtain ⟨y15, zy15, h⟩ : ∃ y, y = mu m a0 42 (s32 ((m a0 42) + 1)) ∧ MR X ρ 4 0 0 qP261 N 80 [a0, f215 m a0 40, (L261_10 m a0 (f215 m a0 40) 18 0).2.2, 0] [] y o := ⟨_, rfl, h⟩
        have h : MR X ρ 4 0 0 qP261 N 80 [a0, f215 m a0 40, (L261_10 m a0 (f215 m a0 40) 18 0).2.2, 0] [] y15 o := h
        refine ⟨y15, zy15, ?_⟩
        have h := CR_aload_n h rfl
        have h : MR X ρ 4 0 0 qP261 N 81 [a0, f215 m a0 40, (L261_10 m a0 (f215 m a0 40) 18 0).2.2, 0] [(1, a0)] y15 o := h
        have h := CR_dup h rfl
        have h : MR X ρ 4 0 0 qP261 N 82 [a0, f215 m a0 40, (L261_10 m a0 (f215 m a0 40) 18 0).2.2, 0] [(1, a0), (1, a0)] y15 o := h
        have h := CR_getf h rfl (by decide)
        have h : MR X ρ 4 0 0 qP261 N 85 [a0, f215 m a0 40, (L261_10 m a0 (f215 m a0 40) 18 0).2.2, 0] [(1, y15 a0 43), (1, a0)] y15 o := h
        have h := CR_iconst h rfl rfl
        have h : MR X ρ 4 0 0 qP261 N 86 [a0, f215 m a0 40, (L261_10 m a0 (f215 m a0 40) 18 0).2.2, 0] [(1, 1), (1, y15 a0 43), (1, a0)] y15 o := h
        have h := CR_iadd h rfl
        have h : MR X ρ 4 0 0 qP261 N 87 [a0, f215 m a0 40, (L261_10 m a0 (f215 m a0 40) 18 0).2.2, 0] [(1, s32 ((y15 a0 43) + 1)), (1, a0)] y15 o := h
        have h := CR_putf h rfl
        have h : MR X ρ 4 0 0 qP261 N 90 [a0, f215 m a0 40, (L261_10 m a0 (f215 m a0 40) 18 0).2.2, 0] [] (mu y15 a0 43 (s32 ((y15 a0 43) + 1))) o := h
        obtain ⟨y16, zy16, h⟩ : ∃ y, y = mu y15 a0 43 (s32 ((y15 a0 43) + 1)) ∧ MR X ρ 4 0 0 qP261 N 90 [a0, f215 m a0 40, (L261_10 m a0 (f215 m a0 40) 18 0).2.2, 0] [] y o := ⟨_, rfl, h⟩
        have h : MR X ρ 4 0 0 qP261 N 90 [a0, f215 m a0 40, (L261_10 m a0 (f215 m a0 40) 18 0).2.2, 0] [] y16 o := h
        refine ⟨y16, zy16, ?_⟩
        have h := CR_aload_n h rfl
        have h : MR X ρ 4 0 0 qP261 N 91 [a0, f215 m a0 40, (L261_10 m a0 (f215 m a0 40) 18 0).2.2, 0] [(1, a0)] y16 o := h
        obtain ⟨r17, m18, q19, h⟩ := MR_invV h rfl rfl
        have q19 : Run X ρ 195 [(1, a0)] y16 r17 m18 := q19
        obtain rfl := Run_v q19 rfl
        have h : MR X ρ 4 0 0 qP261 N 94 [a0, f215 m a0 40, (L261_10 m a0 (f215 m a0 40) 18 0).2.2, 0] [] m18 o := h
        refine ⟨m18, q19, ?_⟩
        have h := CR_iconst h rfl rfl
        have h : MR X ρ 4 0 0 qP261 N 95 [a0, f215 m a0 40, (L261_10 m a0 (f215 m a0 40) 18 0).2.2, 0] [(1, 1)] m18 o := h
        have h := CR_istore_n h rfl (Nat.le_of_ble_eq_true rfl)
        have h : MR X ρ 4 0 0 qP261 N 96 [a0, f215 m a0 40, (L261_10 m a0 (f215 m a0 40) 18 0).2.2, 1] [] m18 o := h
        have h := CR_iload_n h rfl
        have h : MR X ρ 4 0 0 qP261 N 97 [a0, f215 m a0 40, (L261_10 m a0 (f215 m a0 40) 18 0).2.2, 1] [(1, f215 m a0 40)] m18 o := h
        rcases MR_if h rfl rfl with ⟨c20, h⟩ | ⟨c20, h⟩
        ·
          have c20 : (f215 m a0 40) = 0 := c20
          refine Or.inl ⟨c20, ?_⟩
          have h : MR X ρ 4 0 0 qP261 N 108 [a0, f215 m a0 40, (L261_10 m a0 (f215 m a0 40) 18 0).2.2, 1] [] m18 o := h
          have h := CR_iload_n h rfl
          have h : MR X ρ 4 0 0 qP261 N 109 [a0, f215 m a0 40, (L261_10 m a0 (f215 m a0 40) 18 0).2.2, 1] [(1, (L261_10 m a0 (f215 m a0 40) 18 0).2.2)] m18 o := h
          have h := CR_bipush h rfl rfl
          have h : MR X ρ 4 0 0 qP261 N 111 [a0, f215 m a0 40, (L261_10 m a0 (f215 m a0 40) 18 0).2.2, 1] [(1, 18), (1, (L261_10 m a0 (f215 m a0 40) 18 0).2.2)] m18 o := h
          rcases MR_icmp h rfl rfl with ⟨c21, h⟩ | ⟨c21, h⟩
          ·
            have c21 : ¬ (((L261_10 m a0 (f215 m a0 40) 18 0).2.2) = 18) := c21
            refine Or.inr ⟨c21, ?_⟩
            have h : MR X ρ 4 0 0 qP261 N 122 [a0, f215 m a0 40, (L261_10 m a0 (f215 m a0 40) 18 0).2.2, 1] [] m18 o := h
            have h := CR_iload_n h rfl
            have h : MR X ρ 4 0 0 qP261 N 123 [a0, f215 m a0 40, (L261_10 m a0 (f215 m a0 40) 18 0).2.2, 1] [(1, (L261_10 m a0 (f215 m a0 40) 18 0).2.2)] m18 o := h
            have h := CR_bipush h rfl rfl
            have h : MR X ρ 4 0 0 qP261 N 125 [a0, f215 m a0 40, (L261_10 m a0 (f215 m a0 40) 18 0).2.2, 1] [(1, 24), (1, (L261_10 m a0 (f215 m a0 40) 18 0).2.2)] m18 o := h
            rcases MR_icmp h rfl rfl with ⟨c22, h⟩ | ⟨c22, h⟩
            ·
              have c22 : 24 ≤ ((L261_10 m a0 (f215 m a0 40) 18 0).2.2) := c22
              refine Or.inl ⟨c22, ?_⟩
              have h : MR X ρ 4 0 0 qP261 N 146 [a0, f215 m a0 40, (L261_10 m a0 (f215 m a0 40) 18 0).2.2, 1] [] m18 o := h
              have h := CR_iload_n h rfl
              have h : MR X ρ 4 0 0 qP261 N 147 [a0, f215 m a0 40, (L261_10 m a0 (f215 m a0 40) 18 0).2.2, 1] [(1, (L261_10 m a0 (f215 m a0 40) 18 0).2.2)] m18 o := h
              have h := CR_bipush h rfl rfl
              have h : MR X ρ 4 0 0 qP261 N 149 [a0, f215 m a0 40, (L261_10 m a0 (f215 m a0 40) 18 0).2.2, 1] [(1, 27), (1, (L261_10 m a0 (f215 m a0 40) 18 0).2.2)] m18 o := h
              rcases MR_icmp h rfl rfl with ⟨c23, h⟩ | ⟨c23, h⟩
              ·
                have c23 : 27 ≤ ((L261_10 m a0 (f215 m a0 40) 18 0).2.2) := c23
                refine Or.inl ⟨c23, ?_⟩
                have h : MR X ρ 4 0 0 qP261 N 160 [a0, f215 m a0 40, (L261_10 m a0 (f215 m a0 40) 18 0).2.2, 1] [] m18 o := h
                have h := CR_aload_n h rfl
                have h : MR X ρ 4 0 0 qP261 N 161 [a0, f215 m a0 40, (L261_10 m a0 (f215 m a0 40) 18 0).2.2, 1] [(1, a0)] m18 o := h
                have h := CR_iload_n h rfl
                have h : MR X ρ 4 0 0 qP261 N 162 [a0, f215 m a0 40, (L261_10 m a0 (f215 m a0 40) 18 0).2.2, 1] [(1, (L261_10 m a0 (f215 m a0 40) 18 0).2.2), (1, a0)] m18 o := h
                obtain ⟨r24, m25, q26, h⟩ := MR_invV h rfl rfl
                have q26 : Run X ρ 243 [(1, a0), (1, (L261_10 m a0 (f215 m a0 40) 18 0).2.2)] m18 r24 m25 := q26
                obtain ⟨v27, rfl, zv27⟩ := Run_z q26 rfl
                have h : MR X ρ 4 0 0 qP261 N 165 [a0, f215 m a0 40, (L261_10 m a0 (f215 m a0 40) 18 0).2.2, 1] [(1, v27)] m25 o := h
                refine ⟨v27, m25, q26, zv27, ?_⟩
                have h := CR_istore_n h rfl (Nat.le_of_ble_eq_true rfl)
                have h : MR X ρ 4 0 0 qP261 N 166 [a0, f215 m a0 40, (L261_10 m a0 (f215 m a0 40) 18 0).2.2, v27] [] m25 o := h
                have h := CR_aload_n h rfl
                have h : MR X ρ 4 0 0 qP261 N 167 [a0, f215 m a0 40, (L261_10 m a0 (f215 m a0 40) 18 0).2.2, v27] [(1, a0)] m25 o := h
                have h := CR_dup h rfl
                have h : MR X ρ 4 0 0 qP261 N 168 [a0, f215 m a0 40, (L261_10 m a0 (f215 m a0 40) 18 0).2.2, v27] [(1, a0), (1, a0)] m25 o := h
                have h := CR_getf h rfl (by decide)
                have h : MR X ρ 4 0 0 qP261 N 171 [a0, f215 m a0 40, (L261_10 m a0 (f215 m a0 40) 18 0).2.2, v27] [(1, m25 a0 43), (1, a0)] m25 o := h
                have h := CR_iconst h rfl rfl
                have h : MR X ρ 4 0 0 qP261 N 172 [a0, f215 m a0 40, (L261_10 m a0 (f215 m a0 40) 18 0).2.2, v27] [(1, 1), (1, m25 a0 43), (1, a0)] m25 o := h
                have h := CR_isub h rfl
                have h : MR X ρ 4 0 0 qP261 N 173 [a0, f215 m a0 40, (L261_10 m a0 (f215 m a0 40) 18 0).2.2, v27] [(1, s32 ((m25 a0 43) - 1)), (1, a0)] m25 o := h
                have h := CR_putf h rfl
                have h : MR X ρ 4 0 0 qP261 N 176 [a0, f215 m a0 40, (L261_10 m a0 (f215 m a0 40) 18 0).2.2, v27] [] (mu m25 a0 43 (s32 ((m25 a0 43) - 1))) o := h
                obtain ⟨y28, zy28, h⟩ : ∃ y, y = mu m25 a0 43 (s32 ((m25 a0 43) - 1)) ∧ MR X ρ 4 0 0 qP261 N 176 [a0, f215 m a0 40, (L261_10 m a0 (f215 m a0 40) 18 0).2.2, v27] [] y o := ⟨_, rfl, h⟩
                have h : MR X ρ 4 0 0 qP261 N 176 [a0, f215 m a0 40, (L261_10 m a0 (f215 m a0 40) 18 0).2.2, v27] [] y28 o := h
                refine ⟨y28, zy28, ?_⟩
                have h := CR_iload_n h rfl
                have h : MR X ρ 4 0 0 qP261 N 177 [a0, f215 m a0 40, (L261_10 m a0 (f215 m a0 40) 18 0).2.2, v27] [(1, v27)] y28 o := h
                exact CR_end h rfl rfl
              ·
                have c23 : ¬ (27 ≤ ((L261_10 m a0 (f215 m a0 40) 18 0).2.2)) := c23
                refine Or.inr ⟨c23, ?_⟩
                have h : MR X ρ 4 0 0 qP261 N 152 [a0, f215 m a0 40, (L261_10 m a0 (f215 m a0 40) 18 0).2.2, 1] [] m18 o := h
                have h := CR_aload_n h rfl
                have h : MR X ρ 4 0 0 qP261 N 153 [a0, f215 m a0 40, (L261_10 m a0 (f215 m a0 40) 18 0).2.2, 1] [(1, a0)] m18 o := h
                have h := CR_iload_n h rfl
                have h : MR X ρ 4 0 0 qP261 N 154 [a0, f215 m a0 40, (L261_10 m a0 (f215 m a0 40) 18 0).2.2, 1] [(1, (L261_10 m a0 (f215 m a0 40) 18 0).2.2), (1, a0)] m18 o := h
                obtain ⟨r29, m30, q31, h⟩ := MR_invV h rfl rfl
                have q31 : Run X ρ 255 [(1, a0), (1, (L261_10 m a0 (f215 m a0 40) 18 0).2.2)] m18 r29 m30 := q31
                obtain ⟨v32, rfl, zv32⟩ := Run_z q31 rfl
                have h : MR X ρ 4 0 0 qP261 N 157 [a0, f215 m a0 40, (L261_10 m a0 (f215 m a0 40) 18 0).2.2, 1] [(1, v32)] m30 o := h
                refine ⟨v32, m30, q31, zv32, ?_⟩
                have h := CR_go h rfl rfl
                have h : MR X ρ 4 0 0 qP261 N 165 [a0, f215 m a0 40, (L261_10 m a0 (f215 m a0 40) 18 0).2.2, 1] [(1, v32)] m30 o := h
                have h := CR_istore_n h rfl (Nat.le_of_ble_eq_true rfl)
                have h : MR X ρ 4 0 0 qP261 N 166 [a0, f215 m a0 40, (L261_10 m a0 (f215 m a0 40) 18 0).2.2, v32] [] m30 o := h
                have h := CR_aload_n h rfl
                have h : MR X ρ 4 0 0 qP261 N 167 [a0, f215 m a0 40, (L261_10 m a0 (f215 m a0 40) 18 0).2.2, v32] [(1, a0)] m30 o := h
                have h := CR_dup h rfl
                have h : MR X ρ 4 0 0 qP261 N 168 [a0, f215 m a0 40, (L261_10 m a0 (f215 m a0 40) 18 0).2.2, v32] [(1, a0), (1, a0)] m30 o := h
                have h := CR_getf h rfl (by decide)
                have h : MR X ρ 4 0 0 qP261 N 171 [a0, f215 m a0 40, (L261_10 m a0 (f215 m a0 40) 18 0).2.2, v32] [(1, m30 a0 43), (1, a0)] m30 o := h
                have h := CR_iconst h rfl rfl
                have h : MR X ρ 4 0 0 qP261 N 172 [a0, f215 m a0 40, (L261_10 m a0 (f215 m a0 40) 18 0).2.2, v32] [(1, 1), (1, m30 a0 43), (1, a0)] m30 o := h
                have h := CR_isub h rfl
                have h : MR X ρ 4 0 0 qP261 N 173 [a0, f215 m a0 40, (L261_10 m a0 (f215 m a0 40) 18 0).2.2, v32] [(1, s32 ((m30 a0 43) - 1)), (1, a0)] m30 o := h
                have h := CR_putf h rfl
                have h : MR X ρ 4 0 0 qP261 N 176 [a0, f215 m a0 40, (L261_10 m a0 (f215 m a0 40) 18 0).2.2, v32] [] (mu m30 a0 43 (s32 ((m30 a0 43) - 1))) o := h
                obtain ⟨y33, zy33, h⟩ : ∃ y, y = mu m30 a0 43 (s32 ((m30 a0 43) - 1)) ∧ MR X ρ 4 0 0 qP261 N 176 [a0, f215 m a0 40, (L261_10 m a0 (f215 m a0 40) 18 0).2.2, v32] [] y o := ⟨_, rfl, h⟩
                have h : MR X ρ 4 0 0 qP261 N 176 [a0, f215 m a0 40, (L261_10 m a0 (f215 m a0 40) 18 0).2.2, v32] [] y33 o := h
                refine ⟨y33, zy33, ?_⟩
                have h := CR_iload_n h rfl
                have h : MR X ρ 4 0 0 qP261 N 177 [a0, f215 m a0 40, (L261_10 m a0 (f215 m a0 40) 18 0).2.2, v32] [(1, v32)] y33 o := h
                exact CR_end h rfl rfl
            ·
              have c22 : ¬ (24 ≤ ((L261_10 m a0 (f215 m a0 40) 18 0).2.2)) := c22
              refine Or.inr ⟨c22, ?_⟩
              have h : MR X ρ 4 0 0 qP261 N 128 [a0, f215 m a0 40, (L261_10 m a0 (f215 m a0 40) 18 0).2.2, 1] [] m18 o := h
              have h := CR_aload_n h rfl
              have h : MR X ρ 4 0 0 qP261 N 129 [a0, f215 m a0 40, (L261_10 m a0 (f215 m a0 40) 18 0).2.2, 1] [(1, a0)] m18 o := h
              have h := CR_aload_n h rfl
              have h : MR X ρ 4 0 0 qP261 N 130 [a0, f215 m a0 40, (L261_10 m a0 (f215 m a0 40) 18 0).2.2, 1] [(1, a0), (1, a0)] m18 o := h
              have h := CR_bipush h rfl rfl
              have h : MR X ρ 4 0 0 qP261 N 132 [a0, f215 m a0 40, (L261_10 m a0 (f215 m a0 40) 18 0).2.2, 1] [(1, 50), (1, a0), (1, a0)] m18 o := h
              have h := CR_iload_n h rfl
              have h : MR X ρ 4 0 0 qP261 N 133 [a0, f215 m a0 40, (L261_10 m a0 (f215 m a0 40) 18 0).2.2, 1] [(1, (L261_10 m a0 (f215 m a0 40) 18 0).2.2), (1, 50), (1, a0), (1, a0)] m18 o := h
              have h := CR_iadd h rfl
              have h : MR X ρ 4 0 0 qP261 N 134 [a0, f215 m a0 40, (L261_10 m a0 (f215 m a0 40) 18 0).2.2, 1] [(1, s32 (50 + ((L261_10 m a0 (f215 m a0 40) 18 0).2.2))), (1, a0), (1, a0)] m18 o := h
              have h := CR_iconst h rfl rfl
              have h : MR X ρ 4 0 0 qP261 N 135 [a0, f215 m a0 40, (L261_10 m a0 (f215 m a0 40) 18 0).2.2, 1] [(1, 0), (1, s32 (50 + ((L261_10 m a0 (f215 m a0 40) 18 0).2.2))), (1, a0), (1, a0)] m18 o := h
              have h := CR_iconst h rfl rfl
              have h : MR X ρ 4 0 0 qP261 N 136 [a0, f215 m a0 40, (L261_10 m a0 (f215 m a0 40) 18 0).2.2, 1] [(1, 0), (1, 0), (1, s32 (50 + ((L261_10 m a0 (f215 m a0 40) 18 0).2.2))), (1, a0), (1, a0)] m18 o := h
              have h := CR_iconst h rfl rfl
              have h : MR X ρ 4 0 0 qP261 N 137 [a0, f215 m a0 40, (L261_10 m a0 (f215 m a0 40) 18 0).2.2, 1] [(1, 0), (1, 0), (1, 0), (1, s32 (50 + ((L261_10 m a0 (f215 m a0 40) 18 0).2.2))), (1, a0), (1, a0)] m18 o := h
              obtain ⟨r34, m35, q36, h⟩ := MR_invV h rfl rfl
              have q36 : Run X ρ 268 [(1, a0), (1, s32 (50 + ((L261_10 m a0 (f215 m a0 40) 18 0).2.2))), (1, 0), (1, 0), (1, 0)] m18 r34 m35 := q36
              obtain ⟨e37, e38⟩ := d268 q36
              rw [e37, e38] at h
              have h : MR X ρ 4 0 0 qP261 N 140 [a0, f215 m a0 40, (L261_10 m a0 (f215 m a0 40) 18 0).2.2, 1] [(1, f268 m18 a0 (s32 (50 + ((L261_10 m a0 (f215 m a0 40) 18 0).2.2))) 0 0 0), (1, a0)] (g268 m18 a0 (s32 (50 + ((L261_10 m a0 (f215 m a0 40) 18 0).2.2))) 0 0 0) o := h
              obtain ⟨y39, zy39, h⟩ : ∃ y, y = g268 m18 a0 (s32 (50 + ((L261_10 m a0 (f215 m a0 40) 18 0).2.2))) 0 0 0 ∧ MR X ρ 4 0 0 qP261 N 140 [a0, f215 m a0 40, (L261_10 m a0 (f215 m a0 40) 18 0).2.2, 1] [(1, f268 m18 a0 (s32 (50 + ((L261_10 m a0 (f215 m a0 40) 18 0).2.2))) 0 0 0), (1, a0)] y o := ⟨_, rfl, h⟩
              have h : MR X ρ 4 0 0 qP261 N 140 [a0, f215 m a0 40, (L261_10 m a0 (f215 m a0 40) 18 0).2.2, 1] [(1, f268 m18 a0 (s32 (50 + ((L261_10 m a0 (f215 m a0 40) 18 0).2.2))) 0 0 0), (1, a0)] y39 o := h
              refine ⟨y39, zy39, ?_⟩
              have h := CR_putf h rfl
              have h : MR X ρ 4 0 0 qP261 N 143 [a0, f215 m a0 40, (L261_10 m a0 (f215 m a0 40) 18 0).2.2, 1] [] (mu y39 a0 44 (f268 m18 a0 (s32 (50 + ((L261_10 m a0 (f215 m a0 40) 18 0).2.2))) 0 0 0)) o := h
              obtain ⟨y40, zy40, h⟩ : ∃ y, y = mu y39 a0 44 (f268 m18 a0 (s32 (50 + ((L261_10 m a0 (f215 m a0 40) 18 0).2.2))) 0 0 0) ∧ MR X ρ 4 0 0 qP261 N 143 [a0, f215 m a0 40, (L261_10 m a0 (f215 m a0 40) 18 0).2.2, 1] [] y o := ⟨_, rfl, h⟩
              have h : MR X ρ 4 0 0 qP261 N 143 [a0, f215 m a0 40, (L261_10 m a0 (f215 m a0 40) 18 0).2.2, 1] [] y40 o := h
              refine ⟨y40, zy40, ?_⟩
              have h := CR_go h rfl rfl
              have h : MR X ρ 4 0 0 qP261 N 166 [a0, f215 m a0 40, (L261_10 m a0 (f215 m a0 40) 18 0).2.2, 1] [] y40 o := h
              have h := CR_aload_n h rfl
              have h : MR X ρ 4 0 0 qP261 N 167 [a0, f215 m a0 40, (L261_10 m a0 (f215 m a0 40) 18 0).2.2, 1] [(1, a0)] y40 o := h
              have h := CR_dup h rfl
              have h : MR X ρ 4 0 0 qP261 N 168 [a0, f215 m a0 40, (L261_10 m a0 (f215 m a0 40) 18 0).2.2, 1] [(1, a0), (1, a0)] y40 o := h
              have h := CR_getf h rfl (by decide)
              have h : MR X ρ 4 0 0 qP261 N 171 [a0, f215 m a0 40, (L261_10 m a0 (f215 m a0 40) 18 0).2.2, 1] [(1, y40 a0 43), (1, a0)] y40 o := h
              have h := CR_iconst h rfl rfl
              have h : MR X ρ 4 0 0 qP261 N 172 [a0, f215 m a0 40, (L261_10 m a0 (f215 m a0 40) 18 0).2.2, 1] [(1, 1), (1, y40 a0 43), (1, a0)] y40 o := h
              have h := CR_isub h rfl
              have h : MR X ρ 4 0 0 qP261 N 173 [a0, f215 m a0 40, (L261_10 m a0 (f215 m a0 40) 18 0).2.2, 1] [(1, s32 ((y40 a0 43) - 1)), (1, a0)] y40 o := h
              have h := CR_putf h rfl
              have h : MR X ρ 4 0 0 qP261 N 176 [a0, f215 m a0 40, (L261_10 m a0 (f215 m a0 40) 18 0).2.2, 1] [] (mu y40 a0 43 (s32 ((y40 a0 43) - 1))) o := h
              obtain ⟨y41, zy41, h⟩ : ∃ y, y = mu y40 a0 43 (s32 ((y40 a0 43) - 1)) ∧ MR X ρ 4 0 0 qP261 N 176 [a0, f215 m a0 40, (L261_10 m a0 (f215 m a0 40) 18 0).2.2, 1] [] y o := ⟨_, rfl, h⟩
              have h : MR X ρ 4 0 0 qP261 N 176 [a0, f215 m a0 40, (L261_10 m a0 (f215 m a0 40) 18 0).2.2, 1] [] y41 o := h
              refine ⟨y41, zy41, ?_⟩
              have h := CR_iload_n h rfl
              have h : MR X ρ 4 0 0 qP261 N 177 [a0, f215 m a0 40, (L261_10 m a0 (f215 m a0 40) 18 0).2.2, 1] [(1, 1)] y41 o := h
              exact CR_end h rfl rfl
          ·
            have c21 : ((L261_10 m a0 (f215 m a0 40) 18 0).2.2) = 18 := Decidable.of_not_not (show ¬ ¬ (((L261_10 m a0 (f215 m a0 40) 18 0).2.2) = 18) from c21)
            refine Or.inl ⟨c21, ?_⟩
            have h : MR X ρ 4 0 0 qP261 N 114 [a0, f215 m a0 40, (L261_10 m a0 (f215 m a0 40) 18 0).2.2, 1] [] m18 o := h
            have h := CR_aload_n h rfl
            have h : MR X ρ 4 0 0 qP261 N 115 [a0, f215 m a0 40, (L261_10 m a0 (f215 m a0 40) 18 0).2.2, 1] [(1, a0)] m18 o := h
            obtain ⟨r42, m43, q44, h⟩ := MR_invV h rfl rfl
            have q44 : Run X ρ 253 [(1, a0)] m18 r42 m43 := q44
            obtain ⟨v45, rfl, zv45⟩ := Run_z q44 rfl
            have h : MR X ρ 4 0 0 qP261 N 118 [a0, f215 m a0 40, (L261_10 m a0 (f215 m a0 40) 18 0).2.2, 1] [(1, v45)] m43 o := h
            refine ⟨v45, m43, q44, zv45, ?_⟩
            have h := CR_istore_n h rfl (Nat.le_of_ble_eq_true rfl)
            have h : MR X ρ 4 0 0 qP261 N 119 [a0, f215 m a0 40, (L261_10 m a0 (f215 m a0 40) 18 0).2.2, v45] [] m43 o := h
            have h := CR_go h rfl rfl
            have h : MR X ρ 4 0 0 qP261 N 166 [a0, f215 m a0 40, (L261_10 m a0 (f215 m a0 40) 18 0).2.2, v45] [] m43 o := h
            have h := CR_aload_n h rfl
            have h : MR X ρ 4 0 0 qP261 N 167 [a0, f215 m a0 40, (L261_10 m a0 (f215 m a0 40) 18 0).2.2, v45] [(1, a0)] m43 o := h
            have h := CR_dup h rfl
            have h : MR X ρ 4 0 0 qP261 N 168 [a0, f215 m a0 40, (L261_10 m a0 (f215 m a0 40) 18 0).2.2, v45] [(1, a0), (1, a0)] m43 o := h
            have h := CR_getf h rfl (by decide)
            have h : MR X ρ 4 0 0 qP261 N 171 [a0, f215 m a0 40, (L261_10 m a0 (f215 m a0 40) 18 0).2.2, v45] [(1, m43 a0 43), (1, a0)] m43 o := h
            have h := CR_iconst h rfl rfl
            have h : MR X ρ 4 0 0 qP261 N 172 [a0, f215 m a0 40, (L261_10 m a0 (f215 m a0 40) 18 0).2.2, v45] [(1, 1), (1, m43 a0 43), (1, a0)] m43 o := h
            have h := CR_isub h rfl
            have h : MR X ρ 4 0 0 qP261 N 173 [a0, f215 m a0 40, (L261_10 m a0 (f215 m a0 40) 18 0).2.2, v45] [(1, s32 ((m43 a0 43) - 1)), (1, a0)] m43 o := h
            have h := CR_putf h rfl
            have h : MR X ρ 4 0 0 qP261 N 176 [a0, f215 m a0 40, (L261_10 m a0 (f215 m a0 40) 18 0).2.2, v45] [] (mu m43 a0 43 (s32 ((m43 a0 43) - 1))) o := h
            obtain ⟨y46, zy46, h⟩ : ∃ y, y = mu m43 a0 43 (s32 ((m43 a0 43) - 1)) ∧ MR X ρ 4 0 0 qP261 N 176 [a0, f215 m a0 40, (L261_10 m a0 (f215 m a0 40) 18 0).2.2, v45] [] y o := ⟨_, rfl, h⟩
            have h : MR X ρ 4 0 0 qP261 N 176 [a0, f215 m a0 40, (L261_10 m a0 (f215 m a0 40) 18 0).2.2, v45] [] y46 o := h
            refine ⟨y46, zy46, ?_⟩
            have h := CR_iload_n h rfl
            have h : MR X ρ 4 0 0 qP261 N 177 [a0, f215 m a0 40, (L261_10 m a0 (f215 m a0 40) 18 0).2.2, v45] [(1, v45)] y46 o := h
            exact CR_end h rfl rfl
        ·
          have c20 : ¬ ((f215 m a0 40) = 0) := c20
          refine Or.inr ⟨c20, ?_⟩
          have h : MR X ρ 4 0 0 qP261 N 100 [a0, f215 m a0 40, (L261_10 m a0 (f215 m a0 40) 18 0).2.2, 1] [] m18 o := h
          have h := CR_aload_n h rfl
          have h : MR X ρ 4 0 0 qP261 N 101 [a0, f215 m a0 40, (L261_10 m a0 (f215 m a0 40) 18 0).2.2, 1] [(1, a0)] m18 o := h
          obtain ⟨r47, m48, q49, h⟩ := MR_invV h rfl rfl
          have q49 : Run X ρ 242 [(1, a0)] m18 r47 m48 := q49
          obtain ⟨v50, rfl, zv50⟩ := Run_z q49 rfl
          have h : MR X ρ 4 0 0 qP261 N 104 [a0, f215 m a0 40, (L261_10 m a0 (f215 m a0 40) 18 0).2.2, 1] [(1, v50)] m48 o := h
          refine ⟨v50, m48, q49, zv50, ?_⟩
          have h := CR_istore_n h rfl (Nat.le_of_ble_eq_true rfl)
          have h : MR X ρ 4 0 0 qP261 N 105 [a0, f215 m a0 40, (L261_10 m a0 (f215 m a0 40) 18 0).2.2, v50] [] m48 o := h
          have h := CR_go h rfl rfl
          have h : MR X ρ 4 0 0 qP261 N 166 [a0, f215 m a0 40, (L261_10 m a0 (f215 m a0 40) 18 0).2.2, v50] [] m48 o := h
          have h := CR_aload_n h rfl
          have h : MR X ρ 4 0 0 qP261 N 167 [a0, f215 m a0 40, (L261_10 m a0 (f215 m a0 40) 18 0).2.2, v50] [(1, a0)] m48 o := h
          have h := CR_dup h rfl
          have h : MR X ρ 4 0 0 qP261 N 168 [a0, f215 m a0 40, (L261_10 m a0 (f215 m a0 40) 18 0).2.2, v50] [(1, a0), (1, a0)] m48 o := h
          have h := CR_getf h rfl (by decide)
          have h : MR X ρ 4 0 0 qP261 N 171 [a0, f215 m a0 40, (L261_10 m a0 (f215 m a0 40) 18 0).2.2, v50] [(1, m48 a0 43), (1, a0)] m48 o := h
          have h := CR_iconst h rfl rfl
          have h : MR X ρ 4 0 0 qP261 N 172 [a0, f215 m a0 40, (L261_10 m a0 (f215 m a0 40) 18 0).2.2, v50] [(1, 1), (1, m48 a0 43), (1, a0)] m48 o := h
          have h := CR_isub h rfl
          have h : MR X ρ 4 0 0 qP261 N 173 [a0, f215 m a0 40, (L261_10 m a0 (f215 m a0 40) 18 0).2.2, v50] [(1, s32 ((m48 a0 43) - 1)), (1, a0)] m48 o := h
          have h := CR_putf h rfl
          have h : MR X ρ 4 0 0 qP261 N 176 [a0, f215 m a0 40, (L261_10 m a0 (f215 m a0 40) 18 0).2.2, v50] [] (mu m48 a0 43 (s32 ((m48 a0 43) - 1))) o := h
          obtain ⟨y51, zy51, h⟩ : ∃ y, y = mu m48 a0 43 (s32 ((m48 a0 43) - 1)) ∧ MR X ρ 4 0 0 qP261 N 176 [a0, f215 m a0 40, (L261_10 m a0 (f215 m a0 40) 18 0).2.2, v50] [] y o := ⟨_, rfl, h⟩
          have h : MR X ρ 4 0 0 qP261 N 176 [a0, f215 m a0 40, (L261_10 m a0 (f215 m a0 40) 18 0).2.2, v50] [] y51 o := h
          refine ⟨y51, zy51, ?_⟩
          have h := CR_iload_n h rfl
          have h : MR X ρ 4 0 0 qP261 N 177 [a0, f215 m a0 40, (L261_10 m a0 (f215 m a0 40) 18 0).2.2, v50] [(1, v50)] y51 o := h
          exact CR_end h rfl rfl
      ·
        have c14 : (m a0 43) = 8 := Decidable.of_not_not (show ¬ ¬ ((m a0 43) = 8) from c14)
        refine Or.inl ⟨c14, ?_⟩
        have h : MR X ρ 4 0 0 qP261 N 64 [a0, f215 m a0 40, (L261_10 m a0 (f215 m a0 40) 18 0).2.2, 0] [] m o := h
        have h := CR_aload_n h rfl
        have h : MR X ρ 4 0 0 qP261 N 65 [a0, f215 m a0 40, (L261_10 m a0 (f215 m a0 40) 18 0).2.2, 0] [(1, a0)] m o := h
        have h := CR_iconst h rfl rfl
        have h : MR X ρ 4 0 0 qP261 N 66 [a0, f215 m a0 40, (L261_10 m a0 (f215 m a0 40) 18 0).2.2, 0] [(1, 4), (1, a0)] m o := h
        obtain ⟨r52, m53, q54, h⟩ := MR_invV h rfl rfl
        have q54 : Run X ρ 168 [(1, a0), (1, 4)] m r52 m53 := q54
        obtain ⟨e55, e56⟩ := d168 q54
        rw [e55, e56] at h
        have h : MR X ρ 4 0 0 qP261 N 69 [a0, f215 m a0 40, (L261_10 m a0 (f215 m a0 40) 18 0).2.2, 0] [(1, f168 m a0 4)] (g168 m a0 4) o := h
        obtain ⟨y57, zy57, h⟩ : ∃ y, y = g168 m a0 4 ∧ MR X ρ 4 0 0 qP261 N 69 [a0, f215 m a0 40, (L261_10 m a0 (f215 m a0 40) 18 0).2.2, 0] [(1, f168 m a0 4)] y o := ⟨_, rfl, h⟩
        have h : MR X ρ 4 0 0 qP261 N 69 [a0, f215 m a0 40, (L261_10 m a0 (f215 m a0 40) 18 0).2.2, 0] [(1, f168 m a0 4)] y57 o := h
        refine ⟨y57, zy57, ?_⟩
        exact CR_end h rfl rfl
  ·
    have c6 : (f215 m a0 40) = 0 := Decidable.of_not_not (show ¬ ¬ ((f215 m a0 40) = 0) from c6)
    refine Or.inl ⟨c6, ?_⟩
    have h : MR X ρ 4 0 0 qP261 N 34 [a0, f215 m a0 40, (L261_10 m a0 (f215 m a0 40) 18 0).2.2, 0] [] m o := h
    have h := CR_iload_n h rfl
    have h : MR X ρ 4 0 0 qP261 N 35 [a0, f215 m a0 40, (L261_10 m a0 (f215 m a0 40) 18 0).2.2, 0] [(1, (L261_10 m a0 (f215 m a0 40) 18 0).2.2)] m o := h
    have h := CR_bipush h rfl rfl
    have h : MR X ρ 4 0 0 qP261 N 37 [a0, f215 m a0 40, (L261_10 m a0 (f215 m a0 40) 18 0).2.2, 0] [(1, 29), (1, (L261_10 m a0 (f215 m a0 40) 18 0).2.2)] m o := h
    rcases MR_icmp h rfl rfl with ⟨c58, h⟩ | ⟨c58, h⟩
    ·
      have c58 : ((L261_10 m a0 (f215 m a0 40) 18 0).2.2) ≤ 29 := c58
      refine Or.inl ⟨c58, ?_⟩
      have h : MR X ρ 4 0 0 qP261 N 46 [a0, f215 m a0 40, (L261_10 m a0 (f215 m a0 40) 18 0).2.2, 0] [] m o := h
      have h := CR_aload_n h rfl
      have h : MR X ρ 4 0 0 qP261 N 47 [a0, f215 m a0 40, (L261_10 m a0 (f215 m a0 40) 18 0).2.2, 0] [(1, a0)] m o := h
      have h := CR_getf h rfl (by decide)
      have h : MR X ρ 4 0 0 qP261 N 50 [a0, f215 m a0 40, (L261_10 m a0 (f215 m a0 40) 18 0).2.2, 0] [(1, m a0 42)] m o := h
      have h := CR_bipush h rfl rfl
      have h : MR X ρ 4 0 0 qP261 N 52 [a0, f215 m a0 40, (L261_10 m a0 (f215 m a0 40) 18 0).2.2, 0] [(1, 20), (1, m a0 42)] m o := h
      rcases MR_icmp h rfl rfl with ⟨c59, h⟩ | ⟨c59, h⟩
      ·
        have c59 : (m a0 42) = 20 := c59
        refine Or.inl ⟨c59, ?_⟩
        have h : MR X ρ 4 0 0 qP261 N 64 [a0, f215 m a0 40, (L261_10 m a0 (f215 m a0 40) 18 0).2.2, 0] [] m o := h
        have h := CR_aload_n h rfl
        have h : MR X ρ 4 0 0 qP261 N 65 [a0, f215 m a0 40, (L261_10 m a0 (f215 m a0 40) 18 0).2.2, 0] [(1, a0)] m o := h
        have h := CR_iconst h rfl rfl
        have h : MR X ρ 4 0 0 qP261 N 66 [a0, f215 m a0 40, (L261_10 m a0 (f215 m a0 40) 18 0).2.2, 0] [(1, 4), (1, a0)] m o := h
        obtain ⟨r60, m61, q62, h⟩ := MR_invV h rfl rfl
        have q62 : Run X ρ 168 [(1, a0), (1, 4)] m r60 m61 := q62
        obtain ⟨e63, e64⟩ := d168 q62
        rw [e63, e64] at h
        have h : MR X ρ 4 0 0 qP261 N 69 [a0, f215 m a0 40, (L261_10 m a0 (f215 m a0 40) 18 0).2.2, 0] [(1, f168 m a0 4)] (g168 m a0 4) o := h
        obtain ⟨y65, zy65, h⟩ : ∃ y, y = g168 m a0 4 ∧ MR X ρ 4 0 0 qP261 N 69 [a0, f215 m a0 40, (L261_10 m a0 (f215 m a0 40) 18 0).2.2, 0] [(1, f168 m a0 4)] y o := ⟨_, rfl, h⟩
        have h : MR X ρ 4 0 0 qP261 N 69 [a0, f215 m a0 40, (L261_10 m a0 (f215 m a0 40) 18 0).2.2, 0] [(1, f168 m a0 4)] y65 o := h
        refine ⟨y65, zy65, ?_⟩
        exact CR_end h rfl rfl
      ·
        have c59 : ¬ ((m a0 42) = 20) := c59
        refine Or.inr ⟨c59, ?_⟩
        have h : MR X ρ 4 0 0 qP261 N 55 [a0, f215 m a0 40, (L261_10 m a0 (f215 m a0 40) 18 0).2.2, 0] [] m o := h
        have h := CR_aload_n h rfl
        have h : MR X ρ 4 0 0 qP261 N 56 [a0, f215 m a0 40, (L261_10 m a0 (f215 m a0 40) 18 0).2.2, 0] [(1, a0)] m o := h
        have h := CR_getf h rfl (by decide)
        have h : MR X ρ 4 0 0 qP261 N 59 [a0, f215 m a0 40, (L261_10 m a0 (f215 m a0 40) 18 0).2.2, 0] [(1, m a0 43)] m o := h
        have h := CR_bipush h rfl rfl
        have h : MR X ρ 4 0 0 qP261 N 61 [a0, f215 m a0 40, (L261_10 m a0 (f215 m a0 40) 18 0).2.2, 0] [(1, 8), (1, m a0 43)] m o := h
        rcases MR_icmp h rfl rfl with ⟨c66, h⟩ | ⟨c66, h⟩
        ·
          have c66 : ¬ ((m a0 43) = 8) := c66
          refine Or.inr ⟨c66, ?_⟩
          have h : MR X ρ 4 0 0 qP261 N 70 [a0, f215 m a0 40, (L261_10 m a0 (f215 m a0 40) 18 0).2.2, 0] [] m o := h
          have h := CR_aload_n h rfl
          have h : MR X ρ 4 0 0 qP261 N 71 [a0, f215 m a0 40, (L261_10 m a0 (f215 m a0 40) 18 0).2.2, 0] [(1, a0)] m o := h
          have h := CR_dup h rfl
          have h : MR X ρ 4 0 0 qP261 N 72 [a0, f215 m a0 40, (L261_10 m a0 (f215 m a0 40) 18 0).2.2, 0] [(1, a0), (1, a0)] m o := h
          have h := CR_getf h rfl (by decide)
          have h : MR X ρ 4 0 0 qP261 N 75 [a0, f215 m a0 40, (L261_10 m a0 (f215 m a0 40) 18 0).2.2, 0] [(1, m a0 42), (1, a0)] m o := h
          have h := CR_iconst h rfl rfl
          have h : MR X ρ 4 0 0 qP261 N 76 [a0, f215 m a0 40, (L261_10 m a0 (f215 m a0 40) 18 0).2.2, 0] [(1, 1), (1, m a0 42), (1, a0)] m o := h
          have h := CR_iadd h rfl
          have h : MR X ρ 4 0 0 qP261 N 77 [a0, f215 m a0 40, (L261_10 m a0 (f215 m a0 40) 18 0).2.2, 0] [(1, s32 ((m a0 42) + 1)), (1, a0)] m o := h
          have h := CR_putf h rfl
          have h : MR X ρ 4 0 0 qP261 N 80 [a0, f215 m a0 40, (L261_10 m a0 (f215 m a0 40) 18 0).2.2, 0] [] (mu m a0 42 (s32 ((m a0 42) + 1))) o := h
          obtain ⟨y67, zy67, h⟩ : ∃ y, y = mu m a0 42 (s32 ((m a0 42) + 1)) ∧ MR X ρ 4 0 0 qP261 N 80 [a0, f215 m a0 40, (L261_10 m a0 (f215 m a0 40) 18 0).2.2, 0] [] y o := ⟨_, rfl, h⟩
          have h : MR X ρ 4 0 0 qP261 N 80 [a0, f215 m a0 40, (L261_10 m a0 (f215 m a0 40) 18 0).2.2, 0] [] y67 o := h
          refine ⟨y67, zy67, ?_⟩
          have h := CR_aload_n h rfl
          have h : MR X ρ 4 0 0 qP261 N 81 [a0, f215 m a0 40, (L261_10 m a0 (f215 m a0 40) 18 0).2.2, 0] [(1, a0)] y67 o := h
          have h := CR_dup h rfl
          have h : MR X ρ 4 0 0 qP261 N 82 [a0, f215 m a0 40, (L261_10 m a0 (f215 m a0 40) 18 0).2.2, 0] [(1, a0), (1, a0)] y67 o := h
          have h := CR_getf h rfl (by decide)
          have h : MR X ρ 4 0 0 qP261 N 85 [a0, f215 m a0 40, (L261_10 m a0 (f215 m a0 40) 18 0).2.2, 0] [(1, y67 a0 43), (1, a0)] y67 o := h
          have h := CR_iconst h rfl rfl
          have h : MR X ρ 4 0 0 qP261 N 86 [a0, f215 m a0 40, (L261_10 m a0 (f215 m a0 40) 18 0).2.2, 0] [(1, 1), (1, y67 a0 43), (1, a0)] y67 o := h
          have h := CR_iadd h rfl
          have h : MR X ρ 4 0 0 qP261 N 87 [a0, f215 m a0 40, (L261_10 m a0 (f215 m a0 40) 18 0).2.2, 0] [(1, s32 ((y67 a0 43) + 1)), (1, a0)] y67 o := h
          have h := CR_putf h rfl
          have h : MR X ρ 4 0 0 qP261 N 90 [a0, f215 m a0 40, (L261_10 m a0 (f215 m a0 40) 18 0).2.2, 0] [] (mu y67 a0 43 (s32 ((y67 a0 43) + 1))) o := h
          obtain ⟨y68, zy68, h⟩ : ∃ y, y = mu y67 a0 43 (s32 ((y67 a0 43) + 1)) ∧ MR X ρ 4 0 0 qP261 N 90 [a0, f215 m a0 40, (L261_10 m a0 (f215 m a0 40) 18 0).2.2, 0] [] y o := ⟨_, rfl, h⟩
          have h : MR X ρ 4 0 0 qP261 N 90 [a0, f215 m a0 40, (L261_10 m a0 (f215 m a0 40) 18 0).2.2, 0] [] y68 o := h
          refine ⟨y68, zy68, ?_⟩
          have h := CR_aload_n h rfl
          have h : MR X ρ 4 0 0 qP261 N 91 [a0, f215 m a0 40, (L261_10 m a0 (f215 m a0 40) 18 0).2.2, 0] [(1, a0)] y68 o := h
          obtain ⟨r69, m70, q71, h⟩ := MR_invV h rfl rfl
          have q71 : Run X ρ 195 [(1, a0)] y68 r69 m70 := q71
          obtain rfl := Run_v q71 rfl
          have h : MR X ρ 4 0 0 qP261 N 94 [a0, f215 m a0 40, (L261_10 m a0 (f215 m a0 40) 18 0).2.2, 0] [] m70 o := h
          refine ⟨m70, q71, ?_⟩
          have h := CR_iconst h rfl rfl
          have h : MR X ρ 4 0 0 qP261 N 95 [a0, f215 m a0 40, (L261_10 m a0 (f215 m a0 40) 18 0).2.2, 0] [(1, 1)] m70 o := h
          have h := CR_istore_n h rfl (Nat.le_of_ble_eq_true rfl)
          have h : MR X ρ 4 0 0 qP261 N 96 [a0, f215 m a0 40, (L261_10 m a0 (f215 m a0 40) 18 0).2.2, 1] [] m70 o := h
          have h := CR_iload_n h rfl
          have h : MR X ρ 4 0 0 qP261 N 97 [a0, f215 m a0 40, (L261_10 m a0 (f215 m a0 40) 18 0).2.2, 1] [(1, f215 m a0 40)] m70 o := h
          rcases MR_if h rfl rfl with ⟨c72, h⟩ | ⟨c72, h⟩
          ·
            have c72 : (f215 m a0 40) = 0 := c72
            refine Or.inl ⟨c72, ?_⟩
            have h : MR X ρ 4 0 0 qP261 N 108 [a0, f215 m a0 40, (L261_10 m a0 (f215 m a0 40) 18 0).2.2, 1] [] m70 o := h
            have h := CR_iload_n h rfl
            have h : MR X ρ 4 0 0 qP261 N 109 [a0, f215 m a0 40, (L261_10 m a0 (f215 m a0 40) 18 0).2.2, 1] [(1, (L261_10 m a0 (f215 m a0 40) 18 0).2.2)] m70 o := h
            have h := CR_bipush h rfl rfl
            have h : MR X ρ 4 0 0 qP261 N 111 [a0, f215 m a0 40, (L261_10 m a0 (f215 m a0 40) 18 0).2.2, 1] [(1, 18), (1, (L261_10 m a0 (f215 m a0 40) 18 0).2.2)] m70 o := h
            rcases MR_icmp h rfl rfl with ⟨c73, h⟩ | ⟨c73, h⟩
            ·
              have c73 : ¬ (((L261_10 m a0 (f215 m a0 40) 18 0).2.2) = 18) := c73
              refine Or.inr ⟨c73, ?_⟩
              have h : MR X ρ 4 0 0 qP261 N 122 [a0, f215 m a0 40, (L261_10 m a0 (f215 m a0 40) 18 0).2.2, 1] [] m70 o := h
              have h := CR_iload_n h rfl
              have h : MR X ρ 4 0 0 qP261 N 123 [a0, f215 m a0 40, (L261_10 m a0 (f215 m a0 40) 18 0).2.2, 1] [(1, (L261_10 m a0 (f215 m a0 40) 18 0).2.2)] m70 o := h
              have h := CR_bipush h rfl rfl
              have h : MR X ρ 4 0 0 qP261 N 125 [a0, f215 m a0 40, (L261_10 m a0 (f215 m a0 40) 18 0).2.2, 1] [(1, 24), (1, (L261_10 m a0 (f215 m a0 40) 18 0).2.2)] m70 o := h
              rcases MR_icmp h rfl rfl with ⟨c74, h⟩ | ⟨c74, h⟩
              ·
                have c74 : 24 ≤ ((L261_10 m a0 (f215 m a0 40) 18 0).2.2) := c74
                refine Or.inl ⟨c74, ?_⟩
                have h : MR X ρ 4 0 0 qP261 N 146 [a0, f215 m a0 40, (L261_10 m a0 (f215 m a0 40) 18 0).2.2, 1] [] m70 o := h
                have h := CR_iload_n h rfl
                have h : MR X ρ 4 0 0 qP261 N 147 [a0, f215 m a0 40, (L261_10 m a0 (f215 m a0 40) 18 0).2.2, 1] [(1, (L261_10 m a0 (f215 m a0 40) 18 0).2.2)] m70 o := h
                have h := CR_bipush h rfl rfl
                have h : MR X ρ 4 0 0 qP261 N 149 [a0, f215 m a0 40, (L261_10 m a0 (f215 m a0 40) 18 0).2.2, 1] [(1, 27), (1, (L261_10 m a0 (f215 m a0 40) 18 0).2.2)] m70 o := h
                rcases MR_icmp h rfl rfl with ⟨c75, h⟩ | ⟨c75, h⟩
                ·
                  have c75 : 27 ≤ ((L261_10 m a0 (f215 m a0 40) 18 0).2.2) := c75
                  refine Or.inl ⟨c75, ?_⟩
                  have h : MR X ρ 4 0 0 qP261 N 160 [a0, f215 m a0 40, (L261_10 m a0 (f215 m a0 40) 18 0).2.2, 1] [] m70 o := h
                  have h := CR_aload_n h rfl
                  have h : MR X ρ 4 0 0 qP261 N 161 [a0, f215 m a0 40, (L261_10 m a0 (f215 m a0 40) 18 0).2.2, 1] [(1, a0)] m70 o := h
                  have h := CR_iload_n h rfl
                  have h : MR X ρ 4 0 0 qP261 N 162 [a0, f215 m a0 40, (L261_10 m a0 (f215 m a0 40) 18 0).2.2, 1] [(1, (L261_10 m a0 (f215 m a0 40) 18 0).2.2), (1, a0)] m70 o := h
                  obtain ⟨r76, m77, q78, h⟩ := MR_invV h rfl rfl
                  have q78 : Run X ρ 243 [(1, a0), (1, (L261_10 m a0 (f215 m a0 40) 18 0).2.2)] m70 r76 m77 := q78
                  obtain ⟨v79, rfl, zv79⟩ := Run_z q78 rfl
                  have h : MR X ρ 4 0 0 qP261 N 165 [a0, f215 m a0 40, (L261_10 m a0 (f215 m a0 40) 18 0).2.2, 1] [(1, v79)] m77 o := h
                  refine ⟨v79, m77, q78, zv79, ?_⟩
                  have h := CR_istore_n h rfl (Nat.le_of_ble_eq_true rfl)
                  have h : MR X ρ 4 0 0 qP261 N 166 [a0, f215 m a0 40, (L261_10 m a0 (f215 m a0 40) 18 0).2.2, v79] [] m77 o := h
                  have h := CR_aload_n h rfl
                  have h : MR X ρ 4 0 0 qP261 N 167 [a0, f215 m a0 40, (L261_10 m a0 (f215 m a0 40) 18 0).2.2, v79] [(1, a0)] m77 o := h
                  have h := CR_dup h rfl
                  have h : MR X ρ 4 0 0 qP261 N 168 [a0, f215 m a0 40, (L261_10 m a0 (f215 m a0 40) 18 0).2.2, v79] [(1, a0), (1, a0)] m77 o := h
                  have h := CR_getf h rfl (by decide)
                  have h : MR X ρ 4 0 0 qP261 N 171 [a0, f215 m a0 40, (L261_10 m a0 (f215 m a0 40) 18 0).2.2, v79] [(1, m77 a0 43), (1, a0)] m77 o := h
                  have h := CR_iconst h rfl rfl
                  have h : MR X ρ 4 0 0 qP261 N 172 [a0, f215 m a0 40, (L261_10 m a0 (f215 m a0 40) 18 0).2.2, v79] [(1, 1), (1, m77 a0 43), (1, a0)] m77 o := h
                  have h := CR_isub h rfl
                  have h : MR X ρ 4 0 0 qP261 N 173 [a0, f215 m a0 40, (L261_10 m a0 (f215 m a0 40) 18 0).2.2, v79] [(1, s32 ((m77 a0 43) - 1)), (1, a0)] m77 o := h
                  have h := CR_putf h rfl
                  have h : MR X ρ 4 0 0 qP261 N 176 [a0, f215 m a0 40, (L261_10 m a0 (f215 m a0 40) 18 0).2.2, v79] [] (mu m77 a0 43 (s32 ((m77 a0 43) - 1))) o := h
                  obtain ⟨y80, zy80, h⟩ : ∃ y, y = mu m77 a0 43 (s32 ((m77 a0 43) - 1)) ∧ MR X ρ 4 0 0 qP261 N 176 [a0, f215 m a0 40, (L261_10 m a0 (f215 m a0 40) 18 0).2.2, v79] [] y o := ⟨_, rfl, h⟩
                  have h : MR X ρ 4 0 0 qP261 N 176 [a0, f215 m a0 40, (L261_10 m a0 (f215 m a0 40) 18 0).2.2, v79] [] y80 o := h
                  refine ⟨y80, zy80, ?_⟩
                  have h := CR_iload_n h rfl
                  have h : MR X ρ 4 0 0 qP261 N 177 [a0, f215 m a0 40, (L261_10 m a0 (f215 m a0 40) 18 0).2.2, v79] [(1, v79)] y80 o := h
                  exact CR_end h rfl rfl
                ·
                  have c75 : ¬ (27 ≤ ((L261_10 m a0 (f215 m a0 40) 18 0).2.2)) := c75
                  refine Or.inr ⟨c75, ?_⟩
                  have h : MR X ρ 4 0 0 qP261 N 152 [a0, f215 m a0 40, (L261_10 m a0 (f215 m a0 40) 18 0).2.2, 1] [] m70 o := h
                  have h := CR_aload_n h rfl
                  have h : MR X ρ 4 0 0 qP261 N 153 [a0, f215 m a0 40, (L261_10 m a0 (f215 m a0 40) 18 0).2.2, 1] [(1, a0)] m70 o := h
                  have h := CR_iload_n h rfl
                  have h : MR X ρ 4 0 0 qP261 N 154 [a0, f215 m a0 40, (L261_10 m a0 (f215 m a0 40) 18 0).2.2, 1] [(1, (L261_10 m a0 (f215 m a0 40) 18 0).2.2), (1, a0)] m70 o := h
                  obtain ⟨r81, m82, q83, h⟩ := MR_invV h rfl rfl
                  have q83 : Run X ρ 255 [(1, a0), (1, (L261_10 m a0 (f215 m a0 40) 18 0).2.2)] m70 r81 m82 := q83
                  obtain ⟨v84, rfl, zv84⟩ := Run_z q83 rfl
                  have h : MR X ρ 4 0 0 qP261 N 157 [a0, f215 m a0 40, (L261_10 m a0 (f215 m a0 40) 18 0).2.2, 1] [(1, v84)] m82 o := h
                  refine ⟨v84, m82, q83, zv84, ?_⟩
                  have h := CR_go h rfl rfl
                  have h : MR X ρ 4 0 0 qP261 N 165 [a0, f215 m a0 40, (L261_10 m a0 (f215 m a0 40) 18 0).2.2, 1] [(1, v84)] m82 o := h
                  have h := CR_istore_n h rfl (Nat.le_of_ble_eq_true rfl)
                  have h : MR X ρ 4 0 0 qP261 N 166 [a0, f215 m a0 40, (L261_10 m a0 (f215 m a0 40) 18 0).2.2, v84] [] m82 o := h
                  have h := CR_aload_n h rfl
                  have h : MR X ρ 4 0 0 qP261 N 167 [a0, f215 m a0 40, (L261_10 m a0 (f215 m a0 40) 18 0).2.2, v84] [(1, a0)] m82 o := h
                  have h := CR_dup h rfl
                  have h : MR X ρ 4 0 0 qP261 N 168 [a0, f215 m a0 40, (L261_10 m a0 (f215 m a0 40) 18 0).2.2, v84] [(1, a0), (1, a0)] m82 o := h
                  have h := CR_getf h rfl (by decide)
                  have h : MR X ρ 4 0 0 qP261 N 171 [a0, f215 m a0 40, (L261_10 m a0 (f215 m a0 40) 18 0).2.2, v84] [(1, m82 a0 43), (1, a0)] m82 o := h
                  have h := CR_iconst h rfl rfl
                  have h : MR X ρ 4 0 0 qP261 N 172 [a0, f215 m a0 40, (L261_10 m a0 (f215 m a0 40) 18 0).2.2, v84] [(1, 1), (1, m82 a0 43), (1, a0)] m82 o := h
                  have h := CR_isub h rfl
                  have h : MR X ρ 4 0 0 qP261 N 173 [a0, f215 m a0 40, (L261_10 m a0 (f215 m a0 40) 18 0).2.2, v84] [(1, s32 ((m82 a0 43) - 1)), (1, a0)] m82 o := h
                  have h := CR_putf h rfl
                  have h : MR X ρ 4 0 0 qP261 N 176 [a0, f215 m a0 40, (L261_10 m a0 (f215 m a0 40) 18 0).2.2, v84] [] (mu m82 a0 43 (s32 ((m82 a0 43) - 1))) o := h
                  obtain ⟨y85, zy85, h⟩ : ∃ y, y = mu m82 a0 43 (s32 ((m82 a0 43) - 1)) ∧ MR X ρ 4 0 0 qP261 N 176 [a0, f215 m a0 40, (L261_10 m a0 (f215 m a0 40) 18 0).2.2, v84] [] y o := ⟨_, rfl, h⟩
                  have h : MR X ρ 4 0 0 qP261 N 176 [a0, f215 m a0 40, (L261_10 m a0 (f215 m a0 40) 18 0).2.2, v84] [] y85 o := h
                  refine ⟨y85, zy85, ?_⟩
                  have h := CR_iload_n h rfl
                  have h : MR X ρ 4 0 0 qP261 N 177 [a0, f215 m a0 40, (L261_10 m a0 (f215 m a0 40) 18 0).2.2, v84] [(1, v84)] y85 o := h
                  exact CR_end h rfl rfl
              ·
                have c74 : ¬ (24 ≤ ((L261_10 m a0 (f215 m a0 40) 18 0).2.2)) := c74
                refine Or.inr ⟨c74, ?_⟩
                have h : MR X ρ 4 0 0 qP261 N 128 [a0, f215 m a0 40, (L261_10 m a0 (f215 m a0 40) 18 0).2.2, 1] [] m70 o := h
                have h := CR_aload_n h rfl
                have h : MR X ρ 4 0 0 qP261 N 129 [a0, f215 m a0 40, (L261_10 m a0 (f215 m a0 40) 18 0).2.2, 1] [(1, a0)] m70 o := h
                have h := CR_aload_n h rfl
                have h : MR X ρ 4 0 0 qP261 N 130 [a0, f215 m a0 40, (L261_10 m a0 (f215 m a0 40) 18 0).2.2, 1] [(1, a0), (1, a0)] m70 o := h
                have h := CR_bipush h rfl rfl
                have h : MR X ρ 4 0 0 qP261 N 132 [a0, f215 m a0 40, (L261_10 m a0 (f215 m a0 40) 18 0).2.2, 1] [(1, 50), (1, a0), (1, a0)] m70 o := h
                have h := CR_iload_n h rfl
                have h : MR X ρ 4 0 0 qP261 N 133 [a0, f215 m a0 40, (L261_10 m a0 (f215 m a0 40) 18 0).2.2, 1] [(1, (L261_10 m a0 (f215 m a0 40) 18 0).2.2), (1, 50), (1, a0), (1, a0)] m70 o := h
                have h := CR_iadd h rfl
                have h : MR X ρ 4 0 0 qP261 N 134 [a0, f215 m a0 40, (L261_10 m a0 (f215 m a0 40) 18 0).2.2, 1] [(1, s32 (50 + ((L261_10 m a0 (f215 m a0 40) 18 0).2.2))), (1, a0), (1, a0)] m70 o := h
                have h := CR_iconst h rfl rfl
                have h : MR X ρ 4 0 0 qP261 N 135 [a0, f215 m a0 40, (L261_10 m a0 (f215 m a0 40) 18 0).2.2, 1] [(1, 0), (1, s32 (50 + ((L261_10 m a0 (f215 m a0 40) 18 0).2.2))), (1, a0), (1, a0)] m70 o := h
                have h := CR_iconst h rfl rfl
                have h : MR X ρ 4 0 0 qP261 N 136 [a0, f215 m a0 40, (L261_10 m a0 (f215 m a0 40) 18 0).2.2, 1] [(1, 0), (1, 0), (1, s32 (50 + ((L261_10 m a0 (f215 m a0 40) 18 0).2.2))), (1, a0), (1, a0)] m70 o := h
                have h := CR_iconst h rfl rfl
                have h : MR X ρ 4 0 0 qP261 N 137 [a0, f215 m a0 40, (L261_10 m a0 (f215 m a0 40) 18 0).2.2, 1] [(1, 0), (1, 0), (1, 0), (1, s32 (50 + ((L261_10 m a0 (f215 m a0 40) 18 0).2.2))), (1, a0), (1, a0)] m70 o := h
                obtain ⟨r86, m87, q88, h⟩ := MR_invV h rfl rfl
                have q88 : Run X ρ 268 [(1, a0), (1, s32 (50 + ((L261_10 m a0 (f215 m a0 40) 18 0).2.2))), (1, 0), (1, 0), (1, 0)] m70 r86 m87 := q88
                obtain ⟨e89, e90⟩ := d268 q88
                rw [e89, e90] at h
                have h : MR X ρ 4 0 0 qP261 N 140 [a0, f215 m a0 40, (L261_10 m a0 (f215 m a0 40) 18 0).2.2, 1] [(1, f268 m70 a0 (s32 (50 + ((L261_10 m a0 (f215 m a0 40) 18 0).2.2))) 0 0 0), (1, a0)] (g268 m70 a0 (s32 (50 + ((L261_10 m a0 (f215 m a0 40) 18 0).2.2))) 0 0 0) o := h
                obtain ⟨y91, zy91, h⟩ : ∃ y, y = g268 m70 a0 (s32 (50 + ((L261_10 m a0 (f215 m a0 40) 18 0).2.2))) 0 0 0 ∧ MR X ρ 4 0 0 qP261 N 140 [a0, f215 m a0 40, (L261_10 m a0 (f215 m a0 40) 18 0).2.2, 1] [(1, f268 m70 a0 (s32 (50 + ((L261_10 m a0 (f215 m a0 40) 18 0).2.2))) 0 0 0), (1, a0)] y o := ⟨_, rfl, h⟩
                have h : MR X ρ 4 0 0 qP261 N 140 [a0, f215 m a0 40, (L261_10 m a0 (f215 m a0 40) 18 0).2.2, 1] [(1, f268 m70 a0 (s32 (50 + ((L261_10 m a0 (f215 m a0 40) 18 0).2.2))) 0 0 0), (1, a0)] y91 o := h
                refine ⟨y91, zy91, ?_⟩
                have h := CR_putf h rfl
                have h : MR X ρ 4 0 0 qP261 N 143 [a0, f215 m a0 40, (L261_10 m a0 (f215 m a0 40) 18 0).2.2, 1] [] (mu y91 a0 44 (f268 m70 a0 (s32 (50 + ((L261_10 m a0 (f215 m a0 40) 18 0).2.2))) 0 0 0)) o := h
                obtain ⟨y92, zy92, h⟩ : ∃ y, y = mu y91 a0 44 (f268 m70 a0 (s32 (50 + ((L261_10 m a0 (f215 m a0 40) 18 0).2.2))) 0 0 0) ∧ MR X ρ 4 0 0 qP261 N 143 [a0, f215 m a0 40, (L261_10 m a0 (f215 m a0 40) 18 0).2.2, 1] [] y o := ⟨_, rfl, h⟩
                have h : MR X ρ 4 0 0 qP261 N 143 [a0, f215 m a0 40, (L261_10 m a0 (f215 m a0 40) 18 0).2.2, 1] [] y92 o := h
                refine ⟨y92, zy92, ?_⟩
                have h := CR_go h rfl rfl
                have h : MR X ρ 4 0 0 qP261 N 166 [a0, f215 m a0 40, (L261_10 m a0 (f215 m a0 40) 18 0).2.2, 1] [] y92 o := h
                have h := CR_aload_n h rfl
                have h : MR X ρ 4 0 0 qP261 N 167 [a0, f215 m a0 40, (L261_10 m a0 (f215 m a0 40) 18 0).2.2, 1] [(1, a0)] y92 o := h
                have h := CR_dup h rfl
                have h : MR X ρ 4 0 0 qP261 N 168 [a0, f215 m a0 40, (L261_10 m a0 (f215 m a0 40) 18 0).2.2, 1] [(1, a0), (1, a0)] y92 o := h
                have h := CR_getf h rfl (by decide)
                have h : MR X ρ 4 0 0 qP261 N 171 [a0, f215 m a0 40, (L261_10 m a0 (f215 m a0 40) 18 0).2.2, 1] [(1, y92 a0 43), (1, a0)] y92 o := h
                have h := CR_iconst h rfl rfl
                have h : MR X ρ 4 0 0 qP261 N 172 [a0, f215 m a0 40, (L261_10 m a0 (f215 m a0 40) 18 0).2.2, 1] [(1, 1), (1, y92 a0 43), (1, a0)] y92 o := h
                have h := CR_isub h rfl
                have h : MR X ρ 4 0 0 qP261 N 173 [a0, f215 m a0 40, (L261_10 m a0 (f215 m a0 40) 18 0).2.2, 1] [(1, s32 ((y92 a0 43) - 1)), (1, a0)] y92 o := h
                have h := CR_putf h rfl
                have h : MR X ρ 4 0 0 qP261 N 176 [a0, f215 m a0 40, (L261_10 m a0 (f215 m a0 40) 18 0).2.2, 1] [] (mu y92 a0 43 (s32 ((y92 a0 43) - 1))) o := h
                obtain ⟨y93, zy93, h⟩ : ∃ y, y = mu y92 a0 43 (s32 ((y92 a0 43) - 1)) ∧ MR X ρ 4 0 0 qP261 N 176 [a0, f215 m a0 40, (L261_10 m a0 (f215 m a0 40) 18 0).2.2, 1] [] y o := ⟨_, rfl, h⟩
                have h : MR X ρ 4 0 0 qP261 N 176 [a0, f215 m a0 40, (L261_10 m a0 (f215 m a0 40) 18 0).2.2, 1] [] y93 o := h
                refine ⟨y93, zy93, ?_⟩
                have h := CR_iload_n h rfl
                have h : MR X ρ 4 0 0 qP261 N 177 [a0, f215 m a0 40, (L261_10 m a0 (f215 m a0 40) 18 0).2.2, 1] [(1, 1)] y93 o := h
                exact CR_end h rfl rfl
            ·
              have c73 : ((L261_10 m a0 (f215 m a0 40) 18 0).2.2) = 18 := Decidable.of_not_not (show ¬ ¬ (((L261_10 m a0 (f215 m a0 40) 18 0).2.2) = 18) from c73)
              refine Or.inl ⟨c73, ?_⟩
              have h : MR X ρ 4 0 0 qP261 N 114 [a0, f215 m a0 40, (L261_10 m a0 (f215 m a0 40) 18 0).2.2, 1] [] m70 o := h
              have h := CR_aload_n h rfl
              have h : MR X ρ 4 0 0 qP261 N 115 [a0, f215 m a0 40, (L261_10 m a0 (f215 m a0 40) 18 0).2.2, 1] [(1, a0)] m70 o := h
              obtain ⟨r94, m95, q96, h⟩ := MR_invV h rfl rfl
              have q96 : Run X ρ 253 [(1, a0)] m70 r94 m95 := q96
              obtain ⟨v97, rfl, zv97⟩ := Run_z q96 rfl
              have h : MR X ρ 4 0 0 qP261 N 118 [a0, f215 m a0 40, (L261_10 m a0 (f215 m a0 40) 18 0).2.2, 1] [(1, v97)] m95 o := h
              refine ⟨v97, m95, q96, zv97, ?_⟩
              have h := CR_istore_n h rfl (Nat.le_of_ble_eq_true rfl)
              have h : MR X ρ 4 0 0 qP261 N 119 [a0, f215 m a0 40, (L261_10 m a0 (f215 m a0 40) 18 0).2.2, v97] [] m95 o := h
              have h := CR_go h rfl rfl
              have h : MR X ρ 4 0 0 qP261 N 166 [a0, f215 m a0 40, (L261_10 m a0 (f215 m a0 40) 18 0).2.2, v97] [] m95 o := h
              have h := CR_aload_n h rfl
              have h : MR X ρ 4 0 0 qP261 N 167 [a0, f215 m a0 40, (L261_10 m a0 (f215 m a0 40) 18 0).2.2, v97] [(1, a0)] m95 o := h
              have h := CR_dup h rfl
              have h : MR X ρ 4 0 0 qP261 N 168 [a0, f215 m a0 40, (L261_10 m a0 (f215 m a0 40) 18 0).2.2, v97] [(1, a0), (1, a0)] m95 o := h
              have h := CR_getf h rfl (by decide)
              have h : MR X ρ 4 0 0 qP261 N 171 [a0, f215 m a0 40, (L261_10 m a0 (f215 m a0 40) 18 0).2.2, v97] [(1, m95 a0 43), (1, a0)] m95 o := h
              have h := CR_iconst h rfl rfl
              have h : MR X ρ 4 0 0 qP261 N 172 [a0, f215 m a0 40, (L261_10 m a0 (f215 m a0 40) 18 0).2.2, v97] [(1, 1), (1, m95 a0 43), (1, a0)] m95 o := h
              have h := CR_isub h rfl
              have h : MR X ρ 4 0 0 qP261 N 173 [a0, f215 m a0 40, (L261_10 m a0 (f215 m a0 40) 18 0).2.2, v97] [(1, s32 ((m95 a0 43) - 1)), (1, a0)] m95 o := h
              have h := CR_putf h rfl
              have h : MR X ρ 4 0 0 qP261 N 176 [a0, f215 m a0 40, (L261_10 m a0 (f215 m a0 40) 18 0).2.2, v97] [] (mu m95 a0 43 (s32 ((m95 a0 43) - 1))) o := h
              obtain ⟨y98, zy98, h⟩ : ∃ y, y = mu m95 a0 43 (s32 ((m95 a0 43) - 1)) ∧ MR X ρ 4 0 0 qP261 N 176 [a0, f215 m a0 40, (L261_10 m a0 (f215 m a0 40) 18 0).2.2, v97] [] y o := ⟨_, rfl, h⟩
              have h : MR X ρ 4 0 0 qP261 N 176 [a0, f215 m a0 40, (L261_10 m a0 (f215 m a0 40) 18 0).2.2, v97] [] y98 o := h
              refine ⟨y98, zy98, ?_⟩
              have h := CR_iload_n h rfl
              have h : MR X ρ 4 0 0 qP261 N 177 [a0, f215 m a0 40, (L261_10 m a0 (f215 m a0 40) 18 0).2.2, v97] [(1, v97)] y98 o := h
              exact CR_end h rfl rfl
          ·
            have c72 : ¬ ((f215 m a0 40) = 0) := c72
            refine Or.inr ⟨c72, ?_⟩
            have h : MR X ρ 4 0 0 qP261 N 100 [a0, f215 m a0 40, (L261_10 m a0 (f215 m a0 40) 18 0).2.2, 1] [] m70 o := h
            have h := CR_aload_n h rfl
            have h : MR X ρ 4 0 0 qP261 N 101 [a0, f215 m a0 40, (L261_10 m a0 (f215 m a0 40) 18 0).2.2, 1] [(1, a0)] m70 o := h
            obtain ⟨r99, m100, q101, h⟩ := MR_invV h rfl rfl
            have q101 : Run X ρ 242 [(1, a0)] m70 r99 m100 := q101
            obtain ⟨v102, rfl, zv102⟩ := Run_z q101 rfl
            have h : MR X ρ 4 0 0 qP261 N 104 [a0, f215 m a0 40, (L261_10 m a0 (f215 m a0 40) 18 0).2.2, 1] [(1, v102)] m100 o := h
            refine ⟨v102, m100, q101, zv102, ?_⟩
            have h := CR_istore_n h rfl (Nat.le_of_ble_eq_true rfl)
            have h : MR X ρ 4 0 0 qP261 N 105 [a0, f215 m a0 40, (L261_10 m a0 (f215 m a0 40) 18 0).2.2, v102] [] m100 o := h
            have h := CR_go h rfl rfl
            have h : MR X ρ 4 0 0 qP261 N 166 [a0, f215 m a0 40, (L261_10 m a0 (f215 m a0 40) 18 0).2.2, v102] [] m100 o := h
            have h := CR_aload_n h rfl
            have h : MR X ρ 4 0 0 qP261 N 167 [a0, f215 m a0 40, (L261_10 m a0 (f215 m a0 40) 18 0).2.2, v102] [(1, a0)] m100 o := h
            have h := CR_dup h rfl
            have h : MR X ρ 4 0 0 qP261 N 168 [a0, f215 m a0 40, (L261_10 m a0 (f215 m a0 40) 18 0).2.2, v102] [(1, a0), (1, a0)] m100 o := h
            have h := CR_getf h rfl (by decide)
            have h : MR X ρ 4 0 0 qP261 N 171 [a0, f215 m a0 40, (L261_10 m a0 (f215 m a0 40) 18 0).2.2, v102] [(1, m100 a0 43), (1, a0)] m100 o := h
            have h := CR_iconst h rfl rfl
            have h : MR X ρ 4 0 0 qP261 N 172 [a0, f215 m a0 40, (L261_10 m a0 (f215 m a0 40) 18 0).2.2, v102] [(1, 1), (1, m100 a0 43), (1, a0)] m100 o := h
            have h := CR_isub h rfl
            have h : MR X ρ 4 0 0 qP261 N 173 [a0, f215 m a0 40, (L261_10 m a0 (f215 m a0 40) 18 0).2.2, v102] [(1, s32 ((m100 a0 43) - 1)), (1, a0)] m100 o := h
            have h := CR_putf h rfl
            have h : MR X ρ 4 0 0 qP261 N 176 [a0, f215 m a0 40, (L261_10 m a0 (f215 m a0 40) 18 0).2.2, v102] [] (mu m100 a0 43 (s32 ((m100 a0 43) - 1))) o := h
            obtain ⟨y103, zy103, h⟩ : ∃ y, y = mu m100 a0 43 (s32 ((m100 a0 43) - 1)) ∧ MR X ρ 4 0 0 qP261 N 176 [a0, f215 m a0 40, (L261_10 m a0 (f215 m a0 40) 18 0).2.2, v102] [] y o := ⟨_, rfl, h⟩
            have h : MR X ρ 4 0 0 qP261 N 176 [a0, f215 m a0 40, (L261_10 m a0 (f215 m a0 40) 18 0).2.2, v102] [] y103 o := h
            refine ⟨y103, zy103, ?_⟩
            have h := CR_iload_n h rfl
            have h : MR X ρ 4 0 0 qP261 N 177 [a0, f215 m a0 40, (L261_10 m a0 (f215 m a0 40) 18 0).2.2, v102] [(1, v102)] y103 o := h
            exact CR_end h rfl rfl
        ·
          have c66 : (m a0 43) = 8 := Decidable.of_not_not (show ¬ ¬ ((m a0 43) = 8) from c66)
          refine Or.inl ⟨c66, ?_⟩
          have h : MR X ρ 4 0 0 qP261 N 64 [a0, f215 m a0 40, (L261_10 m a0 (f215 m a0 40) 18 0).2.2, 0] [] m o := h
          have h := CR_aload_n h rfl
          have h : MR X ρ 4 0 0 qP261 N 65 [a0, f215 m a0 40, (L261_10 m a0 (f215 m a0 40) 18 0).2.2, 0] [(1, a0)] m o := h
          have h := CR_iconst h rfl rfl
          have h : MR X ρ 4 0 0 qP261 N 66 [a0, f215 m a0 40, (L261_10 m a0 (f215 m a0 40) 18 0).2.2, 0] [(1, 4), (1, a0)] m o := h
          obtain ⟨r104, m105, q106, h⟩ := MR_invV h rfl rfl
          have q106 : Run X ρ 168 [(1, a0), (1, 4)] m r104 m105 := q106
          obtain ⟨e107, e108⟩ := d168 q106
          rw [e107, e108] at h
          have h : MR X ρ 4 0 0 qP261 N 69 [a0, f215 m a0 40, (L261_10 m a0 (f215 m a0 40) 18 0).2.2, 0] [(1, f168 m a0 4)] (g168 m a0 4) o := h
          obtain ⟨y109, zy109, h⟩ : ∃ y, y = g168 m a0 4 ∧ MR X ρ 4 0 0 qP261 N 69 [a0, f215 m a0 40, (L261_10 m a0 (f215 m a0 40) 18 0).2.2, 0] [(1, f168 m a0 4)] y o := ⟨_, rfl, h⟩
          have h : MR X ρ 4 0 0 qP261 N 69 [a0, f215 m a0 40, (L261_10 m a0 (f215 m a0 40) 18 0).2.2, 0] [(1, f168 m a0 4)] y109 o := h
          refine ⟨y109, zy109, ?_⟩
          exact CR_end h rfl rfl
    ·
      have c58 : ¬ (((L261_10 m a0 (f215 m a0 40) 18 0).2.2) ≤ 29) := c58
      refine Or.inr ⟨c58, ?_⟩
      have h : MR X ρ 4 0 0 qP261 N 40 [a0, f215 m a0 40, (L261_10 m a0 (f215 m a0 40) 18 0).2.2, 0] [] m o := h
      have h := CR_aload_n h rfl
      have h : MR X ρ 4 0 0 qP261 N 41 [a0, f215 m a0 40, (L261_10 m a0 (f215 m a0 40) 18 0).2.2, 0] [(1, a0)] m o := h
      have h := CR_iconst h rfl rfl
      have h : MR X ρ 4 0 0 qP261 N 42 [a0, f215 m a0 40, (L261_10 m a0 (f215 m a0 40) 18 0).2.2, 0] [(1, 1), (1, a0)] m o := h
      obtain ⟨r110, m111, q112, h⟩ := MR_invV h rfl rfl
      have q112 : Run X ρ 168 [(1, a0), (1, 1)] m r110 m111 := q112
      obtain ⟨e113, e114⟩ := d168 q112
      rw [e113, e114] at h
      have h : MR X ρ 4 0 0 qP261 N 45 [a0, f215 m a0 40, (L261_10 m a0 (f215 m a0 40) 18 0).2.2, 0] [(1, f168 m a0 1)] (g168 m a0 1) o := h
      obtain ⟨y115, zy115, h⟩ : ∃ y, y = g168 m a0 1 ∧ MR X ρ 4 0 0 qP261 N 45 [a0, f215 m a0 40, (L261_10 m a0 (f215 m a0 40) 18 0).2.2, 0] [(1, f168 m a0 1)] y o := ⟨_, rfl, h⟩
      have h : MR X ρ 4 0 0 qP261 N 45 [a0, f215 m a0 40, (L261_10 m a0 (f215 m a0 40) 18 0).2.2, 0] [(1, f168 m a0 1)] y115 o := h
      refine ⟨y115, zy115, ?_⟩
      exact CR_end h rfl rfl
set_option maxRecDepth 16384 in
theorem s253_0 {X : KO} {ρ : Nat → Int32} {m : MM} {N : Nat} {o : Instr × List (Nat × Int) × MM} {a0 : Int} (h : MR X ρ 1 0 0 qP253 N 0 [a0] [] m o) : (∃ v4 m2, Run X ρ 261 [(1, a0)] m [(1, v4)] m2 ∧ (v4 = 0 ∨ v4 = 1) ∧ (((v4 = 0) ∧ (o = (.ireturn, [(1, 0)], m2))) ∨ (¬ (v4 = 0) ∧ (∃ y11, y11 = g268 m2 a0 1 (m2 a0 44) 0 0 ∧ (∃ y12, y12 = mu y11 a0 44 (f268 m2 a0 1 (m2 a0 44) 0 0) ∧ (o = (.ireturn, [(1, 1)], y12))))))) := by
  have h := CR_aload_n h rfl
  have h : MR X ρ 1 0 0 qP253 N 1 [a0] [(1, a0)] m o := h
  obtain ⟨r1, m2, q3, h⟩ := MR_invV h rfl rfl
  have q3 : Run X ρ 261 [(1, a0)] m r1 m2 := q3
  obtain ⟨v4, rfl, zv4⟩ := Run_z q3 rfl
  have h : MR X ρ 1 0 0 qP253 N 4 [a0] [(1, v4)] m2 o := h
  refine ⟨v4, m2, q3, zv4, ?_⟩
  rcases MR_if h rfl rfl with ⟨c5, h⟩ | ⟨c5, h⟩
  ·
    have c5 : ¬ (v4 = 0) := c5
    refine Or.inr ⟨c5, ?_⟩
    have h : MR X ρ 1 0 0 qP253 N 9 [a0] [] m2 o := h
    have h := CR_aload_n h rfl
    have h : MR X ρ 1 0 0 qP253 N 10 [a0] [(1, a0)] m2 o := h
    have h := CR_aload_n h rfl
    have h : MR X ρ 1 0 0 qP253 N 11 [a0] [(1, a0), (1, a0)] m2 o := h
    have h := CR_iconst h rfl rfl
    have h : MR X ρ 1 0 0 qP253 N 12 [a0] [(1, 1), (1, a0), (1, a0)] m2 o := h
    have h := CR_aload_n h rfl
    have h : MR X ρ 1 0 0 qP253 N 13 [a0] [(1, a0), (1, 1), (1, a0), (1, a0)] m2 o := h
    have h := CR_getf h rfl (by decide)
    have h : MR X ρ 1 0 0 qP253 N 16 [a0] [(1, m2 a0 44), (1, 1), (1, a0), (1, a0)] m2 o := h
    have h := CR_iconst h rfl rfl
    have h : MR X ρ 1 0 0 qP253 N 17 [a0] [(1, 0), (1, m2 a0 44), (1, 1), (1, a0), (1, a0)] m2 o := h
    have h := CR_iconst h rfl rfl
    have h : MR X ρ 1 0 0 qP253 N 18 [a0] [(1, 0), (1, 0), (1, m2 a0 44), (1, 1), (1, a0), (1, a0)] m2 o := h
    obtain ⟨r6, m7, q8, h⟩ := MR_invV h rfl rfl
    have q8 : Run X ρ 268 [(1, a0), (1, 1), (1, m2 a0 44), (1, 0), (1, 0)] m2 r6 m7 := q8
    obtain ⟨e9, e10⟩ := d268 q8
    rw [e9, e10] at h
    have h : MR X ρ 1 0 0 qP253 N 21 [a0] [(1, f268 m2 a0 1 (m2 a0 44) 0 0), (1, a0)] (g268 m2 a0 1 (m2 a0 44) 0 0) o := h
    obtain ⟨y11, zy11, h⟩ : ∃ y, y = g268 m2 a0 1 (m2 a0 44) 0 0 ∧ MR X ρ 1 0 0 qP253 N 21 [a0] [(1, f268 m2 a0 1 (m2 a0 44) 0 0), (1, a0)] y o := ⟨_, rfl, h⟩
    have h : MR X ρ 1 0 0 qP253 N 21 [a0] [(1, f268 m2 a0 1 (m2 a0 44) 0 0), (1, a0)] y11 o := h
    refine ⟨y11, zy11, ?_⟩
    have h := CR_putf h rfl
    have h : MR X ρ 1 0 0 qP253 N 24 [a0] [] (mu y11 a0 44 (f268 m2 a0 1 (m2 a0 44) 0 0)) o := h
    obtain ⟨y12, zy12, h⟩ : ∃ y, y = mu y11 a0 44 (f268 m2 a0 1 (m2 a0 44) 0 0) ∧ MR X ρ 1 0 0 qP253 N 24 [a0] [] y o := ⟨_, rfl, h⟩
    have h : MR X ρ 1 0 0 qP253 N 24 [a0] [] y12 o := h
    refine ⟨y12, zy12, ?_⟩
    have h := CR_iconst h rfl rfl
    have h : MR X ρ 1 0 0 qP253 N 25 [a0] [(1, 1)] y12 o := h
    exact CR_end h rfl rfl
  ·
    have c5 : v4 = 0 := Decidable.of_not_not (show ¬ ¬ (v4 = 0) from c5)
    refine Or.inl ⟨c5, ?_⟩
    have h : MR X ρ 1 0 0 qP253 N 7 [a0] [] m2 o := h
    have h := CR_iconst h rfl rfl
    have h : MR X ρ 1 0 0 qP253 N 8 [a0] [(1, 0)] m2 o := h
    exact CR_end h rfl rfl
set_option maxRecDepth 16384 in
theorem s242_0 {X : KO} {ρ : Nat → Int32} {m : MM} {N : Nat} {o : Instr × List (Nat × Int) × MM} {a0 : Int} (h : MR X ρ 1 0 0 qP242 N 0 [a0] [] m o) : (∃ v4 m2, Run X ρ 256 [(1, a0)] m [(1, v4)] m2 ∧ (v4 = 0 ∨ v4 = 1) ∧ (((v4 = 0) ∧ (o = (.ireturn, [(1, 0)], m2))) ∨ (¬ (v4 = 0) ∧ ((((f215 m2 a0 41) = 0) ∧ (∃ y20, y20 = g168 m2 a0 1 ∧ (o = (.ireturn, [(1, f168 m2 a0 1)], y20)))) ∨ (¬ ((f215 m2 a0 41) = 0) ∧ (∃ m13, Run X ρ 195 [(1, a0)] m2 [] m13 ∧ (o = (.ireturn, [(1, 1)], m13)))))))) := by
  have h := CR_aload_n h rfl
  have h : MR X ρ 1 0 0 qP242 N 1 [a0] [(1, a0)] m o := h
  obtain ⟨r1, m2, q3, h⟩ := MR_invV h rfl rfl
  have q3 : Run X ρ 256 [(1, a0)] m r1 m2 := q3
  obtain ⟨v4, rfl, zv4⟩ := Run_z q3 rfl
  have h : MR X ρ 1 0 0 qP242 N 4 [a0] [(1, v4)] m2 o := h
  refine ⟨v4, m2, q3, zv4, ?_⟩
  rcases MR_if h rfl rfl with ⟨c5, h⟩ | ⟨c5, h⟩
  ·
    have c5 : ¬ (v4 = 0) := c5
    refine Or.inr ⟨c5, ?_⟩
    have h : MR X ρ 1 0 0 qP242 N 9 [a0] [] m2 o := h
    have h := CR_aload_n h rfl
    have h : MR X ρ 1 0 0 qP242 N 10 [a0] [(1, a0)] m2 o := h
    have h := CR_bipush h rfl rfl
    have h : MR X ρ 1 0 0 qP242 N 12 [a0] [(1, 41), (1, a0)] m2 o := h
    obtain ⟨r6, m7, q8, h⟩ := MR_invV h rfl rfl
    have q8 : Run X ρ 215 [(1, a0), (1, 41)] m2 r6 m7 := q8
    obtain ⟨e9, e10⟩ := d215 q8
    rw [e9, e10] at h
    have h : MR X ρ 1 0 0 qP242 N 15 [a0] [(1, f215 m2 a0 41)] m2 o := h
    rcases MR_if h rfl rfl with ⟨c11, h⟩ | ⟨c11, h⟩
    ·
      have c11 : ¬ ((f215 m2 a0 41) = 0) := c11
      refine Or.inr ⟨c11, ?_⟩
      have h : MR X ρ 1 0 0 qP242 N 24 [a0] [] m2 o := h
      have h := CR_aload_n h rfl
      have h : MR X ρ 1 0 0 qP242 N 25 [a0] [(1, a0)] m2 o := h
      obtain ⟨r12, m13, q14, h⟩ := MR_invV h rfl rfl
      have q14 : Run X ρ 195 [(1, a0)] m2 r12 m13 := q14
      obtain rfl := Run_v q14 rfl
      have h : MR X ρ 1 0 0 qP242 N 28 [a0] [] m13 o := h
      refine ⟨m13, q14, ?_⟩
      have h := CR_iconst h rfl rfl
      have h : MR X ρ 1 0 0 qP242 N 29 [a0] [(1, 1)] m13 o := h
      exact CR_end h rfl rfl
    ·
      have c11 : (f215 m2 a0 41) = 0 := Decidable.of_not_not (show ¬ ¬ ((f215 m2 a0 41) = 0) from c11)
      refine Or.inl ⟨c11, ?_⟩
      have h : MR X ρ 1 0 0 qP242 N 18 [a0] [] m2 o := h
      have h := CR_aload_n h rfl
      have h : MR X ρ 1 0 0 qP242 N 19 [a0] [(1, a0)] m2 o := h
      have h := CR_iconst h rfl rfl
      have h : MR X ρ 1 0 0 qP242 N 20 [a0] [(1, 1), (1, a0)] m2 o := h
      obtain ⟨r15, m16, q17, h⟩ := MR_invV h rfl rfl
      have q17 : Run X ρ 168 [(1, a0), (1, 1)] m2 r15 m16 := q17
      obtain ⟨e18, e19⟩ := d168 q17
      rw [e18, e19] at h
      have h : MR X ρ 1 0 0 qP242 N 23 [a0] [(1, f168 m2 a0 1)] (g168 m2 a0 1) o := h
      obtain ⟨y20, zy20, h⟩ : ∃ y, y = g168 m2 a0 1 ∧ MR X ρ 1 0 0 qP242 N 23 [a0] [(1, f168 m2 a0 1)] y o := ⟨_, rfl, h⟩
      have h : MR X ρ 1 0 0 qP242 N 23 [a0] [(1, f168 m2 a0 1)] y20 o := h
      refine ⟨y20, zy20, ?_⟩
      exact CR_end h rfl rfl
  ·
    have c5 : v4 = 0 := Decidable.of_not_not (show ¬ ¬ (v4 = 0) from c5)
    refine Or.inl ⟨c5, ?_⟩
    have h : MR X ρ 1 0 0 qP242 N 7 [a0] [] m2 o := h
    have h := CR_iconst h rfl rfl
    have h : MR X ρ 1 0 0 qP242 N 8 [a0] [(1, 0)] m2 o := h
    exact CR_end h rfl rfl
set_option maxRecDepth 16384 in
theorem s255_0 {X : KO} {ρ : Nat → Int32} {m : MM} {N : Nat} {o : Instr × List (Nat × Int) × MM} {a0 a1 : Int} (h : MR X ρ 2 0 0 qP255 N 0 [a0, a1] [] m o) : (∃ v4 m2, Run X ρ 259 [(1, a0)] m [(1, v4)] m2 ∧ (v4 = 0 ∨ v4 = 1) ∧ (((v4 = 0) ∧ (o = (.ireturn, [(1, 0)], m2))) ∨ (¬ (v4 = 0) ∧ (∃ y11, y11 = g268 m2 a0 (s32 (50 + a1)) (m2 a0 13) 0 0 ∧ (∃ y12, y12 = mu y11 a0 44 (f268 m2 a0 (s32 (50 + a1)) (m2 a0 13) 0 0) ∧ (o = (.ireturn, [(1, 1)], y12))))))) := by
  have h := CR_aload_n h rfl
  have h : MR X ρ 2 0 0 qP255 N 1 [a0, a1] [(1, a0)] m o := h
  obtain ⟨r1, m2, q3, h⟩ := MR_invV h rfl rfl
  have q3 : Run X ρ 259 [(1, a0)] m r1 m2 := q3
  obtain ⟨v4, rfl, zv4⟩ := Run_z q3 rfl
  have h : MR X ρ 2 0 0 qP255 N 4 [a0, a1] [(1, v4)] m2 o := h
  refine ⟨v4, m2, q3, zv4, ?_⟩
  rcases MR_if h rfl rfl with ⟨c5, h⟩ | ⟨c5, h⟩
  ·
    have c5 : ¬ (v4 = 0) := c5
    refine Or.inr ⟨c5, ?_⟩
    have h : MR X ρ 2 0 0 qP255 N 9 [a0, a1] [] m2 o := h
    have h := CR_aload_n h rfl
    have h : MR X ρ 2 0 0 qP255 N 10 [a0, a1] [(1, a0)] m2 o := h
    have h := CR_aload_n h rfl
    have h : MR X ρ 2 0 0 qP255 N 11 [a0, a1] [(1, a0), (1, a0)] m2 o := h
    have h := CR_bipush h rfl rfl
    have h : MR X ρ 2 0 0 qP255 N 13 [a0, a1] [(1, 50), (1, a0), (1, a0)] m2 o := h
    have h := CR_iload_n h rfl
    have h : MR X ρ 2 0 0 qP255 N 14 [a0, a1] [(1, a1), (1, 50), (1, a0), (1, a0)] m2 o := h
    have h := CR_iadd h rfl
    have h : MR X ρ 2 0 0 qP255 N 15 [a0, a1] [(1, s32 (50 + a1)), (1, a0), (1, a0)] m2 o := h
    have h := CR_aload_n h rfl
    have h : MR X ρ 2 0 0 qP255 N 16 [a0, a1] [(1, a0), (1, s32 (50 + a1)), (1, a0), (1, a0)] m2 o := h
    have h := CR_getf h rfl (by decide)
    have h : MR X ρ 2 0 0 qP255 N 19 [a0, a1] [(1, m2 a0 13), (1, s32 (50 + a1)), (1, a0), (1, a0)] m2 o := h
    have h := CR_iconst h rfl rfl
    have h : MR X ρ 2 0 0 qP255 N 20 [a0, a1] [(1, 0), (1, m2 a0 13), (1, s32 (50 + a1)), (1, a0), (1, a0)] m2 o := h
    have h := CR_iconst h rfl rfl
    have h : MR X ρ 2 0 0 qP255 N 21 [a0, a1] [(1, 0), (1, 0), (1, m2 a0 13), (1, s32 (50 + a1)), (1, a0), (1, a0)] m2 o := h
    obtain ⟨r6, m7, q8, h⟩ := MR_invV h rfl rfl
    have q8 : Run X ρ 268 [(1, a0), (1, s32 (50 + a1)), (1, m2 a0 13), (1, 0), (1, 0)] m2 r6 m7 := q8
    obtain ⟨e9, e10⟩ := d268 q8
    rw [e9, e10] at h
    have h : MR X ρ 2 0 0 qP255 N 24 [a0, a1] [(1, f268 m2 a0 (s32 (50 + a1)) (m2 a0 13) 0 0), (1, a0)] (g268 m2 a0 (s32 (50 + a1)) (m2 a0 13) 0 0) o := h
    obtain ⟨y11, zy11, h⟩ : ∃ y, y = g268 m2 a0 (s32 (50 + a1)) (m2 a0 13) 0 0 ∧ MR X ρ 2 0 0 qP255 N 24 [a0, a1] [(1, f268 m2 a0 (s32 (50 + a1)) (m2 a0 13) 0 0), (1, a0)] y o := ⟨_, rfl, h⟩
    have h : MR X ρ 2 0 0 qP255 N 24 [a0, a1] [(1, f268 m2 a0 (s32 (50 + a1)) (m2 a0 13) 0 0), (1, a0)] y11 o := h
    refine ⟨y11, zy11, ?_⟩
    have h := CR_putf h rfl
    have h : MR X ρ 2 0 0 qP255 N 27 [a0, a1] [] (mu y11 a0 44 (f268 m2 a0 (s32 (50 + a1)) (m2 a0 13) 0 0)) o := h
    obtain ⟨y12, zy12, h⟩ : ∃ y, y = mu y11 a0 44 (f268 m2 a0 (s32 (50 + a1)) (m2 a0 13) 0 0) ∧ MR X ρ 2 0 0 qP255 N 27 [a0, a1] [] y o := ⟨_, rfl, h⟩
    have h : MR X ρ 2 0 0 qP255 N 27 [a0, a1] [] y12 o := h
    refine ⟨y12, zy12, ?_⟩
    have h := CR_iconst h rfl rfl
    have h : MR X ρ 2 0 0 qP255 N 28 [a0, a1] [(1, 1)] y12 o := h
    exact CR_end h rfl rfl
  ·
    have c5 : v4 = 0 := Decidable.of_not_not (show ¬ ¬ (v4 = 0) from c5)
    refine Or.inl ⟨c5, ?_⟩
    have h : MR X ρ 2 0 0 qP255 N 7 [a0, a1] [] m2 o := h
    have h := CR_iconst h rfl rfl
    have h : MR X ρ 2 0 0 qP255 N 8 [a0, a1] [(1, 0)] m2 o := h
    exact CR_end h rfl rfl
set_option maxRecDepth 16384 in
theorem s243_0 {X : KO} {ρ : Nat → Int32} {m : MM} {N : Nat} {o : Instr × List (Nat × Int) × MM} {a0 a1 : Int} (h : MR X ρ 3 0 0 qP243 N 0 [a0, a1, 0] [] m o) : ((((f215 m a0 60) = 0) ∧ ((((f215 m a0 61) = 0) ∧ ((((f215 m a0 62) = 0) ∧ (∃ y69, y69 = g168 m a0 1 ∧ (o = (.ireturn, [(1, f168 m a0 1)], y69)))) ∨ (¬ ((f215 m a0 62) = 0) ∧ (∃ m50, Run X ρ 195 [(1, a0)] m [] m50 ∧ (∃ v55 m53, Run X ρ 254 [(1, a0), (1, 0), (1, 999)] m50 [(1, v55)] m53 ∧ (v55 = 0 ∨ v55 = 1) ∧ (((v55 = 0) ∧ (o = (.ireturn, [(1, 0)], m53))) ∨ (¬ (v55 = 0) ∧ (∃ y62, y62 = g268 m53 a0 (s32 (50 + a1)) 0 (m53 a0 13) (m a0 9) ∧ (∃ y63, y63 = mu y62 a0 44 (f268 m53 a0 (s32 (50 + a1)) 0 (m53 a0 13) (m a0 9)) ∧ (o = (.ireturn, [(1, 1)], y63))))))))))) ∨ (¬ ((f215 m a0 61) = 0) ∧ (∃ m29, Run X ρ 195 [(1, a0)] m [] m29 ∧ (∃ v34 m32, Run X ρ 254 [(1, a0), (1, 0), (1, 999)] m29 [(1, v34)] m32 ∧ (v34 = 0 ∨ v34 = 1) ∧ (((v34 = 0) ∧ (o = (.ireturn, [(1, 0)], m32))) ∨ (¬ (v34 = 0) ∧ (∃ y41, y41 = g268 m32 a0 (s32 (50 + a1)) 0 (m32 a0 13) (m a0 9) ∧ (∃ y42, y42 = mu y41 a0 44 (f268 m32 a0 (s32 (50 + a1)) 0 (m32 a0 13) (m a0 9)) ∧ (o = (.ireturn, [(1, 1)], y42))))))))))) ∨ (¬ ((f215 m a0 60) = 0) ∧ (∃ m8, Run X ρ 195 [(1, a0)] m [] m8 ∧ (∃ v13 m11, Run X ρ 254 [(1, a0), (1, 0), (1, 999)] m8 [(1, v13)] m11 ∧ (v13 = 0 ∨ v13 = 1) ∧ (((v13 = 0) ∧ (o = (.ireturn, [(1, 0)], m11))) ∨ (¬ (v13 = 0) ∧ (∃ y20, y20 = g268 m11 a0 (s32 (50 + a1)) 0 (m11 a0 13) (m a0 9) ∧ (∃ y21, y21 = mu y20 a0 44 (f268 m11 a0 (s32 (50 + a1)) 0 (m11 a0 13) (m a0 9)) ∧ (o = (.ireturn, [(1, 1)], y21)))))))))) := by
  have h := CR_aload_n h rfl
  have h : MR X ρ 3 0 0 qP243 N 1 [a0, a1, 0] [(1, a0)] m o := h
  have h := CR_bipush h rfl rfl
  have h : MR X ρ 3 0 0 qP243 N 3 [a0, a1, 0] [(1, 60), (1, a0)] m o := h
  obtain ⟨r1, m2, q3, h⟩ := MR_invV h rfl rfl
  have q3 : Run X ρ 215 [(1, a0), (1, 60)] m r1 m2 := q3
  obtain ⟨e4, e5⟩ := d215 q3
  rw [e4, e5] at h
  have h : MR X ρ 3 0 0 qP243 N 6 [a0, a1, 0] [(1, f215 m a0 60)] m o := h
  rcases MR_if h rfl rfl with ⟨c6, h⟩ | ⟨c6, h⟩
  ·
    have c6 : ¬ ((f215 m a0 60) = 0) := c6
    refine Or.inr ⟨c6, ?_⟩
    have h : MR X ρ 3 0 0 qP243 N 33 [a0, a1, 0] [] m o := h
    have h := CR_aload_n h rfl
    have h : MR X ρ 3 0 0 qP243 N 34 [a0, a1, 0] [(1, a0)] m o := h
    have h := CR_getf h rfl (by decide)
    have h : MR X ρ 3 0 0 qP243 N 37 [a0, a1, 0] [(1, m a0 9)] m o := h
    have h := CR_istore_n h rfl (Nat.le_of_ble_eq_true rfl)
    have h : MR X ρ 3 0 0 qP243 N 38 [a0, a1, m a0 9] [] m o := h
    have h := CR_aload_n h rfl
    have h : MR X ρ 3 0 0 qP243 N 39 [a0, a1, m a0 9] [(1, a0)] m o := h
    obtain ⟨r7, m8, q9, h⟩ := MR_invV h rfl rfl
    have q9 : Run X ρ 195 [(1, a0)] m r7 m8 := q9
    obtain rfl := Run_v q9 rfl
    have h : MR X ρ 3 0 0 qP243 N 42 [a0, a1, m a0 9] [] m8 o := h
    refine ⟨m8, q9, ?_⟩
    have h := CR_aload_n h rfl
    have h : MR X ρ 3 0 0 qP243 N 43 [a0, a1, m a0 9] [(1, a0)] m8 o := h
    have h := CR_iconst h rfl rfl
    have h : MR X ρ 3 0 0 qP243 N 44 [a0, a1, m a0 9] [(1, 0), (1, a0)] m8 o := h
    have h := CR_sipush h rfl rfl
    have h : MR X ρ 3 0 0 qP243 N 47 [a0, a1, m a0 9] [(1, 999), (1, 0), (1, a0)] m8 o := h
    obtain ⟨r10, m11, q12, h⟩ := MR_invV h rfl rfl
    have q12 : Run X ρ 254 [(1, a0), (1, 0), (1, 999)] m8 r10 m11 := q12
    obtain ⟨v13, rfl, zv13⟩ := Run_z q12 rfl
    have h : MR X ρ 3 0 0 qP243 N 50 [a0, a1, m a0 9] [(1, v13)] m11 o := h
    refine ⟨v13, m11, q12, zv13, ?_⟩
    rcases MR_if h rfl rfl with ⟨c14, h⟩ | ⟨c14, h⟩
    ·
      have c14 : ¬ (v13 = 0) := c14
      refine Or.inr ⟨c14, ?_⟩
      have h : MR X ρ 3 0 0 qP243 N 55 [a0, a1, m a0 9] [] m11 o := h
      have h := CR_aload_n h rfl
      have h : MR X ρ 3 0 0 qP243 N 56 [a0, a1, m a0 9] [(1, a0)] m11 o := h
      have h := CR_aload_n h rfl
      have h : MR X ρ 3 0 0 qP243 N 57 [a0, a1, m a0 9] [(1, a0), (1, a0)] m11 o := h
      have h := CR_bipush h rfl rfl
      have h : MR X ρ 3 0 0 qP243 N 59 [a0, a1, m a0 9] [(1, 50), (1, a0), (1, a0)] m11 o := h
      have h := CR_iload_n h rfl
      have h : MR X ρ 3 0 0 qP243 N 60 [a0, a1, m a0 9] [(1, a1), (1, 50), (1, a0), (1, a0)] m11 o := h
      have h := CR_iadd h rfl
      have h : MR X ρ 3 0 0 qP243 N 61 [a0, a1, m a0 9] [(1, s32 (50 + a1)), (1, a0), (1, a0)] m11 o := h
      have h := CR_iconst h rfl rfl
      have h : MR X ρ 3 0 0 qP243 N 62 [a0, a1, m a0 9] [(1, 0), (1, s32 (50 + a1)), (1, a0), (1, a0)] m11 o := h
      have h := CR_aload_n h rfl
      have h : MR X ρ 3 0 0 qP243 N 63 [a0, a1, m a0 9] [(1, a0), (1, 0), (1, s32 (50 + a1)), (1, a0), (1, a0)] m11 o := h
      have h := CR_getf h rfl (by decide)
      have h : MR X ρ 3 0 0 qP243 N 66 [a0, a1, m a0 9] [(1, m11 a0 13), (1, 0), (1, s32 (50 + a1)), (1, a0), (1, a0)] m11 o := h
      have h := CR_iload_n h rfl
      have h : MR X ρ 3 0 0 qP243 N 67 [a0, a1, m a0 9] [(1, m a0 9), (1, m11 a0 13), (1, 0), (1, s32 (50 + a1)), (1, a0), (1, a0)] m11 o := h
      obtain ⟨r15, m16, q17, h⟩ := MR_invV h rfl rfl
      have q17 : Run X ρ 268 [(1, a0), (1, s32 (50 + a1)), (1, 0), (1, m11 a0 13), (1, m a0 9)] m11 r15 m16 := q17
      obtain ⟨e18, e19⟩ := d268 q17
      rw [e18, e19] at h
      have h : MR X ρ 3 0 0 qP243 N 70 [a0, a1, m a0 9] [(1, f268 m11 a0 (s32 (50 + a1)) 0 (m11 a0 13) (m a0 9)), (1, a0)] (g268 m11 a0 (s32 (50 + a1)) 0 (m11 a0 13) (m a0 9)) o := h
      obtain ⟨y20, zy20, h⟩ : ∃ y, y = g268 m11 a0 (s32 (50 + a1)) 0 (m11 a0 13) (m a0 9) ∧ MR X ρ 3 0 0 qP243 N 70 [a0, a1, m a0 9] [(1, f268 m11 a0 (s32 (50 + a1)) 0 (m11 a0 13) (m a0 9)), (1, a0)] y o := ⟨_, rfl, h⟩
      have h : MR X ρ 3 0 0 qP243 N 70 [a0, a1, m a0 9] [(1, f268 m11 a0 (s32 (50 + a1)) 0 (m11 a0 13) (m a0 9)), (1, a0)] y20 o := h
      refine ⟨y20, zy20, ?_⟩
      have h := CR_putf h rfl
      have h : MR X ρ 3 0 0 qP243 N 73 [a0, a1, m a0 9] [] (mu y20 a0 44 (f268 m11 a0 (s32 (50 + a1)) 0 (m11 a0 13) (m a0 9))) o := h
      obtain ⟨y21, zy21, h⟩ : ∃ y, y = mu y20 a0 44 (f268 m11 a0 (s32 (50 + a1)) 0 (m11 a0 13) (m a0 9)) ∧ MR X ρ 3 0 0 qP243 N 73 [a0, a1, m a0 9] [] y o := ⟨_, rfl, h⟩
      have h : MR X ρ 3 0 0 qP243 N 73 [a0, a1, m a0 9] [] y21 o := h
      refine ⟨y21, zy21, ?_⟩
      have h := CR_iconst h rfl rfl
      have h : MR X ρ 3 0 0 qP243 N 74 [a0, a1, m a0 9] [(1, 1)] y21 o := h
      exact CR_end h rfl rfl
    ·
      have c14 : v13 = 0 := Decidable.of_not_not (show ¬ ¬ (v13 = 0) from c14)
      refine Or.inl ⟨c14, ?_⟩
      have h : MR X ρ 3 0 0 qP243 N 53 [a0, a1, m a0 9] [] m11 o := h
      have h := CR_iconst h rfl rfl
      have h : MR X ρ 3 0 0 qP243 N 54 [a0, a1, m a0 9] [(1, 0)] m11 o := h
      exact CR_end h rfl rfl
  ·
    have c6 : (f215 m a0 60) = 0 := Decidable.of_not_not (show ¬ ¬ ((f215 m a0 60) = 0) from c6)
    refine Or.inl ⟨c6, ?_⟩
    have h : MR X ρ 3 0 0 qP243 N 9 [a0, a1, 0] [] m o := h
    have h := CR_aload_n h rfl
    have h : MR X ρ 3 0 0 qP243 N 10 [a0, a1, 0] [(1, a0)] m o := h
    have h := CR_bipush h rfl rfl
    have h : MR X ρ 3 0 0 qP243 N 12 [a0, a1, 0] [(1, 61), (1, a0)] m o := h
    obtain ⟨r22, m23, q24, h⟩ := MR_invV h rfl rfl
    have q24 : Run X ρ 215 [(1, a0), (1, 61)] m r22 m23 := q24
    obtain ⟨e25, e26⟩ := d215 q24
    rw [e25, e26] at h
    have h : MR X ρ 3 0 0 qP243 N 15 [a0, a1, 0] [(1, f215 m a0 61)] m o := h
    rcases MR_if h rfl rfl with ⟨c27, h⟩ | ⟨c27, h⟩
    ·
      have c27 : ¬ ((f215 m a0 61) = 0) := c27
      refine Or.inr ⟨c27, ?_⟩
      have h : MR X ρ 3 0 0 qP243 N 33 [a0, a1, 0] [] m o := h
      have h := CR_aload_n h rfl
      have h : MR X ρ 3 0 0 qP243 N 34 [a0, a1, 0] [(1, a0)] m o := h
      have h := CR_getf h rfl (by decide)
      have h : MR X ρ 3 0 0 qP243 N 37 [a0, a1, 0] [(1, m a0 9)] m o := h
      have h := CR_istore_n h rfl (Nat.le_of_ble_eq_true rfl)
      have h : MR X ρ 3 0 0 qP243 N 38 [a0, a1, m a0 9] [] m o := h
      have h := CR_aload_n h rfl
      have h : MR X ρ 3 0 0 qP243 N 39 [a0, a1, m a0 9] [(1, a0)] m o := h
      obtain ⟨r28, m29, q30, h⟩ := MR_invV h rfl rfl
      have q30 : Run X ρ 195 [(1, a0)] m r28 m29 := q30
      obtain rfl := Run_v q30 rfl
      have h : MR X ρ 3 0 0 qP243 N 42 [a0, a1, m a0 9] [] m29 o := h
      refine ⟨m29, q30, ?_⟩
      have h := CR_aload_n h rfl
      have h : MR X ρ 3 0 0 qP243 N 43 [a0, a1, m a0 9] [(1, a0)] m29 o := h
      have h := CR_iconst h rfl rfl
      have h : MR X ρ 3 0 0 qP243 N 44 [a0, a1, m a0 9] [(1, 0), (1, a0)] m29 o := h
      have h := CR_sipush h rfl rfl
      have h : MR X ρ 3 0 0 qP243 N 47 [a0, a1, m a0 9] [(1, 999), (1, 0), (1, a0)] m29 o := h
      obtain ⟨r31, m32, q33, h⟩ := MR_invV h rfl rfl
      have q33 : Run X ρ 254 [(1, a0), (1, 0), (1, 999)] m29 r31 m32 := q33
      obtain ⟨v34, rfl, zv34⟩ := Run_z q33 rfl
      have h : MR X ρ 3 0 0 qP243 N 50 [a0, a1, m a0 9] [(1, v34)] m32 o := h
      refine ⟨v34, m32, q33, zv34, ?_⟩
      rcases MR_if h rfl rfl with ⟨c35, h⟩ | ⟨c35, h⟩
      ·
        have c35 : ¬ (v34 = 0) := c35
        refine Or.inr ⟨c35, ?_⟩
        have h : MR X ρ 3 0 0 qP243 N 55 [a0, a1, m a0 9] [] m32 o := h
        have h := CR_aload_n h rfl
        have h : MR X ρ 3 0 0 qP243 N 56 [a0, a1, m a0 9] [(1, a0)] m32 o := h
        have h := CR_aload_n h rfl
        have h : MR X ρ 3 0 0 qP243 N 57 [a0, a1, m a0 9] [(1, a0), (1, a0)] m32 o := h
        have h := CR_bipush h rfl rfl
        have h : MR X ρ 3 0 0 qP243 N 59 [a0, a1, m a0 9] [(1, 50), (1, a0), (1, a0)] m32 o := h
        have h := CR_iload_n h rfl
        have h : MR X ρ 3 0 0 qP243 N 60 [a0, a1, m a0 9] [(1, a1), (1, 50), (1, a0), (1, a0)] m32 o := h
        have h := CR_iadd h rfl
        have h : MR X ρ 3 0 0 qP243 N 61 [a0, a1, m a0 9] [(1, s32 (50 + a1)), (1, a0), (1, a0)] m32 o := h
        have h := CR_iconst h rfl rfl
        have h : MR X ρ 3 0 0 qP243 N 62 [a0, a1, m a0 9] [(1, 0), (1, s32 (50 + a1)), (1, a0), (1, a0)] m32 o := h
        have h := CR_aload_n h rfl
        have h : MR X ρ 3 0 0 qP243 N 63 [a0, a1, m a0 9] [(1, a0), (1, 0), (1, s32 (50 + a1)), (1, a0), (1, a0)] m32 o := h
        have h := CR_getf h rfl (by decide)
        have h : MR X ρ 3 0 0 qP243 N 66 [a0, a1, m a0 9] [(1, m32 a0 13), (1, 0), (1, s32 (50 + a1)), (1, a0), (1, a0)] m32 o := h
        have h := CR_iload_n h rfl
        have h : MR X ρ 3 0 0 qP243 N 67 [a0, a1, m a0 9] [(1, m a0 9), (1, m32 a0 13), (1, 0), (1, s32 (50 + a1)), (1, a0), (1, a0)] m32 o := h
        obtain ⟨r36, m37, q38, h⟩ := MR_invV h rfl rfl
        have q38 : Run X ρ 268 [(1, a0), (1, s32 (50 + a1)), (1, 0), (1, m32 a0 13), (1, m a0 9)] m32 r36 m37 := q38
        obtain ⟨e39, e40⟩ := d268 q38
        rw [e39, e40] at h
        have h : MR X ρ 3 0 0 qP243 N 70 [a0, a1, m a0 9] [(1, f268 m32 a0 (s32 (50 + a1)) 0 (m32 a0 13) (m a0 9)), (1, a0)] (g268 m32 a0 (s32 (50 + a1)) 0 (m32 a0 13) (m a0 9)) o := h
        obtain ⟨y41, zy41, h⟩ : ∃ y, y = g268 m32 a0 (s32 (50 + a1)) 0 (m32 a0 13) (m a0 9) ∧ MR X ρ 3 0 0 qP243 N 70 [a0, a1, m a0 9] [(1, f268 m32 a0 (s32 (50 + a1)) 0 (m32 a0 13) (m a0 9)), (1, a0)] y o := ⟨_, rfl, h⟩
        have h : MR X ρ 3 0 0 qP243 N 70 [a0, a1, m a0 9] [(1, f268 m32 a0 (s32 (50 + a1)) 0 (m32 a0 13) (m a0 9)), (1, a0)] y41 o := h
        refine ⟨y41, zy41, ?_⟩
        have h := CR_putf h rfl
        have h : MR X ρ 3 0 0 qP243 N 73 [a0, a1, m a0 9] [] (mu y41 a0 44 (f268 m32 a0 (s32 (50 + a1)) 0 (m32 a0 13) (m a0 9))) o := h
        obtain ⟨y42, zy42, h⟩ : ∃ y, y = mu y41 a0 44 (f268 m32 a0 (s32 (50 + a1)) 0 (m32 a0 13) (m a0 9)) ∧ MR X ρ 3 0 0 qP243 N 73 [a0, a1, m a0 9] [] y o := ⟨_, rfl, h⟩
        have h : MR X ρ 3 0 0 qP243 N 73 [a0, a1, m a0 9] [] y42 o := h
        refine ⟨y42, zy42, ?_⟩
        have h := CR_iconst h rfl rfl
        have h : MR X ρ 3 0 0 qP243 N 74 [a0, a1, m a0 9] [(1, 1)] y42 o := h
        exact CR_end h rfl rfl
      ·
        have c35 : v34 = 0 := Decidable.of_not_not (show ¬ ¬ (v34 = 0) from c35)
        refine Or.inl ⟨c35, ?_⟩
        have h : MR X ρ 3 0 0 qP243 N 53 [a0, a1, m a0 9] [] m32 o := h
        have h := CR_iconst h rfl rfl
        have h : MR X ρ 3 0 0 qP243 N 54 [a0, a1, m a0 9] [(1, 0)] m32 o := h
        exact CR_end h rfl rfl
    ·
      have c27 : (f215 m a0 61) = 0 := Decidable.of_not_not (show ¬ ¬ ((f215 m a0 61) = 0) from c27)
      refine Or.inl ⟨c27, ?_⟩
      have h : MR X ρ 3 0 0 qP243 N 18 [a0, a1, 0] [] m o := h
      have h := CR_aload_n h rfl
      have h : MR X ρ 3 0 0 qP243 N 19 [a0, a1, 0] [(1, a0)] m o := h
      have h := CR_bipush h rfl rfl
      have h : MR X ρ 3 0 0 qP243 N 21 [a0, a1, 0] [(1, 62), (1, a0)] m o := h
      obtain ⟨r43, m44, q45, h⟩ := MR_invV h rfl rfl
      have q45 : Run X ρ 215 [(1, a0), (1, 62)] m r43 m44 := q45
      obtain ⟨e46, e47⟩ := d215 q45
      rw [e46, e47] at h
      have h : MR X ρ 3 0 0 qP243 N 24 [a0, a1, 0] [(1, f215 m a0 62)] m o := h
      rcases MR_if h rfl rfl with ⟨c48, h⟩ | ⟨c48, h⟩
      ·
        have c48 : ¬ ((f215 m a0 62) = 0) := c48
        refine Or.inr ⟨c48, ?_⟩
        have h : MR X ρ 3 0 0 qP243 N 33 [a0, a1, 0] [] m o := h
        have h := CR_aload_n h rfl
        have h : MR X ρ 3 0 0 qP243 N 34 [a0, a1, 0] [(1, a0)] m o := h
        have h := CR_getf h rfl (by decide)
        have h : MR X ρ 3 0 0 qP243 N 37 [a0, a1, 0] [(1, m a0 9)] m o := h
        have h := CR_istore_n h rfl (Nat.le_of_ble_eq_true rfl)
        have h : MR X ρ 3 0 0 qP243 N 38 [a0, a1, m a0 9] [] m o := h
        have h := CR_aload_n h rfl
        have h : MR X ρ 3 0 0 qP243 N 39 [a0, a1, m a0 9] [(1, a0)] m o := h
        obtain ⟨r49, m50, q51, h⟩ := MR_invV h rfl rfl
        have q51 : Run X ρ 195 [(1, a0)] m r49 m50 := q51
        obtain rfl := Run_v q51 rfl
        have h : MR X ρ 3 0 0 qP243 N 42 [a0, a1, m a0 9] [] m50 o := h
        refine ⟨m50, q51, ?_⟩
        have h := CR_aload_n h rfl
        have h : MR X ρ 3 0 0 qP243 N 43 [a0, a1, m a0 9] [(1, a0)] m50 o := h
        have h := CR_iconst h rfl rfl
        have h : MR X ρ 3 0 0 qP243 N 44 [a0, a1, m a0 9] [(1, 0), (1, a0)] m50 o := h
        have h := CR_sipush h rfl rfl
        have h : MR X ρ 3 0 0 qP243 N 47 [a0, a1, m a0 9] [(1, 999), (1, 0), (1, a0)] m50 o := h
        obtain ⟨r52, m53, q54, h⟩ := MR_invV h rfl rfl
        have q54 : Run X ρ 254 [(1, a0), (1, 0), (1, 999)] m50 r52 m53 := q54
        obtain ⟨v55, rfl, zv55⟩ := Run_z q54 rfl
        have h : MR X ρ 3 0 0 qP243 N 50 [a0, a1, m a0 9] [(1, v55)] m53 o := h
        refine ⟨v55, m53, q54, zv55, ?_⟩
        rcases MR_if h rfl rfl with ⟨c56, h⟩ | ⟨c56, h⟩
        ·
          have c56 : ¬ (v55 = 0) := c56
          refine Or.inr ⟨c56, ?_⟩
          have h : MR X ρ 3 0 0 qP243 N 55 [a0, a1, m a0 9] [] m53 o := h
          have h := CR_aload_n h rfl
          have h : MR X ρ 3 0 0 qP243 N 56 [a0, a1, m a0 9] [(1, a0)] m53 o := h
          have h := CR_aload_n h rfl
          have h : MR X ρ 3 0 0 qP243 N 57 [a0, a1, m a0 9] [(1, a0), (1, a0)] m53 o := h
          have h := CR_bipush h rfl rfl
          have h : MR X ρ 3 0 0 qP243 N 59 [a0, a1, m a0 9] [(1, 50), (1, a0), (1, a0)] m53 o := h
          have h := CR_iload_n h rfl
          have h : MR X ρ 3 0 0 qP243 N 60 [a0, a1, m a0 9] [(1, a1), (1, 50), (1, a0), (1, a0)] m53 o := h
          have h := CR_iadd h rfl
          have h : MR X ρ 3 0 0 qP243 N 61 [a0, a1, m a0 9] [(1, s32 (50 + a1)), (1, a0), (1, a0)] m53 o := h
          have h := CR_iconst h rfl rfl
          have h : MR X ρ 3 0 0 qP243 N 62 [a0, a1, m a0 9] [(1, 0), (1, s32 (50 + a1)), (1, a0), (1, a0)] m53 o := h
          have h := CR_aload_n h rfl
          have h : MR X ρ 3 0 0 qP243 N 63 [a0, a1, m a0 9] [(1, a0), (1, 0), (1, s32 (50 + a1)), (1, a0), (1, a0)] m53 o := h
          have h := CR_getf h rfl (by decide)
          have h : MR X ρ 3 0 0 qP243 N 66 [a0, a1, m a0 9] [(1, m53 a0 13), (1, 0), (1, s32 (50 + a1)), (1, a0), (1, a0)] m53 o := h
          have h := CR_iload_n h rfl
          have h : MR X ρ 3 0 0 qP243 N 67 [a0, a1, m a0 9] [(1, m a0 9), (1, m53 a0 13), (1, 0), (1, s32 (50 + a1)), (1, a0), (1, a0)] m53 o := h
          obtain ⟨r57, m58, q59, h⟩ := MR_invV h rfl rfl
          have q59 : Run X ρ 268 [(1, a0), (1, s32 (50 + a1)), (1, 0), (1, m53 a0 13), (1, m a0 9)] m53 r57 m58 := q59
          obtain ⟨e60, e61⟩ := d268 q59
          rw [e60, e61] at h
          have h : MR X ρ 3 0 0 qP243 N 70 [a0, a1, m a0 9] [(1, f268 m53 a0 (s32 (50 + a1)) 0 (m53 a0 13) (m a0 9)), (1, a0)] (g268 m53 a0 (s32 (50 + a1)) 0 (m53 a0 13) (m a0 9)) o := h
          obtain ⟨y62, zy62, h⟩ : ∃ y, y = g268 m53 a0 (s32 (50 + a1)) 0 (m53 a0 13) (m a0 9) ∧ MR X ρ 3 0 0 qP243 N 70 [a0, a1, m a0 9] [(1, f268 m53 a0 (s32 (50 + a1)) 0 (m53 a0 13) (m a0 9)), (1, a0)] y o := ⟨_, rfl, h⟩
          have h : MR X ρ 3 0 0 qP243 N 70 [a0, a1, m a0 9] [(1, f268 m53 a0 (s32 (50 + a1)) 0 (m53 a0 13) (m a0 9)), (1, a0)] y62 o := h
          refine ⟨y62, zy62, ?_⟩
          have h := CR_putf h rfl
          have h : MR X ρ 3 0 0 qP243 N 73 [a0, a1, m a0 9] [] (mu y62 a0 44 (f268 m53 a0 (s32 (50 + a1)) 0 (m53 a0 13) (m a0 9))) o := h
          obtain ⟨y63, zy63, h⟩ : ∃ y, y = mu y62 a0 44 (f268 m53 a0 (s32 (50 + a1)) 0 (m53 a0 13) (m a0 9)) ∧ MR X ρ 3 0 0 qP243 N 73 [a0, a1, m a0 9] [] y o := ⟨_, rfl, h⟩
          have h : MR X ρ 3 0 0 qP243 N 73 [a0, a1, m a0 9] [] y63 o := h
          refine ⟨y63, zy63, ?_⟩
          have h := CR_iconst h rfl rfl
          have h : MR X ρ 3 0 0 qP243 N 74 [a0, a1, m a0 9] [(1, 1)] y63 o := h
          exact CR_end h rfl rfl
        ·
          have c56 : v55 = 0 := Decidable.of_not_not (show ¬ ¬ (v55 = 0) from c56)
          refine Or.inl ⟨c56, ?_⟩
          have h : MR X ρ 3 0 0 qP243 N 53 [a0, a1, m a0 9] [] m53 o := h
          have h := CR_iconst h rfl rfl
          have h : MR X ρ 3 0 0 qP243 N 54 [a0, a1, m a0 9] [(1, 0)] m53 o := h
          exact CR_end h rfl rfl
      ·
        have c48 : (f215 m a0 62) = 0 := Decidable.of_not_not (show ¬ ¬ ((f215 m a0 62) = 0) from c48)
        refine Or.inl ⟨c48, ?_⟩
        have h : MR X ρ 3 0 0 qP243 N 27 [a0, a1, 0] [] m o := h
        have h := CR_aload_n h rfl
        have h : MR X ρ 3 0 0 qP243 N 28 [a0, a1, 0] [(1, a0)] m o := h
        have h := CR_iconst h rfl rfl
        have h : MR X ρ 3 0 0 qP243 N 29 [a0, a1, 0] [(1, 1), (1, a0)] m o := h
        obtain ⟨r64, m65, q66, h⟩ := MR_invV h rfl rfl
        have q66 : Run X ρ 168 [(1, a0), (1, 1)] m r64 m65 := q66
        obtain ⟨e67, e68⟩ := d168 q66
        rw [e67, e68] at h
        have h : MR X ρ 3 0 0 qP243 N 32 [a0, a1, 0] [(1, f168 m a0 1)] (g168 m a0 1) o := h
        obtain ⟨y69, zy69, h⟩ : ∃ y, y = g168 m a0 1 ∧ MR X ρ 3 0 0 qP243 N 32 [a0, a1, 0] [(1, f168 m a0 1)] y o := ⟨_, rfl, h⟩
        have h : MR X ρ 3 0 0 qP243 N 32 [a0, a1, 0] [(1, f168 m a0 1)] y69 o := h
        refine ⟨y69, zy69, ?_⟩
        exact CR_end h rfl rfl
