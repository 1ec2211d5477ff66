set_option maxRecDepth 16384 in
/-- TriplicateFormsModel.hurtFree(I)I, the loop at 4 -/
noncomputable def S203_4 (m : MM) (b0 b1 b2 b3 : Int) : (Int × Int) ⊕ (Nat × Int × (Int × Int)) := (if (m (m b0 14) 0) ≤ b3 then .inr (1, 0, (b2, b3)) else (if b2 = (-1) then (if (f198 m b0 b3 (m (m b0 14) (s32 (76 + b1)))) ≤ 0 then .inl (b2, s32 (b3 + 1)) else .inl (b3, s32 (b3 + 1))) else (if (f198 m b0 b3 (m (m b0 14) (s32 (76 + b1)))) ≤ (f198 m b0 b2 (m (m b0 14) (s32 (76 + b1)))) then .inl (b2, s32 (b3 + 1)) else .inl (b3, s32 (b3 + 1)))))
set_option maxRecDepth 16384 in
noncomputable def K203_4 (m : MM) (b0 b1 b2 b3 : Int) : (Int × Int) → (Int × Int) ⊕ (Nat × Int × (Int × Int)) := fun s => S203_4 m b0 b1 s.1 s.2
set_option maxRecDepth 16384 in
noncomputable def L203_4 (m : MM) (b0 b1 b2 b3 : Int) : (Nat × Int × (Int × Int)) := Lp (K203_4 m b0 b1 b2 b3) (b2, b3)
set_option maxRecDepth 16384 in
theorem l203_4 {X : KO} {ρ : Nat → Int32} {o : Instr × List (Nat × Int) × MM} {K : Nat} : ∀ {N : Nat} {m : MM} {b0 b1 b2 b3 : Int}, N ≤ K → MR X ρ 4 0 0 qP203 N 4 [b0, b1, b2, b3] [] m o → (MR X ρ 4 0 0 qP203 K 62 [b0, b1, (L203_4 m b0 b1 b2 b3).2.2.1, (L203_4 m b0 b1 b2 b3).2.2.2] [] m o) := by
  intro N
  induction N using Nat.strongRecOn with
  | ind N ih =>
  intro m b0 b1 b2 b3 hK h
  have h := CR_iload_n h rfl
  have h : MR X ρ 4 0 0 qP203 N 5 [b0, b1, b2, b3] [(1, b3)] m o := h
  have h := CR_aload_n h rfl
  have h : MR X ρ 4 0 0 qP203 N 6 [b0, b1, b2, b3] [(1, b0), (1, b3)] m o := h
  have h := CR_getf h rfl (by decide)
  have h : MR X ρ 4 0 0 qP203 N 9 [b0, b1, b2, b3] [(1, m b0 14), (1, b3)] m o := h
  have h := CR_iconst h rfl rfl
  have h : MR X ρ 4 0 0 qP203 N 10 [b0, b1, b2, b3] [(1, 0), (1, m b0 14), (1, b3)] m o := h
  have h := CR_iaload h rfl rfl
  have h : MR X ρ 4 0 0 qP203 N 11 [b0, b1, b2, b3] [(1, m (m b0 14) 0), (1, b3)] m o := h
  rcases MR_icmp h rfl rfl with ⟨c1, h⟩ | ⟨c1, h⟩
  ·
    have c1 : (m (m b0 14) 0) ≤ b3 := c1
    have h : MR X ρ 4 0 0 qP203 N 62 [b0, b1, b2, b3] [] m o := h
    have hr : L203_4 m b0 b1 b2 b3 = (1, 0, (b2, b3)) := Lp_inr (f := K203_4 m b0 b1 b2 b3) (s := (b2, b3)) ((if_pos c1).trans (rfl))
    rw [hr]
    exact CR_le (by omega) h
  ·
    have c1 : ¬ ((m (m b0 14) 0) ≤ b3) := c1
    have h : MR X ρ 4 0 0 qP203 N 14 [b0, b1, b2, b3] [] m o := h
    have h := CR_aload_n h rfl
    have h : MR X ρ 4 0 0 qP203 N 15 [b0, b1, b2, b3] [(1, b0)] m o := h
    have h := CR_iload_n h rfl
    have h : MR X ρ 4 0 0 qP203 N 16 [b0, b1, b2, b3] [(1, b3), (1, b0)] m o := h
    have h := CR_aload_n h rfl
    have h : MR X ρ 4 0 0 qP203 N 17 [b0, b1, b2, b3] [(1, b0), (1, b3), (1, b0)] m o := h
    have h := CR_getf h rfl (by decide)
    have h : MR X ρ 4 0 0 qP203 N 20 [b0, b1, b2, b3] [(1, m b0 14), (1, b3), (1, b0)] m o := h
    have h := CR_bipush h rfl rfl
    have h : MR X ρ 4 0 0 qP203 N 22 [b0, b1, b2, b3] [(1, 76), (1, m b0 14), (1, b3), (1, b0)] m o := h
    have h := CR_iload_n h rfl
    have h : MR X ρ 4 0 0 qP203 N 23 [b0, b1, b2, b3] [(1, b1), (1, 76), (1, m b0 14), (1, b3), (1, b0)] m o := h
    have h := CR_iadd h rfl
    have h : MR X ρ 4 0 0 qP203 N 24 [b0, b1, b2, b3] [(1, s32 (76 + b1)), (1, m b0 14), (1, b3), (1, b0)] m o := h
    have h := CR_iaload h rfl rfl
    have h : MR X ρ 4 0 0 qP203 N 25 [b0, b1, b2, b3] [(1, m (m b0 14) (s32 (76 + b1))), (1, b3), (1, b0)] m o := h
    obtain ⟨r2, m3, q4, h⟩ := MR_invV h rfl rfl
    have q4 : Run X ρ 198 [(1, b0), (1, b3), (1, m (m b0 14) (s32 (76 + b1)))] m r2 m3 := q4
    obtain ⟨e5, e6⟩ := d198 q4
    rw [e5, e6] at h
    have h : MR X ρ 4 0 0 qP203 N 28 [b0, b1, b2, b3] [(1, f198 m b0 b3 (m (m b0 14) (s32 (76 + b1))))] m o := h
    have h := CR_iload_n h rfl
    have h : MR X ρ 4 0 0 qP203 N 29 [b0, b1, b2, b3] [(1, b2), (1, f198 m b0 b3 (m (m b0 14) (s32 (76 + b1))))] m o := h
    have h := CR_iconst h rfl rfl
    have h : MR X ρ 4 0 0 qP203 N 30 [b0, b1, b2, b3] [(1, -1), (1, b2), (1, f198 m b0 b3 (m (m b0 14) (s32 (76 + b1))))] m o := h
    rcases MR_icmp h rfl rfl with ⟨c7, h⟩ | ⟨c7, h⟩
    ·
      have c7 : ¬ (b2 = (-1)) := c7
      have h : MR X ρ 4 0 0 qP203 N 37 [b0, b1, b2, b3] [(1, f198 m b0 b3 (m (m b0 14) (s32 (76 + b1))))] m o := h
      have h := CR_aload_n h rfl
      have h : MR X ρ 4 0 0 qP203 N 38 [b0, b1, b2, b3] [(1, b0), (1, f198 m b0 b3 (m (m b0 14) (s32 (76 + b1))))] m o := h
      have h := CR_iload_n h rfl
      have h : MR X ρ 4 0 0 qP203 N 39 [b0, b1, b2, b3] [(1, b2), (1, b0), (1, f198 m b0 b3 (m (m b0 14) (s32 (76 + b1))))] m o := h
      have h := CR_aload_n h rfl
      have h : MR X ρ 4 0 0 qP203 N 40 [b0, b1, b2, b3] [(1, b0), (1, b2), (1, b0), (1, f198 m b0 b3 (m (m b0 14) (s32 (76 + b1))))] m o := h
      have h := CR_getf h rfl (by decide)
      have h : MR X ρ 4 0 0 qP203 N 43 [b0, b1, b2, b3] [(1, m b0 14), (1, b2), (1, b0), (1, f198 m b0 b3 (m (m b0 14) (s32 (76 + b1))))] m o := h
      have h := CR_bipush h rfl rfl
      have h : MR X ρ 4 0 0 qP203 N 45 [b0, b1, b2, b3] [(1, 76), (1, m b0 14), (1, b2), (1, b0), (1, f198 m b0 b3 (m (m b0 14) (s32 (76 + b1))))] m o := h
      have h := CR_iload_n h rfl
      have h : MR X ρ 4 0 0 qP203 N 46 [b0, b1, b2, b3] [(1, b1), (1, 76), (1, m b0 14), (1, b2), (1, b0), (1, f198 m b0 b3 (m (m b0 14) (s32 (76 + b1))))] m o := h
      have h := CR_iadd h rfl
      have h : MR X ρ 4 0 0 qP203 N 47 [b0, b1, b2, b3] [(1, s32 (76 + b1)), (1, m b0 14), (1, b2), (1, b0), (1, f198 m b0 b3 (m (m b0 14) (s32 (76 + b1))))] m o := h
      have h := CR_iaload h rfl rfl
      have h : MR X ρ 4 0 0 qP203 N 48 [b0, b1, b2, b3] [(1, m (m b0 14) (s32 (76 + b1))), (1, b2), (1, b0), (1, f198 m b0 b3 (m (m b0 14) (s32 (76 + b1))))] m o := h
      obtain ⟨r8, m9, q10, h⟩ := MR_invV h rfl rfl
      have q10 : Run X ρ 198 [(1, b0), (1, b2), (1, m (m b0 14) (s32 (76 + b1)))] m r8 m9 := q10
      obtain ⟨e11, e12⟩ := d198 q10
      rw [e11, e12] at h
      have h : MR X ρ 4 0 0 qP203 N 51 [b0, b1, b2, b3] [(1, f198 m b0 b2 (m (m b0 14) (s32 (76 + b1)))), (1, f198 m b0 b3 (m (m b0 14) (s32 (76 + b1))))] m o := h
      rcases MR_icmp h rfl rfl with ⟨c13, h⟩ | ⟨c13, h⟩
      ·
        have c13 : (f198 m b0 b3 (m (m b0 14) (s32 (76 + b1)))) ≤ (f198 m b0 b2 (m (m b0 14) (s32 (76 + b1)))) := c13
        have h : MR X ρ 4 0 0 qP203 N 56 [b0, b1, b2, b3] [] m o := h
        have h := CR_inc h rfl (Nat.le_of_ble_eq_true rfl)
        have h : MR X ρ 4 0 0 qP203 N 59 [b0, b1, b2, s32 (b3 + 1)] [] m o := h
        obtain ⟨N14, eN14, h⟩ := CR_goto h rfl rfl
        have h : MR X ρ 4 0 0 qP203 N14 4 [b0, b1, b2, s32 (b3 + 1)] [] m o := h
        have hr : L203_4 m b0 b1 b2 b3 = L203_4 m b0 b1 b2 (s32 (b3 + 1)) := Lp_inl (f := K203_4 m b0 b1 b2 b3) (s := (b2, b3)) (s' := (b2, s32 (b3 + 1))) ((if_neg c1).trans ((if_neg c7).trans ((if_pos c13).trans (rfl))))
        rw [hr]
        exact ih N14 (by omega) (by omega) h
      ·
        have c13 : ¬ ((f198 m b0 b3 (m (m b0 14) (s32 (76 + b1)))) ≤ (f198 m b0 b2 (m (m b0 14) (s32 (76 + b1))))) := c13
        have h : MR X ρ 4 0 0 qP203 N 54 [b0, b1, b2, b3] [] m o := h
        have h := CR_iload_n h rfl
        have h : MR X ρ 4 0 0 qP203 N 55 [b0, b1, b2, b3] [(1, b3)] m o := h
        have h := CR_istore_n h rfl (Nat.le_of_ble_eq_true rfl)
        have h : MR X ρ 4 0 0 qP203 N 56 [b0, b1, b3, b3] [] m o := h
        have h := CR_inc h rfl (Nat.le_of_ble_eq_true rfl)
        have h : MR X ρ 4 0 0 qP203 N 59 [b0, b1, b3, s32 (b3 + 1)] [] m o := h
        obtain ⟨N15, eN15, h⟩ := CR_goto h rfl rfl
        have h : MR X ρ 4 0 0 qP203 N15 4 [b0, b1, b3, s32 (b3 + 1)] [] m o := h
        have hr : L203_4 m b0 b1 b2 b3 = L203_4 m b0 b1 b3 (s32 (b3 + 1)) := Lp_inl (f := K203_4 m b0 b1 b2 b3) (s := (b2, b3)) (s' := (b3, s32 (b3 + 1))) ((if_neg c1).trans ((if_neg c7).trans ((if_neg c13).trans (rfl))))
        rw [hr]
        exact ih N15 (by omega) (by omega) h
    ·
      have c7 : b2 = (-1) := Decidable.of_not_not (show ¬ ¬ (b2 = (-1)) from c7)
      have h : MR X ρ 4 0 0 qP203 N 33 [b0, b1, b2, b3] [(1, f198 m b0 b3 (m (m b0 14) (s32 (76 + b1))))] m o := h
      have h := CR_iconst h rfl rfl
      have h : MR X ρ 4 0 0 qP203 N 34 [b0, b1, b2, b3] [(1, 0), (1, f198 m b0 b3 (m (m b0 14) (s32 (76 + b1))))] m o := h
      have h := CR_go h rfl rfl
      have h : MR X ρ 4 0 0 qP203 N 51 [b0, b1, b2, b3] [(1, 0), (1, f198 m b0 b3 (m (m b0 14) (s32 (76 + b1))))] m o := h
      rcases MR_icmp h rfl rfl with ⟨c16, h⟩ | ⟨c16, h⟩
      ·
        have c16 : (f198 m b0 b3 (m (m b0 14) (s32 (76 + b1)))) ≤ 0 := c16
        have h : MR X ρ 4 0 0 qP203 N 56 [b0, b1, b2, b3] [] m o := h
        have h := CR_inc h rfl (Nat.le_of_ble_eq_true rfl)
        have h : MR X ρ 4 0 0 qP203 N 59 [b0, b1, b2, s32 (b3 + 1)] [] m o := h
        obtain ⟨N17, eN17, h⟩ := CR_goto h rfl rfl
        have h : MR X ρ 4 0 0 qP203 N17 4 [b0, b1, b2, s32 (b3 + 1)] [] m o := h
        have hr : L203_4 m b0 b1 b2 b3 = L203_4 m b0 b1 b2 (s32 (b3 + 1)) := Lp_inl (f := K203_4 m b0 b1 b2 b3) (s := (b2, b3)) (s' := (b2, s32 (b3 + 1))) ((if_neg c1).trans ((if_pos c7).trans ((if_pos c16).trans (rfl))))
        rw [hr]
        exact ih N17 (by omega) (by omega) h
      ·
        have c16 : ¬ ((f198 m b0 b3 (m (m b0 14) (s32 (76 + b1)))) ≤ 0) := c16
        have h : MR X ρ 4 0 0 qP203 N 54 [b0, b1, b2, b3] [] m o := h
        have h := CR_iload_n h rfl
        have h : MR X ρ 4 0 0 qP203 N 55 [b0, b1, b2, b3] [(1, b3)] m o := h
        have h := CR_istore_n h rfl (Nat.le_of_ble_eq_true rfl)
        have h : MR X ρ 4 0 0 qP203 N 56 [b0, b1, b3, b3] [] m o := h
        have h := CR_inc h rfl (Nat.le_of_ble_eq_true rfl)
        have h : MR X ρ 4 0 0 qP203 N 59 [b0, b1, b3, s32 (b3 + 1)] [] m o := h
        obtain ⟨N18, eN18, h⟩ := CR_goto h rfl rfl
        have h : MR X ρ 4 0 0 qP203 N18 4 [b0, b1, b3, s32 (b3 + 1)] [] m o := h
        have hr : L203_4 m b0 b1 b2 b3 = L203_4 m b0 b1 b3 (s32 (b3 + 1)) := Lp_inl (f := K203_4 m b0 b1 b2 b3) (s := (b2, b3)) (s' := (b3, s32 (b3 + 1))) ((if_neg c1).trans ((if_pos c7).trans ((if_neg c16).trans (rfl))))
        rw [hr]
        exact ih N18 (by omega) (by omega) h
set_option maxRecDepth 16384 in
/-- TriplicateFormsModel.hurtFree(I)I -/
noncomputable def f203 (m : MM) (a0 a1 : Int) : Int := (L203_4 m a0 a1 (-1) 0).2.2.1
set_option maxRecDepth 16384 in
theorem d203 {X : KO} {ρ : Nat → Int32} {m m' : MM} {rl : List (Nat × Int)} {a0 a1 : Int} (h : Run X ρ 203 [(1, a0), (1, a1)] m rl m') : rl = [(1, f203 m a0 a1)] ∧ m' = m := by
  obtain ⟨N, ig, h⟩ := Run_CR h rfl
  have h : MR X ρ 4 0 0 qP203 N 0 [a0, a1, 0, 0] [] m (ig, rl, m') := h
  have h := CR_iconst h rfl rfl
  have h : MR X ρ 4 0 0 qP203 N 1 [a0, a1, 0, 0] [(1, -1)] m (ig, rl, m') := h
  have h := CR_istore_n h rfl (Nat.le_of_ble_eq_true rfl)
  have h : MR X ρ 4 0 0 qP203 N 2 [a0, a1, -1, 0] [] m (ig, rl, m') := h
  have h := CR_iconst h rfl rfl
  have h : MR X ρ 4 0 0 qP203 N 3 [a0, a1, -1, 0] [(1, 0)] m (ig, rl, m') := h
  have h := CR_istore_n h rfl (Nat.le_of_ble_eq_true rfl)
  have h : MR X ρ 4 0 0 qP203 N 4 [a0, a1, -1, 0] [] m (ig, rl, m') := h
  have h := l203_4 (Nat.le_refl _) h
  have h : MR X ρ 4 0 0 qP203 N 62 [a0, a1, (L203_4 m a0 a1 (-1) 0).2.2.1, (L203_4 m a0 a1 (-1) 0).2.2.2] [] m (ig, rl, m') := h
  have h := CR_iload_n h rfl
  have h : MR X ρ 4 0 0 qP203 N 63 [a0, a1, (L203_4 m a0 a1 (-1) 0).2.2.1, (L203_4 m a0 a1 (-1) 0).2.2.2] [(1, (L203_4 m a0 a1 (-1) 0).2.2.1)] m (ig, rl, m') := h
  have e := CR_end h rfl rfl
  cases e
  exact ⟨congrArg (fun z => [(1, z)]) (Eq.symm (show f203 m a0 a1 = _ from rfl)), rfl⟩
set_option maxRecDepth 16384 in
/-- TriplicateFormsModel.hurtOf(I)I -/
noncomputable def f204 (m : MM) (a0 a1 : Int) : Int := (if (f273 m a0 a1 1) = (-1) then f203 m a0 a1 else f273 m a0 a1 1)
set_option maxRecDepth 16384 in
theorem d204 {X : KO} {ρ : Nat → Int32} {m m' : MM} {rl : List (Nat × Int)} {a0 a1 : Int} (h : Run X ρ 204 [(1, a0), (1, a1)] m rl m') : rl = [(1, f204 m a0 a1)] ∧ m' = m := by
  obtain ⟨N, ig, h⟩ := Run_CR h rfl
  have h : MR X ρ 2 0 0 qP204 N 0 [a0, a1] [] m (ig, rl, m') := h
  have h := CR_aload_n h rfl
  have h : MR X ρ 2 0 0 qP204 N 1 [a0, a1] [(1, a0)] m (ig, rl, m') := h
  have h := CR_iload_n h rfl
  have h : MR X ρ 2 0 0 qP204 N 2 [a0, a1] [(1, a1), (1, a0)] m (ig, rl, m') := h
  have h := CR_iconst h rfl rfl
  have h : MR X ρ 2 0 0 qP204 N 3 [a0, a1] [(1, 1), (1, a1), (1, a0)] m (ig, rl, m') := h
  obtain ⟨r1, m2, q3, h⟩ := MR_invV h rfl rfl
  have q3 : Run X ρ 273 [(1, a0), (1, a1), (1, 1)] m r1 m2 := q3
  obtain ⟨e4, e5⟩ := d273 q3
  rw [e4, e5] at h
  have h : MR X ρ 2 0 0 qP204 N 6 [a0, a1] [(1, f273 m a0 a1 1)] m (ig, rl, m') := h
  have h := CR_iconst h rfl rfl
  have h : MR X ρ 2 0 0 qP204 N 7 [a0, a1] [(1, -1), (1, f273 m a0 a1 1)] m (ig, rl, m') := h
  rcases MR_icmp h rfl rfl with ⟨c6, h⟩ | ⟨c6, h⟩
  ·
    have c6 : ¬ ((f273 m a0 a1 1) = (-1)) := c6
    have h : MR X ρ 2 0 0 qP204 N 18 [a0, a1] [] m (ig, rl, m') := h
    have h := CR_aload_n h rfl
    have h : MR X ρ 2 0 0 qP204 N 19 [a0, a1] [(1, a0)] m (ig, rl, m') := h
    have h := CR_iload_n h rfl
    have h : MR X ρ 2 0 0 qP204 N 20 [a0, a1] [(1, a1), (1, a0)] m (ig, rl, m') := h
    have h := CR_iconst h rfl rfl
    have h : MR X ρ 2 0 0 qP204 N 21 [a0, a1] [(1, 1), (1, a1), (1, a0)] m (ig, rl, m') := h
    obtain ⟨r7, m8, q9, h⟩ := MR_invV h rfl rfl
    have q9 : Run X ρ 273 [(1, a0), (1, a1), (1, 1)] m r7 m8 := q9
    obtain ⟨e10, e11⟩ := d273 q9
    rw [e10, e11] at h
    have h : MR X ρ 2 0 0 qP204 N 24 [a0, a1] [(1, f273 m a0 a1 1)] m (ig, rl, m') := h
    have e := CR_end h rfl rfl
    cases e
    exact ⟨congrArg (fun z => [(1, z)]) (Eq.symm (show f204 m a0 a1 = _ from (if_neg c6).trans (rfl))), rfl⟩
  ·
    have c6 : (f273 m a0 a1 1) = (-1) := Decidable.of_not_not (show ¬ ¬ ((f273 m a0 a1 1) = (-1)) from c6)
    have h : MR X ρ 2 0 0 qP204 N 10 [a0, a1] [] m (ig, rl, m') := h
    have h := CR_aload_n h rfl
    have h : MR X ρ 2 0 0 qP204 N 11 [a0, a1] [(1, a0)] m (ig, rl, m') := h
    have h := CR_iload_n h rfl
    have h : MR X ρ 2 0 0 qP204 N 12 [a0, a1] [(1, a1), (1, a0)] m (ig, rl, m') := h
    obtain ⟨r12, m13, q14, h⟩ := MR_invV h rfl rfl
    have q14 : Run X ρ 203 [(1, a0), (1, a1)] m r12 m13 := q14
    obtain ⟨e15, e16⟩ := d203 q14
    rw [e15, e16] at h
    have h : MR X ρ 2 0 0 qP204 N 15 [a0, a1] [(1, f203 m a0 a1)] m (ig, rl, m') := h
    have h := CR_go h rfl rfl
    have h : MR X ρ 2 0 0 qP204 N 24 [a0, a1] [(1, f203 m a0 a1)] m (ig, rl, m') := h
    have e := CR_end h rfl rfl
    cases e
    exact ⟨congrArg (fun z => [(1, z)]) (Eq.symm (show f204 m a0 a1 = _ from (if_pos c6).trans (rfl))), rfl⟩
set_option maxRecDepth 16384 in
/-- TriplicateFormsModel.image(I)Z, the loop at 51 -/
noncomputable def S205_51 (m : MM) (b0 b1 b2 : Int) : (Int × MM) ⊕ (Nat × Int × (Int × MM)) := (if 16 ≤ b2 then .inr (1, 0, (b2, m)) else .inl (s32 (b2 + 1), mu m (m b0 21) (s32 ((s32 (16 * b1)) + b2)) (m (m b0 19) b2)))
set_option maxRecDepth 16384 in
noncomputable def K205_51 (m : MM) (b0 b1 b2 : Int) : (Int × MM) → (Int × MM) ⊕ (Nat × Int × (Int × MM)) := fun s => S205_51 s.2 b0 b1 s.1
set_option maxRecDepth 16384 in
noncomputable def L205_51 (m : MM) (b0 b1 b2 : Int) : (Nat × Int × (Int × MM)) := Lp (K205_51 m b0 b1 b2) (b2, m)
set_option maxRecDepth 16384 in
theorem l205_51 {X : KO} {ρ : Nat → Int32} {o : Instr × List (Nat × Int) × MM} {K : Nat} : ∀ {N : Nat} {m : MM} {b0 b1 b2 : Int}, N ≤ K → MR X ρ 3 0 0 qP205 N 51 [b0, b1, b2] [] m o → (MR X ρ 3 0 0 qP205 K 80 [b0, b1, (L205_51 m b0 b1 b2).2.2.1] [] ((L205_51 m b0 b1 b2).2.2.2) o) := by
  intro N
  induction N using Nat.strongRecOn with
  | ind N ih =>
  intro m b0 b1 b2 hK h
  have h := CR_iload_n h rfl
  have h : MR X ρ 3 0 0 qP205 N 52 [b0, b1, b2] [(1, b2)] m o := h
  have h := CR_bipush h rfl rfl
  have h : MR X ρ 3 0 0 qP205 N 54 [b0, b1, b2] [(1, 16), (1, b2)] m o := h
  rcases MR_icmp h rfl rfl with ⟨c1, h⟩ | ⟨c1, h⟩
  ·
    have c1 : 16 ≤ b2 := c1
    have h : MR X ρ 3 0 0 qP205 N 80 [b0, b1, b2] [] m o := h
    have hr : L205_51 m b0 b1 b2 = (1, 0, (b2, m)) := Lp_inr (f := K205_51 m b0 b1 b2) (s := (b2, m)) ((if_pos c1).trans (rfl))
    rw [hr]
    exact CR_le (by omega) h
  ·
    have c1 : ¬ (16 ≤ b2) := c1
    have h : MR X ρ 3 0 0 qP205 N 57 [b0, b1, b2] [] m o := h
    have h := CR_aload_n h rfl
    have h : MR X ρ 3 0 0 qP205 N 58 [b0, b1, b2] [(1, b0)] m o := h
    have h := CR_getf h rfl (by decide)
    have h : MR X ρ 3 0 0 qP205 N 61 [b0, b1, b2] [(1, m b0 21)] m o := h
    have h := CR_bipush h rfl rfl
    have h : MR X ρ 3 0 0 qP205 N 63 [b0, b1, b2] [(1, 16), (1, m b0 21)] m o := h
    have h := CR_iload_n h rfl
    have h : MR X ρ 3 0 0 qP205 N 64 [b0, b1, b2] [(1, b1), (1, 16), (1, m b0 21)] m o := h
    have h := CR_imul h rfl
    have h : MR X ρ 3 0 0 qP205 N 65 [b0, b1, b2] [(1, s32 (16 * b1)), (1, m b0 21)] m o := h
    have h := CR_iload_n h rfl
    have h : MR X ρ 3 0 0 qP205 N 66 [b0, b1, b2] [(1, b2), (1, s32 (16 * b1)), (1, m b0 21)] m o := h
    have h := CR_iadd h rfl
    have h : MR X ρ 3 0 0 qP205 N 67 [b0, b1, b2] [(1, s32 ((s32 (16 * b1)) + b2)), (1, m b0 21)] m o := h
    have h := CR_aload_n h rfl
    have h : MR X ρ 3 0 0 qP205 N 68 [b0, b1, b2] [(1, b0), (1, s32 ((s32 (16 * b1)) + b2)), (1, m b0 21)] m o := h
    have h := CR_getf h rfl (by decide)
    have h : MR X ρ 3 0 0 qP205 N 71 [b0, b1, b2] [(1, m b0 19), (1, s32 ((s32 (16 * b1)) + b2)), (1, m b0 21)] m o := h
    have h := CR_iload_n h rfl
    have h : MR X ρ 3 0 0 qP205 N 72 [b0, b1, b2] [(1, b2), (1, m b0 19), (1, s32 ((s32 (16 * b1)) + b2)), (1, m b0 21)] m o := h
    have h := CR_lald h rfl
    have h : MR X ρ 3 0 0 qP205 N 73 [b0, b1, b2] [(2, m (m b0 19) b2), (1, s32 ((s32 (16 * b1)) + b2)), (1, m b0 21)] m o := h
    have h := CR_last h rfl
    have h : MR X ρ 3 0 0 qP205 N 74 [b0, b1, b2] [] (mu m (m b0 21) (s32 ((s32 (16 * b1)) + b2)) (m (m b0 19) b2)) o := h
    have h := CR_inc h rfl (Nat.le_of_ble_eq_true rfl)
    have h : MR X ρ 3 0 0 qP205 N 77 [b0, b1, s32 (b2 + 1)] [] (mu m (m b0 21) (s32 ((s32 (16 * b1)) + b2)) (m (m b0 19) b2)) o := h
    obtain ⟨N2, eN2, h⟩ := CR_goto h rfl rfl
    have h : MR X ρ 3 0 0 qP205 N2 51 [b0, b1, s32 (b2 + 1)] [] (mu m (m b0 21) (s32 ((s32 (16 * b1)) + b2)) (m (m b0 19) b2)) o := h
    have hr : L205_51 m b0 b1 b2 = L205_51 (mu m (m b0 21) (s32 ((s32 (16 * b1)) + b2)) (m (m b0 19) b2)) b0 b1 (s32 (b2 + 1)) := Lp_inl (f := K205_51 m b0 b1 b2) (s := (b2, m)) (s' := (s32 (b2 + 1), mu m (m b0 21) (s32 ((s32 (16 * b1)) + b2)) (m (m b0 19) b2))) ((if_neg c1).trans (rfl))
    rw [hr]
    exact ih N2 (by omega) (by omega) h
set_option maxRecDepth 16384 in
/-- TriplicateFormsModel.image(I)Z, the loop at 18 -/
noncomputable def S205_18 (m : MM) (b0 b1 b2 : Int) : (Int × MM) ⊕ (Nat × Int × (Int × MM)) := (if 456 ≤ b2 then .inr (1, 0, (b2, m)) else .inl (s32 (b2 + 1), mu m (m b0 16) (s32 ((s32 (456 * b1)) + b2)) (s32 (m (m b0 14) b2))))
set_option maxRecDepth 16384 in
noncomputable def K205_18 (m : MM) (b0 b1 b2 : Int) : (Int × MM) → (Int × MM) ⊕ (Nat × Int × (Int × MM)) := fun s => S205_18 s.2 b0 b1 s.1
set_option maxRecDepth 16384 in
noncomputable def L205_18 (m : MM) (b0 b1 b2 : Int) : (Nat × Int × (Int × MM)) := Lp (K205_18 m b0 b1 b2) (b2, m)
set_option maxRecDepth 16384 in
theorem l205_18 {X : KO} {ρ : Nat → Int32} {o : Instr × List (Nat × Int) × MM} {K : Nat} : ∀ {N : Nat} {m : MM} {b0 b1 b2 : Int}, N ≤ K → MR X ρ 3 0 0 qP205 N 18 [b0, b1, b2] [] m o → (MR X ρ 3 0 0 qP205 K 49 [b0, b1, (L205_18 m b0 b1 b2).2.2.1] [] ((L205_18 m b0 b1 b2).2.2.2) o) := by
  intro N
  induction N using Nat.strongRecOn with
  | ind N ih =>
  intro m b0 b1 b2 hK h
  have h := CR_iload_n h rfl
  have h : MR X ρ 3 0 0 qP205 N 19 [b0, b1, b2] [(1, b2)] m o := h
  have h := CR_sipush h rfl rfl
  have h : MR X ρ 3 0 0 qP205 N 22 [b0, b1, b2] [(1, 456), (1, b2)] m o := h
  rcases MR_icmp h rfl rfl with ⟨c1, h⟩ | ⟨c1, h⟩
  ·
    have c1 : 456 ≤ b2 := c1
    have h : MR X ρ 3 0 0 qP205 N 49 [b0, b1, b2] [] m o := h
    have hr : L205_18 m b0 b1 b2 = (1, 0, (b2, m)) := Lp_inr (f := K205_18 m b0 b1 b2) (s := (b2, m)) ((if_pos c1).trans (rfl))
    rw [hr]
    exact CR_le (by omega) h
  ·
    have c1 : ¬ (456 ≤ b2) := c1
    have h : MR X ρ 3 0 0 qP205 N 25 [b0, b1, b2] [] m o := h
    have h := CR_aload_n h rfl
    have h : MR X ρ 3 0 0 qP205 N 26 [b0, b1, b2] [(1, b0)] m o := h
    have h := CR_getf h rfl (by decide)
    have h : MR X ρ 3 0 0 qP205 N 29 [b0, b1, b2] [(1, m b0 16)] m o := h
    have h := CR_sipush h rfl rfl
    have h : MR X ρ 3 0 0 qP205 N 32 [b0, b1, b2] [(1, 456), (1, m b0 16)] m o := h
    have h := CR_iload_n h rfl
    have h : MR X ρ 3 0 0 qP205 N 33 [b0, b1, b2] [(1, b1), (1, 456), (1, m b0 16)] m o := h
    have h := CR_imul h rfl
    have h : MR X ρ 3 0 0 qP205 N 34 [b0, b1, b2] [(1, s32 (456 * b1)), (1, m b0 16)] m o := h
    have h := CR_iload_n h rfl
    have h : MR X ρ 3 0 0 qP205 N 35 [b0, b1, b2] [(1, b2), (1, s32 (456 * b1)), (1, m b0 16)] m o := h
    have h := CR_iadd h rfl
    have h : MR X ρ 3 0 0 qP205 N 36 [b0, b1, b2] [(1, s32 ((s32 (456 * b1)) + b2)), (1, m b0 16)] m o := h
    have h := CR_aload_n h rfl
    have h : MR X ρ 3 0 0 qP205 N 37 [b0, b1, b2] [(1, b0), (1, s32 ((s32 (456 * b1)) + b2)), (1, m b0 16)] m o := h
    have h := CR_getf h rfl (by decide)
    have h : MR X ρ 3 0 0 qP205 N 40 [b0, b1, b2] [(1, m b0 14), (1, s32 ((s32 (456 * b1)) + b2)), (1, m b0 16)] m o := h
    have h := CR_iload_n h rfl
    have h : MR X ρ 3 0 0 qP205 N 41 [b0, b1, b2] [(1, b2), (1, m b0 14), (1, s32 ((s32 (456 * b1)) + b2)), (1, m b0 16)] m o := h
    have h := CR_iaload h rfl rfl
    have h : MR X ρ 3 0 0 qP205 N 42 [b0, b1, b2] [(1, m (m b0 14) b2), (1, s32 ((s32 (456 * b1)) + b2)), (1, m b0 16)] m o := h
    have h := CR_iastore_ h rfl
    have h : MR X ρ 3 0 0 qP205 N 43 [b0, b1, b2] [] (mu m (m b0 16) (s32 ((s32 (456 * b1)) + b2)) (s32 (m (m b0 14) b2))) o := h
    have h := CR_inc h rfl (Nat.le_of_ble_eq_true rfl)
    have h : MR X ρ 3 0 0 qP205 N 46 [b0, b1, s32 (b2 + 1)] [] (mu m (m b0 16) (s32 ((s32 (456 * b1)) + b2)) (s32 (m (m b0 14) b2))) o := h
    obtain ⟨N2, eN2, h⟩ := CR_goto h rfl rfl
    have h : MR X ρ 3 0 0 qP205 N2 18 [b0, b1, s32 (b2 + 1)] [] (mu m (m b0 16) (s32 ((s32 (456 * b1)) + b2)) (s32 (m (m b0 14) b2))) o := h
    have hr : L205_18 m b0 b1 b2 = L205_18 (mu m (m b0 16) (s32 ((s32 (456 * b1)) + b2)) (s32 (m (m b0 14) b2))) b0 b1 (s32 (b2 + 1)) := Lp_inl (f := K205_18 m b0 b1 b2) (s := (b2, m)) (s' := (s32 (b2 + 1), mu m (m b0 16) (s32 ((s32 (456 * b1)) + b2)) (s32 (m (m b0 14) b2)))) ((if_neg c1).trans (rfl))
    rw [hr]
    exact ih N2 (by omega) (by omega) h
set_option maxRecDepth 16384 in
/-- TriplicateFormsModel.image(I)Z -/
noncomputable def f205 (m : MM) (a0 a1 : Int) : Int := (if (f209 (mu m a0 0 0) a1 0 1) = 0 then 0 else 1)
set_option maxRecDepth 16384 in
noncomputable def g205 (m : MM) (a0 a1 : Int) : MM := (if (f209 (mu m a0 0 0) a1 0 1) = 0 then mu m a0 0 0 else mu ((L205_51 ((L205_18 (mu m a0 0 0) a0 a1 0).2.2.2) a0 a1 0).2.2.2) (((L205_51 ((L205_18 (mu m a0 0 0) a0 a1 0).2.2.2) a0 a1 0).2.2.2) a0 22) a1 (jbst (((L205_51 ((L205_18 (mu m a0 0 0) a0 a1 0).2.2.2) a0 a1 0).2.2.2) (((L205_51 ((L205_18 (mu m a0 0 0) a0 a1 0).2.2.2) a0 a1 0).2.2.2) a0 22) (-2)) 1))
set_option maxRecDepth 16384 in
theorem d205 {X : KO} {ρ : Nat → Int32} {m m' : MM} {rl : List (Nat × Int)} {a0 a1 : Int} (h : Run X ρ 205 [(1, a0), (1, a1)] m rl m') : rl = [(1, f205 m a0 a1)] ∧ m' = g205 m a0 a1 := by
  obtain ⟨N, ig, h⟩ := Run_CR h rfl
  have h : MR X ρ 3 0 0 qP205 N 0 [a0, a1, 0] [] m (ig, rl, m') := h
  have h := CR_aload_n h rfl
  have h : MR X ρ 3 0 0 qP205 N 1 [a0, a1, 0] [(1, a0)] m (ig, rl, m') := h
  have h := CR_iconst h rfl rfl
  have h : MR X ρ 3 0 0 qP205 N 2 [a0, a1, 0] [(1, 0), (1, a0)] m (ig, rl, m') := h
  have h := CR_putf h rfl
  have h : MR X ρ 3 0 0 qP205 N 5 [a0, a1, 0] [] (mu m a0 0 0) (ig, rl, m') := h
  have h := CR_iload_n h rfl
  have h : MR X ρ 3 0 0 qP205 N 6 [a0, a1, 0] [(1, a1)] (mu m a0 0 0) (ig, rl, m') := h
  have h := CR_iconst h rfl rfl
  have h : MR X ρ 3 0 0 qP205 N 7 [a0, a1, 0] [(1, 0), (1, a1)] (mu m a0 0 0) (ig, rl, m') := h
  have h := CR_iconst h rfl rfl
  have h : MR X ρ 3 0 0 qP205 N 8 [a0, a1, 0] [(1, 1), (1, 0), (1, a1)] (mu m a0 0 0) (ig, rl, m') := h
  obtain ⟨r1, m2, q3, h⟩ := MR_invS h rfl rfl
  have q3 : Run X ρ 209 [(1, a1), (1, 0), (1, 1)] (mu m a0 0 0) r1 m2 := q3
  obtain ⟨e4, e5⟩ := d209 q3
  rw [e4, e5] at h
  have h : MR X ρ 3 0 0 qP205 N 11 [a0, a1, 0] [(1, f209 (mu m a0 0 0) a1 0 1)] (mu m a0 0 0) (ig, rl, m') := h
  rcases MR_if h rfl rfl with ⟨c6, h⟩ | ⟨c6, h⟩
  ·
    have c6 : ¬ ((f209 (mu m a0 0 0) a1 0 1) = 0) := c6
    have h : MR X ρ 3 0 0 qP205 N 16 [a0, a1, 0] [] (mu m a0 0 0) (ig, rl, m') := h
    have h := CR_iconst h rfl rfl
    have h : MR X ρ 3 0 0 qP205 N 17 [a0, a1, 0] [(1, 0)] (mu m a0 0 0) (ig, rl, m') := h
    have h := CR_istore_n h rfl (Nat.le_of_ble_eq_true rfl)
    have h : MR X ρ 3 0 0 qP205 N 18 [a0, a1, 0] [] (mu m a0 0 0) (ig, rl, m') := h
    have h := l205_18 (Nat.le_refl _) h
    have h : MR X ρ 3 0 0 qP205 N 49 [a0, a1, (L205_18 (mu m a0 0 0) a0 a1 0).2.2.1] [] ((L205_18 (mu m a0 0 0) a0 a1 0).2.2.2) (ig, rl, m') := h
    have h := CR_iconst h rfl rfl
    have h : MR X ρ 3 0 0 qP205 N 50 [a0, a1, (L205_18 (mu m a0 0 0) a0 a1 0).2.2.1] [(1, 0)] ((L205_18 (mu m a0 0 0) a0 a1 0).2.2.2) (ig, rl, m') := h
    have h := CR_istore_n h rfl (Nat.le_of_ble_eq_true rfl)
    have h : MR X ρ 3 0 0 qP205 N 51 [a0, a1, 0] [] ((L205_18 (mu m a0 0 0) a0 a1 0).2.2.2) (ig, rl, m') := h
    have h := l205_51 (Nat.le_refl _) h
    have h : MR X ρ 3 0 0 qP205 N 80 [a0, a1, (L205_51 ((L205_18 (mu m a0 0 0) a0 a1 0).2.2.2) a0 a1 0).2.2.1] [] ((L205_51 ((L205_18 (mu m a0 0 0) a0 a1 0).2.2.2) a0 a1 0).2.2.2) (ig, rl, m') := h
    have h := CR_aload_n h rfl
    have h : MR X ρ 3 0 0 qP205 N 81 [a0, a1, (L205_51 ((L205_18 (mu m a0 0 0) a0 a1 0).2.2.2) a0 a1 0).2.2.1] [(1, a0)] ((L205_51 ((L205_18 (mu m a0 0 0) a0 a1 0).2.2.2) a0 a1 0).2.2.2) (ig, rl, m') := h
    have h := CR_getf h rfl (by decide)
    have h : MR X ρ 3 0 0 qP205 N 84 [a0, a1, (L205_51 ((L205_18 (mu m a0 0 0) a0 a1 0).2.2.2) a0 a1 0).2.2.1] [(1, ((L205_51 ((L205_18 (mu m a0 0 0) a0 a1 0).2.2.2) a0 a1 0).2.2.2) a0 22)] ((L205_51 ((L205_18 (mu m a0 0 0) a0 a1 0).2.2.2) a0 a1 0).2.2.2) (ig, rl, m') := h
    have h := CR_iload_n h rfl
    have h : MR X ρ 3 0 0 qP205 N 85 [a0, a1, (L205_51 ((L205_18 (mu m a0 0 0) a0 a1 0).2.2.2) a0 a1 0).2.2.1] [(1, a1), (1, ((L205_51 ((L205_18 (mu m a0 0 0) a0 a1 0).2.2.2) a0 a1 0).2.2.2) a0 22)] ((L205_51 ((L205_18 (mu m a0 0 0) a0 a1 0).2.2.2) a0 a1 0).2.2.2) (ig, rl, m') := h
    have h := CR_iconst h rfl rfl
    have h : MR X ρ 3 0 0 qP205 N 86 [a0, a1, (L205_51 ((L205_18 (mu m a0 0 0) a0 a1 0).2.2.2) a0 a1 0).2.2.1] [(1, 1), (1, a1), (1, ((L205_51 ((L205_18 (mu m a0 0 0) a0 a1 0).2.2.2) a0 a1 0).2.2.2) a0 22)] ((L205_51 ((L205_18 (mu m a0 0 0) a0 a1 0).2.2.2) a0 a1 0).2.2.2) (ig, rl, m') := h
    have h := CR_bastore h rfl
    have h : MR X ρ 3 0 0 qP205 N 87 [a0, a1, (L205_51 ((L205_18 (mu m a0 0 0) a0 a1 0).2.2.2) a0 a1 0).2.2.1] [] (mu ((L205_51 ((L205_18 (mu m a0 0 0) a0 a1 0).2.2.2) a0 a1 0).2.2.2) (((L205_51 ((L205_18 (mu m a0 0 0) a0 a1 0).2.2.2) a0 a1 0).2.2.2) a0 22) a1 (jbst (((L205_51 ((L205_18 (mu m a0 0 0) a0 a1 0).2.2.2) a0 a1 0).2.2.2) (((L205_51 ((L205_18 (mu m a0 0 0) a0 a1 0).2.2.2) a0 a1 0).2.2.2) a0 22) (-2)) 1)) (ig, rl, m') := h
    have h := CR_iconst h rfl rfl
    have h : MR X ρ 3 0 0 qP205 N 88 [a0, a1, (L205_51 ((L205_18 (mu m a0 0 0) a0 a1 0).2.2.2) a0 a1 0).2.2.1] [(1, 1)] (mu ((L205_51 ((L205_18 (mu m a0 0 0) a0 a1 0).2.2.2) a0 a1 0).2.2.2) (((L205_51 ((L205_18 (mu m a0 0 0) a0 a1 0).2.2.2) a0 a1 0).2.2.2) a0 22) a1 (jbst (((L205_51 ((L205_18 (mu m a0 0 0) a0 a1 0).2.2.2) a0 a1 0).2.2.2) (((L205_51 ((L205_18 (mu m a0 0 0) a0 a1 0).2.2.2) a0 a1 0).2.2.2) a0 22) (-2)) 1)) (ig, rl, m') := h
    have e := CR_end h rfl rfl
    cases e
    exact ⟨congrArg (fun z => [(1, z)]) (Eq.symm (show f205 m a0 a1 = _ from (if_neg c6).trans (rfl))), Eq.symm (show g205 m a0 a1 = _ from (if_neg c6).trans (rfl))⟩
  ·
    have c6 : (f209 (mu m a0 0 0) a1 0 1) = 0 := Decidable.of_not_not (show ¬ ¬ ((f209 (mu m a0 0 0) a1 0 1) = 0) from c6)
    have h : MR X ρ 3 0 0 qP205 N 14 [a0, a1, 0] [] (mu m a0 0 0) (ig, rl, m') := h
    have h := CR_iconst h rfl rfl
    have h : MR X ρ 3 0 0 qP205 N 15 [a0, a1, 0] [(1, 0)] (mu m a0 0 0) (ig, rl, m') := h
    have e := CR_end h rfl rfl
    cases e
    exact ⟨congrArg (fun z => [(1, z)]) (Eq.symm (show f205 m a0 a1 = _ from (if_pos c6).trans (rfl))), Eq.symm (show g205 m a0 a1 = _ from (if_pos c6).trans (rfl))⟩
set_option maxRecDepth 16384 in
/-- TriplicateFormsModel.layAside()V, the loop at 2 -/
noncomputable def S219_2 (m : MM) (b0 b1 : Int) : (Int × MM) ⊕ (Nat × Int × (Int × MM)) := (if 122 ≤ b1 then .inr (1, 0, (b1, m)) else .inl (s32 (b1 + 1), mu m (m b0 18) b1 (s32 (m (m b0 14) (s32 (92 + b1))))))
set_option maxRecDepth 16384 in
noncomputable def K219_2 (m : MM) (b0 b1 : Int) : (Int × MM) → (Int × MM) ⊕ (Nat × Int × (Int × MM)) := fun s => S219_2 s.2 b0 s.1
set_option maxRecDepth 16384 in
noncomputable def L219_2 (m : MM) (b0 b1 : Int) : (Nat × Int × (Int × MM)) := Lp (K219_2 m b0 b1) (b1, m)
set_option maxRecDepth 16384 in
theorem l219_2 {X : KO} {ρ : Nat → Int32} {o : Instr × List (Nat × Int) × MM} {K : Nat} : ∀ {N : Nat} {m : MM} {b0 b1 : Int}, N ≤ K → MR X ρ 2 0 0 qP219 N 2 [b0, b1] [] m o → (MR X ρ 2 0 0 qP219 K 29 [b0, (L219_2 m b0 b1).2.2.1] [] ((L219_2 m b0 b1).2.2.2) o) := by
  intro N
  induction N using Nat.strongRecOn with
  | ind N ih =>
  intro m b0 b1 hK h
  have h := CR_iload_n h rfl
  have h : MR X ρ 2 0 0 qP219 N 3 [b0, b1] [(1, b1)] m o := h
  have h := CR_bipush h rfl rfl
  have h : MR X ρ 2 0 0 qP219 N 5 [b0, b1] [(1, 122), (1, b1)] m o := h
  rcases MR_icmp h rfl rfl with ⟨c1, h⟩ | ⟨c1, h⟩
  ·
    have c1 : 122 ≤ b1 := c1
    have h : MR X ρ 2 0 0 qP219 N 29 [b0, b1] [] m o := h
    have hr : L219_2 m b0 b1 = (1, 0, (b1, m)) := Lp_inr (f := K219_2 m b0 b1) (s := (b1, m)) ((if_pos c1).trans (rfl))
    rw [hr]
    exact CR_le (by omega) h
  ·
    have c1 : ¬ (122 ≤ b1) := c1
    have h : MR X ρ 2 0 0 qP219 N 8 [b0, b1] [] m o := h
    have h := CR_aload_n h rfl
    have h : MR X ρ 2 0 0 qP219 N 9 [b0, b1] [(1, b0)] m o := h
    have h := CR_getf h rfl (by decide)
    have h : MR X ρ 2 0 0 qP219 N 12 [b0, b1] [(1, m b0 18)] m o := h
    have h := CR_iload_n h rfl
    have h : MR X ρ 2 0 0 qP219 N 13 [b0, b1] [(1, b1), (1, m b0 18)] m o := h
    have h := CR_aload_n h rfl
    have h : MR X ρ 2 0 0 qP219 N 14 [b0, b1] [(1, b0), (1, b1), (1, m b0 18)] m o := h
    have h := CR_getf h rfl (by decide)
    have h : MR X ρ 2 0 0 qP219 N 17 [b0, b1] [(1, m b0 14), (1, b1), (1, m b0 18)] m o := h
    have h := CR_bipush h rfl rfl
    have h : MR X ρ 2 0 0 qP219 N 19 [b0, b1] [(1, 92), (1, m b0 14), (1, b1), (1, m b0 18)] m o := h
    have h := CR_iload_n h rfl
    have h : MR X ρ 2 0 0 qP219 N 20 [b0, b1] [(1, b1), (1, 92), (1, m b0 14), (1, b1), (1, m b0 18)] m o := h
    have h := CR_iadd h rfl
    have h : MR X ρ 2 0 0 qP219 N 21 [b0, b1] [(1, s32 (92 + b1)), (1, m b0 14), (1, b1), (1, m b0 18)] m o := h
    have h := CR_iaload h rfl rfl
    have h : MR X ρ 2 0 0 qP219 N 22 [b0, b1] [(1, m (m b0 14) (s32 (92 + b1))), (1, b1), (1, m b0 18)] m o := h
    have h := CR_iastore_ h rfl
    have h : MR X ρ 2 0 0 qP219 N 23 [b0, b1] [] (mu m (m b0 18) b1 (s32 (m (m b0 14) (s32 (92 + b1))))) o := h
    have h := CR_inc h rfl (Nat.le_of_ble_eq_true rfl)
    have h : MR X ρ 2 0 0 qP219 N 26 [b0, s32 (b1 + 1)] [] (mu m (m b0 18) b1 (s32 (m (m b0 14) (s32 (92 + b1))))) o := h
    obtain ⟨N2, eN2, h⟩ := CR_goto h rfl rfl
    have h : MR X ρ 2 0 0 qP219 N2 2 [b0, s32 (b1 + 1)] [] (mu m (m b0 18) b1 (s32 (m (m b0 14) (s32 (92 + b1))))) o := h
    have hr : L219_2 m b0 b1 = L219_2 (mu m (m b0 18) b1 (s32 (m (m b0 14) (s32 (92 + b1))))) b0 (s32 (b1 + 1)) := Lp_inl (f := K219_2 m b0 b1) (s := (b1, m)) (s' := (s32 (b1 + 1), mu m (m b0 18) b1 (s32 (m (m b0 14) (s32 (92 + b1)))))) ((if_neg c1).trans (rfl))
    rw [hr]
    exact ih N2 (by omega) (by omega) h
set_option maxRecDepth 16384 in
/-- TriplicateFormsModel.layAside()V -/
noncomputable def g219 (m : MM) (a0 : Int) : MM := (L219_2 m a0 0).2.2.2
set_option maxRecDepth 16384 in
theorem d219 {X : KO} {ρ : Nat → Int32} {m m' : MM} {rl : List (Nat × Int)} {a0 : Int} (h : Run X ρ 219 [(1, a0)] m rl m') : rl = [] ∧ m' = g219 m a0 := by
  obtain ⟨N, ig, h⟩ := Run_CR h rfl
  have h : MR X ρ 2 0 0 qP219 N 0 [a0, 0] [] m (ig, rl, m') := h
  have h := CR_iconst h rfl rfl
  have h : MR X ρ 2 0 0 qP219 N 1 [a0, 0] [(1, 0)] m (ig, rl, m') := h
  have h := CR_istore_n h rfl (Nat.le_of_ble_eq_true rfl)
  have h : MR X ρ 2 0 0 qP219 N 2 [a0, 0] [] m (ig, rl, m') := h
  have h := l219_2 (Nat.le_refl _) h
  have h : MR X ρ 2 0 0 qP219 N 29 [a0, (L219_2 m a0 0).2.2.1] [] ((L219_2 m a0 0).2.2.2) (ig, rl, m') := h
  have e := CR_end h rfl rfl
  cases e
  exact ⟨rfl, Eq.symm (show g219 m a0 = _ from rfl)⟩
set_option maxRecDepth 16384 in
/-- TriplicateFormsModel.oneDay()V, the loop at 120 -/
noncomputable def S231_120 (m : MM) (b0 b1 b2 : Int) : (Int × MM) ⊕ (Nat × Int × (Int × MM)) := (if 8 ≤ b1 then .inr (1, 0, (b1, m)) else .inl (s32 (b1 + 1), mu m (m b0 14) (s32 (198 + b1)) (s32 (-1))))
set_option maxRecDepth 16384 in
noncomputable def K231_120 (m : MM) (b0 b1 b2 : Int) : (Int × MM) → (Int × MM) ⊕ (Nat × Int × (Int × MM)) := fun s => S231_120 s.2 b0 s.1 b2
set_option maxRecDepth 16384 in
noncomputable def L231_120 (m : MM) (b0 b1 b2 : Int) : (Nat × Int × (Int × MM)) := Lp (K231_120 m b0 b1 b2) (b1, m)
set_option maxRecDepth 16384 in
theorem l231_120 {X : KO} {ρ : Nat → Int32} {o : Instr × List (Nat × Int) × MM} {K : Nat} : ∀ {N : Nat} {m : MM} {b0 b1 b2 : Int}, N ≤ K → MR X ρ 3 0 0 qP231 N 120 [b0, b1, b2] [] m o → (MR X ρ 3 0 0 qP231 K 143 [b0, (L231_120 m b0 b1 b2).2.2.1, b2] [] ((L231_120 m b0 b1 b2).2.2.2) o) := by
  intro N
  induction N using Nat.strongRecOn with
  | ind N ih =>
  intro m b0 b1 b2 hK h
  have h := CR_iload_n h rfl
  have h : MR X ρ 3 0 0 qP231 N 121 [b0, b1, b2] [(1, b1)] m o := h
  have h := CR_bipush h rfl rfl
  have h : MR X ρ 3 0 0 qP231 N 123 [b0, b1, b2] [(1, 8), (1, b1)] m o := h
  rcases MR_icmp h rfl rfl with ⟨c1, h⟩ | ⟨c1, h⟩
  ·
    have c1 : 8 ≤ b1 := c1
    have h : MR X ρ 3 0 0 qP231 N 143 [b0, b1, b2] [] m o := h
    have hr : L231_120 m b0 b1 b2 = (1, 0, (b1, m)) := Lp_inr (f := K231_120 m b0 b1 b2) (s := (b1, m)) ((if_pos c1).trans (rfl))
    rw [hr]
    exact CR_le (by omega) h
  ·
    have c1 : ¬ (8 ≤ b1) := c1
    have h : MR X ρ 3 0 0 qP231 N 126 [b0, b1, b2] [] m o := h
    have h := CR_aload_n h rfl
    have h : MR X ρ 3 0 0 qP231 N 127 [b0, b1, b2] [(1, b0)] m o := h
    have h := CR_getf h rfl (by decide)
    have h : MR X ρ 3 0 0 qP231 N 130 [b0, b1, b2] [(1, m b0 14)] m o := h
    have h := CR_sipush h rfl rfl
    have h : MR X ρ 3 0 0 qP231 N 133 [b0, b1, b2] [(1, 198), (1, m b0 14)] m o := h
    have h := CR_iload_n h rfl
    have h : MR X ρ 3 0 0 qP231 N 134 [b0, b1, b2] [(1, b1), (1, 198), (1, m b0 14)] m o := h
    have h := CR_iadd h rfl
    have h : MR X ρ 3 0 0 qP231 N 135 [b0, b1, b2] [(1, s32 (198 + b1)), (1, m b0 14)] m o := h
    have h := CR_iconst h rfl rfl
    have h : MR X ρ 3 0 0 qP231 N 136 [b0, b1, b2] [(1, -1), (1, s32 (198 + b1)), (1, m b0 14)] m o := h
    have h := CR_iastore_ h rfl
    have h : MR X ρ 3 0 0 qP231 N 137 [b0, b1, b2] [] (mu m (m b0 14) (s32 (198 + b1)) (s32 (-1))) o := h
    have h := CR_inc h rfl (Nat.le_of_ble_eq_true rfl)
    have h : MR X ρ 3 0 0 qP231 N 140 [b0, s32 (b1 + 1), b2] [] (mu m (m b0 14) (s32 (198 + b1)) (s32 (-1))) o := h
    obtain ⟨N2, eN2, h⟩ := CR_goto h rfl rfl
    have h : MR X ρ 3 0 0 qP231 N2 120 [b0, s32 (b1 + 1), b2] [] (mu m (m b0 14) (s32 (198 + b1)) (s32 (-1))) o := h
    have hr : L231_120 m b0 b1 b2 = L231_120 (mu m (m b0 14) (s32 (198 + b1)) (s32 (-1))) b0 (s32 (b1 + 1)) b2 := Lp_inl (f := K231_120 m b0 b1 b2) (s := (b1, m)) (s' := (s32 (b1 + 1), mu m (m b0 14) (s32 (198 + b1)) (s32 (-1)))) ((if_neg c1).trans (rfl))
    rw [hr]
    exact ih N2 (by omega) (by omega) h
set_option maxRecDepth 16384 in
/-- TriplicateFormsModel.oneDay()V, the loop at 2 -/
noncomputable def S231_2 (m : MM) (b0 b1 b2 : Int) : (Int × Int × MM) ⊕ (Nat × Int × (Int × Int × MM)) := (if (m (m b0 14) 1) ≤ b1 then .inr (1, 0, (b1, b2, m)) else (if (m (m b0 14) (s32 (182 + b1))) = 1 then (if ((mu m (m b0 14) (s32 (190 + b1)) (s32 (s32 ((m (m b0 14) (s32 (190 + b1))) - 1)))) ((mu m (m b0 14) (s32 (190 + b1)) (s32 (s32 ((m (m b0 14) (s32 (190 + b1))) - 1)))) b0 14) (s32 (190 + b1))) ≤ 0 then .inl (s32 (b1 + 1), s32 ((s32 (94 + (s32 (8 * (f273 (mu (mu m (m b0 14) (s32 (190 + b1)) (s32 (s32 ((m (m b0 14) (s32 (190 + b1))) - 1)))) ((mu m (m b0 14) (s32 (190 + b1)) (s32 (s32 ((m (m b0 14) (s32 (190 + b1))) - 1)))) b0 14) (s32 (182 + b1)) (s32 2)) b0 b1 1))))) + ((mu (mu m (m b0 14) (s32 (190 + b1)) (s32 (s32 ((m (m b0 14) (s32 (190 + b1))) - 1)))) ((mu m (m b0 14) (s32 (190 + b1)) (s32 (s32 ((m (m b0 14) (s32 (190 + b1))) - 1)))) b0 14) (s32 (182 + b1)) (s32 2)) ((mu (mu m (m b0 14) (s32 (190 + b1)) (s32 (s32 ((m (m b0 14) (s32 (190 + b1))) - 1)))) ((mu m (m b0 14) (s32 (190 + b1)) (s32 (s32 ((m (m b0 14) (s32 (190 + b1))) - 1)))) b0 14) (s32 (182 + b1)) (s32 2)) b0 14) (s32 (76 + b1)))), mu (mu (mu m (m b0 14) (s32 (190 + b1)) (s32 (s32 ((m (m b0 14) (s32 (190 + b1))) - 1)))) ((mu m (m b0 14) (s32 (190 + b1)) (s32 (s32 ((m (m b0 14) (s32 (190 + b1))) - 1)))) b0 14) (s32 (182 + b1)) (s32 2)) ((mu (mu m (m b0 14) (s32 (190 + b1)) (s32 (s32 ((m (m b0 14) (s32 (190 + b1))) - 1)))) ((mu m (m b0 14) (s32 (190 + b1)) (s32 (s32 ((m (m b0 14) (s32 (190 + b1))) - 1)))) b0 14) (s32 (182 + b1)) (s32 2)) b0 14) (s32 ((s32 (94 + (s32 (8 * (f273 (mu (mu m (m b0 14) (s32 (190 + b1)) (s32 (s32 ((m (m b0 14) (s32 (190 + b1))) - 1)))) ((mu m (m b0 14) (s32 (190 + b1)) (s32 (s32 ((m (m b0 14) (s32 (190 + b1))) - 1)))) b0 14) (s32 (182 + b1)) (s32 2)) b0 b1 1))))) + ((mu (mu m (m b0 14) (s32 (190 + b1)) (s32 (s32 ((m (m b0 14) (s32 (190 + b1))) - 1)))) ((mu m (m b0 14) (s32 (190 + b1)) (s32 (s32 ((m (m b0 14) (s32 (190 + b1))) - 1)))) b0 14) (s32 (182 + b1)) (s32 2)) ((mu (mu m (m b0 14) (s32 (190 + b1)) (s32 (s32 ((m (m b0 14) (s32 (190 + b1))) - 1)))) ((mu m (m b0 14) (s32 (190 + b1)) (s32 (s32 ((m (m b0 14) (s32 (190 + b1))) - 1)))) b0 14) (s32 (182 + b1)) (s32 2)) b0 14) (s32 (76 + b1))))) (s32 (f220 (mu (mu m (m b0 14) (s32 (190 + b1)) (s32 (s32 ((m (m b0 14) (s32 (190 + b1))) - 1)))) ((mu m (m b0 14) (s32 (190 + b1)) (s32 (s32 ((m (m b0 14) (s32 (190 + b1))) - 1)))) b0 14) (s32 (182 + b1)) (s32 2)) 9 (s32 (((mu (mu m (m b0 14) (s32 (190 + b1)) (s32 (s32 ((m (m b0 14) (s32 (190 + b1))) - 1)))) ((mu m (m b0 14) (s32 (190 + b1)) (s32 (s32 ((m (m b0 14) (s32 (190 + b1))) - 1)))) b0 14) (s32 (182 + b1)) (s32 2)) ((mu (mu m (m b0 14) (s32 (190 + b1)) (s32 (s32 ((m (m b0 14) (s32 (190 + b1))) - 1)))) ((mu m (m b0 14) (s32 (190 + b1)) (s32 (s32 ((m (m b0 14) (s32 (190 + b1))) - 1)))) b0 14) (s32 (182 + b1)) (s32 2)) b0 14) (s32 ((s32 (94 + (s32 (8 * (f273 (mu (mu m (m b0 14) (s32 (190 + b1)) (s32 (s32 ((m (m b0 14) (s32 (190 + b1))) - 1)))) ((mu m (m b0 14) (s32 (190 + b1)) (s32 (s32 ((m (m b0 14) (s32 (190 + b1))) - 1)))) b0 14) (s32 (182 + b1)) (s32 2)) b0 b1 1))))) + ((mu (mu m (m b0 14) (s32 (190 + b1)) (s32 (s32 ((m (m b0 14) (s32 (190 + b1))) - 1)))) ((mu m (m b0 14) (s32 (190 + b1)) (s32 (s32 ((m (m b0 14) (s32 (190 + b1))) - 1)))) b0 14) (s32 (182 + b1)) (s32 2)) ((mu (mu m (m b0 14) (s32 (190 + b1)) (s32 (s32 ((m (m b0 14) (s32 (190 + b1))) - 1)))) ((mu m (m b0 14) (s32 (190 + b1)) (s32 (s32 ((m (m b0 14) (s32 (190 + b1))) - 1)))) b0 14) (s32 (182 + b1)) (s32 2)) b0 14) (s32 (76 + b1)))))) + 1))))) else .inl (s32 (b1 + 1), b2, mu m (m b0 14) (s32 (190 + b1)) (s32 (s32 ((m (m b0 14) (s32 (190 + b1))) - 1))))) else .inl (s32 (b1 + 1), b2, m)))
set_option maxRecDepth 16384 in
noncomputable def K231_2 (m : MM) (b0 b1 b2 : Int) : (Int × Int × MM) → (Int × Int × MM) ⊕ (Nat × Int × (Int × Int × MM)) := fun s => S231_2 s.2.2 b0 s.1 s.2.1
set_option maxRecDepth 16384 in
noncomputable def L231_2 (m : MM) (b0 b1 b2 : Int) : (Nat × Int × (Int × Int × MM)) := Lp (K231_2 m b0 b1 b2) (b1, b2, m)
set_option maxRecDepth 16384 in
theorem l231_2 {X : KO} {ρ : Nat → Int32} {o : Instr × List (Nat × Int) × MM} {K : Nat} : ∀ {N : Nat} {m : MM} {b0 b1 b2 : Int}, N ≤ K → MR X ρ 3 0 0 qP231 N 2 [b0, b1, b2] [] m o → (MR X ρ 3 0 0 qP231 K 118 [b0, (L231_2 m b0 b1 b2).2.2.1, (L231_2 m b0 b1 b2).2.2.2.1] [] ((L231_2 m b0 b1 b2).2.2.2.2) o) := by
  intro N
  induction N using Nat.strongRecOn with
  | ind N ih =>
  intro m b0 b1 b2 hK h
  have h := CR_iload_n h rfl
  have h : MR X ρ 3 0 0 qP231 N 3 [b0, b1, b2] [(1, b1)] m o := h
  have h := CR_aload_n h rfl
  have h : MR X ρ 3 0 0 qP231 N 4 [b0, b1, b2] [(1, b0), (1, b1)] m o := h
  have h := CR_getf h rfl (by decide)
  have h : MR X ρ 3 0 0 qP231 N 7 [b0, b1, b2] [(1, m b0 14), (1, b1)] m o := h
  have h := CR_iconst h rfl rfl
  have h : MR X ρ 3 0 0 qP231 N 8 [b0, b1, b2] [(1, 1), (1, m b0 14), (1, b1)] m o := h
  have h := CR_iaload h rfl rfl
  have h : MR X ρ 3 0 0 qP231 N 9 [b0, b1, b2] [(1, m (m b0 14) 1), (1, b1)] m o := h
  rcases MR_icmp h rfl rfl with ⟨c1, h⟩ | ⟨c1, h⟩
  ·
    have c1 : (m (m b0 14) 1) ≤ b1 := c1
    have h : MR X ρ 3 0 0 qP231 N 118 [b0, b1, b2] [] m o := h
    have hr : L231_2 m b0 b1 b2 = (1, 0, (b1, b2, m)) := Lp_inr (f := K231_2 m b0 b1 b2) (s := (b1, b2, m)) ((if_pos c1).trans (rfl))
    rw [hr]
    exact CR_le (by omega) h
  ·
    have c1 : ¬ ((m (m b0 14) 1) ≤ b1) := c1
    have h : MR X ρ 3 0 0 qP231 N 12 [b0, b1, b2] [] m o := h
    have h := CR_aload_n h rfl
    have h : MR X ρ 3 0 0 qP231 N 13 [b0, b1, b2] [(1, b0)] m o := h
    have h := CR_getf h rfl (by decide)
    have h : MR X ρ 3 0 0 qP231 N 16 [b0, b1, b2] [(1, m b0 14)] m o := h
    have h := CR_sipush h rfl rfl
    have h : MR X ρ 3 0 0 qP231 N 19 [b0, b1, b2] [(1, 182), (1, m b0 14)] m o := h
    have h := CR_iload_n h rfl
    have h : MR X ρ 3 0 0 qP231 N 20 [b0, b1, b2] [(1, b1), (1, 182), (1, m b0 14)] m o := h
    have h := CR_iadd h rfl
    have h : MR X ρ 3 0 0 qP231 N 21 [b0, b1, b2] [(1, s32 (182 + b1)), (1, m b0 14)] m o := h
    have h := CR_iaload h rfl rfl
    have h : MR X ρ 3 0 0 qP231 N 22 [b0, b1, b2] [(1, m (m b0 14) (s32 (182 + b1)))] m o := h
    have h := CR_iconst h rfl rfl
    have h : MR X ρ 3 0 0 qP231 N 23 [b0, b1, b2] [(1, 1), (1, m (m b0 14) (s32 (182 + b1)))] m o := h
    rcases MR_icmp h rfl rfl with ⟨c2, h⟩ | ⟨c2, h⟩
    ·
      have c2 : (m (m b0 14) (s32 (182 + b1))) = 1 := c2
      have h : MR X ρ 3 0 0 qP231 N 29 [b0, b1, b2] [] m o := h
      have h := CR_aload_n h rfl
      have h : MR X ρ 3 0 0 qP231 N 30 [b0, b1, b2] [(1, b0)] m o := h
      have h := CR_getf h rfl (by decide)
      have h : MR X ρ 3 0 0 qP231 N 33 [b0, b1, b2] [(1, m b0 14)] m o := h
      have h := CR_sipush h rfl rfl
      have h : MR X ρ 3 0 0 qP231 N 36 [b0, b1, b2] [(1, 190), (1, m b0 14)] m o := h
      have h := CR_iload_n h rfl
      have h : MR X ρ 3 0 0 qP231 N 37 [b0, b1, b2] [(1, b1), (1, 190), (1, m b0 14)] m o := h
      have h := CR_iadd h rfl
      have h : MR X ρ 3 0 0 qP231 N 38 [b0, b1, b2] [(1, s32 (190 + b1)), (1, m b0 14)] m o := h
      have h := CR_dup2 h rfl
      have h : MR X ρ 3 0 0 qP231 N 39 [b0, b1, b2] [(1, s32 (190 + b1)), (1, m b0 14), (1, s32 (190 + b1)), (1, m b0 14)] m o := h
      have h := CR_iaload h rfl rfl
      have h : MR X ρ 3 0 0 qP231 N 40 [b0, b1, b2] [(1, m (m b0 14) (s32 (190 + b1))), (1, s32 (190 + b1)), (1, m b0 14)] m o := h
      have h := CR_iconst h rfl rfl
      have h : MR X ρ 3 0 0 qP231 N 41 [b0, b1, b2] [(1, 1), (1, m (m b0 14) (s32 (190 + b1))), (1, s32 (190 + b1)), (1, m b0 14)] m o := h
      have h := CR_isub h rfl
      have h : MR X ρ 3 0 0 qP231 N 42 [b0, b1, b2] [(1, s32 ((m (m b0 14) (s32 (190 + b1))) - 1)), (1, s32 (190 + b1)), (1, m b0 14)] m o := h
      have h := CR_iastore_ h rfl
      have h : MR X ρ 3 0 0 qP231 N 43 [b0, b1, b2] [] (mu m (m b0 14) (s32 (190 + b1)) (s32 (s32 ((m (m b0 14) (s32 (190 + b1))) - 1)))) o := h
      have h := CR_aload_n h rfl
      have h : MR X ρ 3 0 0 qP231 N 44 [b0, b1, b2] [(1, b0)] (mu m (m b0 14) (s32 (190 + b1)) (s32 (s32 ((m (m b0 14) (s32 (190 + b1))) - 1)))) o := h
      have h := CR_getf h rfl (by decide)
      have h : MR X ρ 3 0 0 qP231 N 47 [b0, b1, b2] [(1, (mu m (m b0 14) (s32 (190 + b1)) (s32 (s32 ((m (m b0 14) (s32 (190 + b1))) - 1)))) b0 14)] (mu m (m b0 14) (s32 (190 + b1)) (s32 (s32 ((m (m b0 14) (s32 (190 + b1))) - 1)))) o := h
      have h := CR_sipush h rfl rfl
      have h : MR X ρ 3 0 0 qP231 N 50 [b0, b1, b2] [(1, 190), (1, (mu m (m b0 14) (s32 (190 + b1)) (s32 (s32 ((m (m b0 14) (s32 (190 + b1))) - 1)))) b0 14)] (mu m (m b0 14) (s32 (190 + b1)) (s32 (s32 ((m (m b0 14) (s32 (190 + b1))) - 1)))) o := h
      have h := CR_iload_n h rfl
      have h : MR X ρ 3 0 0 qP231 N 51 [b0, b1, b2] [(1, b1), (1, 190), (1, (mu m (m b0 14) (s32 (190 + b1)) (s32 (s32 ((m (m b0 14) (s32 (190 + b1))) - 1)))) b0 14)] (mu m (m b0 14) (s32 (190 + b1)) (s32 (s32 ((m (m b0 14) (s32 (190 + b1))) - 1)))) o := h
      have h := CR_iadd h rfl
      have h : MR X ρ 3 0 0 qP231 N 52 [b0, b1, b2] [(1, s32 (190 + b1)), (1, (mu m (m b0 14) (s32 (190 + b1)) (s32 (s32 ((m (m b0 14) (s32 (190 + b1))) - 1)))) b0 14)] (mu m (m b0 14) (s32 (190 + b1)) (s32 (s32 ((m (m b0 14) (s32 (190 + b1))) - 1)))) o := h
      have h := CR_iaload h rfl rfl
      have h : MR X ρ 3 0 0 qP231 N 53 [b0, b1, b2] [(1, (mu m (m b0 14) (s32 (190 + b1)) (s32 (s32 ((m (m b0 14) (s32 (190 + b1))) - 1)))) ((mu m (m b0 14) (s32 (190 + b1)) (s32 (s32 ((m (m b0 14) (s32 (190 + b1))) - 1)))) b0 14) (s32 (190 + b1)))] (mu m (m b0 14) (s32 (190 + b1)) (s32 (s32 ((m (m b0 14) (s32 (190 + b1))) - 1)))) o := h
      rcases MR_if h rfl rfl with ⟨c3, h⟩ | ⟨c3, h⟩
      ·
        have c3 : ((mu m (m b0 14) (s32 (190 + b1)) (s32 (s32 ((m (m b0 14) (s32 (190 + b1))) - 1)))) ((mu m (m b0 14) (s32 (190 + b1)) (s32 (s32 ((m (m b0 14) (s32 (190 + b1))) - 1)))) b0 14) (s32 (190 + b1))) ≤ 0 := c3
        have h : MR X ρ 3 0 0 qP231 N 59 [b0, b1, b2] [] (mu m (m b0 14) (s32 (190 + b1)) (s32 (s32 ((m (m b0 14) (s32 (190 + b1))) - 1)))) o := h
        have h := CR_aload_n h rfl
        have h : MR X ρ 3 0 0 qP231 N 60 [b0, b1, b2] [(1, b0)] (mu m (m b0 14) (s32 (190 + b1)) (s32 (s32 ((m (m b0 14) (s32 (190 + b1))) - 1)))) o := h
        have h := CR_getf h rfl (by decide)
        have h : MR X ρ 3 0 0 qP231 N 63 [b0, b1, b2] [(1, (mu m (m b0 14) (s32 (190 + b1)) (s32 (s32 ((m (m b0 14) (s32 (190 + b1))) - 1)))) b0 14)] (mu m (m b0 14) (s32 (190 + b1)) (s32 (s32 ((m (m b0 14) (s32 (190 + b1))) - 1)))) o := h
        have h := CR_sipush h rfl rfl
        have h : MR X ρ 3 0 0 qP231 N 66 [b0, b1, b2] [(1, 182), (1, (mu m (m b0 14) (s32 (190 + b1)) (s32 (s32 ((m (m b0 14) (s32 (190 + b1))) - 1)))) b0 14)] (mu m (m b0 14) (s32 (190 + b1)) (s32 (s32 ((m (m b0 14) (s32 (190 + b1))) - 1)))) o := h
        have h := CR_iload_n h rfl
        have h : MR X ρ 3 0 0 qP231 N 67 [b0, b1, b2] [(1, b1), (1, 182), (1, (mu m (m b0 14) (s32 (190 + b1)) (s32 (s32 ((m (m b0 14) (s32 (190 + b1))) - 1)))) b0 14)] (mu m (m b0 14) (s32 (190 + b1)) (s32 (s32 ((m (m b0 14) (s32 (190 + b1))) - 1)))) o := h
        have h := CR_iadd h rfl
        have h : MR X ρ 3 0 0 qP231 N 68 [b0, b1, b2] [(1, s32 (182 + b1)), (1, (mu m (m b0 14) (s32 (190 + b1)) (s32 (s32 ((m (m b0 14) (s32 (190 + b1))) - 1)))) b0 14)] (mu m (m b0 14) (s32 (190 + b1)) (s32 (s32 ((m (m b0 14) (s32 (190 + b1))) - 1)))) o := h
        have h := CR_iconst h rfl rfl
        have h : MR X ρ 3 0 0 qP231 N 69 [b0, b1, b2] [(1, 2), (1, s32 (182 + b1)), (1, (mu m (m b0 14) (s32 (190 + b1)) (s32 (s32 ((m (m b0 14) (s32 (190 + b1))) - 1)))) b0 14)] (mu m (m b0 14) (s32 (190 + b1)) (s32 (s32 ((m (m b0 14) (s32 (190 + b1))) - 1)))) o := h
        have h := CR_iastore_ h rfl
        have h : MR X ρ 3 0 0 qP231 N 70 [b0, b1, b2] [] (mu (mu m (m b0 14) (s32 (190 + b1)) (s32 (s32 ((m (m b0 14) (s32 (190 + b1))) - 1)))) ((mu m (m b0 14) (s32 (190 + b1)) (s32 (s32 ((m (m b0 14) (s32 (190 + b1))) - 1)))) b0 14) (s32 (182 + b1)) (s32 2)) o := h
        have h := CR_bipush h rfl rfl
        have h : MR X ρ 3 0 0 qP231 N 72 [b0, b1, b2] [(1, 94)] (mu (mu m (m b0 14) (s32 (190 + b1)) (s32 (s32 ((m (m b0 14) (s32 (190 + b1))) - 1)))) ((mu m (m b0 14) (s32 (190 + b1)) (s32 (s32 ((m (m b0 14) (s32 (190 + b1))) - 1)))) b0 14) (s32 (182 + b1)) (s32 2)) o := h
        have h := CR_bipush h rfl rfl
        have h : MR X ρ 3 0 0 qP231 N 74 [b0, b1, b2] [(1, 8), (1, 94)] (mu (mu m (m b0 14) (s32 (190 + b1)) (s32 (s32 ((m (m b0 14) (s32 (190 + b1))) - 1)))) ((mu m (m b0 14) (s32 (190 + b1)) (s32 (s32 ((m (m b0 14) (s32 (190 + b1))) - 1)))) b0 14) (s32 (182 + b1)) (s32 2)) o := h
        have h := CR_aload_n h rfl
        have h : MR X ρ 3 0 0 qP231 N 75 [b0, b1, b2] [(1, b0), (1, 8), (1, 94)] (mu (mu m (m b0 14) (s32 (190 + b1)) (s32 (s32 ((m (m b0 14) (s32 (190 + b1))) - 1)))) ((mu m (m b0 14) (s32 (190 + b1)) (s32 (s32 ((m (m b0 14) (s32 (190 + b1))) - 1)))) b0 14) (s32 (182 + b1)) (s32 2)) o := h
        have h := CR_iload_n h rfl
        have h : MR X ρ 3 0 0 qP231 N 76 [b0, b1, b2] [(1, b1), (1, b0), (1, 8), (1, 94)] (mu (mu m (m b0 14) (s32 (190 + b1)) (s32 (s32 ((m (m b0 14) (s32 (190 + b1))) - 1)))) ((mu m (m b0 14) (s32 (190 + b1)) (s32 (s32 ((m (m b0 14) (s32 (190 + b1))) - 1)))) b0 14) (s32 (182 + b1)) (s32 2)) o := h
        have h := CR_iconst h rfl rfl
        have h : MR X ρ 3 0 0 qP231 N 77 [b0, b1, b2] [(1, 1), (1, b1), (1, b0), (1, 8), (1, 94)] (mu (mu m (m b0 14) (s32 (190 + b1)) (s32 (s32 ((m (m b0 14) (s32 (190 + b1))) - 1)))) ((mu m (m b0 14) (s32 (190 + b1)) (s32 (s32 ((m (m b0 14) (s32 (190 + b1))) - 1)))) b0 14) (s32 (182 + b1)) (s32 2)) o := h
        obtain ⟨r4, m5, q6, h⟩ := MR_invV h rfl rfl
        have q6 : Run X ρ 273 [(1, b0), (1, b1), (1, 1)] (mu (mu m (m b0 14) (s32 (190 + b1)) (s32 (s32 ((m (m b0 14) (s32 (190 + b1))) - 1)))) ((mu m (m b0 14) (s32 (190 + b1)) (s32 (s32 ((m (m b0 14) (s32 (190 + b1))) - 1)))) b0 14) (s32 (182 + b1)) (s32 2)) r4 m5 := q6
        obtain ⟨e7, e8⟩ := d273 q6
        rw [e7, e8] at h
        have h : MR X ρ 3 0 0 qP231 N 80 [b0, b1, b2] [(1, f273 (mu (mu m (m b0 14) (s32 (190 + b1)) (s32 (s32 ((m (m b0 14) (s32 (190 + b1))) - 1)))) ((mu m (m b0 14) (s32 (190 + b1)) (s32 (s32 ((m (m b0 14) (s32 (190 + b1))) - 1)))) b0 14) (s32 (182 + b1)) (s32 2)) b0 b1 1), (1, 8), (1, 94)] (mu (mu m (m b0 14) (s32 (190 + b1)) (s32 (s32 ((m (m b0 14) (s32 (190 + b1))) - 1)))) ((mu m (m b0 14) (s32 (190 + b1)) (s32 (s32 ((m (m b0 14) (s32 (190 + b1))) - 1)))) b0 14) (s32 (182 + b1)) (s32 2)) o := h
        have h := CR_imul h rfl
        have h : MR X ρ 3 0 0 qP231 N 81 [b0, b1, b2] [(1, s32 (8 * (f273 (mu (mu m (m b0 14) (s32 (190 + b1)) (s32 (s32 ((m (m b0 14) (s32 (190 + b1))) - 1)))) ((mu m (m b0 14) (s32 (190 + b1)) (s32 (s32 ((m (m b0 14) (s32 (190 + b1))) - 1)))) b0 14) (s32 (182 + b1)) (s32 2)) b0 b1 1))), (1, 94)] (mu (mu m (m b0 14) (s32 (190 + b1)) (s32 (s32 ((m (m b0 14) (s32 (190 + b1))) - 1)))) ((mu m (m b0 14) (s32 (190 + b1)) (s32 (s32 ((m (m b0 14) (s32 (190 + b1))) - 1)))) b0 14) (s32 (182 + b1)) (s32 2)) o := h
        have h := CR_iadd h rfl
        have h : MR X ρ 3 0 0 qP231 N 82 [b0, b1, b2] [(1, s32 (94 + (s32 (8 * (f273 (mu (mu m (m b0 14) (s32 (190 + b1)) (s32 (s32 ((m (m b0 14) (s32 (190 + b1))) - 1)))) ((mu m (m b0 14) (s32 (190 + b1)) (s32 (s32 ((m (m b0 14) (s32 (190 + b1))) - 1)))) b0 14) (s32 (182 + b1)) (s32 2)) b0 b1 1)))))] (mu (mu m (m b0 14) (s32 (190 + b1)) (s32 (s32 ((m (m b0 14) (s32 (190 + b1))) - 1)))) ((mu m (m b0 14) (s32 (190 + b1)) (s32 (s32 ((m (m b0 14) (s32 (190 + b1))) - 1)))) b0 14) (s32 (182 + b1)) (s32 2)) o := h
        have h := CR_aload_n h rfl
        have h : MR X ρ 3 0 0 qP231 N 83 [b0, b1, b2] [(1, b0), (1, s32 (94 + (s32 (8 * (f273 (mu (mu m (m b0 14) (s32 (190 + b1)) (s32 (s32 ((m (m b0 14) (s32 (190 + b1))) - 1)))) ((mu m (m b0 14) (s32 (190 + b1)) (s32 (s32 ((m (m b0 14) (s32 (190 + b1))) - 1)))) b0 14) (s32 (182 + b1)) (s32 2)) b0 b1 1)))))] (mu (mu m (m b0 14) (s32 (190 + b1)) (s32 (s32 ((m (m b0 14) (s32 (190 + b1))) - 1)))) ((mu m (m b0 14) (s32 (190 + b1)) (s32 (s32 ((m (m b0 14) (s32 (190 + b1))) - 1)))) b0 14) (s32 (182 + b1)) (s32 2)) o := h
        have h := CR_getf h rfl (by decide)
        have h : MR X ρ 3 0 0 qP231 N 86 [b0, b1, b2] [(1, (mu (mu m (m b0 14) (s32 (190 + b1)) (s32 (s32 ((m (m b0 14) (s32 (190 + b1))) - 1)))) ((mu m (m b0 14) (s32 (190 + b1)) (s32 (s32 ((m (m b0 14) (s32 (190 + b1))) - 1)))) b0 14) (s32 (182 + b1)) (s32 2)) b0 14), (1, s32 (94 + (s32 (8 * (f273 (mu (mu m (m b0 14) (s32 (190 + b1)) (s32 (s32 ((m (m b0 14) (s32 (190 + b1))) - 1)))) ((mu m (m b0 14) (s32 (190 + b1)) (s32 (s32 ((m (m b0 14) (s32 (190 + b1))) - 1)))) b0 14) (s32 (182 + b1)) (s32 2)) b0 b1 1)))))] (mu (mu m (m b0 14) (s32 (190 + b1)) (s32 (s32 ((m (m b0 14) (s32 (190 + b1))) - 1)))) ((mu m (m b0 14) (s32 (190 + b1)) (s32 (s32 ((m (m b0 14) (s32 (190 + b1))) - 1)))) b0 14) (s32 (182 + b1)) (s32 2)) o := h
        have h := CR_bipush h rfl rfl
        have h : MR X ρ 3 0 0 qP231 N 88 [b0, b1, b2] [(1, 76), (1, (mu (mu m (m b0 14) (s32 (190 + b1)) (s32 (s32 ((m (m b0 14) (s32 (190 + b1))) - 1)))) ((mu m (m b0 14) (s32 (190 + b1)) (s32 (s32 ((m (m b0 14) (s32 (190 + b1))) - 1)))) b0 14) (s32 (182 + b1)) (s32 2)) b0 14), (1, s32 (94 + (s32 (8 * (f273 (mu (mu m (m b0 14) (s32 (190 + b1)) (s32 (s32 ((m (m b0 14) (s32 (190 + b1))) - 1)))) ((mu m (m b0 14) (s32 (190 + b1)) (s32 (s32 ((m (m b0 14) (s32 (190 + b1))) - 1)))) b0 14) (s32 (182 + b1)) (s32 2)) b0 b1 1)))))] (mu (mu m (m b0 14) (s32 (190 + b1)) (s32 (s32 ((m (m b0 14) (s32 (190 + b1))) - 1)))) ((mu m (m b0 14) (s32 (190 + b1)) (s32 (s32 ((m (m b0 14) (s32 (190 + b1))) - 1)))) b0 14) (s32 (182 + b1)) (s32 2)) o := h
        have h := CR_iload_n h rfl
        have h : MR X ρ 3 0 0 qP231 N 89 [b0, b1, b2] [(1, b1), (1, 76), (1, (mu (mu m (m b0 14) (s32 (190 + b1)) (s32 (s32 ((m (m b0 14) (s32 (190 + b1))) - 1)))) ((mu m (m b0 14) (s32 (190 + b1)) (s32 (s32 ((m (m b0 14) (s32 (190 + b1))) - 1)))) b0 14) (s32 (182 + b1)) (s32 2)) b0 14), (1, s32 (94 + (s32 (8 * (f273 (mu (mu m (m b0 14) (s32 (190 + b1)) (s32 (s32 ((m (m b0 14) (s32 (190 + b1))) - 1)))) ((mu m (m b0 14) (s32 (190 + b1)) (s32 (s32 ((m (m b0 14) (s32 (190 + b1))) - 1)))) b0 14) (s32 (182 + b1)) (s32 2)) b0 b1 1)))))] (mu (mu m (m b0 14) (s32 (190 + b1)) (s32 (s32 ((m (m b0 14) (s32 (190 + b1))) - 1)))) ((mu m (m b0 14) (s32 (190 + b1)) (s32 (s32 ((m (m b0 14) (s32 (190 + b1))) - 1)))) b0 14) (s32 (182 + b1)) (s32 2)) o := h
        have h := CR_iadd h rfl
        have h : MR X ρ 3 0 0 qP231 N 90 [b0, b1, b2] [(1, s32 (76 + b1)), (1, (mu (mu m (m b0 14) (s32 (190 + b1)) (s32 (s32 ((m (m b0 14) (s32 (190 + b1))) - 1)))) ((mu m (m b0 14) (s32 (190 + b1)) (s32 (s32 ((m (m b0 14) (s32 (190 + b1))) - 1)))) b0 14) (s32 (182 + b1)) (s32 2)) b0 14), (1, s32 (94 + (s32 (8 * (f273 (mu (mu m (m b0 14) (s32 (190 + b1)) (s32 (s32 ((m (m b0 14) (s32 (190 + b1))) - 1)))) ((mu m (m b0 14) (s32 (190 + b1)) (s32 (s32 ((m (m b0 14) (s32 (190 + b1))) - 1)))) b0 14) (s32 (182 + b1)) (s32 2)) b0 b1 1)))))] (mu (mu m (m b0 14) (s32 (190 + b1)) (s32 (s32 ((m (m b0 14) (s32 (190 + b1))) - 1)))) ((mu m (m b0 14) (s32 (190 + b1)) (s32 (s32 ((m (m b0 14) (s32 (190 + b1))) - 1)))) b0 14) (s32 (182 + b1)) (s32 2)) o := h
        have h := CR_iaload h rfl rfl
        have h : MR X ρ 3 0 0 qP231 N 91 [b0, b1, b2] [(1, (mu (mu m (m b0 14) (s32 (190 + b1)) (s32 (s32 ((m (m b0 14) (s32 (190 + b1))) - 1)))) ((mu m (m b0 14) (s32 (190 + b1)) (s32 (s32 ((m (m b0 14) (s32 (190 + b1))) - 1)))) b0 14) (s32 (182 + b1)) (s32 2)) ((mu (mu m (m b0 14) (s32 (190 + b1)) (s32 (s32 ((m (m b0 14) (s32 (190 + b1))) - 1)))) ((mu m (m b0 14) (s32 (190 + b1)) (s32 (s32 ((m (m b0 14) (s32 (190 + b1))) - 1)))) b0 14) (s32 (182 + b1)) (s32 2)) b0 14) (s32 (76 + b1))), (1, s32 (94 + (s32 (8 * (f273 (mu (mu m (m b0 14) (s32 (190 + b1)) (s32 (s32 ((m (m b0 14) (s32 (190 + b1))) - 1)))) ((mu m (m b0 14) (s32 (190 + b1)) (s32 (s32 ((m (m b0 14) (s32 (190 + b1))) - 1)))) b0 14) (s32 (182 + b1)) (s32 2)) b0 b1 1)))))] (mu (mu m (m b0 14) (s32 (190 + b1)) (s32 (s32 ((m (m b0 14) (s32 (190 + b1))) - 1)))) ((mu m (m b0 14) (s32 (190 + b1)) (s32 (s32 ((m (m b0 14) (s32 (190 + b1))) - 1)))) b0 14) (s32 (182 + b1)) (s32 2)) o := h
        have h := CR_iadd h rfl
        have h : MR X ρ 3 0 0 qP231 N 92 [b0, b1, b2] [(1, s32 ((s32 (94 + (s32 (8 * (f273 (mu (mu m (m b0 14) (s32 (190 + b1)) (s32 (s32 ((m (m b0 14) (s32 (190 + b1))) - 1)))) ((mu m (m b0 14) (s32 (190 + b1)) (s32 (s32 ((m (m b0 14) (s32 (190 + b1))) - 1)))) b0 14) (s32 (182 + b1)) (s32 2)) b0 b1 1))))) + ((mu (mu m (m b0 14) (s32 (190 + b1)) (s32 (s32 ((m (m b0 14) (s32 (190 + b1))) - 1)))) ((mu m (m b0 14) (s32 (190 + b1)) (s32 (s32 ((m (m b0 14) (s32 (190 + b1))) - 1)))) b0 14) (s32 (182 + b1)) (s32 2)) ((mu (mu m (m b0 14) (s32 (190 + b1)) (s32 (s32 ((m (m b0 14) (s32 (190 + b1))) - 1)))) ((mu m (m b0 14) (s32 (190 + b1)) (s32 (s32 ((m (m b0 14) (s32 (190 + b1))) - 1)))) b0 14) (s32 (182 + b1)) (s32 2)) b0 14) (s32 (76 + b1)))))] (mu (mu m (m b0 14) (s32 (190 + b1)) (s32 (s32 ((m (m b0 14) (s32 (190 + b1))) - 1)))) ((mu m (m b0 14) (s32 (190 + b1)) (s32 (s32 ((m (m b0 14) (s32 (190 + b1))) - 1)))) b0 14) (s32 (182 + b1)) (s32 2)) o := h
        have h := CR_istore_n h rfl (Nat.le_of_ble_eq_true rfl)
        have h : MR X ρ 3 0 0 qP231 N 93 [b0, b1, s32 ((s32 (94 + (s32 (8 * (f273 (mu (mu m (m b0 14) (s32 (190 + b1)) (s32 (s32 ((m (m b0 14) (s32 (190 + b1))) - 1)))) ((mu m (m b0 14) (s32 (190 + b1)) (s32 (s32 ((m (m b0 14) (s32 (190 + b1))) - 1)))) b0 14) (s32 (182 + b1)) (s32 2)) b0 b1 1))))) + ((mu (mu m (m b0 14) (s32 (190 + b1)) (s32 (s32 ((m (m b0 14) (s32 (190 + b1))) - 1)))) ((mu m (m b0 14) (s32 (190 + b1)) (s32 (s32 ((m (m b0 14) (s32 (190 + b1))) - 1)))) b0 14) (s32 (182 + b1)) (s32 2)) ((mu (mu m (m b0 14) (s32 (190 + b1)) (s32 (s32 ((m (m b0 14) (s32 (190 + b1))) - 1)))) ((mu m (m b0 14) (s32 (190 + b1)) (s32 (s32 ((m (m b0 14) (s32 (190 + b1))) - 1)))) b0 14) (s32 (182 + b1)) (s32 2)) b0 14) (s32 (76 + b1))))] [] (mu (mu m (m b0 14) (s32 (190 + b1)) (s32 (s32 ((m (m b0 14) (s32 (190 + b1))) - 1)))) ((mu m (m b0 14) (s32 (190 + b1)) (s32 (s32 ((m (m b0 14) (s32 (190 + b1))) - 1)))) b0 14) (s32 (182 + b1)) (s32 2)) o := h
        have h := CR_aload_n h rfl
        have h : MR X ρ 3 0 0 qP231 N 94 [b0, b1, s32 ((s32 (94 + (s32 (8 * (f273 (mu (mu m (m b0 14) (s32 (190 + b1)) (s32 (s32 ((m (m b0 14) (s32 (190 + b1))) - 1)))) ((mu m (m b0 14) (s32 (190 + b1)) (s32 (s32 ((m (m b0 14) (s32 (190 + b1))) - 1)))) b0 14) (s32 (182 + b1)) (s32 2)) b0 b1 1))))) + ((mu (mu m (m b0 14) (s32 (190 + b1)) (s32 (s32 ((m (m b0 14) (s32 (190 + b1))) - 1)))) ((mu m (m b0 14) (s32 (190 + b1)) (s32 (s32 ((m (m b0 14) (s32 (190 + b1))) - 1)))) b0 14) (s32 (182 + b1)) (s32 2)) ((mu (mu m (m b0 14) (s32 (190 + b1)) (s32 (s32 ((m (m b0 14) (s32 (190 + b1))) - 1)))) ((mu m (m b0 14) (s32 (190 + b1)) (s32 (s32 ((m (m b0 14) (s32 (190 + b1))) - 1)))) b0 14) (s32 (182 + b1)) (s32 2)) b0 14) (s32 (76 + b1))))] [(1, b0)] (mu (mu m (m b0 14) (s32 (190 + b1)) (s32 (s32 ((m (m b0 14) (s32 (190 + b1))) - 1)))) ((mu m (m b0 14) (s32 (190 + b1)) (s32 (s32 ((m (m b0 14) (s32 (190 + b1))) - 1)))) b0 14) (s32 (182 + b1)) (s32 2)) o := h
        have h := CR_getf h rfl (by decide)
        have h : MR X ρ 3 0 0 qP231 N 97 [b0, b1, s32 ((s32 (94 + (s32 (8 * (f273 (mu (mu m (m b0 14) (s32 (190 + b1)) (s32 (s32 ((m (m b0 14) (s32 (190 + b1))) - 1)))) ((mu m (m b0 14) (s32 (190 + b1)) (s32 (s32 ((m (m b0 14) (s32 (190 + b1))) - 1)))) b0 14) (s32 (182 + b1)) (s32 2)) b0 b1 1))))) + ((mu (mu m (m b0 14) (s32 (190 + b1)) (s32 (s32 ((m (m b0 14) (s32 (190 + b1))) - 1)))) ((mu m (m b0 14) (s32 (190 + b1)) (s32 (s32 ((m (m b0 14) (s32 (190 + b1))) - 1)))) b0 14) (s32 (182 + b1)) (s32 2)) ((mu (mu m (m b0 14) (s32 (190 + b1)) (s32 (s32 ((m (m b0 14) (s32 (190 + b1))) - 1)))) ((mu m (m b0 14) (s32 (190 + b1)) (s32 (s32 ((m (m b0 14) (s32 (190 + b1))) - 1)))) b0 14) (s32 (182 + b1)) (s32 2)) b0 14) (s32 (76 + b1))))] [(1, (mu (mu m (m b0 14) (s32 (190 + b1)) (s32 (s32 ((m (m b0 14) (s32 (190 + b1))) - 1)))) ((mu m (m b0 14) (s32 (190 + b1)) (s32 (s32 ((m (m b0 14) (s32 (190 + b1))) - 1)))) b0 14) (s32 (182 + b1)) (s32 2)) b0 14)] (mu (mu m (m b0 14) (s32 (190 + b1)) (s32 (s32 ((m (m b0 14) (s32 (190 + b1))) - 1)))) ((mu m (m b0 14) (s32 (190 + b1)) (s32 (s32 ((m (m b0 14) (s32 (190 + b1))) - 1)))) b0 14) (s32 (182 + b1)) (s32 2)) o := h
        have h := CR_iload_n h rfl
        have h : MR X ρ 3 0 0 qP231 N 98 [b0, b1, s32 ((s32 (94 + (s32 (8 * (f273 (mu (mu m (m b0 14) (s32 (190 + b1)) (s32 (s32 ((m (m b0 14) (s32 (190 + b1))) - 1)))) ((mu m (m b0 14) (s32 (190 + b1)) (s32 (s32 ((m (m b0 14) (s32 (190 + b1))) - 1)))) b0 14) (s32 (182 + b1)) (s32 2)) b0 b1 1))))) + ((mu (mu m (m b0 14) (s32 (190 + b1)) (s32 (s32 ((m (m b0 14) (s32 (190 + b1))) - 1)))) ((mu m (m b0 14) (s32 (190 + b1)) (s32 (s32 ((m (m b0 14) (s32 (190 + b1))) - 1)))) b0 14) (s32 (182 + b1)) (s32 2)) ((mu (mu m (m b0 14) (s32 (190 + b1)) (s32 (s32 ((m (m b0 14) (s32 (190 + b1))) - 1)))) ((mu m (m b0 14) (s32 (190 + b1)) (s32 (s32 ((m (m b0 14) (s32 (190 + b1))) - 1)))) b0 14) (s32 (182 + b1)) (s32 2)) b0 14) (s32 (76 + b1))))] [(1, s32 ((s32 (94 + (s32 (8 * (f273 (mu (mu m (m b0 14) (s32 (190 + b1)) (s32 (s32 ((m (m b0 14) (s32 (190 + b1))) - 1)))) ((mu m (m b0 14) (s32 (190 + b1)) (s32 (s32 ((m (m b0 14) (s32 (190 + b1))) - 1)))) b0 14) (s32 (182 + b1)) (s32 2)) b0 b1 1))))) + ((mu (mu m (m b0 14) (s32 (190 + b1)) (s32 (s32 ((m (m b0 14) (s32 (190 + b1))) - 1)))) ((mu m (m b0 14) (s32 (190 + b1)) (s32 (s32 ((m (m b0 14) (s32 (190 + b1))) - 1)))) b0 14) (s32 (182 + b1)) (s32 2)) ((mu (mu m (m b0 14) (s32 (190 + b1)) (s32 (s32 ((m (m b0 14) (s32 (190 + b1))) - 1)))) ((mu m (m b0 14) (s32 (190 + b1)) (s32 (s32 ((m (m b0 14) (s32 (190 + b1))) - 1)))) b0 14) (s32 (182 + b1)) (s32 2)) b0 14) (s32 (76 + b1))))), (1, (mu (mu m (m b0 14) (s32 (190 + b1)) (s32 (s32 ((m (m b0 14) (s32 (190 + b1))) - 1)))) ((mu m (m b0 14) (s32 (190 + b1)) (s32 (s32 ((m (m b0 14) (s32 (190 + b1))) - 1)))) b0 14) (s32 (182 + b1)) (s32 2)) b0 14)] (mu (mu m (m b0 14) (s32 (190 + b1)) (s32 (s32 ((m (m b0 14) (s32 (190 + b1))) - 1)))) ((mu m (m b0 14) (s32 (190 + b1)) (s32 (s32 ((m (m b0 14) (s32 (190 + b1))) - 1)))) b0 14) (s32 (182 + b1)) (s32 2)) o := h
        have h := CR_bipush h rfl rfl
        have h : MR X ρ 3 0 0 qP231 N 100 [b0, b1, s32 ((s32 (94 + (s32 (8 * (f273 (mu (mu m (m b0 14) (s32 (190 + b1)) (s32 (s32 ((m (m b0 14) (s32 (190 + b1))) - 1)))) ((mu m (m b0 14) (s32 (190 + b1)) (s32 (s32 ((m (m b0 14) (s32 (190 + b1))) - 1)))) b0 14) (s32 (182 + b1)) (s32 2)) b0 b1 1))))) + ((mu (mu m (m b0 14) (s32 (190 + b1)) (s32 (s32 ((m (m b0 14) (s32 (190 + b1))) - 1)))) ((mu m (m b0 14) (s32 (190 + b1)) (s32 (s32 ((m (m b0 14) (s32 (190 + b1))) - 1)))) b0 14) (s32 (182 + b1)) (s32 2)) ((mu (mu m (m b0 14) (s32 (190 + b1)) (s32 (s32 ((m (m b0 14) (s32 (190 + b1))) - 1)))) ((mu m (m b0 14) (s32 (190 + b1)) (s32 (s32 ((m (m b0 14) (s32 (190 + b1))) - 1)))) b0 14) (s32 (182 + b1)) (s32 2)) b0 14) (s32 (76 + b1))))] [(1, 9), (1, s32 ((s32 (94 + (s32 (8 * (f273 (mu (mu m (m b0 14) (s32 (190 + b1)) (s32 (s32 ((m (m b0 14) (s32 (190 + b1))) - 1)))) ((mu m (m b0 14) (s32 (190 + b1)) (s32 (s32 ((m (m b0 14) (s32 (190 + b1))) - 1)))) b0 14) (s32 (182 + b1)) (s32 2)) b0 b1 1))))) + ((mu (mu m (m b0 14) (s32 (190 + b1)) (s32 (s32 ((m (m b0 14) (s32 (190 + b1))) - 1)))) ((mu m (m b0 14) (s32 (190 + b1)) (s32 (s32 ((m (m b0 14) (s32 (190 + b1))) - 1)))) b0 14) (s32 (182 + b1)) (s32 2)) ((mu (mu m (m b0 14) (s32 (190 + b1)) (s32 (s32 ((m (m b0 14) (s32 (190 + b1))) - 1)))) ((mu m (m b0 14) (s32 (190 + b1)) (s32 (s32 ((m (m b0 14) (s32 (190 + b1))) - 1)))) b0 14) (s32 (182 + b1)) (s32 2)) b0 14) (s32 (76 + b1))))), (1, (mu (mu m (m b0 14) (s32 (190 + b1)) (s32 (s32 ((m (m b0 14) (s32 (190 + b1))) - 1)))) ((mu m (m b0 14) (s32 (190 + b1)) (s32 (s32 ((m (m b0 14) (s32 (190 + b1))) - 1)))) b0 14) (s32 (182 + b1)) (s32 2)) b0 14)] (mu (mu m (m b0 14) (s32 (190 + b1)) (s32 (s32 ((m (m b0 14) (s32 (190 + b1))) - 1)))) ((mu m (m b0 14) (s32 (190 + b1)) (s32 (s32 ((m (m b0 14) (s32 (190 + b1))) - 1)))) b0 14) (s32 (182 + b1)) (s32 2)) o := h
        have h := CR_aload_n h rfl
        have h : MR X ρ 3 0 0 qP231 N 101 [b0, b1, s32 ((s32 (94 + (s32 (8 * (f273 (mu (mu m (m b0 14) (s32 (190 + b1)) (s32 (s32 ((m (m b0 14) (s32 (190 + b1))) - 1)))) ((mu m (m b0 14) (s32 (190 + b1)) (s32 (s32 ((m (m b0 14) (s32 (190 + b1))) - 1)))) b0 14) (s32 (182 + b1)) (s32 2)) b0 b1 1))))) + ((mu (mu m (m b0 14) (s32 (190 + b1)) (s32 (s32 ((m (m b0 14) (s32 (190 + b1))) - 1)))) ((mu m (m b0 14) (s32 (190 + b1)) (s32 (s32 ((m (m b0 14) (s32 (190 + b1))) - 1)))) b0 14) (s32 (182 + b1)) (s32 2)) ((mu (mu m (m b0 14) (s32 (190 + b1)) (s32 (s32 ((m (m b0 14) (s32 (190 + b1))) - 1)))) ((mu m (m b0 14) (s32 (190 + b1)) (s32 (s32 ((m (m b0 14) (s32 (190 + b1))) - 1)))) b0 14) (s32 (182 + b1)) (s32 2)) b0 14) (s32 (76 + b1))))] [(1, b0), (1, 9), (1, s32 ((s32 (94 + (s32 (8 * (f273 (mu (mu m (m b0 14) (s32 (190 + b1)) (s32 (s32 ((m (m b0 14) (s32 (190 + b1))) - 1)))) ((mu m (m b0 14) (s32 (190 + b1)) (s32 (s32 ((m (m b0 14) (s32 (190 + b1))) - 1)))) b0 14) (s32 (182 + b1)) (s32 2)) b0 b1 1))))) + ((mu (mu m (m b0 14) (s32 (190 + b1)) (s32 (s32 ((m (m b0 14) (s32 (190 + b1))) - 1)))) ((mu m (m b0 14) (s32 (190 + b1)) (s32 (s32 ((m (m b0 14) (s32 (190 + b1))) - 1)))) b0 14) (s32 (182 + b1)) (s32 2)) ((mu (mu m (m b0 14) (s32 (190 + b1)) (s32 (s32 ((m (m b0 14) (s32 (190 + b1))) - 1)))) ((mu m (m b0 14) (s32 (190 + b1)) (s32 (s32 ((m (m b0 14) (s32 (190 + b1))) - 1)))) b0 14) (s32 (182 + b1)) (s32 2)) b0 14) (s32 (76 + b1))))), (1, (mu (mu m (m b0 14) (s32 (190 + b1)) (s32 (s32 ((m (m b0 14) (s32 (190 + b1))) - 1)))) ((mu m (m b0 14) (s32 (190 + b1)) (s32 (s32 ((m (m b0 14) (s32 (190 + b1))) - 1)))) b0 14) (s32 (182 + b1)) (s32 2)) b0 14)] (mu (mu m (m b0 14) (s32 (190 + b1)) (s32 (s32 ((m (m b0 14) (s32 (190 + b1))) - 1)))) ((mu m (m b0 14) (s32 (190 + b1)) (s32 (s32 ((m (m b0 14) (s32 (190 + b1))) - 1)))) b0 14) (s32 (182 + b1)) (s32 2)) o := h
        have h := CR_getf h rfl (by decide)
        have h : MR X ρ 3 0 0 qP231 N 104 [b0, b1, s32 ((s32 (94 + (s32 (8 * (f273 (mu (mu m (m b0 14) (s32 (190 + b1)) (s32 (s32 ((m (m b0 14) (s32 (190 + b1))) - 1)))) ((mu m (m b0 14) (s32 (190 + b1)) (s32 (s32 ((m (m b0 14) (s32 (190 + b1))) - 1)))) b0 14) (s32 (182 + b1)) (s32 2)) b0 b1 1))))) + ((mu (mu m (m b0 14) (s32 (190 + b1)) (s32 (s32 ((m (m b0 14) (s32 (190 + b1))) - 1)))) ((mu m (m b0 14) (s32 (190 + b1)) (s32 (s32 ((m (m b0 14) (s32 (190 + b1))) - 1)))) b0 14) (s32 (182 + b1)) (s32 2)) ((mu (mu m (m b0 14) (s32 (190 + b1)) (s32 (s32 ((m (m b0 14) (s32 (190 + b1))) - 1)))) ((mu m (m b0 14) (s32 (190 + b1)) (s32 (s32 ((m (m b0 14) (s32 (190 + b1))) - 1)))) b0 14) (s32 (182 + b1)) (s32 2)) b0 14) (s32 (76 + b1))))] [(1, (mu (mu m (m b0 14) (s32 (190 + b1)) (s32 (s32 ((m (m b0 14) (s32 (190 + b1))) - 1)))) ((mu m (m b0 14) (s32 (190 + b1)) (s32 (s32 ((m (m b0 14) (s32 (190 + b1))) - 1)))) b0 14) (s32 (182 + b1)) (s32 2)) b0 14), (1, 9), (1, s32 ((s32 (94 + (s32 (8 * (f273 (mu (mu m (m b0 14) (s32 (190 + b1)) (s32 (s32 ((m (m b0 14) (s32 (190 + b1))) - 1)))) ((mu m (m b0 14) (s32 (190 + b1)) (s32 (s32 ((m (m b0 14) (s32 (190 + b1))) - 1)))) b0 14) (s32 (182 + b1)) (s32 2)) b0 b1 1))))) + ((mu (mu m (m b0 14) (s32 (190 + b1)) (s32 (s32 ((m (m b0 14) (s32 (190 + b1))) - 1)))) ((mu m (m b0 14) (s32 (190 + b1)) (s32 (s32 ((m (m b0 14) (s32 (190 + b1))) - 1)))) b0 14) (s32 (182 + b1)) (s32 2)) ((mu (mu m (m b0 14) (s32 (190 + b1)) (s32 (s32 ((m (m b0 14) (s32 (190 + b1))) - 1)))) ((mu m (m b0 14) (s32 (190 + b1)) (s32 (s32 ((m (m b0 14) (s32 (190 + b1))) - 1)))) b0 14) (s32 (182 + b1)) (s32 2)) b0 14) (s32 (76 + b1))))), (1, (mu (mu m (m b0 14) (s32 (190 + b1)) (s32 (s32 ((m (m b0 14) (s32 (190 + b1))) - 1)))) ((mu m (m b0 14) (s32 (190 + b1)) (s32 (s32 ((m (m b0 14) (s32 (190 + b1))) - 1)))) b0 14) (s32 (182 + b1)) (s32 2)) b0 14)] (mu (mu m (m b0 14) (s32 (190 + b1)) (s32 (s32 ((m (m b0 14) (s32 (190 + b1))) - 1)))) ((mu m (m b0 14) (s32 (190 + b1)) (s32 (s32 ((m (m b0 14) (s32 (190 + b1))) - 1)))) b0 14) (s32 (182 + b1)) (s32 2)) o := h
        have h := CR_iload_n h rfl
        have h : MR X ρ 3 0 0 qP231 N 105 [b0, b1, s32 ((s32 (94 + (s32 (8 * (f273 (mu (mu m (m b0 14) (s32 (190 + b1)) (s32 (s32 ((m (m b0 14) (s32 (190 + b1))) - 1)))) ((mu m (m b0 14) (s32 (190 + b1)) (s32 (s32 ((m (m b0 14) (s32 (190 + b1))) - 1)))) b0 14) (s32 (182 + b1)) (s32 2)) b0 b1 1))))) + ((mu (mu m (m b0 14) (s32 (190 + b1)) (s32 (s32 ((m (m b0 14) (s32 (190 + b1))) - 1)))) ((mu m (m b0 14) (s32 (190 + b1)) (s32 (s32 ((m (m b0 14) (s32 (190 + b1))) - 1)))) b0 14) (s32 (182 + b1)) (s32 2)) ((mu (mu m (m b0 14) (s32 (190 + b1)) (s32 (s32 ((m (m b0 14) (s32 (190 + b1))) - 1)))) ((mu m (m b0 14) (s32 (190 + b1)) (s32 (s32 ((m (m b0 14) (s32 (190 + b1))) - 1)))) b0 14) (s32 (182 + b1)) (s32 2)) b0 14) (s32 (76 + b1))))] [(1, s32 ((s32 (94 + (s32 (8 * (f273 (mu (mu m (m b0 14) (s32 (190 + b1)) (s32 (s32 ((m (m b0 14) (s32 (190 + b1))) - 1)))) ((mu m (m b0 14) (s32 (190 + b1)) (s32 (s32 ((m (m b0 14) (s32 (190 + b1))) - 1)))) b0 14) (s32 (182 + b1)) (s32 2)) b0 b1 1))))) + ((mu (mu m (m b0 14) (s32 (190 + b1)) (s32 (s32 ((m (m b0 14) (s32 (190 + b1))) - 1)))) ((mu m (m b0 14) (s32 (190 + b1)) (s32 (s32 ((m (m b0 14) (s32 (190 + b1))) - 1)))) b0 14) (s32 (182 + b1)) (s32 2)) ((mu (mu m (m b0 14) (s32 (190 + b1)) (s32 (s32 ((m (m b0 14) (s32 (190 + b1))) - 1)))) ((mu m (m b0 14) (s32 (190 + b1)) (s32 (s32 ((m (m b0 14) (s32 (190 + b1))) - 1)))) b0 14) (s32 (182 + b1)) (s32 2)) b0 14) (s32 (76 + b1))))), (1, (mu (mu m (m b0 14) (s32 (190 + b1)) (s32 (s32 ((m (m b0 14) (s32 (190 + b1))) - 1)))) ((mu m (m b0 14) (s32 (190 + b1)) (s32 (s32 ((m (m b0 14) (s32 (190 + b1))) - 1)))) b0 14) (s32 (182 + b1)) (s32 2)) b0 14), (1, 9), (1, s32 ((s32 (94 + (s32 (8 * (f273 (mu (mu m (m b0 14) (s32 (190 + b1)) (s32 (s32 ((m (m b0 14) (s32 (190 + b1))) - 1)))) ((mu m (m b0 14) (s32 (190 + b1)) (s32 (s32 ((m (m b0 14) (s32 (190 + b1))) - 1)))) b0 14) (s32 (182 + b1)) (s32 2)) b0 b1 1))))) + ((mu (mu m (m b0 14) (s32 (190 + b1)) (s32 (s32 ((m (m b0 14) (s32 (190 + b1))) - 1)))) ((mu m (m b0 14) (s32 (190 + b1)) (s32 (s32 ((m (m b0 14) (s32 (190 + b1))) - 1)))) b0 14) (s32 (182 + b1)) (s32 2)) ((mu (mu m (m b0 14) (s32 (190 + b1)) (s32 (s32 ((m (m b0 14) (s32 (190 + b1))) - 1)))) ((mu m (m b0 14) (s32 (190 + b1)) (s32 (s32 ((m (m b0 14) (s32 (190 + b1))) - 1)))) b0 14) (s32 (182 + b1)) (s32 2)) b0 14) (s32 (76 + b1))))), (1, (mu (mu m (m b0 14) (s32 (190 + b1)) (s32 (s32 ((m (m b0 14) (s32 (190 + b1))) - 1)))) ((mu m (m b0 14) (s32 (190 + b1)) (s32 (s32 ((m (m b0 14) (s32 (190 + b1))) - 1)))) b0 14) (s32 (182 + b1)) (s32 2)) b0 14)] (mu (mu m (m b0 14) (s32 (190 + b1)) (s32 (s32 ((m (m b0 14) (s32 (190 + b1))) - 1)))) ((mu m (m b0 14) (s32 (190 + b1)) (s32 (s32 ((m (m b0 14) (s32 (190 + b1))) - 1)))) b0 14) (s32 (182 + b1)) (s32 2)) o := h
        have h := CR_iaload h rfl rfl
        have h : MR X ρ 3 0 0 qP231 N 106 [b0, b1, s32 ((s32 (94 + (s32 (8 * (f273 (mu (mu m (m b0 14) (s32 (190 + b1)) (s32 (s32 ((m (m b0 14) (s32 (190 + b1))) - 1)))) ((mu m (m b0 14) (s32 (190 + b1)) (s32 (s32 ((m (m b0 14) (s32 (190 + b1))) - 1)))) b0 14) (s32 (182 + b1)) (s32 2)) b0 b1 1))))) + ((mu (mu m (m b0 14) (s32 (190 + b1)) (s32 (s32 ((m (m b0 14) (s32 (190 + b1))) - 1)))) ((mu m (m b0 14) (s32 (190 + b1)) (s32 (s32 ((m (m b0 14) (s32 (190 + b1))) - 1)))) b0 14) (s32 (182 + b1)) (s32 2)) ((mu (mu m (m b0 14) (s32 (190 + b1)) (s32 (s32 ((m (m b0 14) (s32 (190 + b1))) - 1)))) ((mu m (m b0 14) (s32 (190 + b1)) (s32 (s32 ((m (m b0 14) (s32 (190 + b1))) - 1)))) b0 14) (s32 (182 + b1)) (s32 2)) b0 14) (s32 (76 + b1))))] [(1, (mu (mu m (m b0 14) (s32 (190 + b1)) (s32 (s32 ((m (m b0 14) (s32 (190 + b1))) - 1)))) ((mu m (m b0 14) (s32 (190 + b1)) (s32 (s32 ((m (m b0 14) (s32 (190 + b1))) - 1)))) b0 14) (s32 (182 + b1)) (s32 2)) ((mu (mu m (m b0 14) (s32 (190 + b1)) (s32 (s32 ((m (m b0 14) (s32 (190 + b1))) - 1)))) ((mu m (m b0 14) (s32 (190 + b1)) (s32 (s32 ((m (m b0 14) (s32 (190 + b1))) - 1)))) b0 14) (s32 (182 + b1)) (s32 2)) b0 14) (s32 ((s32 (94 + (s32 (8 * (f273 (mu (mu m (m b0 14) (s32 (190 + b1)) (s32 (s32 ((m (m b0 14) (s32 (190 + b1))) - 1)))) ((mu m (m b0 14) (s32 (190 + b1)) (s32 (s32 ((m (m b0 14) (s32 (190 + b1))) - 1)))) b0 14) (s32 (182 + b1)) (s32 2)) b0 b1 1))))) + ((mu (mu m (m b0 14) (s32 (190 + b1)) (s32 (s32 ((m (m b0 14) (s32 (190 + b1))) - 1)))) ((mu m (m b0 14) (s32 (190 + b1)) (s32 (s32 ((m (m b0 14) (s32 (190 + b1))) - 1)))) b0 14) (s32 (182 + b1)) (s32 2)) ((mu (mu m (m b0 14) (s32 (190 + b1)) (s32 (s32 ((m (m b0 14) (s32 (190 + b1))) - 1)))) ((mu m (m b0 14) (s32 (190 + b1)) (s32 (s32 ((m (m b0 14) (s32 (190 + b1))) - 1)))) b0 14) (s32 (182 + b1)) (s32 2)) b0 14) (s32 (76 + b1)))))), (1, 9), (1, s32 ((s32 (94 + (s32 (8 * (f273 (mu (mu m (m b0 14) (s32 (190 + b1)) (s32 (s32 ((m (m b0 14) (s32 (190 + b1))) - 1)))) ((mu m (m b0 14) (s32 (190 + b1)) (s32 (s32 ((m (m b0 14) (s32 (190 + b1))) - 1)))) b0 14) (s32 (182 + b1)) (s32 2)) b0 b1 1))))) + ((mu (mu m (m b0 14) (s32 (190 + b1)) (s32 (s32 ((m (m b0 14) (s32 (190 + b1))) - 1)))) ((mu m (m b0 14) (s32 (190 + b1)) (s32 (s32 ((m (m b0 14) (s32 (190 + b1))) - 1)))) b0 14) (s32 (182 + b1)) (s32 2)) ((mu (mu m (m b0 14) (s32 (190 + b1)) (s32 (s32 ((m (m b0 14) (s32 (190 + b1))) - 1)))) ((mu m (m b0 14) (s32 (190 + b1)) (s32 (s32 ((m (m b0 14) (s32 (190 + b1))) - 1)))) b0 14) (s32 (182 + b1)) (s32 2)) b0 14) (s32 (76 + b1))))), (1, (mu (mu m (m b0 14) (s32 (190 + b1)) (s32 (s32 ((m (m b0 14) (s32 (190 + b1))) - 1)))) ((mu m (m b0 14) (s32 (190 + b1)) (s32 (s32 ((m (m b0 14) (s32 (190 + b1))) - 1)))) b0 14) (s32 (182 + b1)) (s32 2)) b0 14)] (mu (mu m (m b0 14) (s32 (190 + b1)) (s32 (s32 ((m (m b0 14) (s32 (190 + b1))) - 1)))) ((mu m (m b0 14) (s32 (190 + b1)) (s32 (s32 ((m (m b0 14) (s32 (190 + b1))) - 1)))) b0 14) (s32 (182 + b1)) (s32 2)) o := h
        have h := CR_iconst h rfl rfl
        have h : MR X ρ 3 0 0 qP231 N 107 [b0, b1, s32 ((s32 (94 + (s32 (8 * (f273 (mu (mu m (m b0 14) (s32 (190 + b1)) (s32 (s32 ((m (m b0 14) (s32 (190 + b1))) - 1)))) ((mu m (m b0 14) (s32 (190 + b1)) (s32 (s32 ((m (m b0 14) (s32 (190 + b1))) - 1)))) b0 14) (s32 (182 + b1)) (s32 2)) b0 b1 1))))) + ((mu (mu m (m b0 14) (s32 (190 + b1)) (s32 (s32 ((m (m b0 14) (s32 (190 + b1))) - 1)))) ((mu m (m b0 14) (s32 (190 + b1)) (s32 (s32 ((m (m b0 14) (s32 (190 + b1))) - 1)))) b0 14) (s32 (182 + b1)) (s32 2)) ((mu (mu m (m b0 14) (s32 (190 + b1)) (s32 (s32 ((m (m b0 14) (s32 (190 + b1))) - 1)))) ((mu m (m b0 14) (s32 (190 + b1)) (s32 (s32 ((m (m b0 14) (s32 (190 + b1))) - 1)))) b0 14) (s32 (182 + b1)) (s32 2)) b0 14) (s32 (76 + b1))))] [(1, 1), (1, (mu (mu m (m b0 14) (s32 (190 + b1)) (s32 (s32 ((m (m b0 14) (s32 (190 + b1))) - 1)))) ((mu m (m b0 14) (s32 (190 + b1)) (s32 (s32 ((m (m b0 14) (s32 (190 + b1))) - 1)))) b0 14) (s32 (182 + b1)) (s32 2)) ((mu (mu m (m b0 14) (s32 (190 + b1)) (s32 (s32 ((m (m b0 14) (s32 (190 + b1))) - 1)))) ((mu m (m b0 14) (s32 (190 + b1)) (s32 (s32 ((m (m b0 14) (s32 (190 + b1))) - 1)))) b0 14) (s32 (182 + b1)) (s32 2)) b0 14) (s32 ((s32 (94 + (s32 (8 * (f273 (mu (mu m (m b0 14) (s32 (190 + b1)) (s32 (s32 ((m (m b0 14) (s32 (190 + b1))) - 1)))) ((mu m (m b0 14) (s32 (190 + b1)) (s32 (s32 ((m (m b0 14) (s32 (190 + b1))) - 1)))) b0 14) (s32 (182 + b1)) (s32 2)) b0 b1 1))))) + ((mu (mu m (m b0 14) (s32 (190 + b1)) (s32 (s32 ((m (m b0 14) (s32 (190 + b1))) - 1)))) ((mu m (m b0 14) (s32 (190 + b1)) (s32 (s32 ((m (m b0 14) (s32 (190 + b1))) - 1)))) b0 14) (s32 (182 + b1)) (s32 2)) ((mu (mu m (m b0 14) (s32 (190 + b1)) (s32 (s32 ((m (m b0 14) (s32 (190 + b1))) - 1)))) ((mu m (m b0 14) (s32 (190 + b1)) (s32 (s32 ((m (m b0 14) (s32 (190 + b1))) - 1)))) b0 14) (s32 (182 + b1)) (s32 2)) b0 14) (s32 (76 + b1)))))), (1, 9), (1, s32 ((s32 (94 + (s32 (8 * (f273 (mu (mu m (m b0 14) (s32 (190 + b1)) (s32 (s32 ((m (m b0 14) (s32 (190 + b1))) - 1)))) ((mu m (m b0 14) (s32 (190 + b1)) (s32 (s32 ((m (m b0 14) (s32 (190 + b1))) - 1)))) b0 14) (s32 (182 + b1)) (s32 2)) b0 b1 1))))) + ((mu (mu m (m b0 14) (s32 (190 + b1)) (s32 (s32 ((m (m b0 14) (s32 (190 + b1))) - 1)))) ((mu m (m b0 14) (s32 (190 + b1)) (s32 (s32 ((m (m b0 14) (s32 (190 + b1))) - 1)))) b0 14) (s32 (182 + b1)) (s32 2)) ((mu (mu m (m b0 14) (s32 (190 + b1)) (s32 (s32 ((m (m b0 14) (s32 (190 + b1))) - 1)))) ((mu m (m b0 14) (s32 (190 + b1)) (s32 (s32 ((m (m b0 14) (s32 (190 + b1))) - 1)))) b0 14) (s32 (182 + b1)) (s32 2)) b0 14) (s32 (76 + b1))))), (1, (mu (mu m (m b0 14) (s32 (190 + b1)) (s32 (s32 ((m (m b0 14) (s32 (190 + b1))) - 1)))) ((mu m (m b0 14) (s32 (190 + b1)) (s32 (s32 ((m (m b0 14) (s32 (190 + b1))) - 1)))) b0 14) (s32 (182 + b1)) (s32 2)) b0 14)] (mu (mu m (m b0 14) (s32 (190 + b1)) (s32 (s32 ((m (m b0 14) (s32 (190 + b1))) - 1)))) ((mu m (m b0 14) (s32 (190 + b1)) (s32 (s32 ((m (m b0 14) (s32 (190 + b1))) - 1)))) b0 14) (s32 (182 + b1)) (s32 2)) o := h
        have h := CR_iadd h rfl
        have h : MR X ρ 3 0 0 qP231 N 108 [b0, b1, s32 ((s32 (94 + (s32 (8 * (f273 (mu (mu m (m b0 14) (s32 (190 + b1)) (s32 (s32 ((m (m b0 14) (s32 (190 + b1))) - 1)))) ((mu m (m b0 14) (s32 (190 + b1)) (s32 (s32 ((m (m b0 14) (s32 (190 + b1))) - 1)))) b0 14) (s32 (182 + b1)) (s32 2)) b0 b1 1))))) + ((mu (mu m (m b0 14) (s32 (190 + b1)) (s32 (s32 ((m (m b0 14) (s32 (190 + b1))) - 1)))) ((mu m (m b0 14) (s32 (190 + b1)) (s32 (s32 ((m (m b0 14) (s32 (190 + b1))) - 1)))) b0 14) (s32 (182 + b1)) (s32 2)) ((mu (mu m (m b0 14) (s32 (190 + b1)) (s32 (s32 ((m (m b0 14) (s32 (190 + b1))) - 1)))) ((mu m (m b0 14) (s32 (190 + b1)) (s32 (s32 ((m (m b0 14) (s32 (190 + b1))) - 1)))) b0 14) (s32 (182 + b1)) (s32 2)) b0 14) (s32 (76 + b1))))] [(1, s32 (((mu (mu m (m b0 14) (s32 (190 + b1)) (s32 (s32 ((m (m b0 14) (s32 (190 + b1))) - 1)))) ((mu m (m b0 14) (s32 (190 + b1)) (s32 (s32 ((m (m b0 14) (s32 (190 + b1))) - 1)))) b0 14) (s32 (182 + b1)) (s32 2)) ((mu (mu m (m b0 14) (s32 (190 + b1)) (s32 (s32 ((m (m b0 14) (s32 (190 + b1))) - 1)))) ((mu m (m b0 14) (s32 (190 + b1)) (s32 (s32 ((m (m b0 14) (s32 (190 + b1))) - 1)))) b0 14) (s32 (182 + b1)) (s32 2)) b0 14) (s32 ((s32 (94 + (s32 (8 * (f273 (mu (mu m (m b0 14) (s32 (190 + b1)) (s32 (s32 ((m (m b0 14) (s32 (190 + b1))) - 1)))) ((mu m (m b0 14) (s32 (190 + b1)) (s32 (s32 ((m (m b0 14) (s32 (190 + b1))) - 1)))) b0 14) (s32 (182 + b1)) (s32 2)) b0 b1 1))))) + ((mu (mu m (m b0 14) (s32 (190 + b1)) (s32 (s32 ((m (m b0 14) (s32 (190 + b1))) - 1)))) ((mu m (m b0 14) (s32 (190 + b1)) (s32 (s32 ((m (m b0 14) (s32 (190 + b1))) - 1)))) b0 14) (s32 (182 + b1)) (s32 2)) ((mu (mu m (m b0 14) (s32 (190 + b1)) (s32 (s32 ((m (m b0 14) (s32 (190 + b1))) - 1)))) ((mu m (m b0 14) (s32 (190 + b1)) (s32 (s32 ((m (m b0 14) (s32 (190 + b1))) - 1)))) b0 14) (s32 (182 + b1)) (s32 2)) b0 14) (s32 (76 + b1)))))) + 1)), (1, 9), (1, s32 ((s32 (94 + (s32 (8 * (f273 (mu (mu m (m b0 14) (s32 (190 + b1)) (s32 (s32 ((m (m b0 14) (s32 (190 + b1))) - 1)))) ((mu m (m b0 14) (s32 (190 + b1)) (s32 (s32 ((m (m b0 14) (s32 (190 + b1))) - 1)))) b0 14) (s32 (182 + b1)) (s32 2)) b0 b1 1))))) + ((mu (mu m (m b0 14) (s32 (190 + b1)) (s32 (s32 ((m (m b0 14) (s32 (190 + b1))) - 1)))) ((mu m (m b0 14) (s32 (190 + b1)) (s32 (s32 ((m (m b0 14) (s32 (190 + b1))) - 1)))) b0 14) (s32 (182 + b1)) (s32 2)) ((mu (mu m (m b0 14) (s32 (190 + b1)) (s32 (s32 ((m (m b0 14) (s32 (190 + b1))) - 1)))) ((mu m (m b0 14) (s32 (190 + b1)) (s32 (s32 ((m (m b0 14) (s32 (190 + b1))) - 1)))) b0 14) (s32 (182 + b1)) (s32 2)) b0 14) (s32 (76 + b1))))), (1, (mu (mu m (m b0 14) (s32 (190 + b1)) (s32 (s32 ((m (m b0 14) (s32 (190 + b1))) - 1)))) ((mu m (m b0 14) (s32 (190 + b1)) (s32 (s32 ((m (m b0 14) (s32 (190 + b1))) - 1)))) b0 14) (s32 (182 + b1)) (s32 2)) b0 14)] (mu (mu m (m b0 14) (s32 (190 + b1)) (s32 (s32 ((m (m b0 14) (s32 (190 + b1))) - 1)))) ((mu m (m b0 14) (s32 (190 + b1)) (s32 (s32 ((m (m b0 14) (s32 (190 + b1))) - 1)))) b0 14) (s32 (182 + b1)) (s32 2)) o := h
        obtain ⟨r9, m10, q11, h⟩ := MR_invS h rfl rfl
        have q11 : Run X ρ 220 [(1, 9), (1, s32 (((mu (mu m (m b0 14) (s32 (190 + b1)) (s32 (s32 ((m (m b0 14) (s32 (190 + b1))) - 1)))) ((mu m (m b0 14) (s32 (190 + b1)) (s32 (s32 ((m (m b0 14) (s32 (190 + b1))) - 1)))) b0 14) (s32 (182 + b1)) (s32 2)) ((mu (mu m (m b0 14) (s32 (190 + b1)) (s32 (s32 ((m (m b0 14) (s32 (190 + b1))) - 1)))) ((mu m (m b0 14) (s32 (190 + b1)) (s32 (s32 ((m (m b0 14) (s32 (190 + b1))) - 1)))) b0 14) (s32 (182 + b1)) (s32 2)) b0 14) (s32 ((s32 (94 + (s32 (8 * (f273 (mu (mu m (m b0 14) (s32 (190 + b1)) (s32 (s32 ((m (m b0 14) (s32 (190 + b1))) - 1)))) ((mu m (m b0 14) (s32 (190 + b1)) (s32 (s32 ((m (m b0 14) (s32 (190 + b1))) - 1)))) b0 14) (s32 (182 + b1)) (s32 2)) b0 b1 1))))) + ((mu (mu m (m b0 14) (s32 (190 + b1)) (s32 (s32 ((m (m b0 14) (s32 (190 + b1))) - 1)))) ((mu m (m b0 14) (s32 (190 + b1)) (s32 (s32 ((m (m b0 14) (s32 (190 + b1))) - 1)))) b0 14) (s32 (182 + b1)) (s32 2)) ((mu (mu m (m b0 14) (s32 (190 + b1)) (s32 (s32 ((m (m b0 14) (s32 (190 + b1))) - 1)))) ((mu m (m b0 14) (s32 (190 + b1)) (s32 (s32 ((m (m b0 14) (s32 (190 + b1))) - 1)))) b0 14) (s32 (182 + b1)) (s32 2)) b0 14) (s32 (76 + b1)))))) + 1))] (mu (mu m (m b0 14) (s32 (190 + b1)) (s32 (s32 ((m (m b0 14) (s32 (190 + b1))) - 1)))) ((mu m (m b0 14) (s32 (190 + b1)) (s32 (s32 ((m (m b0 14) (s32 (190 + b1))) - 1)))) b0 14) (s32 (182 + b1)) (s32 2)) r9 m10 := q11
        obtain ⟨e12, e13⟩ := d220 q11
        rw [e12, e13] at h
        have h : MR X ρ 3 0 0 qP231 N 111 [b0, b1, s32 ((s32 (94 + (s32 (8 * (f273 (mu (mu m (m b0 14) (s32 (190 + b1)) (s32 (s32 ((m (m b0 14) (s32 (190 + b1))) - 1)))) ((mu m (m b0 14) (s32 (190 + b1)) (s32 (s32 ((m (m b0 14) (s32 (190 + b1))) - 1)))) b0 14) (s32 (182 + b1)) (s32 2)) b0 b1 1))))) + ((mu (mu m (m b0 14) (s32 (190 + b1)) (s32 (s32 ((m (m b0 14) (s32 (190 + b1))) - 1)))) ((mu m (m b0 14) (s32 (190 + b1)) (s32 (s32 ((m (m b0 14) (s32 (190 + b1))) - 1)))) b0 14) (s32 (182 + b1)) (s32 2)) ((mu (mu m (m b0 14) (s32 (190 + b1)) (s32 (s32 ((m (m b0 14) (s32 (190 + b1))) - 1)))) ((mu m (m b0 14) (s32 (190 + b1)) (s32 (s32 ((m (m b0 14) (s32 (190 + b1))) - 1)))) b0 14) (s32 (182 + b1)) (s32 2)) b0 14) (s32 (76 + b1))))] [(1, f220 (mu (mu m (m b0 14) (s32 (190 + b1)) (s32 (s32 ((m (m b0 14) (s32 (190 + b1))) - 1)))) ((mu m (m b0 14) (s32 (190 + b1)) (s32 (s32 ((m (m b0 14) (s32 (190 + b1))) - 1)))) b0 14) (s32 (182 + b1)) (s32 2)) 9 (s32 (((mu (mu m (m b0 14) (s32 (190 + b1)) (s32 (s32 ((m (m b0 14) (s32 (190 + b1))) - 1)))) ((mu m (m b0 14) (s32 (190 + b1)) (s32 (s32 ((m (m b0 14) (s32 (190 + b1))) - 1)))) b0 14) (s32 (182 + b1)) (s32 2)) ((mu (mu m (m b0 14) (s32 (190 + b1)) (s32 (s32 ((m (m b0 14) (s32 (190 + b1))) - 1)))) ((mu m (m b0 14) (s32 (190 + b1)) (s32 (s32 ((m (m b0 14) (s32 (190 + b1))) - 1)))) b0 14) (s32 (182 + b1)) (s32 2)) b0 14) (s32 ((s32 (94 + (s32 (8 * (f273 (mu (mu m (m b0 14) (s32 (190 + b1)) (s32 (s32 ((m (m b0 14) (s32 (190 + b1))) - 1)))) ((mu m (m b0 14) (s32 (190 + b1)) (s32 (s32 ((m (m b0 14) (s32 (190 + b1))) - 1)))) b0 14) (s32 (182 + b1)) (s32 2)) b0 b1 1))))) + ((mu (mu m (m b0 14) (s32 (190 + b1)) (s32 (s32 ((m (m b0 14) (s32 (190 + b1))) - 1)))) ((mu m (m b0 14) (s32 (190 + b1)) (s32 (s32 ((m (m b0 14) (s32 (190 + b1))) - 1)))) b0 14) (s32 (182 + b1)) (s32 2)) ((mu (mu m (m b0 14) (s32 (190 + b1)) (s32 (s32 ((m (m b0 14) (s32 (190 + b1))) - 1)))) ((mu m (m b0 14) (s32 (190 + b1)) (s32 (s32 ((m (m b0 14) (s32 (190 + b1))) - 1)))) b0 14) (s32 (182 + b1)) (s32 2)) b0 14) (s32 (76 + b1)))))) + 1))), (1, s32 ((s32 (94 + (s32 (8 * (f273 (mu (mu m (m b0 14) (s32 (190 + b1)) (s32 (s32 ((m (m b0 14) (s32 (190 + b1))) - 1)))) ((mu m (m b0 14) (s32 (190 + b1)) (s32 (s32 ((m (m b0 14) (s32 (190 + b1))) - 1)))) b0 14) (s32 (182 + b1)) (s32 2)) b0 b1 1))))) + ((mu (mu m (m b0 14) (s32 (190 + b1)) (s32 (s32 ((m (m b0 14) (s32 (190 + b1))) - 1)))) ((mu m (m b0 14) (s32 (190 + b1)) (s32 (s32 ((m (m b0 14) (s32 (190 + b1))) - 1)))) b0 14) (s32 (182 + b1)) (s32 2)) ((mu (mu m (m b0 14) (s32 (190 + b1)) (s32 (s32 ((m (m b0 14) (s32 (190 + b1))) - 1)))) ((mu m (m b0 14) (s32 (190 + b1)) (s32 (s32 ((m (m b0 14) (s32 (190 + b1))) - 1)))) b0 14) (s32 (182 + b1)) (s32 2)) b0 14) (s32 (76 + b1))))), (1, (mu (mu m (m b0 14) (s32 (190 + b1)) (s32 (s32 ((m (m b0 14) (s32 (190 + b1))) - 1)))) ((mu m (m b0 14) (s32 (190 + b1)) (s32 (s32 ((m (m b0 14) (s32 (190 + b1))) - 1)))) b0 14) (s32 (182 + b1)) (s32 2)) b0 14)] (mu (mu m (m b0 14) (s32 (190 + b1)) (s32 (s32 ((m (m b0 14) (s32 (190 + b1))) - 1)))) ((mu m (m b0 14) (s32 (190 + b1)) (s32 (s32 ((m (m b0 14) (s32 (190 + b1))) - 1)))) b0 14) (s32 (182 + b1)) (s32 2)) o := h
        have h := CR_iastore_ h rfl
        have h : MR X ρ 3 0 0 qP231 N 112 [b0, b1, s32 ((s32 (94 + (s32 (8 * (f273 (mu (mu m (m b0 14) (s32 (190 + b1)) (s32 (s32 ((m (m b0 14) (s32 (190 + b1))) - 1)))) ((mu m (m b0 14) (s32 (190 + b1)) (s32 (s32 ((m (m b0 14) (s32 (190 + b1))) - 1)))) b0 14) (s32 (182 + b1)) (s32 2)) b0 b1 1))))) + ((mu (mu m (m b0 14) (s32 (190 + b1)) (s32 (s32 ((m (m b0 14) (s32 (190 + b1))) - 1)))) ((mu m (m b0 14) (s32 (190 + b1)) (s32 (s32 ((m (m b0 14) (s32 (190 + b1))) - 1)))) b0 14) (s32 (182 + b1)) (s32 2)) ((mu (mu m (m b0 14) (s32 (190 + b1)) (s32 (s32 ((m (m b0 14) (s32 (190 + b1))) - 1)))) ((mu m (m b0 14) (s32 (190 + b1)) (s32 (s32 ((m (m b0 14) (s32 (190 + b1))) - 1)))) b0 14) (s32 (182 + b1)) (s32 2)) b0 14) (s32 (76 + b1))))] [] (mu (mu (mu m (m b0 14) (s32 (190 + b1)) (s32 (s32 ((m (m b0 14) (s32 (190 + b1))) - 1)))) ((mu m (m b0 14) (s32 (190 + b1)) (s32 (s32 ((m (m b0 14) (s32 (190 + b1))) - 1)))) b0 14) (s32 (182 + b1)) (s32 2)) ((mu (mu m (m b0 14) (s32 (190 + b1)) (s32 (s32 ((m (m b0 14) (s32 (190 + b1))) - 1)))) ((mu m (m b0 14) (s32 (190 + b1)) (s32 (s32 ((m (m b0 14) (s32 (190 + b1))) - 1)))) b0 14) (s32 (182 + b1)) (s32 2)) b0 14) (s32 ((s32 (94 + (s32 (8 * (f273 (mu (mu m (m b0 14) (s32 (190 + b1)) (s32 (s32 ((m (m b0 14) (s32 (190 + b1))) - 1)))) ((mu m (m b0 14) (s32 (190 + b1)) (s32 (s32 ((m (m b0 14) (s32 (190 + b1))) - 1)))) b0 14) (s32 (182 + b1)) (s32 2)) b0 b1 1))))) + ((mu (mu m (m b0 14) (s32 (190 + b1)) (s32 (s32 ((m (m b0 14) (s32 (190 + b1))) - 1)))) ((mu m (m b0 14) (s32 (190 + b1)) (s32 (s32 ((m (m b0 14) (s32 (190 + b1))) - 1)))) b0 14) (s32 (182 + b1)) (s32 2)) ((mu (mu m (m b0 14) (s32 (190 + b1)) (s32 (s32 ((m (m b0 14) (s32 (190 + b1))) - 1)))) ((mu m (m b0 14) (s32 (190 + b1)) (s32 (s32 ((m (m b0 14) (s32 (190 + b1))) - 1)))) b0 14) (s32 (182 + b1)) (s32 2)) b0 14) (s32 (76 + b1))))) (s32 (f220 (mu (mu m (m b0 14) (s32 (190 + b1)) (s32 (s32 ((m (m b0 14) (s32 (190 + b1))) - 1)))) ((mu m (m b0 14) (s32 (190 + b1)) (s32 (s32 ((m (m b0 14) (s32 (190 + b1))) - 1)))) b0 14) (s32 (182 + b1)) (s32 2)) 9 (s32 (((mu (mu m (m b0 14) (s32 (190 + b1)) (s32 (s32 ((m (m b0 14) (s32 (190 + b1))) - 1)))) ((mu m (m b0 14) (s32 (190 + b1)) (s32 (s32 ((m (m b0 14) (s32 (190 + b1))) - 1)))) b0 14) (s32 (182 + b1)) (s32 2)) ((mu (mu m (m b0 14) (s32 (190 + b1)) (s32 (s32 ((m (m b0 14) (s32 (190 + b1))) - 1)))) ((mu m (m b0 14) (s32 (190 + b1)) (s32 (s32 ((m (m b0 14) (s32 (190 + b1))) - 1)))) b0 14) (s32 (182 + b1)) (s32 2)) b0 14) (s32 ((s32 (94 + (s32 (8 * (f273 (mu (mu m (m b0 14) (s32 (190 + b1)) (s32 (s32 ((m (m b0 14) (s32 (190 + b1))) - 1)))) ((mu m (m b0 14) (s32 (190 + b1)) (s32 (s32 ((m (m b0 14) (s32 (190 + b1))) - 1)))) b0 14) (s32 (182 + b1)) (s32 2)) b0 b1 1))))) + ((mu (mu m (m b0 14) (s32 (190 + b1)) (s32 (s32 ((m (m b0 14) (s32 (190 + b1))) - 1)))) ((mu m (m b0 14) (s32 (190 + b1)) (s32 (s32 ((m (m b0 14) (s32 (190 + b1))) - 1)))) b0 14) (s32 (182 + b1)) (s32 2)) ((mu (mu m (m b0 14) (s32 (190 + b1)) (s32 (s32 ((m (m b0 14) (s32 (190 + b1))) - 1)))) ((mu m (m b0 14) (s32 (190 + b1)) (s32 (s32 ((m (m b0 14) (s32 (190 + b1))) - 1)))) b0 14) (s32 (182 + b1)) (s32 2)) b0 14) (s32 (76 + b1)))))) + 1))))) o := h
        have h := CR_inc h rfl (Nat.le_of_ble_eq_true rfl)
        have h : MR X ρ 3 0 0 qP231 N 115 [b0, s32 (b1 + 1), s32 ((s32 (94 + (s32 (8 * (f273 (mu (mu m (m b0 14) (s32 (190 + b1)) (s32 (s32 ((m (m b0 14) (s32 (190 + b1))) - 1)))) ((mu m (m b0 14) (s32 (190 + b1)) (s32 (s32 ((m (m b0 14) (s32 (190 + b1))) - 1)))) b0 14) (s32 (182 + b1)) (s32 2)) b0 b1 1))))) + ((mu (mu m (m b0 14) (s32 (190 + b1)) (s32 (s32 ((m (m b0 14) (s32 (190 + b1))) - 1)))) ((mu m (m b0 14) (s32 (190 + b1)) (s32 (s32 ((m (m b0 14) (s32 (190 + b1))) - 1)))) b0 14) (s32 (182 + b1)) (s32 2)) ((mu (mu m (m b0 14) (s32 (190 + b1)) (s32 (s32 ((m (m b0 14) (s32 (190 + b1))) - 1)))) ((mu m (m b0 14) (s32 (190 + b1)) (s32 (s32 ((m (m b0 14) (s32 (190 + b1))) - 1)))) b0 14) (s32 (182 + b1)) (s32 2)) b0 14) (s32 (76 + b1))))] [] (mu (mu (mu m (m b0 14) (s32 (190 + b1)) (s32 (s32 ((m (m b0 14) (s32 (190 + b1))) - 1)))) ((mu m (m b0 14) (s32 (190 + b1)) (s32 (s32 ((m (m b0 14) (s32 (190 + b1))) - 1)))) b0 14) (s32 (182 + b1)) (s32 2)) ((mu (mu m (m b0 14) (s32 (190 + b1)) (s32 (s32 ((m (m b0 14) (s32 (190 + b1))) - 1)))) ((mu m (m b0 14) (s32 (190 + b1)) (s32 (s32 ((m (m b0 14) (s32 (190 + b1))) - 1)))) b0 14) (s32 (182 + b1)) (s32 2)) b0 14) (s32 ((s32 (94 + (s32 (8 * (f273 (mu (mu m (m b0 14) (s32 (190 + b1)) (s32 (s32 ((m (m b0 14) (s32 (190 + b1))) - 1)))) ((mu m (m b0 14) (s32 (190 + b1)) (s32 (s32 ((m (m b0 14) (s32 (190 + b1))) - 1)))) b0 14) (s32 (182 + b1)) (s32 2)) b0 b1 1))))) + ((mu (mu m (m b0 14) (s32 (190 + b1)) (s32 (s32 ((m (m b0 14) (s32 (190 + b1))) - 1)))) ((mu m (m b0 14) (s32 (190 + b1)) (s32 (s32 ((m (m b0 14) (s32 (190 + b1))) - 1)))) b0 14) (s32 (182 + b1)) (s32 2)) ((mu (mu m (m b0 14) (s32 (190 + b1)) (s32 (s32 ((m (m b0 14) (s32 (190 + b1))) - 1)))) ((mu m (m b0 14) (s32 (190 + b1)) (s32 (s32 ((m (m b0 14) (s32 (190 + b1))) - 1)))) b0 14) (s32 (182 + b1)) (s32 2)) b0 14) (s32 (76 + b1))))) (s32 (f220 (mu (mu m (m b0 14) (s32 (190 + b1)) (s32 (s32 ((m (m b0 14) (s32 (190 + b1))) - 1)))) ((mu m (m b0 14) (s32 (190 + b1)) (s32 (s32 ((m (m b0 14) (s32 (190 + b1))) - 1)))) b0 14) (s32 (182 + b1)) (s32 2)) 9 (s32 (((mu (mu m (m b0 14) (s32 (190 + b1)) (s32 (s32 ((m (m b0 14) (s32 (190 + b1))) - 1)))) ((mu m (m b0 14) (s32 (190 + b1)) (s32 (s32 ((m (m b0 14) (s32 (190 + b1))) - 1)))) b0 14) (s32 (182 + b1)) (s32 2)) ((mu (mu m (m b0 14) (s32 (190 + b1)) (s32 (s32 ((m (m b0 14) (s32 (190 + b1))) - 1)))) ((mu m (m b0 14) (s32 (190 + b1)) (s32 (s32 ((m (m b0 14) (s32 (190 + b1))) - 1)))) b0 14) (s32 (182 + b1)) (s32 2)) b0 14) (s32 ((s32 (94 + (s32 (8 * (f273 (mu (mu m (m b0 14) (s32 (190 + b1)) (s32 (s32 ((m (m b0 14) (s32 (190 + b1))) - 1)))) ((mu m (m b0 14) (s32 (190 + b1)) (s32 (s32 ((m (m b0 14) (s32 (190 + b1))) - 1)))) b0 14) (s32 (182 + b1)) (s32 2)) b0 b1 1))))) + ((mu (mu m (m b0 14) (s32 (190 + b1)) (s32 (s32 ((m (m b0 14) (s32 (190 + b1))) - 1)))) ((mu m (m b0 14) (s32 (190 + b1)) (s32 (s32 ((m (m b0 14) (s32 (190 + b1))) - 1)))) b0 14) (s32 (182 + b1)) (s32 2)) ((mu (mu m (m b0 14) (s32 (190 + b1)) (s32 (s32 ((m (m b0 14) (s32 (190 + b1))) - 1)))) ((mu m (m b0 14) (s32 (190 + b1)) (s32 (s32 ((m (m b0 14) (s32 (190 + b1))) - 1)))) b0 14) (s32 (182 + b1)) (s32 2)) b0 14) (s32 (76 + b1)))))) + 1))))) o := h
        obtain ⟨N14, eN14, h⟩ := CR_goto h rfl rfl
        have h : MR X ρ 3 0 0 qP231 N14 2 [b0, s32 (b1 + 1), s32 ((s32 (94 + (s32 (8 * (f273 (mu (mu m (m b0 14) (s32 (190 + b1)) (s32 (s32 ((m (m b0 14) (s32 (190 + b1))) - 1)))) ((mu m (m b0 14) (s32 (190 + b1)) (s32 (s32 ((m (m b0 14) (s32 (190 + b1))) - 1)))) b0 14) (s32 (182 + b1)) (s32 2)) b0 b1 1))))) + ((mu (mu m (m b0 14) (s32 (190 + b1)) (s32 (s32 ((m (m b0 14) (s32 (190 + b1))) - 1)))) ((mu m (m b0 14) (s32 (190 + b1)) (s32 (s32 ((m (m b0 14) (s32 (190 + b1))) - 1)))) b0 14) (s32 (182 + b1)) (s32 2)) ((mu (mu m (m b0 14) (s32 (190 + b1)) (s32 (s32 ((m (m b0 14) (s32 (190 + b1))) - 1)))) ((mu m (m b0 14) (s32 (190 + b1)) (s32 (s32 ((m (m b0 14) (s32 (190 + b1))) - 1)))) b0 14) (s32 (182 + b1)) (s32 2)) b0 14) (s32 (76 + b1))))] [] (mu (mu (mu m (m b0 14) (s32 (190 + b1)) (s32 (s32 ((m (m b0 14) (s32 (190 + b1))) - 1)))) ((mu m (m b0 14) (s32 (190 + b1)) (s32 (s32 ((m (m b0 14) (s32 (190 + b1))) - 1)))) b0 14) (s32 (182 + b1)) (s32 2)) ((mu (mu m (m b0 14) (s32 (190 + b1)) (s32 (s32 ((m (m b0 14) (s32 (190 + b1))) - 1)))) ((mu m (m b0 14) (s32 (190 + b1)) (s32 (s32 ((m (m b0 14) (s32 (190 + b1))) - 1)))) b0 14) (s32 (182 + b1)) (s32 2)) b0 14) (s32 ((s32 (94 + (s32 (8 * (f273 (mu (mu m (m b0 14) (s32 (190 + b1)) (s32 (s32 ((m (m b0 14) (s32 (190 + b1))) - 1)))) ((mu m (m b0 14) (s32 (190 + b1)) (s32 (s32 ((m (m b0 14) (s32 (190 + b1))) - 1)))) b0 14) (s32 (182 + b1)) (s32 2)) b0 b1 1))))) + ((mu (mu m (m b0 14) (s32 (190 + b1)) (s32 (s32 ((m (m b0 14) (s32 (190 + b1))) - 1)))) ((mu m (m b0 14) (s32 (190 + b1)) (s32 (s32 ((m (m b0 14) (s32 (190 + b1))) - 1)))) b0 14) (s32 (182 + b1)) (s32 2)) ((mu (mu m (m b0 14) (s32 (190 + b1)) (s32 (s32 ((m (m b0 14) (s32 (190 + b1))) - 1)))) ((mu m (m b0 14) (s32 (190 + b1)) (s32 (s32 ((m (m b0 14) (s32 (190 + b1))) - 1)))) b0 14) (s32 (182 + b1)) (s32 2)) b0 14) (s32 (76 + b1))))) (s32 (f220 (mu (mu m (m b0 14) (s32 (190 + b1)) (s32 (s32 ((m (m b0 14) (s32 (190 + b1))) - 1)))) ((mu m (m b0 14) (s32 (190 + b1)) (s32 (s32 ((m (m b0 14) (s32 (190 + b1))) - 1)))) b0 14) (s32 (182 + b1)) (s32 2)) 9 (s32 (((mu (mu m (m b0 14) (s32 (190 + b1)) (s32 (s32 ((m (m b0 14) (s32 (190 + b1))) - 1)))) ((mu m (m b0 14) (s32 (190 + b1)) (s32 (s32 ((m (m b0 14) (s32 (190 + b1))) - 1)))) b0 14) (s32 (182 + b1)) (s32 2)) ((mu (mu m (m b0 14) (s32 (190 + b1)) (s32 (s32 ((m (m b0 14) (s32 (190 + b1))) - 1)))) ((mu m (m b0 14) (s32 (190 + b1)) (s32 (s32 ((m (m b0 14) (s32 (190 + b1))) - 1)))) b0 14) (s32 (182 + b1)) (s32 2)) b0 14) (s32 ((s32 (94 + (s32 (8 * (f273 (mu (mu m (m b0 14) (s32 (190 + b1)) (s32 (s32 ((m (m b0 14) (s32 (190 + b1))) - 1)))) ((mu m (m b0 14) (s32 (190 + b1)) (s32 (s32 ((m (m b0 14) (s32 (190 + b1))) - 1)))) b0 14) (s32 (182 + b1)) (s32 2)) b0 b1 1))))) + ((mu (mu m (m b0 14) (s32 (190 + b1)) (s32 (s32 ((m (m b0 14) (s32 (190 + b1))) - 1)))) ((mu m (m b0 14) (s32 (190 + b1)) (s32 (s32 ((m (m b0 14) (s32 (190 + b1))) - 1)))) b0 14) (s32 (182 + b1)) (s32 2)) ((mu (mu m (m b0 14) (s32 (190 + b1)) (s32 (s32 ((m (m b0 14) (s32 (190 + b1))) - 1)))) ((mu m (m b0 14) (s32 (190 + b1)) (s32 (s32 ((m (m b0 14) (s32 (190 + b1))) - 1)))) b0 14) (s32 (182 + b1)) (s32 2)) b0 14) (s32 (76 + b1)))))) + 1))))) o := h
        have hr : L231_2 m b0 b1 b2 = L231_2 (mu (mu (mu m (m b0 14) (s32 (190 + b1)) (s32 (s32 ((m (m b0 14) (s32 (190 + b1))) - 1)))) ((mu m (m b0 14) (s32 (190 + b1)) (s32 (s32 ((m (m b0 14) (s32 (190 + b1))) - 1)))) b0 14) (s32 (182 + b1)) (s32 2)) ((mu (mu m (m b0 14) (s32 (190 + b1)) (s32 (s32 ((m (m b0 14) (s32 (190 + b1))) - 1)))) ((mu m (m b0 14) (s32 (190 + b1)) (s32 (s32 ((m (m b0 14) (s32 (190 + b1))) - 1)))) b0 14) (s32 (182 + b1)) (s32 2)) b0 14) (s32 ((s32 (94 + (s32 (8 * (f273 (mu (mu m (m b0 14) (s32 (190 + b1)) (s32 (s32 ((m (m b0 14) (s32 (190 + b1))) - 1)))) ((mu m (m b0 14) (s32 (190 + b1)) (s32 (s32 ((m (m b0 14) (s32 (190 + b1))) - 1)))) b0 14) (s32 (182 + b1)) (s32 2)) b0 b1 1))))) + ((mu (mu m (m b0 14) (s32 (190 + b1)) (s32 (s32 ((m (m b0 14) (s32 (190 + b1))) - 1)))) ((mu m (m b0 14) (s32 (190 + b1)) (s32 (s32 ((m (m b0 14) (s32 (190 + b1))) - 1)))) b0 14) (s32 (182 + b1)) (s32 2)) ((mu (mu m (m b0 14) (s32 (190 + b1)) (s32 (s32 ((m (m b0 14) (s32 (190 + b1))) - 1)))) ((mu m (m b0 14) (s32 (190 + b1)) (s32 (s32 ((m (m b0 14) (s32 (190 + b1))) - 1)))) b0 14) (s32 (182 + b1)) (s32 2)) b0 14) (s32 (76 + b1))))) (s32 (f220 (mu (mu m (m b0 14) (s32 (190 + b1)) (s32 (s32 ((m (m b0 14) (s32 (190 + b1))) - 1)))) ((mu m (m b0 14) (s32 (190 + b1)) (s32 (s32 ((m (m b0 14) (s32 (190 + b1))) - 1)))) b0 14) (s32 (182 + b1)) (s32 2)) 9 (s32 (((mu (mu m (m b0 14) (s32 (190 + b1)) (s32 (s32 ((m (m b0 14) (s32 (190 + b1))) - 1)))) ((mu m (m b0 14) (s32 (190 + b1)) (s32 (s32 ((m (m b0 14) (s32 (190 + b1))) - 1)))) b0 14) (s32 (182 + b1)) (s32 2)) ((mu (mu m (m b0 14) (s32 (190 + b1)) (s32 (s32 ((m (m b0 14) (s32 (190 + b1))) - 1)))) ((mu m (m b0 14) (s32 (190 + b1)) (s32 (s32 ((m (m b0 14) (s32 (190 + b1))) - 1)))) b0 14) (s32 (182 + b1)) (s32 2)) b0 14) (s32 ((s32 (94 + (s32 (8 * (f273 (mu (mu m (m b0 14) (s32 (190 + b1)) (s32 (s32 ((m (m b0 14) (s32 (190 + b1))) - 1)))) ((mu m (m b0 14) (s32 (190 + b1)) (s32 (s32 ((m (m b0 14) (s32 (190 + b1))) - 1)))) b0 14) (s32 (182 + b1)) (s32 2)) b0 b1 1))))) + ((mu (mu m (m b0 14) (s32 (190 + b1)) (s32 (s32 ((m (m b0 14) (s32 (190 + b1))) - 1)))) ((mu m (m b0 14) (s32 (190 + b1)) (s32 (s32 ((m (m b0 14) (s32 (190 + b1))) - 1)))) b0 14) (s32 (182 + b1)) (s32 2)) ((mu (mu m (m b0 14) (s32 (190 + b1)) (s32 (s32 ((m (m b0 14) (s32 (190 + b1))) - 1)))) ((mu m (m b0 14) (s32 (190 + b1)) (s32 (s32 ((m (m b0 14) (s32 (190 + b1))) - 1)))) b0 14) (s32 (182 + b1)) (s32 2)) b0 14) (s32 (76 + b1)))))) + 1))))) b0 (s32 (b1 + 1)) (s32 ((s32 (94 + (s32 (8 * (f273 (mu (mu m (m b0 14) (s32 (190 + b1)) (s32 (s32 ((m (m b0 14) (s32 (190 + b1))) - 1)))) ((mu m (m b0 14) (s32 (190 + b1)) (s32 (s32 ((m (m b0 14) (s32 (190 + b1))) - 1)))) b0 14) (s32 (182 + b1)) (s32 2)) b0 b1 1))))) + ((mu (mu m (m b0 14) (s32 (190 + b1)) (s32 (s32 ((m (m b0 14) (s32 (190 + b1))) - 1)))) ((mu m (m b0 14) (s32 (190 + b1)) (s32 (s32 ((m (m b0 14) (s32 (190 + b1))) - 1)))) b0 14) (s32 (182 + b1)) (s32 2)) ((mu (mu m (m b0 14) (s32 (190 + b1)) (s32 (s32 ((m (m b0 14) (s32 (190 + b1))) - 1)))) ((mu m (m b0 14) (s32 (190 + b1)) (s32 (s32 ((m (m b0 14) (s32 (190 + b1))) - 1)))) b0 14) (s32 (182 + b1)) (s32 2)) b0 14) (s32 (76 + b1))))) := Lp_inl (f := K231_2 m b0 b1 b2) (s := (b1, b2, m)) (s' := (s32 (b1 + 1), s32 ((s32 (94 + (s32 (8 * (f273 (mu (mu m (m b0 14) (s32 (190 + b1)) (s32 (s32 ((m (m b0 14) (s32 (190 + b1))) - 1)))) ((mu m (m b0 14) (s32 (190 + b1)) (s32 (s32 ((m (m b0 14) (s32 (190 + b1))) - 1)))) b0 14) (s32 (182 + b1)) (s32 2)) b0 b1 1))))) + ((mu (mu m (m b0 14) (s32 (190 + b1)) (s32 (s32 ((m (m b0 14) (s32 (190 + b1))) - 1)))) ((mu m (m b0 14) (s32 (190 + b1)) (s32 (s32 ((m (m b0 14) (s32 (190 + b1))) - 1)))) b0 14) (s32 (182 + b1)) (s32 2)) ((mu (mu m (m b0 14) (s32 (190 + b1)) (s32 (s32 ((m (m b0 14) (s32 (190 + b1))) - 1)))) ((mu m (m b0 14) (s32 (190 + b1)) (s32 (s32 ((m (m b0 14) (s32 (190 + b1))) - 1)))) b0 14) (s32 (182 + b1)) (s32 2)) b0 14) (s32 (76 + b1)))), mu (mu (mu m (m b0 14) (s32 (190 + b1)) (s32 (s32 ((m (m b0 14) (s32 (190 + b1))) - 1)))) ((mu m (m b0 14) (s32 (190 + b1)) (s32 (s32 ((m (m b0 14) (s32 (190 + b1))) - 1)))) b0 14) (s32 (182 + b1)) (s32 2)) ((mu (mu m (m b0 14) (s32 (190 + b1)) (s32 (s32 ((m (m b0 14) (s32 (190 + b1))) - 1)))) ((mu m (m b0 14) (s32 (190 + b1)) (s32 (s32 ((m (m b0 14) (s32 (190 + b1))) - 1)))) b0 14) (s32 (182 + b1)) (s32 2)) b0 14) (s32 ((s32 (94 + (s32 (8 * (f273 (mu (mu m (m b0 14) (s32 (190 + b1)) (s32 (s32 ((m (m b0 14) (s32 (190 + b1))) - 1)))) ((mu m (m b0 14) (s32 (190 + b1)) (s32 (s32 ((m (m b0 14) (s32 (190 + b1))) - 1)))) b0 14) (s32 (182 + b1)) (s32 2)) b0 b1 1))))) + ((mu (mu m (m b0 14) (s32 (190 + b1)) (s32 (s32 ((m (m b0 14) (s32 (190 + b1))) - 1)))) ((mu m (m b0 14) (s32 (190 + b1)) (s32 (s32 ((m (m b0 14) (s32 (190 + b1))) - 1)))) b0 14) (s32 (182 + b1)) (s32 2)) ((mu (mu m (m b0 14) (s32 (190 + b1)) (s32 (s32 ((m (m b0 14) (s32 (190 + b1))) - 1)))) ((mu m (m b0 14) (s32 (190 + b1)) (s32 (s32 ((m (m b0 14) (s32 (190 + b1))) - 1)))) b0 14) (s32 (182 + b1)) (s32 2)) b0 14) (s32 (76 + b1))))) (s32 (f220 (mu (mu m (m b0 14) (s32 (190 + b1)) (s32 (s32 ((m (m b0 14) (s32 (190 + b1))) - 1)))) ((mu m (m b0 14) (s32 (190 + b1)) (s32 (s32 ((m (m b0 14) (s32 (190 + b1))) - 1)))) b0 14) (s32 (182 + b1)) (s32 2)) 9 (s32 (((mu (mu m (m b0 14) (s32 (190 + b1)) (s32 (s32 ((m (m b0 14) (s32 (190 + b1))) - 1)))) ((mu m (m b0 14) (s32 (190 + b1)) (s32 (s32 ((m (m b0 14) (s32 (190 + b1))) - 1)))) b0 14) (s32 (182 + b1)) (s32 2)) ((mu (mu m (m b0 14) (s32 (190 + b1)) (s32 (s32 ((m (m b0 14) (s32 (190 + b1))) - 1)))) ((mu m (m b0 14) (s32 (190 + b1)) (s32 (s32 ((m (m b0 14) (s32 (190 + b1))) - 1)))) b0 14) (s32 (182 + b1)) (s32 2)) b0 14) (s32 ((s32 (94 + (s32 (8 * (f273 (mu (mu m (m b0 14) (s32 (190 + b1)) (s32 (s32 ((m (m b0 14) (s32 (190 + b1))) - 1)))) ((mu m (m b0 14) (s32 (190 + b1)) (s32 (s32 ((m (m b0 14) (s32 (190 + b1))) - 1)))) b0 14) (s32 (182 + b1)) (s32 2)) b0 b1 1))))) + ((mu (mu m (m b0 14) (s32 (190 + b1)) (s32 (s32 ((m (m b0 14) (s32 (190 + b1))) - 1)))) ((mu m (m b0 14) (s32 (190 + b1)) (s32 (s32 ((m (m b0 14) (s32 (190 + b1))) - 1)))) b0 14) (s32 (182 + b1)) (s32 2)) ((mu (mu m (m b0 14) (s32 (190 + b1)) (s32 (s32 ((m (m b0 14) (s32 (190 + b1))) - 1)))) ((mu m (m b0 14) (s32 (190 + b1)) (s32 (s32 ((m (m b0 14) (s32 (190 + b1))) - 1)))) b0 14) (s32 (182 + b1)) (s32 2)) b0 14) (s32 (76 + b1)))))) + 1)))))) ((if_neg c1).trans ((if_pos c2).trans ((if_pos c3).trans (rfl))))
        rw [hr]
        exact ih N14 (by omega) (by omega) h
      ·
        have c3 : ¬ (((mu m (m b0 14) (s32 (190 + b1)) (s32 (s32 ((m (m b0 14) (s32 (190 + b1))) - 1)))) ((mu m (m b0 14) (s32 (190 + b1)) (s32 (s32 ((m (m b0 14) (s32 (190 + b1))) - 1)))) b0 14) (s32 (190 + b1))) ≤ 0) := c3
        have h : MR X ρ 3 0 0 qP231 N 56 [b0, b1, b2] [] (mu m (m b0 14) (s32 (190 + b1)) (s32 (s32 ((m (m b0 14) (s32 (190 + b1))) - 1)))) o := h
        have h := CR_go h rfl rfl
        have h : MR X ρ 3 0 0 qP231 N 112 [b0, b1, b2] [] (mu m (m b0 14) (s32 (190 + b1)) (s32 (s32 ((m (m b0 14) (s32 (190 + b1))) - 1)))) o := h
        have h := CR_inc h rfl (Nat.le_of_ble_eq_true rfl)
        have h : MR X ρ 3 0 0 qP231 N 115 [b0, s32 (b1 + 1), b2] [] (mu m (m b0 14) (s32 (190 + b1)) (s32 (s32 ((m (m b0 14) (s32 (190 + b1))) - 1)))) o := h
        obtain ⟨N15, eN15, h⟩ := CR_goto h rfl rfl
        have h : MR X ρ 3 0 0 qP231 N15 2 [b0, s32 (b1 + 1), b2] [] (mu m (m b0 14) (s32 (190 + b1)) (s32 (s32 ((m (m b0 14) (s32 (190 + b1))) - 1)))) o := h
        have hr : L231_2 m b0 b1 b2 = L231_2 (mu m (m b0 14) (s32 (190 + b1)) (s32 (s32 ((m (m b0 14) (s32 (190 + b1))) - 1)))) b0 (s32 (b1 + 1)) b2 := Lp_inl (f := K231_2 m b0 b1 b2) (s := (b1, b2, m)) (s' := (s32 (b1 + 1), b2, mu m (m b0 14) (s32 (190 + b1)) (s32 (s32 ((m (m b0 14) (s32 (190 + b1))) - 1))))) ((if_neg c1).trans ((if_pos c2).trans ((if_neg c3).trans (rfl))))
        rw [hr]
        exact ih N15 (by omega) (by omega) h
    ·
      have c2 : ¬ ((m (m b0 14) (s32 (182 + b1))) = 1) := c2
      have h : MR X ρ 3 0 0 qP231 N 26 [b0, b1, b2] [] m o := h
      have h := CR_go h rfl rfl
      have h : MR X ρ 3 0 0 qP231 N 112 [b0, b1, b2] [] m o := h
      have h := CR_inc h rfl (Nat.le_of_ble_eq_true rfl)
      have h : MR X ρ 3 0 0 qP231 N 115 [b0, s32 (b1 + 1), b2] [] m o := h
      obtain ⟨N16, eN16, h⟩ := CR_goto h rfl rfl
      have h : MR X ρ 3 0 0 qP231 N16 2 [b0, s32 (b1 + 1), b2] [] m o := h
      have hr : L231_2 m b0 b1 b2 = L231_2 m b0 (s32 (b1 + 1)) b2 := Lp_inl (f := K231_2 m b0 b1 b2) (s := (b1, b2, m)) (s' := (s32 (b1 + 1), b2, m)) ((if_neg c1).trans ((if_neg c2).trans (rfl)))
      rw [hr]
      exact ih N16 (by omega) (by omega) h
set_option maxRecDepth 16384 in
/-- TriplicateFormsModel.oneDay()V -/
noncomputable def g231 (m : MM) (a0 : Int) : MM := mu ((L231_120 ((L231_2 m a0 0 0).2.2.2.2) a0 0 ((L231_2 m a0 0 0).2.2.2.1)).2.2.2) (((L231_120 ((L231_2 m a0 0 0).2.2.2.2) a0 0 ((L231_2 m a0 0 0).2.2.2.1)).2.2.2) a0 14) 92 (s32 (s32 ((((L231_120 ((L231_2 m a0 0 0).2.2.2.2) a0 0 ((L231_2 m a0 0 0).2.2.2.1)).2.2.2) (((L231_120 ((L231_2 m a0 0 0).2.2.2.2) a0 0 ((L231_2 m a0 0 0).2.2.2.1)).2.2.2) a0 14) 92) + 1)))
set_option maxRecDepth 16384 in
theorem d231 {X : KO} {ρ : Nat → Int32} {m m' : MM} {rl : List (Nat × Int)} {a0 : Int} (h : Run X ρ 231 [(1, a0)] m rl m') : rl = [] ∧ m' = g231 m a0 := by
  obtain ⟨N, ig, h⟩ := Run_CR h rfl
  have h : MR X ρ 3 0 0 qP231 N 0 [a0, 0, 0] [] m (ig, rl, m') := h
  have h := CR_iconst h rfl rfl
  have h : MR X ρ 3 0 0 qP231 N 1 [a0, 0, 0] [(1, 0)] m (ig, rl, m') := h
  have h := CR_istore_n h rfl (Nat.le_of_ble_eq_true rfl)
  have h : MR X ρ 3 0 0 qP231 N 2 [a0, 0, 0] [] m (ig, rl, m') := h
  have h := l231_2 (Nat.le_refl _) h
  have h : MR X ρ 3 0 0 qP231 N 118 [a0, (L231_2 m a0 0 0).2.2.1, (L231_2 m a0 0 0).2.2.2.1] [] ((L231_2 m a0 0 0).2.2.2.2) (ig, rl, m') := h
  have h := CR_iconst h rfl rfl
  have h : MR X ρ 3 0 0 qP231 N 119 [a0, (L231_2 m a0 0 0).2.2.1, (L231_2 m a0 0 0).2.2.2.1] [(1, 0)] ((L231_2 m a0 0 0).2.2.2.2) (ig, rl, m') := h
  have h := CR_istore_n h rfl (Nat.le_of_ble_eq_true rfl)
  have h : MR X ρ 3 0 0 qP231 N 120 [a0, 0, (L231_2 m a0 0 0).2.2.2.1] [] ((L231_2 m a0 0 0).2.2.2.2) (ig, rl, m') := h
  have h := l231_120 (Nat.le_refl _) h
  have h : MR X ρ 3 0 0 qP231 N 143 [a0, (L231_120 ((L231_2 m a0 0 0).2.2.2.2) a0 0 ((L231_2 m a0 0 0).2.2.2.1)).2.2.1, (L231_2 m a0 0 0).2.2.2.1] [] ((L231_120 ((L231_2 m a0 0 0).2.2.2.2) a0 0 ((L231_2 m a0 0 0).2.2.2.1)).2.2.2) (ig, rl, m') := h
  have h := CR_aload_n h rfl
  have h : MR X ρ 3 0 0 qP231 N 144 [a0, (L231_120 ((L231_2 m a0 0 0).2.2.2.2) a0 0 ((L231_2 m a0 0 0).2.2.2.1)).2.2.1, (L231_2 m a0 0 0).2.2.2.1] [(1, a0)] ((L231_120 ((L231_2 m a0 0 0).2.2.2.2) a0 0 ((L231_2 m a0 0 0).2.2.2.1)).2.2.2) (ig, rl, m') := h
  have h := CR_getf h rfl (by decide)
  have h : MR X ρ 3 0 0 qP231 N 147 [a0, (L231_120 ((L231_2 m a0 0 0).2.2.2.2) a0 0 ((L231_2 m a0 0 0).2.2.2.1)).2.2.1, (L231_2 m a0 0 0).2.2.2.1] [(1, ((L231_120 ((L231_2 m a0 0 0).2.2.2.2) a0 0 ((L231_2 m a0 0 0).2.2.2.1)).2.2.2) a0 14)] ((L231_120 ((L231_2 m a0 0 0).2.2.2.2) a0 0 ((L231_2 m a0 0 0).2.2.2.1)).2.2.2) (ig, rl, m') := h
  have h := CR_bipush h rfl rfl
  have h : MR X ρ 3 0 0 qP231 N 149 [a0, (L231_120 ((L231_2 m a0 0 0).2.2.2.2) a0 0 ((L231_2 m a0 0 0).2.2.2.1)).2.2.1, (L231_2 m a0 0 0).2.2.2.1] [(1, 92), (1, ((L231_120 ((L231_2 m a0 0 0).2.2.2.2) a0 0 ((L231_2 m a0 0 0).2.2.2.1)).2.2.2) a0 14)] ((L231_120 ((L231_2 m a0 0 0).2.2.2.2) a0 0 ((L231_2 m a0 0 0).2.2.2.1)).2.2.2) (ig, rl, m') := h
  have h := CR_dup2 h rfl
  have h : MR X ρ 3 0 0 qP231 N 150 [a0, (L231_120 ((L231_2 m a0 0 0).2.2.2.2) a0 0 ((L231_2 m a0 0 0).2.2.2.1)).2.2.1, (L231_2 m a0 0 0).2.2.2.1] [(1, 92), (1, ((L231_120 ((L231_2 m a0 0 0).2.2.2.2) a0 0 ((L231_2 m a0 0 0).2.2.2.1)).2.2.2) a0 14), (1, 92), (1, ((L231_120 ((L231_2 m a0 0 0).2.2.2.2) a0 0 ((L231_2 m a0 0 0).2.2.2.1)).2.2.2) a0 14)] ((L231_120 ((L231_2 m a0 0 0).2.2.2.2) a0 0 ((L231_2 m a0 0 0).2.2.2.1)).2.2.2) (ig, rl, m') := h
  have h := CR_iaload h rfl rfl
  have h : MR X ρ 3 0 0 qP231 N 151 [a0, (L231_120 ((L231_2 m a0 0 0).2.2.2.2) a0 0 ((L231_2 m a0 0 0).2.2.2.1)).2.2.1, (L231_2 m a0 0 0).2.2.2.1] [(1, ((L231_120 ((L231_2 m a0 0 0).2.2.2.2) a0 0 ((L231_2 m a0 0 0).2.2.2.1)).2.2.2) (((L231_120 ((L231_2 m a0 0 0).2.2.2.2) a0 0 ((L231_2 m a0 0 0).2.2.2.1)).2.2.2) a0 14) 92), (1, 92), (1, ((L231_120 ((L231_2 m a0 0 0).2.2.2.2) a0 0 ((L231_2 m a0 0 0).2.2.2.1)).2.2.2) a0 14)] ((L231_120 ((L231_2 m a0 0 0).2.2.2.2) a0 0 ((L231_2 m a0 0 0).2.2.2.1)).2.2.2) (ig, rl, m') := h
  have h := CR_iconst h rfl rfl
  have h : MR X ρ 3 0 0 qP231 N 152 [a0, (L231_120 ((L231_2 m a0 0 0).2.2.2.2) a0 0 ((L231_2 m a0 0 0).2.2.2.1)).2.2.1, (L231_2 m a0 0 0).2.2.2.1] [(1, 1), (1, ((L231_120 ((L231_2 m a0 0 0).2.2.2.2) a0 0 ((L231_2 m a0 0 0).2.2.2.1)).2.2.2) (((L231_120 ((L231_2 m a0 0 0).2.2.2.2) a0 0 ((L231_2 m a0 0 0).2.2.2.1)).2.2.2) a0 14) 92), (1, 92), (1, ((L231_120 ((L231_2 m a0 0 0).2.2.2.2) a0 0 ((L231_2 m a0 0 0).2.2.2.1)).2.2.2) a0 14)] ((L231_120 ((L231_2 m a0 0 0).2.2.2.2) a0 0 ((L231_2 m a0 0 0).2.2.2.1)).2.2.2) (ig, rl, m') := h
  have h := CR_iadd h rfl
  have h : MR X ρ 3 0 0 qP231 N 153 [a0, (L231_120 ((L231_2 m a0 0 0).2.2.2.2) a0 0 ((L231_2 m a0 0 0).2.2.2.1)).2.2.1, (L231_2 m a0 0 0).2.2.2.1] [(1, s32 ((((L231_120 ((L231_2 m a0 0 0).2.2.2.2) a0 0 ((L231_2 m a0 0 0).2.2.2.1)).2.2.2) (((L231_120 ((L231_2 m a0 0 0).2.2.2.2) a0 0 ((L231_2 m a0 0 0).2.2.2.1)).2.2.2) a0 14) 92) + 1)), (1, 92), (1, ((L231_120 ((L231_2 m a0 0 0).2.2.2.2) a0 0 ((L231_2 m a0 0 0).2.2.2.1)).2.2.2) a0 14)] ((L231_120 ((L231_2 m a0 0 0).2.2.2.2) a0 0 ((L231_2 m a0 0 0).2.2.2.1)).2.2.2) (ig, rl, m') := h
  have h := CR_iastore_ h rfl
  have h : MR X ρ 3 0 0 qP231 N 154 [a0, (L231_120 ((L231_2 m a0 0 0).2.2.2.2) a0 0 ((L231_2 m a0 0 0).2.2.2.1)).2.2.1, (L231_2 m a0 0 0).2.2.2.1] [] (mu ((L231_120 ((L231_2 m a0 0 0).2.2.2.2) a0 0 ((L231_2 m a0 0 0).2.2.2.1)).2.2.2) (((L231_120 ((L231_2 m a0 0 0).2.2.2.2) a0 0 ((L231_2 m a0 0 0).2.2.2.1)).2.2.2) a0 14) 92 (s32 (s32 ((((L231_120 ((L231_2 m a0 0 0).2.2.2.2) a0 0 ((L231_2 m a0 0 0).2.2.2.1)).2.2.2) (((L231_120 ((L231_2 m a0 0 0).2.2.2.2) a0 0 ((L231_2 m a0 0 0).2.2.2.1)).2.2.2) a0 14) 92) + 1)))) (ig, rl, m') := h
  have e := CR_end h rfl rfl
  cases e
  exact ⟨rfl, Eq.symm (show g231 m a0 = _ from rfl)⟩
set_option maxRecDepth 16384 in
/-- TriplicateFormsModel.openForm(I)V, the loop at 2 -/
noncomputable def S232_2 (m : MM) (b0 b1 b2 : Int) : (Int × MM) ⊕ (Nat × Int × (Int × MM)) := (if 3 ≤ b2 then .inr (1, 0, (b2, m)) else .inl (s32 (b2 + 1), mu m (m b0 14) (s32 ((s32 (158 + (s32 (3 * b1)))) + b2)) (s32 (-1))))
set_option maxRecDepth 16384 in
noncomputable def K232_2 (m : MM) (b0 b1 b2 : Int) : (Int × MM) → (Int × MM) ⊕ (Nat × Int × (Int × MM)) := fun s => S232_2 s.2 b0 b1 s.1
set_option maxRecDepth 16384 in
noncomputable def L232_2 (m : MM) (b0 b1 b2 : Int) : (Nat × Int × (Int × MM)) := Lp (K232_2 m b0 b1 b2) (b2, m)
set_option maxRecDepth 16384 in
theorem l232_2 {X : KO} {ρ : Nat → Int32} {o : Instr × List (Nat × Int) × MM} {K : Nat} : ∀ {N : Nat} {m : MM} {b0 b1 b2 : Int}, N ≤ K → MR X ρ 3 0 0 qP232 N 2 [b0, b1, b2] [] m o → (MR X ρ 3 0 0 qP232 K 28 [b0, b1, (L232_2 m b0 b1 b2).2.2.1] [] ((L232_2 m b0 b1 b2).2.2.2) o) := by
  intro N
  induction N using Nat.strongRecOn with
  | ind N ih =>
  intro m b0 b1 b2 hK h
  have h := CR_iload_n h rfl
  have h : MR X ρ 3 0 0 qP232 N 3 [b0, b1, b2] [(1, b2)] m o := h
  have h := CR_iconst h rfl rfl
  have h : MR X ρ 3 0 0 qP232 N 4 [b0, b1, b2] [(1, 3), (1, b2)] m o := h
  rcases MR_icmp h rfl rfl with ⟨c1, h⟩ | ⟨c1, h⟩
  ·
    have c1 : 3 ≤ b2 := c1
    have h : MR X ρ 3 0 0 qP232 N 28 [b0, b1, b2] [] m o := h
    have hr : L232_2 m b0 b1 b2 = (1, 0, (b2, m)) := Lp_inr (f := K232_2 m b0 b1 b2) (s := (b2, m)) ((if_pos c1).trans (rfl))
    rw [hr]
    exact CR_le (by omega) h
  ·
    have c1 : ¬ (3 ≤ b2) := c1
    have h : MR X ρ 3 0 0 qP232 N 7 [b0, b1, b2] [] m o := h
    have h := CR_aload_n h rfl
    have h : MR X ρ 3 0 0 qP232 N 8 [b0, b1, b2] [(1, b0)] m o := h
    have h := CR_getf h rfl (by decide)
    have h : MR X ρ 3 0 0 qP232 N 11 [b0, b1, b2] [(1, m b0 14)] m o := h
    have h := CR_sipush h rfl rfl
    have h : MR X ρ 3 0 0 qP232 N 14 [b0, b1, b2] [(1, 158), (1, m b0 14)] m o := h
    have h := CR_iconst h rfl rfl
    have h : MR X ρ 3 0 0 qP232 N 15 [b0, b1, b2] [(1, 3), (1, 158), (1, m b0 14)] m o := h
    have h := CR_iload_n h rfl
    have h : MR X ρ 3 0 0 qP232 N 16 [b0, b1, b2] [(1, b1), (1, 3), (1, 158), (1, m b0 14)] m o := h
    have h := CR_imul h rfl
    have h : MR X ρ 3 0 0 qP232 N 17 [b0, b1, b2] [(1, s32 (3 * b1)), (1, 158), (1, m b0 14)] m o := h
    have h := CR_iadd h rfl
    have h : MR X ρ 3 0 0 qP232 N 18 [b0, b1, b2] [(1, s32 (158 + (s32 (3 * b1)))), (1, m b0 14)] m o := h
    have h := CR_iload_n h rfl
    have h : MR X ρ 3 0 0 qP232 N 19 [b0, b1, b2] [(1, b2), (1, s32 (158 + (s32 (3 * b1)))), (1, m b0 14)] m o := h
    have h := CR_iadd h rfl
    have h : MR X ρ 3 0 0 qP232 N 20 [b0, b1, b2] [(1, s32 ((s32 (158 + (s32 (3 * b1)))) + b2)), (1, m b0 14)] m o := h
    have h := CR_iconst h rfl rfl
    have h : MR X ρ 3 0 0 qP232 N 21 [b0, b1, b2] [(1, -1), (1, s32 ((s32 (158 + (s32 (3 * b1)))) + b2)), (1, m b0 14)] m o := h
    have h := CR_iastore_ h rfl
    have h : MR X ρ 3 0 0 qP232 N 22 [b0, b1, b2] [] (mu m (m b0 14) (s32 ((s32 (158 + (s32 (3 * b1)))) + b2)) (s32 (-1))) o := h
    have h := CR_inc h rfl (Nat.le_of_ble_eq_true rfl)
    have h : MR X ρ 3 0 0 qP232 N 25 [b0, b1, s32 (b2 + 1)] [] (mu m (m b0 14) (s32 ((s32 (158 + (s32 (3 * b1)))) + b2)) (s32 (-1))) o := h
    obtain ⟨N2, eN2, h⟩ := CR_goto h rfl rfl
    have h : MR X ρ 3 0 0 qP232 N2 2 [b0, b1, s32 (b2 + 1)] [] (mu m (m b0 14) (s32 ((s32 (158 + (s32 (3 * b1)))) + b2)) (s32 (-1))) o := h
    have hr : L232_2 m b0 b1 b2 = L232_2 (mu m (m b0 14) (s32 ((s32 (158 + (s32 (3 * b1)))) + b2)) (s32 (-1))) b0 b1 (s32 (b2 + 1)) := Lp_inl (f := K232_2 m b0 b1 b2) (s := (b2, m)) (s' := (s32 (b2 + 1), mu m (m b0 14) (s32 ((s32 (158 + (s32 (3 * b1)))) + b2)) (s32 (-1)))) ((if_neg c1).trans (rfl))
    rw [hr]
    exact ih N2 (by omega) (by omega) h
set_option maxRecDepth 16384 in
/-- TriplicateFormsModel.openForm(I)V -/
noncomputable def g232 (m : MM) (a0 a1 : Int) : MM := mu (mu ((L232_2 m a0 a1 0).2.2.2) (((L232_2 m a0 a1 0).2.2.2) a0 14) (s32 (182 + a1)) (s32 0)) ((mu ((L232_2 m a0 a1 0).2.2.2) (((L232_2 m a0 a1 0).2.2.2) a0 14) (s32 (182 + a1)) (s32 0)) a0 14) (s32 (190 + a1)) (s32 ((mu ((L232_2 m a0 a1 0).2.2.2) (((L232_2 m a0 a1 0).2.2.2) a0 14) (s32 (182 + a1)) (s32 0)) ((mu ((L232_2 m a0 a1 0).2.2.2) (((L232_2 m a0 a1 0).2.2.2) a0 14) (s32 (182 + a1)) (s32 0)) a0 14) (s32 (84 + a1))))
set_option maxRecDepth 16384 in
theorem d232 {X : KO} {ρ : Nat → Int32} {m m' : MM} {rl : List (Nat × Int)} {a0 a1 : Int} (h : Run X ρ 232 [(1, a0), (1, a1)] m rl m') : rl = [] ∧ m' = g232 m a0 a1 := by
  obtain ⟨N, ig, h⟩ := Run_CR h rfl
  have h : MR X ρ 3 0 0 qP232 N 0 [a0, a1, 0] [] m (ig, rl, m') := h
  have h := CR_iconst h rfl rfl
  have h : MR X ρ 3 0 0 qP232 N 1 [a0, a1, 0] [(1, 0)] m (ig, rl, m') := h
  have h := CR_istore_n h rfl (Nat.le_of_ble_eq_true rfl)
  have h : MR X ρ 3 0 0 qP232 N 2 [a0, a1, 0] [] m (ig, rl, m') := h
  have h := l232_2 (Nat.le_refl _) h
  have h : MR X ρ 3 0 0 qP232 N 28 [a0, a1, (L232_2 m a0 a1 0).2.2.1] [] ((L232_2 m a0 a1 0).2.2.2) (ig, rl, m') := h
  have h := CR_aload_n h rfl
  have h : MR X ρ 3 0 0 qP232 N 29 [a0, a1, (L232_2 m a0 a1 0).2.2.1] [(1, a0)] ((L232_2 m a0 a1 0).2.2.2) (ig, rl, m') := h
  have h := CR_getf h rfl (by decide)
  have h : MR X ρ 3 0 0 qP232 N 32 [a0, a1, (L232_2 m a0 a1 0).2.2.1] [(1, ((L232_2 m a0 a1 0).2.2.2) a0 14)] ((L232_2 m a0 a1 0).2.2.2) (ig, rl, m') := h
  have h := CR_sipush h rfl rfl
  have h : MR X ρ 3 0 0 qP232 N 35 [a0, a1, (L232_2 m a0 a1 0).2.2.1] [(1, 182), (1, ((L232_2 m a0 a1 0).2.2.2) a0 14)] ((L232_2 m a0 a1 0).2.2.2) (ig, rl, m') := h
  have h := CR_iload_n h rfl
  have h : MR X ρ 3 0 0 qP232 N 36 [a0, a1, (L232_2 m a0 a1 0).2.2.1] [(1, a1), (1, 182), (1, ((L232_2 m a0 a1 0).2.2.2) a0 14)] ((L232_2 m a0 a1 0).2.2.2) (ig, rl, m') := h
  have h := CR_iadd h rfl
  have h : MR X ρ 3 0 0 qP232 N 37 [a0, a1, (L232_2 m a0 a1 0).2.2.1] [(1, s32 (182 + a1)), (1, ((L232_2 m a0 a1 0).2.2.2) a0 14)] ((L232_2 m a0 a1 0).2.2.2) (ig, rl, m') := h
  have h := CR_iconst h rfl rfl
  have h : MR X ρ 3 0 0 qP232 N 38 [a0, a1, (L232_2 m a0 a1 0).2.2.1] [(1, 0), (1, s32 (182 + a1)), (1, ((L232_2 m a0 a1 0).2.2.2) a0 14)] ((L232_2 m a0 a1 0).2.2.2) (ig, rl, m') := h
  have h := CR_iastore_ h rfl
  have h : MR X ρ 3 0 0 qP232 N 39 [a0, a1, (L232_2 m a0 a1 0).2.2.1] [] (mu ((L232_2 m a0 a1 0).2.2.2) (((L232_2 m a0 a1 0).2.2.2) a0 14) (s32 (182 + a1)) (s32 0)) (ig, rl, m') := h
  have h := CR_aload_n h rfl
  have h : MR X ρ 3 0 0 qP232 N 40 [a0, a1, (L232_2 m a0 a1 0).2.2.1] [(1, a0)] (mu ((L232_2 m a0 a1 0).2.2.2) (((L232_2 m a0 a1 0).2.2.2) a0 14) (s32 (182 + a1)) (s32 0)) (ig, rl, m') := h
  have h := CR_getf h rfl (by decide)
  have h : MR X ρ 3 0 0 qP232 N 43 [a0, a1, (L232_2 m a0 a1 0).2.2.1] [(1, (mu ((L232_2 m a0 a1 0).2.2.2) (((L232_2 m a0 a1 0).2.2.2) a0 14) (s32 (182 + a1)) (s32 0)) a0 14)] (mu ((L232_2 m a0 a1 0).2.2.2) (((L232_2 m a0 a1 0).2.2.2) a0 14) (s32 (182 + a1)) (s32 0)) (ig, rl, m') := h
  have h := CR_sipush h rfl rfl
  have h : MR X ρ 3 0 0 qP232 N 46 [a0, a1, (L232_2 m a0 a1 0).2.2.1] [(1, 190), (1, (mu ((L232_2 m a0 a1 0).2.2.2) (((L232_2 m a0 a1 0).2.2.2) a0 14) (s32 (182 + a1)) (s32 0)) a0 14)] (mu ((L232_2 m a0 a1 0).2.2.2) (((L232_2 m a0 a1 0).2.2.2) a0 14) (s32 (182 + a1)) (s32 0)) (ig, rl, m') := h
  have h := CR_iload_n h rfl
  have h : MR X ρ 3 0 0 qP232 N 47 [a0, a1, (L232_2 m a0 a1 0).2.2.1] [(1, a1), (1, 190), (1, (mu ((L232_2 m a0 a1 0).2.2.2) (((L232_2 m a0 a1 0).2.2.2) a0 14) (s32 (182 + a1)) (s32 0)) a0 14)] (mu ((L232_2 m a0 a1 0).2.2.2) (((L232_2 m a0 a1 0).2.2.2) a0 14) (s32 (182 + a1)) (s32 0)) (ig, rl, m') := h
  have h := CR_iadd h rfl
  have h : MR X ρ 3 0 0 qP232 N 48 [a0, a1, (L232_2 m a0 a1 0).2.2.1] [(1, s32 (190 + a1)), (1, (mu ((L232_2 m a0 a1 0).2.2.2) (((L232_2 m a0 a1 0).2.2.2) a0 14) (s32 (182 + a1)) (s32 0)) a0 14)] (mu ((L232_2 m a0 a1 0).2.2.2) (((L232_2 m a0 a1 0).2.2.2) a0 14) (s32 (182 + a1)) (s32 0)) (ig, rl, m') := h
  have h := CR_aload_n h rfl
  have h : MR X ρ 3 0 0 qP232 N 49 [a0, a1, (L232_2 m a0 a1 0).2.2.1] [(1, a0), (1, s32 (190 + a1)), (1, (mu ((L232_2 m a0 a1 0).2.2.2) (((L232_2 m a0 a1 0).2.2.2) a0 14) (s32 (182 + a1)) (s32 0)) a0 14)] (mu ((L232_2 m a0 a1 0).2.2.2) (((L232_2 m a0 a1 0).2.2.2) a0 14) (s32 (182 + a1)) (s32 0)) (ig, rl, m') := h
  have h := CR_getf h rfl (by decide)
  have h : MR X ρ 3 0 0 qP232 N 52 [a0, a1, (L232_2 m a0 a1 0).2.2.1] [(1, (mu ((L232_2 m a0 a1 0).2.2.2) (((L232_2 m a0 a1 0).2.2.2) a0 14) (s32 (182 + a1)) (s32 0)) a0 14), (1, s32 (190 + a1)), (1, (mu ((L232_2 m a0 a1 0).2.2.2) (((L232_2 m a0 a1 0).2.2.2) a0 14) (s32 (182 + a1)) (s32 0)) a0 14)] (mu ((L232_2 m a0 a1 0).2.2.2) (((L232_2 m a0 a1 0).2.2.2) a0 14) (s32 (182 + a1)) (s32 0)) (ig, rl, m') := h
  have h := CR_bipush h rfl rfl
  have h : MR X ρ 3 0 0 qP232 N 54 [a0, a1, (L232_2 m a0 a1 0).2.2.1] [(1, 84), (1, (mu ((L232_2 m a0 a1 0).2.2.2) (((L232_2 m a0 a1 0).2.2.2) a0 14) (s32 (182 + a1)) (s32 0)) a0 14), (1, s32 (190 + a1)), (1, (mu ((L232_2 m a0 a1 0).2.2.2) (((L232_2 m a0 a1 0).2.2.2) a0 14) (s32 (182 + a1)) (s32 0)) a0 14)] (mu ((L232_2 m a0 a1 0).2.2.2) (((L232_2 m a0 a1 0).2.2.2) a0 14) (s32 (182 + a1)) (s32 0)) (ig, rl, m') := h
  have h := CR_iload_n h rfl
  have h : MR X ρ 3 0 0 qP232 N 55 [a0, a1, (L232_2 m a0 a1 0).2.2.1] [(1, a1), (1, 84), (1, (mu ((L232_2 m a0 a1 0).2.2.2) (((L232_2 m a0 a1 0).2.2.2) a0 14) (s32 (182 + a1)) (s32 0)) a0 14), (1, s32 (190 + a1)), (1, (mu ((L232_2 m a0 a1 0).2.2.2) (((L232_2 m a0 a1 0).2.2.2) a0 14) (s32 (182 + a1)) (s32 0)) a0 14)] (mu ((L232_2 m a0 a1 0).2.2.2) (((L232_2 m a0 a1 0).2.2.2) a0 14) (s32 (182 + a1)) (s32 0)) (ig, rl, m') := h
  have h := CR_iadd h rfl
  have h : MR X ρ 3 0 0 qP232 N 56 [a0, a1, (L232_2 m a0 a1 0).2.2.1] [(1, s32 (84 + a1)), (1, (mu ((L232_2 m a0 a1 0).2.2.2) (((L232_2 m a0 a1 0).2.2.2) a0 14) (s32 (182 + a1)) (s32 0)) a0 14), (1, s32 (190 + a1)), (1, (mu ((L232_2 m a0 a1 0).2.2.2) (((L232_2 m a0 a1 0).2.2.2) a0 14) (s32 (182 + a1)) (s32 0)) a0 14)] (mu ((L232_2 m a0 a1 0).2.2.2) (((L232_2 m a0 a1 0).2.2.2) a0 14) (s32 (182 + a1)) (s32 0)) (ig, rl, m') := h
  have h := CR_iaload h rfl rfl
  have h : MR X ρ 3 0 0 qP232 N 57 [a0, a1, (L232_2 m a0 a1 0).2.2.1] [(1, (mu ((L232_2 m a0 a1 0).2.2.2) (((L232_2 m a0 a1 0).2.2.2) a0 14) (s32 (182 + a1)) (s32 0)) ((mu ((L232_2 m a0 a1 0).2.2.2) (((L232_2 m a0 a1 0).2.2.2) a0 14) (s32 (182 + a1)) (s32 0)) a0 14) (s32 (84 + a1))), (1, s32 (190 + a1)), (1, (mu ((L232_2 m a0 a1 0).2.2.2) (((L232_2 m a0 a1 0).2.2.2) a0 14) (s32 (182 + a1)) (s32 0)) a0 14)] (mu ((L232_2 m a0 a1 0).2.2.2) (((L232_2 m a0 a1 0).2.2.2) a0 14) (s32 (182 + a1)) (s32 0)) (ig, rl, m') := h
  have h := CR_iastore_ h rfl
  have h : MR X ρ 3 0 0 qP232 N 58 [a0, a1, (L232_2 m a0 a1 0).2.2.1] [] (mu (mu ((L232_2 m a0 a1 0).2.2.2) (((L232_2 m a0 a1 0).2.2.2) a0 14) (s32 (182 + a1)) (s32 0)) ((mu ((L232_2 m a0 a1 0).2.2.2) (((L232_2 m a0 a1 0).2.2.2) a0 14) (s32 (182 + a1)) (s32 0)) a0 14) (s32 (190 + a1)) (s32 ((mu ((L232_2 m a0 a1 0).2.2.2) (((L232_2 m a0 a1 0).2.2.2) a0 14) (s32 (182 + a1)) (s32 0)) ((mu ((L232_2 m a0 a1 0).2.2.2) (((L232_2 m a0 a1 0).2.2.2) a0 14) (s32 (182 + a1)) (s32 0)) a0 14) (s32 (84 + a1))))) (ig, rl, m') := h
  have e := CR_end h rfl rfl
  cases e
  exact ⟨rfl, Eq.symm (show g232 m a0 a1 = _ from rfl)⟩
set_option maxRecDepth 16384 in
/-- TriplicateFormsModel.partOf(II)I, the loop at 17 -/
noncomputable def S235_17 (m : MM) (b0 b1 b2 b3 : Int) : (Int) ⊕ (Nat × Int × (Int)) := (if 3 ≤ b3 then .inr (1, 0, b3) else (if (f273 m b0 b2 b3) = b1 then .inr (2, -1, b3) else .inl (s32 (b3 + 1))))
set_option maxRecDepth 16384 in
noncomputable def K235_17 (m : MM) (b0 b1 b2 b3 : Int) : (Int) → (Int) ⊕ (Nat × Int × (Int)) := fun s => S235_17 m b0 b1 b2 s
set_option maxRecDepth 16384 in
noncomputable def L235_17 (m : MM) (b0 b1 b2 b3 : Int) : (Nat × Int × (Int)) := Lp (K235_17 m b0 b1 b2 b3) b3
set_option maxRecDepth 16384 in
theorem l235_17 {X : KO} {ρ : Nat → Int32} {o : Instr × List (Nat × Int) × MM} {K : Nat} : ∀ {N : Nat} {m : MM} {b0 b1 b2 b3 : Int}, N ≤ K → MR X ρ 4 0 0 qP235 N 17 [b0, b1, b2, b3] [] m o → (((L235_17 m b0 b1 b2 b3).1 = 1 ∧ (MR X ρ 4 0 0 qP235 K 40 [b0, b1, b2, (L235_17 m b0 b1 b2 b3).2.2] [] m o)) ∨ (¬ ((L235_17 m b0 b1 b2 b3).1 = 1) ∧ (o = (.ireturn, [(1, (L235_17 m b0 b1 b2 b3).2.1)], m)))) := by
  intro N
  induction N using Nat.strongRecOn with
  | ind N ih =>
  intro m b0 b1 b2 b3 hK h
  have h := CR_iload_n h rfl
  have h : MR X ρ 4 0 0 qP235 N 18 [b0, b1, b2, b3] [(1, b3)] m o := h
  have h := CR_iconst h rfl rfl
  have h : MR X ρ 4 0 0 qP235 N 19 [b0, b1, b2, b3] [(1, 3), (1, b3)] m o := h
  rcases MR_icmp h rfl rfl with ⟨c1, h⟩ | ⟨c1, h⟩
  ·
    have c1 : 3 ≤ b3 := c1
    have h : MR X ρ 4 0 0 qP235 N 40 [b0, b1, b2, b3] [] m o := h
    have hr : L235_17 m b0 b1 b2 b3 = (1, 0, b3) := Lp_inr (f := K235_17 m b0 b1 b2 b3) (s := b3) ((if_pos c1).trans (rfl))
    rw [hr]
    exact Or.inl ⟨rfl, CR_le (by omega) h⟩
  ·
    have c1 : ¬ (3 ≤ b3) := c1
    have h : MR X ρ 4 0 0 qP235 N 22 [b0, b1, b2, b3] [] m o := h
    have h := CR_aload_n h rfl
    have h : MR X ρ 4 0 0 qP235 N 23 [b0, b1, b2, b3] [(1, b0)] m o := h
    have h := CR_iload_n h rfl
    have h : MR X ρ 4 0 0 qP235 N 24 [b0, b1, b2, b3] [(1, b2), (1, b0)] m o := h
    have h := CR_iload_n h rfl
    have h : MR X ρ 4 0 0 qP235 N 25 [b0, b1, b2, b3] [(1, b3), (1, b2), (1, b0)] m o := h
    obtain ⟨r2, m3, q4, h⟩ := MR_invV h rfl rfl
    have q4 : Run X ρ 273 [(1, b0), (1, b2), (1, b3)] m r2 m3 := q4
    obtain ⟨e5, e6⟩ := d273 q4
    rw [e5, e6] at h
    have h : MR X ρ 4 0 0 qP235 N 28 [b0, b1, b2, b3] [(1, f273 m b0 b2 b3)] m o := h
    have h := CR_iload_n h rfl
    have h : MR X ρ 4 0 0 qP235 N 29 [b0, b1, b2, b3] [(1, b1), (1, f273 m b0 b2 b3)] m o := h
    rcases MR_icmp h rfl rfl with ⟨c7, h⟩ | ⟨c7, h⟩
    ·
      have c7 : ¬ ((f273 m b0 b2 b3) = b1) := c7
      have h : MR X ρ 4 0 0 qP235 N 34 [b0, b1, b2, b3] [] m o := h
      have h := CR_inc h rfl (Nat.le_of_ble_eq_true rfl)
      have h : MR X ρ 4 0 0 qP235 N 37 [b0, b1, b2, s32 (b3 + 1)] [] m o := h
      obtain ⟨N8, eN8, h⟩ := CR_goto h rfl rfl
      have h : MR X ρ 4 0 0 qP235 N8 17 [b0, b1, b2, s32 (b3 + 1)] [] m o := h
      have hr : L235_17 m b0 b1 b2 b3 = L235_17 m b0 b1 b2 (s32 (b3 + 1)) := Lp_inl (f := K235_17 m b0 b1 b2 b3) (s := b3) (s' := s32 (b3 + 1)) ((if_neg c1).trans ((if_neg c7).trans (rfl)))
      rw [hr]
      exact ih N8 (by omega) (by omega) h
    ·
      have c7 : (f273 m b0 b2 b3) = b1 := Decidable.of_not_not (show ¬ ¬ ((f273 m b0 b2 b3) = b1) from c7)
      have h : MR X ρ 4 0 0 qP235 N 32 [b0, b1, b2, b3] [] m o := h
      have h := CR_iconst h rfl rfl
      have h : MR X ρ 4 0 0 qP235 N 33 [b0, b1, b2, b3] [(1, -1)] m o := h
      have e := CR_end h rfl rfl
      have hr : L235_17 m b0 b1 b2 b3 = (2, -1, b3) := Lp_inr (f := K235_17 m b0 b1 b2 b3) (s := b3) ((if_neg c1).trans ((if_pos c7).trans (rfl)))
      rw [hr]
      refine Or.inr ⟨(show ¬ ((2 : Nat) = 1) by decide), ?_⟩
      exact e
set_option maxRecDepth 16384 in
/-- TriplicateFormsModel.partOf(II)I -/
noncomputable def f235 (m : MM) (a0 a1 a2 : Int) : Int := (if (m (m a0 14) (s32 (182 + a2))) = 0 then (if (L235_17 m a0 a1 a2 0).1 = 1 then (if (f234 m a0 a1 a2 (f204 m a0 a2)) = (-1) then -1 else (if (f273 m a0 a2 (f234 m a0 a1 a2 (f204 m a0 a2))) = (-1) then f234 m a0 a1 a2 (f204 m a0 a2) else -1)) else (L235_17 m a0 a1 a2 0).2.1) else -1)
set_option maxRecDepth 16384 in
theorem d235 {X : KO} {ρ : Nat → Int32} {m m' : MM} {rl : List (Nat × Int)} {a0 a1 a2 : Int} (h : Run X ρ 235 [(1, a0), (1, a1), (1, a2)] m rl m') : rl = [(1, f235 m a0 a1 a2)] ∧ m' = m := by
  obtain ⟨N, ig, h⟩ := Run_CR h rfl
  have h : MR X ρ 4 0 0 qP235 N 0 [a0, a1, a2, 0] [] m (ig, rl, m') := h
  have h := CR_aload_n h rfl
  have h : MR X ρ 4 0 0 qP235 N 1 [a0, a1, a2, 0] [(1, a0)] m (ig, rl, m') := h
  have h := CR_getf h rfl (by decide)
  have h : MR X ρ 4 0 0 qP235 N 4 [a0, a1, a2, 0] [(1, m a0 14)] m (ig, rl, m') := h
  have h := CR_sipush h rfl rfl
  have h : MR X ρ 4 0 0 qP235 N 7 [a0, a1, a2, 0] [(1, 182), (1, m a0 14)] m (ig, rl, m') := h
  have h := CR_iload_n h rfl
  have h : MR X ρ 4 0 0 qP235 N 8 [a0, a1, a2, 0] [(1, a2), (1, 182), (1, m a0 14)] m (ig, rl, m') := h
  have h := CR_iadd h rfl
  have h : MR X ρ 4 0 0 qP235 N 9 [a0, a1, a2, 0] [(1, s32 (182 + a2)), (1, m a0 14)] m (ig, rl, m') := h
  have h := CR_iaload h rfl rfl
  have h : MR X ρ 4 0 0 qP235 N 10 [a0, a1, a2, 0] [(1, m (m a0 14) (s32 (182 + a2)))] m (ig, rl, m') := h
  rcases MR_if h rfl rfl with ⟨c1, h⟩ | ⟨c1, h⟩
  ·
    have c1 : (m (m a0 14) (s32 (182 + a2))) = 0 := c1
    have h : MR X ρ 4 0 0 qP235 N 15 [a0, a1, a2, 0] [] m (ig, rl, m') := h
    have h := CR_iconst h rfl rfl
    have h : MR X ρ 4 0 0 qP235 N 16 [a0, a1, a2, 0] [(1, 0)] m (ig, rl, m') := h
    have h := CR_istore_n h rfl (Nat.le_of_ble_eq_true rfl)
    have h : MR X ρ 4 0 0 qP235 N 17 [a0, a1, a2, 0] [] m (ig, rl, m') := h
    have h := l235_17 (Nat.le_refl _) h
    rcases h with ⟨x2, h⟩ | ⟨x2, h⟩
    ·
      have x2 : (L235_17 m a0 a1 a2 0).1 = 1 := x2
      have h : MR X ρ 4 0 0 qP235 N 40 [a0, a1, a2, (L235_17 m a0 a1 a2 0).2.2] [] m (ig, rl, m') := h
      have h := CR_aload_n h rfl
      have h : MR X ρ 4 0 0 qP235 N 41 [a0, a1, a2, (L235_17 m a0 a1 a2 0).2.2] [(1, a0)] m (ig, rl, m') := h
      have h := CR_iload_n h rfl
      have h : MR X ρ 4 0 0 qP235 N 42 [a0, a1, a2, (L235_17 m a0 a1 a2 0).2.2] [(1, a1), (1, a0)] m (ig, rl, m') := h
      have h := CR_iload_n h rfl
      have h : MR X ρ 4 0 0 qP235 N 43 [a0, a1, a2, (L235_17 m a0 a1 a2 0).2.2] [(1, a2), (1, a1), (1, a0)] m (ig, rl, m') := h
      have h := CR_aload_n h rfl
      have h : MR X ρ 4 0 0 qP235 N 44 [a0, a1, a2, (L235_17 m a0 a1 a2 0).2.2] [(1, a0), (1, a2), (1, a1), (1, a0)] m (ig, rl, m') := h
      have h := CR_iload_n h rfl
      have h : MR X ρ 4 0 0 qP235 N 45 [a0, a1, a2, (L235_17 m a0 a1 a2 0).2.2] [(1, a2), (1, a0), (1, a2), (1, a1), (1, a0)] m (ig, rl, m') := h
      obtain ⟨r3, m4, q5, h⟩ := MR_invV h rfl rfl
      have q5 : Run X ρ 204 [(1, a0), (1, a2)] m r3 m4 := q5
      obtain ⟨e6, e7⟩ := d204 q5
      rw [e6, e7] at h
      have h : MR X ρ 4 0 0 qP235 N 48 [a0, a1, a2, (L235_17 m a0 a1 a2 0).2.2] [(1, f204 m a0 a2), (1, a2), (1, a1), (1, a0)] m (ig, rl, m') := h
      obtain ⟨r8, m9, q10, h⟩ := MR_invV h rfl rfl
      have q10 : Run X ρ 234 [(1, a0), (1, a1), (1, a2), (1, f204 m a0 a2)] m r8 m9 := q10
      obtain ⟨e11, e12⟩ := d234 q10
      rw [e11, e12] at h
      have h : MR X ρ 4 0 0 qP235 N 51 [a0, a1, a2, (L235_17 m a0 a1 a2 0).2.2] [(1, f234 m a0 a1 a2 (f204 m a0 a2))] m (ig, rl, m') := h
      have h := CR_istore_n h rfl (Nat.le_of_ble_eq_true rfl)
      have h : MR X ρ 4 0 0 qP235 N 52 [a0, a1, a2, f234 m a0 a1 a2 (f204 m a0 a2)] [] m (ig, rl, m') := h
      have h := CR_iload_n h rfl
      have h : MR X ρ 4 0 0 qP235 N 53 [a0, a1, a2, f234 m a0 a1 a2 (f204 m a0 a2)] [(1, f234 m a0 a1 a2 (f204 m a0 a2))] m (ig, rl, m') := h
      have h := CR_iconst h rfl rfl
      have h : MR X ρ 4 0 0 qP235 N 54 [a0, a1, a2, f234 m a0 a1 a2 (f204 m a0 a2)] [(1, -1), (1, f234 m a0 a1 a2 (f204 m a0 a2))] m (ig, rl, m') := h
      rcases MR_icmp h rfl rfl with ⟨c13, h⟩ | ⟨c13, h⟩
      ·
        have c13 : (f234 m a0 a1 a2 (f204 m a0 a2)) = (-1) := c13
        have h : MR X ρ 4 0 0 qP235 N 67 [a0, a1, a2, f234 m a0 a1 a2 (f204 m a0 a2)] [] m (ig, rl, m') := h
        have h := CR_iconst h rfl rfl
        have h : MR X ρ 4 0 0 qP235 N 68 [a0, a1, a2, f234 m a0 a1 a2 (f204 m a0 a2)] [(1, -1)] m (ig, rl, m') := h
        have h := CR_go h rfl rfl
        have h : MR X ρ 4 0 0 qP235 N 72 [a0, a1, a2, f234 m a0 a1 a2 (f204 m a0 a2)] [(1, -1)] m (ig, rl, m') := h
        have e := CR_end h rfl rfl
        cases e
        exact ⟨congrArg (fun z => [(1, z)]) (Eq.symm (show f235 m a0 a1 a2 = _ from (if_pos c1).trans ((if_pos x2).trans ((if_pos c13).trans (rfl))))), rfl⟩
      ·
        have c13 : ¬ ((f234 m a0 a1 a2 (f204 m a0 a2)) = (-1)) := c13
        have h : MR X ρ 4 0 0 qP235 N 57 [a0, a1, a2, f234 m a0 a1 a2 (f204 m a0 a2)] [] m (ig, rl, m') := h
        have h := CR_aload_n h rfl
        have h : MR X ρ 4 0 0 qP235 N 58 [a0, a1, a2, f234 m a0 a1 a2 (f204 m a0 a2)] [(1, a0)] m (ig, rl, m') := h
        have h := CR_iload_n h rfl
        have h : MR X ρ 4 0 0 qP235 N 59 [a0, a1, a2, f234 m a0 a1 a2 (f204 m a0 a2)] [(1, a2), (1, a0)] m (ig, rl, m') := h
        have h := CR_iload_n h rfl
        have h : MR X ρ 4 0 0 qP235 N 60 [a0, a1, a2, f234 m a0 a1 a2 (f204 m a0 a2)] [(1, f234 m a0 a1 a2 (f204 m a0 a2)), (1, a2), (1, a0)] m (ig, rl, m') := h
        obtain ⟨r14, m15, q16, h⟩ := MR_invV h rfl rfl
        have q16 : Run X ρ 273 [(1, a0), (1, a2), (1, f234 m a0 a1 a2 (f204 m a0 a2))] m r14 m15 := q16
        obtain ⟨e17, e18⟩ := d273 q16
        rw [e17, e18] at h
        have h : MR X ρ 4 0 0 qP235 N 63 [a0, a1, a2, f234 m a0 a1 a2 (f204 m a0 a2)] [(1, f273 m a0 a2 (f234 m a0 a1 a2 (f204 m a0 a2)))] m (ig, rl, m') := h
        have h := CR_iconst h rfl rfl
        have h : MR X ρ 4 0 0 qP235 N 64 [a0, a1, a2, f234 m a0 a1 a2 (f204 m a0 a2)] [(1, -1), (1, f273 m a0 a2 (f234 m a0 a1 a2 (f204 m a0 a2)))] m (ig, rl, m') := h
        rcases MR_icmp h rfl rfl with ⟨c19, h⟩ | ⟨c19, h⟩
        ·
          have c19 : (f273 m a0 a2 (f234 m a0 a1 a2 (f204 m a0 a2))) = (-1) := c19
          have h : MR X ρ 4 0 0 qP235 N 71 [a0, a1, a2, f234 m a0 a1 a2 (f204 m a0 a2)] [] m (ig, rl, m') := h
          have h := CR_iload_n h rfl
          have h : MR X ρ 4 0 0 qP235 N 72 [a0, a1, a2, f234 m a0 a1 a2 (f204 m a0 a2)] [(1, f234 m a0 a1 a2 (f204 m a0 a2))] m (ig, rl, m') := h
          have e := CR_end h rfl rfl
          cases e
          exact ⟨congrArg (fun z => [(1, z)]) (Eq.symm (show f235 m a0 a1 a2 = _ from (if_pos c1).trans ((if_pos x2).trans ((if_neg c13).trans ((if_pos c19).trans (rfl)))))), rfl⟩
        ·
          have c19 : ¬ ((f273 m a0 a2 (f234 m a0 a1 a2 (f204 m a0 a2))) = (-1)) := c19
          have h : MR X ρ 4 0 0 qP235 N 67 [a0, a1, a2, f234 m a0 a1 a2 (f204 m a0 a2)] [] m (ig, rl, m') := h
          have h := CR_iconst h rfl rfl
          have h : MR X ρ 4 0 0 qP235 N 68 [a0, a1, a2, f234 m a0 a1 a2 (f204 m a0 a2)] [(1, -1)] m (ig, rl, m') := h
          have h := CR_go h rfl rfl
          have h : MR X ρ 4 0 0 qP235 N 72 [a0, a1, a2, f234 m a0 a1 a2 (f204 m a0 a2)] [(1, -1)] m (ig, rl, m') := h
          have e := CR_end h rfl rfl
          cases e
          exact ⟨congrArg (fun z => [(1, z)]) (Eq.symm (show f235 m a0 a1 a2 = _ from (if_pos c1).trans ((if_pos x2).trans ((if_neg c13).trans ((if_neg c19).trans (rfl)))))), rfl⟩
    ·
      have x2 : ¬ ((L235_17 m a0 a1 a2 0).1 = 1) := x2
      have e := CR_end_id h
      cases e
      exact ⟨congrArg (fun z => [(1, z)]) (Eq.symm (show f235 m a0 a1 a2 = _ from (if_pos c1).trans ((if_neg x2).trans (rfl)))), rfl⟩
  ·
    have c1 : ¬ ((m (m a0 14) (s32 (182 + a2))) = 0) := c1
    have h : MR X ρ 4 0 0 qP235 N 13 [a0, a1, a2, 0] [] m (ig, rl, m') := h
    have h := CR_iconst h rfl rfl
    have h : MR X ρ 4 0 0 qP235 N 14 [a0, a1, a2, 0] [(1, -1)] m (ig, rl, m') := h
    have e := CR_end h rfl rfl
    cases e
    exact ⟨congrArg (fun z => [(1, z)]) (Eq.symm (show f235 m a0 a1 a2 = _ from (if_neg c1).trans (rfl))), rfl⟩
set_option maxRecDepth 16384 in
/-- TriplicateFormsModel.passDays(I)I, the loop at 18 -/
noncomputable def S237_18 (m : MM) (b0 b1 b2 b3 : Int) : (Int × MM) ⊕ (Nat × Int × (Int × MM)) := (if b2 ≤ b3 then .inr (1, 0, (b3, m)) else .inl (s32 (b3 + 1), g231 m b0))
set_option maxRecDepth 16384 in
noncomputable def K237_18 (m : MM) (b0 b1 b2 b3 : Int) : (Int × MM) → (Int × MM) ⊕ (Nat × Int × (Int × MM)) := fun s => S237_18 s.2 b0 b1 b2 s.1
set_option maxRecDepth 16384 in
noncomputable def L237_18 (m : MM) (b0 b1 b2 b3 : Int) : (Nat × Int × (Int × MM)) := Lp (K237_18 m b0 b1 b2 b3) (b3, m)
set_option maxRecDepth 16384 in
theorem l237_18 {X : KO} {ρ : Nat → Int32} {o : Instr × List (Nat × Int) × MM} {K : Nat} : ∀ {N : Nat} {m : MM} {b0 b1 b2 b3 : Int}, N ≤ K → MR X ρ 4 0 0 qP237 N 18 [b0, b1, b2, b3] [] m o → (MR X ρ 4 0 0 qP237 K 33 [b0, b1, b2, (L237_18 m b0 b1 b2 b3).2.2.1] [] ((L237_18 m b0 b1 b2 b3).2.2.2) o) := by
  intro N
  induction N using Nat.strongRecOn with
  | ind N ih =>
  intro m b0 b1 b2 b3 hK h
  have h := CR_iload_n h rfl
  have h : MR X ρ 4 0 0 qP237 N 19 [b0, b1, b2, b3] [(1, b3)] m o := h
  have h := CR_iload_n h rfl
  have h : MR X ρ 4 0 0 qP237 N 20 [b0, b1, b2, b3] [(1, b2), (1, b3)] m o := h
  rcases MR_icmp h rfl rfl with ⟨c1, h⟩ | ⟨c1, h⟩
  ·
    have c1 : b2 ≤ b3 := c1
    have h : MR X ρ 4 0 0 qP237 N 33 [b0, b1, b2, b3] [] m o := h
    have hr : L237_18 m b0 b1 b2 b3 = (1, 0, (b3, m)) := Lp_inr (f := K237_18 m b0 b1 b2 b3) (s := (b3, m)) ((if_pos c1).trans (rfl))
    rw [hr]
    exact CR_le (by omega) h
  ·
    have c1 : ¬ (b2 ≤ b3) := c1
    have h : MR X ρ 4 0 0 qP237 N 23 [b0, b1, b2, b3] [] m o := h
    have h := CR_aload_n h rfl
    have h : MR X ρ 4 0 0 qP237 N 24 [b0, b1, b2, b3] [(1, b0)] m o := h
    obtain ⟨r2, m3, q4, h⟩ := MR_invV h rfl rfl
    have q4 : Run X ρ 231 [(1, b0)] m r2 m3 := q4
    obtain ⟨e5, e6⟩ := d231 q4
    rw [e5, e6] at h
    have h : MR X ρ 4 0 0 qP237 N 27 [b0, b1, b2, b3] [] (g231 m b0) o := h
    have h := CR_inc h rfl (Nat.le_of_ble_eq_true rfl)
    have h : MR X ρ 4 0 0 qP237 N 30 [b0, b1, b2, s32 (b3 + 1)] [] (g231 m b0) o := h
    obtain ⟨N7, eN7, h⟩ := CR_goto h rfl rfl
    have h : MR X ρ 4 0 0 qP237 N7 18 [b0, b1, b2, s32 (b3 + 1)] [] (g231 m b0) o := h
    have hr : L237_18 m b0 b1 b2 b3 = L237_18 (g231 m b0) b0 b1 b2 (s32 (b3 + 1)) := Lp_inl (f := K237_18 m b0 b1 b2 b3) (s := (b3, m)) (s' := (s32 (b3 + 1), g231 m b0)) ((if_neg c1).trans (rfl))
    rw [hr]
    exact ih N7 (by omega) (by omega) h
set_option maxRecDepth 16384 in
/-- TriplicateFormsModel.passDays(I)I -/
noncomputable def f237 (m : MM) (a0 a1 : Int) : Int := f220 m a1 (s32 (400 - (m (m a0 14) 92)))
set_option maxRecDepth 16384 in
noncomputable def g237 (m : MM) (a0 a1 : Int) : MM := (L237_18 m a0 a1 (f220 m a1 (s32 (400 - (m (m a0 14) 92)))) 0).2.2.2
set_option maxRecDepth 16384 in
theorem d237 {X : KO} {ρ : Nat → Int32} {m m' : MM} {rl : List (Nat × Int)} {a0 a1 : Int} (h : Run X ρ 237 [(1, a0), (1, a1)] m rl m') : rl = [(1, f237 m a0 a1)] ∧ m' = g237 m a0 a1 := by
  obtain ⟨N, ig, h⟩ := Run_CR h rfl
  have h : MR X ρ 4 0 0 qP237 N 0 [a0, a1, 0, 0] [] m (ig, rl, m') := h
  have h := CR_iload_n h rfl
  have h : MR X ρ 4 0 0 qP237 N 1 [a0, a1, 0, 0] [(1, a1)] m (ig, rl, m') := h
  have h := CR_sipush h rfl rfl
  have h : MR X ρ 4 0 0 qP237 N 4 [a0, a1, 0, 0] [(1, 400), (1, a1)] m (ig, rl, m') := h
  have h := CR_aload_n h rfl
  have h : MR X ρ 4 0 0 qP237 N 5 [a0, a1, 0, 0] [(1, a0), (1, 400), (1, a1)] m (ig, rl, m') := h
  have h := CR_getf h rfl (by decide)
  have h : MR X ρ 4 0 0 qP237 N 8 [a0, a1, 0, 0] [(1, m a0 14), (1, 400), (1, a1)] m (ig, rl, m') := h
  have h := CR_bipush h rfl rfl
  have h : MR X ρ 4 0 0 qP237 N 10 [a0, a1, 0, 0] [(1, 92), (1, m a0 14), (1, 400), (1, a1)] m (ig, rl, m') := h
  have h := CR_iaload h rfl rfl
  have h : MR X ρ 4 0 0 qP237 N 11 [a0, a1, 0, 0] [(1, m (m a0 14) 92), (1, 400), (1, a1)] m (ig, rl, m') := h
  have h := CR_isub h rfl
  have h : MR X ρ 4 0 0 qP237 N 12 [a0, a1, 0, 0] [(1, s32 (400 - (m (m a0 14) 92))), (1, a1)] m (ig, rl, m') := h
  obtain ⟨r1, m2, q3, h⟩ := MR_invS h rfl rfl
  have q3 : Run X ρ 220 [(1, a1), (1, s32 (400 - (m (m a0 14) 92)))] m r1 m2 := q3
  obtain ⟨e4, e5⟩ := d220 q3
  rw [e4, e5] at h
  have h : MR X ρ 4 0 0 qP237 N 15 [a0, a1, 0, 0] [(1, f220 m a1 (s32 (400 - (m (m a0 14) 92))))] m (ig, rl, m') := h
  have h := CR_istore_n h rfl (Nat.le_of_ble_eq_true rfl)
  have h : MR X ρ 4 0 0 qP237 N 16 [a0, a1, f220 m a1 (s32 (400 - (m (m a0 14) 92))), 0] [] m (ig, rl, m') := h
  have h := CR_iconst h rfl rfl
  have h : MR X ρ 4 0 0 qP237 N 17 [a0, a1, f220 m a1 (s32 (400 - (m (m a0 14) 92))), 0] [(1, 0)] m (ig, rl, m') := h
  have h := CR_istore_n h rfl (Nat.le_of_ble_eq_true rfl)
  have h : MR X ρ 4 0 0 qP237 N 18 [a0, a1, f220 m a1 (s32 (400 - (m (m a0 14) 92))), 0] [] m (ig, rl, m') := h
  have h := l237_18 (Nat.le_refl _) h
  have h : MR X ρ 4 0 0 qP237 N 33 [a0, a1, f220 m a1 (s32 (400 - (m (m a0 14) 92))), (L237_18 m a0 a1 (f220 m a1 (s32 (400 - (m (m a0 14) 92)))) 0).2.2.1] [] ((L237_18 m a0 a1 (f220 m a1 (s32 (400 - (m (m a0 14) 92)))) 0).2.2.2) (ig, rl, m') := h
  have h := CR_iload_n h rfl
  have h : MR X ρ 4 0 0 qP237 N 34 [a0, a1, f220 m a1 (s32 (400 - (m (m a0 14) 92))), (L237_18 m a0 a1 (f220 m a1 (s32 (400 - (m (m a0 14) 92)))) 0).2.2.1] [(1, f220 m a1 (s32 (400 - (m (m a0 14) 92))))] ((L237_18 m a0 a1 (f220 m a1 (s32 (400 - (m (m a0 14) 92)))) 0).2.2.2) (ig, rl, m') := h
  have e := CR_end h rfl rfl
  cases e
  exact ⟨congrArg (fun z => [(1, z)]) (Eq.symm (show f237 m a0 a1 = _ from rfl)), Eq.symm (show g237 m a0 a1 = _ from rfl)⟩
set_option maxRecDepth 16384 in
/-- TriplicateFormsModel.restore(I)Z, the loop at 60 -/
noncomputable def S265_60 (m : MM) (b0 b1 b2 : Int) : (Int × MM) ⊕ (Nat × Int × (Int × MM)) := (if 16 ≤ b2 then .inr (1, 0, (b2, m)) else .inl (s32 (b2 + 1), mu m (m b0 19) b2 (m (m b0 21) (s32 ((s32 (16 * b1)) + b2)))))
set_option maxRecDepth 16384 in
noncomputable def K265_60 (m : MM) (b0 b1 b2 : Int) : (Int × MM) → (Int × MM) ⊕ (Nat × Int × (Int × MM)) := fun s => S265_60 s.2 b0 b1 s.1
set_option maxRecDepth 16384 in
noncomputable def L265_60 (m : MM) (b0 b1 b2 : Int) : (Nat × Int × (Int × MM)) := Lp (K265_60 m b0 b1 b2) (b2, m)
set_option maxRecDepth 16384 in
theorem l265_60 {X : KO} {ρ : Nat → Int32} {o : Instr × List (Nat × Int) × MM} {K : Nat} : ∀ {N : Nat} {m : MM} {b0 b1 b2 : Int}, N ≤ K → MR X ρ 3 0 0 qP265 N 60 [b0, b1, b2] [] m o → (MR X ρ 3 0 0 qP265 K 89 [b0, b1, (L265_60 m b0 b1 b2).2.2.1] [] ((L265_60 m b0 b1 b2).2.2.2) o) := by
  intro N
  induction N using Nat.strongRecOn with
  | ind N ih =>
  intro m b0 b1 b2 hK h
  have h := CR_iload_n h rfl
  have h : MR X ρ 3 0 0 qP265 N 61 [b0, b1, b2] [(1, b2)] m o := h
  have h := CR_bipush h rfl rfl
  have h : MR X ρ 3 0 0 qP265 N 63 [b0, b1, b2] [(1, 16), (1, b2)] m o := h
  rcases MR_icmp h rfl rfl with ⟨c1, h⟩ | ⟨c1, h⟩
  ·
    have c1 : 16 ≤ b2 := c1
    have h : MR X ρ 3 0 0 qP265 N 89 [b0, b1, b2] [] m o := h
    have hr : L265_60 m b0 b1 b2 = (1, 0, (b2, m)) := Lp_inr (f := K265_60 m b0 b1 b2) (s := (b2, m)) ((if_pos c1).trans (rfl))
    rw [hr]
    exact CR_le (by omega) h
  ·
    have c1 : ¬ (16 ≤ b2) := c1
    have h : MR X ρ 3 0 0 qP265 N 66 [b0, b1, b2] [] m o := h
    have h := CR_aload_n h rfl
    have h : MR X ρ 3 0 0 qP265 N 67 [b0, b1, b2] [(1, b0)] m o := h
    have h := CR_getf h rfl (by decide)
    have h : MR X ρ 3 0 0 qP265 N 70 [b0, b1, b2] [(1, m b0 19)] m o := h
    have h := CR_iload_n h rfl
    have h : MR X ρ 3 0 0 qP265 N 71 [b0, b1, b2] [(1, b2), (1, m b0 19)] m o := h
    have h := CR_aload_n h rfl
    have h : MR X ρ 3 0 0 qP265 N 72 [b0, b1, b2] [(1, b0), (1, b2), (1, m b0 19)] m o := h
    have h := CR_getf h rfl (by decide)
    have h : MR X ρ 3 0 0 qP265 N 75 [b0, b1, b2] [(1, m b0 21), (1, b2), (1, m b0 19)] m o := h
    have h := CR_bipush h rfl rfl
    have h : MR X ρ 3 0 0 qP265 N 77 [b0, b1, b2] [(1, 16), (1, m b0 21), (1, b2), (1, m b0 19)] m o := h
    have h := CR_iload_n h rfl
    have h : MR X ρ 3 0 0 qP265 N 78 [b0, b1, b2] [(1, b1), (1, 16), (1, m b0 21), (1, b2), (1, m b0 19)] m o := h
    have h := CR_imul h rfl
    have h : MR X ρ 3 0 0 qP265 N 79 [b0, b1, b2] [(1, s32 (16 * b1)), (1, m b0 21), (1, b2), (1, m b0 19)] m o := h
    have h := CR_iload_n h rfl
    have h : MR X ρ 3 0 0 qP265 N 80 [b0, b1, b2] [(1, b2), (1, s32 (16 * b1)), (1, m b0 21), (1, b2), (1, m b0 19)] m o := h
    have h := CR_iadd h rfl
    have h : MR X ρ 3 0 0 qP265 N 81 [b0, b1, b2] [(1, s32 ((s32 (16 * b1)) + b2)), (1, m b0 21), (1, b2), (1, m b0 19)] m o := h
    have h := CR_lald h rfl
    have h : MR X ρ 3 0 0 qP265 N 82 [b0, b1, b2] [(2, m (m b0 21) (s32 ((s32 (16 * b1)) + b2))), (1, b2), (1, m b0 19)] m o := h
    have h := CR_last h rfl
    have h : MR X ρ 3 0 0 qP265 N 83 [b0, b1, b2] [] (mu m (m b0 19) b2 (m (m b0 21) (s32 ((s32 (16 * b1)) + b2)))) o := h
    have h := CR_inc h rfl (Nat.le_of_ble_eq_true rfl)
    have h : MR X ρ 3 0 0 qP265 N 86 [b0, b1, s32 (b2 + 1)] [] (mu m (m b0 19) b2 (m (m b0 21) (s32 ((s32 (16 * b1)) + b2)))) o := h
    obtain ⟨N2, eN2, h⟩ := CR_goto h rfl rfl
    have h : MR X ρ 3 0 0 qP265 N2 60 [b0, b1, s32 (b2 + 1)] [] (mu m (m b0 19) b2 (m (m b0 21) (s32 ((s32 (16 * b1)) + b2)))) o := h
    have hr : L265_60 m b0 b1 b2 = L265_60 (mu m (m b0 19) b2 (m (m b0 21) (s32 ((s32 (16 * b1)) + b2)))) b0 b1 (s32 (b2 + 1)) := Lp_inl (f := K265_60 m b0 b1 b2) (s := (b2, m)) (s' := (s32 (b2 + 1), mu m (m b0 19) b2 (m (m b0 21) (s32 ((s32 (16 * b1)) + b2))))) ((if_neg c1).trans (rfl))
    rw [hr]
    exact ih N2 (by omega) (by omega) h
set_option maxRecDepth 16384 in
/-- TriplicateFormsModel.restore(I)Z, the loop at 27 -/
noncomputable def S265_27 (m : MM) (b0 b1 b2 : Int) : (Int × MM) ⊕ (Nat × Int × (Int × MM)) := (if 456 ≤ b2 then .inr (1, 0, (b2, m)) else .inl (s32 (b2 + 1), mu m (m b0 14) b2 (s32 (m (m b0 16) (s32 ((s32 (456 * b1)) + b2))))))
set_option maxRecDepth 16384 in
noncomputable def K265_27 (m : MM) (b0 b1 b2 : Int) : (Int × MM) → (Int × MM) ⊕ (Nat × Int × (Int × MM)) := fun s => S265_27 s.2 b0 b1 s.1
set_option maxRecDepth 16384 in
noncomputable def L265_27 (m : MM) (b0 b1 b2 : Int) : (Nat × Int × (Int × MM)) := Lp (K265_27 m b0 b1 b2) (b2, m)
set_option maxRecDepth 16384 in
theorem l265_27 {X : KO} {ρ : Nat → Int32} {o : Instr × List (Nat × Int) × MM} {K : Nat} : ∀ {N : Nat} {m : MM} {b0 b1 b2 : Int}, N ≤ K → MR X ρ 3 0 0 qP265 N 27 [b0, b1, b2] [] m o → (MR X ρ 3 0 0 qP265 K 58 [b0, b1, (L265_27 m b0 b1 b2).2.2.1] [] ((L265_27 m b0 b1 b2).2.2.2) o) := by
  intro N
  induction N using Nat.strongRecOn with
  | ind N ih =>
  intro m b0 b1 b2 hK h
  have h := CR_iload_n h rfl
  have h : MR X ρ 3 0 0 qP265 N 28 [b0, b1, b2] [(1, b2)] m o := h
  have h := CR_sipush h rfl rfl
  have h : MR X ρ 3 0 0 qP265 N 31 [b0, b1, b2] [(1, 456), (1, b2)] m o := h
  rcases MR_icmp h rfl rfl with ⟨c1, h⟩ | ⟨c1, h⟩
  ·
    have c1 : 456 ≤ b2 := c1
    have h : MR X ρ 3 0 0 qP265 N 58 [b0, b1, b2] [] m o := h
    have hr : L265_27 m b0 b1 b2 = (1, 0, (b2, m)) := Lp_inr (f := K265_27 m b0 b1 b2) (s := (b2, m)) ((if_pos c1).trans (rfl))
    rw [hr]
    exact CR_le (by omega) h
  ·
    have c1 : ¬ (456 ≤ b2) := c1
    have h : MR X ρ 3 0 0 qP265 N 34 [b0, b1, b2] [] m o := h
    have h := CR_aload_n h rfl
    have h : MR X ρ 3 0 0 qP265 N 35 [b0, b1, b2] [(1, b0)] m o := h
    have h := CR_getf h rfl (by decide)
    have h : MR X ρ 3 0 0 qP265 N 38 [b0, b1, b2] [(1, m b0 14)] m o := h
    have h := CR_iload_n h rfl
    have h : MR X ρ 3 0 0 qP265 N 39 [b0, b1, b2] [(1, b2), (1, m b0 14)] m o := h
    have h := CR_aload_n h rfl
    have h : MR X ρ 3 0 0 qP265 N 40 [b0, b1, b2] [(1, b0), (1, b2), (1, m b0 14)] m o := h
    have h := CR_getf h rfl (by decide)
    have h : MR X ρ 3 0 0 qP265 N 43 [b0, b1, b2] [(1, m b0 16), (1, b2), (1, m b0 14)] m o := h
    have h := CR_sipush h rfl rfl
    have h : MR X ρ 3 0 0 qP265 N 46 [b0, b1, b2] [(1, 456), (1, m b0 16), (1, b2), (1, m b0 14)] m o := h
    have h := CR_iload_n h rfl
    have h : MR X ρ 3 0 0 qP265 N 47 [b0, b1, b2] [(1, b1), (1, 456), (1, m b0 16), (1, b2), (1, m b0 14)] m o := h
    have h := CR_imul h rfl
    have h : MR X ρ 3 0 0 qP265 N 48 [b0, b1, b2] [(1, s32 (456 * b1)), (1, m b0 16), (1, b2), (1, m b0 14)] m o := h
    have h := CR_iload_n h rfl
    have h : MR X ρ 3 0 0 qP265 N 49 [b0, b1, b2] [(1, b2), (1, s32 (456 * b1)), (1, m b0 16), (1, b2), (1, m b0 14)] m o := h
    have h := CR_iadd h rfl
    have h : MR X ρ 3 0 0 qP265 N 50 [b0, b1, b2] [(1, s32 ((s32 (456 * b1)) + b2)), (1, m b0 16), (1, b2), (1, m b0 14)] m o := h
    have h := CR_iaload h rfl rfl
    have h : MR X ρ 3 0 0 qP265 N 51 [b0, b1, b2] [(1, m (m b0 16) (s32 ((s32 (456 * b1)) + b2))), (1, b2), (1, m b0 14)] m o := h
    have h := CR_iastore_ h rfl
    have h : MR X ρ 3 0 0 qP265 N 52 [b0, b1, b2] [] (mu m (m b0 14) b2 (s32 (m (m b0 16) (s32 ((s32 (456 * b1)) + b2))))) o := h
    have h := CR_inc h rfl (Nat.le_of_ble_eq_true rfl)
    have h : MR X ρ 3 0 0 qP265 N 55 [b0, b1, s32 (b2 + 1)] [] (mu m (m b0 14) b2 (s32 (m (m b0 16) (s32 ((s32 (456 * b1)) + b2))))) o := h
    obtain ⟨N2, eN2, h⟩ := CR_goto h rfl rfl
    have h : MR X ρ 3 0 0 qP265 N2 27 [b0, b1, s32 (b2 + 1)] [] (mu m (m b0 14) b2 (s32 (m (m b0 16) (s32 ((s32 (456 * b1)) + b2))))) o := h
    have hr : L265_27 m b0 b1 b2 = L265_27 (mu m (m b0 14) b2 (s32 (m (m b0 16) (s32 ((s32 (456 * b1)) + b2))))) b0 b1 (s32 (b2 + 1)) := Lp_inl (f := K265_27 m b0 b1 b2) (s := (b2, m)) (s' := (s32 (b2 + 1), mu m (m b0 14) b2 (s32 (m (m b0 16) (s32 ((s32 (456 * b1)) + b2)))))) ((if_neg c1).trans (rfl))
    rw [hr]
    exact ih N2 (by omega) (by omega) h
set_option maxRecDepth 16384 in
/-- TriplicateFormsModel.restore(I)Z -/
noncomputable def f265 (m : MM) (a0 a1 : Int) : Int := (if (f209 (mu m a0 0 0) a1 0 1) = 0 then 0 else (if ((mu m a0 0 0) ((mu m a0 0 0) a0 22) a1) = 0 then 0 else 1))
set_option maxRecDepth 16384 in
noncomputable def g265 (m : MM) (a0 a1 : Int) : MM := (if (f209 (mu m a0 0 0) a1 0 1) = 0 then mu m a0 0 0 else (if ((mu m a0 0 0) ((mu m a0 0 0) a0 22) a1) = 0 then mu m a0 0 0 else mu ((L265_60 ((L265_27 (mu m a0 0 0) a0 a1 0).2.2.2) a0 a1 0).2.2.2) a0 23 0))
set_option maxRecDepth 16384 in
theorem d265 {X : KO} {ρ : Nat → Int32} {m m' : MM} {rl : List (Nat × Int)} {a0 a1 : Int} (h : Run X ρ 265 [(1, a0), (1, a1)] m rl m') : rl = [(1, f265 m a0 a1)] ∧ m' = g265 m a0 a1 := by
  obtain ⟨N, ig, h⟩ := Run_CR h rfl
  have h : MR X ρ 3 0 0 qP265 N 0 [a0, a1, 0] [] m (ig, rl, m') := h
  have h := CR_aload_n h rfl
  have h : MR X ρ 3 0 0 qP265 N 1 [a0, a1, 0] [(1, a0)] m (ig, rl, m') := h
  have h := CR_iconst h rfl rfl
  have h : MR X ρ 3 0 0 qP265 N 2 [a0, a1, 0] [(1, 0), (1, a0)] m (ig, rl, m') := h
  have h := CR_putf h rfl
  have h : MR X ρ 3 0 0 qP265 N 5 [a0, a1, 0] [] (mu m a0 0 0) (ig, rl, m') := h
  have h := CR_iload_n h rfl
  have h : MR X ρ 3 0 0 qP265 N 6 [a0, a1, 0] [(1, a1)] (mu m a0 0 0) (ig, rl, m') := h
  have h := CR_iconst h rfl rfl
  have h : MR X ρ 3 0 0 qP265 N 7 [a0, a1, 0] [(1, 0), (1, a1)] (mu m a0 0 0) (ig, rl, m') := h
  have h := CR_iconst h rfl rfl
  have h : MR X ρ 3 0 0 qP265 N 8 [a0, a1, 0] [(1, 1), (1, 0), (1, a1)] (mu m a0 0 0) (ig, rl, m') := h
  obtain ⟨r1, m2, q3, h⟩ := MR_invS h rfl rfl
  have q3 : Run X ρ 209 [(1, a1), (1, 0), (1, 1)] (mu m a0 0 0) r1 m2 := q3
  obtain ⟨e4, e5⟩ := d209 q3
  rw [e4, e5] at h
  have h : MR X ρ 3 0 0 qP265 N 11 [a0, a1, 0] [(1, f209 (mu m a0 0 0) a1 0 1)] (mu m a0 0 0) (ig, rl, m') := h
  rcases MR_if h rfl rfl with ⟨c6, h⟩ | ⟨c6, h⟩
  ·
    have c6 : (f209 (mu m a0 0 0) a1 0 1) = 0 := c6
    have h : MR X ρ 3 0 0 qP265 N 23 [a0, a1, 0] [] (mu m a0 0 0) (ig, rl, m') := h
    have h := CR_iconst h rfl rfl
    have h : MR X ρ 3 0 0 qP265 N 24 [a0, a1, 0] [(1, 0)] (mu m a0 0 0) (ig, rl, m') := h
    have e := CR_end h rfl rfl
    cases e
    exact ⟨congrArg (fun z => [(1, z)]) (Eq.symm (show f265 m a0 a1 = _ from (if_pos c6).trans (rfl))), Eq.symm (show g265 m a0 a1 = _ from (if_pos c6).trans (rfl))⟩
  ·
    have c6 : ¬ ((f209 (mu m a0 0 0) a1 0 1) = 0) := c6
    have h : MR X ρ 3 0 0 qP265 N 14 [a0, a1, 0] [] (mu m a0 0 0) (ig, rl, m') := h
    have h := CR_aload_n h rfl
    have h : MR X ρ 3 0 0 qP265 N 15 [a0, a1, 0] [(1, a0)] (mu m a0 0 0) (ig, rl, m') := h
    have h := CR_getf h rfl (by decide)
    have h : MR X ρ 3 0 0 qP265 N 18 [a0, a1, 0] [(1, (mu m a0 0 0) a0 22)] (mu m a0 0 0) (ig, rl, m') := h
    have h := CR_iload_n h rfl
    have h : MR X ρ 3 0 0 qP265 N 19 [a0, a1, 0] [(1, a1), (1, (mu m a0 0 0) a0 22)] (mu m a0 0 0) (ig, rl, m') := h
    have h := CR_baload h rfl rfl
    have h : MR X ρ 3 0 0 qP265 N 20 [a0, a1, 0] [(1, (mu m a0 0 0) ((mu m a0 0 0) a0 22) a1)] (mu m a0 0 0) (ig, rl, m') := h
    rcases MR_if h rfl rfl with ⟨c7, h⟩ | ⟨c7, h⟩
    ·
      have c7 : ¬ (((mu m a0 0 0) ((mu m a0 0 0) a0 22) a1) = 0) := c7
      have h : MR X ρ 3 0 0 qP265 N 25 [a0, a1, 0] [] (mu m a0 0 0) (ig, rl, m') := h
      have h := CR_iconst h rfl rfl
      have h : MR X ρ 3 0 0 qP265 N 26 [a0, a1, 0] [(1, 0)] (mu m a0 0 0) (ig, rl, m') := h
      have h := CR_istore_n h rfl (Nat.le_of_ble_eq_true rfl)
      have h : MR X ρ 3 0 0 qP265 N 27 [a0, a1, 0] [] (mu m a0 0 0) (ig, rl, m') := h
      have h := l265_27 (Nat.le_refl _) h
      have h : MR X ρ 3 0 0 qP265 N 58 [a0, a1, (L265_27 (mu m a0 0 0) a0 a1 0).2.2.1] [] ((L265_27 (mu m a0 0 0) a0 a1 0).2.2.2) (ig, rl, m') := h
      have h := CR_iconst h rfl rfl
      have h : MR X ρ 3 0 0 qP265 N 59 [a0, a1, (L265_27 (mu m a0 0 0) a0 a1 0).2.2.1] [(1, 0)] ((L265_27 (mu m a0 0 0) a0 a1 0).2.2.2) (ig, rl, m') := h
      have h := CR_istore_n h rfl (Nat.le_of_ble_eq_true rfl)
      have h : MR X ρ 3 0 0 qP265 N 60 [a0, a1, 0] [] ((L265_27 (mu m a0 0 0) a0 a1 0).2.2.2) (ig, rl, m') := h
      have h := l265_60 (Nat.le_refl _) h
      have h : MR X ρ 3 0 0 qP265 N 89 [a0, a1, (L265_60 ((L265_27 (mu m a0 0 0) a0 a1 0).2.2.2) a0 a1 0).2.2.1] [] ((L265_60 ((L265_27 (mu m a0 0 0) a0 a1 0).2.2.2) a0 a1 0).2.2.2) (ig, rl, m') := h
      have h := CR_aload_n h rfl
      have h : MR X ρ 3 0 0 qP265 N 90 [a0, a1, (L265_60 ((L265_27 (mu m a0 0 0) a0 a1 0).2.2.2) a0 a1 0).2.2.1] [(1, a0)] ((L265_60 ((L265_27 (mu m a0 0 0) a0 a1 0).2.2.2) a0 a1 0).2.2.2) (ig, rl, m') := h
      have h := CR_iconst h rfl rfl
      have h : MR X ρ 3 0 0 qP265 N 91 [a0, a1, (L265_60 ((L265_27 (mu m a0 0 0) a0 a1 0).2.2.2) a0 a1 0).2.2.1] [(1, 0), (1, a0)] ((L265_60 ((L265_27 (mu m a0 0 0) a0 a1 0).2.2.2) a0 a1 0).2.2.2) (ig, rl, m') := h
      have h := CR_putf h rfl
      have h : MR X ρ 3 0 0 qP265 N 94 [a0, a1, (L265_60 ((L265_27 (mu m a0 0 0) a0 a1 0).2.2.2) a0 a1 0).2.2.1] [] (mu ((L265_60 ((L265_27 (mu m a0 0 0) a0 a1 0).2.2.2) a0 a1 0).2.2.2) a0 23 0) (ig, rl, m') := h
      have h := CR_iconst h rfl rfl
      have h : MR X ρ 3 0 0 qP265 N 95 [a0, a1, (L265_60 ((L265_27 (mu m a0 0 0) a0 a1 0).2.2.2) a0 a1 0).2.2.1] [(1, 1)] (mu ((L265_60 ((L265_27 (mu m a0 0 0) a0 a1 0).2.2.2) a0 a1 0).2.2.2) a0 23 0) (ig, rl, m') := h
      have e := CR_end h rfl rfl
      cases e
      exact ⟨congrArg (fun z => [(1, z)]) (Eq.symm (show f265 m a0 a1 = _ from (if_neg c6).trans ((if_neg c7).trans (rfl)))), Eq.symm (show g265 m a0 a1 = _ from (if_neg c6).trans ((if_neg c7).trans (rfl)))⟩
    ·
      have c7 : ((mu m a0 0 0) ((mu m a0 0 0) a0 22) a1) = 0 := Decidable.of_not_not (show ¬ ¬ (((mu m a0 0 0) ((mu m a0 0 0) a0 22) a1) = 0) from c7)
      have h : MR X ρ 3 0 0 qP265 N 23 [a0, a1, 0] [] (mu m a0 0 0) (ig, rl, m') := h
      have h := CR_iconst h rfl rfl
      have h : MR X ρ 3 0 0 qP265 N 24 [a0, a1, 0] [(1, 0)] (mu m a0 0 0) (ig, rl, m') := h
      have e := CR_end h rfl rfl
      cases e
      exact ⟨congrArg (fun z => [(1, z)]) (Eq.symm (show f265 m a0 a1 = _ from (if_neg c6).trans ((if_pos c7).trans (rfl)))), Eq.symm (show g265 m a0 a1 = _ from (if_neg c6).trans ((if_pos c7).trans (rfl)))⟩
set_option maxRecDepth 16384 in
/-- TriplicateFormsModel.snap()V, the loop at 11 -/
noncomputable def S276_11 (m : MM) (b0 b1 : Int) : (Int × MM) ⊕ (Nat × Int × (Int × MM)) := (if 854 ≤ b1 then .inr (1, 0, (b1, m)) else .inl (s32 (b1 + 1), mu m (m b0 17) b1 (s32 (m (m b0 17) (s32 (b1 + 122))))))
set_option maxRecDepth 16384 in
noncomputable def K276_11 (m : MM) (b0 b1 : Int) : (Int × MM) → (Int × MM) ⊕ (Nat × Int × (Int × MM)) := fun s => S276_11 s.2 b0 s.1
set_option maxRecDepth 16384 in
noncomputable def L276_11 (m : MM) (b0 b1 : Int) : (Nat × Int × (Int × MM)) := Lp (K276_11 m b0 b1) (b1, m)
set_option maxRecDepth 16384 in
theorem l276_11 {X : KO} {ρ : Nat → Int32} {o : Instr × List (Nat × Int) × MM} {K : Nat} : ∀ {N : Nat} {m : MM} {b0 b1 : Int}, N ≤ K → MR X ρ 2 0 0 qP276 N 11 [b0, b1] [] m o → (MR X ρ 2 0 0 qP276 K 39 [b0, (L276_11 m b0 b1).2.2.1] [] ((L276_11 m b0 b1).2.2.2) o) := by
  intro N
  induction N using Nat.strongRecOn with
  | ind N ih =>
  intro m b0 b1 hK h
  have h := CR_iload_n h rfl
  have h : MR X ρ 2 0 0 qP276 N 12 [b0, b1] [(1, b1)] m o := h
  have h := CR_sipush h rfl rfl
  have h : MR X ρ 2 0 0 qP276 N 15 [b0, b1] [(1, 854), (1, b1)] m o := h
  rcases MR_icmp h rfl rfl with ⟨c1, h⟩ | ⟨c1, h⟩
  ·
    have c1 : 854 ≤ b1 := c1
    have h : MR X ρ 2 0 0 qP276 N 39 [b0, b1] [] m o := h
    have hr : L276_11 m b0 b1 = (1, 0, (b1, m)) := Lp_inr (f := K276_11 m b0 b1) (s := (b1, m)) ((if_pos c1).trans (rfl))
    rw [hr]
    exact CR_le (by omega) h
  ·
    have c1 : ¬ (854 ≤ b1) := c1
    have h : MR X ρ 2 0 0 qP276 N 18 [b0, b1] [] m o := h
    have h := CR_aload_n h rfl
    have h : MR X ρ 2 0 0 qP276 N 19 [b0, b1] [(1, b0)] m o := h
    have h := CR_getf h rfl (by decide)
    have h : MR X ρ 2 0 0 qP276 N 22 [b0, b1] [(1, m b0 17)] m o := h
    have h := CR_iload_n h rfl
    have h : MR X ρ 2 0 0 qP276 N 23 [b0, b1] [(1, b1), (1, m b0 17)] m o := h
    have h := CR_aload_n h rfl
    have h : MR X ρ 2 0 0 qP276 N 24 [b0, b1] [(1, b0), (1, b1), (1, m b0 17)] m o := h
    have h := CR_getf h rfl (by decide)
    have h : MR X ρ 2 0 0 qP276 N 27 [b0, b1] [(1, m b0 17), (1, b1), (1, m b0 17)] m o := h
    have h := CR_iload_n h rfl
    have h : MR X ρ 2 0 0 qP276 N 28 [b0, b1] [(1, b1), (1, m b0 17), (1, b1), (1, m b0 17)] m o := h
    have h := CR_bipush h rfl rfl
    have h : MR X ρ 2 0 0 qP276 N 30 [b0, b1] [(1, 122), (1, b1), (1, m b0 17), (1, b1), (1, m b0 17)] m o := h
    have h := CR_iadd h rfl
    have h : MR X ρ 2 0 0 qP276 N 31 [b0, b1] [(1, s32 (b1 + 122)), (1, m b0 17), (1, b1), (1, m b0 17)] m o := h
    have h := CR_iaload h rfl rfl
    have h : MR X ρ 2 0 0 qP276 N 32 [b0, b1] [(1, m (m b0 17) (s32 (b1 + 122))), (1, b1), (1, m b0 17)] m o := h
    have h := CR_iastore_ h rfl
    have h : MR X ρ 2 0 0 qP276 N 33 [b0, b1] [] (mu m (m b0 17) b1 (s32 (m (m b0 17) (s32 (b1 + 122))))) o := h
    have h := CR_inc h rfl (Nat.le_of_ble_eq_true rfl)
    have h : MR X ρ 2 0 0 qP276 N 36 [b0, s32 (b1 + 1)] [] (mu m (m b0 17) b1 (s32 (m (m b0 17) (s32 (b1 + 122))))) o := h
    obtain ⟨N2, eN2, h⟩ := CR_goto h rfl rfl
    have h : MR X ρ 2 0 0 qP276 N2 11 [b0, s32 (b1 + 1)] [] (mu m (m b0 17) b1 (s32 (m (m b0 17) (s32 (b1 + 122))))) o := h
    have hr : L276_11 m b0 b1 = L276_11 (mu m (m b0 17) b1 (s32 (m (m b0 17) (s32 (b1 + 122))))) b0 (s32 (b1 + 1)) := Lp_inl (f := K276_11 m b0 b1) (s := (b1, m)) (s' := (s32 (b1 + 1), mu m (m b0 17) b1 (s32 (m (m b0 17) (s32 (b1 + 122)))))) ((if_neg c1).trans (rfl))
    rw [hr]
    exact ih N2 (by omega) (by omega) h
set_option maxRecDepth 16384 in
/-- TriplicateFormsModel.snap()V, the loop at 51 -/
noncomputable def S276_51 (m : MM) (b0 b1 : Int) : (Int × MM) ⊕ (Nat × Int × (Int × MM)) := (if 122 ≤ b1 then .inr (1, 0, (b1, m)) else .inl (s32 (b1 + 1), mu m (m b0 17) (s32 ((s32 (122 * (m b0 23))) + b1)) (s32 (m (m b0 14) (s32 (92 + b1))))))
set_option maxRecDepth 16384 in
noncomputable def K276_51 (m : MM) (b0 b1 : Int) : (Int × MM) → (Int × MM) ⊕ (Nat × Int × (Int × MM)) := fun s => S276_51 s.2 b0 s.1
set_option maxRecDepth 16384 in
noncomputable def L276_51 (m : MM) (b0 b1 : Int) : (Nat × Int × (Int × MM)) := Lp (K276_51 m b0 b1) (b1, m)
set_option maxRecDepth 16384 in
theorem l276_51 {X : KO} {ρ : Nat → Int32} {o : Instr × List (Nat × Int) × MM} {K : Nat} : ∀ {N : Nat} {m : MM} {b0 b1 : Int}, N ≤ K → MR X ρ 2 0 0 qP276 N 51 [b0, b1] [] m o → (MR X ρ 2 0 0 qP276 K 86 [b0, (L276_51 m b0 b1).2.2.1] [] ((L276_51 m b0 b1).2.2.2) o) := by
  intro N
  induction N using Nat.strongRecOn with
  | ind N ih =>
  intro m b0 b1 hK h
  have h := CR_iload_n h rfl
  have h : MR X ρ 2 0 0 qP276 N 52 [b0, b1] [(1, b1)] m o := h
  have h := CR_bipush h rfl rfl
  have h : MR X ρ 2 0 0 qP276 N 54 [b0, b1] [(1, 122), (1, b1)] m o := h
  rcases MR_icmp h rfl rfl with ⟨c1, h⟩ | ⟨c1, h⟩
  ·
    have c1 : 122 ≤ b1 := c1
    have h : MR X ρ 2 0 0 qP276 N 86 [b0, b1] [] m o := h
    have hr : L276_51 m b0 b1 = (1, 0, (b1, m)) := Lp_inr (f := K276_51 m b0 b1) (s := (b1, m)) ((if_pos c1).trans (rfl))
    rw [hr]
    exact CR_le (by omega) h
  ·
    have c1 : ¬ (122 ≤ b1) := c1
    have h : MR X ρ 2 0 0 qP276 N 57 [b0, b1] [] m o := h
    have h := CR_aload_n h rfl
    have h : MR X ρ 2 0 0 qP276 N 58 [b0, b1] [(1, b0)] m o := h
    have h := CR_getf h rfl (by decide)
    have h : MR X ρ 2 0 0 qP276 N 61 [b0, b1] [(1, m b0 17)] m o := h
    have h := CR_bipush h rfl rfl
    have h : MR X ρ 2 0 0 qP276 N 63 [b0, b1] [(1, 122), (1, m b0 17)] m o := h
    have h := CR_aload_n h rfl
    have h : MR X ρ 2 0 0 qP276 N 64 [b0, b1] [(1, b0), (1, 122), (1, m b0 17)] m o := h
    have h := CR_getf h rfl (by decide)
    have h : MR X ρ 2 0 0 qP276 N 67 [b0, b1] [(1, m b0 23), (1, 122), (1, m b0 17)] m o := h
    have h := CR_imul h rfl
    have h : MR X ρ 2 0 0 qP276 N 68 [b0, b1] [(1, s32 (122 * (m b0 23))), (1, m b0 17)] m o := h
    have h := CR_iload_n h rfl
    have h : MR X ρ 2 0 0 qP276 N 69 [b0, b1] [(1, b1), (1, s32 (122 * (m b0 23))), (1, m b0 17)] m o := h
    have h := CR_iadd h rfl
    have h : MR X ρ 2 0 0 qP276 N 70 [b0, b1] [(1, s32 ((s32 (122 * (m b0 23))) + b1)), (1, m b0 17)] m o := h
    have h := CR_aload_n h rfl
    have h : MR X ρ 2 0 0 qP276 N 71 [b0, b1] [(1, b0), (1, s32 ((s32 (122 * (m b0 23))) + b1)), (1, m b0 17)] m o := h
    have h := CR_getf h rfl (by decide)
    have h : MR X ρ 2 0 0 qP276 N 74 [b0, b1] [(1, m b0 14), (1, s32 ((s32 (122 * (m b0 23))) + b1)), (1, m b0 17)] m o := h
    have h := CR_bipush h rfl rfl
    have h : MR X ρ 2 0 0 qP276 N 76 [b0, b1] [(1, 92), (1, m b0 14), (1, s32 ((s32 (122 * (m b0 23))) + b1)), (1, m b0 17)] m o := h
    have h := CR_iload_n h rfl
    have h : MR X ρ 2 0 0 qP276 N 77 [b0, b1] [(1, b1), (1, 92), (1, m b0 14), (1, s32 ((s32 (122 * (m b0 23))) + b1)), (1, m b0 17)] m o := h
    have h := CR_iadd h rfl
    have h : MR X ρ 2 0 0 qP276 N 78 [b0, b1] [(1, s32 (92 + b1)), (1, m b0 14), (1, s32 ((s32 (122 * (m b0 23))) + b1)), (1, m b0 17)] m o := h
    have h := CR_iaload h rfl rfl
    have h : MR X ρ 2 0 0 qP276 N 79 [b0, b1] [(1, m (m b0 14) (s32 (92 + b1))), (1, s32 ((s32 (122 * (m b0 23))) + b1)), (1, m b0 17)] m o := h
    have h := CR_iastore_ h rfl
    have h : MR X ρ 2 0 0 qP276 N 80 [b0, b1] [] (mu m (m b0 17) (s32 ((s32 (122 * (m b0 23))) + b1)) (s32 (m (m b0 14) (s32 (92 + b1))))) o := h
    have h := CR_inc h rfl (Nat.le_of_ble_eq_true rfl)
    have h : MR X ρ 2 0 0 qP276 N 83 [b0, s32 (b1 + 1)] [] (mu m (m b0 17) (s32 ((s32 (122 * (m b0 23))) + b1)) (s32 (m (m b0 14) (s32 (92 + b1))))) o := h
    obtain ⟨N2, eN2, h⟩ := CR_goto h rfl rfl
    have h : MR X ρ 2 0 0 qP276 N2 51 [b0, s32 (b1 + 1)] [] (mu m (m b0 17) (s32 ((s32 (122 * (m b0 23))) + b1)) (s32 (m (m b0 14) (s32 (92 + b1))))) o := h
    have hr : L276_51 m b0 b1 = L276_51 (mu m (m b0 17) (s32 ((s32 (122 * (m b0 23))) + b1)) (s32 (m (m b0 14) (s32 (92 + b1))))) b0 (s32 (b1 + 1)) := Lp_inl (f := K276_51 m b0 b1) (s := (b1, m)) (s' := (s32 (b1 + 1), mu m (m b0 17) (s32 ((s32 (122 * (m b0 23))) + b1)) (s32 (m (m b0 14) (s32 (92 + b1)))))) ((if_neg c1).trans (rfl))
    rw [hr]
    exact ih N2 (by omega) (by omega) h
set_option maxRecDepth 16384 in
/-- TriplicateFormsModel.snap()V -/
noncomputable def g276 (m : MM) (a0 : Int) : MM := (if (m a0 23) = 8 then mu ((L276_51 (mu ((L276_11 m a0 0).2.2.2) a0 23 (s32 ((((L276_11 m a0 0).2.2.2) a0 23) - 1))) a0 0).2.2.2) a0 23 (s32 ((((L276_51 (mu ((L276_11 m a0 0).2.2.2) a0 23 (s32 ((((L276_11 m a0 0).2.2.2) a0 23) - 1))) a0 0).2.2.2) a0 23) + 1)) else mu ((L276_51 m a0 0).2.2.2) a0 23 (s32 ((((L276_51 m a0 0).2.2.2) a0 23) + 1)))
set_option maxRecDepth 16384 in
theorem d276 {X : KO} {ρ : Nat → Int32} {m m' : MM} {rl : List (Nat × Int)} {a0 : Int} (h : Run X ρ 276 [(1, a0)] m rl m') : rl = [] ∧ m' = g276 m a0 := by
  obtain ⟨N, ig, h⟩ := Run_CR h rfl
  have h : MR X ρ 2 0 0 qP276 N 0 [a0, 0] [] m (ig, rl, m') := h
  have h := CR_aload_n h rfl
  have h : MR X ρ 2 0 0 qP276 N 1 [a0, 0] [(1, a0)] m (ig, rl, m') := h
  have h := CR_getf h rfl (by decide)
  have h : MR X ρ 2 0 0 qP276 N 4 [a0, 0] [(1, m a0 23)] m (ig, rl, m') := h
  have h := CR_bipush h rfl rfl
  have h : MR X ρ 2 0 0 qP276 N 6 [a0, 0] [(1, 8), (1, m a0 23)] m (ig, rl, m') := h
  rcases MR_icmp h rfl rfl with ⟨c1, h⟩ | ⟨c1, h⟩
  ·
    have c1 : ¬ ((m a0 23) = 8) := c1
    have h : MR X ρ 2 0 0 qP276 N 49 [a0, 0] [] m (ig, rl, m') := h
    have h := CR_iconst h rfl rfl
    have h : MR X ρ 2 0 0 qP276 N 50 [a0, 0] [(1, 0)] m (ig, rl, m') := h
    have h := CR_istore_n h rfl (Nat.le_of_ble_eq_true rfl)
    have h : MR X ρ 2 0 0 qP276 N 51 [a0, 0] [] m (ig, rl, m') := h
    have h := l276_51 (Nat.le_refl _) h
    have h : MR X ρ 2 0 0 qP276 N 86 [a0, (L276_51 m a0 0).2.2.1] [] ((L276_51 m a0 0).2.2.2) (ig, rl, m') := h
    have h := CR_aload_n h rfl
    have h : MR X ρ 2 0 0 qP276 N 87 [a0, (L276_51 m a0 0).2.2.1] [(1, a0)] ((L276_51 m a0 0).2.2.2) (ig, rl, m') := h
    have h := CR_dup h rfl
    have h : MR X ρ 2 0 0 qP276 N 88 [a0, (L276_51 m a0 0).2.2.1] [(1, a0), (1, a0)] ((L276_51 m a0 0).2.2.2) (ig, rl, m') := h
    have h := CR_getf h rfl (by decide)
    have h : MR X ρ 2 0 0 qP276 N 91 [a0, (L276_51 m a0 0).2.2.1] [(1, ((L276_51 m a0 0).2.2.2) a0 23), (1, a0)] ((L276_51 m a0 0).2.2.2) (ig, rl, m') := h
    have h := CR_iconst h rfl rfl
    have h : MR X ρ 2 0 0 qP276 N 92 [a0, (L276_51 m a0 0).2.2.1] [(1, 1), (1, ((L276_51 m a0 0).2.2.2) a0 23), (1, a0)] ((L276_51 m a0 0).2.2.2) (ig, rl, m') := h
    have h := CR_iadd h rfl
    have h : MR X ρ 2 0 0 qP276 N 93 [a0, (L276_51 m a0 0).2.2.1] [(1, s32 ((((L276_51 m a0 0).2.2.2) a0 23) + 1)), (1, a0)] ((L276_51 m a0 0).2.2.2) (ig, rl, m') := h
    have h := CR_putf h rfl
    have h : MR X ρ 2 0 0 qP276 N 96 [a0, (L276_51 m a0 0).2.2.1] [] (mu ((L276_51 m a0 0).2.2.2) a0 23 (s32 ((((L276_51 m a0 0).2.2.2) a0 23) + 1))) (ig, rl, m') := h
    have e := CR_end h rfl rfl
    cases e
    exact ⟨rfl, Eq.symm (show g276 m a0 = _ from (if_neg c1).trans (rfl))⟩
  ·
    have c1 : (m a0 23) = 8 := Decidable.of_not_not (show ¬ ¬ ((m a0 23) = 8) from c1)
    have h : MR X ρ 2 0 0 qP276 N 9 [a0, 0] [] m (ig, rl, m') := h
    have h := CR_iconst h rfl rfl
    have h : MR X ρ 2 0 0 qP276 N 10 [a0, 0] [(1, 0)] m (ig, rl, m') := h
    have h := CR_istore_n h rfl (Nat.le_of_ble_eq_true rfl)
    have h : MR X ρ 2 0 0 qP276 N 11 [a0, 0] [] m (ig, rl, m') := h
    have h := l276_11 (Nat.le_refl _) h
    have h : MR X ρ 2 0 0 qP276 N 39 [a0, (L276_11 m a0 0).2.2.1] [] ((L276_11 m a0 0).2.2.2) (ig, rl, m') := h
    have h := CR_aload_n h rfl
    have h : MR X ρ 2 0 0 qP276 N 40 [a0, (L276_11 m a0 0).2.2.1] [(1, a0)] ((L276_11 m a0 0).2.2.2) (ig, rl, m') := h
    have h := CR_dup h rfl
    have h : MR X ρ 2 0 0 qP276 N 41 [a0, (L276_11 m a0 0).2.2.1] [(1, a0), (1, a0)] ((L276_11 m a0 0).2.2.2) (ig, rl, m') := h
    have h := CR_getf h rfl (by decide)
    have h : MR X ρ 2 0 0 qP276 N 44 [a0, (L276_11 m a0 0).2.2.1] [(1, ((L276_11 m a0 0).2.2.2) a0 23), (1, a0)] ((L276_11 m a0 0).2.2.2) (ig, rl, m') := h
    have h := CR_iconst h rfl rfl
    have h : MR X ρ 2 0 0 qP276 N 45 [a0, (L276_11 m a0 0).2.2.1] [(1, 1), (1, ((L276_11 m a0 0).2.2.2) a0 23), (1, a0)] ((L276_11 m a0 0).2.2.2) (ig, rl, m') := h
    have h := CR_isub h rfl
    have h : MR X ρ 2 0 0 qP276 N 46 [a0, (L276_11 m a0 0).2.2.1] [(1, s32 ((((L276_11 m a0 0).2.2.2) a0 23) - 1)), (1, a0)] ((L276_11 m a0 0).2.2.2) (ig, rl, m') := h
    have h := CR_putf h rfl
    have h : MR X ρ 2 0 0 qP276 N 49 [a0, (L276_11 m a0 0).2.2.1] [] (mu ((L276_11 m a0 0).2.2.2) a0 23 (s32 ((((L276_11 m a0 0).2.2.2) a0 23) - 1))) (ig, rl, m') := h
    have h := CR_iconst h rfl rfl
    have h : MR X ρ 2 0 0 qP276 N 50 [a0, (L276_11 m a0 0).2.2.1] [(1, 0)] (mu ((L276_11 m a0 0).2.2.2) a0 23 (s32 ((((L276_11 m a0 0).2.2.2) a0 23) - 1))) (ig, rl, m') := h
    have h := CR_istore_n h rfl (Nat.le_of_ble_eq_true rfl)
    have h : MR X ρ 2 0 0 qP276 N 51 [a0, 0] [] (mu ((L276_11 m a0 0).2.2.2) a0 23 (s32 ((((L276_11 m a0 0).2.2.2) a0 23) - 1))) (ig, rl, m') := h
    have h := l276_51 (Nat.le_refl _) h
    have h : MR X ρ 2 0 0 qP276 N 86 [a0, (L276_51 (mu ((L276_11 m a0 0).2.2.2) a0 23 (s32 ((((L276_11 m a0 0).2.2.2) a0 23) - 1))) a0 0).2.2.1] [] ((L276_51 (mu ((L276_11 m a0 0).2.2.2) a0 23 (s32 ((((L276_11 m a0 0).2.2.2) a0 23) - 1))) a0 0).2.2.2) (ig, rl, m') := h
    have h := CR_aload_n h rfl
    have h : MR X ρ 2 0 0 qP276 N 87 [a0, (L276_51 (mu ((L276_11 m a0 0).2.2.2) a0 23 (s32 ((((L276_11 m a0 0).2.2.2) a0 23) - 1))) a0 0).2.2.1] [(1, a0)] ((L276_51 (mu ((L276_11 m a0 0).2.2.2) a0 23 (s32 ((((L276_11 m a0 0).2.2.2) a0 23) - 1))) a0 0).2.2.2) (ig, rl, m') := h
    have h := CR_dup h rfl
    have h : MR X ρ 2 0 0 qP276 N 88 [a0, (L276_51 (mu ((L276_11 m a0 0).2.2.2) a0 23 (s32 ((((L276_11 m a0 0).2.2.2) a0 23) - 1))) a0 0).2.2.1] [(1, a0), (1, a0)] ((L276_51 (mu ((L276_11 m a0 0).2.2.2) a0 23 (s32 ((((L276_11 m a0 0).2.2.2) a0 23) - 1))) a0 0).2.2.2) (ig, rl, m') := h
    have h := CR_getf h rfl (by decide)
    have h : MR X ρ 2 0 0 qP276 N 91 [a0, (L276_51 (mu ((L276_11 m a0 0).2.2.2) a0 23 (s32 ((((L276_11 m a0 0).2.2.2) a0 23) - 1))) a0 0).2.2.1] [(1, ((L276_51 (mu ((L276_11 m a0 0).2.2.2) a0 23 (s32 ((((L276_11 m a0 0).2.2.2) a0 23) - 1))) a0 0).2.2.2) a0 23), (1, a0)] ((L276_51 (mu ((L276_11 m a0 0).2.2.2) a0 23 (s32 ((((L276_11 m a0 0).2.2.2) a0 23) - 1))) a0 0).2.2.2) (ig, rl, m') := h
    have h := CR_iconst h rfl rfl
    have h : MR X ρ 2 0 0 qP276 N 92 [a0, (L276_51 (mu ((L276_11 m a0 0).2.2.2) a0 23 (s32 ((((L276_11 m a0 0).2.2.2) a0 23) - 1))) a0 0).2.2.1] [(1, 1), (1, ((L276_51 (mu ((L276_11 m a0 0).2.2.2) a0 23 (s32 ((((L276_11 m a0 0).2.2.2) a0 23) - 1))) a0 0).2.2.2) a0 23), (1, a0)] ((L276_51 (mu ((L276_11 m a0 0).2.2.2) a0 23 (s32 ((((L276_11 m a0 0).2.2.2) a0 23) - 1))) a0 0).2.2.2) (ig, rl, m') := h
    have h := CR_iadd h rfl
    have h : MR X ρ 2 0 0 qP276 N 93 [a0, (L276_51 (mu ((L276_11 m a0 0).2.2.2) a0 23 (s32 ((((L276_11 m a0 0).2.2.2) a0 23) - 1))) a0 0).2.2.1] [(1, s32 ((((L276_51 (mu ((L276_11 m a0 0).2.2.2) a0 23 (s32 ((((L276_11 m a0 0).2.2.2) a0 23) - 1))) a0 0).2.2.2) a0 23) + 1)), (1, a0)] ((L276_51 (mu ((L276_11 m a0 0).2.2.2) a0 23 (s32 ((((L276_11 m a0 0).2.2.2) a0 23) - 1))) a0 0).2.2.2) (ig, rl, m') := h
    have h := CR_putf h rfl
    have h : MR X ρ 2 0 0 qP276 N 96 [a0, (L276_51 (mu ((L276_11 m a0 0).2.2.2) a0 23 (s32 ((((L276_11 m a0 0).2.2.2) a0 23) - 1))) a0 0).2.2.1] [] (mu ((L276_51 (mu ((L276_11 m a0 0).2.2.2) a0 23 (s32 ((((L276_11 m a0 0).2.2.2) a0 23) - 1))) a0 0).2.2.2) a0 23 (s32 ((((L276_51 (mu ((L276_11 m a0 0).2.2.2) a0 23 (s32 ((((L276_11 m a0 0).2.2.2) a0 23) - 1))) a0 0).2.2.2) a0 23) + 1))) (ig, rl, m') := h
    have e := CR_end h rfl rfl
    cases e
    exact ⟨rfl, Eq.symm (show g276 m a0 = _ from (if_pos c1).trans (rfl))⟩
set_option maxRecDepth 16384 in
/-- TriplicateFormsModel.startSo()V, the loop at 70 -/
noncomputable def S280_70 (m : MM) (b0 b1 : Int) : (Int × MM) ⊕ (Nat × Int × (Int × MM)) := (if 8 ≤ b1 then .inr (1, 0, (b1, m)) else .inl (s32 (b1 + 1), g232 m b0 b1))
set_option maxRecDepth 16384 in
noncomputable def K280_70 (m : MM) (b0 b1 : Int) : (Int × MM) → (Int × MM) ⊕ (Nat × Int × (Int × MM)) := fun s => S280_70 s.2 b0 s.1
set_option maxRecDepth 16384 in
noncomputable def L280_70 (m : MM) (b0 b1 : Int) : (Nat × Int × (Int × MM)) := Lp (K280_70 m b0 b1) (b1, m)
set_option maxRecDepth 16384 in
theorem l280_70 {X : KO} {ρ : Nat → Int32} {o : Instr × List (Nat × Int) × MM} {K : Nat} : ∀ {N : Nat} {m : MM} {b0 b1 : Int}, N ≤ K → MR X ρ 2 0 0 qP280 N 70 [b0, b1] [] m o → (MR X ρ 2 0 0 qP280 K 87 [b0, (L280_70 m b0 b1).2.2.1] [] ((L280_70 m b0 b1).2.2.2) o) := by
  intro N
  induction N using Nat.strongRecOn with
  | ind N ih =>
  intro m b0 b1 hK h
  have h := CR_iload_n h rfl
  have h : MR X ρ 2 0 0 qP280 N 71 [b0, b1] [(1, b1)] m o := h
  have h := CR_bipush h rfl rfl
  have h : MR X ρ 2 0 0 qP280 N 73 [b0, b1] [(1, 8), (1, b1)] m o := h
  rcases MR_icmp h rfl rfl with ⟨c1, h⟩ | ⟨c1, h⟩
  ·
    have c1 : 8 ≤ b1 := c1
    have h : MR X ρ 2 0 0 qP280 N 87 [b0, b1] [] m o := h
    have hr : L280_70 m b0 b1 = (1, 0, (b1, m)) := Lp_inr (f := K280_70 m b0 b1) (s := (b1, m)) ((if_pos c1).trans (rfl))
    rw [hr]
    exact CR_le (by omega) h
  ·
    have c1 : ¬ (8 ≤ b1) := c1
    have h : MR X ρ 2 0 0 qP280 N 76 [b0, b1] [] m o := h
    have h := CR_aload_n h rfl
    have h : MR X ρ 2 0 0 qP280 N 77 [b0, b1] [(1, b0)] m o := h
    have h := CR_iload_n h rfl
    have h : MR X ρ 2 0 0 qP280 N 78 [b0, b1] [(1, b1), (1, b0)] m o := h
    obtain ⟨r2, m3, q4, h⟩ := MR_invV h rfl rfl
    have q4 : Run X ρ 232 [(1, b0), (1, b1)] m r2 m3 := q4
    obtain ⟨e5, e6⟩ := d232 q4
    rw [e5, e6] at h
    have h : MR X ρ 2 0 0 qP280 N 81 [b0, b1] [] (g232 m b0 b1) o := h
    have h := CR_inc h rfl (Nat.le_of_ble_eq_true rfl)
    have h : MR X ρ 2 0 0 qP280 N 84 [b0, s32 (b1 + 1)] [] (g232 m b0 b1) o := h
    obtain ⟨N7, eN7, h⟩ := CR_goto h rfl rfl
    have h : MR X ρ 2 0 0 qP280 N7 70 [b0, s32 (b1 + 1)] [] (g232 m b0 b1) o := h
    have hr : L280_70 m b0 b1 = L280_70 (g232 m b0 b1) b0 (s32 (b1 + 1)) := Lp_inl (f := K280_70 m b0 b1) (s := (b1, m)) (s' := (s32 (b1 + 1), g232 m b0 b1)) ((if_neg c1).trans (rfl))
    rw [hr]
    exact ih N7 (by omega) (by omega) h
set_option maxRecDepth 16384 in
/-- TriplicateFormsModel.startSo()V, the loop at 3 -/
noncomputable def S280_3 (m : MM) (b0 b1 : Int) : (Int × MM) ⊕ (Nat × Int × (Int × MM)) := (if 456 ≤ b1 then .inr (1, 0, (b1, m)) else .inl (s32 (b1 + 1), mu m (m b0 14) b1 (s32 0)))
set_option maxRecDepth 16384 in
noncomputable def K280_3 (m : MM) (b0 b1 : Int) : (Int × MM) → (Int × MM) ⊕ (Nat × Int × (Int × MM)) := fun s => S280_3 s.2 b0 s.1
set_option maxRecDepth 16384 in
noncomputable def L280_3 (m : MM) (b0 b1 : Int) : (Nat × Int × (Int × MM)) := Lp (K280_3 m b0 b1) (b1, m)
set_option maxRecDepth 16384 in
theorem l280_3 {X : KO} {ρ : Nat → Int32} {o : Instr × List (Nat × Int) × MM} {K : Nat} : ∀ {N : Nat} {m : MM} {b0 b1 : Int}, N ≤ K → MR X ρ 2 0 0 qP280 N 3 [b0, b1] [] m o → (MR X ρ 2 0 0 qP280 K 23 [b0, (L280_3 m b0 b1).2.2.1] [] ((L280_3 m b0 b1).2.2.2) o) := by
  intro N
  induction N using Nat.strongRecOn with
  | ind N ih =>
  intro m b0 b1 hK h
  have h := CR_iload_n h rfl
  have h : MR X ρ 2 0 0 qP280 N 4 [b0, b1] [(1, b1)] m o := h
  have h := CR_sipush h rfl rfl
  have h : MR X ρ 2 0 0 qP280 N 7 [b0, b1] [(1, 456), (1, b1)] m o := h
  rcases MR_icmp h rfl rfl with ⟨c1, h⟩ | ⟨c1, h⟩
  ·
    have c1 : 456 ≤ b1 := c1
    have h : MR X ρ 2 0 0 qP280 N 23 [b0, b1] [] m o := h
    have hr : L280_3 m b0 b1 = (1, 0, (b1, m)) := Lp_inr (f := K280_3 m b0 b1) (s := (b1, m)) ((if_pos c1).trans (rfl))
    rw [hr]
    exact CR_le (by omega) h
  ·
    have c1 : ¬ (456 ≤ b1) := c1
    have h : MR X ρ 2 0 0 qP280 N 10 [b0, b1] [] m o := h
    have h := CR_aload_n h rfl
    have h : MR X ρ 2 0 0 qP280 N 11 [b0, b1] [(1, b0)] m o := h
    have h := CR_getf h rfl (by decide)
    have h : MR X ρ 2 0 0 qP280 N 14 [b0, b1] [(1, m b0 14)] m o := h
    have h := CR_iload_n h rfl
    have h : MR X ρ 2 0 0 qP280 N 15 [b0, b1] [(1, b1), (1, m b0 14)] m o := h
    have h := CR_iconst h rfl rfl
    have h : MR X ρ 2 0 0 qP280 N 16 [b0, b1] [(1, 0), (1, b1), (1, m b0 14)] m o := h
    have h := CR_iastore_ h rfl
    have h : MR X ρ 2 0 0 qP280 N 17 [b0, b1] [] (mu m (m b0 14) b1 (s32 0)) o := h
    have h := CR_inc h rfl (Nat.le_of_ble_eq_true rfl)
    have h : MR X ρ 2 0 0 qP280 N 20 [b0, s32 (b1 + 1)] [] (mu m (m b0 14) b1 (s32 0)) o := h
    obtain ⟨N2, eN2, h⟩ := CR_goto h rfl rfl
    have h : MR X ρ 2 0 0 qP280 N2 3 [b0, s32 (b1 + 1)] [] (mu m (m b0 14) b1 (s32 0)) o := h
    have hr : L280_3 m b0 b1 = L280_3 (mu m (m b0 14) b1 (s32 0)) b0 (s32 (b1 + 1)) := Lp_inl (f := K280_3 m b0 b1) (s := (b1, m)) (s' := (s32 (b1 + 1), mu m (m b0 14) b1 (s32 0))) ((if_neg c1).trans (rfl))
    rw [hr]
    exact ih N2 (by omega) (by omega) h
set_option maxRecDepth 16384 in
/-- TriplicateFormsModel.startSo()V, the loop at 89 -/
noncomputable def S280_89 (m : MM) (b0 b1 : Int) : (Int × MM) ⊕ (Nat × Int × (Int × MM)) := (if 8 ≤ b1 then .inr (1, 0, (b1, m)) else .inl (s32 (b1 + 1), mu m (m b0 14) (s32 (198 + b1)) (s32 (-1))))
set_option maxRecDepth 16384 in
noncomputable def K280_89 (m : MM) (b0 b1 : Int) : (Int × MM) → (Int × MM) ⊕ (Nat × Int × (Int × MM)) := fun s => S280_89 s.2 b0 s.1
set_option maxRecDepth 16384 in
noncomputable def L280_89 (m : MM) (b0 b1 : Int) : (Nat × Int × (Int × MM)) := Lp (K280_89 m b0 b1) (b1, m)
set_option maxRecDepth 16384 in
theorem l280_89 {X : KO} {ρ : Nat → Int32} {o : Instr × List (Nat × Int) × MM} {K : Nat} : ∀ {N : Nat} {m : MM} {b0 b1 : Int}, N ≤ K → MR X ρ 2 0 0 qP280 N 89 [b0, b1] [] m o → (MR X ρ 2 0 0 qP280 K 112 [b0, (L280_89 m b0 b1).2.2.1] [] ((L280_89 m b0 b1).2.2.2) o) := by
  intro N
  induction N using Nat.strongRecOn with
  | ind N ih =>
  intro m b0 b1 hK h
  have h := CR_iload_n h rfl
  have h : MR X ρ 2 0 0 qP280 N 90 [b0, b1] [(1, b1)] m o := h
  have h := CR_bipush h rfl rfl
  have h : MR X ρ 2 0 0 qP280 N 92 [b0, b1] [(1, 8), (1, b1)] m o := h
  rcases MR_icmp h rfl rfl with ⟨c1, h⟩ | ⟨c1, h⟩
  ·
    have c1 : 8 ≤ b1 := c1
    have h : MR X ρ 2 0 0 qP280 N 112 [b0, b1] [] m o := h
    have hr : L280_89 m b0 b1 = (1, 0, (b1, m)) := Lp_inr (f := K280_89 m b0 b1) (s := (b1, m)) ((if_pos c1).trans (rfl))
    rw [hr]
    exact CR_le (by omega) h
  ·
    have c1 : ¬ (8 ≤ b1) := c1
    have h : MR X ρ 2 0 0 qP280 N 95 [b0, b1] [] m o := h
    have h := CR_aload_n h rfl
    have h : MR X ρ 2 0 0 qP280 N 96 [b0, b1] [(1, b0)] m o := h
    have h := CR_getf h rfl (by decide)
    have h : MR X ρ 2 0 0 qP280 N 99 [b0, b1] [(1, m b0 14)] m o := h
    have h := CR_sipush h rfl rfl
    have h : MR X ρ 2 0 0 qP280 N 102 [b0, b1] [(1, 198), (1, m b0 14)] m o := h
    have h := CR_iload_n h rfl
    have h : MR X ρ 2 0 0 qP280 N 103 [b0, b1] [(1, b1), (1, 198), (1, m b0 14)] m o := h
    have h := CR_iadd h rfl
    have h : MR X ρ 2 0 0 qP280 N 104 [b0, b1] [(1, s32 (198 + b1)), (1, m b0 14)] m o := h
    have h := CR_iconst h rfl rfl
    have h : MR X ρ 2 0 0 qP280 N 105 [b0, b1] [(1, -1), (1, s32 (198 + b1)), (1, m b0 14)] m o := h
    have h := CR_iastore_ h rfl
    have h : MR X ρ 2 0 0 qP280 N 106 [b0, b1] [] (mu m (m b0 14) (s32 (198 + b1)) (s32 (-1))) o := h
    have h := CR_inc h rfl (Nat.le_of_ble_eq_true rfl)
    have h : MR X ρ 2 0 0 qP280 N 109 [b0, s32 (b1 + 1)] [] (mu m (m b0 14) (s32 (198 + b1)) (s32 (-1))) o := h
    obtain ⟨N2, eN2, h⟩ := CR_goto h rfl rfl
    have h : MR X ρ 2 0 0 qP280 N2 89 [b0, s32 (b1 + 1)] [] (mu m (m b0 14) (s32 (198 + b1)) (s32 (-1))) o := h
    have hr : L280_89 m b0 b1 = L280_89 (mu m (m b0 14) (s32 (198 + b1)) (s32 (-1))) b0 (s32 (b1 + 1)) := Lp_inl (f := K280_89 m b0 b1) (s := (b1, m)) (s' := (s32 (b1 + 1), mu m (m b0 14) (s32 (198 + b1)) (s32 (-1)))) ((if_neg c1).trans (rfl))
    rw [hr]
    exact ih N2 (by omega) (by omega) h
set_option maxRecDepth 16384 in
/-- TriplicateFormsModel.startSo()V, the loop at 38 -/
noncomputable def S280_38 (m : MM) (b0 b1 : Int) : (Int × MM) ⊕ (Nat × Int × (Int × MM)) := (if 64 ≤ b1 then .inr (1, 0, (b1, m)) else .inl (s32 (b1 + 1), mu m (m b0 14) (s32 (94 + b1)) (s32 (m (m b0 14) (s32 (12 + b1))))))
set_option maxRecDepth 16384 in
noncomputable def K280_38 (m : MM) (b0 b1 : Int) : (Int × MM) → (Int × MM) ⊕ (Nat × Int × (Int × MM)) := fun s => S280_38 s.2 b0 s.1
set_option maxRecDepth 16384 in
noncomputable def L280_38 (m : MM) (b0 b1 : Int) : (Nat × Int × (Int × MM)) := Lp (K280_38 m b0 b1) (b1, m)
set_option maxRecDepth 16384 in
theorem l280_38 {X : KO} {ρ : Nat → Int32} {o : Instr × List (Nat × Int) × MM} {K : Nat} : ∀ {N : Nat} {m : MM} {b0 b1 : Int}, N ≤ K → MR X ρ 2 0 0 qP280 N 38 [b0, b1] [] m o → (MR X ρ 2 0 0 qP280 K 68 [b0, (L280_38 m b0 b1).2.2.1] [] ((L280_38 m b0 b1).2.2.2) o) := by
  intro N
  induction N using Nat.strongRecOn with
  | ind N ih =>
  intro m b0 b1 hK h
  have h := CR_iload_n h rfl
  have h : MR X ρ 2 0 0 qP280 N 39 [b0, b1] [(1, b1)] m o := h
  have h := CR_bipush h rfl rfl
  have h : MR X ρ 2 0 0 qP280 N 41 [b0, b1] [(1, 64), (1, b1)] m o := h
  rcases MR_icmp h rfl rfl with ⟨c1, h⟩ | ⟨c1, h⟩
  ·
    have c1 : 64 ≤ b1 := c1
    have h : MR X ρ 2 0 0 qP280 N 68 [b0, b1] [] m o := h
    have hr : L280_38 m b0 b1 = (1, 0, (b1, m)) := Lp_inr (f := K280_38 m b0 b1) (s := (b1, m)) ((if_pos c1).trans (rfl))
    rw [hr]
    exact CR_le (by omega) h
  ·
    have c1 : ¬ (64 ≤ b1) := c1
    have h : MR X ρ 2 0 0 qP280 N 44 [b0, b1] [] m o := h
    have h := CR_aload_n h rfl
    have h : MR X ρ 2 0 0 qP280 N 45 [b0, b1] [(1, b0)] m o := h
    have h := CR_getf h rfl (by decide)
    have h : MR X ρ 2 0 0 qP280 N 48 [b0, b1] [(1, m b0 14)] m o := h
    have h := CR_bipush h rfl rfl
    have h : MR X ρ 2 0 0 qP280 N 50 [b0, b1] [(1, 94), (1, m b0 14)] m o := h
    have h := CR_iload_n h rfl
    have h : MR X ρ 2 0 0 qP280 N 51 [b0, b1] [(1, b1), (1, 94), (1, m b0 14)] m o := h
    have h := CR_iadd h rfl
    have h : MR X ρ 2 0 0 qP280 N 52 [b0, b1] [(1, s32 (94 + b1)), (1, m b0 14)] m o := h
    have h := CR_aload_n h rfl
    have h : MR X ρ 2 0 0 qP280 N 53 [b0, b1] [(1, b0), (1, s32 (94 + b1)), (1, m b0 14)] m o := h
    have h := CR_getf h rfl (by decide)
    have h : MR X ρ 2 0 0 qP280 N 56 [b0, b1] [(1, m b0 14), (1, s32 (94 + b1)), (1, m b0 14)] m o := h
    have h := CR_bipush h rfl rfl
    have h : MR X ρ 2 0 0 qP280 N 58 [b0, b1] [(1, 12), (1, m b0 14), (1, s32 (94 + b1)), (1, m b0 14)] m o := h
    have h := CR_iload_n h rfl
    have h : MR X ρ 2 0 0 qP280 N 59 [b0, b1] [(1, b1), (1, 12), (1, m b0 14), (1, s32 (94 + b1)), (1, m b0 14)] m o := h
    have h := CR_iadd h rfl
    have h : MR X ρ 2 0 0 qP280 N 60 [b0, b1] [(1, s32 (12 + b1)), (1, m b0 14), (1, s32 (94 + b1)), (1, m b0 14)] m o := h
    have h := CR_iaload h rfl rfl
    have h : MR X ρ 2 0 0 qP280 N 61 [b0, b1] [(1, m (m b0 14) (s32 (12 + b1))), (1, s32 (94 + b1)), (1, m b0 14)] m o := h
    have h := CR_iastore_ h rfl
    have h : MR X ρ 2 0 0 qP280 N 62 [b0, b1] [] (mu m (m b0 14) (s32 (94 + b1)) (s32 (m (m b0 14) (s32 (12 + b1))))) o := h
    have h := CR_inc h rfl (Nat.le_of_ble_eq_true rfl)
    have h : MR X ρ 2 0 0 qP280 N 65 [b0, s32 (b1 + 1)] [] (mu m (m b0 14) (s32 (94 + b1)) (s32 (m (m b0 14) (s32 (12 + b1))))) o := h
    obtain ⟨N2, eN2, h⟩ := CR_goto h rfl rfl
    have h : MR X ρ 2 0 0 qP280 N2 38 [b0, s32 (b1 + 1)] [] (mu m (m b0 14) (s32 (94 + b1)) (s32 (m (m b0 14) (s32 (12 + b1))))) o := h
    have hr : L280_38 m b0 b1 = L280_38 (mu m (m b0 14) (s32 (94 + b1)) (s32 (m (m b0 14) (s32 (12 + b1))))) b0 (s32 (b1 + 1)) := Lp_inl (f := K280_38 m b0 b1) (s := (b1, m)) (s' := (s32 (b1 + 1), mu m (m b0 14) (s32 (94 + b1)) (s32 (m (m b0 14) (s32 (12 + b1)))))) ((if_neg c1).trans (rfl))
    rw [hr]
    exact ih N2 (by omega) (by omega) h
set_option maxRecDepth 16384 in
/-- TriplicateFormsModel.startSo()V -/
noncomputable def g280 (m : MM) (a0 : Int) : MM := (L280_89 ((L280_70 ((L280_38 (mu ((L280_3 m a0 92).2.2.2) (((L280_3 m a0 92).2.2.2) a0 14) 93 (s32 (((L280_3 m a0 92).2.2.2) (((L280_3 m a0 92).2.2.2) a0 14) 3))) a0 0).2.2.2) a0 0).2.2.2) a0 0).2.2.2
set_option maxRecDepth 16384 in
theorem d280 {X : KO} {ρ : Nat → Int32} {m m' : MM} {rl : List (Nat × Int)} {a0 : Int} (h : Run X ρ 280 [(1, a0)] m rl m') : rl = [] ∧ m' = g280 m a0 := by
  obtain ⟨N, ig, h⟩ := Run_CR h rfl
  have h : MR X ρ 2 0 0 qP280 N 0 [a0, 0] [] m (ig, rl, m') := h
  have h := CR_bipush h rfl rfl
  have h : MR X ρ 2 0 0 qP280 N 2 [a0, 0] [(1, 92)] m (ig, rl, m') := h
  have h := CR_istore_n h rfl (Nat.le_of_ble_eq_true rfl)
  have h : MR X ρ 2 0 0 qP280 N 3 [a0, 92] [] m (ig, rl, m') := h
  have h := l280_3 (Nat.le_refl _) h
  have h : MR X ρ 2 0 0 qP280 N 23 [a0, (L280_3 m a0 92).2.2.1] [] ((L280_3 m a0 92).2.2.2) (ig, rl, m') := h
  have h := CR_aload_n h rfl
  have h : MR X ρ 2 0 0 qP280 N 24 [a0, (L280_3 m a0 92).2.2.1] [(1, a0)] ((L280_3 m a0 92).2.2.2) (ig, rl, m') := h
  have h := CR_getf h rfl (by decide)
  have h : MR X ρ 2 0 0 qP280 N 27 [a0, (L280_3 m a0 92).2.2.1] [(1, ((L280_3 m a0 92).2.2.2) a0 14)] ((L280_3 m a0 92).2.2.2) (ig, rl, m') := h
  have h := CR_bipush h rfl rfl
  have h : MR X ρ 2 0 0 qP280 N 29 [a0, (L280_3 m a0 92).2.2.1] [(1, 93), (1, ((L280_3 m a0 92).2.2.2) a0 14)] ((L280_3 m a0 92).2.2.2) (ig, rl, m') := h
  have h := CR_aload_n h rfl
  have h : MR X ρ 2 0 0 qP280 N 30 [a0, (L280_3 m a0 92).2.2.1] [(1, a0), (1, 93), (1, ((L280_3 m a0 92).2.2.2) a0 14)] ((L280_3 m a0 92).2.2.2) (ig, rl, m') := h
  have h := CR_getf h rfl (by decide)
  have h : MR X ρ 2 0 0 qP280 N 33 [a0, (L280_3 m a0 92).2.2.1] [(1, ((L280_3 m a0 92).2.2.2) a0 14), (1, 93), (1, ((L280_3 m a0 92).2.2.2) a0 14)] ((L280_3 m a0 92).2.2.2) (ig, rl, m') := h
  have h := CR_iconst h rfl rfl
  have h : MR X ρ 2 0 0 qP280 N 34 [a0, (L280_3 m a0 92).2.2.1] [(1, 3), (1, ((L280_3 m a0 92).2.2.2) a0 14), (1, 93), (1, ((L280_3 m a0 92).2.2.2) a0 14)] ((L280_3 m a0 92).2.2.2) (ig, rl, m') := h
  have h := CR_iaload h rfl rfl
  have h : MR X ρ 2 0 0 qP280 N 35 [a0, (L280_3 m a0 92).2.2.1] [(1, ((L280_3 m a0 92).2.2.2) (((L280_3 m a0 92).2.2.2) a0 14) 3), (1, 93), (1, ((L280_3 m a0 92).2.2.2) a0 14)] ((L280_3 m a0 92).2.2.2) (ig, rl, m') := h
  have h := CR_iastore_ h rfl
  have h : MR X ρ 2 0 0 qP280 N 36 [a0, (L280_3 m a0 92).2.2.1] [] (mu ((L280_3 m a0 92).2.2.2) (((L280_3 m a0 92).2.2.2) a0 14) 93 (s32 (((L280_3 m a0 92).2.2.2) (((L280_3 m a0 92).2.2.2) a0 14) 3))) (ig, rl, m') := h
  have h := CR_iconst h rfl rfl
  have h : MR X ρ 2 0 0 qP280 N 37 [a0, (L280_3 m a0 92).2.2.1] [(1, 0)] (mu ((L280_3 m a0 92).2.2.2) (((L280_3 m a0 92).2.2.2) a0 14) 93 (s32 (((L280_3 m a0 92).2.2.2) (((L280_3 m a0 92).2.2.2) a0 14) 3))) (ig, rl, m') := h
  have h := CR_istore_n h rfl (Nat.le_of_ble_eq_true rfl)
  have h : MR X ρ 2 0 0 qP280 N 38 [a0, 0] [] (mu ((L280_3 m a0 92).2.2.2) (((L280_3 m a0 92).2.2.2) a0 14) 93 (s32 (((L280_3 m a0 92).2.2.2) (((L280_3 m a0 92).2.2.2) a0 14) 3))) (ig, rl, m') := h
  have h := l280_38 (Nat.le_refl _) h
  have h : MR X ρ 2 0 0 qP280 N 68 [a0, (L280_38 (mu ((L280_3 m a0 92).2.2.2) (((L280_3 m a0 92).2.2.2) a0 14) 93 (s32 (((L280_3 m a0 92).2.2.2) (((L280_3 m a0 92).2.2.2) a0 14) 3))) a0 0).2.2.1] [] ((L280_38 (mu ((L280_3 m a0 92).2.2.2) (((L280_3 m a0 92).2.2.2) a0 14) 93 (s32 (((L280_3 m a0 92).2.2.2) (((L280_3 m a0 92).2.2.2) a0 14) 3))) a0 0).2.2.2) (ig, rl, m') := h
  have h := CR_iconst h rfl rfl
  have h : MR X ρ 2 0 0 qP280 N 69 [a0, (L280_38 (mu ((L280_3 m a0 92).2.2.2) (((L280_3 m a0 92).2.2.2) a0 14) 93 (s32 (((L280_3 m a0 92).2.2.2) (((L280_3 m a0 92).2.2.2) a0 14) 3))) a0 0).2.2.1] [(1, 0)] ((L280_38 (mu ((L280_3 m a0 92).2.2.2) (((L280_3 m a0 92).2.2.2) a0 14) 93 (s32 (((L280_3 m a0 92).2.2.2) (((L280_3 m a0 92).2.2.2) a0 14) 3))) a0 0).2.2.2) (ig, rl, m') := h
  have h := CR_istore_n h rfl (Nat.le_of_ble_eq_true rfl)
  have h : MR X ρ 2 0 0 qP280 N 70 [a0, 0] [] ((L280_38 (mu ((L280_3 m a0 92).2.2.2) (((L280_3 m a0 92).2.2.2) a0 14) 93 (s32 (((L280_3 m a0 92).2.2.2) (((L280_3 m a0 92).2.2.2) a0 14) 3))) a0 0).2.2.2) (ig, rl, m') := h
  have h := l280_70 (Nat.le_refl _) h
  have h : MR X ρ 2 0 0 qP280 N 87 [a0, (L280_70 ((L280_38 (mu ((L280_3 m a0 92).2.2.2) (((L280_3 m a0 92).2.2.2) a0 14) 93 (s32 (((L280_3 m a0 92).2.2.2) (((L280_3 m a0 92).2.2.2) a0 14) 3))) a0 0).2.2.2) a0 0).2.2.1] [] ((L280_70 ((L280_38 (mu ((L280_3 m a0 92).2.2.2) (((L280_3 m a0 92).2.2.2) a0 14) 93 (s32 (((L280_3 m a0 92).2.2.2) (((L280_3 m a0 92).2.2.2) a0 14) 3))) a0 0).2.2.2) a0 0).2.2.2) (ig, rl, m') := h
  have h := CR_iconst h rfl rfl
  have h : MR X ρ 2 0 0 qP280 N 88 [a0, (L280_70 ((L280_38 (mu ((L280_3 m a0 92).2.2.2) (((L280_3 m a0 92).2.2.2) a0 14) 93 (s32 (((L280_3 m a0 92).2.2.2) (((L280_3 m a0 92).2.2.2) a0 14) 3))) a0 0).2.2.2) a0 0).2.2.1] [(1, 0)] ((L280_70 ((L280_38 (mu ((L280_3 m a0 92).2.2.2) (((L280_3 m a0 92).2.2.2) a0 14) 93 (s32 (((L280_3 m a0 92).2.2.2) (((L280_3 m a0 92).2.2.2) a0 14) 3))) a0 0).2.2.2) a0 0).2.2.2) (ig, rl, m') := h
  have h := CR_istore_n h rfl (Nat.le_of_ble_eq_true rfl)
  have h : MR X ρ 2 0 0 qP280 N 89 [a0, 0] [] ((L280_70 ((L280_38 (mu ((L280_3 m a0 92).2.2.2) (((L280_3 m a0 92).2.2.2) a0 14) 93 (s32 (((L280_3 m a0 92).2.2.2) (((L280_3 m a0 92).2.2.2) a0 14) 3))) a0 0).2.2.2) a0 0).2.2.2) (ig, rl, m') := h
  have h := l280_89 (Nat.le_refl _) h
  have h : MR X ρ 2 0 0 qP280 N 112 [a0, (L280_89 ((L280_70 ((L280_38 (mu ((L280_3 m a0 92).2.2.2) (((L280_3 m a0 92).2.2.2) a0 14) 93 (s32 (((L280_3 m a0 92).2.2.2) (((L280_3 m a0 92).2.2.2) a0 14) 3))) a0 0).2.2.2) a0 0).2.2.2) a0 0).2.2.1] [] ((L280_89 ((L280_70 ((L280_38 (mu ((L280_3 m a0 92).2.2.2) (((L280_3 m a0 92).2.2.2) a0 14) 93 (s32 (((L280_3 m a0 92).2.2.2) (((L280_3 m a0 92).2.2.2) a0 14) 3))) a0 0).2.2.2) a0 0).2.2.2) a0 0).2.2.2) (ig, rl, m') := h
  have e := CR_end h rfl rfl
  cases e
  exact ⟨rfl, Eq.symm (show g280 m a0 = _ from rfl)⟩
set_option maxRecDepth 16384 in
/-- TriplicateFormsModel.takeBack()V, the loop at 2 -/
noncomputable def S284_2 (m : MM) (b0 b1 : Int) : (Int × MM) ⊕ (Nat × Int × (Int × MM)) := (if 122 ≤ b1 then .inr (1, 0, (b1, m)) else .inl (s32 (b1 + 1), mu m (m b0 14) (s32 (92 + b1)) (s32 (m (m b0 18) b1))))
set_option maxRecDepth 16384 in
noncomputable def K284_2 (m : MM) (b0 b1 : Int) : (Int × MM) → (Int × MM) ⊕ (Nat × Int × (Int × MM)) := fun s => S284_2 s.2 b0 s.1
set_option maxRecDepth 16384 in
noncomputable def L284_2 (m : MM) (b0 b1 : Int) : (Nat × Int × (Int × MM)) := Lp (K284_2 m b0 b1) (b1, m)
set_option maxRecDepth 16384 in
theorem l284_2 {X : KO} {ρ : Nat → Int32} {o : Instr × List (Nat × Int) × MM} {K : Nat} : ∀ {N : Nat} {m : MM} {b0 b1 : Int}, N ≤ K → MR X ρ 2 0 0 qP284 N 2 [b0, b1] [] m o → (MR X ρ 2 0 0 qP284 K 29 [b0, (L284_2 m b0 b1).2.2.1] [] ((L284_2 m b0 b1).2.2.2) o) := by
  intro N
  induction N using Nat.strongRecOn with
  | ind N ih =>
  intro m b0 b1 hK h
  have h := CR_iload_n h rfl
  have h : MR X ρ 2 0 0 qP284 N 3 [b0, b1] [(1, b1)] m o := h
  have h := CR_bipush h rfl rfl
  have h : MR X ρ 2 0 0 qP284 N 5 [b0, b1] [(1, 122), (1, b1)] m o := h
  rcases MR_icmp h rfl rfl with ⟨c1, h⟩ | ⟨c1, h⟩
  ·
    have c1 : 122 ≤ b1 := c1
    have h : MR X ρ 2 0 0 qP284 N 29 [b0, b1] [] m o := h
    have hr : L284_2 m b0 b1 = (1, 0, (b1, m)) := Lp_inr (f := K284_2 m b0 b1) (s := (b1, m)) ((if_pos c1).trans (rfl))
    rw [hr]
    exact CR_le (by omega) h
  ·
    have c1 : ¬ (122 ≤ b1) := c1
    have h : MR X ρ 2 0 0 qP284 N 8 [b0, b1] [] m o := h
    have h := CR_aload_n h rfl
    have h : MR X ρ 2 0 0 qP284 N 9 [b0, b1] [(1, b0)] m o := h
    have h := CR_getf h rfl (by decide)
    have h : MR X ρ 2 0 0 qP284 N 12 [b0, b1] [(1, m b0 14)] m o := h
    have h := CR_bipush h rfl rfl
    have h : MR X ρ 2 0 0 qP284 N 14 [b0, b1] [(1, 92), (1, m b0 14)] m o := h
    have h := CR_iload_n h rfl
    have h : MR X ρ 2 0 0 qP284 N 15 [b0, b1] [(1, b1), (1, 92), (1, m b0 14)] m o := h
    have h := CR_iadd h rfl
    have h : MR X ρ 2 0 0 qP284 N 16 [b0, b1] [(1, s32 (92 + b1)), (1, m b0 14)] m o := h
    have h := CR_aload_n h rfl
    have h : MR X ρ 2 0 0 qP284 N 17 [b0, b1] [(1, b0), (1, s32 (92 + b1)), (1, m b0 14)] m o := h
    have h := CR_getf h rfl (by decide)
    have h : MR X ρ 2 0 0 qP284 N 20 [b0, b1] [(1, m b0 18), (1, s32 (92 + b1)), (1, m b0 14)] m o := h
    have h := CR_iload_n h rfl
    have h : MR X ρ 2 0 0 qP284 N 21 [b0, b1] [(1, b1), (1, m b0 18), (1, s32 (92 + b1)), (1, m b0 14)] m o := h
    have h := CR_iaload h rfl rfl
    have h : MR X ρ 2 0 0 qP284 N 22 [b0, b1] [(1, m (m b0 18) b1), (1, s32 (92 + b1)), (1, m b0 14)] m o := h
    have h := CR_iastore_ h rfl
    have h : MR X ρ 2 0 0 qP284 N 23 [b0, b1] [] (mu m (m b0 14) (s32 (92 + b1)) (s32 (m (m b0 18) b1))) o := h
    have h := CR_inc h rfl (Nat.le_of_ble_eq_true rfl)
    have h : MR X ρ 2 0 0 qP284 N 26 [b0, s32 (b1 + 1)] [] (mu m (m b0 14) (s32 (92 + b1)) (s32 (m (m b0 18) b1))) o := h
    obtain ⟨N2, eN2, h⟩ := CR_goto h rfl rfl
    have h : MR X ρ 2 0 0 qP284 N2 2 [b0, s32 (b1 + 1)] [] (mu m (m b0 14) (s32 (92 + b1)) (s32 (m (m b0 18) b1))) o := h
    have hr : L284_2 m b0 b1 = L284_2 (mu m (m b0 14) (s32 (92 + b1)) (s32 (m (m b0 18) b1))) b0 (s32 (b1 + 1)) := Lp_inl (f := K284_2 m b0 b1) (s := (b1, m)) (s' := (s32 (b1 + 1), mu m (m b0 14) (s32 (92 + b1)) (s32 (m (m b0 18) b1)))) ((if_neg c1).trans (rfl))
    rw [hr]
    exact ih N2 (by omega) (by omega) h
set_option maxRecDepth 16384 in
/-- TriplicateFormsModel.takeBack()V -/
noncomputable def g284 (m : MM) (a0 : Int) : MM := (L284_2 m a0 0).2.2.2
set_option maxRecDepth 16384 in
theorem d284 {X : KO} {ρ : Nat → Int32} {m m' : MM} {rl : List (Nat × Int)} {a0 : Int} (h : Run X ρ 284 [(1, a0)] m rl m') : rl = [] ∧ m' = g284 m a0 := by
  obtain ⟨N, ig, h⟩ := Run_CR h rfl
  have h : MR X ρ 2 0 0 qP284 N 0 [a0, 0] [] m (ig, rl, m') := h
  have h := CR_iconst h rfl rfl
  have h : MR X ρ 2 0 0 qP284 N 1 [a0, 0] [(1, 0)] m (ig, rl, m') := h
  have h := CR_istore_n h rfl (Nat.le_of_ble_eq_true rfl)
  have h : MR X ρ 2 0 0 qP284 N 2 [a0, 0] [] m (ig, rl, m') := h
  have h := l284_2 (Nat.le_refl _) h
  have h : MR X ρ 2 0 0 qP284 N 29 [a0, (L284_2 m a0 0).2.2.1] [] ((L284_2 m a0 0).2.2.2) (ig, rl, m') := h
  have e := CR_end h rfl rfl
  cases e
  exact ⟨rfl, Eq.symm (show g284 m a0 = _ from rfl)⟩
set_option maxRecDepth 16384 in
/-- TriplicateFormsModel.those(I)I, the loop at 4 -/
noncomputable def S286_4 (m : MM) (b0 b1 b2 b3 : Int) : (Int × Int) ⊕ (Nat × Int × (Int × Int)) := (if (m (m b0 14) 1) ≤ b3 then .inr (1, 0, (b2, b3)) else (if (m (m b0 14) (s32 (182 + b3))) = b1 then .inl (jor b2 (jshl 1 b3), s32 (b3 + 1)) else .inl (b2, s32 (b3 + 1))))
set_option maxRecDepth 16384 in
noncomputable def K286_4 (m : MM) (b0 b1 b2 b3 : Int) : (Int × Int) → (Int × Int) ⊕ (Nat × Int × (Int × Int)) := fun s => S286_4 m b0 b1 s.1 s.2
set_option maxRecDepth 16384 in
noncomputable def L286_4 (m : MM) (b0 b1 b2 b3 : Int) : (Nat × Int × (Int × Int)) := Lp (K286_4 m b0 b1 b2 b3) (b2, b3)
set_option maxRecDepth 16384 in
theorem l286_4 {X : KO} {ρ : Nat → Int32} {o : Instr × List (Nat × Int) × MM} {K : Nat} : ∀ {N : Nat} {m : MM} {b0 b1 b2 b3 : Int}, N ≤ K → MR X ρ 4 0 0 qP286 N 4 [b0, b1, b2, b3] [] m o → (MR X ρ 4 0 0 qP286 K 40 [b0, b1, (L286_4 m b0 b1 b2 b3).2.2.1, (L286_4 m b0 b1 b2 b3).2.2.2] [] m o) := by
  intro N
  induction N using Nat.strongRecOn with
  | ind N ih =>
  intro m b0 b1 b2 b3 hK h
  have h := CR_iload_n h rfl
  have h : MR X ρ 4 0 0 qP286 N 5 [b0, b1, b2, b3] [(1, b3)] m o := h
  have h := CR_aload_n h rfl
  have h : MR X ρ 4 0 0 qP286 N 6 [b0, b1, b2, b3] [(1, b0), (1, b3)] m o := h
  have h := CR_getf h rfl (by decide)
  have h : MR X ρ 4 0 0 qP286 N 9 [b0, b1, b2, b3] [(1, m b0 14), (1, b3)] m o := h
  have h := CR_iconst h rfl rfl
  have h : MR X ρ 4 0 0 qP286 N 10 [b0, b1, b2, b3] [(1, 1), (1, m b0 14), (1, b3)] m o := h
  have h := CR_iaload h rfl rfl
  have h : MR X ρ 4 0 0 qP286 N 11 [b0, b1, b2, b3] [(1, m (m b0 14) 1), (1, b3)] m o := h
  rcases MR_icmp h rfl rfl with ⟨c1, h⟩ | ⟨c1, h⟩
  ·
    have c1 : (m (m b0 14) 1) ≤ b3 := c1
    have h : MR X ρ 4 0 0 qP286 N 40 [b0, b1, b2, b3] [] m o := h
    have hr : L286_4 m b0 b1 b2 b3 = (1, 0, (b2, b3)) := Lp_inr (f := K286_4 m b0 b1 b2 b3) (s := (b2, b3)) ((if_pos c1).trans (rfl))
    rw [hr]
    exact CR_le (by omega) h
  ·
    have c1 : ¬ ((m (m b0 14) 1) ≤ b3) := c1
    have h : MR X ρ 4 0 0 qP286 N 14 [b0, b1, b2, b3] [] m o := h
    have h := CR_aload_n h rfl
    have h : MR X ρ 4 0 0 qP286 N 15 [b0, b1, b2, b3] [(1, b0)] m o := h
    have h := CR_getf h rfl (by decide)
    have h : MR X ρ 4 0 0 qP286 N 18 [b0, b1, b2, b3] [(1, m b0 14)] m o := h
    have h := CR_sipush h rfl rfl
    have h : MR X ρ 4 0 0 qP286 N 21 [b0, b1, b2, b3] [(1, 182), (1, m b0 14)] m o := h
    have h := CR_iload_n h rfl
    have h : MR X ρ 4 0 0 qP286 N 22 [b0, b1, b2, b3] [(1, b3), (1, 182), (1, m b0 14)] m o := h
    have h := CR_iadd h rfl
    have h : MR X ρ 4 0 0 qP286 N 23 [b0, b1, b2, b3] [(1, s32 (182 + b3)), (1, m b0 14)] m o := h
    have h := CR_iaload h rfl rfl
    have h : MR X ρ 4 0 0 qP286 N 24 [b0, b1, b2, b3] [(1, m (m b0 14) (s32 (182 + b3)))] m o := h
    have h := CR_iload_n h rfl
    have h : MR X ρ 4 0 0 qP286 N 25 [b0, b1, b2, b3] [(1, b1), (1, m (m b0 14) (s32 (182 + b3)))] m o := h
    rcases MR_icmp h rfl rfl with ⟨c2, h⟩ | ⟨c2, h⟩
    ·
      have c2 : ¬ ((m (m b0 14) (s32 (182 + b3))) = b1) := c2
      have h : MR X ρ 4 0 0 qP286 N 34 [b0, b1, b2, b3] [] m o := h
      have h := CR_inc h rfl (Nat.le_of_ble_eq_true rfl)
      have h : MR X ρ 4 0 0 qP286 N 37 [b0, b1, b2, s32 (b3 + 1)] [] m o := h
      obtain ⟨N3, eN3, h⟩ := CR_goto h rfl rfl
      have h : MR X ρ 4 0 0 qP286 N3 4 [b0, b1, b2, s32 (b3 + 1)] [] m o := h
      have hr : L286_4 m b0 b1 b2 b3 = L286_4 m b0 b1 b2 (s32 (b3 + 1)) := Lp_inl (f := K286_4 m b0 b1 b2 b3) (s := (b2, b3)) (s' := (b2, s32 (b3 + 1))) ((if_neg c1).trans ((if_neg c2).trans (rfl)))
      rw [hr]
      exact ih N3 (by omega) (by omega) h
    ·
      have c2 : (m (m b0 14) (s32 (182 + b3))) = b1 := Decidable.of_not_not (show ¬ ¬ ((m (m b0 14) (s32 (182 + b3))) = b1) from c2)
      have h : MR X ρ 4 0 0 qP286 N 28 [b0, b1, b2, b3] [] m o := h
      have h := CR_iload_n h rfl
      have h : MR X ρ 4 0 0 qP286 N 29 [b0, b1, b2, b3] [(1, b2)] m o := h
      have h := CR_iconst h rfl rfl
      have h : MR X ρ 4 0 0 qP286 N 30 [b0, b1, b2, b3] [(1, 1), (1, b2)] m o := h
      have h := CR_iload_n h rfl
      have h : MR X ρ 4 0 0 qP286 N 31 [b0, b1, b2, b3] [(1, b3), (1, 1), (1, b2)] m o := h
      have h := CR_ishl h rfl
      have h : MR X ρ 4 0 0 qP286 N 32 [b0, b1, b2, b3] [(1, jshl 1 b3), (1, b2)] m o := h
      have h := CR_ior h rfl
      have h : MR X ρ 4 0 0 qP286 N 33 [b0, b1, b2, b3] [(1, jor b2 (jshl 1 b3))] m o := h
      have h := CR_istore_n h rfl (Nat.le_of_ble_eq_true rfl)
      have h : MR X ρ 4 0 0 qP286 N 34 [b0, b1, jor b2 (jshl 1 b3), b3] [] m o := h
      have h := CR_inc h rfl (Nat.le_of_ble_eq_true rfl)
      have h : MR X ρ 4 0 0 qP286 N 37 [b0, b1, jor b2 (jshl 1 b3), s32 (b3 + 1)] [] m o := h
      obtain ⟨N4, eN4, h⟩ := CR_goto h rfl rfl
      have h : MR X ρ 4 0 0 qP286 N4 4 [b0, b1, jor b2 (jshl 1 b3), s32 (b3 + 1)] [] m o := h
      have hr : L286_4 m b0 b1 b2 b3 = L286_4 m b0 b1 (jor b2 (jshl 1 b3)) (s32 (b3 + 1)) := Lp_inl (f := K286_4 m b0 b1 b2 b3) (s := (b2, b3)) (s' := (jor b2 (jshl 1 b3), s32 (b3 + 1))) ((if_neg c1).trans ((if_pos c2).trans (rfl)))
      rw [hr]
      exact ih N4 (by omega) (by omega) h
set_option maxRecDepth 16384 in
/-- TriplicateFormsModel.those(I)I -/
noncomputable def f286 (m : MM) (a0 a1 : Int) : Int := (L286_4 m a0 a1 0 0).2.2.1
set_option maxRecDepth 16384 in
theorem d286 {X : KO} {ρ : Nat → Int32} {m m' : MM} {rl : List (Nat × Int)} {a0 a1 : Int} (h : Run X ρ 286 [(1, a0), (1, a1)] m rl m') : rl = [(1, f286 m a0 a1)] ∧ m' = m := by
  obtain ⟨N, ig, h⟩ := Run_CR h rfl
  have h : MR X ρ 4 0 0 qP286 N 0 [a0, a1, 0, 0] [] m (ig, rl, m') := h
  have h := CR_iconst h rfl rfl
  have h : MR X ρ 4 0 0 qP286 N 1 [a0, a1, 0, 0] [(1, 0)] m (ig, rl, m') := h
  have h := CR_istore_n h rfl (Nat.le_of_ble_eq_true rfl)
  have h : MR X ρ 4 0 0 qP286 N 2 [a0, a1, 0, 0] [] m (ig, rl, m') := h
  have h := CR_iconst h rfl rfl
  have h : MR X ρ 4 0 0 qP286 N 3 [a0, a1, 0, 0] [(1, 0)] m (ig, rl, m') := h
  have h := CR_istore_n h rfl (Nat.le_of_ble_eq_true rfl)
  have h : MR X ρ 4 0 0 qP286 N 4 [a0, a1, 0, 0] [] m (ig, rl, m') := h
  have h := l286_4 (Nat.le_refl _) h
  have h : MR X ρ 4 0 0 qP286 N 40 [a0, a1, (L286_4 m a0 a1 0 0).2.2.1, (L286_4 m a0 a1 0 0).2.2.2] [] m (ig, rl, m') := h
  have h := CR_iload_n h rfl
  have h : MR X ρ 4 0 0 qP286 N 41 [a0, a1, (L286_4 m a0 a1 0 0).2.2.1, (L286_4 m a0 a1 0 0).2.2.2] [(1, (L286_4 m a0 a1 0 0).2.2.1)] m (ig, rl, m') := h
  have e := CR_end h rfl rfl
  cases e
  exact ⟨congrArg (fun z => [(1, z)]) (Eq.symm (show f286 m a0 a1 = _ from rfl)), rfl⟩
set_option maxRecDepth 16384 in
/-- TriplicateFormsModel.undo()I, the loop at 26 -/
noncomputable def S288_26 (m : MM) (b0 b1 : Int) : (Int × MM) ⊕ (Nat × Int × (Int × MM)) := (if 122 ≤ b1 then .inr (1, 0, (b1, m)) else .inl (s32 (b1 + 1), mu m (m b0 14) (s32 (92 + b1)) (s32 (m (m b0 17) (s32 ((s32 (122 * (m b0 23))) + b1))))))
set_option maxRecDepth 16384 in
noncomputable def K288_26 (m : MM) (b0 b1 : Int) : (Int × MM) → (Int × MM) ⊕ (Nat × Int × (Int × MM)) := fun s => S288_26 s.2 b0 s.1
set_option maxRecDepth 16384 in
noncomputable def L288_26 (m : MM) (b0 b1 : Int) : (Nat × Int × (Int × MM)) := Lp (K288_26 m b0 b1) (b1, m)
set_option maxRecDepth 16384 in
theorem l288_26 {X : KO} {ρ : Nat → Int32} {o : Instr × List (Nat × Int) × MM} {K : Nat} : ∀ {N : Nat} {m : MM} {b0 b1 : Int}, N ≤ K → MR X ρ 2 0 0 qP288 N 26 [b0, b1] [] m o → (MR X ρ 2 0 0 qP288 K 61 [b0, (L288_26 m b0 b1).2.2.1] [] ((L288_26 m b0 b1).2.2.2) o) := by
  intro N
  induction N using Nat.strongRecOn with
  | ind N ih =>
  intro m b0 b1 hK h
  have h := CR_iload_n h rfl
  have h : MR X ρ 2 0 0 qP288 N 27 [b0, b1] [(1, b1)] m o := h
  have h := CR_bipush h rfl rfl
  have h : MR X ρ 2 0 0 qP288 N 29 [b0, b1] [(1, 122), (1, b1)] m o := h
  rcases MR_icmp h rfl rfl with ⟨c1, h⟩ | ⟨c1, h⟩
  ·
    have c1 : 122 ≤ b1 := c1
    have h : MR X ρ 2 0 0 qP288 N 61 [b0, b1] [] m o := h
    have hr : L288_26 m b0 b1 = (1, 0, (b1, m)) := Lp_inr (f := K288_26 m b0 b1) (s := (b1, m)) ((if_pos c1).trans (rfl))
    rw [hr]
    exact CR_le (by omega) h
  ·
    have c1 : ¬ (122 ≤ b1) := c1
    have h : MR X ρ 2 0 0 qP288 N 32 [b0, b1] [] m o := h
    have h := CR_aload_n h rfl
    have h : MR X ρ 2 0 0 qP288 N 33 [b0, b1] [(1, b0)] m o := h
    have h := CR_getf h rfl (by decide)
    have h : MR X ρ 2 0 0 qP288 N 36 [b0, b1] [(1, m b0 14)] m o := h
    have h := CR_bipush h rfl rfl
    have h : MR X ρ 2 0 0 qP288 N 38 [b0, b1] [(1, 92), (1, m b0 14)] m o := h
    have h := CR_iload_n h rfl
    have h : MR X ρ 2 0 0 qP288 N 39 [b0, b1] [(1, b1), (1, 92), (1, m b0 14)] m o := h
    have h := CR_iadd h rfl
    have h : MR X ρ 2 0 0 qP288 N 40 [b0, b1] [(1, s32 (92 + b1)), (1, m b0 14)] m o := h
    have h := CR_aload_n h rfl
    have h : MR X ρ 2 0 0 qP288 N 41 [b0, b1] [(1, b0), (1, s32 (92 + b1)), (1, m b0 14)] m o := h
    have h := CR_getf h rfl (by decide)
    have h : MR X ρ 2 0 0 qP288 N 44 [b0, b1] [(1, m b0 17), (1, s32 (92 + b1)), (1, m b0 14)] m o := h
    have h := CR_bipush h rfl rfl
    have h : MR X ρ 2 0 0 qP288 N 46 [b0, b1] [(1, 122), (1, m b0 17), (1, s32 (92 + b1)), (1, m b0 14)] m o := h
    have h := CR_aload_n h rfl
    have h : MR X ρ 2 0 0 qP288 N 47 [b0, b1] [(1, b0), (1, 122), (1, m b0 17), (1, s32 (92 + b1)), (1, m b0 14)] m o := h
    have h := CR_getf h rfl (by decide)
    have h : MR X ρ 2 0 0 qP288 N 50 [b0, b1] [(1, m b0 23), (1, 122), (1, m b0 17), (1, s32 (92 + b1)), (1, m b0 14)] m o := h
    have h := CR_imul h rfl
    have h : MR X ρ 2 0 0 qP288 N 51 [b0, b1] [(1, s32 (122 * (m b0 23))), (1, m b0 17), (1, s32 (92 + b1)), (1, m b0 14)] m o := h
    have h := CR_iload_n h rfl
    have h : MR X ρ 2 0 0 qP288 N 52 [b0, b1] [(1, b1), (1, s32 (122 * (m b0 23))), (1, m b0 17), (1, s32 (92 + b1)), (1, m b0 14)] m o := h
    have h := CR_iadd h rfl
    have h : MR X ρ 2 0 0 qP288 N 53 [b0, b1] [(1, s32 ((s32 (122 * (m b0 23))) + b1)), (1, m b0 17), (1, s32 (92 + b1)), (1, m b0 14)] m o := h
    have h := CR_iaload h rfl rfl
    have h : MR X ρ 2 0 0 qP288 N 54 [b0, b1] [(1, m (m b0 17) (s32 ((s32 (122 * (m b0 23))) + b1))), (1, s32 (92 + b1)), (1, m b0 14)] m o := h
    have h := CR_iastore_ h rfl
    have h : MR X ρ 2 0 0 qP288 N 55 [b0, b1] [] (mu m (m b0 14) (s32 (92 + b1)) (s32 (m (m b0 17) (s32 ((s32 (122 * (m b0 23))) + b1))))) o := h
    have h := CR_inc h rfl (Nat.le_of_ble_eq_true rfl)
    have h : MR X ρ 2 0 0 qP288 N 58 [b0, s32 (b1 + 1)] [] (mu m (m b0 14) (s32 (92 + b1)) (s32 (m (m b0 17) (s32 ((s32 (122 * (m b0 23))) + b1))))) o := h
    obtain ⟨N2, eN2, h⟩ := CR_goto h rfl rfl
    have h : MR X ρ 2 0 0 qP288 N2 26 [b0, s32 (b1 + 1)] [] (mu m (m b0 14) (s32 (92 + b1)) (s32 (m (m b0 17) (s32 ((s32 (122 * (m b0 23))) + b1))))) o := h
    have hr : L288_26 m b0 b1 = L288_26 (mu m (m b0 14) (s32 (92 + b1)) (s32 (m (m b0 17) (s32 ((s32 (122 * (m b0 23))) + b1))))) b0 (s32 (b1 + 1)) := Lp_inl (f := K288_26 m b0 b1) (s := (b1, m)) (s' := (s32 (b1 + 1), mu m (m b0 14) (s32 (92 + b1)) (s32 (m (m b0 17) (s32 ((s32 (122 * (m b0 23))) + b1)))))) ((if_neg c1).trans (rfl))
    rw [hr]
    exact ih N2 (by omega) (by omega) h
set_option maxRecDepth 16384 in
/-- TriplicateFormsModel.undo()I -/
noncomputable def f288 (m : MM) (a0 : Int) : Int := (if ((mu m a0 0 0) a0 23) = 0 then -1 else ((L288_26 (mu (mu m a0 0 0) a0 23 (s32 (((mu m a0 0 0) a0 23) - 1))) a0 0).2.2.2) a0 23)
set_option maxRecDepth 16384 in
noncomputable def g288 (m : MM) (a0 : Int) : MM := (if ((mu m a0 0 0) a0 23) = 0 then mu m a0 0 0 else (L288_26 (mu (mu m a0 0 0) a0 23 (s32 (((mu m a0 0 0) a0 23) - 1))) a0 0).2.2.2)
set_option maxRecDepth 16384 in
theorem d288 {X : KO} {ρ : Nat → Int32} {m m' : MM} {rl : List (Nat × Int)} {a0 : Int} (h : Run X ρ 288 [(1, a0)] m rl m') : rl = [(1, f288 m a0)] ∧ m' = g288 m a0 := by
  obtain ⟨N, ig, h⟩ := Run_CR h rfl
  have h : MR X ρ 2 0 0 qP288 N 0 [a0, 0] [] m (ig, rl, m') := h
  have h := CR_aload_n h rfl
  have h : MR X ρ 2 0 0 qP288 N 1 [a0, 0] [(1, a0)] m (ig, rl, m') := h
  have h := CR_iconst h rfl rfl
  have h : MR X ρ 2 0 0 qP288 N 2 [a0, 0] [(1, 0), (1, a0)] m (ig, rl, m') := h
  have h := CR_putf h rfl
  have h : MR X ρ 2 0 0 qP288 N 5 [a0, 0] [] (mu m a0 0 0) (ig, rl, m') := h
  have h := CR_aload_n h rfl
  have h : MR X ρ 2 0 0 qP288 N 6 [a0, 0] [(1, a0)] (mu m a0 0 0) (ig, rl, m') := h
  have h := CR_getf h rfl (by decide)
  have h : MR X ρ 2 0 0 qP288 N 9 [a0, 0] [(1, (mu m a0 0 0) a0 23)] (mu m a0 0 0) (ig, rl, m') := h
  rcases MR_if h rfl rfl with ⟨c1, h⟩ | ⟨c1, h⟩
  ·
    have c1 : ¬ (((mu m a0 0 0) a0 23) = 0) := c1
    have h : MR X ρ 2 0 0 qP288 N 14 [a0, 0] [] (mu m a0 0 0) (ig, rl, m') := h
    have h := CR_aload_n h rfl
    have h : MR X ρ 2 0 0 qP288 N 15 [a0, 0] [(1, a0)] (mu m a0 0 0) (ig, rl, m') := h
    have h := CR_dup h rfl
    have h : MR X ρ 2 0 0 qP288 N 16 [a0, 0] [(1, a0), (1, a0)] (mu m a0 0 0) (ig, rl, m') := h
    have h := CR_getf h rfl (by decide)
    have h : MR X ρ 2 0 0 qP288 N 19 [a0, 0] [(1, (mu m a0 0 0) a0 23), (1, a0)] (mu m a0 0 0) (ig, rl, m') := h
    have h := CR_iconst h rfl rfl
    have h : MR X ρ 2 0 0 qP288 N 20 [a0, 0] [(1, 1), (1, (mu m a0 0 0) a0 23), (1, a0)] (mu m a0 0 0) (ig, rl, m') := h
    have h := CR_isub h rfl
    have h : MR X ρ 2 0 0 qP288 N 21 [a0, 0] [(1, s32 (((mu m a0 0 0) a0 23) - 1)), (1, a0)] (mu m a0 0 0) (ig, rl, m') := h
    have h := CR_putf h rfl
    have h : MR X ρ 2 0 0 qP288 N 24 [a0, 0] [] (mu (mu m a0 0 0) a0 23 (s32 (((mu m a0 0 0) a0 23) - 1))) (ig, rl, m') := h
    have h := CR_iconst h rfl rfl
    have h : MR X ρ 2 0 0 qP288 N 25 [a0, 0] [(1, 0)] (mu (mu m a0 0 0) a0 23 (s32 (((mu m a0 0 0) a0 23) - 1))) (ig, rl, m') := h
    have h := CR_istore_n h rfl (Nat.le_of_ble_eq_true rfl)
    have h : MR X ρ 2 0 0 qP288 N 26 [a0, 0] [] (mu (mu m a0 0 0) a0 23 (s32 (((mu m a0 0 0) a0 23) - 1))) (ig, rl, m') := h
    have h := l288_26 (Nat.le_refl _) h
    have h : MR X ρ 2 0 0 qP288 N 61 [a0, (L288_26 (mu (mu m a0 0 0) a0 23 (s32 (((mu m a0 0 0) a0 23) - 1))) a0 0).2.2.1] [] ((L288_26 (mu (mu m a0 0 0) a0 23 (s32 (((mu m a0 0 0) a0 23) - 1))) a0 0).2.2.2) (ig, rl, m') := h
    have h := CR_aload_n h rfl
    have h : MR X ρ 2 0 0 qP288 N 62 [a0, (L288_26 (mu (mu m a0 0 0) a0 23 (s32 (((mu m a0 0 0) a0 23) - 1))) a0 0).2.2.1] [(1, a0)] ((L288_26 (mu (mu m a0 0 0) a0 23 (s32 (((mu m a0 0 0) a0 23) - 1))) a0 0).2.2.2) (ig, rl, m') := h
    have h := CR_getf h rfl (by decide)
    have h : MR X ρ 2 0 0 qP288 N 65 [a0, (L288_26 (mu (mu m a0 0 0) a0 23 (s32 (((mu m a0 0 0) a0 23) - 1))) a0 0).2.2.1] [(1, ((L288_26 (mu (mu m a0 0 0) a0 23 (s32 (((mu m a0 0 0) a0 23) - 1))) a0 0).2.2.2) a0 23)] ((L288_26 (mu (mu m a0 0 0) a0 23 (s32 (((mu m a0 0 0) a0 23) - 1))) a0 0).2.2.2) (ig, rl, m') := h
    have e := CR_end h rfl rfl
    cases e
    exact ⟨congrArg (fun z => [(1, z)]) (Eq.symm (show f288 m a0 = _ from (if_neg c1).trans (rfl))), Eq.symm (show g288 m a0 = _ from (if_neg c1).trans (rfl))⟩
  ·
    have c1 : ((mu m a0 0 0) a0 23) = 0 := Decidable.of_not_not (show ¬ ¬ (((mu m a0 0 0) a0 23) = 0) from c1)
    have h : MR X ρ 2 0 0 qP288 N 12 [a0, 0] [] (mu m a0 0 0) (ig, rl, m') := h
    have h := CR_iconst h rfl rfl
    have h : MR X ρ 2 0 0 qP288 N 13 [a0, 0] [(1, -1)] (mu m a0 0 0) (ig, rl, m') := h
    have e := CR_end h rfl rfl
    cases e
    exact ⟨congrArg (fun z => [(1, z)]) (Eq.symm (show f288 m a0 = _ from (if_pos c1).trans (rfl))), Eq.symm (show g288 m a0 = _ from (if_pos c1).trans (rfl))⟩
set_option maxRecDepth 16384 in
/-- TriplicateFormsModel.why(III)I -/
noncomputable def f290 (m : MM) (a0 a1 a2 a3 : Int) : Int := (if a1 = 0 then (if (m (m a0 14) (s32 (182 + a3))) = 0 then (if (m (m a0 14) (s32 (198 + a2))) = (-1) then (if (f235 m a0 a2 a3) = (-1) then 3 else 0) else 2) else 1) else (if a1 = 1 then (if (f198 m a0 a2 a3) = 0 then 1 else 0) else (if a1 = 2 then (if a2 = a3 then 1 else (if (f198 m a0 a2 a3) = 9 then 2 else 0)) else (if a1 = 3 then (if (f214 m a0 a2) = 0 then 0 else 1) else (if a1 = 4 then (if (f214 m a0 a2) = 0 then 1 else 0) else (if a1 = 5 then (if (m (m a0 14) (s32 (182 + a2))) < 2 then 0 else 1) else (if (m (m a0 14) (s32 (182 + a2))) = 3 then 0 else 1)))))))
set_option maxRecDepth 16384 in
theorem d290 {X : KO} {ρ : Nat → Int32} {m m' : MM} {rl : List (Nat × Int)} {a0 a1 a2 a3 : Int} (h : Run X ρ 290 [(1, a0), (1, a1), (1, a2), (1, a3)] m rl m') : rl = [(1, f290 m a0 a1 a2 a3)] ∧ m' = m := by
  obtain ⟨N, ig, h⟩ := Run_CR h rfl
  have h : MR X ρ 4 0 0 qP290 N 0 [a0, a1, a2, a3] [] m (ig, rl, m') := h
  have h := CR_iload_n h rfl
  have h : MR X ρ 4 0 0 qP290 N 1 [a0, a1, a2, a3] [(1, a1)] m (ig, rl, m') := h
  obtain ⟨t1, s2, h⟩ := CR_tsw kRg0 h rfl
  rcases Decidable.em (a1 = 0) with c3 | c3
  ·
    have us2 : swt 1 (179) (0) (5) #[39, 90, 105, 131, 145, 159] a1 = some 40 := by rw [c3]; rfl
    have s2 := us2.symm.trans s2
    cases s2
    have h : MR X ρ 4 0 0 qP290 N 40 [a0, a1, a2, a3] [] m (ig, rl, m') := h
    have h := CR_aload_n h rfl
    have h : MR X ρ 4 0 0 qP290 N 41 [a0, a1, a2, a3] [(1, a0)] m (ig, rl, m') := h
    have h := CR_getf h rfl (by decide)
    have h : MR X ρ 4 0 0 qP290 N 44 [a0, a1, a2, a3] [(1, m a0 14)] m (ig, rl, m') := h
    have h := CR_sipush h rfl rfl
    have h : MR X ρ 4 0 0 qP290 N 47 [a0, a1, a2, a3] [(1, 182), (1, m a0 14)] m (ig, rl, m') := h
    have h := CR_iload_n h rfl
    have h : MR X ρ 4 0 0 qP290 N 48 [a0, a1, a2, a3] [(1, a3), (1, 182), (1, m a0 14)] m (ig, rl, m') := h
    have h := CR_iadd h rfl
    have h : MR X ρ 4 0 0 qP290 N 49 [a0, a1, a2, a3] [(1, s32 (182 + a3)), (1, m a0 14)] m (ig, rl, m') := h
    have h := CR_iaload h rfl rfl
    have h : MR X ρ 4 0 0 qP290 N 50 [a0, a1, a2, a3] [(1, m (m a0 14) (s32 (182 + a3)))] m (ig, rl, m') := h
    rcases MR_if h rfl rfl with ⟨c4, h⟩ | ⟨c4, h⟩
    ·
      have c4 : (m (m a0 14) (s32 (182 + a3))) = 0 := c4
      have h : MR X ρ 4 0 0 qP290 N 57 [a0, a1, a2, a3] [] m (ig, rl, m') := h
      have h := CR_aload_n h rfl
      have h : MR X ρ 4 0 0 qP290 N 58 [a0, a1, a2, a3] [(1, a0)] m (ig, rl, m') := h
      have h := CR_getf h rfl (by decide)
      have h : MR X ρ 4 0 0 qP290 N 61 [a0, a1, a2, a3] [(1, m a0 14)] m (ig, rl, m') := h
      have h := CR_sipush h rfl rfl
      have h : MR X ρ 4 0 0 qP290 N 64 [a0, a1, a2, a3] [(1, 198), (1, m a0 14)] m (ig, rl, m') := h
      have h := CR_iload_n h rfl
      have h : MR X ρ 4 0 0 qP290 N 65 [a0, a1, a2, a3] [(1, a2), (1, 198), (1, m a0 14)] m (ig, rl, m') := h
      have h := CR_iadd h rfl
      have h : MR X ρ 4 0 0 qP290 N 66 [a0, a1, a2, a3] [(1, s32 (198 + a2)), (1, m a0 14)] m (ig, rl, m') := h
      have h := CR_iaload h rfl rfl
      have h : MR X ρ 4 0 0 qP290 N 67 [a0, a1, a2, a3] [(1, m (m a0 14) (s32 (198 + a2)))] m (ig, rl, m') := h
      have h := CR_iconst h rfl rfl
      have h : MR X ρ 4 0 0 qP290 N 68 [a0, a1, a2, a3] [(1, -1), (1, m (m a0 14) (s32 (198 + a2)))] m (ig, rl, m') := h
      rcases MR_icmp h rfl rfl with ⟨c5, h⟩ | ⟨c5, h⟩
      ·
        have c5 : (m (m a0 14) (s32 (198 + a2))) = (-1) := c5
        have h : MR X ρ 4 0 0 qP290 N 75 [a0, a1, a2, a3] [] m (ig, rl, m') := h
        have h := CR_aload_n h rfl
        have h : MR X ρ 4 0 0 qP290 N 76 [a0, a1, a2, a3] [(1, a0)] m (ig, rl, m') := h
        have h := CR_iload_n h rfl
        have h : MR X ρ 4 0 0 qP290 N 77 [a0, a1, a2, a3] [(1, a2), (1, a0)] m (ig, rl, m') := h
        have h := CR_iload_n h rfl
        have h : MR X ρ 4 0 0 qP290 N 78 [a0, a1, a2, a3] [(1, a3), (1, a2), (1, a0)] m (ig, rl, m') := h
        obtain ⟨r6, m7, q8, h⟩ := MR_invV h rfl rfl
        have q8 : Run X ρ 235 [(1, a0), (1, a2), (1, a3)] m r6 m7 := q8
        obtain ⟨e9, e10⟩ := d235 q8
        rw [e9, e10] at h
        have h : MR X ρ 4 0 0 qP290 N 81 [a0, a1, a2, a3] [(1, f235 m a0 a2 a3)] m (ig, rl, m') := h
        have h := CR_iconst h rfl rfl
        have h : MR X ρ 4 0 0 qP290 N 82 [a0, a1, a2, a3] [(1, -1), (1, f235 m a0 a2 a3)] m (ig, rl, m') := h
        rcases MR_icmp h rfl rfl with ⟨c11, h⟩ | ⟨c11, h⟩
        ·
          have c11 : ¬ ((f235 m a0 a2 a3) = (-1)) := c11
          have h : MR X ρ 4 0 0 qP290 N 89 [a0, a1, a2, a3] [] m (ig, rl, m') := h
          have h := CR_iconst h rfl rfl
          have h : MR X ρ 4 0 0 qP290 N 90 [a0, a1, a2, a3] [(1, 0)] m (ig, rl, m') := h
          have e := CR_end h rfl rfl
          cases e
          exact ⟨congrArg (fun z => [(1, z)]) (Eq.symm (show f290 m a0 a1 a2 a3 = _ from (if_pos c3).trans ((if_pos c4).trans ((if_pos c5).trans ((if_neg c11).trans (rfl)))))), rfl⟩
        ·
          have c11 : (f235 m a0 a2 a3) = (-1) := Decidable.of_not_not (show ¬ ¬ ((f235 m a0 a2 a3) = (-1)) from c11)
          have h : MR X ρ 4 0 0 qP290 N 85 [a0, a1, a2, a3] [] m (ig, rl, m') := h
          have h := CR_iconst h rfl rfl
          have h : MR X ρ 4 0 0 qP290 N 86 [a0, a1, a2, a3] [(1, 3)] m (ig, rl, m') := h
          have h := CR_go h rfl rfl
          have h : MR X ρ 4 0 0 qP290 N 90 [a0, a1, a2, a3] [(1, 3)] m (ig, rl, m') := h
          have e := CR_end h rfl rfl
          cases e
          exact ⟨congrArg (fun z => [(1, z)]) (Eq.symm (show f290 m a0 a1 a2 a3 = _ from (if_pos c3).trans ((if_pos c4).trans ((if_pos c5).trans ((if_pos c11).trans (rfl)))))), rfl⟩
      ·
        have c5 : ¬ ((m (m a0 14) (s32 (198 + a2))) = (-1)) := c5
        have h : MR X ρ 4 0 0 qP290 N 71 [a0, a1, a2, a3] [] m (ig, rl, m') := h
        have h := CR_iconst h rfl rfl
        have h : MR X ρ 4 0 0 qP290 N 72 [a0, a1, a2, a3] [(1, 2)] m (ig, rl, m') := h
        have h := CR_go h rfl rfl
        have h : MR X ρ 4 0 0 qP290 N 90 [a0, a1, a2, a3] [(1, 2)] m (ig, rl, m') := h
        have e := CR_end h rfl rfl
        cases e
        exact ⟨congrArg (fun z => [(1, z)]) (Eq.symm (show f290 m a0 a1 a2 a3 = _ from (if_pos c3).trans ((if_pos c4).trans ((if_neg c5).trans (rfl))))), rfl⟩
    ·
      have c4 : ¬ ((m (m a0 14) (s32 (182 + a3))) = 0) := c4
      have h : MR X ρ 4 0 0 qP290 N 53 [a0, a1, a2, a3] [] m (ig, rl, m') := h
      have h := CR_iconst h rfl rfl
      have h : MR X ρ 4 0 0 qP290 N 54 [a0, a1, a2, a3] [(1, 1)] m (ig, rl, m') := h
      have h := CR_go h rfl rfl
      have h : MR X ρ 4 0 0 qP290 N 90 [a0, a1, a2, a3] [(1, 1)] m (ig, rl, m') := h
      have e := CR_end h rfl rfl
      cases e
      exact ⟨congrArg (fun z => [(1, z)]) (Eq.symm (show f290 m a0 a1 a2 a3 = _ from (if_pos c3).trans ((if_neg c4).trans (rfl)))), rfl⟩
  ·
    rcases Decidable.em (a1 = 1) with c12 | c12
    ·
      have us2 : swt 1 (179) (0) (5) #[39, 90, 105, 131, 145, 159] a1 = some 91 := by rw [c12]; rfl
      have s2 := us2.symm.trans s2
      cases s2
      have h : MR X ρ 4 0 0 qP290 N 91 [a0, a1, a2, a3] [] m (ig, rl, m') := h
      have h := CR_aload_n h rfl
      have h : MR X ρ 4 0 0 qP290 N 92 [a0, a1, a2, a3] [(1, a0)] m (ig, rl, m') := h
      have h := CR_iload_n h rfl
      have h : MR X ρ 4 0 0 qP290 N 93 [a0, a1, a2, a3] [(1, a2), (1, a0)] m (ig, rl, m') := h
      have h := CR_iload_n h rfl
      have h : MR X ρ 4 0 0 qP290 N 94 [a0, a1, a2, a3] [(1, a3), (1, a2), (1, a0)] m (ig, rl, m') := h
      obtain ⟨r13, m14, q15, h⟩ := MR_invV h rfl rfl
      have q15 : Run X ρ 198 [(1, a0), (1, a2), (1, a3)] m r13 m14 := q15
      obtain ⟨e16, e17⟩ := d198 q15
      rw [e16, e17] at h
      have h : MR X ρ 4 0 0 qP290 N 97 [a0, a1, a2, a3] [(1, f198 m a0 a2 a3)] m (ig, rl, m') := h
      rcases MR_if h rfl rfl with ⟨c18, h⟩ | ⟨c18, h⟩
      ·
        have c18 : ¬ ((f198 m a0 a2 a3) = 0) := c18
        have h : MR X ρ 4 0 0 qP290 N 104 [a0, a1, a2, a3] [] m (ig, rl, m') := h
        have h := CR_iconst h rfl rfl
        have h : MR X ρ 4 0 0 qP290 N 105 [a0, a1, a2, a3] [(1, 0)] m (ig, rl, m') := h
        have e := CR_end h rfl rfl
        cases e
        exact ⟨congrArg (fun z => [(1, z)]) (Eq.symm (show f290 m a0 a1 a2 a3 = _ from (if_neg c3).trans ((if_pos c12).trans ((if_neg c18).trans (rfl))))), rfl⟩
      ·
        have c18 : (f198 m a0 a2 a3) = 0 := Decidable.of_not_not (show ¬ ¬ ((f198 m a0 a2 a3) = 0) from c18)
        have h : MR X ρ 4 0 0 qP290 N 100 [a0, a1, a2, a3] [] m (ig, rl, m') := h
        have h := CR_iconst h rfl rfl
        have h : MR X ρ 4 0 0 qP290 N 101 [a0, a1, a2, a3] [(1, 1)] m (ig, rl, m') := h
        have h := CR_go h rfl rfl
        have h : MR X ρ 4 0 0 qP290 N 105 [a0, a1, a2, a3] [(1, 1)] m (ig, rl, m') := h
        have e := CR_end h rfl rfl
        cases e
        exact ⟨congrArg (fun z => [(1, z)]) (Eq.symm (show f290 m a0 a1 a2 a3 = _ from (if_neg c3).trans ((if_pos c12).trans ((if_pos c18).trans (rfl))))), rfl⟩
    ·
      rcases Decidable.em (a1 = 2) with c19 | c19
      ·
        have us2 : swt 1 (179) (0) (5) #[39, 90, 105, 131, 145, 159] a1 = some 106 := by rw [c19]; rfl
        have s2 := us2.symm.trans s2
        cases s2
        have h : MR X ρ 4 0 0 qP290 N 106 [a0, a1, a2, a3] [] m (ig, rl, m') := h
        have h := CR_iload_n h rfl
        have h : MR X ρ 4 0 0 qP290 N 107 [a0, a1, a2, a3] [(1, a2)] m (ig, rl, m') := h
        have h := CR_iload_n h rfl
        have h : MR X ρ 4 0 0 qP290 N 108 [a0, a1, a2, a3] [(1, a3), (1, a2)] m (ig, rl, m') := h
        rcases MR_icmp h rfl rfl with ⟨c20, h⟩ | ⟨c20, h⟩
        ·
          have c20 : ¬ (a2 = a3) := c20
          have h : MR X ρ 4 0 0 qP290 N 115 [a0, a1, a2, a3] [] m (ig, rl, m') := h
          have h := CR_aload_n h rfl
          have h : MR X ρ 4 0 0 qP290 N 116 [a0, a1, a2, a3] [(1, a0)] m (ig, rl, m') := h
          have h := CR_iload_n h rfl
          have h : MR X ρ 4 0 0 qP290 N 117 [a0, a1, a2, a3] [(1, a2), (1, a0)] m (ig, rl, m') := h
          have h := CR_iload_n h rfl
          have h : MR X ρ 4 0 0 qP290 N 118 [a0, a1, a2, a3] [(1, a3), (1, a2), (1, a0)] m (ig, rl, m') := h
          obtain ⟨r21, m22, q23, h⟩ := MR_invV h rfl rfl
          have q23 : Run X ρ 198 [(1, a0), (1, a2), (1, a3)] m r21 m22 := q23
          obtain ⟨e24, e25⟩ := d198 q23
          rw [e24, e25] at h
          have h : MR X ρ 4 0 0 qP290 N 121 [a0, a1, a2, a3] [(1, f198 m a0 a2 a3)] m (ig, rl, m') := h
          have h := CR_bipush h rfl rfl
          have h : MR X ρ 4 0 0 qP290 N 123 [a0, a1, a2, a3] [(1, 9), (1, f198 m a0 a2 a3)] m (ig, rl, m') := h
          rcases MR_icmp h rfl rfl with ⟨c26, h⟩ | ⟨c26, h⟩
          ·
            have c26 : ¬ ((f198 m a0 a2 a3) = 9) := c26
            have h : MR X ρ 4 0 0 qP290 N 130 [a0, a1, a2, a3] [] m (ig, rl, m') := h
            have h := CR_iconst h rfl rfl
            have h : MR X ρ 4 0 0 qP290 N 131 [a0, a1, a2, a3] [(1, 0)] m (ig, rl, m') := h
            have e := CR_end h rfl rfl
            cases e
            exact ⟨congrArg (fun z => [(1, z)]) (Eq.symm (show f290 m a0 a1 a2 a3 = _ from (if_neg c3).trans ((if_neg c12).trans ((if_pos c19).trans ((if_neg c20).trans ((if_neg c26).trans (rfl))))))), rfl⟩
          ·
            have c26 : (f198 m a0 a2 a3) = 9 := Decidable.of_not_not (show ¬ ¬ ((f198 m a0 a2 a3) = 9) from c26)
            have h : MR X ρ 4 0 0 qP290 N 126 [a0, a1, a2, a3] [] m (ig, rl, m') := h
            have h := CR_iconst h rfl rfl
            have h : MR X ρ 4 0 0 qP290 N 127 [a0, a1, a2, a3] [(1, 2)] m (ig, rl, m') := h
            have h := CR_go h rfl rfl
            have h : MR X ρ 4 0 0 qP290 N 131 [a0, a1, a2, a3] [(1, 2)] m (ig, rl, m') := h
            have e := CR_end h rfl rfl
            cases e
            exact ⟨congrArg (fun z => [(1, z)]) (Eq.symm (show f290 m a0 a1 a2 a3 = _ from (if_neg c3).trans ((if_neg c12).trans ((if_pos c19).trans ((if_neg c20).trans ((if_pos c26).trans (rfl))))))), rfl⟩
        ·
          have c20 : a2 = a3 := Decidable.of_not_not (show ¬ ¬ (a2 = a3) from c20)
          have h : MR X ρ 4 0 0 qP290 N 111 [a0, a1, a2, a3] [] m (ig, rl, m') := h
          have h := CR_iconst h rfl rfl
          have h : MR X ρ 4 0 0 qP290 N 112 [a0, a1, a2, a3] [(1, 1)] m (ig, rl, m') := h
          have h := CR_go h rfl rfl
          have h : MR X ρ 4 0 0 qP290 N 131 [a0, a1, a2, a3] [(1, 1)] m (ig, rl, m') := h
          have e := CR_end h rfl rfl
          cases e
          exact ⟨congrArg (fun z => [(1, z)]) (Eq.symm (show f290 m a0 a1 a2 a3 = _ from (if_neg c3).trans ((if_neg c12).trans ((if_pos c19).trans ((if_pos c20).trans (rfl)))))), rfl⟩
      ·
        rcases Decidable.em (a1 = 3) with c27 | c27
        ·
          have us2 : swt 1 (179) (0) (5) #[39, 90, 105, 131, 145, 159] a1 = some 132 := by rw [c27]; rfl
          have s2 := us2.symm.trans s2
          cases s2
          have h : MR X ρ 4 0 0 qP290 N 132 [a0, a1, a2, a3] [] m (ig, rl, m') := h
          have h := CR_aload_n h rfl
          have h : MR X ρ 4 0 0 qP290 N 133 [a0, a1, a2, a3] [(1, a0)] m (ig, rl, m') := h
          have h := CR_iload_n h rfl
          have h : MR X ρ 4 0 0 qP290 N 134 [a0, a1, a2, a3] [(1, a2), (1, a0)] m (ig, rl, m') := h
          obtain ⟨r28, m29, q30, h⟩ := MR_invV h rfl rfl
          have q30 : Run X ρ 214 [(1, a0), (1, a2)] m r28 m29 := q30
          obtain ⟨e31, e32⟩ := d214 q30
          rw [e31, e32] at h
          have h : MR X ρ 4 0 0 qP290 N 137 [a0, a1, a2, a3] [(1, f214 m a0 a2)] m (ig, rl, m') := h
          rcases MR_if h rfl rfl with ⟨c33, h⟩ | ⟨c33, h⟩
          ·
            have c33 : (f214 m a0 a2) = 0 := c33
            have h : MR X ρ 4 0 0 qP290 N 144 [a0, a1, a2, a3] [] m (ig, rl, m') := h
            have h := CR_iconst h rfl rfl
            have h : MR X ρ 4 0 0 qP290 N 145 [a0, a1, a2, a3] [(1, 0)] m (ig, rl, m') := h
            have e := CR_end h rfl rfl
            cases e
            exact ⟨congrArg (fun z => [(1, z)]) (Eq.symm (show f290 m a0 a1 a2 a3 = _ from (if_neg c3).trans ((if_neg c12).trans ((if_neg c19).trans ((if_pos c27).trans ((if_pos c33).trans (rfl))))))), rfl⟩
          ·
            have c33 : ¬ ((f214 m a0 a2) = 0) := c33
            have h : MR X ρ 4 0 0 qP290 N 140 [a0, a1, a2, a3] [] m (ig, rl, m') := h
            have h := CR_iconst h rfl rfl
            have h : MR X ρ 4 0 0 qP290 N 141 [a0, a1, a2, a3] [(1, 1)] m (ig, rl, m') := h
            have h := CR_go h rfl rfl
            have h : MR X ρ 4 0 0 qP290 N 145 [a0, a1, a2, a3] [(1, 1)] m (ig, rl, m') := h
            have e := CR_end h rfl rfl
            cases e
            exact ⟨congrArg (fun z => [(1, z)]) (Eq.symm (show f290 m a0 a1 a2 a3 = _ from (if_neg c3).trans ((if_neg c12).trans ((if_neg c19).trans ((if_pos c27).trans ((if_neg c33).trans (rfl))))))), rfl⟩
        ·
          rcases Decidable.em (a1 = 4) with c34 | c34
          ·
            have us2 : swt 1 (179) (0) (5) #[39, 90, 105, 131, 145, 159] a1 = some 146 := by rw [c34]; rfl
            have s2 := us2.symm.trans s2
            cases s2
            have h : MR X ρ 4 0 0 qP290 N 146 [a0, a1, a2, a3] [] m (ig, rl, m') := h
            have h := CR_aload_n h rfl
            have h : MR X ρ 4 0 0 qP290 N 147 [a0, a1, a2, a3] [(1, a0)] m (ig, rl, m') := h
            have h := CR_iload_n h rfl
            have h : MR X ρ 4 0 0 qP290 N 148 [a0, a1, a2, a3] [(1, a2), (1, a0)] m (ig, rl, m') := h
            obtain ⟨r35, m36, q37, h⟩ := MR_invV h rfl rfl
            have q37 : Run X ρ 214 [(1, a0), (1, a2)] m r35 m36 := q37
            obtain ⟨e38, e39⟩ := d214 q37
            rw [e38, e39] at h
            have h : MR X ρ 4 0 0 qP290 N 151 [a0, a1, a2, a3] [(1, f214 m a0 a2)] m (ig, rl, m') := h
            rcases MR_if h rfl rfl with ⟨c40, h⟩ | ⟨c40, h⟩
            ·
              have c40 : (f214 m a0 a2) = 0 := c40
              have h : MR X ρ 4 0 0 qP290 N 158 [a0, a1, a2, a3] [] m (ig, rl, m') := h
              have h := CR_iconst h rfl rfl
              have h : MR X ρ 4 0 0 qP290 N 159 [a0, a1, a2, a3] [(1, 1)] m (ig, rl, m') := h
              have e := CR_end h rfl rfl
              cases e
              exact ⟨congrArg (fun z => [(1, z)]) (Eq.symm (show f290 m a0 a1 a2 a3 = _ from (if_neg c3).trans ((if_neg c12).trans ((if_neg c19).trans ((if_neg c27).trans ((if_pos c34).trans ((if_pos c40).trans (rfl)))))))), rfl⟩
            ·
              have c40 : ¬ ((f214 m a0 a2) = 0) := c40
              have h : MR X ρ 4 0 0 qP290 N 154 [a0, a1, a2, a3] [] m (ig, rl, m') := h
              have h := CR_iconst h rfl rfl
              have h : MR X ρ 4 0 0 qP290 N 155 [a0, a1, a2, a3] [(1, 0)] m (ig, rl, m') := h
              have h := CR_go h rfl rfl
              have h : MR X ρ 4 0 0 qP290 N 159 [a0, a1, a2, a3] [(1, 0)] m (ig, rl, m') := h
              have e := CR_end h rfl rfl
              cases e
              exact ⟨congrArg (fun z => [(1, z)]) (Eq.symm (show f290 m a0 a1 a2 a3 = _ from (if_neg c3).trans ((if_neg c12).trans ((if_neg c19).trans ((if_neg c27).trans ((if_pos c34).trans ((if_neg c40).trans (rfl)))))))), rfl⟩
          ·
            rcases Decidable.em (a1 = 5) with c41 | c41
            ·
              have us2 : swt 1 (179) (0) (5) #[39, 90, 105, 131, 145, 159] a1 = some 160 := by rw [c41]; rfl
              have s2 := us2.symm.trans s2
              cases s2
              have h : MR X ρ 4 0 0 qP290 N 160 [a0, a1, a2, a3] [] m (ig, rl, m') := h
              have h := CR_aload_n h rfl
              have h : MR X ρ 4 0 0 qP290 N 161 [a0, a1, a2, a3] [(1, a0)] m (ig, rl, m') := h
              have h := CR_getf h rfl (by decide)
              have h : MR X ρ 4 0 0 qP290 N 164 [a0, a1, a2, a3] [(1, m a0 14)] m (ig, rl, m') := h
              have h := CR_sipush h rfl rfl
              have h : MR X ρ 4 0 0 qP290 N 167 [a0, a1, a2, a3] [(1, 182), (1, m a0 14)] m (ig, rl, m') := h
              have h := CR_iload_n h rfl
              have h : MR X ρ 4 0 0 qP290 N 168 [a0, a1, a2, a3] [(1, a2), (1, 182), (1, m a0 14)] m (ig, rl, m') := h
              have h := CR_iadd h rfl
              have h : MR X ρ 4 0 0 qP290 N 169 [a0, a1, a2, a3] [(1, s32 (182 + a2)), (1, m a0 14)] m (ig, rl, m') := h
              have h := CR_iaload h rfl rfl
              have h : MR X ρ 4 0 0 qP290 N 170 [a0, a1, a2, a3] [(1, m (m a0 14) (s32 (182 + a2)))] m (ig, rl, m') := h
              have h := CR_iconst h rfl rfl
              have h : MR X ρ 4 0 0 qP290 N 171 [a0, a1, a2, a3] [(1, 2), (1, m (m a0 14) (s32 (182 + a2)))] m (ig, rl, m') := h
              rcases MR_icmp h rfl rfl with ⟨c42, h⟩ | ⟨c42, h⟩
              ·
                have c42 : (m (m a0 14) (s32 (182 + a2))) < 2 := c42
                have h : MR X ρ 4 0 0 qP290 N 178 [a0, a1, a2, a3] [] m (ig, rl, m') := h
                have h := CR_iconst h rfl rfl
                have h : MR X ρ 4 0 0 qP290 N 179 [a0, a1, a2, a3] [(1, 0)] m (ig, rl, m') := h
                have e := CR_end h rfl rfl
                cases e
                exact ⟨congrArg (fun z => [(1, z)]) (Eq.symm (show f290 m a0 a1 a2 a3 = _ from (if_neg c3).trans ((if_neg c12).trans ((if_neg c19).trans ((if_neg c27).trans ((if_neg c34).trans ((if_pos c41).trans ((if_pos c42).trans (rfl))))))))), rfl⟩
              ·
                have c42 : ¬ ((m (m a0 14) (s32 (182 + a2))) < 2) := c42
                have h : MR X ρ 4 0 0 qP290 N 174 [a0, a1, a2, a3] [] m (ig, rl, m') := h
                have h := CR_iconst h rfl rfl
                have h : MR X ρ 4 0 0 qP290 N 175 [a0, a1, a2, a3] [(1, 1)] m (ig, rl, m') := h
                have h := CR_go h rfl rfl
                have h : MR X ρ 4 0 0 qP290 N 179 [a0, a1, a2, a3] [(1, 1)] m (ig, rl, m') := h
                have e := CR_end h rfl rfl
                cases e
                exact ⟨congrArg (fun z => [(1, z)]) (Eq.symm (show f290 m a0 a1 a2 a3 = _ from (if_neg c3).trans ((if_neg c12).trans ((if_neg c19).trans ((if_neg c27).trans ((if_neg c34).trans ((if_pos c41).trans ((if_neg c42).trans (rfl))))))))), rfl⟩
            ·
              have us2 := swt_d (pc := 1) (dflt := 179) (lw := 0) (hg := 5) (offs := #[39, 90, 105, 131, 145, 159]) (t := 180) (e := a1) (by omega) rfl
              have s2 := us2.symm.trans s2
              cases s2
              have h : MR X ρ 4 0 0 qP290 N 180 [a0, a1, a2, a3] [] m (ig, rl, m') := h
              have h := CR_aload_n h rfl
              have h : MR X ρ 4 0 0 qP290 N 181 [a0, a1, a2, a3] [(1, a0)] m (ig, rl, m') := h
              have h := CR_getf h rfl (by decide)
              have h : MR X ρ 4 0 0 qP290 N 184 [a0, a1, a2, a3] [(1, m a0 14)] m (ig, rl, m') := h
              have h := CR_sipush h rfl rfl
              have h : MR X ρ 4 0 0 qP290 N 187 [a0, a1, a2, a3] [(1, 182), (1, m a0 14)] m (ig, rl, m') := h
              have h := CR_iload_n h rfl
              have h : MR X ρ 4 0 0 qP290 N 188 [a0, a1, a2, a3] [(1, a2), (1, 182), (1, m a0 14)] m (ig, rl, m') := h
              have h := CR_iadd h rfl
              have h : MR X ρ 4 0 0 qP290 N 189 [a0, a1, a2, a3] [(1, s32 (182 + a2)), (1, m a0 14)] m (ig, rl, m') := h
              have h := CR_iaload h rfl rfl
              have h : MR X ρ 4 0 0 qP290 N 190 [a0, a1, a2, a3] [(1, m (m a0 14) (s32 (182 + a2)))] m (ig, rl, m') := h
              have h := CR_iconst h rfl rfl
              have h : MR X ρ 4 0 0 qP290 N 191 [a0, a1, a2, a3] [(1, 3), (1, m (m a0 14) (s32 (182 + a2)))] m (ig, rl, m') := h
              rcases MR_icmp h rfl rfl with ⟨c43, h⟩ | ⟨c43, h⟩
              ·
                have c43 : ¬ ((m (m a0 14) (s32 (182 + a2))) = 3) := c43
                have h : MR X ρ 4 0 0 qP290 N 198 [a0, a1, a2, a3] [] m (ig, rl, m') := h
                have h := CR_iconst h rfl rfl
                have h : MR X ρ 4 0 0 qP290 N 199 [a0, a1, a2, a3] [(1, 1)] m (ig, rl, m') := h
                have e := CR_end h rfl rfl
                cases e
                exact ⟨congrArg (fun z => [(1, z)]) (Eq.symm (show f290 m a0 a1 a2 a3 = _ from (if_neg c3).trans ((if_neg c12).trans ((if_neg c19).trans ((if_neg c27).trans ((if_neg c34).trans ((if_neg c41).trans ((if_neg c43).trans (rfl))))))))), rfl⟩
              ·
                have c43 : (m (m a0 14) (s32 (182 + a2))) = 3 := Decidable.of_not_not (show ¬ ¬ ((m (m a0 14) (s32 (182 + a2))) = 3) from c43)
                have h : MR X ρ 4 0 0 qP290 N 194 [a0, a1, a2, a3] [] m (ig, rl, m') := h
                have h := CR_iconst h rfl rfl
                have h : MR X ρ 4 0 0 qP290 N 195 [a0, a1, a2, a3] [(1, 0)] m (ig, rl, m') := h
                have h := CR_go h rfl rfl
                have h : MR X ρ 4 0 0 qP290 N 199 [a0, a1, a2, a3] [(1, 0)] m (ig, rl, m') := h
                have e := CR_end h rfl rfl
                cases e
                exact ⟨congrArg (fun z => [(1, z)]) (Eq.symm (show f290 m a0 a1 a2 a3 = _ from (if_neg c3).trans ((if_neg c12).trans ((if_neg c19).trans ((if_neg c27).trans ((if_neg c34).trans ((if_neg c41).trans ((if_pos c43).trans (rfl))))))))), rfl⟩
set_option maxRecDepth 16384 in
/-- java/util/Arrays.fill([II)V, the loop at 5 -/
noncomputable def S297_5 (m : MM) (b0 b1 b2 b3 : Int) : (Int × MM) ⊕ (Nat × Int × (Int × MM)) := (if b3 ≤ b2 then .inr (1, 0, (b2, m)) else .inl (s32 (b2 + 1), mu m b0 b2 (s32 b1)))
set_option maxRecDepth 16384 in
noncomputable def K297_5 (m : MM) (b0 b1 b2 b3 : Int) : (Int × MM) → (Int × MM) ⊕ (Nat × Int × (Int × MM)) := fun s => S297_5 s.2 b0 b1 s.1 b3
set_option maxRecDepth 16384 in
noncomputable def L297_5 (m : MM) (b0 b1 b2 b3 : Int) : (Nat × Int × (Int × MM)) := Lp (K297_5 m b0 b1 b2 b3) (b2, m)
set_option maxRecDepth 16384 in
theorem l297_5 {X : KO} {ρ : Nat → Int32} {o : Instr × List (Nat × Int) × MM} {K : Nat} : ∀ {N : Nat} {m : MM} {b0 b1 b2 b3 : Int}, N ≤ K → MR X ρ 4 0 0 qP297 N 5 [b0, b1, b2, b3] [] m o → (MR X ρ 4 0 0 qP297 K 20 [b0, b1, (L297_5 m b0 b1 b2 b3).2.2.1, b3] [] ((L297_5 m b0 b1 b2 b3).2.2.2) o) := by
  intro N
  induction N using Nat.strongRecOn with
  | ind N ih =>
  intro m b0 b1 b2 b3 hK h
  have h := CR_iload_n h rfl
  have h : MR X ρ 4 0 0 qP297 N 6 [b0, b1, b2, b3] [(1, b2)] m o := h
  have h := CR_iload_n h rfl
  have h : MR X ρ 4 0 0 qP297 N 7 [b0, b1, b2, b3] [(1, b3), (1, b2)] m o := h
  rcases MR_icmp h rfl rfl with ⟨c1, h⟩ | ⟨c1, h⟩
  ·
    have c1 : b3 ≤ b2 := c1
    have h : MR X ρ 4 0 0 qP297 N 20 [b0, b1, b2, b3] [] m o := h
    have hr : L297_5 m b0 b1 b2 b3 = (1, 0, (b2, m)) := Lp_inr (f := K297_5 m b0 b1 b2 b3) (s := (b2, m)) ((if_pos c1).trans (rfl))
    rw [hr]
    exact CR_le (by omega) h
  ·
    have c1 : ¬ (b3 ≤ b2) := c1
    have h : MR X ρ 4 0 0 qP297 N 10 [b0, b1, b2, b3] [] m o := h
    have h := CR_aload_n h rfl
    have h : MR X ρ 4 0 0 qP297 N 11 [b0, b1, b2, b3] [(1, b0)] m o := h
    have h := CR_iload_n h rfl
    have h : MR X ρ 4 0 0 qP297 N 12 [b0, b1, b2, b3] [(1, b2), (1, b0)] m o := h
    have h := CR_iload_n h rfl
    have h : MR X ρ 4 0 0 qP297 N 13 [b0, b1, b2, b3] [(1, b1), (1, b2), (1, b0)] m o := h
    have h := CR_iastore_ h rfl
    have h : MR X ρ 4 0 0 qP297 N 14 [b0, b1, b2, b3] [] (mu m b0 b2 (s32 b1)) o := h
    have h := CR_inc h rfl (Nat.le_of_ble_eq_true rfl)
    have h : MR X ρ 4 0 0 qP297 N 17 [b0, b1, s32 (b2 + 1), b3] [] (mu m b0 b2 (s32 b1)) o := h
    obtain ⟨N2, eN2, h⟩ := CR_goto h rfl rfl
    have h : MR X ρ 4 0 0 qP297 N2 5 [b0, b1, s32 (b2 + 1), b3] [] (mu m b0 b2 (s32 b1)) o := h
    have hr : L297_5 m b0 b1 b2 b3 = L297_5 (mu m b0 b2 (s32 b1)) b0 b1 (s32 (b2 + 1)) b3 := Lp_inl (f := K297_5 m b0 b1 b2 b3) (s := (b2, m)) (s' := (s32 (b2 + 1), mu m b0 b2 (s32 b1))) ((if_neg c1).trans (rfl))
    rw [hr]
    exact ih N2 (by omega) (by omega) h
set_option maxRecDepth 16384 in
/-- java/util/Arrays.fill([II)V -/
noncomputable def g297 (m : MM) (a0 a1 : Int) : MM := (L297_5 m a0 a1 0 (if a0 = 1000050 then 30 else s32 (m a0 (-1)))).2.2.2
set_option maxRecDepth 16384 in
theorem d297 {X : KO} {ρ : Nat → Int32} {m m' : MM} {rl : List (Nat × Int)} {a0 a1 : Int} (h : Run X ρ 297 [(1, a0), (1, a1)] m rl m') : rl = [] ∧ m' = g297 m a0 a1 := by
  obtain ⟨N, ig, h⟩ := Run_CR h rfl
  have h : MR X ρ 4 0 0 qP297 N 0 [a0, a1, 0, 0] [] m (ig, rl, m') := h
  have h := CR_iconst h rfl rfl
  have h : MR X ρ 4 0 0 qP297 N 1 [a0, a1, 0, 0] [(1, 0)] m (ig, rl, m') := h
  have h := CR_istore_n h rfl (Nat.le_of_ble_eq_true rfl)
  have h : MR X ρ 4 0 0 qP297 N 2 [a0, a1, 0, 0] [] m (ig, rl, m') := h
  have h := CR_aload_n h rfl
  have h : MR X ρ 4 0 0 qP297 N 3 [a0, a1, 0, 0] [(1, a0)] m (ig, rl, m') := h
  have h := CR_alen rfl h rfl
  have h : MR X ρ 4 0 0 qP297 N 4 [a0, a1, 0, 0] [(1, if a0 = 1000050 then 30 else s32 (m a0 (-1)))] m (ig, rl, m') := h
  have h := CR_istore_n h rfl (Nat.le_of_ble_eq_true rfl)
  have h : MR X ρ 4 0 0 qP297 N 5 [a0, a1, 0, if a0 = 1000050 then 30 else s32 (m a0 (-1))] [] m (ig, rl, m') := h
  have h := l297_5 (Nat.le_refl _) h
  have h : MR X ρ 4 0 0 qP297 N 20 [a0, a1, (L297_5 m a0 a1 0 (if a0 = 1000050 then 30 else s32 (m a0 (-1)))).2.2.1, if a0 = 1000050 then 30 else s32 (m a0 (-1))] [] ((L297_5 m a0 a1 0 (if a0 = 1000050 then 30 else s32 (m a0 (-1)))).2.2.2) (ig, rl, m') := h
  have e := CR_end h rfl rfl
  cases e
  exact ⟨rfl, Eq.symm (show g297 m a0 a1 = _ from rfl)⟩
set_option maxRecDepth 16384 in
/-- TriplicateForms.can(I)I -/
noncomputable def f5 (m : MM) (a0 a1 : Int) : Int := (if (f72 m (m a0 1) a1) = 0 then -1 else f143 m (m a0 3) a1)
set_option maxRecDepth 16384 in
theorem d5 {X : KO} {ρ : Nat → Int32} {m m' : MM} {rl : List (Nat × Int)} {a0 a1 : Int} (h : Run X ρ 5 [(1, a0), (1, a1)] m rl m') : rl = [(1, f5 m a0 a1)] ∧ m' = m := by
  obtain ⟨N, ig, h⟩ := Run_CR h rfl
  have h : MR X ρ 2 0 0 qP5 N 0 [a0, a1] [] m (ig, rl, m') := h
  have h := CR_aload_n h rfl
  have h : MR X ρ 2 0 0 qP5 N 1 [a0, a1] [(1, a0)] m (ig, rl, m') := h
  have h := CR_getf h rfl (by decide)
  have h : MR X ρ 2 0 0 qP5 N 4 [a0, a1] [(1, m a0 1)] m (ig, rl, m') := h
  have h := CR_iload_n h rfl
  have h : MR X ρ 2 0 0 qP5 N 5 [a0, a1] [(1, a1), (1, m a0 1)] m (ig, rl, m') := h
  obtain ⟨r1, m2, q3, h⟩ := MR_invV h rfl rfl
  have q3 : Run X ρ 72 [(1, m a0 1), (1, a1)] m r1 m2 := q3
  obtain ⟨e4, e5⟩ := d72 q3
  rw [e4, e5] at h
  have h : MR X ρ 2 0 0 qP5 N 8 [a0, a1] [(1, f72 m (m a0 1) a1)] m (ig, rl, m') := h
  rcases MR_if h rfl rfl with ⟨c6, h⟩ | ⟨c6, h⟩
  ·
    have c6 : (f72 m (m a0 1) a1) = 0 := c6
    have h : MR X ρ 2 0 0 qP5 N 22 [a0, a1] [] m (ig, rl, m') := h
    have h := CR_iconst h rfl rfl
    have h : MR X ρ 2 0 0 qP5 N 23 [a0, a1] [(1, -1)] m (ig, rl, m') := h
    have e := CR_end h rfl rfl
    cases e
    exact ⟨congrArg (fun z => [(1, z)]) (Eq.symm (show f5 m a0 a1 = _ from (if_pos c6).trans (rfl))), rfl⟩
  ·
    have c6 : ¬ ((f72 m (m a0 1) a1) = 0) := c6
    have h : MR X ρ 2 0 0 qP5 N 11 [a0, a1] [] m (ig, rl, m') := h
    have h := CR_aload_n h rfl
    have h : MR X ρ 2 0 0 qP5 N 12 [a0, a1] [(1, a0)] m (ig, rl, m') := h
    have h := CR_getf h rfl (by decide)
    have h : MR X ρ 2 0 0 qP5 N 15 [a0, a1] [(1, m a0 3)] m (ig, rl, m') := h
    have h := CR_iload_n h rfl
    have h : MR X ρ 2 0 0 qP5 N 16 [a0, a1] [(1, a1), (1, m a0 3)] m (ig, rl, m') := h
    obtain ⟨r7, m8, q9, h⟩ := MR_invV h rfl rfl
    have q9 : Run X ρ 143 [(1, m a0 3), (1, a1)] m r7 m8 := q9
    obtain ⟨e10, e11⟩ := d143 q9
    rw [e10, e11] at h
    have h : MR X ρ 2 0 0 qP5 N 19 [a0, a1] [(1, f143 m (m a0 3) a1)] m (ig, rl, m') := h
    have h := CR_go h rfl rfl
    have h : MR X ρ 2 0 0 qP5 N 23 [a0, a1] [(1, f143 m (m a0 3) a1)] m (ig, rl, m') := h
    have e := CR_end h rfl rfl
    cases e
    exact ⟨congrArg (fun z => [(1, z)]) (Eq.symm (show f5 m a0 a1 = _ from (if_neg c6).trans (rfl))), rfl⟩
set_option maxRecDepth 16384 in
noncomputable def g15 (m : MM) (a0 a1 a2 a3 a4 a5 : Int) : MM := (if (s32 ((m (m a0 0) 1) + 20)) ≤ 940 then g147 (g147 (g147 (g147 (g147 m (m a0 0) a1) ((g147 m (m a0 0) a1) a0 0) a2) ((g147 (g147 m (m a0 0) a1) ((g147 m (m a0 0) a1) a0 0) a2) a0 0) a3) ((g147 (g147 (g147 m (m a0 0) a1) ((g147 m (m a0 0) a1) a0 0) a2) ((g147 (g147 m (m a0 0) a1) ((g147 m (m a0 0) a1) a0 0) a2) a0 0) a3) a0 0) a4) ((g147 (g147 (g147 (g147 m (m a0 0) a1) ((g147 m (m a0 0) a1) a0 0) a2) ((g147 (g147 m (m a0 0) a1) ((g147 m (m a0 0) a1) a0 0) a2) a0 0) a3) ((g147 (g147 (g147 m (m a0 0) a1) ((g147 m (m a0 0) a1) a0 0) a2) ((g147 (g147 m (m a0 0) a1) ((g147 m (m a0 0) a1) a0 0) a2) a0 0) a3) a0 0) a4) a0 0) a5 else m)
set_option maxRecDepth 16384 in
/-- TriplicateForms$Adviser.readThirds(LTriplicateForms$Standing;)I, the loop at 4 -/
noncomputable def S43_4 (m : MM) (b0 b1 b2 b3 : Int) : (Int × Int × MM) ⊕ (Nat × Int × (Int × Int × MM)) := (if (m (m b1 0) 7) ≤ b3 then .inr (1, 0, (b2, b3, m)) else (if 8 ≤ b3 then .inr (1, 0, (b2, b3, m)) else (if (f128 (mu m (m b0 0) b3 (s32 (f144 m b1 b3))) b1 b3) = (-1) then .inl (b2, s32 (b3 + 1), mu m (m b0 0) b3 (s32 (f144 m b1 b3))) else .inl (jor b2 (jshl 1 b3), s32 (b3 + 1), mu m (m b0 0) b3 (s32 (f144 m b1 b3))))))
set_option maxRecDepth 16384 in
noncomputable def K43_4 (m : MM) (b0 b1 b2 b3 : Int) : (Int × Int × MM) → (Int × Int × MM) ⊕ (Nat × Int × (Int × Int × MM)) := fun s => S43_4 s.2.2 b0 b1 s.1 s.2.1
set_option maxRecDepth 16384 in
noncomputable def L43_4 (m : MM) (b0 b1 b2 b3 : Int) : (Nat × Int × (Int × Int × MM)) := Lp (K43_4 m b0 b1 b2 b3) (b2, b3, m)
set_option maxRecDepth 16384 in
theorem l43_4 {X : KO} {ρ : Nat → Int32} {o : Instr × List (Nat × Int) × MM} {K : Nat} : ∀ {N : Nat} {m : MM} {b0 b1 b2 b3 : Int}, N ≤ K → MR X ρ 4 0 0 qP43 N 4 [b0, b1, b2, b3] [] m o → (MR X ρ 4 0 0 qP43 K 53 [b0, b1, (L43_4 m b0 b1 b2 b3).2.2.1, (L43_4 m b0 b1 b2 b3).2.2.2.1] [] ((L43_4 m b0 b1 b2 b3).2.2.2.2) o) := by
  intro N
  induction N using Nat.strongRecOn with
  | ind N ih =>
  intro m b0 b1 b2 b3 hK h
  have h := CR_iload_n h rfl
  have h : MR X ρ 4 0 0 qP43 N 5 [b0, b1, b2, b3] [(1, b3)] m o := h
  have h := CR_aload_n h rfl
  have h : MR X ρ 4 0 0 qP43 N 6 [b0, b1, b2, b3] [(1, b1), (1, b3)] m o := h
  have h := CR_getf h rfl (by decide)
  have h : MR X ρ 4 0 0 qP43 N 9 [b0, b1, b2, b3] [(1, m b1 0), (1, b3)] m o := h
  have h := CR_getf h rfl (by decide)
  have h : MR X ρ 4 0 0 qP43 N 12 [b0, b1, b2, b3] [(1, m (m b1 0) 7), (1, b3)] m o := h
  rcases MR_icmp h rfl rfl with ⟨c1, h⟩ | ⟨c1, h⟩
  ·
    have c1 : (m (m b1 0) 7) ≤ b3 := c1
    have h : MR X ρ 4 0 0 qP43 N 53 [b0, b1, b2, b3] [] m o := h
    have hr : L43_4 m b0 b1 b2 b3 = (1, 0, (b2, b3, m)) := Lp_inr (f := K43_4 m b0 b1 b2 b3) (s := (b2, b3, m)) ((if_pos c1).trans (rfl))
    rw [hr]
    exact CR_le (by omega) h
  ·
    have c1 : ¬ ((m (m b1 0) 7) ≤ b3) := c1
    have h : MR X ρ 4 0 0 qP43 N 15 [b0, b1, b2, b3] [] m o := h
    have h := CR_iload_n h rfl
    have h : MR X ρ 4 0 0 qP43 N 16 [b0, b1, b2, b3] [(1, b3)] m o := h
    have h := CR_bipush h rfl rfl
    have h : MR X ρ 4 0 0 qP43 N 18 [b0, b1, b2, b3] [(1, 8), (1, b3)] m o := h
    rcases MR_icmp h rfl rfl with ⟨c2, h⟩ | ⟨c2, h⟩
    ·
      have c2 : 8 ≤ b3 := c2
      have h : MR X ρ 4 0 0 qP43 N 53 [b0, b1, b2, b3] [] m o := h
      have hr : L43_4 m b0 b1 b2 b3 = (1, 0, (b2, b3, m)) := Lp_inr (f := K43_4 m b0 b1 b2 b3) (s := (b2, b3, m)) ((if_neg c1).trans ((if_pos c2).trans (rfl)))
      rw [hr]
      exact CR_le (by omega) h
    ·
      have c2 : ¬ (8 ≤ b3) := c2
      have h : MR X ρ 4 0 0 qP43 N 21 [b0, b1, b2, b3] [] m o := h
      have h := CR_aload_n h rfl
      have h : MR X ρ 4 0 0 qP43 N 22 [b0, b1, b2, b3] [(1, b0)] m o := h
      have h := CR_getf h rfl (by decide)
      have h : MR X ρ 4 0 0 qP43 N 25 [b0, b1, b2, b3] [(1, m b0 0)] m o := h
      have h := CR_iload_n h rfl
      have h : MR X ρ 4 0 0 qP43 N 26 [b0, b1, b2, b3] [(1, b3), (1, m b0 0)] m o := h
      have h := CR_aload_n h rfl
      have h : MR X ρ 4 0 0 qP43 N 27 [b0, b1, b2, b3] [(1, b1), (1, b3), (1, m b0 0)] m o := h
      have h := CR_iload_n h rfl
      have h : MR X ρ 4 0 0 qP43 N 28 [b0, b1, b2, b3] [(1, b3), (1, b1), (1, b3), (1, m b0 0)] m o := h
      obtain ⟨r3, m4, q5, h⟩ := MR_invV h rfl rfl
      have q5 : Run X ρ 144 [(1, b1), (1, b3)] m r3 m4 := q5
      obtain ⟨e6, e7⟩ := d144 q5
      rw [e6, e7] at h
      have h : MR X ρ 4 0 0 qP43 N 31 [b0, b1, b2, b3] [(1, f144 m b1 b3), (1, b3), (1, m b0 0)] m o := h
      have h := CR_iastore_ h rfl
      have h : MR X ρ 4 0 0 qP43 N 32 [b0, b1, b2, b3] [] (mu m (m b0 0) b3 (s32 (f144 m b1 b3))) o := h
      have h := CR_aload_n h rfl
      have h : MR X ρ 4 0 0 qP43 N 33 [b0, b1, b2, b3] [(1, b1)] (mu m (m b0 0) b3 (s32 (f144 m b1 b3))) o := h
      have h := CR_iload_n h rfl
      have h : MR X ρ 4 0 0 qP43 N 34 [b0, b1, b2, b3] [(1, b3), (1, b1)] (mu m (m b0 0) b3 (s32 (f144 m b1 b3))) o := h
      obtain ⟨r8, m9, q10, h⟩ := MR_invV h rfl rfl
      have q10 : Run X ρ 128 [(1, b1), (1, b3)] (mu m (m b0 0) b3 (s32 (f144 m b1 b3))) r8 m9 := q10
      obtain ⟨e11, e12⟩ := d128 q10
      rw [e11, e12] at h
      have h : MR X ρ 4 0 0 qP43 N 37 [b0, b1, b2, b3] [(1, f128 (mu m (m b0 0) b3 (s32 (f144 m b1 b3))) b1 b3)] (mu m (m b0 0) b3 (s32 (f144 m b1 b3))) o := h
      have h := CR_iconst h rfl rfl
      have h : MR X ρ 4 0 0 qP43 N 38 [b0, b1, b2, b3] [(1, -1), (1, f128 (mu m (m b0 0) b3 (s32 (f144 m b1 b3))) b1 b3)] (mu m (m b0 0) b3 (s32 (f144 m b1 b3))) o := h
      rcases MR_icmp h rfl rfl with ⟨c13, h⟩ | ⟨c13, h⟩
      ·
        have c13 : (f128 (mu m (m b0 0) b3 (s32 (f144 m b1 b3))) b1 b3) = (-1) := c13
        have h : MR X ρ 4 0 0 qP43 N 47 [b0, b1, b2, b3] [] (mu m (m b0 0) b3 (s32 (f144 m b1 b3))) o := h
        have h := CR_inc h rfl (Nat.le_of_ble_eq_true rfl)
        have h : MR X ρ 4 0 0 qP43 N 50 [b0, b1, b2, s32 (b3 + 1)] [] (mu m (m b0 0) b3 (s32 (f144 m b1 b3))) o := h
        obtain ⟨N14, eN14, h⟩ := CR_goto h rfl rfl
        have h : MR X ρ 4 0 0 qP43 N14 4 [b0, b1, b2, s32 (b3 + 1)] [] (mu m (m b0 0) b3 (s32 (f144 m b1 b3))) o := h
        have hr : L43_4 m b0 b1 b2 b3 = L43_4 (mu m (m b0 0) b3 (s32 (f144 m b1 b3))) b0 b1 b2 (s32 (b3 + 1)) := Lp_inl (f := K43_4 m b0 b1 b2 b3) (s := (b2, b3, m)) (s' := (b2, s32 (b3 + 1), mu m (m b0 0) b3 (s32 (f144 m b1 b3)))) ((if_neg c1).trans ((if_neg c2).trans ((if_pos c13).trans (rfl))))
        rw [hr]
        exact ih N14 (by omega) (by omega) h
      ·
        have c13 : ¬ ((f128 (mu m (m b0 0) b3 (s32 (f144 m b1 b3))) b1 b3) = (-1)) := c13
        have h : MR X ρ 4 0 0 qP43 N 41 [b0, b1, b2, b3] [] (mu m (m b0 0) b3 (s32 (f144 m b1 b3))) o := h
        have h := CR_iload_n h rfl
        have h : MR X ρ 4 0 0 qP43 N 42 [b0, b1, b2, b3] [(1, b2)] (mu m (m b0 0) b3 (s32 (f144 m b1 b3))) o := h
        have h := CR_iconst h rfl rfl
        have h : MR X ρ 4 0 0 qP43 N 43 [b0, b1, b2, b3] [(1, 1), (1, b2)] (mu m (m b0 0) b3 (s32 (f144 m b1 b3))) o := h
        have h := CR_iload_n h rfl
        have h : MR X ρ 4 0 0 qP43 N 44 [b0, b1, b2, b3] [(1, b3), (1, 1), (1, b2)] (mu m (m b0 0) b3 (s32 (f144 m b1 b3))) o := h
        have h := CR_ishl h rfl
        have h : MR X ρ 4 0 0 qP43 N 45 [b0, b1, b2, b3] [(1, jshl 1 b3), (1, b2)] (mu m (m b0 0) b3 (s32 (f144 m b1 b3))) o := h
        have h := CR_ior h rfl
        have h : MR X ρ 4 0 0 qP43 N 46 [b0, b1, b2, b3] [(1, jor b2 (jshl 1 b3))] (mu m (m b0 0) b3 (s32 (f144 m b1 b3))) o := h
        have h := CR_istore_n h rfl (Nat.le_of_ble_eq_true rfl)
        have h : MR X ρ 4 0 0 qP43 N 47 [b0, b1, jor b2 (jshl 1 b3), b3] [] (mu m (m b0 0) b3 (s32 (f144 m b1 b3))) o := h
        have h := CR_inc h rfl (Nat.le_of_ble_eq_true rfl)
        have h : MR X ρ 4 0 0 qP43 N 50 [b0, b1, jor b2 (jshl 1 b3), s32 (b3 + 1)] [] (mu m (m b0 0) b3 (s32 (f144 m b1 b3))) o := h
        obtain ⟨N15, eN15, h⟩ := CR_goto h rfl rfl
        have h : MR X ρ 4 0 0 qP43 N15 4 [b0, b1, jor b2 (jshl 1 b3), s32 (b3 + 1)] [] (mu m (m b0 0) b3 (s32 (f144 m b1 b3))) o := h
        have hr : L43_4 m b0 b1 b2 b3 = L43_4 (mu m (m b0 0) b3 (s32 (f144 m b1 b3))) b0 b1 (jor b2 (jshl 1 b3)) (s32 (b3 + 1)) := Lp_inl (f := K43_4 m b0 b1 b2 b3) (s := (b2, b3, m)) (s' := (jor b2 (jshl 1 b3), s32 (b3 + 1), mu m (m b0 0) b3 (s32 (f144 m b1 b3)))) ((if_neg c1).trans ((if_neg c2).trans ((if_neg c13).trans (rfl))))
        rw [hr]
        exact ih N15 (by omega) (by omega) h
set_option maxRecDepth 16384 in
/-- TriplicateForms$Adviser.readThirds(LTriplicateForms$Standing;)I -/
noncomputable def f43 (m : MM) (a0 a1 : Int) : Int := (L43_4 m a0 a1 0 0).2.2.1
set_option maxRecDepth 16384 in
noncomputable def g43 (m : MM) (a0 a1 : Int) : MM := (L43_4 m a0 a1 0 0).2.2.2.2
set_option maxRecDepth 16384 in
theorem d43 {X : KO} {ρ : Nat → Int32} {m m' : MM} {rl : List (Nat × Int)} {a0 a1 : Int} (h : Run X ρ 43 [(1, a0), (1, a1)] m rl m') : rl = [(1, f43 m a0 a1)] ∧ m' = g43 m a0 a1 := by
  obtain ⟨N, ig, h⟩ := Run_CR h rfl
  have h : MR X ρ 4 0 0 qP43 N 0 [a0, a1, 0, 0] [] m (ig, rl, m') := h
  have h := CR_iconst h rfl rfl
  have h : MR X ρ 4 0 0 qP43 N 1 [a0, a1, 0, 0] [(1, 0)] m (ig, rl, m') := h
  have h := CR_istore_n h rfl (Nat.le_of_ble_eq_true rfl)
  have h : MR X ρ 4 0 0 qP43 N 2 [a0, a1, 0, 0] [] m (ig, rl, m') := h
  have h := CR_iconst h rfl rfl
  have h : MR X ρ 4 0 0 qP43 N 3 [a0, a1, 0, 0] [(1, 0)] m (ig, rl, m') := h
  have h := CR_istore_n h rfl (Nat.le_of_ble_eq_true rfl)
  have h : MR X ρ 4 0 0 qP43 N 4 [a0, a1, 0, 0] [] m (ig, rl, m') := h
  have h := l43_4 (Nat.le_refl _) h
  have h : MR X ρ 4 0 0 qP43 N 53 [a0, a1, (L43_4 m a0 a1 0 0).2.2.1, (L43_4 m a0 a1 0 0).2.2.2.1] [] ((L43_4 m a0 a1 0 0).2.2.2.2) (ig, rl, m') := h
  have h := CR_iload_n h rfl
  have h : MR X ρ 4 0 0 qP43 N 54 [a0, a1, (L43_4 m a0 a1 0 0).2.2.1, (L43_4 m a0 a1 0 0).2.2.2.1] [(1, (L43_4 m a0 a1 0 0).2.2.1)] ((L43_4 m a0 a1 0 0).2.2.2.2) (ig, rl, m') := h
  have e := CR_end h rfl rfl
  cases e
  exact ⟨congrArg (fun z => [(1, z)]) (Eq.symm (show f43 m a0 a1 = _ from rfl)), Eq.symm (show g43 m a0 a1 = _ from rfl)⟩
set_option maxRecDepth 16384 in
/-- TriplicateForms$Standing.goOneDay()V, the loop at 2 -/
noncomputable def S122_2 (m : MM) (b0 b1 : Int) : (Int × MM) ⊕ (Nat × Int × (Int × MM)) := (if (m (m b0 0) 7) ≤ b1 then .inr (1, 0, (b1, m)) else (if 8 ≤ b1 then .inr (1, 0, (b1, m)) else (if (m (m b0 4) b1) = 1 then (if 0 < ((mu m (m b0 5) b1 (s32 (s32 ((m (m b0 5) b1) - 1)))) ((mu m (m b0 5) b1 (s32 (s32 ((m (m b0 5) b1) - 1)))) b0 5) b1) then .inl (s32 (b1 + 1), mu m (m b0 5) b1 (s32 (s32 ((m (m b0 5) b1) - 1)))) else .inl (s32 (b1 + 1), g123 (mu m (m b0 5) b1 (s32 (s32 ((m (m b0 5) b1) - 1)))) b0 b1)) else .inl (s32 (b1 + 1), m))))
set_option maxRecDepth 16384 in
noncomputable def K122_2 (m : MM) (b0 b1 : Int) : (Int × MM) → (Int × MM) ⊕ (Nat × Int × (Int × MM)) := fun s => S122_2 s.2 b0 s.1
set_option maxRecDepth 16384 in
noncomputable def L122_2 (m : MM) (b0 b1 : Int) : (Nat × Int × (Int × MM)) := Lp (K122_2 m b0 b1) (b1, m)
set_option maxRecDepth 16384 in
theorem l122_2 {X : KO} {ρ : Nat → Int32} {o : Instr × List (Nat × Int) × MM} {K : Nat} : ∀ {N : Nat} {m : MM} {b0 b1 : Int}, N ≤ K → MR X ρ 2 0 0 qP122 N 2 [b0, b1] [] m o → (MR X ρ 2 0 0 qP122 K 59 [b0, (L122_2 m b0 b1).2.2.1] [] ((L122_2 m b0 b1).2.2.2) o) := by
  intro N
  induction N using Nat.strongRecOn with
  | ind N ih =>
  intro m b0 b1 hK h
  have h := CR_iload_n h rfl
  have h : MR X ρ 2 0 0 qP122 N 3 [b0, b1] [(1, b1)] m o := h
  have h := CR_aload_n h rfl
  have h : MR X ρ 2 0 0 qP122 N 4 [b0, b1] [(1, b0), (1, b1)] m o := h
  have h := CR_getf h rfl (by decide)
  have h : MR X ρ 2 0 0 qP122 N 7 [b0, b1] [(1, m b0 0), (1, b1)] m o := h
  have h := CR_getf h rfl (by decide)
  have h : MR X ρ 2 0 0 qP122 N 10 [b0, b1] [(1, m (m b0 0) 7), (1, b1)] m o := h
  rcases MR_icmp h rfl rfl with ⟨c1, h⟩ | ⟨c1, h⟩
  ·
    have c1 : (m (m b0 0) 7) ≤ b1 := c1
    have h : MR X ρ 2 0 0 qP122 N 59 [b0, b1] [] m o := h
    have hr : L122_2 m b0 b1 = (1, 0, (b1, m)) := Lp_inr (f := K122_2 m b0 b1) (s := (b1, m)) ((if_pos c1).trans (rfl))
    rw [hr]
    exact CR_le (by omega) h
  ·
    have c1 : ¬ ((m (m b0 0) 7) ≤ b1) := c1
    have h : MR X ρ 2 0 0 qP122 N 13 [b0, b1] [] m o := h
    have h := CR_iload_n h rfl
    have h : MR X ρ 2 0 0 qP122 N 14 [b0, b1] [(1, b1)] m o := h
    have h := CR_bipush h rfl rfl
    have h : MR X ρ 2 0 0 qP122 N 16 [b0, b1] [(1, 8), (1, b1)] m o := h
    rcases MR_icmp h rfl rfl with ⟨c2, h⟩ | ⟨c2, h⟩
    ·
      have c2 : 8 ≤ b1 := c2
      have h : MR X ρ 2 0 0 qP122 N 59 [b0, b1] [] m o := h
      have hr : L122_2 m b0 b1 = (1, 0, (b1, m)) := Lp_inr (f := K122_2 m b0 b1) (s := (b1, m)) ((if_neg c1).trans ((if_pos c2).trans (rfl)))
      rw [hr]
      exact CR_le (by omega) h
    ·
      have c2 : ¬ (8 ≤ b1) := c2
      have h : MR X ρ 2 0 0 qP122 N 19 [b0, b1] [] m o := h
      have h := CR_aload_n h rfl
      have h : MR X ρ 2 0 0 qP122 N 20 [b0, b1] [(1, b0)] m o := h
      have h := CR_getf h rfl (by decide)
      have h : MR X ρ 2 0 0 qP122 N 23 [b0, b1] [(1, m b0 4)] m o := h
      have h := CR_iload_n h rfl
      have h : MR X ρ 2 0 0 qP122 N 24 [b0, b1] [(1, b1), (1, m b0 4)] m o := h
      have h := CR_iaload h rfl rfl
      have h : MR X ρ 2 0 0 qP122 N 25 [b0, b1] [(1, m (m b0 4) b1)] m o := h
      have h := CR_iconst h rfl rfl
      have h : MR X ρ 2 0 0 qP122 N 26 [b0, b1] [(1, 1), (1, m (m b0 4) b1)] m o := h
      rcases MR_icmp h rfl rfl with ⟨c3, h⟩ | ⟨c3, h⟩
      ·
        have c3 : ¬ ((m (m b0 4) b1) = 1) := c3
        have h : MR X ρ 2 0 0 qP122 N 53 [b0, b1] [] m o := h
        have h := CR_inc h rfl (Nat.le_of_ble_eq_true rfl)
        have h : MR X ρ 2 0 0 qP122 N 56 [b0, s32 (b1 + 1)] [] m o := h
        obtain ⟨N4, eN4, h⟩ := CR_goto h rfl rfl
        have h : MR X ρ 2 0 0 qP122 N4 2 [b0, s32 (b1 + 1)] [] m o := h
        have hr : L122_2 m b0 b1 = L122_2 m b0 (s32 (b1 + 1)) := Lp_inl (f := K122_2 m b0 b1) (s := (b1, m)) (s' := (s32 (b1 + 1), m)) ((if_neg c1).trans ((if_neg c2).trans ((if_neg c3).trans (rfl))))
        rw [hr]
        exact ih N4 (by omega) (by omega) h
      ·
        have c3 : (m (m b0 4) b1) = 1 := Decidable.of_not_not (show ¬ ¬ ((m (m b0 4) b1) = 1) from c3)
        have h : MR X ρ 2 0 0 qP122 N 29 [b0, b1] [] m o := h
        have h := CR_aload_n h rfl
        have h : MR X ρ 2 0 0 qP122 N 30 [b0, b1] [(1, b0)] m o := h
        have h := CR_getf h rfl (by decide)
        have h : MR X ρ 2 0 0 qP122 N 33 [b0, b1] [(1, m b0 5)] m o := h
        have h := CR_iload_n h rfl
        have h : MR X ρ 2 0 0 qP122 N 34 [b0, b1] [(1, b1), (1, m b0 5)] m o := h
        have h := CR_dup2 h rfl
        have h : MR X ρ 2 0 0 qP122 N 35 [b0, b1] [(1, b1), (1, m b0 5), (1, b1), (1, m b0 5)] m o := h
        have h := CR_iaload h rfl rfl
        have h : MR X ρ 2 0 0 qP122 N 36 [b0, b1] [(1, m (m b0 5) b1), (1, b1), (1, m b0 5)] m o := h
        have h := CR_iconst h rfl rfl
        have h : MR X ρ 2 0 0 qP122 N 37 [b0, b1] [(1, 1), (1, m (m b0 5) b1), (1, b1), (1, m b0 5)] m o := h
        have h := CR_isub h rfl
        have h : MR X ρ 2 0 0 qP122 N 38 [b0, b1] [(1, s32 ((m (m b0 5) b1) - 1)), (1, b1), (1, m b0 5)] m o := h
        have h := CR_iastore_ h rfl
        have h : MR X ρ 2 0 0 qP122 N 39 [b0, b1] [] (mu m (m b0 5) b1 (s32 (s32 ((m (m b0 5) b1) - 1)))) o := h
        have h := CR_aload_n h rfl
        have h : MR X ρ 2 0 0 qP122 N 40 [b0, b1] [(1, b0)] (mu m (m b0 5) b1 (s32 (s32 ((m (m b0 5) b1) - 1)))) o := h
        have h := CR_getf h rfl (by decide)
        have h : MR X ρ 2 0 0 qP122 N 43 [b0, b1] [(1, (mu m (m b0 5) b1 (s32 (s32 ((m (m b0 5) b1) - 1)))) b0 5)] (mu m (m b0 5) b1 (s32 (s32 ((m (m b0 5) b1) - 1)))) o := h
        have h := CR_iload_n h rfl
        have h : MR X ρ 2 0 0 qP122 N 44 [b0, b1] [(1, b1), (1, (mu m (m b0 5) b1 (s32 (s32 ((m (m b0 5) b1) - 1)))) b0 5)] (mu m (m b0 5) b1 (s32 (s32 ((m (m b0 5) b1) - 1)))) o := h
        have h := CR_iaload h rfl rfl
        have h : MR X ρ 2 0 0 qP122 N 45 [b0, b1] [(1, (mu m (m b0 5) b1 (s32 (s32 ((m (m b0 5) b1) - 1)))) ((mu m (m b0 5) b1 (s32 (s32 ((m (m b0 5) b1) - 1)))) b0 5) b1)] (mu m (m b0 5) b1 (s32 (s32 ((m (m b0 5) b1) - 1)))) o := h
        rcases MR_if h rfl rfl with ⟨c5, h⟩ | ⟨c5, h⟩
        ·
          have c5 : 0 < ((mu m (m b0 5) b1 (s32 (s32 ((m (m b0 5) b1) - 1)))) ((mu m (m b0 5) b1 (s32 (s32 ((m (m b0 5) b1) - 1)))) b0 5) b1) := c5
          have h : MR X ρ 2 0 0 qP122 N 53 [b0, b1] [] (mu m (m b0 5) b1 (s32 (s32 ((m (m b0 5) b1) - 1)))) o := h
          have h := CR_inc h rfl (Nat.le_of_ble_eq_true rfl)
          have h : MR X ρ 2 0 0 qP122 N 56 [b0, s32 (b1 + 1)] [] (mu m (m b0 5) b1 (s32 (s32 ((m (m b0 5) b1) - 1)))) o := h
          obtain ⟨N6, eN6, h⟩ := CR_goto h rfl rfl
          have h : MR X ρ 2 0 0 qP122 N6 2 [b0, s32 (b1 + 1)] [] (mu m (m b0 5) b1 (s32 (s32 ((m (m b0 5) b1) - 1)))) o := h
          have hr : L122_2 m b0 b1 = L122_2 (mu m (m b0 5) b1 (s32 (s32 ((m (m b0 5) b1) - 1)))) b0 (s32 (b1 + 1)) := Lp_inl (f := K122_2 m b0 b1) (s := (b1, m)) (s' := (s32 (b1 + 1), mu m (m b0 5) b1 (s32 (s32 ((m (m b0 5) b1) - 1))))) ((if_neg c1).trans ((if_neg c2).trans ((if_pos c3).trans ((if_pos c5).trans (rfl)))))
          rw [hr]
          exact ih N6 (by omega) (by omega) h
        ·
          have c5 : ¬ (0 < ((mu m (m b0 5) b1 (s32 (s32 ((m (m b0 5) b1) - 1)))) ((mu m (m b0 5) b1 (s32 (s32 ((m (m b0 5) b1) - 1)))) b0 5) b1)) := c5
          have h : MR X ρ 2 0 0 qP122 N 48 [b0, b1] [] (mu m (m b0 5) b1 (s32 (s32 ((m (m b0 5) b1) - 1)))) o := h
          have h := CR_aload_n h rfl
          have h : MR X ρ 2 0 0 qP122 N 49 [b0, b1] [(1, b0)] (mu m (m b0 5) b1 (s32 (s32 ((m (m b0 5) b1) - 1)))) o := h
          have h := CR_iload_n h rfl
          have h : MR X ρ 2 0 0 qP122 N 50 [b0, b1] [(1, b1), (1, b0)] (mu m (m b0 5) b1 (s32 (s32 ((m (m b0 5) b1) - 1)))) o := h
          obtain ⟨r7, m8, q9, h⟩ := MR_invV h rfl rfl
          have q9 : Run X ρ 123 [(1, b0), (1, b1)] (mu m (m b0 5) b1 (s32 (s32 ((m (m b0 5) b1) - 1)))) r7 m8 := q9
          obtain ⟨e10, e11⟩ := d123 q9
          rw [e10, e11] at h
          have h : MR X ρ 2 0 0 qP122 N 53 [b0, b1] [] (g123 (mu m (m b0 5) b1 (s32 (s32 ((m (m b0 5) b1) - 1)))) b0 b1) o := h
          have h := CR_inc h rfl (Nat.le_of_ble_eq_true rfl)
          have h : MR X ρ 2 0 0 qP122 N 56 [b0, s32 (b1 + 1)] [] (g123 (mu m (m b0 5) b1 (s32 (s32 ((m (m b0 5) b1) - 1)))) b0 b1) o := h
          obtain ⟨N12, eN12, h⟩ := CR_goto h rfl rfl
          have h : MR X ρ 2 0 0 qP122 N12 2 [b0, s32 (b1 + 1)] [] (g123 (mu m (m b0 5) b1 (s32 (s32 ((m (m b0 5) b1) - 1)))) b0 b1) o := h
          have hr : L122_2 m b0 b1 = L122_2 (g123 (mu m (m b0 5) b1 (s32 (s32 ((m (m b0 5) b1) - 1)))) b0 b1) b0 (s32 (b1 + 1)) := Lp_inl (f := K122_2 m b0 b1) (s := (b1, m)) (s' := (s32 (b1 + 1), g123 (mu m (m b0 5) b1 (s32 (s32 ((m (m b0 5) b1) - 1)))) b0 b1)) ((if_neg c1).trans ((if_neg c2).trans ((if_pos c3).trans ((if_neg c5).trans (rfl)))))
          rw [hr]
          exact ih N12 (by omega) (by omega) h
set_option maxRecDepth 16384 in
/-- TriplicateForms$Standing.goOneDay()V -/
noncomputable def g122 (m : MM) (a0 : Int) : MM := mu (g297 ((L122_2 m a0 0).2.2.2) (((L122_2 m a0 0).2.2.2) a0 2) (-1)) a0 8 (s32 (((g297 ((L122_2 m a0 0).2.2.2) (((L122_2 m a0 0).2.2.2) a0 2) (-1)) a0 8) + 1))
set_option maxRecDepth 16384 in
theorem d122 {X : KO} {ρ : Nat → Int32} {m m' : MM} {rl : List (Nat × Int)} {a0 : Int} (h : Run X ρ 122 [(1, a0)] m rl m') : rl = [] ∧ m' = g122 m a0 := by
  obtain ⟨N, ig, h⟩ := Run_CR h rfl
  have h : MR X ρ 2 0 0 qP122 N 0 [a0, 0] [] m (ig, rl, m') := h
  have h := CR_iconst h rfl rfl
  have h : MR X ρ 2 0 0 qP122 N 1 [a0, 0] [(1, 0)] m (ig, rl, m') := h
  have h := CR_istore_n h rfl (Nat.le_of_ble_eq_true rfl)
  have h : MR X ρ 2 0 0 qP122 N 2 [a0, 0] [] m (ig, rl, m') := h
  have h := l122_2 (Nat.le_refl _) h
  have h : MR X ρ 2 0 0 qP122 N 59 [a0, (L122_2 m a0 0).2.2.1] [] ((L122_2 m a0 0).2.2.2) (ig, rl, m') := h
  have h := CR_aload_n h rfl
  have h : MR X ρ 2 0 0 qP122 N 60 [a0, (L122_2 m a0 0).2.2.1] [(1, a0)] ((L122_2 m a0 0).2.2.2) (ig, rl, m') := h
  have h := CR_getf h rfl (by decide)
  have h : MR X ρ 2 0 0 qP122 N 63 [a0, (L122_2 m a0 0).2.2.1] [(1, ((L122_2 m a0 0).2.2.2) a0 2)] ((L122_2 m a0 0).2.2.2) (ig, rl, m') := h
  have h := CR_iconst h rfl rfl
  have h : MR X ρ 2 0 0 qP122 N 64 [a0, (L122_2 m a0 0).2.2.1] [(1, -1), (1, ((L122_2 m a0 0).2.2.2) a0 2)] ((L122_2 m a0 0).2.2.2) (ig, rl, m') := h
  obtain ⟨r1, m2, q3, h⟩ := MR_invS h rfl rfl
  have q3 : Run X ρ 297 [(1, ((L122_2 m a0 0).2.2.2) a0 2), (1, -1)] ((L122_2 m a0 0).2.2.2) r1 m2 := q3
  obtain ⟨e4, e5⟩ := d297 q3
  rw [e4, e5] at h
  have h : MR X ρ 2 0 0 qP122 N 67 [a0, (L122_2 m a0 0).2.2.1] [] (g297 ((L122_2 m a0 0).2.2.2) (((L122_2 m a0 0).2.2.2) a0 2) (-1)) (ig, rl, m') := h
  have h := CR_aload_n h rfl
  have h : MR X ρ 2 0 0 qP122 N 68 [a0, (L122_2 m a0 0).2.2.1] [(1, a0)] (g297 ((L122_2 m a0 0).2.2.2) (((L122_2 m a0 0).2.2.2) a0 2) (-1)) (ig, rl, m') := h
  have h := CR_dup h rfl
  have h : MR X ρ 2 0 0 qP122 N 69 [a0, (L122_2 m a0 0).2.2.1] [(1, a0), (1, a0)] (g297 ((L122_2 m a0 0).2.2.2) (((L122_2 m a0 0).2.2.2) a0 2) (-1)) (ig, rl, m') := h
  have h := CR_getf h rfl (by decide)
  have h : MR X ρ 2 0 0 qP122 N 72 [a0, (L122_2 m a0 0).2.2.1] [(1, (g297 ((L122_2 m a0 0).2.2.2) (((L122_2 m a0 0).2.2.2) a0 2) (-1)) a0 8), (1, a0)] (g297 ((L122_2 m a0 0).2.2.2) (((L122_2 m a0 0).2.2.2) a0 2) (-1)) (ig, rl, m') := h
  have h := CR_iconst h rfl rfl
  have h : MR X ρ 2 0 0 qP122 N 73 [a0, (L122_2 m a0 0).2.2.1] [(1, 1), (1, (g297 ((L122_2 m a0 0).2.2.2) (((L122_2 m a0 0).2.2.2) a0 2) (-1)) a0 8), (1, a0)] (g297 ((L122_2 m a0 0).2.2.2) (((L122_2 m a0 0).2.2.2) a0 2) (-1)) (ig, rl, m') := h
  have h := CR_iadd h rfl
  have h : MR X ρ 2 0 0 qP122 N 74 [a0, (L122_2 m a0 0).2.2.1] [(1, s32 (((g297 ((L122_2 m a0 0).2.2.2) (((L122_2 m a0 0).2.2.2) a0 2) (-1)) a0 8) + 1)), (1, a0)] (g297 ((L122_2 m a0 0).2.2.2) (((L122_2 m a0 0).2.2.2) a0 2) (-1)) (ig, rl, m') := h
  have h := CR_putf h rfl
  have h : MR X ρ 2 0 0 qP122 N 77 [a0, (L122_2 m a0 0).2.2.1] [] (mu (g297 ((L122_2 m a0 0).2.2.2) (((L122_2 m a0 0).2.2.2) a0 2) (-1)) a0 8 (s32 (((g297 ((L122_2 m a0 0).2.2.2) (((L122_2 m a0 0).2.2.2) a0 2) (-1)) a0 8) + 1))) (ig, rl, m') := h
  have e := CR_end h rfl rfl
  cases e
  exact ⟨rfl, Eq.symm (show g122 m a0 = _ from rfl)⟩
set_option maxRecDepth 16384 in
/-- TriplicateForms$Standing.perform(III)V, the loop at 131 -/
noncomputable def S135_131 (m : MM) (b0 b1 b2 b3 b4 : Int) : (Int × MM) ⊕ (Nat × Int × (Int × MM)) := (if b2 ≤ b4 then .inr (1, 0, (b4, m)) else .inl (s32 (b4 + 1), g122 m b0))
set_option maxRecDepth 16384 in
noncomputable def K135_131 (m : MM) (b0 b1 b2 b3 b4 : Int) : (Int × MM) → (Int × MM) ⊕ (Nat × Int × (Int × MM)) := fun s => S135_131 s.2 b0 b1 b2 b3 s.1
set_option maxRecDepth 16384 in
noncomputable def L135_131 (m : MM) (b0 b1 b2 b3 b4 : Int) : (Nat × Int × (Int × MM)) := Lp (K135_131 m b0 b1 b2 b3 b4) (b4, m)
set_option maxRecDepth 16384 in
theorem l135_131 {X : KO} {ρ : Nat → Int32} {o : Instr × List (Nat × Int) × MM} {K : Nat} : ∀ {N : Nat} {m : MM} {b0 b1 b2 b3 b4 : Int}, N ≤ K → MR X ρ 5 0 0 qP135 N 131 [b0, b1, b2, b3, b4] [] m o → (MR X ρ 5 0 0 qP135 K 147 [b0, b1, b2, b3, (L135_131 m b0 b1 b2 b3 b4).2.2.1] [] ((L135_131 m b0 b1 b2 b3 b4).2.2.2) o) := by
  intro N
  induction N using Nat.strongRecOn with
  | ind N ih =>
  intro m b0 b1 b2 b3 b4 hK h
  have h := CR_iload h rfl
  have h : MR X ρ 5 0 0 qP135 N 133 [b0, b1, b2, b3, b4] [(1, b4)] m o := h
  have h := CR_iload_n h rfl
  have h : MR X ρ 5 0 0 qP135 N 134 [b0, b1, b2, b3, b4] [(1, b2), (1, b4)] m o := h
  rcases MR_icmp h rfl rfl with ⟨c1, h⟩ | ⟨c1, h⟩
  ·
    have c1 : b2 ≤ b4 := c1
    have h : MR X ρ 5 0 0 qP135 N 147 [b0, b1, b2, b3, b4] [] m o := h
    have hr : L135_131 m b0 b1 b2 b3 b4 = (1, 0, (b4, m)) := Lp_inr (f := K135_131 m b0 b1 b2 b3 b4) (s := (b4, m)) ((if_pos c1).trans (rfl))
    rw [hr]
    exact CR_le (by omega) h
  ·
    have c1 : ¬ (b2 ≤ b4) := c1
    have h : MR X ρ 5 0 0 qP135 N 137 [b0, b1, b2, b3, b4] [] m o := h
    have h := CR_aload_n h rfl
    have h : MR X ρ 5 0 0 qP135 N 138 [b0, b1, b2, b3, b4] [(1, b0)] m o := h
    obtain ⟨r2, m3, q4, h⟩ := MR_invV h rfl rfl
    have q4 : Run X ρ 122 [(1, b0)] m r2 m3 := q4
    obtain ⟨e5, e6⟩ := d122 q4
    rw [e5, e6] at h
    have h : MR X ρ 5 0 0 qP135 N 141 [b0, b1, b2, b3, b4] [] (g122 m b0) o := h
    have h := CR_inc h rfl (Nat.le_of_ble_eq_true rfl)
    have h : MR X ρ 5 0 0 qP135 N 144 [b0, b1, b2, b3, s32 (b4 + 1)] [] (g122 m b0) o := h
    obtain ⟨N7, eN7, h⟩ := CR_goto h rfl rfl
    have h : MR X ρ 5 0 0 qP135 N7 131 [b0, b1, b2, b3, s32 (b4 + 1)] [] (g122 m b0) o := h
    have hr : L135_131 m b0 b1 b2 b3 b4 = L135_131 (g122 m b0) b0 b1 b2 b3 (s32 (b4 + 1)) := Lp_inl (f := K135_131 m b0 b1 b2 b3 b4) (s := (b4, m)) (s' := (s32 (b4 + 1), g122 m b0)) ((if_neg c1).trans (rfl))
    rw [hr]
    exact ih N7 (by omega) (by omega) h
set_option maxRecDepth 16384 in
/-- TriplicateForms$Standing.perform(III)V -/
noncomputable def g135 (m : MM) (a0 a1 a2 a3 : Int) : MM := (if a1 = 0 then g138 m a0 a2 a3 (f132 m a0 a2 a3) else (if a1 = 1 then g108 m a0 a2 a3 (-1) else (if a1 = 2 then g108 m a0 a2 a3 1 else (if a1 = 3 then mu m a0 7 (jor (m a0 7) (jshl 1 a2)) else (if a1 = 4 then mu m a0 7 (jand (m a0 7) (jxor (jshl 1 a2) (-1))) else (if a1 = 5 then g139 m a0 a2 3 else (if a1 = 6 then g130 m a0 a2 else (L135_131 m a0 a1 a2 a3 0).2.2.2)))))))
set_option maxRecDepth 16384 in
theorem d135 {X : KO} {ρ : Nat → Int32} {m m' : MM} {rl : List (Nat × Int)} {a0 a1 a2 a3 : Int} (h : Run X ρ 135 [(1, a0), (1, a1), (1, a2), (1, a3)] m rl m') : rl = [] ∧ m' = g135 m a0 a1 a2 a3 := by
  obtain ⟨N, ig, h⟩ := Run_CR h rfl
  have h : MR X ρ 5 0 0 qP135 N 0 [a0, a1, a2, a3, 0] [] m (ig, rl, m') := h
  have h := CR_iload_n h rfl
  have h : MR X ρ 5 0 0 qP135 N 1 [a0, a1, a2, a3, 0] [(1, a1)] m (ig, rl, m') := h
  obtain ⟨t1, s2, h⟩ := CR_tsw kRg0 h rfl
  rcases Decidable.em (a1 = 0) with c3 | c3
  ·
    have us2 : swt 1 (127) (0) (6) #[43, 58, 68, 78, 93, 110, 119] a1 = some 44 := by rw [c3]; rfl
    have s2 := us2.symm.trans s2
    cases s2
    have h : MR X ρ 5 0 0 qP135 N 44 [a0, a1, a2, a3, 0] [] m (ig, rl, m') := h
    have h := CR_aload_n h rfl
    have h : MR X ρ 5 0 0 qP135 N 45 [a0, a1, a2, a3, 0] [(1, a0)] m (ig, rl, m') := h
    have h := CR_iload_n h rfl
    have h : MR X ρ 5 0 0 qP135 N 46 [a0, a1, a2, a3, 0] [(1, a2), (1, a0)] m (ig, rl, m') := h
    have h := CR_iload_n h rfl
    have h : MR X ρ 5 0 0 qP135 N 47 [a0, a1, a2, a3, 0] [(1, a3), (1, a2), (1, a0)] m (ig, rl, m') := h
    have h := CR_aload_n h rfl
    have h : MR X ρ 5 0 0 qP135 N 48 [a0, a1, a2, a3, 0] [(1, a0), (1, a3), (1, a2), (1, a0)] m (ig, rl, m') := h
    have h := CR_iload_n h rfl
    have h : MR X ρ 5 0 0 qP135 N 49 [a0, a1, a2, a3, 0] [(1, a2), (1, a0), (1, a3), (1, a2), (1, a0)] m (ig, rl, m') := h
    have h := CR_iload_n h rfl
    have h : MR X ρ 5 0 0 qP135 N 50 [a0, a1, a2, a3, 0] [(1, a3), (1, a2), (1, a0), (1, a3), (1, a2), (1, a0)] m (ig, rl, m') := h
    obtain ⟨r4, m5, q6, h⟩ := MR_invV h rfl rfl
    have q6 : Run X ρ 132 [(1, a0), (1, a2), (1, a3)] m r4 m5 := q6
    obtain ⟨e7, e8⟩ := d132 q6
    rw [e7, e8] at h
    have h : MR X ρ 5 0 0 qP135 N 53 [a0, a1, a2, a3, 0] [(1, f132 m a0 a2 a3), (1, a3), (1, a2), (1, a0)] m (ig, rl, m') := h
    obtain ⟨r9, m10, q11, h⟩ := MR_invV h rfl rfl
    have q11 : Run X ρ 138 [(1, a0), (1, a2), (1, a3), (1, f132 m a0 a2 a3)] m r9 m10 := q11
    obtain ⟨e12, e13⟩ := d138 q11
    rw [e12, e13] at h
    have h : MR X ρ 5 0 0 qP135 N 56 [a0, a1, a2, a3, 0] [] (g138 m a0 a2 a3 (f132 m a0 a2 a3)) (ig, rl, m') := h
    have h := CR_go h rfl rfl
    have h : MR X ρ 5 0 0 qP135 N 147 [a0, a1, a2, a3, 0] [] (g138 m a0 a2 a3 (f132 m a0 a2 a3)) (ig, rl, m') := h
    have e := CR_end h rfl rfl
    cases e
    exact ⟨rfl, Eq.symm (show g135 m a0 a1 a2 a3 = _ from (if_pos c3).trans (rfl))⟩
  ·
    rcases Decidable.em (a1 = 1) with c14 | c14
    ·
      have us2 : swt 1 (127) (0) (6) #[43, 58, 68, 78, 93, 110, 119] a1 = some 59 := by rw [c14]; rfl
      have s2 := us2.symm.trans s2
      cases s2
      have h : MR X ρ 5 0 0 qP135 N 59 [a0, a1, a2, a3, 0] [] m (ig, rl, m') := h
      have h := CR_aload_n h rfl
      have h : MR X ρ 5 0 0 qP135 N 60 [a0, a1, a2, a3, 0] [(1, a0)] m (ig, rl, m') := h
      have h := CR_iload_n h rfl
      have h : MR X ρ 5 0 0 qP135 N 61 [a0, a1, a2, a3, 0] [(1, a2), (1, a0)] m (ig, rl, m') := h
      have h := CR_iload_n h rfl
      have h : MR X ρ 5 0 0 qP135 N 62 [a0, a1, a2, a3, 0] [(1, a3), (1, a2), (1, a0)] m (ig, rl, m') := h
      have h := CR_iconst h rfl rfl
      have h : MR X ρ 5 0 0 qP135 N 63 [a0, a1, a2, a3, 0] [(1, -1), (1, a3), (1, a2), (1, a0)] m (ig, rl, m') := h
      obtain ⟨r15, m16, q17, h⟩ := MR_invV h rfl rfl
      have q17 : Run X ρ 108 [(1, a0), (1, a2), (1, a3), (1, -1)] m r15 m16 := q17
      obtain ⟨e18, e19⟩ := d108 q17
      rw [e18, e19] at h
      have h : MR X ρ 5 0 0 qP135 N 66 [a0, a1, a2, a3, 0] [] (g108 m a0 a2 a3 (-1)) (ig, rl, m') := h
      have h := CR_go h rfl rfl
      have h : MR X ρ 5 0 0 qP135 N 147 [a0, a1, a2, a3, 0] [] (g108 m a0 a2 a3 (-1)) (ig, rl, m') := h
      have e := CR_end h rfl rfl
      cases e
      exact ⟨rfl, Eq.symm (show g135 m a0 a1 a2 a3 = _ from (if_neg c3).trans ((if_pos c14).trans (rfl)))⟩
    ·
      rcases Decidable.em (a1 = 2) with c20 | c20
      ·
        have us2 : swt 1 (127) (0) (6) #[43, 58, 68, 78, 93, 110, 119] a1 = some 69 := by rw [c20]; rfl
        have s2 := us2.symm.trans s2
        cases s2
        have h : MR X ρ 5 0 0 qP135 N 69 [a0, a1, a2, a3, 0] [] m (ig, rl, m') := h
        have h := CR_aload_n h rfl
        have h : MR X ρ 5 0 0 qP135 N 70 [a0, a1, a2, a3, 0] [(1, a0)] m (ig, rl, m') := h
        have h := CR_iload_n h rfl
        have h : MR X ρ 5 0 0 qP135 N 71 [a0, a1, a2, a3, 0] [(1, a2), (1, a0)] m (ig, rl, m') := h
        have h := CR_iload_n h rfl
        have h : MR X ρ 5 0 0 qP135 N 72 [a0, a1, a2, a3, 0] [(1, a3), (1, a2), (1, a0)] m (ig, rl, m') := h
        have h := CR_iconst h rfl rfl
        have h : MR X ρ 5 0 0 qP135 N 73 [a0, a1, a2, a3, 0] [(1, 1), (1, a3), (1, a2), (1, a0)] m (ig, rl, m') := h
        obtain ⟨r21, m22, q23, h⟩ := MR_invV h rfl rfl
        have q23 : Run X ρ 108 [(1, a0), (1, a2), (1, a3), (1, 1)] m r21 m22 := q23
        obtain ⟨e24, e25⟩ := d108 q23
        rw [e24, e25] at h
        have h : MR X ρ 5 0 0 qP135 N 76 [a0, a1, a2, a3, 0] [] (g108 m a0 a2 a3 1) (ig, rl, m') := h
        have h := CR_go h rfl rfl
        have h : MR X ρ 5 0 0 qP135 N 147 [a0, a1, a2, a3, 0] [] (g108 m a0 a2 a3 1) (ig, rl, m') := h
        have e := CR_end h rfl rfl
        cases e
        exact ⟨rfl, Eq.symm (show g135 m a0 a1 a2 a3 = _ from (if_neg c3).trans ((if_neg c14).trans ((if_pos c20).trans (rfl))))⟩
      ·
        rcases Decidable.em (a1 = 3) with c26 | c26
        ·
          have us2 : swt 1 (127) (0) (6) #[43, 58, 68, 78, 93, 110, 119] a1 = some 79 := by rw [c26]; rfl
          have s2 := us2.symm.trans s2
          cases s2
          have h : MR X ρ 5 0 0 qP135 N 79 [a0, a1, a2, a3, 0] [] m (ig, rl, m') := h
          have h := CR_aload_n h rfl
          have h : MR X ρ 5 0 0 qP135 N 80 [a0, a1, a2, a3, 0] [(1, a0)] m (ig, rl, m') := h
          have h := CR_dup h rfl
          have h : MR X ρ 5 0 0 qP135 N 81 [a0, a1, a2, a3, 0] [(1, a0), (1, a0)] m (ig, rl, m') := h
          have h := CR_getf h rfl (by decide)
          have h : MR X ρ 5 0 0 qP135 N 84 [a0, a1, a2, a3, 0] [(1, m a0 7), (1, a0)] m (ig, rl, m') := h
          have h := CR_iconst h rfl rfl
          have h : MR X ρ 5 0 0 qP135 N 85 [a0, a1, a2, a3, 0] [(1, 1), (1, m a0 7), (1, a0)] m (ig, rl, m') := h
          have h := CR_iload_n h rfl
          have h : MR X ρ 5 0 0 qP135 N 86 [a0, a1, a2, a3, 0] [(1, a2), (1, 1), (1, m a0 7), (1, a0)] m (ig, rl, m') := h
          have h := CR_ishl h rfl
          have h : MR X ρ 5 0 0 qP135 N 87 [a0, a1, a2, a3, 0] [(1, jshl 1 a2), (1, m a0 7), (1, a0)] m (ig, rl, m') := h
          have h := CR_ior h rfl
          have h : MR X ρ 5 0 0 qP135 N 88 [a0, a1, a2, a3, 0] [(1, jor (m a0 7) (jshl 1 a2)), (1, a0)] m (ig, rl, m') := h
          have h := CR_putf h rfl
          have h : MR X ρ 5 0 0 qP135 N 91 [a0, a1, a2, a3, 0] [] (mu m a0 7 (jor (m a0 7) (jshl 1 a2))) (ig, rl, m') := h
          have h := CR_go h rfl rfl
          have h : MR X ρ 5 0 0 qP135 N 147 [a0, a1, a2, a3, 0] [] (mu m a0 7 (jor (m a0 7) (jshl 1 a2))) (ig, rl, m') := h
          have e := CR_end h rfl rfl
          cases e
          exact ⟨rfl, Eq.symm (show g135 m a0 a1 a2 a3 = _ from (if_neg c3).trans ((if_neg c14).trans ((if_neg c20).trans ((if_pos c26).trans (rfl)))))⟩
        ·
          rcases Decidable.em (a1 = 4) with c27 | c27
          ·
            have us2 : swt 1 (127) (0) (6) #[43, 58, 68, 78, 93, 110, 119] a1 = some 94 := by rw [c27]; rfl
            have s2 := us2.symm.trans s2
            cases s2
            have h : MR X ρ 5 0 0 qP135 N 94 [a0, a1, a2, a3, 0] [] m (ig, rl, m') := h
            have h := CR_aload_n h rfl
            have h : MR X ρ 5 0 0 qP135 N 95 [a0, a1, a2, a3, 0] [(1, a0)] m (ig, rl, m') := h
            have h := CR_dup h rfl
            have h : MR X ρ 5 0 0 qP135 N 96 [a0, a1, a2, a3, 0] [(1, a0), (1, a0)] m (ig, rl, m') := h
            have h := CR_getf h rfl (by decide)
            have h : MR X ρ 5 0 0 qP135 N 99 [a0, a1, a2, a3, 0] [(1, m a0 7), (1, a0)] m (ig, rl, m') := h
            have h := CR_iconst h rfl rfl
            have h : MR X ρ 5 0 0 qP135 N 100 [a0, a1, a2, a3, 0] [(1, 1), (1, m a0 7), (1, a0)] m (ig, rl, m') := h
            have h := CR_iload_n h rfl
            have h : MR X ρ 5 0 0 qP135 N 101 [a0, a1, a2, a3, 0] [(1, a2), (1, 1), (1, m a0 7), (1, a0)] m (ig, rl, m') := h
            have h := CR_ishl h rfl
            have h : MR X ρ 5 0 0 qP135 N 102 [a0, a1, a2, a3, 0] [(1, jshl 1 a2), (1, m a0 7), (1, a0)] m (ig, rl, m') := h
            have h := CR_iconst h rfl rfl
            have h : MR X ρ 5 0 0 qP135 N 103 [a0, a1, a2, a3, 0] [(1, -1), (1, jshl 1 a2), (1, m a0 7), (1, a0)] m (ig, rl, m') := h
            have h := CR_ixor h rfl
            have h : MR X ρ 5 0 0 qP135 N 104 [a0, a1, a2, a3, 0] [(1, jxor (jshl 1 a2) (-1)), (1, m a0 7), (1, a0)] m (ig, rl, m') := h
            have h := CR_iand h rfl
            have h : MR X ρ 5 0 0 qP135 N 105 [a0, a1, a2, a3, 0] [(1, jand (m a0 7) (jxor (jshl 1 a2) (-1))), (1, a0)] m (ig, rl, m') := h
            have h := CR_putf h rfl
            have h : MR X ρ 5 0 0 qP135 N 108 [a0, a1, a2, a3, 0] [] (mu m a0 7 (jand (m a0 7) (jxor (jshl 1 a2) (-1)))) (ig, rl, m') := h
            have h := CR_go h rfl rfl
            have h : MR X ρ 5 0 0 qP135 N 147 [a0, a1, a2, a3, 0] [] (mu m a0 7 (jand (m a0 7) (jxor (jshl 1 a2) (-1)))) (ig, rl, m') := h
            have e := CR_end h rfl rfl
            cases e
            exact ⟨rfl, Eq.symm (show g135 m a0 a1 a2 a3 = _ from (if_neg c3).trans ((if_neg c14).trans ((if_neg c20).trans ((if_neg c26).trans ((if_pos c27).trans (rfl))))))⟩
          ·
            rcases Decidable.em (a1 = 5) with c28 | c28
            ·
              have us2 : swt 1 (127) (0) (6) #[43, 58, 68, 78, 93, 110, 119] a1 = some 111 := by rw [c28]; rfl
              have s2 := us2.symm.trans s2
              cases s2
              have h : MR X ρ 5 0 0 qP135 N 111 [a0, a1, a2, a3, 0] [] m (ig, rl, m') := h
              have h := CR_aload_n h rfl
              have h : MR X ρ 5 0 0 qP135 N 112 [a0, a1, a2, a3, 0] [(1, a0)] m (ig, rl, m') := h
              have h := CR_iload_n h rfl
              have h : MR X ρ 5 0 0 qP135 N 113 [a0, a1, a2, a3, 0] [(1, a2), (1, a0)] m (ig, rl, m') := h
              have h := CR_iconst h rfl rfl
              have h : MR X ρ 5 0 0 qP135 N 114 [a0, a1, a2, a3, 0] [(1, 3), (1, a2), (1, a0)] m (ig, rl, m') := h
              obtain ⟨r29, m30, q31, h⟩ := MR_invV h rfl rfl
              have q31 : Run X ρ 139 [(1, a0), (1, a2), (1, 3)] m r29 m30 := q31
              obtain ⟨e32, e33⟩ := d139 q31
              rw [e32, e33] at h
              have h : MR X ρ 5 0 0 qP135 N 117 [a0, a1, a2, a3, 0] [] (g139 m a0 a2 3) (ig, rl, m') := h
              have h := CR_go h rfl rfl
              have h : MR X ρ 5 0 0 qP135 N 147 [a0, a1, a2, a3, 0] [] (g139 m a0 a2 3) (ig, rl, m') := h
              have e := CR_end h rfl rfl
              cases e
              exact ⟨rfl, Eq.symm (show g135 m a0 a1 a2 a3 = _ from (if_neg c3).trans ((if_neg c14).trans ((if_neg c20).trans ((if_neg c26).trans ((if_neg c27).trans ((if_pos c28).trans (rfl)))))))⟩
            ·
              rcases Decidable.em (a1 = 6) with c34 | c34
              ·
                have us2 : swt 1 (127) (0) (6) #[43, 58, 68, 78, 93, 110, 119] a1 = some 120 := by rw [c34]; rfl
                have s2 := us2.symm.trans s2
                cases s2
                have h : MR X ρ 5 0 0 qP135 N 120 [a0, a1, a2, a3, 0] [] m (ig, rl, m') := h
                have h := CR_aload_n h rfl
                have h : MR X ρ 5 0 0 qP135 N 121 [a0, a1, a2, a3, 0] [(1, a0)] m (ig, rl, m') := h
                have h := CR_iload_n h rfl
                have h : MR X ρ 5 0 0 qP135 N 122 [a0, a1, a2, a3, 0] [(1, a2), (1, a0)] m (ig, rl, m') := h
                obtain ⟨r35, m36, q37, h⟩ := MR_invV h rfl rfl
                have q37 : Run X ρ 130 [(1, a0), (1, a2)] m r35 m36 := q37
                obtain ⟨e38, e39⟩ := d130 q37
                rw [e38, e39] at h
                have h : MR X ρ 5 0 0 qP135 N 125 [a0, a1, a2, a3, 0] [] (g130 m a0 a2) (ig, rl, m') := h
                have h := CR_go h rfl rfl
                have h : MR X ρ 5 0 0 qP135 N 147 [a0, a1, a2, a3, 0] [] (g130 m a0 a2) (ig, rl, m') := h
                have e := CR_end h rfl rfl
                cases e
                exact ⟨rfl, Eq.symm (show g135 m a0 a1 a2 a3 = _ from (if_neg c3).trans ((if_neg c14).trans ((if_neg c20).trans ((if_neg c26).trans ((if_neg c27).trans ((if_neg c28).trans ((if_pos c34).trans (rfl))))))))⟩
              ·
                have us2 := swt_d (pc := 1) (dflt := 127) (lw := 0) (hg := 6) (offs := #[43, 58, 68, 78, 93, 110, 119]) (t := 128) (e := a1) (by omega) rfl
                have s2 := us2.symm.trans s2
                cases s2
                have h : MR X ρ 5 0 0 qP135 N 128 [a0, a1, a2, a3, 0] [] m (ig, rl, m') := h
                have h := CR_iconst h rfl rfl
                have h : MR X ρ 5 0 0 qP135 N 129 [a0, a1, a2, a3, 0] [(1, 0)] m (ig, rl, m') := h
                have h := CR_istore h rfl (Nat.le_of_ble_eq_true rfl)
                have h : MR X ρ 5 0 0 qP135 N 131 [a0, a1, a2, a3, 0] [] m (ig, rl, m') := h
                have h := l135_131 (Nat.le_refl _) h
                have h : MR X ρ 5 0 0 qP135 N 147 [a0, a1, a2, a3, (L135_131 m a0 a1 a2 a3 0).2.2.1] [] ((L135_131 m a0 a1 a2 a3 0).2.2.2) (ig, rl, m') := h
                have e := CR_end h rfl rfl
                cases e
                exact ⟨rfl, Eq.symm (show g135 m a0 a1 a2 a3 = _ from (if_neg c3).trans ((if_neg c14).trans ((if_neg c20).trans ((if_neg c26).trans ((if_neg c27).trans ((if_neg c28).trans ((if_neg c34).trans (rfl))))))))⟩
set_option maxRecDepth 16384 in
/-- TriplicateForms$Standing.performIfPossible(III)V -/
noncomputable def g136 (m : MM) (a0 a1 a2 a3 : Int) : MM := (if (f146 m a0 a1 a2 a3) = 0 then g135 m a0 a1 a2 a3 else m)
set_option maxRecDepth 16384 in
theorem d136 {X : KO} {ρ : Nat → Int32} {m m' : MM} {rl : List (Nat × Int)} {a0 a1 a2 a3 : Int} (h : Run X ρ 136 [(1, a0), (1, a1), (1, a2), (1, a3)] m rl m') : rl = [] ∧ m' = g136 m a0 a1 a2 a3 := by
  obtain ⟨N, ig, h⟩ := Run_CR h rfl
  have h : MR X ρ 4 0 0 qP136 N 0 [a0, a1, a2, a3] [] m (ig, rl, m') := h
  have h := CR_aload_n h rfl
  have h : MR X ρ 4 0 0 qP136 N 1 [a0, a1, a2, a3] [(1, a0)] m (ig, rl, m') := h
  have h := CR_iload_n h rfl
  have h : MR X ρ 4 0 0 qP136 N 2 [a0, a1, a2, a3] [(1, a1), (1, a0)] m (ig, rl, m') := h
  have h := CR_iload_n h rfl
  have h : MR X ρ 4 0 0 qP136 N 3 [a0, a1, a2, a3] [(1, a2), (1, a1), (1, a0)] m (ig, rl, m') := h
  have h := CR_iload_n h rfl
  have h : MR X ρ 4 0 0 qP136 N 4 [a0, a1, a2, a3] [(1, a3), (1, a2), (1, a1), (1, a0)] m (ig, rl, m') := h
  obtain ⟨r1, m2, q3, h⟩ := MR_invV h rfl rfl
  have q3 : Run X ρ 146 [(1, a0), (1, a1), (1, a2), (1, a3)] m r1 m2 := q3
  obtain ⟨e4, e5⟩ := d146 q3
  rw [e4, e5] at h
  have h : MR X ρ 4 0 0 qP136 N 7 [a0, a1, a2, a3] [(1, f146 m a0 a1 a2 a3)] m (ig, rl, m') := h
  rcases MR_if h rfl rfl with ⟨c6, h⟩ | ⟨c6, h⟩
  ·
    have c6 : ¬ ((f146 m a0 a1 a2 a3) = 0) := c6
    have h : MR X ρ 4 0 0 qP136 N 17 [a0, a1, a2, a3] [] m (ig, rl, m') := h
    have e := CR_end h rfl rfl
    cases e
    exact ⟨rfl, Eq.symm (show g136 m a0 a1 a2 a3 = _ from (if_neg c6).trans (rfl))⟩
  ·
    have c6 : (f146 m a0 a1 a2 a3) = 0 := Decidable.of_not_not (show ¬ ¬ ((f146 m a0 a1 a2 a3) = 0) from c6)
    have h : MR X ρ 4 0 0 qP136 N 10 [a0, a1, a2, a3] [] m (ig, rl, m') := h
    have h := CR_aload_n h rfl
    have h : MR X ρ 4 0 0 qP136 N 11 [a0, a1, a2, a3] [(1, a0)] m (ig, rl, m') := h
    have h := CR_iload_n h rfl
    have h : MR X ρ 4 0 0 qP136 N 12 [a0, a1, a2, a3] [(1, a1), (1, a0)] m (ig, rl, m') := h
    have h := CR_iload_n h rfl
    have h : MR X ρ 4 0 0 qP136 N 13 [a0, a1, a2, a3] [(1, a2), (1, a1), (1, a0)] m (ig, rl, m') := h
    have h := CR_iload_n h rfl
    have h : MR X ρ 4 0 0 qP136 N 14 [a0, a1, a2, a3] [(1, a3), (1, a2), (1, a1), (1, a0)] m (ig, rl, m') := h
    obtain ⟨r7, m8, q9, h⟩ := MR_invV h rfl rfl
    have q9 : Run X ρ 135 [(1, a0), (1, a1), (1, a2), (1, a3)] m r7 m8 := q9
    obtain ⟨e10, e11⟩ := d135 q9
    rw [e10, e11] at h
    have h : MR X ρ 4 0 0 qP136 N 17 [a0, a1, a2, a3] [] (g135 m a0 a1 a2 a3) (ig, rl, m') := h
    have e := CR_end h rfl rfl
    cases e
    exact ⟨rfl, Eq.symm (show g136 m a0 a1 a2 a3 = _ from (if_pos c6).trans (rfl))⟩
