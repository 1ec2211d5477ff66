section
set_option maxRecDepth 16384 in
/-- TriplicateFormsModel.goBy(I)I -/
noncomputable def f196 (m : MM) (a0 a1 : Int) : Int := (if (m (m a0 36) a1) = 7 then (if (s32 ((m (m a0 14) 92) + (m (m a0 36) (s32 (a1 + 1))))) ≤ 400 then 0 else 71) else (if (f290 m a0 (m (m a0 36) a1) (m (m a0 36) (s32 (a1 + 1))) (m (m a0 36) (s32 (a1 + 2)))) = 0 then 0 else s32 ((s32 (10 * (m (m a0 36) a1))) + (f290 m a0 (m (m a0 36) a1) (m (m a0 36) (s32 (a1 + 1))) (m (m a0 36) (s32 (a1 + 2)))))))
set_option maxRecDepth 16384 in
noncomputable def g196 (m : MM) (a0 a1 : Int) : MM := (if (m (m a0 36) a1) = 7 then (if (s32 ((m (m a0 14) 92) + (m (m a0 36) (s32 (a1 + 1))))) ≤ 400 then g237 m a0 (m (m a0 36) (s32 (a1 + 1))) else m) else (if (f290 m a0 (m (m a0 36) a1) (m (m a0 36) (s32 (a1 + 1))) (m (m a0 36) (s32 (a1 + 2)))) = 0 then g222 m a0 (m (m a0 36) a1) (m (m a0 36) (s32 (a1 + 1))) (m (m a0 36) (s32 (a1 + 2))) else m))
set_option maxRecDepth 16384 in
theorem d196 {X : KO} {ρ : Nat → Int32} {m m' : MM} {rl : List (Nat × Int)} {a0 a1 : Int} (h : Run X ρ 196 [(1, a0), (1, a1)] m rl m') : rl = [(1, f196 m a0 a1)] ∧ m' = g196 m a0 a1 := by
  obtain ⟨N, ig, h⟩ := Run_CR h rfl
  have h : MR X ρ 4 0 0 qP196 N 0 [a0, a1, 0, 0] [] m (ig, rl, m') := h
  have h := CR_aload_n h rfl
  have h : MR X ρ 4 0 0 qP196 N 1 [a0, a1, 0, 0] [(1, a0)] m (ig, rl, m') := h
  have h := CR_getf h rfl (by decide)
  have h : MR X ρ 4 0 0 qP196 N 4 [a0, a1, 0, 0] [(1, m a0 36)] m (ig, rl, m') := h
  have h := CR_iload_n h rfl
  have h : MR X ρ 4 0 0 qP196 N 5 [a0, a1, 0, 0] [(1, a1), (1, m a0 36)] m (ig, rl, m') := h
  have h := CR_iconst h rfl rfl
  have h : MR X ρ 4 0 0 qP196 N 6 [a0, a1, 0, 0] [(1, 1), (1, a1), (1, m a0 36)] m (ig, rl, m') := h
  have h := CR_iadd h rfl
  have h : MR X ρ 4 0 0 qP196 N 7 [a0, a1, 0, 0] [(1, s32 (a1 + 1)), (1, m a0 36)] m (ig, rl, m') := h
  have h := CR_iaload h rfl rfl
  have h : MR X ρ 4 0 0 qP196 N 8 [a0, a1, 0, 0] [(1, m (m a0 36) (s32 (a1 + 1)))] m (ig, rl, m') := h
  have h := CR_istore_n h rfl (Nat.le_of_ble_eq_true rfl)
  have h : MR X ρ 4 0 0 qP196 N 9 [a0, a1, m (m a0 36) (s32 (a1 + 1)), 0] [] m (ig, rl, m') := h
  have h := CR_aload_n h rfl
  have h : MR X ρ 4 0 0 qP196 N 10 [a0, a1, m (m a0 36) (s32 (a1 + 1)), 0] [(1, a0)] m (ig, rl, m') := h
  have h := CR_getf h rfl (by decide)
  have h : MR X ρ 4 0 0 qP196 N 13 [a0, a1, m (m a0 36) (s32 (a1 + 1)), 0] [(1, m a0 36)] m (ig, rl, m') := h
  have h := CR_iload_n h rfl
  have h : MR X ρ 4 0 0 qP196 N 14 [a0, a1, m (m a0 36) (s32 (a1 + 1)), 0] [(1, a1), (1, m a0 36)] m (ig, rl, m') := h
  have h := CR_iaload h rfl rfl
  have h : MR X ρ 4 0 0 qP196 N 15 [a0, a1, m (m a0 36) (s32 (a1 + 1)), 0] [(1, m (m a0 36) a1)] m (ig, rl, m') := h
  have h := CR_bipush h rfl rfl
  have h : MR X ρ 4 0 0 qP196 N 17 [a0, a1, m (m a0 36) (s32 (a1 + 1)), 0] [(1, 7), (1, m (m a0 36) a1)] m (ig, rl, m') := h
  rcases MR_icmp h rfl rfl with ⟨c1, h⟩ | ⟨c1, h⟩
  ·
    have c1 : ¬ ((m (m a0 36) a1) = 7) := c1
    have h : MR X ρ 4 0 0 qP196 N 46 [a0, a1, m (m a0 36) (s32 (a1 + 1)), 0] [] m (ig, rl, m') := h
    have h := CR_aload_n h rfl
    have h : MR X ρ 4 0 0 qP196 N 47 [a0, a1, m (m a0 36) (s32 (a1 + 1)), 0] [(1, a0)] m (ig, rl, m') := h
    have h := CR_aload_n h rfl
    have h : MR X ρ 4 0 0 qP196 N 48 [a0, a1, m (m a0 36) (s32 (a1 + 1)), 0] [(1, a0), (1, a0)] m (ig, rl, m') := h
    have h := CR_getf h rfl (by decide)
    have h : MR X ρ 4 0 0 qP196 N 51 [a0, a1, m (m a0 36) (s32 (a1 + 1)), 0] [(1, m a0 36), (1, a0)] m (ig, rl, m') := h
    have h := CR_iload_n h rfl
    have h : MR X ρ 4 0 0 qP196 N 52 [a0, a1, m (m a0 36) (s32 (a1 + 1)), 0] [(1, a1), (1, m a0 36), (1, a0)] m (ig, rl, m') := h
    have h := CR_iaload h rfl rfl
    have h : MR X ρ 4 0 0 qP196 N 53 [a0, a1, m (m a0 36) (s32 (a1 + 1)), 0] [(1, m (m a0 36) a1), (1, a0)] m (ig, rl, m') := h
    have h := CR_iload_n h rfl
    have h : MR X ρ 4 0 0 qP196 N 54 [a0, a1, m (m a0 36) (s32 (a1 + 1)), 0] [(1, m (m a0 36) (s32 (a1 + 1))), (1, m (m a0 36) a1), (1, a0)] m (ig, rl, m') := h
    have h := CR_aload_n h rfl
    have h : MR X ρ 4 0 0 qP196 N 55 [a0, a1, m (m a0 36) (s32 (a1 + 1)), 0] [(1, a0), (1, m (m a0 36) (s32 (a1 + 1))), (1, m (m a0 36) a1), (1, a0)] m (ig, rl, m') := h
    have h := CR_getf h rfl (by decide)
    have h : MR X ρ 4 0 0 qP196 N 58 [a0, a1, m (m a0 36) (s32 (a1 + 1)), 0] [(1, m a0 36), (1, m (m a0 36) (s32 (a1 + 1))), (1, m (m a0 36) a1), (1, a0)] m (ig, rl, m') := h
    have h := CR_iload_n h rfl
    have h : MR X ρ 4 0 0 qP196 N 59 [a0, a1, m (m a0 36) (s32 (a1 + 1)), 0] [(1, a1), (1, m a0 36), (1, m (m a0 36) (s32 (a1 + 1))), (1, m (m a0 36) a1), (1, a0)] m (ig, rl, m') := h
    have h := CR_iconst h rfl rfl
    have h : MR X ρ 4 0 0 qP196 N 60 [a0, a1, m (m a0 36) (s32 (a1 + 1)), 0] [(1, 2), (1, a1), (1, m a0 36), (1, m (m a0 36) (s32 (a1 + 1))), (1, m (m a0 36) a1), (1, a0)] m (ig, rl, m') := h
    have h := CR_iadd h rfl
    have h : MR X ρ 4 0 0 qP196 N 61 [a0, a1, m (m a0 36) (s32 (a1 + 1)), 0] [(1, s32 (a1 + 2)), (1, m a0 36), (1, m (m a0 36) (s32 (a1 + 1))), (1, m (m a0 36) a1), (1, a0)] m (ig, rl, m') := h
    have h := CR_iaload h rfl rfl
    have h : MR X ρ 4 0 0 qP196 N 62 [a0, a1, m (m a0 36) (s32 (a1 + 1)), 0] [(1, m (m a0 36) (s32 (a1 + 2))), (1, m (m a0 36) (s32 (a1 + 1))), (1, m (m a0 36) a1), (1, a0)] m (ig, rl, m') := h
    obtain ⟨r2, m3, q4, h⟩ := MR_invV h rfl rfl
    have q4 : Run X ρ 290 [(1, a0), (1, m (m a0 36) a1), (1, m (m a0 36) (s32 (a1 + 1))), (1, m (m a0 36) (s32 (a1 + 2)))] m r2 m3 := q4
    obtain ⟨e5, e6⟩ := d290 q4
    rw [e5, e6] at h
    have h : MR X ρ 4 0 0 qP196 N 65 [a0, a1, m (m a0 36) (s32 (a1 + 1)), 0] [(1, f290 m a0 (m (m a0 36) a1) (m (m a0 36) (s32 (a1 + 1))) (m (m a0 36) (s32 (a1 + 2))))] m (ig, rl, m') := h
    have h := CR_istore_n h rfl (Nat.le_of_ble_eq_true rfl)
    have h : MR X ρ 4 0 0 qP196 N 66 [a0, a1, m (m a0 36) (s32 (a1 + 1)), f290 m a0 (m (m a0 36) a1) (m (m a0 36) (s32 (a1 + 1))) (m (m a0 36) (s32 (a1 + 2)))] [] m (ig, rl, m') := h
    have h := CR_iload_n h rfl
    have h : MR X ρ 4 0 0 qP196 N 67 [a0, a1, m (m a0 36) (s32 (a1 + 1)), f290 m a0 (m (m a0 36) a1) (m (m a0 36) (s32 (a1 + 1))) (m (m a0 36) (s32 (a1 + 2)))] [(1, f290 m a0 (m (m a0 36) a1) (m (m a0 36) (s32 (a1 + 1))) (m (m a0 36) (s32 (a1 + 2))))] m (ig, rl, m') := h
    rcases MR_if h rfl rfl with ⟨c7, h⟩ | ⟨c7, h⟩
    ·
      have c7 : (f290 m a0 (m (m a0 36) a1) (m (m a0 36) (s32 (a1 + 1))) (m (m a0 36) (s32 (a1 + 2)))) = 0 := c7
      have h : MR X ρ 4 0 0 qP196 N 82 [a0, a1, m (m a0 36) (s32 (a1 + 1)), f290 m a0 (m (m a0 36) a1) (m (m a0 36) (s32 (a1 + 1))) (m (m a0 36) (s32 (a1 + 2)))] [] m (ig, rl, m') := h
      have h := CR_aload_n h rfl
      have h : MR X ρ 4 0 0 qP196 N 83 [a0, a1, m (m a0 36) (s32 (a1 + 1)), f290 m a0 (m (m a0 36) a1) (m (m a0 36) (s32 (a1 + 1))) (m (m a0 36) (s32 (a1 + 2)))] [(1, a0)] m (ig, rl, m') := h
      have h := CR_aload_n h rfl
      have h : MR X ρ 4 0 0 qP196 N 84 [a0, a1, m (m a0 36) (s32 (a1 + 1)), f290 m a0 (m (m a0 36) a1) (m (m a0 36) (s32 (a1 + 1))) (m (m a0 36) (s32 (a1 + 2)))] [(1, a0), (1, a0)] m (ig, rl, m') := h
      have h := CR_getf h rfl (by decide)
      have h : MR X ρ 4 0 0 qP196 N 87 [a0, a1, m (m a0 36) (s32 (a1 + 1)), f290 m a0 (m (m a0 36) a1) (m (m a0 36) (s32 (a1 + 1))) (m (m a0 36) (s32 (a1 + 2)))] [(1, m a0 36), (1, a0)] m (ig, rl, m') := h
      have h := CR_iload_n h rfl
      have h : MR X ρ 4 0 0 qP196 N 88 [a0, a1, m (m a0 36) (s32 (a1 + 1)), f290 m a0 (m (m a0 36) a1) (m (m a0 36) (s32 (a1 + 1))) (m (m a0 36) (s32 (a1 + 2)))] [(1, a1), (1, m a0 36), (1, a0)] m (ig, rl, m') := h
      have h := CR_iaload h rfl rfl
      have h : MR X ρ 4 0 0 qP196 N 89 [a0, a1, m (m a0 36) (s32 (a1 + 1)), f290 m a0 (m (m a0 36) a1) (m (m a0 36) (s32 (a1 + 1))) (m (m a0 36) (s32 (a1 + 2)))] [(1, m (m a0 36) a1), (1, a0)] m (ig, rl, m') := h
      have h := CR_iload_n h rfl
      have h : MR X ρ 4 0 0 qP196 N 90 [a0, a1, m (m a0 36) (s32 (a1 + 1)), f290 m a0 (m (m a0 36) a1) (m (m a0 36) (s32 (a1 + 1))) (m (m a0 36) (s32 (a1 + 2)))] [(1, m (m a0 36) (s32 (a1 + 1))), (1, m (m a0 36) a1), (1, a0)] m (ig, rl, m') := h
      have h := CR_aload_n h rfl
      have h : MR X ρ 4 0 0 qP196 N 91 [a0, a1, m (m a0 36) (s32 (a1 + 1)), f290 m a0 (m (m a0 36) a1) (m (m a0 36) (s32 (a1 + 1))) (m (m a0 36) (s32 (a1 + 2)))] [(1, a0), (1, m (m a0 36) (s32 (a1 + 1))), (1, m (m a0 36) a1), (1, a0)] m (ig, rl, m') := h
      have h := CR_getf h rfl (by decide)
      have h : MR X ρ 4 0 0 qP196 N 94 [a0, a1, m (m a0 36) (s32 (a1 + 1)), f290 m a0 (m (m a0 36) a1) (m (m a0 36) (s32 (a1 + 1))) (m (m a0 36) (s32 (a1 + 2)))] [(1, m a0 36), (1, m (m a0 36) (s32 (a1 + 1))), (1, m (m a0 36) a1), (1, a0)] m (ig, rl, m') := h
      have h := CR_iload_n h rfl
      have h : MR X ρ 4 0 0 qP196 N 95 [a0, a1, m (m a0 36) (s32 (a1 + 1)), f290 m a0 (m (m a0 36) a1) (m (m a0 36) (s32 (a1 + 1))) (m (m a0 36) (s32 (a1 + 2)))] [(1, a1), (1, m a0 36), (1, m (m a0 36) (s32 (a1 + 1))), (1, m (m a0 36) a1), (1, a0)] m (ig, rl, m') := h
      have h := CR_iconst h rfl rfl
      have h : MR X ρ 4 0 0 qP196 N 96 [a0, a1, m (m a0 36) (s32 (a1 + 1)), f290 m a0 (m (m a0 36) a1) (m (m a0 36) (s32 (a1 + 1))) (m (m a0 36) (s32 (a1 + 2)))] [(1, 2), (1, a1), (1, m a0 36), (1, m (m a0 36) (s32 (a1 + 1))), (1, m (m a0 36) a1), (1, a0)] m (ig, rl, m') := h
      have h := CR_iadd h rfl
      have h : MR X ρ 4 0 0 qP196 N 97 [a0, a1, m (m a0 36) (s32 (a1 + 1)), f290 m a0 (m (m a0 36) a1) (m (m a0 36) (s32 (a1 + 1))) (m (m a0 36) (s32 (a1 + 2)))] [(1, s32 (a1 + 2)), (1, m a0 36), (1, m (m a0 36) (s32 (a1 + 1))), (1, m (m a0 36) a1), (1, a0)] m (ig, rl, m') := h
      have h := CR_iaload h rfl rfl
      have h : MR X ρ 4 0 0 qP196 N 98 [a0, a1, m (m a0 36) (s32 (a1 + 1)), f290 m a0 (m (m a0 36) a1) (m (m a0 36) (s32 (a1 + 1))) (m (m a0 36) (s32 (a1 + 2)))] [(1, m (m a0 36) (s32 (a1 + 2))), (1, m (m a0 36) (s32 (a1 + 1))), (1, m (m a0 36) a1), (1, a0)] m (ig, rl, m') := h
      obtain ⟨r8, m9, q10, h⟩ := MR_invV h rfl rfl
      have q10 : Run X ρ 222 [(1, a0), (1, m (m a0 36) a1), (1, m (m a0 36) (s32 (a1 + 1))), (1, m (m a0 36) (s32 (a1 + 2)))] m r8 m9 := q10
      obtain ⟨e11, e12⟩ := d222 q10
      rw [e11, e12] at h
      have h : MR X ρ 4 0 0 qP196 N 101 [a0, a1, m (m a0 36) (s32 (a1 + 1)), f290 m a0 (m (m a0 36) a1) (m (m a0 36) (s32 (a1 + 1))) (m (m a0 36) (s32 (a1 + 2)))] [] (g222 m a0 (m (m a0 36) a1) (m (m a0 36) (s32 (a1 + 1))) (m (m a0 36) (s32 (a1 + 2)))) (ig, rl, m') := h
      have h := CR_iconst h rfl rfl
      have h : MR X ρ 4 0 0 qP196 N 102 [a0, a1, m (m a0 36) (s32 (a1 + 1)), f290 m a0 (m (m a0 36) a1) (m (m a0 36) (s32 (a1 + 1))) (m (m a0 36) (s32 (a1 + 2)))] [(1, 0)] (g222 m a0 (m (m a0 36) a1) (m (m a0 36) (s32 (a1 + 1))) (m (m a0 36) (s32 (a1 + 2)))) (ig, rl, m') := h
      have e := CR_end h rfl rfl
      cases e
      exact ⟨congrArg (fun z => [(1, z)]) (Eq.symm (show f196 m a0 a1 = _ from (if_neg c1).trans ((if_pos c7).trans (rfl)))), Eq.symm (show g196 m a0 a1 = _ from (if_neg c1).trans ((if_pos c7).trans (rfl)))⟩
    ·
      have c7 : ¬ ((f290 m a0 (m (m a0 36) a1) (m (m a0 36) (s32 (a1 + 1))) (m (m a0 36) (s32 (a1 + 2)))) = 0) := c7
      have h : MR X ρ 4 0 0 qP196 N 70 [a0, a1, m (m a0 36) (s32 (a1 + 1)), f290 m a0 (m (m a0 36) a1) (m (m a0 36) (s32 (a1 + 1))) (m (m a0 36) (s32 (a1 + 2)))] [] m (ig, rl, m') := h
      have h := CR_bipush h rfl rfl
      have h : MR X ρ 4 0 0 qP196 N 72 [a0, a1, m (m a0 36) (s32 (a1 + 1)), f290 m a0 (m (m a0 36) a1) (m (m a0 36) (s32 (a1 + 1))) (m (m a0 36) (s32 (a1 + 2)))] [(1, 10)] m (ig, rl, m') := h
      have h := CR_aload_n h rfl
      have h : MR X ρ 4 0 0 qP196 N 73 [a0, a1, m (m a0 36) (s32 (a1 + 1)), f290 m a0 (m (m a0 36) a1) (m (m a0 36) (s32 (a1 + 1))) (m (m a0 36) (s32 (a1 + 2)))] [(1, a0), (1, 10)] m (ig, rl, m') := h
      have h := CR_getf h rfl (by decide)
      have h : MR X ρ 4 0 0 qP196 N 76 [a0, a1, m (m a0 36) (s32 (a1 + 1)), f290 m a0 (m (m a0 36) a1) (m (m a0 36) (s32 (a1 + 1))) (m (m a0 36) (s32 (a1 + 2)))] [(1, m a0 36), (1, 10)] m (ig, rl, m') := h
      have h := CR_iload_n h rfl
      have h : MR X ρ 4 0 0 qP196 N 77 [a0, a1, m (m a0 36) (s32 (a1 + 1)), f290 m a0 (m (m a0 36) a1) (m (m a0 36) (s32 (a1 + 1))) (m (m a0 36) (s32 (a1 + 2)))] [(1, a1), (1, m a0 36), (1, 10)] m (ig, rl, m') := h
      have h := CR_iaload h rfl rfl
      have h : MR X ρ 4 0 0 qP196 N 78 [a0, a1, m (m a0 36) (s32 (a1 + 1)), f290 m a0 (m (m a0 36) a1) (m (m a0 36) (s32 (a1 + 1))) (m (m a0 36) (s32 (a1 + 2)))] [(1, m (m a0 36) a1), (1, 10)] m (ig, rl, m') := h
      have h := CR_imul h rfl
      have h : MR X ρ 4 0 0 qP196 N 79 [a0, a1, m (m a0 36) (s32 (a1 + 1)), f290 m a0 (m (m a0 36) a1) (m (m a0 36) (s32 (a1 + 1))) (m (m a0 36) (s32 (a1 + 2)))] [(1, s32 (10 * (m (m a0 36) a1)))] m (ig, rl, m') := h
      have h := CR_iload_n h rfl
      have h : MR X ρ 4 0 0 qP196 N 80 [a0, a1, m (m a0 36) (s32 (a1 + 1)), f290 m a0 (m (m a0 36) a1) (m (m a0 36) (s32 (a1 + 1))) (m (m a0 36) (s32 (a1 + 2)))] [(1, f290 m a0 (m (m a0 36) a1) (m (m a0 36) (s32 (a1 + 1))) (m (m a0 36) (s32 (a1 + 2)))), (1, s32 (10 * (m (m a0 36) a1)))] m (ig, rl, m') := h
      have h := CR_iadd h rfl
      have h : MR X ρ 4 0 0 qP196 N 81 [a0, a1, m (m a0 36) (s32 (a1 + 1)), f290 m a0 (m (m a0 36) a1) (m (m a0 36) (s32 (a1 + 1))) (m (m a0 36) (s32 (a1 + 2)))] [(1, s32 ((s32 (10 * (m (m a0 36) a1))) + (f290 m a0 (m (m a0 36) a1) (m (m a0 36) (s32 (a1 + 1))) (m (m a0 36) (s32 (a1 + 2))))))] m (ig, rl, m') := h
      have e := CR_end h rfl rfl
      cases e
      exact ⟨congrArg (fun z => [(1, z)]) (Eq.symm (show f196 m a0 a1 = _ from (if_neg c1).trans ((if_neg c7).trans (rfl)))), Eq.symm (show g196 m a0 a1 = _ from (if_neg c1).trans ((if_neg c7).trans (rfl)))⟩
  ·
    have c1 : (m (m a0 36) a1) = 7 := Decidable.of_not_not (show ¬ ¬ ((m (m a0 36) a1) = 7) from c1)
    have h : MR X ρ 4 0 0 qP196 N 20 [a0, a1, m (m a0 36) (s32 (a1 + 1)), 0] [] m (ig, rl, m') := h
    have h := CR_aload_n h rfl
    have h : MR X ρ 4 0 0 qP196 N 21 [a0, a1, m (m a0 36) (s32 (a1 + 1)), 0] [(1, a0)] m (ig, rl, m') := h
    have h := CR_getf h rfl (by decide)
    have h : MR X ρ 4 0 0 qP196 N 24 [a0, a1, m (m a0 36) (s32 (a1 + 1)), 0] [(1, m a0 14)] m (ig, rl, m') := h
    have h := CR_bipush h rfl rfl
    have h : MR X ρ 4 0 0 qP196 N 26 [a0, a1, m (m a0 36) (s32 (a1 + 1)), 0] [(1, 92), (1, m a0 14)] m (ig, rl, m') := h
    have h := CR_iaload h rfl rfl
    have h : MR X ρ 4 0 0 qP196 N 27 [a0, a1, m (m a0 36) (s32 (a1 + 1)), 0] [(1, m (m a0 14) 92)] m (ig, rl, m') := h
    have h := CR_iload_n h rfl
    have h : MR X ρ 4 0 0 qP196 N 28 [a0, a1, m (m a0 36) (s32 (a1 + 1)), 0] [(1, m (m a0 36) (s32 (a1 + 1))), (1, m (m a0 14) 92)] m (ig, rl, m') := h
    have h := CR_iadd h rfl
    have h : MR X ρ 4 0 0 qP196 N 29 [a0, a1, m (m a0 36) (s32 (a1 + 1)), 0] [(1, s32 ((m (m a0 14) 92) + (m (m a0 36) (s32 (a1 + 1)))))] m (ig, rl, m') := h
    have h := CR_sipush h rfl rfl
    have h : MR X ρ 4 0 0 qP196 N 32 [a0, a1, m (m a0 36) (s32 (a1 + 1)), 0] [(1, 400), (1, s32 ((m (m a0 14) 92) + (m (m a0 36) (s32 (a1 + 1)))))] m (ig, rl, m') := h
    rcases MR_icmp h rfl rfl with ⟨c13, h⟩ | ⟨c13, h⟩
    ·
      have c13 : (s32 ((m (m a0 14) 92) + (m (m a0 36) (s32 (a1 + 1))))) ≤ 400 := c13
      have h : MR X ρ 4 0 0 qP196 N 38 [a0, a1, m (m a0 36) (s32 (a1 + 1)), 0] [] m (ig, rl, m') := h
      have h := CR_aload_n h rfl
      have h : MR X ρ 4 0 0 qP196 N 39 [a0, a1, m (m a0 36) (s32 (a1 + 1)), 0] [(1, a0)] m (ig, rl, m') := h
      have h := CR_iload_n h rfl
      have h : MR X ρ 4 0 0 qP196 N 40 [a0, a1, m (m a0 36) (s32 (a1 + 1)), 0] [(1, m (m a0 36) (s32 (a1 + 1))), (1, a0)] m (ig, rl, m') := h
      obtain ⟨r14, m15, q16, h⟩ := MR_invV h rfl rfl
      have q16 : Run X ρ 237 [(1, a0), (1, m (m a0 36) (s32 (a1 + 1)))] m r14 m15 := q16
      obtain ⟨e17, e18⟩ := d237 q16
      rw [e17, e18] at h
      have h : MR X ρ 4 0 0 qP196 N 43 [a0, a1, m (m a0 36) (s32 (a1 + 1)), 0] [(1, f237 m a0 (m (m a0 36) (s32 (a1 + 1))))] (g237 m a0 (m (m a0 36) (s32 (a1 + 1)))) (ig, rl, m') := h
      have h := CR_pop h rfl
      have h : MR X ρ 4 0 0 qP196 N 44 [a0, a1, m (m a0 36) (s32 (a1 + 1)), 0] [] (g237 m a0 (m (m a0 36) (s32 (a1 + 1)))) (ig, rl, m') := h
      have h := CR_iconst h rfl rfl
      have h : MR X ρ 4 0 0 qP196 N 45 [a0, a1, m (m a0 36) (s32 (a1 + 1)), 0] [(1, 0)] (g237 m a0 (m (m a0 36) (s32 (a1 + 1)))) (ig, rl, m') := h
      have e := CR_end h rfl rfl
      cases e
      exact ⟨congrArg (fun z => [(1, z)]) (Eq.symm (show f196 m a0 a1 = _ from (if_pos c1).trans ((if_pos c13).trans (rfl)))), Eq.symm (show g196 m a0 a1 = _ from (if_pos c1).trans ((if_pos c13).trans (rfl)))⟩
    ·
      have c13 : ¬ ((s32 ((m (m a0 14) 92) + (m (m a0 36) (s32 (a1 + 1))))) ≤ 400) := c13
      have h : MR X ρ 4 0 0 qP196 N 35 [a0, a1, m (m a0 36) (s32 (a1 + 1)), 0] [] m (ig, rl, m') := h
      have h := CR_bipush h rfl rfl
      have h : MR X ρ 4 0 0 qP196 N 37 [a0, a1, m (m a0 36) (s32 (a1 + 1)), 0] [(1, 71)] m (ig, rl, m') := h
      have e := CR_end h rfl rfl
      cases e
      exact ⟨congrArg (fun z => [(1, z)]) (Eq.symm (show f196 m a0 a1 = _ from (if_pos c1).trans ((if_neg c13).trans (rfl)))), Eq.symm (show g196 m a0 a1 = _ from (if_pos c1).trans ((if_neg c13).trans (rfl)))⟩
set_option maxRecDepth 16384 in
/-- TriplicateFormsModel.lodge(I)I -/
noncomputable def f223 (m : MM) (a0 a1 : Int) : Int := f164 (mu m a0 0 0) a0 6 a1 0 (f208 (mu m a0 0 0) a0 a1)
set_option maxRecDepth 16384 in
noncomputable def g223 (m : MM) (a0 a1 : Int) : MM := g164 (mu m a0 0 0) a0 6 a1 0 (f208 (mu m a0 0 0) a0 a1)
set_option maxRecDepth 16384 in
theorem d223 {X : KO} {ρ : Nat → Int32} {m m' : MM} {rl : List (Nat × Int)} {a0 a1 : Int} (h : Run X ρ 223 [(1, a0), (1, a1)] m rl m') : rl = [(1, f223 m a0 a1)] ∧ m' = g223 m a0 a1 := by
  obtain ⟨N, ig, h⟩ := Run_CR h rfl
  have h : MR X ρ 2 0 0 qP223 N 0 [a0, a1] [] m (ig, rl, m') := h
  have h := CR_aload_n h rfl
  have h : MR X ρ 2 0 0 qP223 N 1 [a0, a1] [(1, a0)] m (ig, rl, m') := h
  have h := CR_iconst h rfl rfl
  have h : MR X ρ 2 0 0 qP223 N 2 [a0, a1] [(1, 0), (1, a0)] m (ig, rl, m') := h
  have h := CR_putf h rfl
  have h : MR X ρ 2 0 0 qP223 N 5 [a0, a1] [] (mu m a0 0 0) (ig, rl, m') := h
  have h := CR_aload_n h rfl
  have h : MR X ρ 2 0 0 qP223 N 6 [a0, a1] [(1, a0)] (mu m a0 0 0) (ig, rl, m') := h
  have h := CR_bipush h rfl rfl
  have h : MR X ρ 2 0 0 qP223 N 8 [a0, a1] [(1, 6), (1, a0)] (mu m a0 0 0) (ig, rl, m') := h
  have h := CR_iload_n h rfl
  have h : MR X ρ 2 0 0 qP223 N 9 [a0, a1] [(1, a1), (1, 6), (1, a0)] (mu m a0 0 0) (ig, rl, m') := h
  have h := CR_iconst h rfl rfl
  have h : MR X ρ 2 0 0 qP223 N 10 [a0, a1] [(1, 0), (1, a1), (1, 6), (1, a0)] (mu m a0 0 0) (ig, rl, m') := h
  have h := CR_aload_n h rfl
  have h : MR X ρ 2 0 0 qP223 N 11 [a0, a1] [(1, a0), (1, 0), (1, a1), (1, 6), (1, a0)] (mu m a0 0 0) (ig, rl, m') := h
  have h := CR_iload_n h rfl
  have h : MR X ρ 2 0 0 qP223 N 12 [a0, a1] [(1, a1), (1, a0), (1, 0), (1, a1), (1, 6), (1, a0)] (mu m a0 0 0) (ig, rl, m') := h
  obtain ⟨r1, m2, q3, h⟩ := MR_invV h rfl rfl
  have q3 : Run X ρ 208 [(1, a0), (1, a1)] (mu m a0 0 0) r1 m2 := q3
  obtain ⟨e4, e5⟩ := d208 q3
  rw [e4, e5] at h
  have h : MR X ρ 2 0 0 qP223 N 15 [a0, a1] [(1, f208 (mu m a0 0 0) a0 a1), (1, 0), (1, a1), (1, 6), (1, a0)] (mu m a0 0 0) (ig, rl, m') := h
  obtain ⟨r6, m7, q8, h⟩ := MR_invV h rfl rfl
  have q8 : Run X ρ 164 [(1, a0), (1, 6), (1, a1), (1, 0), (1, f208 (mu m a0 0 0) a0 a1)] (mu m a0 0 0) r6 m7 := q8
  obtain ⟨e9, e10⟩ := d164 q8
  rw [e9, e10] at h
  have h : MR X ρ 2 0 0 qP223 N 18 [a0, a1] [(1, f164 (mu m a0 0 0) a0 6 a1 0 (f208 (mu m a0 0 0) a0 a1))] (g164 (mu m a0 0 0) a0 6 a1 0 (f208 (mu m a0 0 0) a0 a1)) (ig, rl, m') := h
  have e := CR_end h rfl rfl
  cases e
  exact ⟨congrArg (fun z => [(1, z)]) (Eq.symm (show f223 m a0 a1 = _ from rfl)), Eq.symm (show g223 m a0 a1 = _ from rfl)⟩
set_option maxRecDepth 16384 in
/-- TriplicateFormsModel.office()I, the loop at 97 -/
noncomputable def S230_97 (m : MM) (b0 b1 b2 : Int) : (Int × MM) ⊕ (Nat × Int × (Int × MM)) := (if 16 ≤ b2 then .inr (1, 0, (b2, m)) else .inl (s32 (b2 + 1), mu m (m b0 19) b2 (m (m b0 20) b2)))
set_option maxRecDepth 16384 in
noncomputable def K230_97 (m : MM) (b0 b1 b2 : Int) : (Int × MM) → (Int × MM) ⊕ (Nat × Int × (Int × MM)) := fun s => S230_97 s.2 b0 b1 s.1
set_option maxRecDepth 16384 in
noncomputable def L230_97 (m : MM) (b0 b1 b2 : Int) : (Nat × Int × (Int × MM)) := Lp (K230_97 m b0 b1 b2) (b2, m)
set_option maxRecDepth 16384 in
theorem l230_97 {X : KO} {ρ : Nat → Int32} {o : Instr × List (Nat × Int) × MM} {K : Nat} : ∀ {N : Nat} {m : MM} {b0 b1 b2 : Int}, N ≤ K → MR X ρ 3 0 0 qP230 N 97 [b0, b1, b2] [] m o → (MR X ρ 3 0 0 qP230 K 121 [b0, b1, (L230_97 m b0 b1 b2).2.2.1] [] ((L230_97 m b0 b1 b2).2.2.2) o) := by
  intro N
  induction N using Nat.strongRecOn with
  | ind N ih =>
  intro m b0 b1 b2 hK h
  have h := CR_iload_n h rfl
  have h : MR X ρ 3 0 0 qP230 N 98 [b0, b1, b2] [(1, b2)] m o := h
  have h := CR_bipush h rfl rfl
  have h : MR X ρ 3 0 0 qP230 N 100 [b0, b1, b2] [(1, 16), (1, b2)] m o := h
  rcases MR_icmp h rfl rfl with ⟨c1, h⟩ | ⟨c1, h⟩
  ·
    have c1 : 16 ≤ b2 := c1
    have h : MR X ρ 3 0 0 qP230 N 121 [b0, b1, b2] [] m o := h
    have hr : L230_97 m b0 b1 b2 = (1, 0, (b2, m)) := Lp_inr (f := K230_97 m b0 b1 b2) (s := (b2, m)) ((if_pos c1).trans (rfl))
    rw [hr]
    exact CR_le (by omega) h
  ·
    have c1 : ¬ (16 ≤ b2) := c1
    have h : MR X ρ 3 0 0 qP230 N 103 [b0, b1, b2] [] m o := h
    have h := CR_aload_n h rfl
    have h : MR X ρ 3 0 0 qP230 N 104 [b0, b1, b2] [(1, b0)] m o := h
    have h := CR_getf h rfl (by decide)
    have h : MR X ρ 3 0 0 qP230 N 107 [b0, b1, b2] [(1, m b0 19)] m o := h
    have h := CR_iload_n h rfl
    have h : MR X ρ 3 0 0 qP230 N 108 [b0, b1, b2] [(1, b2), (1, m b0 19)] m o := h
    have h := CR_aload_n h rfl
    have h : MR X ρ 3 0 0 qP230 N 109 [b0, b1, b2] [(1, b0), (1, b2), (1, m b0 19)] m o := h
    have h := CR_getf h rfl (by decide)
    have h : MR X ρ 3 0 0 qP230 N 112 [b0, b1, b2] [(1, m b0 20), (1, b2), (1, m b0 19)] m o := h
    have h := CR_iload_n h rfl
    have h : MR X ρ 3 0 0 qP230 N 113 [b0, b1, b2] [(1, b2), (1, m b0 20), (1, b2), (1, m b0 19)] m o := h
    have h := CR_lald h rfl
    have h : MR X ρ 3 0 0 qP230 N 114 [b0, b1, b2] [(2, m (m b0 20) b2), (1, b2), (1, m b0 19)] m o := h
    have h := CR_last h rfl
    have h : MR X ρ 3 0 0 qP230 N 115 [b0, b1, b2] [] (mu m (m b0 19) b2 (m (m b0 20) b2)) o := h
    have h := CR_inc h rfl (Nat.le_of_ble_eq_true rfl)
    have h : MR X ρ 3 0 0 qP230 N 118 [b0, b1, s32 (b2 + 1)] [] (mu m (m b0 19) b2 (m (m b0 20) b2)) o := h
    obtain ⟨N2, eN2, h⟩ := CR_goto h rfl rfl
    have h : MR X ρ 3 0 0 qP230 N2 97 [b0, b1, s32 (b2 + 1)] [] (mu m (m b0 19) b2 (m (m b0 20) b2)) o := h
    have hr : L230_97 m b0 b1 b2 = L230_97 (mu m (m b0 19) b2 (m (m b0 20) b2)) b0 b1 (s32 (b2 + 1)) := Lp_inl (f := K230_97 m b0 b1 b2) (s := (b2, m)) (s' := (s32 (b2 + 1), mu m (m b0 19) b2 (m (m b0 20) b2))) ((if_neg c1).trans (rfl))
    rw [hr]
    exact ih N2 (by omega) (by omega) h
set_option maxRecDepth 16384 in
/-- TriplicateFormsModel.office()I, the loop at 71 -/
noncomputable def S230_71 (m : MM) (b0 b1 b2 : Int) : (Int × MM) ⊕ (Nat × Int × (Int × MM)) := (if 92 ≤ b2 then .inr (1, 0, (b2, m)) else .inl (s32 (b2 + 1), mu m (m b0 14) b2 (s32 (m (m b0 15) b2))))
set_option maxRecDepth 16384 in
noncomputable def K230_71 (m : MM) (b0 b1 b2 : Int) : (Int × MM) → (Int × MM) ⊕ (Nat × Int × (Int × MM)) := fun s => S230_71 s.2 b0 b1 s.1
set_option maxRecDepth 16384 in
noncomputable def L230_71 (m : MM) (b0 b1 b2 : Int) : (Nat × Int × (Int × MM)) := Lp (K230_71 m b0 b1 b2) (b2, m)
set_option maxRecDepth 16384 in
theorem l230_71 {X : KO} {ρ : Nat → Int32} {o : Instr × List (Nat × Int) × MM} {K : Nat} : ∀ {N : Nat} {m : MM} {b0 b1 b2 : Int}, N ≤ K → MR X ρ 3 0 0 qP230 N 71 [b0, b1, b2] [] m o → (MR X ρ 3 0 0 qP230 K 95 [b0, b1, (L230_71 m b0 b1 b2).2.2.1] [] ((L230_71 m b0 b1 b2).2.2.2) o) := by
  intro N
  induction N using Nat.strongRecOn with
  | ind N ih =>
  intro m b0 b1 b2 hK h
  have h := CR_iload_n h rfl
  have h : MR X ρ 3 0 0 qP230 N 72 [b0, b1, b2] [(1, b2)] m o := h
  have h := CR_bipush h rfl rfl
  have h : MR X ρ 3 0 0 qP230 N 74 [b0, b1, b2] [(1, 92), (1, b2)] m o := h
  rcases MR_icmp h rfl rfl with ⟨c1, h⟩ | ⟨c1, h⟩
  ·
    have c1 : 92 ≤ b2 := c1
    have h : MR X ρ 3 0 0 qP230 N 95 [b0, b1, b2] [] m o := h
    have hr : L230_71 m b0 b1 b2 = (1, 0, (b2, m)) := Lp_inr (f := K230_71 m b0 b1 b2) (s := (b2, m)) ((if_pos c1).trans (rfl))
    rw [hr]
    exact CR_le (by omega) h
  ·
    have c1 : ¬ (92 ≤ b2) := c1
    have h : MR X ρ 3 0 0 qP230 N 77 [b0, b1, b2] [] m o := h
    have h := CR_aload_n h rfl
    have h : MR X ρ 3 0 0 qP230 N 78 [b0, b1, b2] [(1, b0)] m o := h
    have h := CR_getf h rfl (by decide)
    have h : MR X ρ 3 0 0 qP230 N 81 [b0, b1, b2] [(1, m b0 14)] m o := h
    have h := CR_iload_n h rfl
    have h : MR X ρ 3 0 0 qP230 N 82 [b0, b1, b2] [(1, b2), (1, m b0 14)] m o := h
    have h := CR_aload_n h rfl
    have h : MR X ρ 3 0 0 qP230 N 83 [b0, b1, b2] [(1, b0), (1, b2), (1, m b0 14)] m o := h
    have h := CR_getf h rfl (by decide)
    have h : MR X ρ 3 0 0 qP230 N 86 [b0, b1, b2] [(1, m b0 15), (1, b2), (1, m b0 14)] m o := h
    have h := CR_iload_n h rfl
    have h : MR X ρ 3 0 0 qP230 N 87 [b0, b1, b2] [(1, b2), (1, m b0 15), (1, b2), (1, m b0 14)] m o := h
    have h := CR_iaload h rfl rfl
    have h : MR X ρ 3 0 0 qP230 N 88 [b0, b1, b2] [(1, m (m b0 15) b2), (1, b2), (1, m b0 14)] m o := h
    have h := CR_iastore_ h rfl
    have h : MR X ρ 3 0 0 qP230 N 89 [b0, b1, b2] [] (mu m (m b0 14) b2 (s32 (m (m b0 15) b2))) o := h
    have h := CR_inc h rfl (Nat.le_of_ble_eq_true rfl)
    have h : MR X ρ 3 0 0 qP230 N 92 [b0, b1, s32 (b2 + 1)] [] (mu m (m b0 14) b2 (s32 (m (m b0 15) b2))) o := h
    obtain ⟨N2, eN2, h⟩ := CR_goto h rfl rfl
    have h : MR X ρ 3 0 0 qP230 N2 71 [b0, b1, s32 (b2 + 1)] [] (mu m (m b0 14) b2 (s32 (m (m b0 15) b2))) o := h
    have hr : L230_71 m b0 b1 b2 = L230_71 (mu m (m b0 14) b2 (s32 (m (m b0 15) b2))) b0 b1 (s32 (b2 + 1)) := Lp_inl (f := K230_71 m b0 b1 b2) (s := (b2, m)) (s' := (s32 (b2 + 1), mu m (m b0 14) b2 (s32 (m (m b0 15) b2)))) ((if_neg c1).trans (rfl))
    rw [hr]
    exact ih N2 (by omega) (by omega) h
set_option maxRecDepth 16384 in
/-- TriplicateFormsModel.readDoes(I)Z, the loop at 3 -/
noncomputable def S244_3 (m : MM) (b0 b1 b2 : Int) : (Int) ⊕ (Nat × Int × (Int)) := (if 12 < b2 then .inr (1, 0, b2) else (if (f217 m b0 b2) = 0 then .inl (s32 (b2 + 1)) else .inr (1, 0, b2)))
set_option maxRecDepth 16384 in
noncomputable def K244_3 (m : MM) (b0 b1 b2 : Int) : (Int) → (Int) ⊕ (Nat × Int × (Int)) := fun s => S244_3 m b0 b1 s
set_option maxRecDepth 16384 in
noncomputable def L244_3 (m : MM) (b0 b1 b2 : Int) : (Nat × Int × (Int)) := Lp (K244_3 m b0 b1 b2) b2
set_option maxRecDepth 16384 in
theorem l244_3 {X : KO} {ρ : Nat → Int32} {o : Instr × List (Nat × Int) × MM} {K : Nat} : ∀ {N : Nat} {m : MM} {b0 b1 b2 : Int}, N ≤ K → MR X ρ 3 0 0 qP244 N 3 [b0, b1, b2] [] m o → (MR X ρ 3 0 0 qP244 K 23 [b0, b1, (L244_3 m b0 b1 b2).2.2] [] m o) := by
  intro N
  induction N using Nat.strongRecOn with
  | ind N ih =>
  intro m b0 b1 b2 hK h
  have h := CR_iload_n h rfl
  have h : MR X ρ 3 0 0 qP244 N 4 [b0, b1, b2] [(1, b2)] m o := h
  have h := CR_bipush h rfl rfl
  have h : MR X ρ 3 0 0 qP244 N 6 [b0, b1, b2] [(1, 12), (1, b2)] m o := h
  rcases MR_icmp h rfl rfl with ⟨c1, h⟩ | ⟨c1, h⟩
  ·
    have c1 : 12 < b2 := c1
    have h : MR X ρ 3 0 0 qP244 N 23 [b0, b1, b2] [] m o := h
    have hr : L244_3 m b0 b1 b2 = (1, 0, b2) := Lp_inr (f := K244_3 m b0 b1 b2) (s := b2) ((if_pos c1).trans (rfl))
    rw [hr]
    exact CR_le (by omega) h
  ·
    have c1 : ¬ (12 < b2) := c1
    have h : MR X ρ 3 0 0 qP244 N 9 [b0, b1, b2] [] m o := h
    have h := CR_aload_n h rfl
    have h : MR X ρ 3 0 0 qP244 N 10 [b0, b1, b2] [(1, b0)] m o := h
    have h := CR_iload_n h rfl
    have h : MR X ρ 3 0 0 qP244 N 11 [b0, b1, b2] [(1, b2), (1, b0)] m o := h
    obtain ⟨r2, m3, q4, h⟩ := MR_invV h rfl rfl
    have q4 : Run X ρ 217 [(1, b0), (1, b2)] m r2 m3 := q4
    obtain ⟨e5, e6⟩ := d217 q4
    rw [e5, e6] at h
    have h : MR X ρ 3 0 0 qP244 N 14 [b0, b1, b2] [(1, f217 m b0 b2)] m o := h
    rcases MR_if h rfl rfl with ⟨c7, h⟩ | ⟨c7, h⟩
    ·
      have c7 : ¬ ((f217 m b0 b2) = 0) := c7
      have h : MR X ρ 3 0 0 qP244 N 23 [b0, b1, b2] [] m o := h
      have hr : L244_3 m b0 b1 b2 = (1, 0, b2) := Lp_inr (f := K244_3 m b0 b1 b2) (s := b2) ((if_neg c1).trans ((if_neg c7).trans (rfl)))
      rw [hr]
      exact CR_le (by omega) h
    ·
      have c7 : (f217 m b0 b2) = 0 := Decidable.of_not_not (show ¬ ¬ ((f217 m b0 b2) = 0) from c7)
      have h : MR X ρ 3 0 0 qP244 N 17 [b0, b1, b2] [] m o := h
      have h := CR_inc h rfl (Nat.le_of_ble_eq_true rfl)
      have h : MR X ρ 3 0 0 qP244 N 20 [b0, b1, s32 (b2 + 1)] [] m o := h
      obtain ⟨N8, eN8, h⟩ := CR_goto h rfl rfl
      have h : MR X ρ 3 0 0 qP244 N8 3 [b0, b1, s32 (b2 + 1)] [] m o := h
      have hr : L244_3 m b0 b1 b2 = L244_3 m b0 b1 (s32 (b2 + 1)) := Lp_inl (f := K244_3 m b0 b1 b2) (s := b2) (s' := s32 (b2 + 1)) ((if_neg c1).trans ((if_pos c7).trans (rfl)))
      rw [hr]
      exact ih N8 (by omega) (by omega) h
set_option maxRecDepth 16384 in
/-- TriplicateFormsModel.resent(II)I -/
noncomputable def f264 (m : MM) (a0 a1 a2 : Int) : Int := (if (f213 (mu m a0 0 0) a0 a1) = 0 then f164 (mu m a0 0 0) a0 2 a1 a2 0 else (if (f213 (mu m a0 0 0) a0 a2) = 0 then f164 (mu m a0 0 0) a0 2 a1 a2 0 else f164 (mu m a0 0 0) a0 2 a1 a2 1))
set_option maxRecDepth 16384 in
noncomputable def g264 (m : MM) (a0 a1 a2 : Int) : MM := (if (f213 (mu m a0 0 0) a0 a1) = 0 then g164 (mu m a0 0 0) a0 2 a1 a2 0 else (if (f213 (mu m a0 0 0) a0 a2) = 0 then g164 (mu m a0 0 0) a0 2 a1 a2 0 else g164 (mu m a0 0 0) a0 2 a1 a2 1))
set_option maxRecDepth 16384 in
theorem d264 {X : KO} {ρ : Nat → Int32} {m m' : MM} {rl : List (Nat × Int)} {a0 a1 a2 : Int} (h : Run X ρ 264 [(1, a0), (1, a1), (1, a2)] m rl m') : rl = [(1, f264 m a0 a1 a2)] ∧ m' = g264 m a0 a1 a2 := by
  obtain ⟨N, ig, h⟩ := Run_CR h rfl
  have h : MR X ρ 3 0 0 qP264 N 0 [a0, a1, a2] [] m (ig, rl, m') := h
  have h := CR_aload_n h rfl
  have h : MR X ρ 3 0 0 qP264 N 1 [a0, a1, a2] [(1, a0)] m (ig, rl, m') := h
  have h := CR_iconst h rfl rfl
  have h : MR X ρ 3 0 0 qP264 N 2 [a0, a1, a2] [(1, 0), (1, a0)] m (ig, rl, m') := h
  have h := CR_putf h rfl
  have h : MR X ρ 3 0 0 qP264 N 5 [a0, a1, a2] [] (mu m a0 0 0) (ig, rl, m') := h
  have h := CR_aload_n h rfl
  have h : MR X ρ 3 0 0 qP264 N 6 [a0, a1, a2] [(1, a0)] (mu m a0 0 0) (ig, rl, m') := h
  have h := CR_iconst h rfl rfl
  have h : MR X ρ 3 0 0 qP264 N 7 [a0, a1, a2] [(1, 2), (1, a0)] (mu m a0 0 0) (ig, rl, m') := h
  have h := CR_iload_n h rfl
  have h : MR X ρ 3 0 0 qP264 N 8 [a0, a1, a2] [(1, a1), (1, 2), (1, a0)] (mu m a0 0 0) (ig, rl, m') := h
  have h := CR_iload_n h rfl
  have h : MR X ρ 3 0 0 qP264 N 9 [a0, a1, a2] [(1, a2), (1, a1), (1, 2), (1, a0)] (mu m a0 0 0) (ig, rl, m') := h
  have h := CR_aload_n h rfl
  have h : MR X ρ 3 0 0 qP264 N 10 [a0, a1, a2] [(1, a0), (1, a2), (1, a1), (1, 2), (1, a0)] (mu m a0 0 0) (ig, rl, m') := h
  have h := CR_iload_n h rfl
  have h : MR X ρ 3 0 0 qP264 N 11 [a0, a1, a2] [(1, a1), (1, a0), (1, a2), (1, a1), (1, 2), (1, a0)] (mu m a0 0 0) (ig, rl, m') := h
  obtain ⟨r1, m2, q3, h⟩ := MR_invV h rfl rfl
  have q3 : Run X ρ 213 [(1, a0), (1, a1)] (mu m a0 0 0) r1 m2 := q3
  obtain ⟨e4, e5⟩ := d213 q3
  rw [e4, e5] at h
  have h : MR X ρ 3 0 0 qP264 N 14 [a0, a1, a2] [(1, f213 (mu m a0 0 0) a0 a1), (1, a2), (1, a1), (1, 2), (1, a0)] (mu m a0 0 0) (ig, rl, m') := h
  rcases MR_if h rfl rfl with ⟨c6, h⟩ | ⟨c6, h⟩
  ·
    have c6 : (f213 (mu m a0 0 0) a0 a1) = 0 := c6
    have h : MR X ρ 3 0 0 qP264 N 29 [a0, a1, a2] [(1, a2), (1, a1), (1, 2), (1, a0)] (mu m a0 0 0) (ig, rl, m') := h
    have h := CR_iconst h rfl rfl
    have h : MR X ρ 3 0 0 qP264 N 30 [a0, a1, a2] [(1, 0), (1, a2), (1, a1), (1, 2), (1, a0)] (mu m a0 0 0) (ig, rl, m') := h
    obtain ⟨r7, m8, q9, h⟩ := MR_invV h rfl rfl
    have q9 : Run X ρ 164 [(1, a0), (1, 2), (1, a1), (1, a2), (1, 0)] (mu m a0 0 0) r7 m8 := q9
    obtain ⟨e10, e11⟩ := d164 q9
    rw [e10, e11] at h
    have h : MR X ρ 3 0 0 qP264 N 33 [a0, a1, a2] [(1, f164 (mu m a0 0 0) a0 2 a1 a2 0)] (g164 (mu m a0 0 0) a0 2 a1 a2 0) (ig, rl, m') := h
    have e := CR_end h rfl rfl
    cases e
    exact ⟨congrArg (fun z => [(1, z)]) (Eq.symm (show f264 m a0 a1 a2 = _ from (if_pos c6).trans (rfl))), Eq.symm (show g264 m a0 a1 a2 = _ from (if_pos c6).trans (rfl))⟩
  ·
    have c6 : ¬ ((f213 (mu m a0 0 0) a0 a1) = 0) := c6
    have h : MR X ρ 3 0 0 qP264 N 17 [a0, a1, a2] [(1, a2), (1, a1), (1, 2), (1, a0)] (mu m a0 0 0) (ig, rl, m') := h
    have h := CR_aload_n h rfl
    have h : MR X ρ 3 0 0 qP264 N 18 [a0, a1, a2] [(1, a0), (1, a2), (1, a1), (1, 2), (1, a0)] (mu m a0 0 0) (ig, rl, m') := h
    have h := CR_iload_n h rfl
    have h : MR X ρ 3 0 0 qP264 N 19 [a0, a1, a2] [(1, a2), (1, a0), (1, a2), (1, a1), (1, 2), (1, a0)] (mu m a0 0 0) (ig, rl, m') := h
    obtain ⟨r12, m13, q14, h⟩ := MR_invV h rfl rfl
    have q14 : Run X ρ 213 [(1, a0), (1, a2)] (mu m a0 0 0) r12 m13 := q14
    obtain ⟨e15, e16⟩ := d213 q14
    rw [e15, e16] at h
    have h : MR X ρ 3 0 0 qP264 N 22 [a0, a1, a2] [(1, f213 (mu m a0 0 0) a0 a2), (1, a2), (1, a1), (1, 2), (1, a0)] (mu m a0 0 0) (ig, rl, m') := h
    rcases MR_if h rfl rfl with ⟨c17, h⟩ | ⟨c17, h⟩
    ·
      have c17 : (f213 (mu m a0 0 0) a0 a2) = 0 := c17
      have h : MR X ρ 3 0 0 qP264 N 29 [a0, a1, a2] [(1, a2), (1, a1), (1, 2), (1, a0)] (mu m a0 0 0) (ig, rl, m') := h
      have h := CR_iconst h rfl rfl
      have h : MR X ρ 3 0 0 qP264 N 30 [a0, a1, a2] [(1, 0), (1, a2), (1, a1), (1, 2), (1, a0)] (mu m a0 0 0) (ig, rl, m') := h
      obtain ⟨r18, m19, q20, h⟩ := MR_invV h rfl rfl
      have q20 : Run X ρ 164 [(1, a0), (1, 2), (1, a1), (1, a2), (1, 0)] (mu m a0 0 0) r18 m19 := q20
      obtain ⟨e21, e22⟩ := d164 q20
      rw [e21, e22] at h
      have h : MR X ρ 3 0 0 qP264 N 33 [a0, a1, a2] [(1, f164 (mu m a0 0 0) a0 2 a1 a2 0)] (g164 (mu m a0 0 0) a0 2 a1 a2 0) (ig, rl, m') := h
      have e := CR_end h rfl rfl
      cases e
      exact ⟨congrArg (fun z => [(1, z)]) (Eq.symm (show f264 m a0 a1 a2 = _ from (if_neg c6).trans ((if_pos c17).trans (rfl)))), Eq.symm (show g264 m a0 a1 a2 = _ from (if_neg c6).trans ((if_pos c17).trans (rfl)))⟩
    ·
      have c17 : ¬ ((f213 (mu m a0 0 0) a0 a2) = 0) := c17
      have h : MR X ρ 3 0 0 qP264 N 25 [a0, a1, a2] [(1, a2), (1, a1), (1, 2), (1, a0)] (mu m a0 0 0) (ig, rl, m') := h
      have h := CR_iconst h rfl rfl
      have h : MR X ρ 3 0 0 qP264 N 26 [a0, a1, a2] [(1, 1), (1, a2), (1, a1), (1, 2), (1, a0)] (mu m a0 0 0) (ig, rl, m') := h
      have h := CR_go h rfl rfl
      have h : MR X ρ 3 0 0 qP264 N 30 [a0, a1, a2] [(1, 1), (1, a2), (1, a1), (1, 2), (1, a0)] (mu m a0 0 0) (ig, rl, m') := h
      obtain ⟨r23, m24, q25, h⟩ := MR_invV h rfl rfl
      have q25 : Run X ρ 164 [(1, a0), (1, 2), (1, a1), (1, a2), (1, 1)] (mu m a0 0 0) r23 m24 := q25
      obtain ⟨e26, e27⟩ := d164 q25
      rw [e26, e27] at h
      have h : MR X ρ 3 0 0 qP264 N 33 [a0, a1, a2] [(1, f164 (mu m a0 0 0) a0 2 a1 a2 1)] (g164 (mu m a0 0 0) a0 2 a1 a2 1) (ig, rl, m') := h
      have e := CR_end h rfl rfl
      cases e
      exact ⟨congrArg (fun z => [(1, z)]) (Eq.symm (show f264 m a0 a1 a2 = _ from (if_neg c6).trans ((if_neg c17).trans (rfl)))), Eq.symm (show g264 m a0 a1 a2 = _ from (if_neg c6).trans ((if_neg c17).trans (rfl)))⟩
set_option maxRecDepth 16384 in
/-- TriplicateFormsModel.retire(I)I -/
noncomputable def f266 (m : MM) (a0 a1 : Int) : Int := f164 (mu m a0 0 0) a0 3 a1 0 (f213 (mu m a0 0 0) a0 a1)
set_option maxRecDepth 16384 in
noncomputable def g266 (m : MM) (a0 a1 : Int) : MM := g164 (mu m a0 0 0) a0 3 a1 0 (f213 (mu m a0 0 0) a0 a1)
set_option maxRecDepth 16384 in
theorem d266 {X : KO} {ρ : Nat → Int32} {m m' : MM} {rl : List (Nat × Int)} {a0 a1 : Int} (h : Run X ρ 266 [(1, a0), (1, a1)] m rl m') : rl = [(1, f266 m a0 a1)] ∧ m' = g266 m a0 a1 := by
  obtain ⟨N, ig, h⟩ := Run_CR h rfl
  have h : MR X ρ 2 0 0 qP266 N 0 [a0, a1] [] m (ig, rl, m') := h
  have h := CR_aload_n h rfl
  have h : MR X ρ 2 0 0 qP266 N 1 [a0, a1] [(1, a0)] m (ig, rl, m') := h
  have h := CR_iconst h rfl rfl
  have h : MR X ρ 2 0 0 qP266 N 2 [a0, a1] [(1, 0), (1, a0)] m (ig, rl, m') := h
  have h := CR_putf h rfl
  have h : MR X ρ 2 0 0 qP266 N 5 [a0, a1] [] (mu m a0 0 0) (ig, rl, m') := h
  have h := CR_aload_n h rfl
  have h : MR X ρ 2 0 0 qP266 N 6 [a0, a1] [(1, a0)] (mu m a0 0 0) (ig, rl, m') := h
  have h := CR_iconst h rfl rfl
  have h : MR X ρ 2 0 0 qP266 N 7 [a0, a1] [(1, 3), (1, a0)] (mu m a0 0 0) (ig, rl, m') := h
  have h := CR_iload_n h rfl
  have h : MR X ρ 2 0 0 qP266 N 8 [a0, a1] [(1, a1), (1, 3), (1, a0)] (mu m a0 0 0) (ig, rl, m') := h
  have h := CR_iconst h rfl rfl
  have h : MR X ρ 2 0 0 qP266 N 9 [a0, a1] [(1, 0), (1, a1), (1, 3), (1, a0)] (mu m a0 0 0) (ig, rl, m') := h
  have h := CR_aload_n h rfl
  have h : MR X ρ 2 0 0 qP266 N 10 [a0, a1] [(1, a0), (1, 0), (1, a1), (1, 3), (1, a0)] (mu m a0 0 0) (ig, rl, m') := h
  have h := CR_iload_n h rfl
  have h : MR X ρ 2 0 0 qP266 N 11 [a0, a1] [(1, a1), (1, a0), (1, 0), (1, a1), (1, 3), (1, a0)] (mu m a0 0 0) (ig, rl, m') := h
  obtain ⟨r1, m2, q3, h⟩ := MR_invV h rfl rfl
  have q3 : Run X ρ 213 [(1, a0), (1, a1)] (mu m a0 0 0) r1 m2 := q3
  obtain ⟨e4, e5⟩ := d213 q3
  rw [e4, e5] at h
  have h : MR X ρ 2 0 0 qP266 N 14 [a0, a1] [(1, f213 (mu m a0 0 0) a0 a1), (1, 0), (1, a1), (1, 3), (1, a0)] (mu m a0 0 0) (ig, rl, m') := h
  obtain ⟨r6, m7, q8, h⟩ := MR_invV h rfl rfl
  have q8 : Run X ρ 164 [(1, a0), (1, 3), (1, a1), (1, 0), (1, f213 (mu m a0 0 0) a0 a1)] (mu m a0 0 0) r6 m7 := q8
  obtain ⟨e9, e10⟩ := d164 q8
  rw [e9, e10] at h
  have h : MR X ρ 2 0 0 qP266 N 17 [a0, a1] [(1, f164 (mu m a0 0 0) a0 3 a1 0 (f213 (mu m a0 0 0) a0 a1))] (g164 (mu m a0 0 0) a0 3 a1 0 (f213 (mu m a0 0 0) a0 a1)) (ig, rl, m') := h
  have e := CR_end h rfl rfl
  cases e
  exact ⟨congrArg (fun z => [(1, z)]) (Eq.symm (show f266 m a0 a1 = _ from rfl)), Eq.symm (show g266 m a0 a1 = _ from rfl)⟩
set_option maxRecDepth 16384 in
/-- TriplicateFormsModel.sign(II)I -/
noncomputable def f272 (m : MM) (a0 a1 a2 : Int) : Int := (if (f213 (mu m a0 0 0) a0 a1) = 0 then f164 (mu m a0 0 0) a0 0 a1 a2 0 else (if (f208 (mu m a0 0 0) a0 a2) = 0 then f164 (mu m a0 0 0) a0 0 a1 a2 0 else f164 (mu m a0 0 0) a0 0 a1 a2 1))
set_option maxRecDepth 16384 in
noncomputable def g272 (m : MM) (a0 a1 a2 : Int) : MM := (if (f213 (mu m a0 0 0) a0 a1) = 0 then g164 (mu m a0 0 0) a0 0 a1 a2 0 else (if (f208 (mu m a0 0 0) a0 a2) = 0 then g164 (mu m a0 0 0) a0 0 a1 a2 0 else g164 (mu m a0 0 0) a0 0 a1 a2 1))
set_option maxRecDepth 16384 in
theorem d272 {X : KO} {ρ : Nat → Int32} {m m' : MM} {rl : List (Nat × Int)} {a0 a1 a2 : Int} (h : Run X ρ 272 [(1, a0), (1, a1), (1, a2)] m rl m') : rl = [(1, f272 m a0 a1 a2)] ∧ m' = g272 m a0 a1 a2 := by
  obtain ⟨N, ig, h⟩ := Run_CR h rfl
  have h : MR X ρ 3 0 0 qP272 N 0 [a0, a1, a2] [] m (ig, rl, m') := h
  have h := CR_aload_n h rfl
  have h : MR X ρ 3 0 0 qP272 N 1 [a0, a1, a2] [(1, a0)] m (ig, rl, m') := h
  have h := CR_iconst h rfl rfl
  have h : MR X ρ 3 0 0 qP272 N 2 [a0, a1, a2] [(1, 0), (1, a0)] m (ig, rl, m') := h
  have h := CR_putf h rfl
  have h : MR X ρ 3 0 0 qP272 N 5 [a0, a1, a2] [] (mu m a0 0 0) (ig, rl, m') := h
  have h := CR_aload_n h rfl
  have h : MR X ρ 3 0 0 qP272 N 6 [a0, a1, a2] [(1, a0)] (mu m a0 0 0) (ig, rl, m') := h
  have h := CR_iconst h rfl rfl
  have h : MR X ρ 3 0 0 qP272 N 7 [a0, a1, a2] [(1, 0), (1, a0)] (mu m a0 0 0) (ig, rl, m') := h
  have h := CR_iload_n h rfl
  have h : MR X ρ 3 0 0 qP272 N 8 [a0, a1, a2] [(1, a1), (1, 0), (1, a0)] (mu m a0 0 0) (ig, rl, m') := h
  have h := CR_iload_n h rfl
  have h : MR X ρ 3 0 0 qP272 N 9 [a0, a1, a2] [(1, a2), (1, a1), (1, 0), (1, a0)] (mu m a0 0 0) (ig, rl, m') := h
  have h := CR_aload_n h rfl
  have h : MR X ρ 3 0 0 qP272 N 10 [a0, a1, a2] [(1, a0), (1, a2), (1, a1), (1, 0), (1, a0)] (mu m a0 0 0) (ig, rl, m') := h
  have h := CR_iload_n h rfl
  have h : MR X ρ 3 0 0 qP272 N 11 [a0, a1, a2] [(1, a1), (1, a0), (1, a2), (1, a1), (1, 0), (1, a0)] (mu m a0 0 0) (ig, rl, m') := h
  obtain ⟨r1, m2, q3, h⟩ := MR_invV h rfl rfl
  have q3 : Run X ρ 213 [(1, a0), (1, a1)] (mu m a0 0 0) r1 m2 := q3
  obtain ⟨e4, e5⟩ := d213 q3
  rw [e4, e5] at h
  have h : MR X ρ 3 0 0 qP272 N 14 [a0, a1, a2] [(1, f213 (mu m a0 0 0) a0 a1), (1, a2), (1, a1), (1, 0), (1, a0)] (mu m a0 0 0) (ig, rl, m') := h
  rcases MR_if h rfl rfl with ⟨c6, h⟩ | ⟨c6, h⟩
  ·
    have c6 : (f213 (mu m a0 0 0) a0 a1) = 0 := c6
    have h : MR X ρ 3 0 0 qP272 N 29 [a0, a1, a2] [(1, a2), (1, a1), (1, 0), (1, a0)] (mu m a0 0 0) (ig, rl, m') := h
    have h := CR_iconst h rfl rfl
    have h : MR X ρ 3 0 0 qP272 N 30 [a0, a1, a2] [(1, 0), (1, a2), (1, a1), (1, 0), (1, a0)] (mu m a0 0 0) (ig, rl, m') := h
    obtain ⟨r7, m8, q9, h⟩ := MR_invV h rfl rfl
    have q9 : Run X ρ 164 [(1, a0), (1, 0), (1, a1), (1, a2), (1, 0)] (mu m a0 0 0) r7 m8 := q9
    obtain ⟨e10, e11⟩ := d164 q9
    rw [e10, e11] at h
    have h : MR X ρ 3 0 0 qP272 N 33 [a0, a1, a2] [(1, f164 (mu m a0 0 0) a0 0 a1 a2 0)] (g164 (mu m a0 0 0) a0 0 a1 a2 0) (ig, rl, m') := h
    have e := CR_end h rfl rfl
    cases e
    exact ⟨congrArg (fun z => [(1, z)]) (Eq.symm (show f272 m a0 a1 a2 = _ from (if_pos c6).trans (rfl))), Eq.symm (show g272 m a0 a1 a2 = _ from (if_pos c6).trans (rfl))⟩
  ·
    have c6 : ¬ ((f213 (mu m a0 0 0) a0 a1) = 0) := c6
    have h : MR X ρ 3 0 0 qP272 N 17 [a0, a1, a2] [(1, a2), (1, a1), (1, 0), (1, a0)] (mu m a0 0 0) (ig, rl, m') := h
    have h := CR_aload_n h rfl
    have h : MR X ρ 3 0 0 qP272 N 18 [a0, a1, a2] [(1, a0), (1, a2), (1, a1), (1, 0), (1, a0)] (mu m a0 0 0) (ig, rl, m') := h
    have h := CR_iload_n h rfl
    have h : MR X ρ 3 0 0 qP272 N 19 [a0, a1, a2] [(1, a2), (1, a0), (1, a2), (1, a1), (1, 0), (1, a0)] (mu m a0 0 0) (ig, rl, m') := h
    obtain ⟨r12, m13, q14, h⟩ := MR_invV h rfl rfl
    have q14 : Run X ρ 208 [(1, a0), (1, a2)] (mu m a0 0 0) r12 m13 := q14
    obtain ⟨e15, e16⟩ := d208 q14
    rw [e15, e16] at h
    have h : MR X ρ 3 0 0 qP272 N 22 [a0, a1, a2] [(1, f208 (mu m a0 0 0) a0 a2), (1, a2), (1, a1), (1, 0), (1, a0)] (mu m a0 0 0) (ig, rl, m') := h
    rcases MR_if h rfl rfl with ⟨c17, h⟩ | ⟨c17, h⟩
    ·
      have c17 : (f208 (mu m a0 0 0) a0 a2) = 0 := c17
      have h : MR X ρ 3 0 0 qP272 N 29 [a0, a1, a2] [(1, a2), (1, a1), (1, 0), (1, a0)] (mu m a0 0 0) (ig, rl, m') := h
      have h := CR_iconst h rfl rfl
      have h : MR X ρ 3 0 0 qP272 N 30 [a0, a1, a2] [(1, 0), (1, a2), (1, a1), (1, 0), (1, a0)] (mu m a0 0 0) (ig, rl, m') := h
      obtain ⟨r18, m19, q20, h⟩ := MR_invV h rfl rfl
      have q20 : Run X ρ 164 [(1, a0), (1, 0), (1, a1), (1, a2), (1, 0)] (mu m a0 0 0) r18 m19 := q20
      obtain ⟨e21, e22⟩ := d164 q20
      rw [e21, e22] at h
      have h : MR X ρ 3 0 0 qP272 N 33 [a0, a1, a2] [(1, f164 (mu m a0 0 0) a0 0 a1 a2 0)] (g164 (mu m a0 0 0) a0 0 a1 a2 0) (ig, rl, m') := h
      have e := CR_end h rfl rfl
      cases e
      exact ⟨congrArg (fun z => [(1, z)]) (Eq.symm (show f272 m a0 a1 a2 = _ from (if_neg c6).trans ((if_pos c17).trans (rfl)))), Eq.symm (show g272 m a0 a1 a2 = _ from (if_neg c6).trans ((if_pos c17).trans (rfl)))⟩
    ·
      have c17 : ¬ ((f208 (mu m a0 0 0) a0 a2) = 0) := c17
      have h : MR X ρ 3 0 0 qP272 N 25 [a0, a1, a2] [(1, a2), (1, a1), (1, 0), (1, a0)] (mu m a0 0 0) (ig, rl, m') := h
      have h := CR_iconst h rfl rfl
      have h : MR X ρ 3 0 0 qP272 N 26 [a0, a1, a2] [(1, 1), (1, a2), (1, a1), (1, 0), (1, a0)] (mu m a0 0 0) (ig, rl, m') := h
      have h := CR_go h rfl rfl
      have h : MR X ρ 3 0 0 qP272 N 30 [a0, a1, a2] [(1, 1), (1, a2), (1, a1), (1, 0), (1, a0)] (mu m a0 0 0) (ig, rl, m') := h
      obtain ⟨r23, m24, q25, h⟩ := MR_invV h rfl rfl
      have q25 : Run X ρ 164 [(1, a0), (1, 0), (1, a1), (1, a2), (1, 1)] (mu m a0 0 0) r23 m24 := q25
      obtain ⟨e26, e27⟩ := d164 q25
      rw [e26, e27] at h
      have h : MR X ρ 3 0 0 qP272 N 33 [a0, a1, a2] [(1, f164 (mu m a0 0 0) a0 0 a1 a2 1)] (g164 (mu m a0 0 0) a0 0 a1 a2 1) (ig, rl, m') := h
      have e := CR_end h rfl rfl
      cases e
      exact ⟨congrArg (fun z => [(1, z)]) (Eq.symm (show f272 m a0 a1 a2 = _ from (if_neg c6).trans ((if_neg c17).trans (rfl)))), Eq.symm (show g272 m a0 a1 a2 = _ from (if_neg c6).trans ((if_neg c17).trans (rfl)))⟩
set_option maxRecDepth 16384 in
/-- TriplicateFormsModel.soften(II)I -/
noncomputable def f277 (m : MM) (a0 a1 a2 : Int) : Int := (if (f213 (mu m a0 0 0) a0 a1) = 0 then f164 (mu m a0 0 0) a0 1 a1 a2 0 else (if (f213 (mu m a0 0 0) a0 a2) = 0 then f164 (mu m a0 0 0) a0 1 a1 a2 0 else f164 (mu m a0 0 0) a0 1 a1 a2 1))
set_option maxRecDepth 16384 in
noncomputable def g277 (m : MM) (a0 a1 a2 : Int) : MM := (if (f213 (mu m a0 0 0) a0 a1) = 0 then g164 (mu m a0 0 0) a0 1 a1 a2 0 else (if (f213 (mu m a0 0 0) a0 a2) = 0 then g164 (mu m a0 0 0) a0 1 a1 a2 0 else g164 (mu m a0 0 0) a0 1 a1 a2 1))
set_option maxRecDepth 16384 in
theorem d277 {X : KO} {ρ : Nat → Int32} {m m' : MM} {rl : List (Nat × Int)} {a0 a1 a2 : Int} (h : Run X ρ 277 [(1, a0), (1, a1), (1, a2)] m rl m') : rl = [(1, f277 m a0 a1 a2)] ∧ m' = g277 m a0 a1 a2 := by
  obtain ⟨N, ig, h⟩ := Run_CR h rfl
  have h : MR X ρ 3 0 0 qP277 N 0 [a0, a1, a2] [] m (ig, rl, m') := h
  have h := CR_aload_n h rfl
  have h : MR X ρ 3 0 0 qP277 N 1 [a0, a1, a2] [(1, a0)] m (ig, rl, m') := h
  have h := CR_iconst h rfl rfl
  have h : MR X ρ 3 0 0 qP277 N 2 [a0, a1, a2] [(1, 0), (1, a0)] m (ig, rl, m') := h
  have h := CR_putf h rfl
  have h : MR X ρ 3 0 0 qP277 N 5 [a0, a1, a2] [] (mu m a0 0 0) (ig, rl, m') := h
  have h := CR_aload_n h rfl
  have h : MR X ρ 3 0 0 qP277 N 6 [a0, a1, a2] [(1, a0)] (mu m a0 0 0) (ig, rl, m') := h
  have h := CR_iconst h rfl rfl
  have h : MR X ρ 3 0 0 qP277 N 7 [a0, a1, a2] [(1, 1), (1, a0)] (mu m a0 0 0) (ig, rl, m') := h
  have h := CR_iload_n h rfl
  have h : MR X ρ 3 0 0 qP277 N 8 [a0, a1, a2] [(1, a1), (1, 1), (1, a0)] (mu m a0 0 0) (ig, rl, m') := h
  have h := CR_iload_n h rfl
  have h : MR X ρ 3 0 0 qP277 N 9 [a0, a1, a2] [(1, a2), (1, a1), (1, 1), (1, a0)] (mu m a0 0 0) (ig, rl, m') := h
  have h := CR_aload_n h rfl
  have h : MR X ρ 3 0 0 qP277 N 10 [a0, a1, a2] [(1, a0), (1, a2), (1, a1), (1, 1), (1, a0)] (mu m a0 0 0) (ig, rl, m') := h
  have h := CR_iload_n h rfl
  have h : MR X ρ 3 0 0 qP277 N 11 [a0, a1, a2] [(1, a1), (1, a0), (1, a2), (1, a1), (1, 1), (1, a0)] (mu m a0 0 0) (ig, rl, m') := h
  obtain ⟨r1, m2, q3, h⟩ := MR_invV h rfl rfl
  have q3 : Run X ρ 213 [(1, a0), (1, a1)] (mu m a0 0 0) r1 m2 := q3
  obtain ⟨e4, e5⟩ := d213 q3
  rw [e4, e5] at h
  have h : MR X ρ 3 0 0 qP277 N 14 [a0, a1, a2] [(1, f213 (mu m a0 0 0) a0 a1), (1, a2), (1, a1), (1, 1), (1, a0)] (mu m a0 0 0) (ig, rl, m') := h
  rcases MR_if h rfl rfl with ⟨c6, h⟩ | ⟨c6, h⟩
  ·
    have c6 : (f213 (mu m a0 0 0) a0 a1) = 0 := c6
    have h : MR X ρ 3 0 0 qP277 N 29 [a0, a1, a2] [(1, a2), (1, a1), (1, 1), (1, a0)] (mu m a0 0 0) (ig, rl, m') := h
    have h := CR_iconst h rfl rfl
    have h : MR X ρ 3 0 0 qP277 N 30 [a0, a1, a2] [(1, 0), (1, a2), (1, a1), (1, 1), (1, a0)] (mu m a0 0 0) (ig, rl, m') := h
    obtain ⟨r7, m8, q9, h⟩ := MR_invV h rfl rfl
    have q9 : Run X ρ 164 [(1, a0), (1, 1), (1, a1), (1, a2), (1, 0)] (mu m a0 0 0) r7 m8 := q9
    obtain ⟨e10, e11⟩ := d164 q9
    rw [e10, e11] at h
    have h : MR X ρ 3 0 0 qP277 N 33 [a0, a1, a2] [(1, f164 (mu m a0 0 0) a0 1 a1 a2 0)] (g164 (mu m a0 0 0) a0 1 a1 a2 0) (ig, rl, m') := h
    have e := CR_end h rfl rfl
    cases e
    exact ⟨congrArg (fun z => [(1, z)]) (Eq.symm (show f277 m a0 a1 a2 = _ from (if_pos c6).trans (rfl))), Eq.symm (show g277 m a0 a1 a2 = _ from (if_pos c6).trans (rfl))⟩
  ·
    have c6 : ¬ ((f213 (mu m a0 0 0) a0 a1) = 0) := c6
    have h : MR X ρ 3 0 0 qP277 N 17 [a0, a1, a2] [(1, a2), (1, a1), (1, 1), (1, a0)] (mu m a0 0 0) (ig, rl, m') := h
    have h := CR_aload_n h rfl
    have h : MR X ρ 3 0 0 qP277 N 18 [a0, a1, a2] [(1, a0), (1, a2), (1, a1), (1, 1), (1, a0)] (mu m a0 0 0) (ig, rl, m') := h
    have h := CR_iload_n h rfl
    have h : MR X ρ 3 0 0 qP277 N 19 [a0, a1, a2] [(1, a2), (1, a0), (1, a2), (1, a1), (1, 1), (1, a0)] (mu m a0 0 0) (ig, rl, m') := h
    obtain ⟨r12, m13, q14, h⟩ := MR_invV h rfl rfl
    have q14 : Run X ρ 213 [(1, a0), (1, a2)] (mu m a0 0 0) r12 m13 := q14
    obtain ⟨e15, e16⟩ := d213 q14
    rw [e15, e16] at h
    have h : MR X ρ 3 0 0 qP277 N 22 [a0, a1, a2] [(1, f213 (mu m a0 0 0) a0 a2), (1, a2), (1, a1), (1, 1), (1, a0)] (mu m a0 0 0) (ig, rl, m') := h
    rcases MR_if h rfl rfl with ⟨c17, h⟩ | ⟨c17, h⟩
    ·
      have c17 : (f213 (mu m a0 0 0) a0 a2) = 0 := c17
      have h : MR X ρ 3 0 0 qP277 N 29 [a0, a1, a2] [(1, a2), (1, a1), (1, 1), (1, a0)] (mu m a0 0 0) (ig, rl, m') := h
      have h := CR_iconst h rfl rfl
      have h : MR X ρ 3 0 0 qP277 N 30 [a0, a1, a2] [(1, 0), (1, a2), (1, a1), (1, 1), (1, a0)] (mu m a0 0 0) (ig, rl, m') := h
      obtain ⟨r18, m19, q20, h⟩ := MR_invV h rfl rfl
      have q20 : Run X ρ 164 [(1, a0), (1, 1), (1, a1), (1, a2), (1, 0)] (mu m a0 0 0) r18 m19 := q20
      obtain ⟨e21, e22⟩ := d164 q20
      rw [e21, e22] at h
      have h : MR X ρ 3 0 0 qP277 N 33 [a0, a1, a2] [(1, f164 (mu m a0 0 0) a0 1 a1 a2 0)] (g164 (mu m a0 0 0) a0 1 a1 a2 0) (ig, rl, m') := h
      have e := CR_end h rfl rfl
      cases e
      exact ⟨congrArg (fun z => [(1, z)]) (Eq.symm (show f277 m a0 a1 a2 = _ from (if_neg c6).trans ((if_pos c17).trans (rfl)))), Eq.symm (show g277 m a0 a1 a2 = _ from (if_neg c6).trans ((if_pos c17).trans (rfl)))⟩
    ·
      have c17 : ¬ ((f213 (mu m a0 0 0) a0 a2) = 0) := c17
      have h : MR X ρ 3 0 0 qP277 N 25 [a0, a1, a2] [(1, a2), (1, a1), (1, 1), (1, a0)] (mu m a0 0 0) (ig, rl, m') := h
      have h := CR_iconst h rfl rfl
      have h : MR X ρ 3 0 0 qP277 N 26 [a0, a1, a2] [(1, 1), (1, a2), (1, a1), (1, 1), (1, a0)] (mu m a0 0 0) (ig, rl, m') := h
      have h := CR_go h rfl rfl
      have h : MR X ρ 3 0 0 qP277 N 30 [a0, a1, a2] [(1, 1), (1, a2), (1, a1), (1, 1), (1, a0)] (mu m a0 0 0) (ig, rl, m') := h
      obtain ⟨r23, m24, q25, h⟩ := MR_invV h rfl rfl
      have q25 : Run X ρ 164 [(1, a0), (1, 1), (1, a1), (1, a2), (1, 1)] (mu m a0 0 0) r23 m24 := q25
      obtain ⟨e26, e27⟩ := d164 q25
      rw [e26, e27] at h
      have h : MR X ρ 3 0 0 qP277 N 33 [a0, a1, a2] [(1, f164 (mu m a0 0 0) a0 1 a1 a2 1)] (g164 (mu m a0 0 0) a0 1 a1 a2 1) (ig, rl, m') := h
      have e := CR_end h rfl rfl
      cases e
      exact ⟨congrArg (fun z => [(1, z)]) (Eq.symm (show f277 m a0 a1 a2 = _ from (if_neg c6).trans ((if_neg c17).trans (rfl)))), Eq.symm (show g277 m a0 a1 a2 = _ from (if_neg c6).trans ((if_neg c17).trans (rfl)))⟩
set_option maxRecDepth 16384 in
/-- TriplicateForms.cover()I -/
noncomputable def f8 (m : MM) (a0 : Int) : Int := f41 m (m a0 8) (m a0 3)
set_option maxRecDepth 16384 in
noncomputable def g8 (m : MM) (a0 : Int) : MM := g41 m (m a0 8) (m a0 3)
set_option maxRecDepth 16384 in
theorem d8 {X : KO} {ρ : Nat → Int32} {m m' : MM} {rl : List (Nat × Int)} {a0 : Int} (h : Run X ρ 8 [(1, a0)] m rl m') : rl = [(1, f8 m a0)] ∧ m' = g8 m a0 := by
  obtain ⟨N, ig, h⟩ := Run_CR h rfl
  have h : MR X ρ 1 0 0 qP8 N 0 [a0] [] m (ig, rl, m') := h
  have h := CR_aload_n h rfl
  have h : MR X ρ 1 0 0 qP8 N 1 [a0] [(1, a0)] m (ig, rl, m') := h
  have h := CR_getf h rfl (by decide)
  have h : MR X ρ 1 0 0 qP8 N 4 [a0] [(1, m a0 8)] m (ig, rl, m') := h
  have h := CR_aload_n h rfl
  have h : MR X ρ 1 0 0 qP8 N 5 [a0] [(1, a0), (1, m a0 8)] m (ig, rl, m') := h
  have h := CR_getf h rfl (by decide)
  have h : MR X ρ 1 0 0 qP8 N 8 [a0] [(1, m a0 3), (1, m a0 8)] m (ig, rl, m') := h
  obtain ⟨r1, m2, q3, h⟩ := MR_invV h rfl rfl
  have q3 : Run X ρ 41 [(1, m a0 8), (1, m a0 3)] m r1 m2 := q3
  obtain ⟨e4, e5⟩ := d41 q3
  rw [e4, e5] at h
  have h : MR X ρ 1 0 0 qP8 N 11 [a0] [(1, f41 m (m a0 8) (m a0 3))] (g41 m (m a0 8) (m a0 3)) (ig, rl, m') := h
  have e := CR_end h rfl rfl
  cases e
  exact ⟨congrArg (fun z => [(1, z)]) (Eq.symm (show f8 m a0 = _ from rfl)), Eq.symm (show g8 m a0 = _ from rfl)⟩
set_option maxRecDepth 16384 in
/-- TriplicateForms.drawn(II)I -/
noncomputable def f11 (m : MM) (a0 a1 a2 : Int) : Int := (if a1 < 1 then -1 else (if 60 < a1 then -1 else (if (m (m a0 1) 6) = 0 then -1 else (if (m (m a0 3) 8) < 400 then f121 (g162 m (m a0 5) (m a0 3)) ((g162 m (m a0 5) (m a0 3)) a0 3) a1 a2 else 0))))
set_option maxRecDepth 16384 in
noncomputable def g11 (m : MM) (a0 a1 a2 : Int) : MM := (if a1 < 1 then m else (if 60 < a1 then m else (if (m (m a0 1) 6) = 0 then m else (if (m (m a0 3) 8) < 400 then g121 (g162 m (m a0 5) (m a0 3)) ((g162 m (m a0 5) (m a0 3)) a0 3) a1 a2 else m))))
set_option maxRecDepth 16384 in
theorem d11 {X : KO} {ρ : Nat → Int32} {m m' : MM} {rl : List (Nat × Int)} {a0 a1 a2 : Int} (h : Run X ρ 11 [(1, a0), (1, a1), (1, a2)] m rl m') : rl = [(1, f11 m a0 a1 a2)] ∧ m' = g11 m a0 a1 a2 := by
  obtain ⟨N, ig, h⟩ := Run_CR h rfl
  have h : MR X ρ 3 0 0 qP11 N 0 [a0, a1, a2] [] m (ig, rl, m') := h
  have h := CR_iload_n h rfl
  have h : MR X ρ 3 0 0 qP11 N 1 [a0, a1, a2] [(1, a1)] m (ig, rl, m') := h
  have h := CR_iconst h rfl rfl
  have h : MR X ρ 3 0 0 qP11 N 2 [a0, a1, a2] [(1, 1), (1, a1)] m (ig, rl, m') := h
  rcases MR_icmp h rfl rfl with ⟨c1, h⟩ | ⟨c1, h⟩
  ·
    have c1 : a1 < 1 := c1
    have h : MR X ρ 3 0 0 qP11 N 21 [a0, a1, a2] [] m (ig, rl, m') := h
    have h := CR_iconst h rfl rfl
    have h : MR X ρ 3 0 0 qP11 N 22 [a0, a1, a2] [(1, -1)] m (ig, rl, m') := h
    have e := CR_end h rfl rfl
    cases e
    exact ⟨congrArg (fun z => [(1, z)]) (Eq.symm (show f11 m a0 a1 a2 = _ from (if_pos c1).trans (rfl))), Eq.symm (show g11 m a0 a1 a2 = _ from (if_pos c1).trans (rfl))⟩
  ·
    have c1 : ¬ (a1 < 1) := c1
    have h : MR X ρ 3 0 0 qP11 N 5 [a0, a1, a2] [] m (ig, rl, m') := h
    have h := CR_iload_n h rfl
    have h : MR X ρ 3 0 0 qP11 N 6 [a0, a1, a2] [(1, a1)] m (ig, rl, m') := h
    have h := CR_bipush h rfl rfl
    have h : MR X ρ 3 0 0 qP11 N 8 [a0, a1, a2] [(1, 60), (1, a1)] m (ig, rl, m') := h
    rcases MR_icmp h rfl rfl with ⟨c2, h⟩ | ⟨c2, h⟩
    ·
      have c2 : 60 < a1 := c2
      have h : MR X ρ 3 0 0 qP11 N 21 [a0, a1, a2] [] m (ig, rl, m') := h
      have h := CR_iconst h rfl rfl
      have h : MR X ρ 3 0 0 qP11 N 22 [a0, a1, a2] [(1, -1)] m (ig, rl, m') := h
      have e := CR_end h rfl rfl
      cases e
      exact ⟨congrArg (fun z => [(1, z)]) (Eq.symm (show f11 m a0 a1 a2 = _ from (if_neg c1).trans ((if_pos c2).trans (rfl)))), Eq.symm (show g11 m a0 a1 a2 = _ from (if_neg c1).trans ((if_pos c2).trans (rfl)))⟩
    ·
      have c2 : ¬ (60 < a1) := c2
      have h : MR X ρ 3 0 0 qP11 N 11 [a0, a1, a2] [] m (ig, rl, m') := h
      have h := CR_aload_n h rfl
      have h : MR X ρ 3 0 0 qP11 N 12 [a0, a1, a2] [(1, a0)] m (ig, rl, m') := h
      have h := CR_getf h rfl (by decide)
      have h : MR X ρ 3 0 0 qP11 N 15 [a0, a1, a2] [(1, m a0 1)] m (ig, rl, m') := h
      have h := CR_getf h rfl (by decide)
      have h : MR X ρ 3 0 0 qP11 N 18 [a0, a1, a2] [(1, m (m a0 1) 6)] m (ig, rl, m') := h
      rcases MR_if h rfl rfl with ⟨c3, h⟩ | ⟨c3, h⟩
      ·
        have c3 : ¬ ((m (m a0 1) 6) = 0) := c3
        have h : MR X ρ 3 0 0 qP11 N 23 [a0, a1, a2] [] m (ig, rl, m') := h
        have h := CR_aload_n h rfl
        have h : MR X ρ 3 0 0 qP11 N 24 [a0, a1, a2] [(1, a0)] m (ig, rl, m') := h
        have h := CR_getf h rfl (by decide)
        have h : MR X ρ 3 0 0 qP11 N 27 [a0, a1, a2] [(1, m a0 3)] m (ig, rl, m') := h
        have h := CR_getf h rfl (by decide)
        have h : MR X ρ 3 0 0 qP11 N 30 [a0, a1, a2] [(1, m (m a0 3) 8)] m (ig, rl, m') := h
        have h := CR_sipush h rfl rfl
        have h : MR X ρ 3 0 0 qP11 N 33 [a0, a1, a2] [(1, 400), (1, m (m a0 3) 8)] m (ig, rl, m') := h
        rcases MR_icmp h rfl rfl with ⟨c4, h⟩ | ⟨c4, h⟩
        ·
          have c4 : (m (m a0 3) 8) < 400 := c4
          have h : MR X ρ 3 0 0 qP11 N 38 [a0, a1, a2] [] m (ig, rl, m') := h
          have h := CR_aload_n h rfl
          have h : MR X ρ 3 0 0 qP11 N 39 [a0, a1, a2] [(1, a0)] m (ig, rl, m') := h
          have h := CR_getf h rfl (by decide)
          have h : MR X ρ 3 0 0 qP11 N 42 [a0, a1, a2] [(1, m a0 5)] m (ig, rl, m') := h
          have h := CR_aload_n h rfl
          have h : MR X ρ 3 0 0 qP11 N 43 [a0, a1, a2] [(1, a0), (1, m a0 5)] m (ig, rl, m') := h
          have h := CR_getf h rfl (by decide)
          have h : MR X ρ 3 0 0 qP11 N 46 [a0, a1, a2] [(1, m a0 3), (1, m a0 5)] m (ig, rl, m') := h
          obtain ⟨r5, m6, q7, h⟩ := MR_invV h rfl rfl
          have q7 : Run X ρ 162 [(1, m a0 5), (1, m a0 3)] m r5 m6 := q7
          obtain ⟨e8, e9⟩ := d162 q7
          rw [e8, e9] at h
          have h : MR X ρ 3 0 0 qP11 N 49 [a0, a1, a2] [] (g162 m (m a0 5) (m a0 3)) (ig, rl, m') := h
          have h := CR_aload_n h rfl
          have h : MR X ρ 3 0 0 qP11 N 50 [a0, a1, a2] [(1, a0)] (g162 m (m a0 5) (m a0 3)) (ig, rl, m') := h
          have h := CR_getf h rfl (by decide)
          have h : MR X ρ 3 0 0 qP11 N 53 [a0, a1, a2] [(1, (g162 m (m a0 5) (m a0 3)) a0 3)] (g162 m (m a0 5) (m a0 3)) (ig, rl, m') := h
          have h := CR_iload_n h rfl
          have h : MR X ρ 3 0 0 qP11 N 54 [a0, a1, a2] [(1, a1), (1, (g162 m (m a0 5) (m a0 3)) a0 3)] (g162 m (m a0 5) (m a0 3)) (ig, rl, m') := h
          have h := CR_iload_n h rfl
          have h : MR X ρ 3 0 0 qP11 N 55 [a0, a1, a2] [(1, a2), (1, a1), (1, (g162 m (m a0 5) (m a0 3)) a0 3)] (g162 m (m a0 5) (m a0 3)) (ig, rl, m') := h
          obtain ⟨r10, m11, q12, h⟩ := MR_invV h rfl rfl
          have q12 : Run X ρ 121 [(1, (g162 m (m a0 5) (m a0 3)) a0 3), (1, a1), (1, a2)] (g162 m (m a0 5) (m a0 3)) r10 m11 := q12
          obtain ⟨e13, e14⟩ := d121 q12
          rw [e13, e14] at h
          have h : MR X ρ 3 0 0 qP11 N 58 [a0, a1, a2] [(1, f121 (g162 m (m a0 5) (m a0 3)) ((g162 m (m a0 5) (m a0 3)) a0 3) a1 a2)] (g121 (g162 m (m a0 5) (m a0 3)) ((g162 m (m a0 5) (m a0 3)) a0 3) a1 a2) (ig, rl, m') := h
          have e := CR_end h rfl rfl
          cases e
          exact ⟨congrArg (fun z => [(1, z)]) (Eq.symm (show f11 m a0 a1 a2 = _ from (if_neg c1).trans ((if_neg c2).trans ((if_neg c3).trans ((if_pos c4).trans (rfl)))))), Eq.symm (show g11 m a0 a1 a2 = _ from (if_neg c1).trans ((if_neg c2).trans ((if_neg c3).trans ((if_pos c4).trans (rfl)))))⟩
        ·
          have c4 : ¬ ((m (m a0 3) 8) < 400) := c4
          have h : MR X ρ 3 0 0 qP11 N 36 [a0, a1, a2] [] m (ig, rl, m') := h
          have h := CR_iconst h rfl rfl
          have h : MR X ρ 3 0 0 qP11 N 37 [a0, a1, a2] [(1, 0)] m (ig, rl, m') := h
          have e := CR_end h rfl rfl
          cases e
          exact ⟨congrArg (fun z => [(1, z)]) (Eq.symm (show f11 m a0 a1 a2 = _ from (if_neg c1).trans ((if_neg c2).trans ((if_neg c3).trans ((if_neg c4).trans (rfl)))))), Eq.symm (show g11 m a0 a1 a2 = _ from (if_neg c1).trans ((if_neg c2).trans ((if_neg c3).trans ((if_neg c4).trans (rfl)))))⟩
      ·
        have c3 : (m (m a0 1) 6) = 0 := Decidable.of_not_not (show ¬ ¬ ((m (m a0 1) 6) = 0) from c3)
        have h : MR X ρ 3 0 0 qP11 N 21 [a0, a1, a2] [] m (ig, rl, m') := h
        have h := CR_iconst h rfl rfl
        have h : MR X ρ 3 0 0 qP11 N 22 [a0, a1, a2] [(1, -1)] m (ig, rl, m') := h
        have e := CR_end h rfl rfl
        cases e
        exact ⟨congrArg (fun z => [(1, z)]) (Eq.symm (show f11 m a0 a1 a2 = _ from (if_neg c1).trans ((if_neg c2).trans ((if_pos c3).trans (rfl))))), Eq.symm (show g11 m a0 a1 a2 = _ from (if_neg c1).trans ((if_neg c2).trans ((if_pos c3).trans (rfl))))⟩
set_option maxRecDepth 16384 in
/-- TriplicateForms.odds(III)I, the loop at 30 -/
noncomputable def S24_30 (m : MM) (b0 b1 b2 b3 b4 b5 : Int) : (Int × Int × MM) ⊕ (Nat × Int × (Int × Int × MM)) := (if b2 ≤ b5 then .inr (1, 0, (b4, b5, m)) else (if (f127 (g121 (g113 m (m b0 4) (m b0 3)) ((g113 m (m b0 4) (m b0 3)) b0 4) 20 (s32 (b3 + b5))) ((g121 (g113 m (m b0 4) (m b0 3)) ((g113 m (m b0 4) (m b0 3)) b0 4) 20 (s32 (b3 + b5))) b0 4) b1) = 2 then .inl (s32 (b4 + 1), s32 (b5 + 1), g121 (g113 m (m b0 4) (m b0 3)) ((g113 m (m b0 4) (m b0 3)) b0 4) 20 (s32 (b3 + b5))) else .inl (b4, s32 (b5 + 1), g121 (g113 m (m b0 4) (m b0 3)) ((g113 m (m b0 4) (m b0 3)) b0 4) 20 (s32 (b3 + b5)))))
set_option maxRecDepth 16384 in
noncomputable def K24_30 (m : MM) (b0 b1 b2 b3 b4 b5 : Int) : (Int × Int × MM) → (Int × Int × MM) ⊕ (Nat × Int × (Int × Int × MM)) := fun s => S24_30 s.2.2 b0 b1 b2 b3 s.1 s.2.1
set_option maxRecDepth 16384 in
noncomputable def L24_30 (m : MM) (b0 b1 b2 b3 b4 b5 : Int) : (Nat × Int × (Int × Int × MM)) := Lp (K24_30 m b0 b1 b2 b3 b4 b5) (b4, b5, m)
set_option maxRecDepth 16384 in
theorem l24_30 {X : KO} {ρ : Nat → Int32} {o : Instr × List (Nat × Int) × MM} {K : Nat} : ∀ {N : Nat} {m : MM} {b0 b1 b2 b3 b4 b5 : Int}, N ≤ K → MR X ρ 6 0 0 qP24 N 30 [b0, b1, b2, b3, b4, b5] [] m o → (MR X ρ 6 0 0 qP24 K 82 [b0, b1, b2, b3, (L24_30 m b0 b1 b2 b3 b4 b5).2.2.1, (L24_30 m b0 b1 b2 b3 b4 b5).2.2.2.1] [] ((L24_30 m b0 b1 b2 b3 b4 b5).2.2.2.2) o) := by
  intro N
  induction N using Nat.strongRecOn with
  | ind N ih =>
  intro m b0 b1 b2 b3 b4 b5 hK h
  have h := CR_iload h rfl
  have h : MR X ρ 6 0 0 qP24 N 32 [b0, b1, b2, b3, b4, b5] [(1, b5)] m o := h
  have h := CR_iload_n h rfl
  have h : MR X ρ 6 0 0 qP24 N 33 [b0, b1, b2, b3, b4, b5] [(1, b2), (1, b5)] m o := h
  rcases MR_icmp h rfl rfl with ⟨c1, h⟩ | ⟨c1, h⟩
  ·
    have c1 : b2 ≤ b5 := c1
    have h : MR X ρ 6 0 0 qP24 N 82 [b0, b1, b2, b3, b4, b5] [] m o := h
    have hr : L24_30 m b0 b1 b2 b3 b4 b5 = (1, 0, (b4, b5, m)) := Lp_inr (f := K24_30 m b0 b1 b2 b3 b4 b5) (s := (b4, b5, m)) ((if_pos c1).trans (rfl))
    rw [hr]
    exact CR_le (by omega) h
  ·
    have c1 : ¬ (b2 ≤ b5) := c1
    have h : MR X ρ 6 0 0 qP24 N 36 [b0, b1, b2, b3, b4, b5] [] m o := h
    have h := CR_aload_n h rfl
    have h : MR X ρ 6 0 0 qP24 N 37 [b0, b1, b2, b3, b4, b5] [(1, b0)] m o := h
    have h := CR_getf h rfl (by decide)
    have h : MR X ρ 6 0 0 qP24 N 40 [b0, b1, b2, b3, b4, b5] [(1, m b0 4)] m o := h
    have h := CR_aload_n h rfl
    have h : MR X ρ 6 0 0 qP24 N 41 [b0, b1, b2, b3, b4, b5] [(1, b0), (1, m b0 4)] m o := h
    have h := CR_getf h rfl (by decide)
    have h : MR X ρ 6 0 0 qP24 N 44 [b0, b1, b2, b3, b4, b5] [(1, m b0 3), (1, m b0 4)] m o := h
    obtain ⟨r2, m3, q4, h⟩ := MR_invV h rfl rfl
    have q4 : Run X ρ 113 [(1, m b0 4), (1, m b0 3)] m r2 m3 := q4
    obtain ⟨e5, e6⟩ := d113 q4
    rw [e5, e6] at h
    have h : MR X ρ 6 0 0 qP24 N 47 [b0, b1, b2, b3, b4, b5] [] (g113 m (m b0 4) (m b0 3)) o := h
    have h := CR_aload_n h rfl
    have h : MR X ρ 6 0 0 qP24 N 48 [b0, b1, b2, b3, b4, b5] [(1, b0)] (g113 m (m b0 4) (m b0 3)) o := h
    have h := CR_getf h rfl (by decide)
    have h : MR X ρ 6 0 0 qP24 N 51 [b0, b1, b2, b3, b4, b5] [(1, (g113 m (m b0 4) (m b0 3)) b0 4)] (g113 m (m b0 4) (m b0 3)) o := h
    have h := CR_bipush h rfl rfl
    have h : MR X ρ 6 0 0 qP24 N 53 [b0, b1, b2, b3, b4, b5] [(1, 20), (1, (g113 m (m b0 4) (m b0 3)) b0 4)] (g113 m (m b0 4) (m b0 3)) o := h
    have h := CR_iload_n h rfl
    have h : MR X ρ 6 0 0 qP24 N 54 [b0, b1, b2, b3, b4, b5] [(1, b3), (1, 20), (1, (g113 m (m b0 4) (m b0 3)) b0 4)] (g113 m (m b0 4) (m b0 3)) o := h
    have h := CR_iload h rfl
    have h : MR X ρ 6 0 0 qP24 N 56 [b0, b1, b2, b3, b4, b5] [(1, b5), (1, b3), (1, 20), (1, (g113 m (m b0 4) (m b0 3)) b0 4)] (g113 m (m b0 4) (m b0 3)) o := h
    have h := CR_iadd h rfl
    have h : MR X ρ 6 0 0 qP24 N 57 [b0, b1, b2, b3, b4, b5] [(1, s32 (b3 + b5)), (1, 20), (1, (g113 m (m b0 4) (m b0 3)) b0 4)] (g113 m (m b0 4) (m b0 3)) o := h
    obtain ⟨r7, m8, q9, h⟩ := MR_invV h rfl rfl
    have q9 : Run X ρ 121 [(1, (g113 m (m b0 4) (m b0 3)) b0 4), (1, 20), (1, s32 (b3 + b5))] (g113 m (m b0 4) (m b0 3)) r7 m8 := q9
    obtain ⟨e10, e11⟩ := d121 q9
    rw [e10, e11] at h
    have h : MR X ρ 6 0 0 qP24 N 60 [b0, b1, b2, b3, b4, b5] [(1, f121 (g113 m (m b0 4) (m b0 3)) ((g113 m (m b0 4) (m b0 3)) b0 4) 20 (s32 (b3 + b5)))] (g121 (g113 m (m b0 4) (m b0 3)) ((g113 m (m b0 4) (m b0 3)) b0 4) 20 (s32 (b3 + b5))) o := h
    have h := CR_pop h rfl
    have h : MR X ρ 6 0 0 qP24 N 61 [b0, b1, b2, b3, b4, b5] [] (g121 (g113 m (m b0 4) (m b0 3)) ((g113 m (m b0 4) (m b0 3)) b0 4) 20 (s32 (b3 + b5))) o := h
    have h := CR_aload_n h rfl
    have h : MR X ρ 6 0 0 qP24 N 62 [b0, b1, b2, b3, b4, b5] [(1, b0)] (g121 (g113 m (m b0 4) (m b0 3)) ((g113 m (m b0 4) (m b0 3)) b0 4) 20 (s32 (b3 + b5))) o := h
    have h := CR_getf h rfl (by decide)
    have h : MR X ρ 6 0 0 qP24 N 65 [b0, b1, b2, b3, b4, b5] [(1, (g121 (g113 m (m b0 4) (m b0 3)) ((g113 m (m b0 4) (m b0 3)) b0 4) 20 (s32 (b3 + b5))) b0 4)] (g121 (g113 m (m b0 4) (m b0 3)) ((g113 m (m b0 4) (m b0 3)) b0 4) 20 (s32 (b3 + b5))) o := h
    have h := CR_iload_n h rfl
    have h : MR X ρ 6 0 0 qP24 N 66 [b0, b1, b2, b3, b4, b5] [(1, b1), (1, (g121 (g113 m (m b0 4) (m b0 3)) ((g113 m (m b0 4) (m b0 3)) b0 4) 20 (s32 (b3 + b5))) b0 4)] (g121 (g113 m (m b0 4) (m b0 3)) ((g113 m (m b0 4) (m b0 3)) b0 4) 20 (s32 (b3 + b5))) o := h
    obtain ⟨r12, m13, q14, h⟩ := MR_invV h rfl rfl
    have q14 : Run X ρ 127 [(1, (g121 (g113 m (m b0 4) (m b0 3)) ((g113 m (m b0 4) (m b0 3)) b0 4) 20 (s32 (b3 + b5))) b0 4), (1, b1)] (g121 (g113 m (m b0 4) (m b0 3)) ((g113 m (m b0 4) (m b0 3)) b0 4) 20 (s32 (b3 + b5))) r12 m13 := q14
    obtain ⟨e15, e16⟩ := d127 q14
    rw [e15, e16] at h
    have h : MR X ρ 6 0 0 qP24 N 69 [b0, b1, b2, b3, b4, b5] [(1, f127 (g121 (g113 m (m b0 4) (m b0 3)) ((g113 m (m b0 4) (m b0 3)) b0 4) 20 (s32 (b3 + b5))) ((g121 (g113 m (m b0 4) (m b0 3)) ((g113 m (m b0 4) (m b0 3)) b0 4) 20 (s32 (b3 + b5))) b0 4) b1)] (g121 (g113 m (m b0 4) (m b0 3)) ((g113 m (m b0 4) (m b0 3)) b0 4) 20 (s32 (b3 + b5))) o := h
    have h := CR_iconst h rfl rfl
    have h : MR X ρ 6 0 0 qP24 N 70 [b0, b1, b2, b3, b4, b5] [(1, 2), (1, f127 (g121 (g113 m (m b0 4) (m b0 3)) ((g113 m (m b0 4) (m b0 3)) b0 4) 20 (s32 (b3 + b5))) ((g121 (g113 m (m b0 4) (m b0 3)) ((g113 m (m b0 4) (m b0 3)) b0 4) 20 (s32 (b3 + b5))) b0 4) b1)] (g121 (g113 m (m b0 4) (m b0 3)) ((g113 m (m b0 4) (m b0 3)) b0 4) 20 (s32 (b3 + b5))) o := h
    rcases MR_icmp h rfl rfl with ⟨c17, h⟩ | ⟨c17, h⟩
    ·
      have c17 : ¬ ((f127 (g121 (g113 m (m b0 4) (m b0 3)) ((g113 m (m b0 4) (m b0 3)) b0 4) 20 (s32 (b3 + b5))) ((g121 (g113 m (m b0 4) (m b0 3)) ((g113 m (m b0 4) (m b0 3)) b0 4) 20 (s32 (b3 + b5))) b0 4) b1) = 2) := c17
      have h : MR X ρ 6 0 0 qP24 N 76 [b0, b1, b2, b3, b4, b5] [] (g121 (g113 m (m b0 4) (m b0 3)) ((g113 m (m b0 4) (m b0 3)) b0 4) 20 (s32 (b3 + b5))) o := h
      have h := CR_inc h rfl (Nat.le_of_ble_eq_true rfl)
      have h : MR X ρ 6 0 0 qP24 N 79 [b0, b1, b2, b3, b4, s32 (b5 + 1)] [] (g121 (g113 m (m b0 4) (m b0 3)) ((g113 m (m b0 4) (m b0 3)) b0 4) 20 (s32 (b3 + b5))) o := h
      obtain ⟨N18, eN18, h⟩ := CR_goto h rfl rfl
      have h : MR X ρ 6 0 0 qP24 N18 30 [b0, b1, b2, b3, b4, s32 (b5 + 1)] [] (g121 (g113 m (m b0 4) (m b0 3)) ((g113 m (m b0 4) (m b0 3)) b0 4) 20 (s32 (b3 + b5))) o := h
      have hr : L24_30 m b0 b1 b2 b3 b4 b5 = L24_30 (g121 (g113 m (m b0 4) (m b0 3)) ((g113 m (m b0 4) (m b0 3)) b0 4) 20 (s32 (b3 + b5))) b0 b1 b2 b3 b4 (s32 (b5 + 1)) := Lp_inl (f := K24_30 m b0 b1 b2 b3 b4 b5) (s := (b4, b5, m)) (s' := (b4, s32 (b5 + 1), g121 (g113 m (m b0 4) (m b0 3)) ((g113 m (m b0 4) (m b0 3)) b0 4) 20 (s32 (b3 + b5)))) ((if_neg c1).trans ((if_neg c17).trans (rfl)))
      rw [hr]
      exact ih N18 (by omega) (by omega) h
    ·
      have c17 : (f127 (g121 (g113 m (m b0 4) (m b0 3)) ((g113 m (m b0 4) (m b0 3)) b0 4) 20 (s32 (b3 + b5))) ((g121 (g113 m (m b0 4) (m b0 3)) ((g113 m (m b0 4) (m b0 3)) b0 4) 20 (s32 (b3 + b5))) b0 4) b1) = 2 := Decidable.of_not_not (show ¬ ¬ ((f127 (g121 (g113 m (m b0 4) (m b0 3)) ((g113 m (m b0 4) (m b0 3)) b0 4) 20 (s32 (b3 + b5))) ((g121 (g113 m (m b0 4) (m b0 3)) ((g113 m (m b0 4) (m b0 3)) b0 4) 20 (s32 (b3 + b5))) b0 4) b1) = 2) from c17)
      have h : MR X ρ 6 0 0 qP24 N 73 [b0, b1, b2, b3, b4, b5] [] (g121 (g113 m (m b0 4) (m b0 3)) ((g113 m (m b0 4) (m b0 3)) b0 4) 20 (s32 (b3 + b5))) o := h
      have h := CR_inc h rfl (Nat.le_of_ble_eq_true rfl)
      have h : MR X ρ 6 0 0 qP24 N 76 [b0, b1, b2, b3, s32 (b4 + 1), b5] [] (g121 (g113 m (m b0 4) (m b0 3)) ((g113 m (m b0 4) (m b0 3)) b0 4) 20 (s32 (b3 + b5))) o := h
      have h := CR_inc h rfl (Nat.le_of_ble_eq_true rfl)
      have h : MR X ρ 6 0 0 qP24 N 79 [b0, b1, b2, b3, s32 (b4 + 1), s32 (b5 + 1)] [] (g121 (g113 m (m b0 4) (m b0 3)) ((g113 m (m b0 4) (m b0 3)) b0 4) 20 (s32 (b3 + b5))) o := h
      obtain ⟨N19, eN19, h⟩ := CR_goto h rfl rfl
      have h : MR X ρ 6 0 0 qP24 N19 30 [b0, b1, b2, b3, s32 (b4 + 1), s32 (b5 + 1)] [] (g121 (g113 m (m b0 4) (m b0 3)) ((g113 m (m b0 4) (m b0 3)) b0 4) 20 (s32 (b3 + b5))) o := h
      have hr : L24_30 m b0 b1 b2 b3 b4 b5 = L24_30 (g121 (g113 m (m b0 4) (m b0 3)) ((g113 m (m b0 4) (m b0 3)) b0 4) 20 (s32 (b3 + b5))) b0 b1 b2 b3 (s32 (b4 + 1)) (s32 (b5 + 1)) := Lp_inl (f := K24_30 m b0 b1 b2 b3 b4 b5) (s := (b4, b5, m)) (s' := (s32 (b4 + 1), s32 (b5 + 1), g121 (g113 m (m b0 4) (m b0 3)) ((g113 m (m b0 4) (m b0 3)) b0 4) 20 (s32 (b3 + b5)))) ((if_neg c1).trans ((if_pos c17).trans (rfl)))
      rw [hr]
      exact ih N19 (by omega) (by omega) h
set_option maxRecDepth 16384 in
/-- TriplicateForms.odds(III)I -/
noncomputable def f24 (m : MM) (a0 a1 a2 a3 : Int) : Int := (if (f72 m (m a0 1) a1) = 0 then -1 else (if a2 < 1 then -1 else (if a2 ≤ 30 then (L24_30 m a0 a1 a2 a3 0 0).2.2.1 else -1)))
set_option maxRecDepth 16384 in
noncomputable def g24 (m : MM) (a0 a1 a2 a3 : Int) : MM := (if (f72 m (m a0 1) a1) = 0 then m else (if a2 < 1 then m else (if a2 ≤ 30 then (L24_30 m a0 a1 a2 a3 0 0).2.2.2.2 else m)))
set_option maxRecDepth 16384 in
theorem d24 {X : KO} {ρ : Nat → Int32} {m m' : MM} {rl : List (Nat × Int)} {a0 a1 a2 a3 : Int} (h : Run X ρ 24 [(1, a0), (1, a1), (1, a2), (1, a3)] m rl m') : rl = [(1, f24 m a0 a1 a2 a3)] ∧ m' = g24 m a0 a1 a2 a3 := by
  obtain ⟨N, ig, h⟩ := Run_CR h rfl
  have h : MR X ρ 6 0 0 qP24 N 0 [a0, a1, a2, a3, 0, 0] [] m (ig, rl, m') := h
  have h := CR_aload_n h rfl
  have h : MR X ρ 6 0 0 qP24 N 1 [a0, a1, a2, a3, 0, 0] [(1, a0)] m (ig, rl, m') := h
  have h := CR_getf h rfl (by decide)
  have h : MR X ρ 6 0 0 qP24 N 4 [a0, a1, a2, a3, 0, 0] [(1, m a0 1)] m (ig, rl, m') := h
  have h := CR_iload_n h rfl
  have h : MR X ρ 6 0 0 qP24 N 5 [a0, a1, a2, a3, 0, 0] [(1, a1), (1, m a0 1)] m (ig, rl, m') := h
  obtain ⟨r1, m2, q3, h⟩ := MR_invV h rfl rfl
  have q3 : Run X ρ 72 [(1, m a0 1), (1, a1)] m r1 m2 := q3
  obtain ⟨e4, e5⟩ := d72 q3
  rw [e4, e5] at h
  have h : MR X ρ 6 0 0 qP24 N 8 [a0, a1, a2, a3, 0, 0] [(1, f72 m (m a0 1) a1)] m (ig, rl, m') := h
  rcases MR_if h rfl rfl with ⟨c6, h⟩ | ⟨c6, h⟩
  ·
    have c6 : (f72 m (m a0 1) a1) = 0 := c6
    have h : MR X ρ 6 0 0 qP24 N 22 [a0, a1, a2, a3, 0, 0] [] m (ig, rl, m') := h
    have h := CR_iconst h rfl rfl
    have h : MR X ρ 6 0 0 qP24 N 23 [a0, a1, a2, a3, 0, 0] [(1, -1)] m (ig, rl, m') := h
    have e := CR_end h rfl rfl
    cases e
    exact ⟨congrArg (fun z => [(1, z)]) (Eq.symm (show f24 m a0 a1 a2 a3 = _ from (if_pos c6).trans (rfl))), Eq.symm (show g24 m a0 a1 a2 a3 = _ from (if_pos c6).trans (rfl))⟩
  ·
    have c6 : ¬ ((f72 m (m a0 1) a1) = 0) := c6
    have h : MR X ρ 6 0 0 qP24 N 11 [a0, a1, a2, a3, 0, 0] [] m (ig, rl, m') := h
    have h := CR_iload_n h rfl
    have h : MR X ρ 6 0 0 qP24 N 12 [a0, a1, a2, a3, 0, 0] [(1, a2)] m (ig, rl, m') := h
    have h := CR_iconst h rfl rfl
    have h : MR X ρ 6 0 0 qP24 N 13 [a0, a1, a2, a3, 0, 0] [(1, 1), (1, a2)] m (ig, rl, m') := h
    rcases MR_icmp h rfl rfl with ⟨c7, h⟩ | ⟨c7, h⟩
    ·
      have c7 : a2 < 1 := c7
      have h : MR X ρ 6 0 0 qP24 N 22 [a0, a1, a2, a3, 0, 0] [] m (ig, rl, m') := h
      have h := CR_iconst h rfl rfl
      have h : MR X ρ 6 0 0 qP24 N 23 [a0, a1, a2, a3, 0, 0] [(1, -1)] m (ig, rl, m') := h
      have e := CR_end h rfl rfl
      cases e
      exact ⟨congrArg (fun z => [(1, z)]) (Eq.symm (show f24 m a0 a1 a2 a3 = _ from (if_neg c6).trans ((if_pos c7).trans (rfl)))), Eq.symm (show g24 m a0 a1 a2 a3 = _ from (if_neg c6).trans ((if_pos c7).trans (rfl)))⟩
    ·
      have c7 : ¬ (a2 < 1) := c7
      have h : MR X ρ 6 0 0 qP24 N 16 [a0, a1, a2, a3, 0, 0] [] m (ig, rl, m') := h
      have h := CR_iload_n h rfl
      have h : MR X ρ 6 0 0 qP24 N 17 [a0, a1, a2, a3, 0, 0] [(1, a2)] m (ig, rl, m') := h
      have h := CR_bipush h rfl rfl
      have h : MR X ρ 6 0 0 qP24 N 19 [a0, a1, a2, a3, 0, 0] [(1, 30), (1, a2)] m (ig, rl, m') := h
      rcases MR_icmp h rfl rfl with ⟨c8, h⟩ | ⟨c8, h⟩
      ·
        have c8 : a2 ≤ 30 := c8
        have h : MR X ρ 6 0 0 qP24 N 24 [a0, a1, a2, a3, 0, 0] [] m (ig, rl, m') := h
        have h := CR_iconst h rfl rfl
        have h : MR X ρ 6 0 0 qP24 N 25 [a0, a1, a2, a3, 0, 0] [(1, 0)] m (ig, rl, m') := h
        have h := CR_istore h rfl (Nat.le_of_ble_eq_true rfl)
        have h : MR X ρ 6 0 0 qP24 N 27 [a0, a1, a2, a3, 0, 0] [] m (ig, rl, m') := h
        have h := CR_iconst h rfl rfl
        have h : MR X ρ 6 0 0 qP24 N 28 [a0, a1, a2, a3, 0, 0] [(1, 0)] m (ig, rl, m') := h
        have h := CR_istore h rfl (Nat.le_of_ble_eq_true rfl)
        have h : MR X ρ 6 0 0 qP24 N 30 [a0, a1, a2, a3, 0, 0] [] m (ig, rl, m') := h
        have h := l24_30 (Nat.le_refl _) h
        have h : MR X ρ 6 0 0 qP24 N 82 [a0, a1, a2, a3, (L24_30 m a0 a1 a2 a3 0 0).2.2.1, (L24_30 m a0 a1 a2 a3 0 0).2.2.2.1] [] ((L24_30 m a0 a1 a2 a3 0 0).2.2.2.2) (ig, rl, m') := h
        have h := CR_iload h rfl
        have h : MR X ρ 6 0 0 qP24 N 84 [a0, a1, a2, a3, (L24_30 m a0 a1 a2 a3 0 0).2.2.1, (L24_30 m a0 a1 a2 a3 0 0).2.2.2.1] [(1, (L24_30 m a0 a1 a2 a3 0 0).2.2.1)] ((L24_30 m a0 a1 a2 a3 0 0).2.2.2.2) (ig, rl, m') := h
        have e := CR_end h rfl rfl
        cases e
        exact ⟨congrArg (fun z => [(1, z)]) (Eq.symm (show f24 m a0 a1 a2 a3 = _ from (if_neg c6).trans ((if_neg c7).trans ((if_pos c8).trans (rfl))))), Eq.symm (show g24 m a0 a1 a2 a3 = _ from (if_neg c6).trans ((if_neg c7).trans ((if_pos c8).trans (rfl))))⟩
      ·
        have c8 : ¬ (a2 ≤ 30) := c8
        have h : MR X ρ 6 0 0 qP24 N 22 [a0, a1, a2, a3, 0, 0] [] m (ig, rl, m') := h
        have h := CR_iconst h rfl rfl
        have h : MR X ρ 6 0 0 qP24 N 23 [a0, a1, a2, a3, 0, 0] [(1, -1)] m (ig, rl, m') := h
        have e := CR_end h rfl rfl
        cases e
        exact ⟨congrArg (fun z => [(1, z)]) (Eq.symm (show f24 m a0 a1 a2 a3 = _ from (if_neg c6).trans ((if_neg c7).trans ((if_neg c8).trans (rfl))))), Eq.symm (show g24 m a0 a1 a2 a3 = _ from (if_neg c6).trans ((if_neg c7).trans ((if_neg c8).trans (rfl))))⟩
set_option maxRecDepth 16384 in
/-- TriplicateFormsModel.drawDays(II)I, the loop at 33 -/
noncomputable def S183_33 (m : MM) (b0 b1 b2 b3 b4 b5 : Int) : (Int × MM) ⊕ (Nat × Int × (Int × MM)) := (if (m (m b0 14) 0) ≤ b5 then .inr (1, 0, (b5, m)) else .inl (s32 (b5 + 1), g185 m b0 b5))
set_option maxRecDepth 16384 in
noncomputable def K183_33 (m : MM) (b0 b1 b2 b3 b4 b5 : Int) : (Int × MM) → (Int × MM) ⊕ (Nat × Int × (Int × MM)) := fun s => S183_33 s.2 b0 b1 b2 b3 b4 s.1
set_option maxRecDepth 16384 in
noncomputable def L183_33 (m : MM) (b0 b1 b2 b3 b4 b5 : Int) : (Nat × Int × (Int × MM)) := Lp (K183_33 m b0 b1 b2 b3 b4 b5) (b5, m)
set_option maxRecDepth 16384 in
theorem l183_33 {X : KO} {ρ : Nat → Int32} {o : Instr × List (Nat × Int) × MM} {K : Nat} : ∀ {N : Nat} {m : MM} {b0 b1 b2 b3 b4 b5 : Int}, N ≤ K → MR X ρ 6 0 0 qP183 N 33 [b0, b1, b2, b3, b4, b5] [] m o → (MR X ρ 6 0 0 qP183 K 56 [b0, b1, b2, b3, b4, (L183_33 m b0 b1 b2 b3 b4 b5).2.2.1] [] ((L183_33 m b0 b1 b2 b3 b4 b5).2.2.2) o) := by
  intro N
  induction N using Nat.strongRecOn with
  | ind N ih =>
  intro m b0 b1 b2 b3 b4 b5 hK h
  have h := CR_iload h rfl
  have h : MR X ρ 6 0 0 qP183 N 35 [b0, b1, b2, b3, b4, b5] [(1, b5)] m o := h
  have h := CR_aload_n h rfl
  have h : MR X ρ 6 0 0 qP183 N 36 [b0, b1, b2, b3, b4, b5] [(1, b0), (1, b5)] m o := h
  have h := CR_getf h rfl (by decide)
  have h : MR X ρ 6 0 0 qP183 N 39 [b0, b1, b2, b3, b4, b5] [(1, m b0 14), (1, b5)] m o := h
  have h := CR_iconst h rfl rfl
  have h : MR X ρ 6 0 0 qP183 N 40 [b0, b1, b2, b3, b4, b5] [(1, 0), (1, m b0 14), (1, b5)] m o := h
  have h := CR_iaload h rfl rfl
  have h : MR X ρ 6 0 0 qP183 N 41 [b0, b1, b2, b3, b4, b5] [(1, m (m b0 14) 0), (1, b5)] m o := h
  rcases MR_icmp h rfl rfl with ⟨c1, h⟩ | ⟨c1, h⟩
  ·
    have c1 : (m (m b0 14) 0) ≤ b5 := c1
    have h : MR X ρ 6 0 0 qP183 N 56 [b0, b1, b2, b3, b4, b5] [] m o := h
    have hr : L183_33 m b0 b1 b2 b3 b4 b5 = (1, 0, (b5, m)) := Lp_inr (f := K183_33 m b0 b1 b2 b3 b4 b5) (s := (b5, m)) ((if_pos c1).trans (rfl))
    rw [hr]
    exact CR_le (by omega) h
  ·
    have c1 : ¬ ((m (m b0 14) 0) ≤ b5) := c1
    have h : MR X ρ 6 0 0 qP183 N 44 [b0, b1, b2, b3, b4, b5] [] m o := h
    have h := CR_aload_n h rfl
    have h : MR X ρ 6 0 0 qP183 N 45 [b0, b1, b2, b3, b4, b5] [(1, b0)] m o := h
    have h := CR_iload h rfl
    have h : MR X ρ 6 0 0 qP183 N 47 [b0, b1, b2, b3, b4, b5] [(1, b5), (1, b0)] m o := h
    obtain ⟨r2, m3, q4, h⟩ := MR_invV h rfl rfl
    have q4 : Run X ρ 185 [(1, b0), (1, b5)] m r2 m3 := q4
    obtain ⟨e5, e6⟩ := d185 q4
    rw [e5, e6] at h
    have h : MR X ρ 6 0 0 qP183 N 50 [b0, b1, b2, b3, b4, b5] [] (g185 m b0 b5) o := h
    have h := CR_inc h rfl (Nat.le_of_ble_eq_true rfl)
    have h : MR X ρ 6 0 0 qP183 N 53 [b0, b1, b2, b3, b4, s32 (b5 + 1)] [] (g185 m b0 b5) o := h
    obtain ⟨N7, eN7, h⟩ := CR_goto h rfl rfl
    have h : MR X ρ 6 0 0 qP183 N7 33 [b0, b1, b2, b3, b4, s32 (b5 + 1)] [] (g185 m b0 b5) o := h
    have hr : L183_33 m b0 b1 b2 b3 b4 b5 = L183_33 (g185 m b0 b5) b0 b1 b2 b3 b4 (s32 (b5 + 1)) := Lp_inl (f := K183_33 m b0 b1 b2 b3 b4 b5) (s := (b5, m)) (s' := (s32 (b5 + 1), g185 m b0 b5)) ((if_neg c1).trans (rfl))
    rw [hr]
    exact ih N7 (by omega) (by omega) h
set_option maxRecDepth 16384 in
/-- TriplicateFormsModel.drawDays(II)I, the loop at 24 -/
noncomputable def S183_24 (m : MM) (b0 b1 b2 b3 b4 b5 : Int) : (Int × Int × MM) ⊕ (Nat × Int × (Int × Int × MM)) := (if b3 ≤ b4 then .inr (1, 0, (b4, b5, m)) else .inl (s32 (b4 + 1), (L183_33 m b0 b1 b2 b3 b4 0).2.2.1, g231 ((L183_33 m b0 b1 b2 b3 b4 0).2.2.2) b0))
set_option maxRecDepth 16384 in
noncomputable def K183_24 (m : MM) (b0 b1 b2 b3 b4 b5 : Int) : (Int × Int × MM) → (Int × Int × MM) ⊕ (Nat × Int × (Int × Int × MM)) := fun s => S183_24 s.2.2 b0 b1 b2 b3 s.1 s.2.1
set_option maxRecDepth 16384 in
noncomputable def L183_24 (m : MM) (b0 b1 b2 b3 b4 b5 : Int) : (Nat × Int × (Int × Int × MM)) := Lp (K183_24 m b0 b1 b2 b3 b4 b5) (b4, b5, m)
set_option maxRecDepth 16384 in
theorem l183_24 {X : KO} {ρ : Nat → Int32} {o : Instr × List (Nat × Int) × MM} {K : Nat} : ∀ {N : Nat} {m : MM} {b0 b1 b2 b3 b4 b5 : Int}, N ≤ K → MR X ρ 6 0 0 qP183 N 24 [b0, b1, b2, b3, b4, b5] [] m o → (MR X ρ 6 0 0 qP183 K 66 [b0, b1, b2, b3, (L183_24 m b0 b1 b2 b3 b4 b5).2.2.1, (L183_24 m b0 b1 b2 b3 b4 b5).2.2.2.1] [] ((L183_24 m b0 b1 b2 b3 b4 b5).2.2.2.2) o) := by
  intro N
  induction N using Nat.strongRecOn with
  | ind N ih =>
  intro m b0 b1 b2 b3 b4 b5 hK h
  have h := CR_iload h rfl
  have h : MR X ρ 6 0 0 qP183 N 26 [b0, b1, b2, b3, b4, b5] [(1, b4)] m o := h
  have h := CR_iload_n h rfl
  have h : MR X ρ 6 0 0 qP183 N 27 [b0, b1, b2, b3, b4, b5] [(1, b3), (1, b4)] m o := h
  rcases MR_icmp h rfl rfl with ⟨c1, h⟩ | ⟨c1, h⟩
  ·
    have c1 : b3 ≤ b4 := c1
    have h : MR X ρ 6 0 0 qP183 N 66 [b0, b1, b2, b3, b4, b5] [] m o := h
    have hr : L183_24 m b0 b1 b2 b3 b4 b5 = (1, 0, (b4, b5, m)) := Lp_inr (f := K183_24 m b0 b1 b2 b3 b4 b5) (s := (b4, b5, m)) ((if_pos c1).trans (rfl))
    rw [hr]
    exact CR_le (by omega) h
  ·
    have c1 : ¬ (b3 ≤ b4) := c1
    have h : MR X ρ 6 0 0 qP183 N 30 [b0, b1, b2, b3, b4, b5] [] m o := h
    have h := CR_iconst h rfl rfl
    have h : MR X ρ 6 0 0 qP183 N 31 [b0, b1, b2, b3, b4, b5] [(1, 0)] m o := h
    have h := CR_istore h rfl (Nat.le_of_ble_eq_true rfl)
    have h : MR X ρ 6 0 0 qP183 N 33 [b0, b1, b2, b3, b4, 0] [] m o := h
    have h := l183_33 (Nat.le_refl _) h
    have h : MR X ρ 6 0 0 qP183 N 56 [b0, b1, b2, b3, b4, (L183_33 m b0 b1 b2 b3 b4 0).2.2.1] [] ((L183_33 m b0 b1 b2 b3 b4 0).2.2.2) o := h
    have h := CR_aload_n h rfl
    have h : MR X ρ 6 0 0 qP183 N 57 [b0, b1, b2, b3, b4, (L183_33 m b0 b1 b2 b3 b4 0).2.2.1] [(1, b0)] ((L183_33 m b0 b1 b2 b3 b4 0).2.2.2) o := h
    obtain ⟨r2, m3, q4, h⟩ := MR_invV h rfl rfl
    have q4 : Run X ρ 231 [(1, b0)] ((L183_33 m b0 b1 b2 b3 b4 0).2.2.2) r2 m3 := q4
    obtain ⟨e5, e6⟩ := d231 q4
    rw [e5, e6] at h
    have h : MR X ρ 6 0 0 qP183 N 60 [b0, b1, b2, b3, b4, (L183_33 m b0 b1 b2 b3 b4 0).2.2.1] [] (g231 ((L183_33 m b0 b1 b2 b3 b4 0).2.2.2) b0) o := h
    have h := CR_inc h rfl (Nat.le_of_ble_eq_true rfl)
    have h : MR X ρ 6 0 0 qP183 N 63 [b0, b1, b2, b3, s32 (b4 + 1), (L183_33 m b0 b1 b2 b3 b4 0).2.2.1] [] (g231 ((L183_33 m b0 b1 b2 b3 b4 0).2.2.2) b0) o := h
    obtain ⟨N7, eN7, h⟩ := CR_goto h rfl rfl
    have h : MR X ρ 6 0 0 qP183 N7 24 [b0, b1, b2, b3, s32 (b4 + 1), (L183_33 m b0 b1 b2 b3 b4 0).2.2.1] [] (g231 ((L183_33 m b0 b1 b2 b3 b4 0).2.2.2) b0) o := h
    have hr : L183_24 m b0 b1 b2 b3 b4 b5 = L183_24 (g231 ((L183_33 m b0 b1 b2 b3 b4 0).2.2.2) b0) b0 b1 b2 b3 (s32 (b4 + 1)) ((L183_33 m b0 b1 b2 b3 b4 0).2.2.1) := Lp_inl (f := K183_24 m b0 b1 b2 b3 b4 b5) (s := (b4, b5, m)) (s' := (s32 (b4 + 1), (L183_33 m b0 b1 b2 b3 b4 0).2.2.1, g231 ((L183_33 m b0 b1 b2 b3 b4 0).2.2.2) b0)) ((if_neg c1).trans (rfl))
    rw [hr]
    exact ih N7 (by omega) (by omega) h
set_option maxRecDepth 16384 in
/-- TriplicateFormsModel.drawDays(II)I -/
noncomputable def f183 (m : MM) (a0 a1 a2 : Int) : Int := f220 (mu m a0 35 a2) a1 (s32 (400 - ((mu m a0 35 a2) ((mu m a0 35 a2) a0 14) 92)))
set_option maxRecDepth 16384 in
noncomputable def g183 (m : MM) (a0 a1 a2 : Int) : MM := (L183_24 (mu m a0 35 a2) a0 a1 a2 (f220 (mu m a0 35 a2) a1 (s32 (400 - ((mu m a0 35 a2) ((mu m a0 35 a2) a0 14) 92)))) 0 0).2.2.2.2
set_option maxRecDepth 16384 in
theorem d183 {X : KO} {ρ : Nat → Int32} {m m' : MM} {rl : List (Nat × Int)} {a0 a1 a2 : Int} (h : Run X ρ 183 [(1, a0), (1, a1), (1, a2)] m rl m') : rl = [(1, f183 m a0 a1 a2)] ∧ m' = g183 m a0 a1 a2 := by
  obtain ⟨N, ig, h⟩ := Run_CR h rfl
  have h : MR X ρ 6 0 0 qP183 N 0 [a0, a1, a2, 0, 0, 0] [] m (ig, rl, m') := h
  have h := CR_aload_n h rfl
  have h : MR X ρ 6 0 0 qP183 N 1 [a0, a1, a2, 0, 0, 0] [(1, a0)] m (ig, rl, m') := h
  have h := CR_iload_n h rfl
  have h : MR X ρ 6 0 0 qP183 N 2 [a0, a1, a2, 0, 0, 0] [(1, a2), (1, a0)] m (ig, rl, m') := h
  have h := CR_putf h rfl
  have h : MR X ρ 6 0 0 qP183 N 5 [a0, a1, a2, 0, 0, 0] [] (mu m a0 35 a2) (ig, rl, m') := h
  have h := CR_iload_n h rfl
  have h : MR X ρ 6 0 0 qP183 N 6 [a0, a1, a2, 0, 0, 0] [(1, a1)] (mu m a0 35 a2) (ig, rl, m') := h
  have h := CR_sipush h rfl rfl
  have h : MR X ρ 6 0 0 qP183 N 9 [a0, a1, a2, 0, 0, 0] [(1, 400), (1, a1)] (mu m a0 35 a2) (ig, rl, m') := h
  have h := CR_aload_n h rfl
  have h : MR X ρ 6 0 0 qP183 N 10 [a0, a1, a2, 0, 0, 0] [(1, a0), (1, 400), (1, a1)] (mu m a0 35 a2) (ig, rl, m') := h
  have h := CR_getf h rfl (by decide)
  have h : MR X ρ 6 0 0 qP183 N 13 [a0, a1, a2, 0, 0, 0] [(1, (mu m a0 35 a2) a0 14), (1, 400), (1, a1)] (mu m a0 35 a2) (ig, rl, m') := h
  have h := CR_bipush h rfl rfl
  have h : MR X ρ 6 0 0 qP183 N 15 [a0, a1, a2, 0, 0, 0] [(1, 92), (1, (mu m a0 35 a2) a0 14), (1, 400), (1, a1)] (mu m a0 35 a2) (ig, rl, m') := h
  have h := CR_iaload h rfl rfl
  have h : MR X ρ 6 0 0 qP183 N 16 [a0, a1, a2, 0, 0, 0] [(1, (mu m a0 35 a2) ((mu m a0 35 a2) a0 14) 92), (1, 400), (1, a1)] (mu m a0 35 a2) (ig, rl, m') := h
  have h := CR_isub h rfl
  have h : MR X ρ 6 0 0 qP183 N 17 [a0, a1, a2, 0, 0, 0] [(1, s32 (400 - ((mu m a0 35 a2) ((mu m a0 35 a2) a0 14) 92))), (1, a1)] (mu m a0 35 a2) (ig, rl, m') := h
  obtain ⟨r1, m2, q3, h⟩ := MR_invS h rfl rfl
  have q3 : Run X ρ 220 [(1, a1), (1, s32 (400 - ((mu m a0 35 a2) ((mu m a0 35 a2) a0 14) 92)))] (mu m a0 35 a2) r1 m2 := q3
  obtain ⟨e4, e5⟩ := d220 q3
  rw [e4, e5] at h
  have h : MR X ρ 6 0 0 qP183 N 20 [a0, a1, a2, 0, 0, 0] [(1, f220 (mu m a0 35 a2) a1 (s32 (400 - ((mu m a0 35 a2) ((mu m a0 35 a2) a0 14) 92))))] (mu m a0 35 a2) (ig, rl, m') := h
  have h := CR_istore_n h rfl (Nat.le_of_ble_eq_true rfl)
  have h : MR X ρ 6 0 0 qP183 N 21 [a0, a1, a2, f220 (mu m a0 35 a2) a1 (s32 (400 - ((mu m a0 35 a2) ((mu m a0 35 a2) a0 14) 92))), 0, 0] [] (mu m a0 35 a2) (ig, rl, m') := h
  have h := CR_iconst h rfl rfl
  have h : MR X ρ 6 0 0 qP183 N 22 [a0, a1, a2, f220 (mu m a0 35 a2) a1 (s32 (400 - ((mu m a0 35 a2) ((mu m a0 35 a2) a0 14) 92))), 0, 0] [(1, 0)] (mu m a0 35 a2) (ig, rl, m') := h
  have h := CR_istore h rfl (Nat.le_of_ble_eq_true rfl)
  have h : MR X ρ 6 0 0 qP183 N 24 [a0, a1, a2, f220 (mu m a0 35 a2) a1 (s32 (400 - ((mu m a0 35 a2) ((mu m a0 35 a2) a0 14) 92))), 0, 0] [] (mu m a0 35 a2) (ig, rl, m') := h
  have h := l183_24 (Nat.le_refl _) h
  have h : MR X ρ 6 0 0 qP183 N 66 [a0, a1, a2, f220 (mu m a0 35 a2) a1 (s32 (400 - ((mu m a0 35 a2) ((mu m a0 35 a2) a0 14) 92))), (L183_24 (mu m a0 35 a2) a0 a1 a2 (f220 (mu m a0 35 a2) a1 (s32 (400 - ((mu m a0 35 a2) ((mu m a0 35 a2) a0 14) 92)))) 0 0).2.2.1, (L183_24 (mu m a0 35 a2) a0 a1 a2 (f220 (mu m a0 35 a2) a1 (s32 (400 - ((mu m a0 35 a2) ((mu m a0 35 a2) a0 14) 92)))) 0 0).2.2.2.1] [] ((L183_24 (mu m a0 35 a2) a0 a1 a2 (f220 (mu m a0 35 a2) a1 (s32 (400 - ((mu m a0 35 a2) ((mu m a0 35 a2) a0 14) 92)))) 0 0).2.2.2.2) (ig, rl, m') := h
  have h := CR_iload_n h rfl
  have h : MR X ρ 6 0 0 qP183 N 67 [a0, a1, a2, f220 (mu m a0 35 a2) a1 (s32 (400 - ((mu m a0 35 a2) ((mu m a0 35 a2) a0 14) 92))), (L183_24 (mu m a0 35 a2) a0 a1 a2 (f220 (mu m a0 35 a2) a1 (s32 (400 - ((mu m a0 35 a2) ((mu m a0 35 a2) a0 14) 92)))) 0 0).2.2.1, (L183_24 (mu m a0 35 a2) a0 a1 a2 (f220 (mu m a0 35 a2) a1 (s32 (400 - ((mu m a0 35 a2) ((mu m a0 35 a2) a0 14) 92)))) 0 0).2.2.2.1] [(1, f220 (mu m a0 35 a2) a1 (s32 (400 - ((mu m a0 35 a2) ((mu m a0 35 a2) a0 14) 92))))] ((L183_24 (mu m a0 35 a2) a0 a1 a2 (f220 (mu m a0 35 a2) a1 (s32 (400 - ((mu m a0 35 a2) ((mu m a0 35 a2) a0 14) 92)))) 0 0).2.2.2.2) (ig, rl, m') := h
  have e := CR_end h rfl rfl
  cases e
  exact ⟨congrArg (fun z => [(1, z)]) (Eq.symm (show f183 m a0 a1 a2 = _ from rfl)), Eq.symm (show g183 m a0 a1 a2 = _ from rfl)⟩
set_option maxRecDepth 16384 in
/-- TriplicateFormsModel.drawn(II)I -/
noncomputable def f184 (m : MM) (a0 a1 a2 : Int) : Int := (if (f209 (mu m a0 0 0) a1 1 60) = 0 then -1 else (if ((mu m a0 0 0) ((mu m a0 0 0) a0 14) 0) = 0 then -1 else (if ((mu m a0 0 0) ((mu m a0 0 0) a0 14) 92) = 400 then 0 else f183 (g276 (mu m a0 0 0) a0) a0 a1 a2)))
set_option maxRecDepth 16384 in
noncomputable def g184 (m : MM) (a0 a1 a2 : Int) : MM := (if (f209 (mu m a0 0 0) a1 1 60) = 0 then mu m a0 0 0 else (if ((mu m a0 0 0) ((mu m a0 0 0) a0 14) 0) = 0 then mu m a0 0 0 else (if ((mu m a0 0 0) ((mu m a0 0 0) a0 14) 92) = 400 then mu m a0 0 0 else g183 (g276 (mu m a0 0 0) a0) a0 a1 a2)))
set_option maxRecDepth 16384 in
theorem d184 {X : KO} {ρ : Nat → Int32} {m m' : MM} {rl : List (Nat × Int)} {a0 a1 a2 : Int} (h : Run X ρ 184 [(1, a0), (1, a1), (1, a2)] m rl m') : rl = [(1, f184 m a0 a1 a2)] ∧ m' = g184 m a0 a1 a2 := by
  obtain ⟨N, ig, h⟩ := Run_CR h rfl
  have h : MR X ρ 3 0 0 qP184 N 0 [a0, a1, a2] [] m (ig, rl, m') := h
  have h := CR_aload_n h rfl
  have h : MR X ρ 3 0 0 qP184 N 1 [a0, a1, a2] [(1, a0)] m (ig, rl, m') := h
  have h := CR_iconst h rfl rfl
  have h : MR X ρ 3 0 0 qP184 N 2 [a0, a1, a2] [(1, 0), (1, a0)] m (ig, rl, m') := h
  have h := CR_putf h rfl
  have h : MR X ρ 3 0 0 qP184 N 5 [a0, a1, a2] [] (mu m a0 0 0) (ig, rl, m') := h
  have h := CR_iload_n h rfl
  have h : MR X ρ 3 0 0 qP184 N 6 [a0, a1, a2] [(1, a1)] (mu m a0 0 0) (ig, rl, m') := h
  have h := CR_iconst h rfl rfl
  have h : MR X ρ 3 0 0 qP184 N 7 [a0, a1, a2] [(1, 1), (1, a1)] (mu m a0 0 0) (ig, rl, m') := h
  have h := CR_bipush h rfl rfl
  have h : MR X ρ 3 0 0 qP184 N 9 [a0, a1, a2] [(1, 60), (1, 1), (1, a1)] (mu m a0 0 0) (ig, rl, m') := h
  obtain ⟨r1, m2, q3, h⟩ := MR_invS h rfl rfl
  have q3 : Run X ρ 209 [(1, a1), (1, 1), (1, 60)] (mu m a0 0 0) r1 m2 := q3
  obtain ⟨e4, e5⟩ := d209 q3
  rw [e4, e5] at h
  have h : MR X ρ 3 0 0 qP184 N 12 [a0, a1, a2] [(1, f209 (mu m a0 0 0) a1 1 60)] (mu m a0 0 0) (ig, rl, m') := h
  rcases MR_if h rfl rfl with ⟨c6, h⟩ | ⟨c6, h⟩
  ·
    have c6 : (f209 (mu m a0 0 0) a1 1 60) = 0 := c6
    have h : MR X ρ 3 0 0 qP184 N 24 [a0, a1, a2] [] (mu m a0 0 0) (ig, rl, m') := h
    have h := CR_iconst h rfl rfl
    have h : MR X ρ 3 0 0 qP184 N 25 [a0, a1, a2] [(1, -1)] (mu m a0 0 0) (ig, rl, m') := h
    have e := CR_end h rfl rfl
    cases e
    exact ⟨congrArg (fun z => [(1, z)]) (Eq.symm (show f184 m a0 a1 a2 = _ from (if_pos c6).trans (rfl))), Eq.symm (show g184 m a0 a1 a2 = _ from (if_pos c6).trans (rfl))⟩
  ·
    have c6 : ¬ ((f209 (mu m a0 0 0) a1 1 60) = 0) := c6
    have h : MR X ρ 3 0 0 qP184 N 15 [a0, a1, a2] [] (mu m a0 0 0) (ig, rl, m') := h
    have h := CR_aload_n h rfl
    have h : MR X ρ 3 0 0 qP184 N 16 [a0, a1, a2] [(1, a0)] (mu m a0 0 0) (ig, rl, m') := h
    have h := CR_getf h rfl (by decide)
    have h : MR X ρ 3 0 0 qP184 N 19 [a0, a1, a2] [(1, (mu m a0 0 0) a0 14)] (mu m a0 0 0) (ig, rl, m') := h
    have h := CR_iconst h rfl rfl
    have h : MR X ρ 3 0 0 qP184 N 20 [a0, a1, a2] [(1, 0), (1, (mu m a0 0 0) a0 14)] (mu m a0 0 0) (ig, rl, m') := h
    have h := CR_iaload h rfl rfl
    have h : MR X ρ 3 0 0 qP184 N 21 [a0, a1, a2] [(1, (mu m a0 0 0) ((mu m a0 0 0) a0 14) 0)] (mu m a0 0 0) (ig, rl, m') := h
    rcases MR_if h rfl rfl with ⟨c7, h⟩ | ⟨c7, h⟩
    ·
      have c7 : ¬ (((mu m a0 0 0) ((mu m a0 0 0) a0 14) 0) = 0) := c7
      have h : MR X ρ 3 0 0 qP184 N 26 [a0, a1, a2] [] (mu m a0 0 0) (ig, rl, m') := h
      have h := CR_aload_n h rfl
      have h : MR X ρ 3 0 0 qP184 N 27 [a0, a1, a2] [(1, a0)] (mu m a0 0 0) (ig, rl, m') := h
      have h := CR_getf h rfl (by decide)
      have h : MR X ρ 3 0 0 qP184 N 30 [a0, a1, a2] [(1, (mu m a0 0 0) a0 14)] (mu m a0 0 0) (ig, rl, m') := h
      have h := CR_bipush h rfl rfl
      have h : MR X ρ 3 0 0 qP184 N 32 [a0, a1, a2] [(1, 92), (1, (mu m a0 0 0) a0 14)] (mu m a0 0 0) (ig, rl, m') := h
      have h := CR_iaload h rfl rfl
      have h : MR X ρ 3 0 0 qP184 N 33 [a0, a1, a2] [(1, (mu m a0 0 0) ((mu m a0 0 0) a0 14) 92)] (mu m a0 0 0) (ig, rl, m') := h
      have h := CR_sipush h rfl rfl
      have h : MR X ρ 3 0 0 qP184 N 36 [a0, a1, a2] [(1, 400), (1, (mu m a0 0 0) ((mu m a0 0 0) a0 14) 92)] (mu m a0 0 0) (ig, rl, m') := h
      rcases MR_icmp h rfl rfl with ⟨c8, h⟩ | ⟨c8, h⟩
      ·
        have c8 : ¬ (((mu m a0 0 0) ((mu m a0 0 0) a0 14) 92) = 400) := c8
        have h : MR X ρ 3 0 0 qP184 N 41 [a0, a1, a2] [] (mu m a0 0 0) (ig, rl, m') := h
        have h := CR_aload_n h rfl
        have h : MR X ρ 3 0 0 qP184 N 42 [a0, a1, a2] [(1, a0)] (mu m a0 0 0) (ig, rl, m') := h
        obtain ⟨r9, m10, q11, h⟩ := MR_invV h rfl rfl
        have q11 : Run X ρ 276 [(1, a0)] (mu m a0 0 0) r9 m10 := q11
        obtain ⟨e12, e13⟩ := d276 q11
        rw [e12, e13] at h
        have h : MR X ρ 3 0 0 qP184 N 45 [a0, a1, a2] [] (g276 (mu m a0 0 0) a0) (ig, rl, m') := h
        have h := CR_aload_n h rfl
        have h : MR X ρ 3 0 0 qP184 N 46 [a0, a1, a2] [(1, a0)] (g276 (mu m a0 0 0) a0) (ig, rl, m') := h
        have h := CR_iload_n h rfl
        have h : MR X ρ 3 0 0 qP184 N 47 [a0, a1, a2] [(1, a1), (1, a0)] (g276 (mu m a0 0 0) a0) (ig, rl, m') := h
        have h := CR_iload_n h rfl
        have h : MR X ρ 3 0 0 qP184 N 48 [a0, a1, a2] [(1, a2), (1, a1), (1, a0)] (g276 (mu m a0 0 0) a0) (ig, rl, m') := h
        obtain ⟨r14, m15, q16, h⟩ := MR_invV h rfl rfl
        have q16 : Run X ρ 183 [(1, a0), (1, a1), (1, a2)] (g276 (mu m a0 0 0) a0) r14 m15 := q16
        obtain ⟨e17, e18⟩ := d183 q16
        rw [e17, e18] at h
        have h : MR X ρ 3 0 0 qP184 N 51 [a0, a1, a2] [(1, f183 (g276 (mu m a0 0 0) a0) a0 a1 a2)] (g183 (g276 (mu m a0 0 0) a0) a0 a1 a2) (ig, rl, m') := h
        have e := CR_end h rfl rfl
        cases e
        exact ⟨congrArg (fun z => [(1, z)]) (Eq.symm (show f184 m a0 a1 a2 = _ from (if_neg c6).trans ((if_neg c7).trans ((if_neg c8).trans (rfl))))), Eq.symm (show g184 m a0 a1 a2 = _ from (if_neg c6).trans ((if_neg c7).trans ((if_neg c8).trans (rfl))))⟩
      ·
        have c8 : ((mu m a0 0 0) ((mu m a0 0 0) a0 14) 92) = 400 := Decidable.of_not_not (show ¬ ¬ (((mu m a0 0 0) ((mu m a0 0 0) a0 14) 92) = 400) from c8)
        have h : MR X ρ 3 0 0 qP184 N 39 [a0, a1, a2] [] (mu m a0 0 0) (ig, rl, m') := h
        have h := CR_iconst h rfl rfl
        have h : MR X ρ 3 0 0 qP184 N 40 [a0, a1, a2] [(1, 0)] (mu m a0 0 0) (ig, rl, m') := h
        have e := CR_end h rfl rfl
        cases e
        exact ⟨congrArg (fun z => [(1, z)]) (Eq.symm (show f184 m a0 a1 a2 = _ from (if_neg c6).trans ((if_neg c7).trans ((if_pos c8).trans (rfl))))), Eq.symm (show g184 m a0 a1 a2 = _ from (if_neg c6).trans ((if_neg c7).trans ((if_pos c8).trans (rfl))))⟩
    ·
      have c7 : ((mu m a0 0 0) ((mu m a0 0 0) a0 14) 0) = 0 := Decidable.of_not_not (show ¬ ¬ (((mu m a0 0 0) ((mu m a0 0 0) a0 14) 0) = 0) from c7)
      have h : MR X ρ 3 0 0 qP184 N 24 [a0, a1, a2] [] (mu m a0 0 0) (ig, rl, m') := h
      have h := CR_iconst h rfl rfl
      have h : MR X ρ 3 0 0 qP184 N 25 [a0, a1, a2] [(1, -1)] (mu m a0 0 0) (ig, rl, m') := h
      have e := CR_end h rfl rfl
      cases e
      exact ⟨congrArg (fun z => [(1, z)]) (Eq.symm (show f184 m a0 a1 a2 = _ from (if_neg c6).trans ((if_pos c7).trans (rfl)))), Eq.symm (show g184 m a0 a1 a2 = _ from (if_neg c6).trans ((if_pos c7).trans (rfl)))⟩
set_option maxRecDepth 16384 in
/-- TriplicateFormsModel.odds(III)I, the loop at 35 -/
noncomputable def S229_35 (m : MM) (b0 b1 b2 b3 b4 b5 : Int) : (Int × Int × MM) ⊕ (Nat × Int × (Int × Int × MM)) := (if b2 ≤ b5 then .inr (1, 0, (b4, b5, m)) else (if ((g183 m b0 20 (s32 (b3 + b5))) ((g183 m b0 20 (s32 (b3 + b5))) b0 14) (s32 (182 + b1))) = 2 then .inl (s32 (b4 + 1), s32 (b5 + 1), g284 (g183 m b0 20 (s32 (b3 + b5))) b0) else .inl (b4, s32 (b5 + 1), g284 (g183 m b0 20 (s32 (b3 + b5))) b0)))
set_option maxRecDepth 16384 in
noncomputable def K229_35 (m : MM) (b0 b1 b2 b3 b4 b5 : Int) : (Int × Int × MM) → (Int × Int × MM) ⊕ (Nat × Int × (Int × Int × MM)) := fun s => S229_35 s.2.2 b0 b1 b2 b3 s.1 s.2.1
set_option maxRecDepth 16384 in
noncomputable def L229_35 (m : MM) (b0 b1 b2 b3 b4 b5 : Int) : (Nat × Int × (Int × Int × MM)) := Lp (K229_35 m b0 b1 b2 b3 b4 b5) (b4, b5, m)
set_option maxRecDepth 16384 in
theorem l229_35 {X : KO} {ρ : Nat → Int32} {o : Instr × List (Nat × Int) × MM} {K : Nat} : ∀ {N : Nat} {m : MM} {b0 b1 b2 b3 b4 b5 : Int}, N ≤ K → MR X ρ 6 0 0 qP229 N 35 [b0, b1, b2, b3, b4, b5] [] m o → (MR X ρ 6 0 0 qP229 K 79 [b0, b1, b2, b3, (L229_35 m b0 b1 b2 b3 b4 b5).2.2.1, (L229_35 m b0 b1 b2 b3 b4 b5).2.2.2.1] [] ((L229_35 m b0 b1 b2 b3 b4 b5).2.2.2.2) o) := by
  intro N
  induction N using Nat.strongRecOn with
  | ind N ih =>
  intro m b0 b1 b2 b3 b4 b5 hK h
  have h := CR_iload h rfl
  have h : MR X ρ 6 0 0 qP229 N 37 [b0, b1, b2, b3, b4, b5] [(1, b5)] m o := h
  have h := CR_iload_n h rfl
  have h : MR X ρ 6 0 0 qP229 N 38 [b0, b1, b2, b3, b4, b5] [(1, b2), (1, b5)] m o := h
  rcases MR_icmp h rfl rfl with ⟨c1, h⟩ | ⟨c1, h⟩
  ·
    have c1 : b2 ≤ b5 := c1
    have h : MR X ρ 6 0 0 qP229 N 79 [b0, b1, b2, b3, b4, b5] [] m o := h
    have hr : L229_35 m b0 b1 b2 b3 b4 b5 = (1, 0, (b4, b5, m)) := Lp_inr (f := K229_35 m b0 b1 b2 b3 b4 b5) (s := (b4, b5, m)) ((if_pos c1).trans (rfl))
    rw [hr]
    exact CR_le (by omega) h
  ·
    have c1 : ¬ (b2 ≤ b5) := c1
    have h : MR X ρ 6 0 0 qP229 N 41 [b0, b1, b2, b3, b4, b5] [] m o := h
    have h := CR_aload_n h rfl
    have h : MR X ρ 6 0 0 qP229 N 42 [b0, b1, b2, b3, b4, b5] [(1, b0)] m o := h
    have h := CR_bipush h rfl rfl
    have h : MR X ρ 6 0 0 qP229 N 44 [b0, b1, b2, b3, b4, b5] [(1, 20), (1, b0)] m o := h
    have h := CR_iload_n h rfl
    have h : MR X ρ 6 0 0 qP229 N 45 [b0, b1, b2, b3, b4, b5] [(1, b3), (1, 20), (1, b0)] m o := h
    have h := CR_iload h rfl
    have h : MR X ρ 6 0 0 qP229 N 47 [b0, b1, b2, b3, b4, b5] [(1, b5), (1, b3), (1, 20), (1, b0)] m o := h
    have h := CR_iadd h rfl
    have h : MR X ρ 6 0 0 qP229 N 48 [b0, b1, b2, b3, b4, b5] [(1, s32 (b3 + b5)), (1, 20), (1, b0)] m o := h
    obtain ⟨r2, m3, q4, h⟩ := MR_invV h rfl rfl
    have q4 : Run X ρ 183 [(1, b0), (1, 20), (1, s32 (b3 + b5))] m r2 m3 := q4
    obtain ⟨e5, e6⟩ := d183 q4
    rw [e5, e6] at h
    have h : MR X ρ 6 0 0 qP229 N 51 [b0, b1, b2, b3, b4, b5] [(1, f183 m b0 20 (s32 (b3 + b5)))] (g183 m b0 20 (s32 (b3 + b5))) o := h
    have h := CR_pop h rfl
    have h : MR X ρ 6 0 0 qP229 N 52 [b0, b1, b2, b3, b4, b5] [] (g183 m b0 20 (s32 (b3 + b5))) o := h
    have h := CR_aload_n h rfl
    have h : MR X ρ 6 0 0 qP229 N 53 [b0, b1, b2, b3, b4, b5] [(1, b0)] (g183 m b0 20 (s32 (b3 + b5))) o := h
    have h := CR_getf h rfl (by decide)
    have h : MR X ρ 6 0 0 qP229 N 56 [b0, b1, b2, b3, b4, b5] [(1, (g183 m b0 20 (s32 (b3 + b5))) b0 14)] (g183 m b0 20 (s32 (b3 + b5))) o := h
    have h := CR_sipush h rfl rfl
    have h : MR X ρ 6 0 0 qP229 N 59 [b0, b1, b2, b3, b4, b5] [(1, 182), (1, (g183 m b0 20 (s32 (b3 + b5))) b0 14)] (g183 m b0 20 (s32 (b3 + b5))) o := h
    have h := CR_iload_n h rfl
    have h : MR X ρ 6 0 0 qP229 N 60 [b0, b1, b2, b3, b4, b5] [(1, b1), (1, 182), (1, (g183 m b0 20 (s32 (b3 + b5))) b0 14)] (g183 m b0 20 (s32 (b3 + b5))) o := h
    have h := CR_iadd h rfl
    have h : MR X ρ 6 0 0 qP229 N 61 [b0, b1, b2, b3, b4, b5] [(1, s32 (182 + b1)), (1, (g183 m b0 20 (s32 (b3 + b5))) b0 14)] (g183 m b0 20 (s32 (b3 + b5))) o := h
    have h := CR_iaload h rfl rfl
    have h : MR X ρ 6 0 0 qP229 N 62 [b0, b1, b2, b3, b4, b5] [(1, (g183 m b0 20 (s32 (b3 + b5))) ((g183 m b0 20 (s32 (b3 + b5))) b0 14) (s32 (182 + b1)))] (g183 m b0 20 (s32 (b3 + b5))) o := h
    have h := CR_iconst h rfl rfl
    have h : MR X ρ 6 0 0 qP229 N 63 [b0, b1, b2, b3, b4, b5] [(1, 2), (1, (g183 m b0 20 (s32 (b3 + b5))) ((g183 m b0 20 (s32 (b3 + b5))) b0 14) (s32 (182 + b1)))] (g183 m b0 20 (s32 (b3 + b5))) o := h
    rcases MR_icmp h rfl rfl with ⟨c7, h⟩ | ⟨c7, h⟩
    ·
      have c7 : ¬ (((g183 m b0 20 (s32 (b3 + b5))) ((g183 m b0 20 (s32 (b3 + b5))) b0 14) (s32 (182 + b1))) = 2) := c7
      have h : MR X ρ 6 0 0 qP229 N 69 [b0, b1, b2, b3, b4, b5] [] (g183 m b0 20 (s32 (b3 + b5))) o := h
      have h := CR_aload_n h rfl
      have h : MR X ρ 6 0 0 qP229 N 70 [b0, b1, b2, b3, b4, b5] [(1, b0)] (g183 m b0 20 (s32 (b3 + b5))) o := h
      obtain ⟨r8, m9, q10, h⟩ := MR_invV h rfl rfl
      have q10 : Run X ρ 284 [(1, b0)] (g183 m b0 20 (s32 (b3 + b5))) r8 m9 := q10
      obtain ⟨e11, e12⟩ := d284 q10
      rw [e11, e12] at h
      have h : MR X ρ 6 0 0 qP229 N 73 [b0, b1, b2, b3, b4, b5] [] (g284 (g183 m b0 20 (s32 (b3 + b5))) b0) o := h
      have h := CR_inc h rfl (Nat.le_of_ble_eq_true rfl)
      have h : MR X ρ 6 0 0 qP229 N 76 [b0, b1, b2, b3, b4, s32 (b5 + 1)] [] (g284 (g183 m b0 20 (s32 (b3 + b5))) b0) o := h
      obtain ⟨N13, eN13, h⟩ := CR_goto h rfl rfl
      have h : MR X ρ 6 0 0 qP229 N13 35 [b0, b1, b2, b3, b4, s32 (b5 + 1)] [] (g284 (g183 m b0 20 (s32 (b3 + b5))) b0) o := h
      have hr : L229_35 m b0 b1 b2 b3 b4 b5 = L229_35 (g284 (g183 m b0 20 (s32 (b3 + b5))) b0) b0 b1 b2 b3 b4 (s32 (b5 + 1)) := Lp_inl (f := K229_35 m b0 b1 b2 b3 b4 b5) (s := (b4, b5, m)) (s' := (b4, s32 (b5 + 1), g284 (g183 m b0 20 (s32 (b3 + b5))) b0)) ((if_neg c1).trans ((if_neg c7).trans (rfl)))
      rw [hr]
      exact ih N13 (by omega) (by omega) h
    ·
      have c7 : ((g183 m b0 20 (s32 (b3 + b5))) ((g183 m b0 20 (s32 (b3 + b5))) b0 14) (s32 (182 + b1))) = 2 := Decidable.of_not_not (show ¬ ¬ (((g183 m b0 20 (s32 (b3 + b5))) ((g183 m b0 20 (s32 (b3 + b5))) b0 14) (s32 (182 + b1))) = 2) from c7)
      have h : MR X ρ 6 0 0 qP229 N 66 [b0, b1, b2, b3, b4, b5] [] (g183 m b0 20 (s32 (b3 + b5))) o := h
      have h := CR_inc h rfl (Nat.le_of_ble_eq_true rfl)
      have h : MR X ρ 6 0 0 qP229 N 69 [b0, b1, b2, b3, s32 (b4 + 1), b5] [] (g183 m b0 20 (s32 (b3 + b5))) o := h
      have h := CR_aload_n h rfl
      have h : MR X ρ 6 0 0 qP229 N 70 [b0, b1, b2, b3, s32 (b4 + 1), b5] [(1, b0)] (g183 m b0 20 (s32 (b3 + b5))) o := h
      obtain ⟨r14, m15, q16, h⟩ := MR_invV h rfl rfl
      have q16 : Run X ρ 284 [(1, b0)] (g183 m b0 20 (s32 (b3 + b5))) r14 m15 := q16
      obtain ⟨e17, e18⟩ := d284 q16
      rw [e17, e18] at h
      have h : MR X ρ 6 0 0 qP229 N 73 [b0, b1, b2, b3, s32 (b4 + 1), b5] [] (g284 (g183 m b0 20 (s32 (b3 + b5))) b0) o := h
      have h := CR_inc h rfl (Nat.le_of_ble_eq_true rfl)
      have h : MR X ρ 6 0 0 qP229 N 76 [b0, b1, b2, b3, s32 (b4 + 1), s32 (b5 + 1)] [] (g284 (g183 m b0 20 (s32 (b3 + b5))) b0) o := h
      obtain ⟨N19, eN19, h⟩ := CR_goto h rfl rfl
      have h : MR X ρ 6 0 0 qP229 N19 35 [b0, b1, b2, b3, s32 (b4 + 1), s32 (b5 + 1)] [] (g284 (g183 m b0 20 (s32 (b3 + b5))) b0) o := h
      have hr : L229_35 m b0 b1 b2 b3 b4 b5 = L229_35 (g284 (g183 m b0 20 (s32 (b3 + b5))) b0) b0 b1 b2 b3 (s32 (b4 + 1)) (s32 (b5 + 1)) := Lp_inl (f := K229_35 m b0 b1 b2 b3 b4 b5) (s := (b4, b5, m)) (s' := (s32 (b4 + 1), s32 (b5 + 1), g284 (g183 m b0 20 (s32 (b3 + b5))) b0)) ((if_neg c1).trans ((if_pos c7).trans (rfl)))
      rw [hr]
      exact ih N19 (by omega) (by omega) h
set_option maxRecDepth 16384 in
/-- TriplicateFormsModel.odds(III)I -/
noncomputable def f229 (m : MM) (a0 a1 a2 a3 : Int) : Int := (if (f208 (mu m a0 0 0) a0 a1) = 0 then -1 else (if (f209 (mu m a0 0 0) a2 1 30) = 0 then -1 else (L229_35 (g219 (mu m a0 0 0) a0) a0 a1 a2 a3 0 0).2.2.1))
set_option maxRecDepth 16384 in
noncomputable def g229 (m : MM) (a0 a1 a2 a3 : Int) : MM := (if (f208 (mu m a0 0 0) a0 a1) = 0 then mu m a0 0 0 else (if (f209 (mu m a0 0 0) a2 1 30) = 0 then mu m a0 0 0 else (L229_35 (g219 (mu m a0 0 0) a0) a0 a1 a2 a3 0 0).2.2.2.2))
set_option maxRecDepth 16384 in
theorem d229 {X : KO} {ρ : Nat → Int32} {m m' : MM} {rl : List (Nat × Int)} {a0 a1 a2 a3 : Int} (h : Run X ρ 229 [(1, a0), (1, a1), (1, a2), (1, a3)] m rl m') : rl = [(1, f229 m a0 a1 a2 a3)] ∧ m' = g229 m a0 a1 a2 a3 := by
  obtain ⟨N, ig, h⟩ := Run_CR h rfl
  have h : MR X ρ 6 0 0 qP229 N 0 [a0, a1, a2, a3, 0, 0] [] m (ig, rl, m') := h
  have h := CR_aload_n h rfl
  have h : MR X ρ 6 0 0 qP229 N 1 [a0, a1, a2, a3, 0, 0] [(1, a0)] m (ig, rl, m') := h
  have h := CR_iconst h rfl rfl
  have h : MR X ρ 6 0 0 qP229 N 2 [a0, a1, a2, a3, 0, 0] [(1, 0), (1, a0)] m (ig, rl, m') := h
  have h := CR_putf h rfl
  have h : MR X ρ 6 0 0 qP229 N 5 [a0, a1, a2, a3, 0, 0] [] (mu m a0 0 0) (ig, rl, m') := h
  have h := CR_aload_n h rfl
  have h : MR X ρ 6 0 0 qP229 N 6 [a0, a1, a2, a3, 0, 0] [(1, a0)] (mu m a0 0 0) (ig, rl, m') := h
  have h := CR_iload_n h rfl
  have h : MR X ρ 6 0 0 qP229 N 7 [a0, a1, a2, a3, 0, 0] [(1, a1), (1, a0)] (mu m a0 0 0) (ig, rl, m') := h
  obtain ⟨r1, m2, q3, h⟩ := MR_invV h rfl rfl
  have q3 : Run X ρ 208 [(1, a0), (1, a1)] (mu m a0 0 0) r1 m2 := q3
  obtain ⟨e4, e5⟩ := d208 q3
  rw [e4, e5] at h
  have h : MR X ρ 6 0 0 qP229 N 10 [a0, a1, a2, a3, 0, 0] [(1, f208 (mu m a0 0 0) a0 a1)] (mu m a0 0 0) (ig, rl, m') := h
  rcases MR_if h rfl rfl with ⟨c6, h⟩ | ⟨c6, h⟩
  ·
    have c6 : (f208 (mu m a0 0 0) a0 a1) = 0 := c6
    have h : MR X ρ 6 0 0 qP229 N 23 [a0, a1, a2, a3, 0, 0] [] (mu m a0 0 0) (ig, rl, m') := h
    have h := CR_iconst h rfl rfl
    have h : MR X ρ 6 0 0 qP229 N 24 [a0, a1, a2, a3, 0, 0] [(1, -1)] (mu m a0 0 0) (ig, rl, m') := h
    have e := CR_end h rfl rfl
    cases e
    exact ⟨congrArg (fun z => [(1, z)]) (Eq.symm (show f229 m a0 a1 a2 a3 = _ from (if_pos c6).trans (rfl))), Eq.symm (show g229 m a0 a1 a2 a3 = _ from (if_pos c6).trans (rfl))⟩
  ·
    have c6 : ¬ ((f208 (mu m a0 0 0) a0 a1) = 0) := c6
    have h : MR X ρ 6 0 0 qP229 N 13 [a0, a1, a2, a3, 0, 0] [] (mu m a0 0 0) (ig, rl, m') := h
    have h := CR_iload_n h rfl
    have h : MR X ρ 6 0 0 qP229 N 14 [a0, a1, a2, a3, 0, 0] [(1, a2)] (mu m a0 0 0) (ig, rl, m') := h
    have h := CR_iconst h rfl rfl
    have h : MR X ρ 6 0 0 qP229 N 15 [a0, a1, a2, a3, 0, 0] [(1, 1), (1, a2)] (mu m a0 0 0) (ig, rl, m') := h
    have h := CR_bipush h rfl rfl
    have h : MR X ρ 6 0 0 qP229 N 17 [a0, a1, a2, a3, 0, 0] [(1, 30), (1, 1), (1, a2)] (mu m a0 0 0) (ig, rl, m') := h
    obtain ⟨r7, m8, q9, h⟩ := MR_invS h rfl rfl
    have q9 : Run X ρ 209 [(1, a2), (1, 1), (1, 30)] (mu m a0 0 0) r7 m8 := q9
    obtain ⟨e10, e11⟩ := d209 q9
    rw [e10, e11] at h
    have h : MR X ρ 6 0 0 qP229 N 20 [a0, a1, a2, a3, 0, 0] [(1, f209 (mu m a0 0 0) a2 1 30)] (mu m a0 0 0) (ig, rl, m') := h
    rcases MR_if h rfl rfl with ⟨c12, h⟩ | ⟨c12, h⟩
    ·
      have c12 : ¬ ((f209 (mu m a0 0 0) a2 1 30) = 0) := c12
      have h : MR X ρ 6 0 0 qP229 N 25 [a0, a1, a2, a3, 0, 0] [] (mu m a0 0 0) (ig, rl, m') := h
      have h := CR_aload_n h rfl
      have h : MR X ρ 6 0 0 qP229 N 26 [a0, a1, a2, a3, 0, 0] [(1, a0)] (mu m a0 0 0) (ig, rl, m') := h
      obtain ⟨r13, m14, q15, h⟩ := MR_invV h rfl rfl
      have q15 : Run X ρ 219 [(1, a0)] (mu m a0 0 0) r13 m14 := q15
      obtain ⟨e16, e17⟩ := d219 q15
      rw [e16, e17] at h
      have h : MR X ρ 6 0 0 qP229 N 29 [a0, a1, a2, a3, 0, 0] [] (g219 (mu m a0 0 0) a0) (ig, rl, m') := h
      have h := CR_iconst h rfl rfl
      have h : MR X ρ 6 0 0 qP229 N 30 [a0, a1, a2, a3, 0, 0] [(1, 0)] (g219 (mu m a0 0 0) a0) (ig, rl, m') := h
      have h := CR_istore h rfl (Nat.le_of_ble_eq_true rfl)
      have h : MR X ρ 6 0 0 qP229 N 32 [a0, a1, a2, a3, 0, 0] [] (g219 (mu m a0 0 0) a0) (ig, rl, m') := h
      have h := CR_iconst h rfl rfl
      have h : MR X ρ 6 0 0 qP229 N 33 [a0, a1, a2, a3, 0, 0] [(1, 0)] (g219 (mu m a0 0 0) a0) (ig, rl, m') := h
      have h := CR_istore h rfl (Nat.le_of_ble_eq_true rfl)
      have h : MR X ρ 6 0 0 qP229 N 35 [a0, a1, a2, a3, 0, 0] [] (g219 (mu m a0 0 0) a0) (ig, rl, m') := h
      have h := l229_35 (Nat.le_refl _) h
      have h : MR X ρ 6 0 0 qP229 N 79 [a0, a1, a2, a3, (L229_35 (g219 (mu m a0 0 0) a0) a0 a1 a2 a3 0 0).2.2.1, (L229_35 (g219 (mu m a0 0 0) a0) a0 a1 a2 a3 0 0).2.2.2.1] [] ((L229_35 (g219 (mu m a0 0 0) a0) a0 a1 a2 a3 0 0).2.2.2.2) (ig, rl, m') := h
      have h := CR_iload h rfl
      have h : MR X ρ 6 0 0 qP229 N 81 [a0, a1, a2, a3, (L229_35 (g219 (mu m a0 0 0) a0) a0 a1 a2 a3 0 0).2.2.1, (L229_35 (g219 (mu m a0 0 0) a0) a0 a1 a2 a3 0 0).2.2.2.1] [(1, (L229_35 (g219 (mu m a0 0 0) a0) a0 a1 a2 a3 0 0).2.2.1)] ((L229_35 (g219 (mu m a0 0 0) a0) a0 a1 a2 a3 0 0).2.2.2.2) (ig, rl, m') := h
      have e := CR_end h rfl rfl
      cases e
      exact ⟨congrArg (fun z => [(1, z)]) (Eq.symm (show f229 m a0 a1 a2 a3 = _ from (if_neg c6).trans ((if_neg c12).trans (rfl)))), Eq.symm (show g229 m a0 a1 a2 a3 = _ from (if_neg c6).trans ((if_neg c12).trans (rfl)))⟩
    ·
      have c12 : (f209 (mu m a0 0 0) a2 1 30) = 0 := Decidable.of_not_not (show ¬ ¬ ((f209 (mu m a0 0 0) a2 1 30) = 0) from c12)
      have h : MR X ρ 6 0 0 qP229 N 23 [a0, a1, a2, a3, 0, 0] [] (mu m a0 0 0) (ig, rl, m') := h
      have h := CR_iconst h rfl rfl
      have h : MR X ρ 6 0 0 qP229 N 24 [a0, a1, a2, a3, 0, 0] [(1, -1)] (mu m a0 0 0) (ig, rl, m') := h
      have e := CR_end h rfl rfl
      cases e
      exact ⟨congrArg (fun z => [(1, z)]) (Eq.symm (show f229 m a0 a1 a2 a3 = _ from (if_neg c6).trans ((if_pos c12).trans (rfl)))), Eq.symm (show g229 m a0 a1 a2 a3 = _ from (if_neg c6).trans ((if_pos c12).trans (rfl)))⟩
end
section
set_option maxRecDepth 16384 in
theorem q67_0 {X : KO} {ρ : Nat → Int32} {m : MM} {N : Nat} {o : Instr × List (Nat × Int) × MM} {a0 a1 : Int} (h : MR X ρ 2 0 0 qP67 N 0 [a0, a1] [] m o) : (∃ y1, y1 = mcp m (m a0 0) (m a1 0) 8 ∧ (∃ y2, y2 = mcp y1 (y1 a0 1) (y1 a1 1) 8 ∧ (∃ y3, y3 = mcp y2 (y2 a0 2) (y2 a1 2) 8 ∧ (∃ y4, y4 = mcp y3 (y3 a0 3) (y3 a1 3) 8 ∧ (∃ y5, y5 = mcp y4 (y4 a0 4) (y4 a1 4) 8 ∧ (∃ y6, y6 = mu y5 a0 5 (y5 a1 5) ∧ (∃ y7, y7 = mu y6 a0 6 (y6 a1 6) ∧ (∃ y8, y8 = mu y7 a0 7 (y7 a1 7) ∧ (∃ y9, y9 = mu y8 a0 8 (y8 a1 8) ∧ (o = (.return_, [], y9))))))))))) := by
  have h := CR_aload_n h rfl
  have h : MR X ρ 2 0 0 qP67 N 1 [a0, a1] [(1, a1)] m o := h
  have h := CR_getf h rfl (by decide)
  have h : MR X ρ 2 0 0 qP67 N 4 [a0, a1] [(1, m a1 0)] m o := h
  have h := CR_iconst h rfl rfl
  have h : MR X ρ 2 0 0 qP67 N 5 [a0, a1] [(1, 0), (1, m a1 0)] m o := h
  have h := CR_aload_n h rfl
  have h : MR X ρ 2 0 0 qP67 N 6 [a0, a1] [(1, a0), (1, 0), (1, m a1 0)] m o := h
  have h := CR_getf h rfl (by decide)
  have h : MR X ρ 2 0 0 qP67 N 9 [a0, a1] [(1, m a0 0), (1, 0), (1, m a1 0)] m o := h
  have h := CR_iconst h rfl rfl
  have h : MR X ρ 2 0 0 qP67 N 10 [a0, a1] [(1, 0), (1, m a0 0), (1, 0), (1, m a1 0)] m o := h
  have h := CR_bipush h rfl rfl
  have h : MR X ρ 2 0 0 qP67 N 12 [a0, a1] [(1, 8), (1, 0), (1, m a0 0), (1, 0), (1, m a1 0)] m o := h
  have h := MR_acopy h rfl rfl
  have h : MR X ρ 2 0 0 qP67 N 15 [a0, a1] [] (mcp m (m a0 0) (m a1 0) 8) o := h
  obtain ⟨y1, zy1, h⟩ : ∃ y, y = mcp m (m a0 0) (m a1 0) 8 ∧ MR X ρ 2 0 0 qP67 N 15 [a0, a1] [] y o := ⟨_, rfl, h⟩
  have h : MR X ρ 2 0 0 qP67 N 15 [a0, a1] [] y1 o := h
  refine ⟨y1, zy1, ?_⟩
  have h := CR_aload_n h rfl
  have h : MR X ρ 2 0 0 qP67 N 16 [a0, a1] [(1, a1)] y1 o := h
  have h := CR_getf h rfl (by decide)
  have h : MR X ρ 2 0 0 qP67 N 19 [a0, a1] [(1, y1 a1 1)] y1 o := h
  have h := CR_iconst h rfl rfl
  have h : MR X ρ 2 0 0 qP67 N 20 [a0, a1] [(1, 0), (1, y1 a1 1)] y1 o := h
  have h := CR_aload_n h rfl
  have h : MR X ρ 2 0 0 qP67 N 21 [a0, a1] [(1, a0), (1, 0), (1, y1 a1 1)] y1 o := h
  have h := CR_getf h rfl (by decide)
  have h : MR X ρ 2 0 0 qP67 N 24 [a0, a1] [(1, y1 a0 1), (1, 0), (1, y1 a1 1)] y1 o := h
  have h := CR_iconst h rfl rfl
  have h : MR X ρ 2 0 0 qP67 N 25 [a0, a1] [(1, 0), (1, y1 a0 1), (1, 0), (1, y1 a1 1)] y1 o := h
  have h := CR_bipush h rfl rfl
  have h : MR X ρ 2 0 0 qP67 N 27 [a0, a1] [(1, 8), (1, 0), (1, y1 a0 1), (1, 0), (1, y1 a1 1)] y1 o := h
  have h := MR_acopy h rfl rfl
  have h : MR X ρ 2 0 0 qP67 N 30 [a0, a1] [] (mcp y1 (y1 a0 1) (y1 a1 1) 8) o := h
  obtain ⟨y2, zy2, h⟩ : ∃ y, y = mcp y1 (y1 a0 1) (y1 a1 1) 8 ∧ MR X ρ 2 0 0 qP67 N 30 [a0, a1] [] y o := ⟨_, rfl, h⟩
  have h : MR X ρ 2 0 0 qP67 N 30 [a0, a1] [] y2 o := h
  refine ⟨y2, zy2, ?_⟩
  have h := CR_aload_n h rfl
  have h : MR X ρ 2 0 0 qP67 N 31 [a0, a1] [(1, a1)] y2 o := h
  have h := CR_getf h rfl (by decide)
  have h : MR X ρ 2 0 0 qP67 N 34 [a0, a1] [(1, y2 a1 2)] y2 o := h
  have h := CR_iconst h rfl rfl
  have h : MR X ρ 2 0 0 qP67 N 35 [a0, a1] [(1, 0), (1, y2 a1 2)] y2 o := h
  have h := CR_aload_n h rfl
  have h : MR X ρ 2 0 0 qP67 N 36 [a0, a1] [(1, a0), (1, 0), (1, y2 a1 2)] y2 o := h
  have h := CR_getf h rfl (by decide)
  have h : MR X ρ 2 0 0 qP67 N 39 [a0, a1] [(1, y2 a0 2), (1, 0), (1, y2 a1 2)] y2 o := h
  have h := CR_iconst h rfl rfl
  have h : MR X ρ 2 0 0 qP67 N 40 [a0, a1] [(1, 0), (1, y2 a0 2), (1, 0), (1, y2 a1 2)] y2 o := h
  have h := CR_bipush h rfl rfl
  have h : MR X ρ 2 0 0 qP67 N 42 [a0, a1] [(1, 8), (1, 0), (1, y2 a0 2), (1, 0), (1, y2 a1 2)] y2 o := h
  have h := MR_acopy h rfl rfl
  have h : MR X ρ 2 0 0 qP67 N 45 [a0, a1] [] (mcp y2 (y2 a0 2) (y2 a1 2) 8) o := h
  obtain ⟨y3, zy3, h⟩ : ∃ y, y = mcp y2 (y2 a0 2) (y2 a1 2) 8 ∧ MR X ρ 2 0 0 qP67 N 45 [a0, a1] [] y o := ⟨_, rfl, h⟩
  have h : MR X ρ 2 0 0 qP67 N 45 [a0, a1] [] y3 o := h
  refine ⟨y3, zy3, ?_⟩
  have h := CR_aload_n h rfl
  have h : MR X ρ 2 0 0 qP67 N 46 [a0, a1] [(1, a1)] y3 o := h
  have h := CR_getf h rfl (by decide)
  have h : MR X ρ 2 0 0 qP67 N 49 [a0, a1] [(1, y3 a1 3)] y3 o := h
  have h := CR_iconst h rfl rfl
  have h : MR X ρ 2 0 0 qP67 N 50 [a0, a1] [(1, 0), (1, y3 a1 3)] y3 o := h
  have h := CR_aload_n h rfl
  have h : MR X ρ 2 0 0 qP67 N 51 [a0, a1] [(1, a0), (1, 0), (1, y3 a1 3)] y3 o := h
  have h := CR_getf h rfl (by decide)
  have h : MR X ρ 2 0 0 qP67 N 54 [a0, a1] [(1, y3 a0 3), (1, 0), (1, y3 a1 3)] y3 o := h
  have h := CR_iconst h rfl rfl
  have h : MR X ρ 2 0 0 qP67 N 55 [a0, a1] [(1, 0), (1, y3 a0 3), (1, 0), (1, y3 a1 3)] y3 o := h
  have h := CR_bipush h rfl rfl
  have h : MR X ρ 2 0 0 qP67 N 57 [a0, a1] [(1, 8), (1, 0), (1, y3 a0 3), (1, 0), (1, y3 a1 3)] y3 o := h
  have h := MR_acopy h rfl rfl
  have h : MR X ρ 2 0 0 qP67 N 60 [a0, a1] [] (mcp y3 (y3 a0 3) (y3 a1 3) 8) o := h
  obtain ⟨y4, zy4, h⟩ : ∃ y, y = mcp y3 (y3 a0 3) (y3 a1 3) 8 ∧ MR X ρ 2 0 0 qP67 N 60 [a0, a1] [] y o := ⟨_, rfl, h⟩
  have h : MR X ρ 2 0 0 qP67 N 60 [a0, a1] [] y4 o := h
  refine ⟨y4, zy4, ?_⟩
  have h := CR_aload_n h rfl
  have h : MR X ρ 2 0 0 qP67 N 61 [a0, a1] [(1, a1)] y4 o := h
  have h := CR_getf h rfl (by decide)
  have h : MR X ρ 2 0 0 qP67 N 64 [a0, a1] [(1, y4 a1 4)] y4 o := h
  have h := CR_iconst h rfl rfl
  have h : MR X ρ 2 0 0 qP67 N 65 [a0, a1] [(1, 0), (1, y4 a1 4)] y4 o := h
  have h := CR_aload_n h rfl
  have h : MR X ρ 2 0 0 qP67 N 66 [a0, a1] [(1, a0), (1, 0), (1, y4 a1 4)] y4 o := h
  have h := CR_getf h rfl (by decide)
  have h : MR X ρ 2 0 0 qP67 N 69 [a0, a1] [(1, y4 a0 4), (1, 0), (1, y4 a1 4)] y4 o := h
  have h := CR_iconst h rfl rfl
  have h : MR X ρ 2 0 0 qP67 N 70 [a0, a1] [(1, 0), (1, y4 a0 4), (1, 0), (1, y4 a1 4)] y4 o := h
  have h := CR_bipush h rfl rfl
  have h : MR X ρ 2 0 0 qP67 N 72 [a0, a1] [(1, 8), (1, 0), (1, y4 a0 4), (1, 0), (1, y4 a1 4)] y4 o := h
  have h := MR_acopy h rfl rfl
  have h : MR X ρ 2 0 0 qP67 N 75 [a0, a1] [] (mcp y4 (y4 a0 4) (y4 a1 4) 8) o := h
  obtain ⟨y5, zy5, h⟩ : ∃ y, y = mcp y4 (y4 a0 4) (y4 a1 4) 8 ∧ MR X ρ 2 0 0 qP67 N 75 [a0, a1] [] y o := ⟨_, rfl, h⟩
  have h : MR X ρ 2 0 0 qP67 N 75 [a0, a1] [] y5 o := h
  refine ⟨y5, zy5, ?_⟩
  have h := CR_aload_n h rfl
  have h : MR X ρ 2 0 0 qP67 N 76 [a0, a1] [(1, a0)] y5 o := h
  have h := CR_aload_n h rfl
  have h : MR X ρ 2 0 0 qP67 N 77 [a0, a1] [(1, a1), (1, a0)] y5 o := h
  have h := CR_getf h rfl (by decide)
  have h : MR X ρ 2 0 0 qP67 N 80 [a0, a1] [(1, y5 a1 5), (1, a0)] y5 o := h
  have h := CR_putf h rfl
  have h : MR X ρ 2 0 0 qP67 N 83 [a0, a1] [] (mu y5 a0 5 (y5 a1 5)) o := h
  obtain ⟨y6, zy6, h⟩ : ∃ y, y = mu y5 a0 5 (y5 a1 5) ∧ MR X ρ 2 0 0 qP67 N 83 [a0, a1] [] y o := ⟨_, rfl, h⟩
  have h : MR X ρ 2 0 0 qP67 N 83 [a0, a1] [] y6 o := h
  refine ⟨y6, zy6, ?_⟩
  have h := CR_aload_n h rfl
  have h : MR X ρ 2 0 0 qP67 N 84 [a0, a1] [(1, a0)] y6 o := h
  have h := CR_aload_n h rfl
  have h : MR X ρ 2 0 0 qP67 N 85 [a0, a1] [(1, a1), (1, a0)] y6 o := h
  have h := CR_getf h rfl (by decide)
  have h : MR X ρ 2 0 0 qP67 N 88 [a0, a1] [(1, y6 a1 6), (1, a0)] y6 o := h
  have h := CR_putf h rfl
  have h : MR X ρ 2 0 0 qP67 N 91 [a0, a1] [] (mu y6 a0 6 (y6 a1 6)) o := h
  obtain ⟨y7, zy7, h⟩ : ∃ y, y = mu y6 a0 6 (y6 a1 6) ∧ MR X ρ 2 0 0 qP67 N 91 [a0, a1] [] y o := ⟨_, rfl, h⟩
  have h : MR X ρ 2 0 0 qP67 N 91 [a0, a1] [] y7 o := h
  refine ⟨y7, zy7, ?_⟩
  have h := CR_aload_n h rfl
  have h : MR X ρ 2 0 0 qP67 N 92 [a0, a1] [(1, a0)] y7 o := h
  have h := CR_aload_n h rfl
  have h : MR X ρ 2 0 0 qP67 N 93 [a0, a1] [(1, a1), (1, a0)] y7 o := h
  have h := CR_getf h rfl (by decide)
  have h : MR X ρ 2 0 0 qP67 N 96 [a0, a1] [(1, y7 a1 7), (1, a0)] y7 o := h
  have h := CR_putf h rfl
  have h : MR X ρ 2 0 0 qP67 N 99 [a0, a1] [] (mu y7 a0 7 (y7 a1 7)) o := h
  obtain ⟨y8, zy8, h⟩ : ∃ y, y = mu y7 a0 7 (y7 a1 7) ∧ MR X ρ 2 0 0 qP67 N 99 [a0, a1] [] y o := ⟨_, rfl, h⟩
  have h : MR X ρ 2 0 0 qP67 N 99 [a0, a1] [] y8 o := h
  refine ⟨y8, zy8, ?_⟩
  have h := CR_aload_n h rfl
  have h : MR X ρ 2 0 0 qP67 N 100 [a0, a1] [(1, a0)] y8 o := h
  have h := CR_aload_n h rfl
  have h : MR X ρ 2 0 0 qP67 N 101 [a0, a1] [(1, a1), (1, a0)] y8 o := h
  have h := CR_getf h rfl (by decide)
  have h : MR X ρ 2 0 0 qP67 N 104 [a0, a1] [(1, y8 a1 8), (1, a0)] y8 o := h
  have h := CR_putf h rfl
  have h : MR X ρ 2 0 0 qP67 N 107 [a0, a1] [] (mu y8 a0 8 (y8 a1 8)) o := h
  obtain ⟨y9, zy9, h⟩ : ∃ y, y = mu y8 a0 8 (y8 a1 8) ∧ MR X ρ 2 0 0 qP67 N 107 [a0, a1] [] y o := ⟨_, rfl, h⟩
  have h : MR X ρ 2 0 0 qP67 N 107 [a0, a1] [] y9 o := h
  refine ⟨y9, zy9, ?_⟩
  exact CR_end h rfl rfl
set_option maxRecDepth 16384 in
theorem q113_0 {X : KO} {ρ : Nat → Int32} {m : MM} {N : Nat} {o : Instr × List (Nat × Int) × MM} {a0 a1 : Int} (h : MR X ρ 2 0 0 qP113 N 0 [a0, a1] [] m o) : (∃ y1, y1 = mcp m (m a0 1) (m a1 1) 64 ∧ (∃ y2, y2 = mcp y1 (y1 a0 2) (y1 a1 2) 8 ∧ (∃ y3, y3 = mcp y2 (y2 a0 3) (y2 a1 3) 8 ∧ (∃ y4, y4 = mcp y3 (y3 a0 4) (y3 a1 4) 8 ∧ (∃ y5, y5 = mcp y4 (y4 a0 5) (y4 a1 5) 8 ∧ (∃ y6, y6 = mcp y5 (y5 a0 6) (y5 a1 6) 24 ∧ (∃ y7, y7 = mu y6 a0 7 (y6 a1 7) ∧ (∃ y8, y8 = mu y7 a0 8 (y7 a1 8) ∧ (o = (.return_, [], y8)))))))))) := by
  have h := CR_aload_n h rfl
  have h : MR X ρ 2 0 0 qP113 N 1 [a0, a1] [(1, a1)] m o := h
  have h := CR_getf h rfl (by decide)
  have h : MR X ρ 2 0 0 qP113 N 4 [a0, a1] [(1, m a1 1)] m o := h
  have h := CR_iconst h rfl rfl
  have h : MR X ρ 2 0 0 qP113 N 5 [a0, a1] [(1, 0), (1, m a1 1)] m o := h
  have h := CR_aload_n h rfl
  have h : MR X ρ 2 0 0 qP113 N 6 [a0, a1] [(1, a0), (1, 0), (1, m a1 1)] m o := h
  have h := CR_getf h rfl (by decide)
  have h : MR X ρ 2 0 0 qP113 N 9 [a0, a1] [(1, m a0 1), (1, 0), (1, m a1 1)] m o := h
  have h := CR_iconst h rfl rfl
  have h : MR X ρ 2 0 0 qP113 N 10 [a0, a1] [(1, 0), (1, m a0 1), (1, 0), (1, m a1 1)] m o := h
  have h := CR_bipush h rfl rfl
  have h : MR X ρ 2 0 0 qP113 N 12 [a0, a1] [(1, 64), (1, 0), (1, m a0 1), (1, 0), (1, m a1 1)] m o := h
  have h := MR_acopy h rfl rfl
  have h : MR X ρ 2 0 0 qP113 N 15 [a0, a1] [] (mcp m (m a0 1) (m a1 1) 64) o := h
  obtain ⟨y1, zy1, h⟩ : ∃ y, y = mcp m (m a0 1) (m a1 1) 64 ∧ MR X ρ 2 0 0 qP113 N 15 [a0, a1] [] y o := ⟨_, rfl, h⟩
  have h : MR X ρ 2 0 0 qP113 N 15 [a0, a1] [] y1 o := h
  refine ⟨y1, zy1, ?_⟩
  have h := CR_aload_n h rfl
  have h : MR X ρ 2 0 0 qP113 N 16 [a0, a1] [(1, a1)] y1 o := h
  have h := CR_getf h rfl (by decide)
  have h : MR X ρ 2 0 0 qP113 N 19 [a0, a1] [(1, y1 a1 2)] y1 o := h
  have h := CR_iconst h rfl rfl
  have h : MR X ρ 2 0 0 qP113 N 20 [a0, a1] [(1, 0), (1, y1 a1 2)] y1 o := h
  have h := CR_aload_n h rfl
  have h : MR X ρ 2 0 0 qP113 N 21 [a0, a1] [(1, a0), (1, 0), (1, y1 a1 2)] y1 o := h
  have h := CR_getf h rfl (by decide)
  have h : MR X ρ 2 0 0 qP113 N 24 [a0, a1] [(1, y1 a0 2), (1, 0), (1, y1 a1 2)] y1 o := h
  have h := CR_iconst h rfl rfl
  have h : MR X ρ 2 0 0 qP113 N 25 [a0, a1] [(1, 0), (1, y1 a0 2), (1, 0), (1, y1 a1 2)] y1 o := h
  have h := CR_bipush h rfl rfl
  have h : MR X ρ 2 0 0 qP113 N 27 [a0, a1] [(1, 8), (1, 0), (1, y1 a0 2), (1, 0), (1, y1 a1 2)] y1 o := h
  have h := MR_acopy h rfl rfl
  have h : MR X ρ 2 0 0 qP113 N 30 [a0, a1] [] (mcp y1 (y1 a0 2) (y1 a1 2) 8) o := h
  obtain ⟨y2, zy2, h⟩ : ∃ y, y = mcp y1 (y1 a0 2) (y1 a1 2) 8 ∧ MR X ρ 2 0 0 qP113 N 30 [a0, a1] [] y o := ⟨_, rfl, h⟩
  have h : MR X ρ 2 0 0 qP113 N 30 [a0, a1] [] y2 o := h
  refine ⟨y2, zy2, ?_⟩
  have h := CR_aload_n h rfl
  have h : MR X ρ 2 0 0 qP113 N 31 [a0, a1] [(1, a1)] y2 o := h
  have h := CR_getf h rfl (by decide)
  have h : MR X ρ 2 0 0 qP113 N 34 [a0, a1] [(1, y2 a1 3)] y2 o := h
  have h := CR_iconst h rfl rfl
  have h : MR X ρ 2 0 0 qP113 N 35 [a0, a1] [(1, 0), (1, y2 a1 3)] y2 o := h
  have h := CR_aload_n h rfl
  have h : MR X ρ 2 0 0 qP113 N 36 [a0, a1] [(1, a0), (1, 0), (1, y2 a1 3)] y2 o := h
  have h := CR_getf h rfl (by decide)
  have h : MR X ρ 2 0 0 qP113 N 39 [a0, a1] [(1, y2 a0 3), (1, 0), (1, y2 a1 3)] y2 o := h
  have h := CR_iconst h rfl rfl
  have h : MR X ρ 2 0 0 qP113 N 40 [a0, a1] [(1, 0), (1, y2 a0 3), (1, 0), (1, y2 a1 3)] y2 o := h
  have h := CR_bipush h rfl rfl
  have h : MR X ρ 2 0 0 qP113 N 42 [a0, a1] [(1, 8), (1, 0), (1, y2 a0 3), (1, 0), (1, y2 a1 3)] y2 o := h
  have h := MR_acopy h rfl rfl
  have h : MR X ρ 2 0 0 qP113 N 45 [a0, a1] [] (mcp y2 (y2 a0 3) (y2 a1 3) 8) o := h
  obtain ⟨y3, zy3, h⟩ : ∃ y, y = mcp y2 (y2 a0 3) (y2 a1 3) 8 ∧ MR X ρ 2 0 0 qP113 N 45 [a0, a1] [] y o := ⟨_, rfl, h⟩
  have h : MR X ρ 2 0 0 qP113 N 45 [a0, a1] [] y3 o := h
  refine ⟨y3, zy3, ?_⟩
  have h := CR_aload_n h rfl
  have h : MR X ρ 2 0 0 qP113 N 46 [a0, a1] [(1, a1)] y3 o := h
  have h := CR_getf h rfl (by decide)
  have h : MR X ρ 2 0 0 qP113 N 49 [a0, a1] [(1, y3 a1 4)] y3 o := h
  have h := CR_iconst h rfl rfl
  have h : MR X ρ 2 0 0 qP113 N 50 [a0, a1] [(1, 0), (1, y3 a1 4)] y3 o := h
  have h := CR_aload_n h rfl
  have h : MR X ρ 2 0 0 qP113 N 51 [a0, a1] [(1, a0), (1, 0), (1, y3 a1 4)] y3 o := h
  have h := CR_getf h rfl (by decide)
  have h : MR X ρ 2 0 0 qP113 N 54 [a0, a1] [(1, y3 a0 4), (1, 0), (1, y3 a1 4)] y3 o := h
  have h := CR_iconst h rfl rfl
  have h : MR X ρ 2 0 0 qP113 N 55 [a0, a1] [(1, 0), (1, y3 a0 4), (1, 0), (1, y3 a1 4)] y3 o := h
  have h := CR_bipush h rfl rfl
  have h : MR X ρ 2 0 0 qP113 N 57 [a0, a1] [(1, 8), (1, 0), (1, y3 a0 4), (1, 0), (1, y3 a1 4)] y3 o := h
  have h := MR_acopy h rfl rfl
  have h : MR X ρ 2 0 0 qP113 N 60 [a0, a1] [] (mcp y3 (y3 a0 4) (y3 a1 4) 8) o := h
  obtain ⟨y4, zy4, h⟩ : ∃ y, y = mcp y3 (y3 a0 4) (y3 a1 4) 8 ∧ MR X ρ 2 0 0 qP113 N 60 [a0, a1] [] y o := ⟨_, rfl, h⟩
  have h : MR X ρ 2 0 0 qP113 N 60 [a0, a1] [] y4 o := h
  refine ⟨y4, zy4, ?_⟩
  have h := CR_aload_n h rfl
  have h : MR X ρ 2 0 0 qP113 N 61 [a0, a1] [(1, a1)] y4 o := h
  have h := CR_getf h rfl (by decide)
  have h : MR X ρ 2 0 0 qP113 N 64 [a0, a1] [(1, y4 a1 5)] y4 o := h
  have h := CR_iconst h rfl rfl
  have h : MR X ρ 2 0 0 qP113 N 65 [a0, a1] [(1, 0), (1, y4 a1 5)] y4 o := h
  have h := CR_aload_n h rfl
  have h : MR X ρ 2 0 0 qP113 N 66 [a0, a1] [(1, a0), (1, 0), (1, y4 a1 5)] y4 o := h
  have h := CR_getf h rfl (by decide)
  have h : MR X ρ 2 0 0 qP113 N 69 [a0, a1] [(1, y4 a0 5), (1, 0), (1, y4 a1 5)] y4 o := h
  have h := CR_iconst h rfl rfl
  have h : MR X ρ 2 0 0 qP113 N 70 [a0, a1] [(1, 0), (1, y4 a0 5), (1, 0), (1, y4 a1 5)] y4 o := h
  have h := CR_bipush h rfl rfl
  have h : MR X ρ 2 0 0 qP113 N 72 [a0, a1] [(1, 8), (1, 0), (1, y4 a0 5), (1, 0), (1, y4 a1 5)] y4 o := h
  have h := MR_acopy h rfl rfl
  have h : MR X ρ 2 0 0 qP113 N 75 [a0, a1] [] (mcp y4 (y4 a0 5) (y4 a1 5) 8) o := h
  obtain ⟨y5, zy5, h⟩ : ∃ y, y = mcp y4 (y4 a0 5) (y4 a1 5) 8 ∧ MR X ρ 2 0 0 qP113 N 75 [a0, a1] [] y o := ⟨_, rfl, h⟩
  have h : MR X ρ 2 0 0 qP113 N 75 [a0, a1] [] y5 o := h
  refine ⟨y5, zy5, ?_⟩
  have h := CR_aload_n h rfl
  have h : MR X ρ 2 0 0 qP113 N 76 [a0, a1] [(1, a1)] y5 o := h
  have h := CR_getf h rfl (by decide)
  have h : MR X ρ 2 0 0 qP113 N 79 [a0, a1] [(1, y5 a1 6)] y5 o := h
  have h := CR_iconst h rfl rfl
  have h : MR X ρ 2 0 0 qP113 N 80 [a0, a1] [(1, 0), (1, y5 a1 6)] y5 o := h
  have h := CR_aload_n h rfl
  have h : MR X ρ 2 0 0 qP113 N 81 [a0, a1] [(1, a0), (1, 0), (1, y5 a1 6)] y5 o := h
  have h := CR_getf h rfl (by decide)
  have h : MR X ρ 2 0 0 qP113 N 84 [a0, a1] [(1, y5 a0 6), (1, 0), (1, y5 a1 6)] y5 o := h
  have h := CR_iconst h rfl rfl
  have h : MR X ρ 2 0 0 qP113 N 85 [a0, a1] [(1, 0), (1, y5 a0 6), (1, 0), (1, y5 a1 6)] y5 o := h
  have h := CR_bipush h rfl rfl
  have h : MR X ρ 2 0 0 qP113 N 87 [a0, a1] [(1, 24), (1, 0), (1, y5 a0 6), (1, 0), (1, y5 a1 6)] y5 o := h
  have h := MR_acopy h rfl rfl
  have h : MR X ρ 2 0 0 qP113 N 90 [a0, a1] [] (mcp y5 (y5 a0 6) (y5 a1 6) 24) o := h
  obtain ⟨y6, zy6, h⟩ : ∃ y, y = mcp y5 (y5 a0 6) (y5 a1 6) 24 ∧ MR X ρ 2 0 0 qP113 N 90 [a0, a1] [] y o := ⟨_, rfl, h⟩
  have h : MR X ρ 2 0 0 qP113 N 90 [a0, a1] [] y6 o := h
  refine ⟨y6, zy6, ?_⟩
  have h := CR_aload_n h rfl
  have h : MR X ρ 2 0 0 qP113 N 91 [a0, a1] [(1, a0)] y6 o := h
  have h := CR_aload_n h rfl
  have h : MR X ρ 2 0 0 qP113 N 92 [a0, a1] [(1, a1), (1, a0)] y6 o := h
  have h := CR_getf h rfl (by decide)
  have h : MR X ρ 2 0 0 qP113 N 95 [a0, a1] [(1, y6 a1 7), (1, a0)] y6 o := h
  have h := CR_putf h rfl
  have h : MR X ρ 2 0 0 qP113 N 98 [a0, a1] [] (mu y6 a0 7 (y6 a1 7)) o := h
  obtain ⟨y7, zy7, h⟩ : ∃ y, y = mu y6 a0 7 (y6 a1 7) ∧ MR X ρ 2 0 0 qP113 N 98 [a0, a1] [] y o := ⟨_, rfl, h⟩
  have h : MR X ρ 2 0 0 qP113 N 98 [a0, a1] [] y7 o := h
  refine ⟨y7, zy7, ?_⟩
  have h := CR_aload_n h rfl
  have h : MR X ρ 2 0 0 qP113 N 99 [a0, a1] [(1, a0)] y7 o := h
  have h := CR_aload_n h rfl
  have h : MR X ρ 2 0 0 qP113 N 100 [a0, a1] [(1, a1), (1, a0)] y7 o := h
  have h := CR_getf h rfl (by decide)
  have h : MR X ρ 2 0 0 qP113 N 103 [a0, a1] [(1, y7 a1 8), (1, a0)] y7 o := h
  have h := CR_putf h rfl
  have h : MR X ρ 2 0 0 qP113 N 106 [a0, a1] [] (mu y7 a0 8 (y7 a1 8)) o := h
  obtain ⟨y8, zy8, h⟩ : ∃ y, y = mu y7 a0 8 (y7 a1 8) ∧ MR X ρ 2 0 0 qP113 N 106 [a0, a1] [] y o := ⟨_, rfl, h⟩
  have h : MR X ρ 2 0 0 qP113 N 106 [a0, a1] [] y8 o := h
  refine ⟨y8, zy8, ?_⟩
  exact CR_end h rfl rfl
set_option maxRecDepth 16384 in
theorem q88_0 {X : KO} {ρ : Nat → Int32} {m : MM} {N : Nat} {o : Instr × List (Nat × Int) × MM} {a0 a1 : Int} (h : MR X ρ 2 0 0 qP88 N 0 [a0, a1] [] m o) : (∃ y1, y1 = mcp m (m a0 0) (m a1 0) 40 ∧ (∃ y2, y2 = mcp y1 (y1 a0 1) (y1 a1 1) 40 ∧ (∃ y3, y3 = mcp y2 (y2 a0 2) (y2 a1 2) 40 ∧ (∃ y4, y4 = mu y3 a0 4 (y3 a1 4) ∧ (∃ y5, y5 = mu y4 a0 5 (y4 a1 5) ∧ (o = (.return_, [], y5))))))) := by
  have h := CR_aload_n h rfl
  have h : MR X ρ 2 0 0 qP88 N 1 [a0, a1] [(1, a1)] m o := h
  have h := CR_getf h rfl (by decide)
  have h : MR X ρ 2 0 0 qP88 N 4 [a0, a1] [(1, m a1 0)] m o := h
  have h := CR_iconst h rfl rfl
  have h : MR X ρ 2 0 0 qP88 N 5 [a0, a1] [(1, 0), (1, m a1 0)] m o := h
  have h := CR_aload_n h rfl
  have h : MR X ρ 2 0 0 qP88 N 6 [a0, a1] [(1, a0), (1, 0), (1, m a1 0)] m o := h
  have h := CR_getf h rfl (by decide)
  have h : MR X ρ 2 0 0 qP88 N 9 [a0, a1] [(1, m a0 0), (1, 0), (1, m a1 0)] m o := h
  have h := CR_iconst h rfl rfl
  have h : MR X ρ 2 0 0 qP88 N 10 [a0, a1] [(1, 0), (1, m a0 0), (1, 0), (1, m a1 0)] m o := h
  have h := CR_bipush h rfl rfl
  have h : MR X ρ 2 0 0 qP88 N 12 [a0, a1] [(1, 40), (1, 0), (1, m a0 0), (1, 0), (1, m a1 0)] m o := h
  have h := MR_acopy h rfl rfl
  have h : MR X ρ 2 0 0 qP88 N 15 [a0, a1] [] (mcp m (m a0 0) (m a1 0) 40) o := h
  obtain ⟨y1, zy1, h⟩ : ∃ y, y = mcp m (m a0 0) (m a1 0) 40 ∧ MR X ρ 2 0 0 qP88 N 15 [a0, a1] [] y o := ⟨_, rfl, h⟩
  have h : MR X ρ 2 0 0 qP88 N 15 [a0, a1] [] y1 o := h
  refine ⟨y1, zy1, ?_⟩
  have h := CR_aload_n h rfl
  have h : MR X ρ 2 0 0 qP88 N 16 [a0, a1] [(1, a1)] y1 o := h
  have h := CR_getf h rfl (by decide)
  have h : MR X ρ 2 0 0 qP88 N 19 [a0, a1] [(1, y1 a1 1)] y1 o := h
  have h := CR_iconst h rfl rfl
  have h : MR X ρ 2 0 0 qP88 N 20 [a0, a1] [(1, 0), (1, y1 a1 1)] y1 o := h
  have h := CR_aload_n h rfl
  have h : MR X ρ 2 0 0 qP88 N 21 [a0, a1] [(1, a0), (1, 0), (1, y1 a1 1)] y1 o := h
  have h := CR_getf h rfl (by decide)
  have h : MR X ρ 2 0 0 qP88 N 24 [a0, a1] [(1, y1 a0 1), (1, 0), (1, y1 a1 1)] y1 o := h
  have h := CR_iconst h rfl rfl
  have h : MR X ρ 2 0 0 qP88 N 25 [a0, a1] [(1, 0), (1, y1 a0 1), (1, 0), (1, y1 a1 1)] y1 o := h
  have h := CR_bipush h rfl rfl
  have h : MR X ρ 2 0 0 qP88 N 27 [a0, a1] [(1, 40), (1, 0), (1, y1 a0 1), (1, 0), (1, y1 a1 1)] y1 o := h
  have h := MR_acopy h rfl rfl
  have h : MR X ρ 2 0 0 qP88 N 30 [a0, a1] [] (mcp y1 (y1 a0 1) (y1 a1 1) 40) o := h
  obtain ⟨y2, zy2, h⟩ : ∃ y, y = mcp y1 (y1 a0 1) (y1 a1 1) 40 ∧ MR X ρ 2 0 0 qP88 N 30 [a0, a1] [] y o := ⟨_, rfl, h⟩
  have h : MR X ρ 2 0 0 qP88 N 30 [a0, a1] [] y2 o := h
  refine ⟨y2, zy2, ?_⟩
  have h := CR_aload_n h rfl
  have h : MR X ρ 2 0 0 qP88 N 31 [a0, a1] [(1, a1)] y2 o := h
  have h := CR_getf h rfl (by decide)
  have h : MR X ρ 2 0 0 qP88 N 34 [a0, a1] [(1, y2 a1 2)] y2 o := h
  have h := CR_iconst h rfl rfl
  have h : MR X ρ 2 0 0 qP88 N 35 [a0, a1] [(1, 0), (1, y2 a1 2)] y2 o := h
  have h := CR_aload_n h rfl
  have h : MR X ρ 2 0 0 qP88 N 36 [a0, a1] [(1, a0), (1, 0), (1, y2 a1 2)] y2 o := h
  have h := CR_getf h rfl (by decide)
  have h : MR X ρ 2 0 0 qP88 N 39 [a0, a1] [(1, y2 a0 2), (1, 0), (1, y2 a1 2)] y2 o := h
  have h := CR_iconst h rfl rfl
  have h : MR X ρ 2 0 0 qP88 N 40 [a0, a1] [(1, 0), (1, y2 a0 2), (1, 0), (1, y2 a1 2)] y2 o := h
  have h := CR_bipush h rfl rfl
  have h : MR X ρ 2 0 0 qP88 N 42 [a0, a1] [(1, 40), (1, 0), (1, y2 a0 2), (1, 0), (1, y2 a1 2)] y2 o := h
  have h := MR_acopy h rfl rfl
  have h : MR X ρ 2 0 0 qP88 N 45 [a0, a1] [] (mcp y2 (y2 a0 2) (y2 a1 2) 40) o := h
  obtain ⟨y3, zy3, h⟩ : ∃ y, y = mcp y2 (y2 a0 2) (y2 a1 2) 40 ∧ MR X ρ 2 0 0 qP88 N 45 [a0, a1] [] y o := ⟨_, rfl, h⟩
  have h : MR X ρ 2 0 0 qP88 N 45 [a0, a1] [] y3 o := h
  refine ⟨y3, zy3, ?_⟩
  have h := CR_aload_n h rfl
  have h : MR X ρ 2 0 0 qP88 N 46 [a0, a1] [(1, a0)] y3 o := h
  have h := CR_aload_n h rfl
  have h : MR X ρ 2 0 0 qP88 N 47 [a0, a1] [(1, a1), (1, a0)] y3 o := h
  have h := CR_getf h rfl (by decide)
  have h : MR X ρ 2 0 0 qP88 N 50 [a0, a1] [(1, y3 a1 4), (1, a0)] y3 o := h
  have h := CR_putf h rfl
  have h : MR X ρ 2 0 0 qP88 N 53 [a0, a1] [] (mu y3 a0 4 (y3 a1 4)) o := h
  obtain ⟨y4, zy4, h⟩ : ∃ y, y = mu y3 a0 4 (y3 a1 4) ∧ MR X ρ 2 0 0 qP88 N 53 [a0, a1] [] y o := ⟨_, rfl, h⟩
  have h : MR X ρ 2 0 0 qP88 N 53 [a0, a1] [] y4 o := h
  refine ⟨y4, zy4, ?_⟩
  have h := CR_aload_n h rfl
  have h : MR X ρ 2 0 0 qP88 N 54 [a0, a1] [(1, a0)] y4 o := h
  have h := CR_aload_n h rfl
  have h : MR X ρ 2 0 0 qP88 N 55 [a0, a1] [(1, a1), (1, a0)] y4 o := h
  have h := CR_getf h rfl (by decide)
  have h : MR X ρ 2 0 0 qP88 N 58 [a0, a1] [(1, y4 a1 5), (1, a0)] y4 o := h
  have h := CR_putf h rfl
  have h : MR X ρ 2 0 0 qP88 N 61 [a0, a1] [] (mu y4 a0 5 (y4 a1 5)) o := h
  obtain ⟨y5, zy5, h⟩ : ∃ y, y = mu y4 a0 5 (y4 a1 5) ∧ MR X ρ 2 0 0 qP88 N 61 [a0, a1] [] y o := ⟨_, rfl, h⟩
  have h : MR X ρ 2 0 0 qP88 N 61 [a0, a1] [] y5 o := h
  refine ⟨y5, zy5, ?_⟩
  exact CR_end h rfl rfl
set_option maxRecDepth 16384 in
theorem q25_0 {X : KO} {ρ : Nat → Int32} {m : MM} {N : Nat} {o : Instr × List (Nat × Int) × MM} {a0 : Int} (h : MR X ρ 2 0 0 qP25 N 0 [a0, 0] [] m o) : (∃ v4 m2, Run X ρ 83 [(1, m a0 2), (1, m a0 0), (1, m a0 4)] m [(1, v4)] m2 ∧ (∃ y5, y5 = mu m2 a0 13 (m2 (m2 a0 0) 9) ∧ (∃ y6, y6 = mu y5 (y5 a0 0) 1 0 ∧ ((((y6 a0 13) = 0) ∧ (∃ m9, Run X ρ 67 [(1, y6 a0 1), (1, y6 a0 2)] y6 [] m9 ∧ (∃ m12, Run X ρ 113 [(1, m9 a0 3), (1, m9 a0 4)] m9 [] m12 ∧ (∃ m15, Run X ρ 89 [(1, m12 a0 11)] m12 [] m15 ∧ (∃ m18, Run X ρ 161 [(1, m15 a0 5)] m15 [] m18 ∧ (o = (.ireturn, [(1, v4)], m18))))))) ∨ (¬ ((y6 a0 13) = 0) ∧ (o = (.ireturn, [(1, s32 ((-1) - (y6 (y6 a0 0) 10)))], y6))))))) := by
  have h := CR_aload_n h rfl
  have h : MR X ρ 2 0 0 qP25 N 1 [a0, 0] [(1, a0)] m o := h
  have h := CR_getf h rfl (by decide)
  have h : MR X ρ 2 0 0 qP25 N 4 [a0, 0] [(1, m a0 2)] m o := h
  have h := CR_aload_n h rfl
  have h : MR X ρ 2 0 0 qP25 N 5 [a0, 0] [(1, a0), (1, m a0 2)] m o := h
  have h := CR_getf h rfl (by decide)
  have h : MR X ρ 2 0 0 qP25 N 8 [a0, 0] [(1, m a0 0), (1, m a0 2)] m o := h
  have h := CR_aload_n h rfl
  have h : MR X ρ 2 0 0 qP25 N 9 [a0, 0] [(1, a0), (1, m a0 0), (1, m a0 2)] m o := h
  have h := CR_getf h rfl (by decide)
  have h : MR X ρ 2 0 0 qP25 N 12 [a0, 0] [(1, m a0 4), (1, m a0 0), (1, m a0 2)] m o := h
  obtain ⟨r1, m2, q3, h⟩ := MR_invV h rfl rfl
  have q3 : Run X ρ 83 [(1, m a0 2), (1, m a0 0), (1, m a0 4)] m r1 m2 := q3
  obtain ⟨v4, rfl⟩ := Run_i q3 rfl
  have h : MR X ρ 2 0 0 qP25 N 15 [a0, 0] [(1, v4)] m2 o := h
  refine ⟨v4, m2, q3, ?_⟩
  have h := CR_istore_n h rfl (Nat.le_of_ble_eq_true rfl)
  have h : MR X ρ 2 0 0 qP25 N 16 [a0, v4] [] m2 o := h
  have h := CR_aload_n h rfl
  have h : MR X ρ 2 0 0 qP25 N 17 [a0, v4] [(1, a0)] m2 o := h
  have h := CR_aload_n h rfl
  have h : MR X ρ 2 0 0 qP25 N 18 [a0, v4] [(1, a0), (1, a0)] m2 o := h
  have h := CR_getf h rfl (by decide)
  have h : MR X ρ 2 0 0 qP25 N 21 [a0, v4] [(1, m2 a0 0), (1, a0)] m2 o := h
  have h := CR_getf h rfl (by decide)
  have h : MR X ρ 2 0 0 qP25 N 24 [a0, v4] [(1, m2 (m2 a0 0) 9), (1, a0)] m2 o := h
  have h := CR_putf h rfl
  have h : MR X ρ 2 0 0 qP25 N 27 [a0, v4] [] (mu m2 a0 13 (m2 (m2 a0 0) 9)) o := h
  obtain ⟨y5, zy5, h⟩ : ∃ y, y = mu m2 a0 13 (m2 (m2 a0 0) 9) ∧ MR X ρ 2 0 0 qP25 N 27 [a0, v4] [] y o := ⟨_, rfl, h⟩
  have h : MR X ρ 2 0 0 qP25 N 27 [a0, v4] [] y5 o := h
  refine ⟨y5, zy5, ?_⟩
  have h := CR_aload_n h rfl
  have h : MR X ρ 2 0 0 qP25 N 28 [a0, v4] [(1, a0)] y5 o := h
  have h := CR_getf h rfl (by decide)
  have h : MR X ρ 2 0 0 qP25 N 31 [a0, v4] [(1, y5 a0 0)] y5 o := h
  have h := CR_iconst h rfl rfl
  have h : MR X ρ 2 0 0 qP25 N 32 [a0, v4] [(1, 0), (1, y5 a0 0)] y5 o := h
  have h := CR_putf h rfl
  have h : MR X ρ 2 0 0 qP25 N 35 [a0, v4] [] (mu y5 (y5 a0 0) 1 0) o := h
  obtain ⟨y6, zy6, h⟩ : ∃ y, y = mu y5 (y5 a0 0) 1 0 ∧ MR X ρ 2 0 0 qP25 N 35 [a0, v4] [] y o := ⟨_, rfl, h⟩
  have h : MR X ρ 2 0 0 qP25 N 35 [a0, v4] [] y6 o := h
  refine ⟨y6, zy6, ?_⟩
  have h := CR_aload_n h rfl
  have h : MR X ρ 2 0 0 qP25 N 36 [a0, v4] [(1, a0)] y6 o := h
  have h := CR_getf h rfl (by decide)
  have h : MR X ρ 2 0 0 qP25 N 39 [a0, v4] [(1, y6 a0 13)] y6 o := h
  rcases MR_if h rfl rfl with ⟨c7, h⟩ | ⟨c7, h⟩
  ·
    have c7 : (y6 a0 13) = 0 := c7
    refine Or.inl ⟨c7, ?_⟩
    have h : MR X ρ 2 0 0 qP25 N 52 [a0, v4] [] y6 o := h
    have h := CR_aload_n h rfl
    have h : MR X ρ 2 0 0 qP25 N 53 [a0, v4] [(1, a0)] y6 o := h
    have h := CR_getf h rfl (by decide)
    have h : MR X ρ 2 0 0 qP25 N 56 [a0, v4] [(1, y6 a0 1)] y6 o := h
    have h := CR_aload_n h rfl
    have h : MR X ρ 2 0 0 qP25 N 57 [a0, v4] [(1, a0), (1, y6 a0 1)] y6 o := h
    have h := CR_getf h rfl (by decide)
    have h : MR X ρ 2 0 0 qP25 N 60 [a0, v4] [(1, y6 a0 2), (1, y6 a0 1)] y6 o := h
    obtain ⟨r8, m9, q10, h⟩ := MR_invV h rfl rfl
    have q10 : Run X ρ 67 [(1, y6 a0 1), (1, y6 a0 2)] y6 r8 m9 := q10
    obtain rfl := Run_v q10 rfl
    have h : MR X ρ 2 0 0 qP25 N 63 [a0, v4] [] m9 o := h
    refine ⟨m9, q10, ?_⟩
    have h := CR_aload_n h rfl
    have h : MR X ρ 2 0 0 qP25 N 64 [a0, v4] [(1, a0)] m9 o := h
    have h := CR_getf h rfl (by decide)
    have h : MR X ρ 2 0 0 qP25 N 67 [a0, v4] [(1, m9 a0 3)] m9 o := h
    have h := CR_aload_n h rfl
    have h : MR X ρ 2 0 0 qP25 N 68 [a0, v4] [(1, a0), (1, m9 a0 3)] m9 o := h
    have h := CR_getf h rfl (by decide)
    have h : MR X ρ 2 0 0 qP25 N 71 [a0, v4] [(1, m9 a0 4), (1, m9 a0 3)] m9 o := h
    obtain ⟨r11, m12, q13, h⟩ := MR_invV h rfl rfl
    have q13 : Run X ρ 113 [(1, m9 a0 3), (1, m9 a0 4)] m9 r11 m12 := q13
    obtain rfl := Run_v q13 rfl
    have h : MR X ρ 2 0 0 qP25 N 74 [a0, v4] [] m12 o := h
    refine ⟨m12, q13, ?_⟩
    have h := CR_aload_n h rfl
    have h : MR X ρ 2 0 0 qP25 N 75 [a0, v4] [(1, a0)] m12 o := h
    have h := CR_getf h rfl (by decide)
    have h : MR X ρ 2 0 0 qP25 N 78 [a0, v4] [(1, m12 a0 11)] m12 o := h
    obtain ⟨r14, m15, q16, h⟩ := MR_invV h rfl rfl
    have q16 : Run X ρ 89 [(1, m12 a0 11)] m12 r14 m15 := q16
    obtain rfl := Run_v q16 rfl
    have h : MR X ρ 2 0 0 qP25 N 81 [a0, v4] [] m15 o := h
    refine ⟨m15, q16, ?_⟩
    have h := CR_aload_n h rfl
    have h : MR X ρ 2 0 0 qP25 N 82 [a0, v4] [(1, a0)] m15 o := h
    have h := CR_getf h rfl (by decide)
    have h : MR X ρ 2 0 0 qP25 N 85 [a0, v4] [(1, m15 a0 5)] m15 o := h
    obtain ⟨r17, m18, q19, h⟩ := MR_invV h rfl rfl
    have q19 : Run X ρ 161 [(1, m15 a0 5)] m15 r17 m18 := q19
    obtain rfl := Run_v q19 rfl
    have h : MR X ρ 2 0 0 qP25 N 88 [a0, v4] [] m18 o := h
    refine ⟨m18, q19, ?_⟩
    have h := CR_iload_n h rfl
    have h : MR X ρ 2 0 0 qP25 N 89 [a0, v4] [(1, v4)] m18 o := h
    exact CR_end h rfl rfl
  ·
    have c7 : ¬ ((y6 a0 13) = 0) := c7
    refine Or.inr ⟨c7, ?_⟩
    have h : MR X ρ 2 0 0 qP25 N 42 [a0, v4] [] y6 o := h
    have h := CR_iconst h rfl rfl
    have h : MR X ρ 2 0 0 qP25 N 43 [a0, v4] [(1, -1)] y6 o := h
    have h := CR_aload_n h rfl
    have h : MR X ρ 2 0 0 qP25 N 44 [a0, v4] [(1, a0), (1, -1)] y6 o := h
    have h := CR_getf h rfl (by decide)
    have h : MR X ρ 2 0 0 qP25 N 47 [a0, v4] [(1, y6 a0 0), (1, -1)] y6 o := h
    have h := CR_getf h rfl (by decide)
    have h : MR X ρ 2 0 0 qP25 N 50 [a0, v4] [(1, y6 (y6 a0 0) 10), (1, -1)] y6 o := h
    have h := CR_isub h rfl
    have h : MR X ρ 2 0 0 qP25 N 51 [a0, v4] [(1, s32 ((-1) - (y6 (y6 a0 0) 10)))] y6 o := h
    exact CR_end h rfl rfl
end
section
set_option maxRecDepth 16384 in
theorem q230_95 {X : KO} {ρ : Nat → Int32} {m : MM} {N : Nat} {o : Instr × List (Nat × Int) × MM} {b0 b1 b2 : Int} (h : MR X ρ 3 0 0 qP230 N 95 [b0, b1, b2] [] m o) : (MR X ρ 3 0 0 qP230 N 97 [b0, b1, 0] [] m o) := by
  have h := CR_iconst h rfl rfl
  have h : MR X ρ 3 0 0 qP230 N 96 [b0, b1, b2] [(1, 0)] m o := h
  have h := CR_istore_n h rfl (Nat.le_of_ble_eq_true rfl)
  have h : MR X ρ 3 0 0 qP230 N 97 [b0, b1, 0] [] m o := h
  exact h
set_option maxRecDepth 16384 in
theorem q230_121 {X : KO} {ρ : Nat → Int32} {m : MM} {N : Nat} {o : Instr × List (Nat × Int) × MM} {b0 b1 b2 : Int} (h : MR X ρ 3 0 0 qP230 N 121 [b0, b1, b2] [] m o) : (∃ m2, Run X ρ 280 [(1, b0)] m [] m2 ∧ (o = (.ireturn, [(1, b1)], mu m2 b0 23 0))) := by
  have h := CR_aload_n h rfl
  have h : MR X ρ 3 0 0 qP230 N 122 [b0, b1, b2] [(1, b0)] m o := h
  obtain ⟨r1, m2, q3, h⟩ := MR_invV h rfl rfl
  have q3 : Run X ρ 280 [(1, b0)] m r1 m2 := q3
  obtain rfl := Run_v q3 rfl
  have h : MR X ρ 3 0 0 qP230 N 125 [b0, b1, b2] [] m2 o := h
  refine ⟨m2, q3, ?_⟩
  have h := CR_aload_n h rfl
  have h : MR X ρ 3 0 0 qP230 N 126 [b0, b1, b2] [(1, b0)] m2 o := h
  have h := CR_iconst h rfl rfl
  have h : MR X ρ 3 0 0 qP230 N 127 [b0, b1, b2] [(1, 0), (1, b0)] m2 o := h
  have h := CR_putf h rfl
  have h : MR X ρ 3 0 0 qP230 N 130 [b0, b1, b2] [] (mu m2 b0 23 0) o := h
  have h := CR_iload_n h rfl
  have h : MR X ρ 3 0 0 qP230 N 131 [b0, b1, b2] [(1, b1)] (mu m2 b0 23 0) o := h
  exact CR_end h rfl rfl
end
