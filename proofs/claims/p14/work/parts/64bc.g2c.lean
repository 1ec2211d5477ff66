set_option maxRecDepth 16384 in
/-- TriplicateFormsModel.days(I)I -/
noncomputable def f180 (m : MM) (a0 a1 : Int) : Int := (if (f209 (mu m a0 0 0) a1 1 60) = 0 then -1 else (if ((mu m a0 0 0) ((mu m a0 0 0) a0 14) 92) = 400 then 0 else f237 (g276 (mu m a0 0 0) a0) a0 a1))
set_option maxRecDepth 16384 in
noncomputable def g180 (m : MM) (a0 a1 : Int) : MM := (if (f209 (mu m a0 0 0) a1 1 60) = 0 then mu m a0 0 0 else (if ((mu m a0 0 0) ((mu m a0 0 0) a0 14) 92) = 400 then mu m a0 0 0 else g237 (g276 (mu m a0 0 0) a0) a0 a1))
set_option maxRecDepth 16384 in
theorem d180 {X : KO} {ρ : Nat → Int32} {m m' : MM} {rl : List (Nat × Int)} {a0 a1 : Int} (h : Run X ρ 180 [(1, a0), (1, a1)] m rl m') : rl = [(1, f180 m a0 a1)] ∧ m' = g180 m a0 a1 := by
  obtain ⟨N, ig, h⟩ := Run_CR h rfl
  have h : MR X ρ 2 0 0 qP180 N 0 [a0, a1] [] m (ig, rl, m') := h
  have h := CR_aload_n h rfl
  have h : MR X ρ 2 0 0 qP180 N 1 [a0, a1] [(1, a0)] m (ig, rl, m') := h
  have h := CR_iconst h rfl rfl
  have h : MR X ρ 2 0 0 qP180 N 2 [a0, a1] [(1, 0), (1, a0)] m (ig, rl, m') := h
  have h := CR_putf h rfl
  have h : MR X ρ 2 0 0 qP180 N 5 [a0, a1] [] (mu m a0 0 0) (ig, rl, m') := h
  have h := CR_iload_n h rfl
  have h : MR X ρ 2 0 0 qP180 N 6 [a0, a1] [(1, a1)] (mu m a0 0 0) (ig, rl, m') := h
  have h := CR_iconst h rfl rfl
  have h : MR X ρ 2 0 0 qP180 N 7 [a0, a1] [(1, 1), (1, a1)] (mu m a0 0 0) (ig, rl, m') := h
  have h := CR_bipush h rfl rfl
  have h : MR X ρ 2 0 0 qP180 N 9 [a0, a1] [(1, 60), (1, 1), (1, a1)] (mu m a0 0 0) (ig, rl, m') := h
  obtain ⟨r1, m2, q3, h⟩ := MR_invS h rfl rfl
  have q3 : Run X ρ 209 [(1, a1), (1, 1), (1, 60)] (mu m a0 0 0) r1 m2 := q3
  obtain ⟨e4, e5⟩ := d209 q3
  rw [e4, e5] at h
  have h : MR X ρ 2 0 0 qP180 N 12 [a0, a1] [(1, f209 (mu m a0 0 0) a1 1 60)] (mu m a0 0 0) (ig, rl, m') := h
  rcases MR_if h rfl rfl with ⟨c6, h⟩ | ⟨c6, h⟩
  ·
    have c6 : ¬ ((f209 (mu m a0 0 0) a1 1 60) = 0) := c6
    have h : MR X ρ 2 0 0 qP180 N 17 [a0, a1] [] (mu m a0 0 0) (ig, rl, m') := h
    have h := CR_aload_n h rfl
    have h : MR X ρ 2 0 0 qP180 N 18 [a0, a1] [(1, a0)] (mu m a0 0 0) (ig, rl, m') := h
    have h := CR_getf h rfl (by decide)
    have h : MR X ρ 2 0 0 qP180 N 21 [a0, a1] [(1, (mu m a0 0 0) a0 14)] (mu m a0 0 0) (ig, rl, m') := h
    have h := CR_bipush h rfl rfl
    have h : MR X ρ 2 0 0 qP180 N 23 [a0, a1] [(1, 92), (1, (mu m a0 0 0) a0 14)] (mu m a0 0 0) (ig, rl, m') := h
    have h := CR_iaload h rfl rfl
    have h : MR X ρ 2 0 0 qP180 N 24 [a0, a1] [(1, (mu m a0 0 0) ((mu m a0 0 0) a0 14) 92)] (mu m a0 0 0) (ig, rl, m') := h
    have h := CR_sipush h rfl rfl
    have h : MR X ρ 2 0 0 qP180 N 27 [a0, a1] [(1, 400), (1, (mu m a0 0 0) ((mu m a0 0 0) a0 14) 92)] (mu m a0 0 0) (ig, rl, m') := h
    rcases MR_icmp h rfl rfl with ⟨c7, h⟩ | ⟨c7, h⟩
    ·
      have c7 : ¬ (((mu m a0 0 0) ((mu m a0 0 0) a0 14) 92) = 400) := c7
      have h : MR X ρ 2 0 0 qP180 N 32 [a0, a1] [] (mu m a0 0 0) (ig, rl, m') := h
      have h := CR_aload_n h rfl
      have h : MR X ρ 2 0 0 qP180 N 33 [a0, a1] [(1, a0)] (mu m a0 0 0) (ig, rl, m') := h
      obtain ⟨r8, m9, q10, h⟩ := MR_invV h rfl rfl
      have q10 : Run X ρ 276 [(1, a0)] (mu m a0 0 0) r8 m9 := q10
      obtain ⟨e11, e12⟩ := d276 q10
      rw [e11, e12] at h
      have h : MR X ρ 2 0 0 qP180 N 36 [a0, a1] [] (g276 (mu m a0 0 0) a0) (ig, rl, m') := h
      have h := CR_aload_n h rfl
      have h : MR X ρ 2 0 0 qP180 N 37 [a0, a1] [(1, a0)] (g276 (mu m a0 0 0) a0) (ig, rl, m') := h
      have h := CR_iload_n h rfl
      have h : MR X ρ 2 0 0 qP180 N 38 [a0, a1] [(1, a1), (1, a0)] (g276 (mu m a0 0 0) a0) (ig, rl, m') := h
      obtain ⟨r13, m14, q15, h⟩ := MR_invV h rfl rfl
      have q15 : Run X ρ 237 [(1, a0), (1, a1)] (g276 (mu m a0 0 0) a0) r13 m14 := q15
      obtain ⟨e16, e17⟩ := d237 q15
      rw [e16, e17] at h
      have h : MR X ρ 2 0 0 qP180 N 41 [a0, a1] [(1, f237 (g276 (mu m a0 0 0) a0) a0 a1)] (g237 (g276 (mu m a0 0 0) a0) a0 a1) (ig, rl, m') := h
      have e := CR_end h rfl rfl
      cases e
      exact ⟨congrArg (fun z => [(1, z)]) (Eq.symm (show f180 m a0 a1 = _ from (if_neg c6).trans ((if_neg c7).trans (rfl)))), Eq.symm (show g180 m a0 a1 = _ from (if_neg c6).trans ((if_neg c7).trans (rfl)))⟩
    ·
      have c7 : ((mu m a0 0 0) ((mu m a0 0 0) a0 14) 92) = 400 := Decidable.of_not_not (show ¬ ¬ (((mu m a0 0 0) ((mu m a0 0 0) a0 14) 92) = 400) from c7)
      have h : MR X ρ 2 0 0 qP180 N 30 [a0, a1] [] (mu m a0 0 0) (ig, rl, m') := h
      have h := CR_iconst h rfl rfl
      have h : MR X ρ 2 0 0 qP180 N 31 [a0, a1] [(1, 0)] (mu m a0 0 0) (ig, rl, m') := h
      have e := CR_end h rfl rfl
      cases e
      exact ⟨congrArg (fun z => [(1, z)]) (Eq.symm (show f180 m a0 a1 = _ from (if_neg c6).trans ((if_pos c7).trans (rfl)))), Eq.symm (show g180 m a0 a1 = _ from (if_neg c6).trans ((if_pos c7).trans (rfl)))⟩
  ·
    have c6 : (f209 (mu m a0 0 0) a1 1 60) = 0 := Decidable.of_not_not (show ¬ ¬ ((f209 (mu m a0 0 0) a1 1 60) = 0) from c6)
    have h : MR X ρ 2 0 0 qP180 N 15 [a0, a1] [] (mu m a0 0 0) (ig, rl, m') := h
    have h := CR_iconst h rfl rfl
    have h : MR X ρ 2 0 0 qP180 N 16 [a0, a1] [(1, -1)] (mu m a0 0 0) (ig, rl, m') := h
    have e := CR_end h rfl rfl
    cases e
    exact ⟨congrArg (fun z => [(1, z)]) (Eq.symm (show f180 m a0 a1 = _ from (if_pos c6).trans (rfl))), Eq.symm (show g180 m a0 a1 = _ from (if_pos c6).trans (rfl))⟩
set_option maxRecDepth 16384 in
/-- TriplicateFormsModel.doSign(II)V, the loop at 47 -/
noncomputable def S181_47 (m : MM) (b0 b1 b2 b3 : Int) : (Int) ⊕ (Nat × Int × (Int)) := (if 3 ≤ b3 then .inr (1, 0, b3) else (if (f273 m b0 b2 b3) = (-1) then .inr (2, 0, b3) else .inl (s32 (b3 + 1))))
set_option maxRecDepth 16384 in
noncomputable def K181_47 (m : MM) (b0 b1 b2 b3 : Int) : (Int) → (Int) ⊕ (Nat × Int × (Int)) := fun s => S181_47 m b0 b1 b2 s
set_option maxRecDepth 16384 in
noncomputable def L181_47 (m : MM) (b0 b1 b2 b3 : Int) : (Nat × Int × (Int)) := Lp (K181_47 m b0 b1 b2 b3) b3
set_option maxRecDepth 16384 in
theorem l181_47 {X : KO} {ρ : Nat → Int32} {o : Instr × List (Nat × Int) × MM} {K : Nat} : ∀ {N : Nat} {m : MM} {b0 b1 b2 b3 : Int}, N ≤ K → MR X ρ 4 0 0 qP181 N 47 [b0, b1, b2, b3] [] m o → (((L181_47 m b0 b1 b2 b3).1 = 1 ∧ (MR X ρ 4 0 0 qP181 K 69 [b0, b1, b2, (L181_47 m b0 b1 b2 b3).2.2] [] m o)) ∨ (¬ ((L181_47 m b0 b1 b2 b3).1 = 1) ∧ (o = (.return_, [], m)))) := by
  intro N
  induction N using Nat.strongRecOn with
  | ind N ih =>
  intro m b0 b1 b2 b3 hK h
  have h := CR_iload_n h rfl
  have h : MR X ρ 4 0 0 qP181 N 48 [b0, b1, b2, b3] [(1, b3)] m o := h
  have h := CR_iconst h rfl rfl
  have h : MR X ρ 4 0 0 qP181 N 49 [b0, b1, b2, b3] [(1, 3), (1, b3)] m o := h
  rcases MR_icmp h rfl rfl with ⟨c1, h⟩ | ⟨c1, h⟩
  ·
    have c1 : 3 ≤ b3 := c1
    have h : MR X ρ 4 0 0 qP181 N 69 [b0, b1, b2, b3] [] m o := h
    have hr : L181_47 m b0 b1 b2 b3 = (1, 0, b3) := Lp_inr (f := K181_47 m b0 b1 b2 b3) (s := b3) ((if_pos c1).trans (rfl))
    rw [hr]
    exact Or.inl ⟨rfl, CR_le (by omega) h⟩
  ·
    have c1 : ¬ (3 ≤ b3) := c1
    have h : MR X ρ 4 0 0 qP181 N 52 [b0, b1, b2, b3] [] m o := h
    have h := CR_aload_n h rfl
    have h : MR X ρ 4 0 0 qP181 N 53 [b0, b1, b2, b3] [(1, b0)] m o := h
    have h := CR_iload_n h rfl
    have h : MR X ρ 4 0 0 qP181 N 54 [b0, b1, b2, b3] [(1, b2), (1, b0)] m o := h
    have h := CR_iload_n h rfl
    have h : MR X ρ 4 0 0 qP181 N 55 [b0, b1, b2, b3] [(1, b3), (1, b2), (1, b0)] m o := h
    obtain ⟨r2, m3, q4, h⟩ := MR_invV h rfl rfl
    have q4 : Run X ρ 273 [(1, b0), (1, b2), (1, b3)] m r2 m3 := q4
    obtain ⟨e5, e6⟩ := d273 q4
    rw [e5, e6] at h
    have h : MR X ρ 4 0 0 qP181 N 58 [b0, b1, b2, b3] [(1, f273 m b0 b2 b3)] m o := h
    have h := CR_iconst h rfl rfl
    have h : MR X ρ 4 0 0 qP181 N 59 [b0, b1, b2, b3] [(1, -1), (1, f273 m b0 b2 b3)] m o := h
    rcases MR_icmp h rfl rfl with ⟨c7, h⟩ | ⟨c7, h⟩
    ·
      have c7 : ¬ ((f273 m b0 b2 b3) = (-1)) := c7
      have h : MR X ρ 4 0 0 qP181 N 63 [b0, b1, b2, b3] [] m o := h
      have h := CR_inc h rfl (Nat.le_of_ble_eq_true rfl)
      have h : MR X ρ 4 0 0 qP181 N 66 [b0, b1, b2, s32 (b3 + 1)] [] m o := h
      obtain ⟨N8, eN8, h⟩ := CR_goto h rfl rfl
      have h : MR X ρ 4 0 0 qP181 N8 47 [b0, b1, b2, s32 (b3 + 1)] [] m o := h
      have hr : L181_47 m b0 b1 b2 b3 = L181_47 m b0 b1 b2 (s32 (b3 + 1)) := Lp_inl (f := K181_47 m b0 b1 b2 b3) (s := b3) (s' := s32 (b3 + 1)) ((if_neg c1).trans ((if_neg c7).trans (rfl)))
      rw [hr]
      exact ih N8 (by omega) (by omega) h
    ·
      have c7 : (f273 m b0 b2 b3) = (-1) := Decidable.of_not_not (show ¬ ¬ ((f273 m b0 b2 b3) = (-1)) from c7)
      have h : MR X ρ 4 0 0 qP181 N 62 [b0, b1, b2, b3] [] m o := h
      have e := CR_end h rfl rfl
      have hr : L181_47 m b0 b1 b2 b3 = (2, 0, b3) := Lp_inr (f := K181_47 m b0 b1 b2 b3) (s := b3) ((if_neg c1).trans ((if_pos c7).trans (rfl)))
      rw [hr]
      refine Or.inr ⟨(show ¬ ((2 : Nat) = 1) by decide), ?_⟩
      exact e
set_option maxRecDepth 16384 in
/-- TriplicateFormsModel.doSign(II)V -/
noncomputable def g181 (m : MM) (a0 a1 a2 : Int) : MM := (if (L181_47 (mu (mu (mu m (m a0 14) (s32 ((s32 (158 + (s32 (3 * a2)))) + (f235 m a0 a1 a2))) (s32 a1)) ((mu m (m a0 14) (s32 ((s32 (158 + (s32 (3 * a2)))) + (f235 m a0 a1 a2))) (s32 a1)) a0 14) (s32 (198 + a1)) (s32 a2)) ((mu (mu m (m a0 14) (s32 ((s32 (158 + (s32 (3 * a2)))) + (f235 m a0 a1 a2))) (s32 a1)) ((mu m (m a0 14) (s32 ((s32 (158 + (s32 (3 * a2)))) + (f235 m a0 a1 a2))) (s32 a1)) a0 14) (s32 (198 + a1)) (s32 a2)) a0 14) (s32 (206 + a1)) (s32 (s32 (((mu (mu m (m a0 14) (s32 ((s32 (158 + (s32 (3 * a2)))) + (f235 m a0 a1 a2))) (s32 a1)) ((mu m (m a0 14) (s32 ((s32 (158 + (s32 (3 * a2)))) + (f235 m a0 a1 a2))) (s32 a1)) a0 14) (s32 (198 + a1)) (s32 a2)) ((mu (mu m (m a0 14) (s32 ((s32 (158 + (s32 (3 * a2)))) + (f235 m a0 a1 a2))) (s32 a1)) ((mu m (m a0 14) (s32 ((s32 (158 + (s32 (3 * a2)))) + (f235 m a0 a1 a2))) (s32 a1)) a0 14) (s32 (198 + a1)) (s32 a2)) a0 14) (s32 (206 + a1))) + 1)))) a0 a1 a2 0).1 = 1 then mu (mu (mu (mu m (m a0 14) (s32 ((s32 (158 + (s32 (3 * a2)))) + (f235 m a0 a1 a2))) (s32 a1)) ((mu m (m a0 14) (s32 ((s32 (158 + (s32 (3 * a2)))) + (f235 m a0 a1 a2))) (s32 a1)) a0 14) (s32 (198 + a1)) (s32 a2)) ((mu (mu m (m a0 14) (s32 ((s32 (158 + (s32 (3 * a2)))) + (f235 m a0 a1 a2))) (s32 a1)) ((mu m (m a0 14) (s32 ((s32 (158 + (s32 (3 * a2)))) + (f235 m a0 a1 a2))) (s32 a1)) a0 14) (s32 (198 + a1)) (s32 a2)) a0 14) (s32 (206 + a1)) (s32 (s32 (((mu (mu m (m a0 14) (s32 ((s32 (158 + (s32 (3 * a2)))) + (f235 m a0 a1 a2))) (s32 a1)) ((mu m (m a0 14) (s32 ((s32 (158 + (s32 (3 * a2)))) + (f235 m a0 a1 a2))) (s32 a1)) a0 14) (s32 (198 + a1)) (s32 a2)) ((mu (mu m (m a0 14) (s32 ((s32 (158 + (s32 (3 * a2)))) + (f235 m a0 a1 a2))) (s32 a1)) ((mu m (m a0 14) (s32 ((s32 (158 + (s32 (3 * a2)))) + (f235 m a0 a1 a2))) (s32 a1)) a0 14) (s32 (198 + a1)) (s32 a2)) a0 14) (s32 (206 + a1))) + 1)))) ((mu (mu (mu m (m a0 14) (s32 ((s32 (158 + (s32 (3 * a2)))) + (f235 m a0 a1 a2))) (s32 a1)) ((mu m (m a0 14) (s32 ((s32 (158 + (s32 (3 * a2)))) + (f235 m a0 a1 a2))) (s32 a1)) a0 14) (s32 (198 + a1)) (s32 a2)) ((mu (mu m (m a0 14) (s32 ((s32 (158 + (s32 (3 * a2)))) + (f235 m a0 a1 a2))) (s32 a1)) ((mu m (m a0 14) (s32 ((s32 (158 + (s32 (3 * a2)))) + (f235 m a0 a1 a2))) (s32 a1)) a0 14) (s32 (198 + a1)) (s32 a2)) a0 14) (s32 (206 + a1)) (s32 (s32 (((mu (mu m (m a0 14) (s32 ((s32 (158 + (s32 (3 * a2)))) + (f235 m a0 a1 a2))) (s32 a1)) ((mu m (m a0 14) (s32 ((s32 (158 + (s32 (3 * a2)))) + (f235 m a0 a1 a2))) (s32 a1)) a0 14) (s32 (198 + a1)) (s32 a2)) ((mu (mu m (m a0 14) (s32 ((s32 (158 + (s32 (3 * a2)))) + (f235 m a0 a1 a2))) (s32 a1)) ((mu m (m a0 14) (s32 ((s32 (158 + (s32 (3 * a2)))) + (f235 m a0 a1 a2))) (s32 a1)) a0 14) (s32 (198 + a1)) (s32 a2)) a0 14) (s32 (206 + a1))) + 1)))) a0 14) (s32 (182 + a2)) (s32 1) else mu (mu (mu m (m a0 14) (s32 ((s32 (158 + (s32 (3 * a2)))) + (f235 m a0 a1 a2))) (s32 a1)) ((mu m (m a0 14) (s32 ((s32 (158 + (s32 (3 * a2)))) + (f235 m a0 a1 a2))) (s32 a1)) a0 14) (s32 (198 + a1)) (s32 a2)) ((mu (mu m (m a0 14) (s32 ((s32 (158 + (s32 (3 * a2)))) + (f235 m a0 a1 a2))) (s32 a1)) ((mu m (m a0 14) (s32 ((s32 (158 + (s32 (3 * a2)))) + (f235 m a0 a1 a2))) (s32 a1)) a0 14) (s32 (198 + a1)) (s32 a2)) a0 14) (s32 (206 + a1)) (s32 (s32 (((mu (mu m (m a0 14) (s32 ((s32 (158 + (s32 (3 * a2)))) + (f235 m a0 a1 a2))) (s32 a1)) ((mu m (m a0 14) (s32 ((s32 (158 + (s32 (3 * a2)))) + (f235 m a0 a1 a2))) (s32 a1)) a0 14) (s32 (198 + a1)) (s32 a2)) ((mu (mu m (m a0 14) (s32 ((s32 (158 + (s32 (3 * a2)))) + (f235 m a0 a1 a2))) (s32 a1)) ((mu m (m a0 14) (s32 ((s32 (158 + (s32 (3 * a2)))) + (f235 m a0 a1 a2))) (s32 a1)) a0 14) (s32 (198 + a1)) (s32 a2)) a0 14) (s32 (206 + a1))) + 1))))
set_option maxRecDepth 16384 in
theorem d181 {X : KO} {ρ : Nat → Int32} {m m' : MM} {rl : List (Nat × Int)} {a0 a1 a2 : Int} (h : Run X ρ 181 [(1, a0), (1, a1), (1, a2)] m rl m') : rl = [] ∧ m' = g181 m a0 a1 a2 := by
  obtain ⟨N, ig, h⟩ := Run_CR h rfl
  have h : MR X ρ 4 0 0 qP181 N 0 [a0, a1, a2, 0] [] m (ig, rl, m') := h
  have h := CR_aload_n h rfl
  have h : MR X ρ 4 0 0 qP181 N 1 [a0, a1, a2, 0] [(1, a0)] m (ig, rl, m') := h
  have h := CR_getf h rfl (by decide)
  have h : MR X ρ 4 0 0 qP181 N 4 [a0, a1, a2, 0] [(1, m a0 14)] m (ig, rl, m') := h
  have h := CR_sipush h rfl rfl
  have h : MR X ρ 4 0 0 qP181 N 7 [a0, a1, a2, 0] [(1, 158), (1, m a0 14)] m (ig, rl, m') := h
  have h := CR_iconst h rfl rfl
  have h : MR X ρ 4 0 0 qP181 N 8 [a0, a1, a2, 0] [(1, 3), (1, 158), (1, m a0 14)] m (ig, rl, m') := h
  have h := CR_iload_n h rfl
  have h : MR X ρ 4 0 0 qP181 N 9 [a0, a1, a2, 0] [(1, a2), (1, 3), (1, 158), (1, m a0 14)] m (ig, rl, m') := h
  have h := CR_imul h rfl
  have h : MR X ρ 4 0 0 qP181 N 10 [a0, a1, a2, 0] [(1, s32 (3 * a2)), (1, 158), (1, m a0 14)] m (ig, rl, m') := h
  have h := CR_iadd h rfl
  have h : MR X ρ 4 0 0 qP181 N 11 [a0, a1, a2, 0] [(1, s32 (158 + (s32 (3 * a2)))), (1, m a0 14)] m (ig, rl, m') := h
  have h := CR_aload_n h rfl
  have h : MR X ρ 4 0 0 qP181 N 12 [a0, a1, a2, 0] [(1, a0), (1, s32 (158 + (s32 (3 * a2)))), (1, m a0 14)] m (ig, rl, m') := h
  have h := CR_iload_n h rfl
  have h : MR X ρ 4 0 0 qP181 N 13 [a0, a1, a2, 0] [(1, a1), (1, a0), (1, s32 (158 + (s32 (3 * a2)))), (1, m a0 14)] m (ig, rl, m') := h
  have h := CR_iload_n h rfl
  have h : MR X ρ 4 0 0 qP181 N 14 [a0, a1, a2, 0] [(1, a2), (1, a1), (1, a0), (1, s32 (158 + (s32 (3 * a2)))), (1, m a0 14)] m (ig, rl, m') := h
  obtain ⟨r1, m2, q3, h⟩ := MR_invV h rfl rfl
  have q3 : Run X ρ 235 [(1, a0), (1, a1), (1, a2)] m r1 m2 := q3
  obtain ⟨e4, e5⟩ := d235 q3
  rw [e4, e5] at h
  have h : MR X ρ 4 0 0 qP181 N 17 [a0, a1, a2, 0] [(1, f235 m a0 a1 a2), (1, s32 (158 + (s32 (3 * a2)))), (1, m a0 14)] m (ig, rl, m') := h
  have h := CR_iadd h rfl
  have h : MR X ρ 4 0 0 qP181 N 18 [a0, a1, a2, 0] [(1, s32 ((s32 (158 + (s32 (3 * a2)))) + (f235 m a0 a1 a2))), (1, m a0 14)] m (ig, rl, m') := h
  have h := CR_iload_n h rfl
  have h : MR X ρ 4 0 0 qP181 N 19 [a0, a1, a2, 0] [(1, a1), (1, s32 ((s32 (158 + (s32 (3 * a2)))) + (f235 m a0 a1 a2))), (1, m a0 14)] m (ig, rl, m') := h
  have h := CR_iastore_ h rfl
  have h : MR X ρ 4 0 0 qP181 N 20 [a0, a1, a2, 0] [] (mu m (m a0 14) (s32 ((s32 (158 + (s32 (3 * a2)))) + (f235 m a0 a1 a2))) (s32 a1)) (ig, rl, m') := h
  have h := CR_aload_n h rfl
  have h : MR X ρ 4 0 0 qP181 N 21 [a0, a1, a2, 0] [(1, a0)] (mu m (m a0 14) (s32 ((s32 (158 + (s32 (3 * a2)))) + (f235 m a0 a1 a2))) (s32 a1)) (ig, rl, m') := h
  have h := CR_getf h rfl (by decide)
  have h : MR X ρ 4 0 0 qP181 N 24 [a0, a1, a2, 0] [(1, (mu m (m a0 14) (s32 ((s32 (158 + (s32 (3 * a2)))) + (f235 m a0 a1 a2))) (s32 a1)) a0 14)] (mu m (m a0 14) (s32 ((s32 (158 + (s32 (3 * a2)))) + (f235 m a0 a1 a2))) (s32 a1)) (ig, rl, m') := h
  have h := CR_sipush h rfl rfl
  have h : MR X ρ 4 0 0 qP181 N 27 [a0, a1, a2, 0] [(1, 198), (1, (mu m (m a0 14) (s32 ((s32 (158 + (s32 (3 * a2)))) + (f235 m a0 a1 a2))) (s32 a1)) a0 14)] (mu m (m a0 14) (s32 ((s32 (158 + (s32 (3 * a2)))) + (f235 m a0 a1 a2))) (s32 a1)) (ig, rl, m') := h
  have h := CR_iload_n h rfl
  have h : MR X ρ 4 0 0 qP181 N 28 [a0, a1, a2, 0] [(1, a1), (1, 198), (1, (mu m (m a0 14) (s32 ((s32 (158 + (s32 (3 * a2)))) + (f235 m a0 a1 a2))) (s32 a1)) a0 14)] (mu m (m a0 14) (s32 ((s32 (158 + (s32 (3 * a2)))) + (f235 m a0 a1 a2))) (s32 a1)) (ig, rl, m') := h
  have h := CR_iadd h rfl
  have h : MR X ρ 4 0 0 qP181 N 29 [a0, a1, a2, 0] [(1, s32 (198 + a1)), (1, (mu m (m a0 14) (s32 ((s32 (158 + (s32 (3 * a2)))) + (f235 m a0 a1 a2))) (s32 a1)) a0 14)] (mu m (m a0 14) (s32 ((s32 (158 + (s32 (3 * a2)))) + (f235 m a0 a1 a2))) (s32 a1)) (ig, rl, m') := h
  have h := CR_iload_n h rfl
  have h : MR X ρ 4 0 0 qP181 N 30 [a0, a1, a2, 0] [(1, a2), (1, s32 (198 + a1)), (1, (mu m (m a0 14) (s32 ((s32 (158 + (s32 (3 * a2)))) + (f235 m a0 a1 a2))) (s32 a1)) a0 14)] (mu m (m a0 14) (s32 ((s32 (158 + (s32 (3 * a2)))) + (f235 m a0 a1 a2))) (s32 a1)) (ig, rl, m') := h
  have h := CR_iastore_ h rfl
  have h : MR X ρ 4 0 0 qP181 N 31 [a0, a1, a2, 0] [] (mu (mu m (m a0 14) (s32 ((s32 (158 + (s32 (3 * a2)))) + (f235 m a0 a1 a2))) (s32 a1)) ((mu m (m a0 14) (s32 ((s32 (158 + (s32 (3 * a2)))) + (f235 m a0 a1 a2))) (s32 a1)) a0 14) (s32 (198 + a1)) (s32 a2)) (ig, rl, m') := h
  have h := CR_aload_n h rfl
  have h : MR X ρ 4 0 0 qP181 N 32 [a0, a1, a2, 0] [(1, a0)] (mu (mu m (m a0 14) (s32 ((s32 (158 + (s32 (3 * a2)))) + (f235 m a0 a1 a2))) (s32 a1)) ((mu m (m a0 14) (s32 ((s32 (158 + (s32 (3 * a2)))) + (f235 m a0 a1 a2))) (s32 a1)) a0 14) (s32 (198 + a1)) (s32 a2)) (ig, rl, m') := h
  have h := CR_getf h rfl (by decide)
  have h : MR X ρ 4 0 0 qP181 N 35 [a0, a1, a2, 0] [(1, (mu (mu m (m a0 14) (s32 ((s32 (158 + (s32 (3 * a2)))) + (f235 m a0 a1 a2))) (s32 a1)) ((mu m (m a0 14) (s32 ((s32 (158 + (s32 (3 * a2)))) + (f235 m a0 a1 a2))) (s32 a1)) a0 14) (s32 (198 + a1)) (s32 a2)) a0 14)] (mu (mu m (m a0 14) (s32 ((s32 (158 + (s32 (3 * a2)))) + (f235 m a0 a1 a2))) (s32 a1)) ((mu m (m a0 14) (s32 ((s32 (158 + (s32 (3 * a2)))) + (f235 m a0 a1 a2))) (s32 a1)) a0 14) (s32 (198 + a1)) (s32 a2)) (ig, rl, m') := h
  have h := CR_sipush h rfl rfl
  have h : MR X ρ 4 0 0 qP181 N 38 [a0, a1, a2, 0] [(1, 206), (1, (mu (mu m (m a0 14) (s32 ((s32 (158 + (s32 (3 * a2)))) + (f235 m a0 a1 a2))) (s32 a1)) ((mu m (m a0 14) (s32 ((s32 (158 + (s32 (3 * a2)))) + (f235 m a0 a1 a2))) (s32 a1)) a0 14) (s32 (198 + a1)) (s32 a2)) a0 14)] (mu (mu m (m a0 14) (s32 ((s32 (158 + (s32 (3 * a2)))) + (f235 m a0 a1 a2))) (s32 a1)) ((mu m (m a0 14) (s32 ((s32 (158 + (s32 (3 * a2)))) + (f235 m a0 a1 a2))) (s32 a1)) a0 14) (s32 (198 + a1)) (s32 a2)) (ig, rl, m') := h
  have h := CR_iload_n h rfl
  have h : MR X ρ 4 0 0 qP181 N 39 [a0, a1, a2, 0] [(1, a1), (1, 206), (1, (mu (mu m (m a0 14) (s32 ((s32 (158 + (s32 (3 * a2)))) + (f235 m a0 a1 a2))) (s32 a1)) ((mu m (m a0 14) (s32 ((s32 (158 + (s32 (3 * a2)))) + (f235 m a0 a1 a2))) (s32 a1)) a0 14) (s32 (198 + a1)) (s32 a2)) a0 14)] (mu (mu m (m a0 14) (s32 ((s32 (158 + (s32 (3 * a2)))) + (f235 m a0 a1 a2))) (s32 a1)) ((mu m (m a0 14) (s32 ((s32 (158 + (s32 (3 * a2)))) + (f235 m a0 a1 a2))) (s32 a1)) a0 14) (s32 (198 + a1)) (s32 a2)) (ig, rl, m') := h
  have h := CR_iadd h rfl
  have h : MR X ρ 4 0 0 qP181 N 40 [a0, a1, a2, 0] [(1, s32 (206 + a1)), (1, (mu (mu m (m a0 14) (s32 ((s32 (158 + (s32 (3 * a2)))) + (f235 m a0 a1 a2))) (s32 a1)) ((mu m (m a0 14) (s32 ((s32 (158 + (s32 (3 * a2)))) + (f235 m a0 a1 a2))) (s32 a1)) a0 14) (s32 (198 + a1)) (s32 a2)) a0 14)] (mu (mu m (m a0 14) (s32 ((s32 (158 + (s32 (3 * a2)))) + (f235 m a0 a1 a2))) (s32 a1)) ((mu m (m a0 14) (s32 ((s32 (158 + (s32 (3 * a2)))) + (f235 m a0 a1 a2))) (s32 a1)) a0 14) (s32 (198 + a1)) (s32 a2)) (ig, rl, m') := h
  have h := CR_dup2 h rfl
  have h : MR X ρ 4 0 0 qP181 N 41 [a0, a1, a2, 0] [(1, s32 (206 + a1)), (1, (mu (mu m (m a0 14) (s32 ((s32 (158 + (s32 (3 * a2)))) + (f235 m a0 a1 a2))) (s32 a1)) ((mu m (m a0 14) (s32 ((s32 (158 + (s32 (3 * a2)))) + (f235 m a0 a1 a2))) (s32 a1)) a0 14) (s32 (198 + a1)) (s32 a2)) a0 14), (1, s32 (206 + a1)), (1, (mu (mu m (m a0 14) (s32 ((s32 (158 + (s32 (3 * a2)))) + (f235 m a0 a1 a2))) (s32 a1)) ((mu m (m a0 14) (s32 ((s32 (158 + (s32 (3 * a2)))) + (f235 m a0 a1 a2))) (s32 a1)) a0 14) (s32 (198 + a1)) (s32 a2)) a0 14)] (mu (mu m (m a0 14) (s32 ((s32 (158 + (s32 (3 * a2)))) + (f235 m a0 a1 a2))) (s32 a1)) ((mu m (m a0 14) (s32 ((s32 (158 + (s32 (3 * a2)))) + (f235 m a0 a1 a2))) (s32 a1)) a0 14) (s32 (198 + a1)) (s32 a2)) (ig, rl, m') := h
  have h := CR_iaload h rfl rfl
  have h : MR X ρ 4 0 0 qP181 N 42 [a0, a1, a2, 0] [(1, (mu (mu m (m a0 14) (s32 ((s32 (158 + (s32 (3 * a2)))) + (f235 m a0 a1 a2))) (s32 a1)) ((mu m (m a0 14) (s32 ((s32 (158 + (s32 (3 * a2)))) + (f235 m a0 a1 a2))) (s32 a1)) a0 14) (s32 (198 + a1)) (s32 a2)) ((mu (mu m (m a0 14) (s32 ((s32 (158 + (s32 (3 * a2)))) + (f235 m a0 a1 a2))) (s32 a1)) ((mu m (m a0 14) (s32 ((s32 (158 + (s32 (3 * a2)))) + (f235 m a0 a1 a2))) (s32 a1)) a0 14) (s32 (198 + a1)) (s32 a2)) a0 14) (s32 (206 + a1))), (1, s32 (206 + a1)), (1, (mu (mu m (m a0 14) (s32 ((s32 (158 + (s32 (3 * a2)))) + (f235 m a0 a1 a2))) (s32 a1)) ((mu m (m a0 14) (s32 ((s32 (158 + (s32 (3 * a2)))) + (f235 m a0 a1 a2))) (s32 a1)) a0 14) (s32 (198 + a1)) (s32 a2)) a0 14)] (mu (mu m (m a0 14) (s32 ((s32 (158 + (s32 (3 * a2)))) + (f235 m a0 a1 a2))) (s32 a1)) ((mu m (m a0 14) (s32 ((s32 (158 + (s32 (3 * a2)))) + (f235 m a0 a1 a2))) (s32 a1)) a0 14) (s32 (198 + a1)) (s32 a2)) (ig, rl, m') := h
  have h := CR_iconst h rfl rfl
  have h : MR X ρ 4 0 0 qP181 N 43 [a0, a1, a2, 0] [(1, 1), (1, (mu (mu m (m a0 14) (s32 ((s32 (158 + (s32 (3 * a2)))) + (f235 m a0 a1 a2))) (s32 a1)) ((mu m (m a0 14) (s32 ((s32 (158 + (s32 (3 * a2)))) + (f235 m a0 a1 a2))) (s32 a1)) a0 14) (s32 (198 + a1)) (s32 a2)) ((mu (mu m (m a0 14) (s32 ((s32 (158 + (s32 (3 * a2)))) + (f235 m a0 a1 a2))) (s32 a1)) ((mu m (m a0 14) (s32 ((s32 (158 + (s32 (3 * a2)))) + (f235 m a0 a1 a2))) (s32 a1)) a0 14) (s32 (198 + a1)) (s32 a2)) a0 14) (s32 (206 + a1))), (1, s32 (206 + a1)), (1, (mu (mu m (m a0 14) (s32 ((s32 (158 + (s32 (3 * a2)))) + (f235 m a0 a1 a2))) (s32 a1)) ((mu m (m a0 14) (s32 ((s32 (158 + (s32 (3 * a2)))) + (f235 m a0 a1 a2))) (s32 a1)) a0 14) (s32 (198 + a1)) (s32 a2)) a0 14)] (mu (mu m (m a0 14) (s32 ((s32 (158 + (s32 (3 * a2)))) + (f235 m a0 a1 a2))) (s32 a1)) ((mu m (m a0 14) (s32 ((s32 (158 + (s32 (3 * a2)))) + (f235 m a0 a1 a2))) (s32 a1)) a0 14) (s32 (198 + a1)) (s32 a2)) (ig, rl, m') := h
  have h := CR_iadd h rfl
  have h : MR X ρ 4 0 0 qP181 N 44 [a0, a1, a2, 0] [(1, s32 (((mu (mu m (m a0 14) (s32 ((s32 (158 + (s32 (3 * a2)))) + (f235 m a0 a1 a2))) (s32 a1)) ((mu m (m a0 14) (s32 ((s32 (158 + (s32 (3 * a2)))) + (f235 m a0 a1 a2))) (s32 a1)) a0 14) (s32 (198 + a1)) (s32 a2)) ((mu (mu m (m a0 14) (s32 ((s32 (158 + (s32 (3 * a2)))) + (f235 m a0 a1 a2))) (s32 a1)) ((mu m (m a0 14) (s32 ((s32 (158 + (s32 (3 * a2)))) + (f235 m a0 a1 a2))) (s32 a1)) a0 14) (s32 (198 + a1)) (s32 a2)) a0 14) (s32 (206 + a1))) + 1)), (1, s32 (206 + a1)), (1, (mu (mu m (m a0 14) (s32 ((s32 (158 + (s32 (3 * a2)))) + (f235 m a0 a1 a2))) (s32 a1)) ((mu m (m a0 14) (s32 ((s32 (158 + (s32 (3 * a2)))) + (f235 m a0 a1 a2))) (s32 a1)) a0 14) (s32 (198 + a1)) (s32 a2)) a0 14)] (mu (mu m (m a0 14) (s32 ((s32 (158 + (s32 (3 * a2)))) + (f235 m a0 a1 a2))) (s32 a1)) ((mu m (m a0 14) (s32 ((s32 (158 + (s32 (3 * a2)))) + (f235 m a0 a1 a2))) (s32 a1)) a0 14) (s32 (198 + a1)) (s32 a2)) (ig, rl, m') := h
  have h := CR_iastore_ h rfl
  have h : MR X ρ 4 0 0 qP181 N 45 [a0, a1, a2, 0] [] (mu (mu (mu m (m a0 14) (s32 ((s32 (158 + (s32 (3 * a2)))) + (f235 m a0 a1 a2))) (s32 a1)) ((mu m (m a0 14) (s32 ((s32 (158 + (s32 (3 * a2)))) + (f235 m a0 a1 a2))) (s32 a1)) a0 14) (s32 (198 + a1)) (s32 a2)) ((mu (mu m (m a0 14) (s32 ((s32 (158 + (s32 (3 * a2)))) + (f235 m a0 a1 a2))) (s32 a1)) ((mu m (m a0 14) (s32 ((s32 (158 + (s32 (3 * a2)))) + (f235 m a0 a1 a2))) (s32 a1)) a0 14) (s32 (198 + a1)) (s32 a2)) a0 14) (s32 (206 + a1)) (s32 (s32 (((mu (mu m (m a0 14) (s32 ((s32 (158 + (s32 (3 * a2)))) + (f235 m a0 a1 a2))) (s32 a1)) ((mu m (m a0 14) (s32 ((s32 (158 + (s32 (3 * a2)))) + (f235 m a0 a1 a2))) (s32 a1)) a0 14) (s32 (198 + a1)) (s32 a2)) ((mu (mu m (m a0 14) (s32 ((s32 (158 + (s32 (3 * a2)))) + (f235 m a0 a1 a2))) (s32 a1)) ((mu m (m a0 14) (s32 ((s32 (158 + (s32 (3 * a2)))) + (f235 m a0 a1 a2))) (s32 a1)) a0 14) (s32 (198 + a1)) (s32 a2)) a0 14) (s32 (206 + a1))) + 1)))) (ig, rl, m') := h
  have h := CR_iconst h rfl rfl
  have h : MR X ρ 4 0 0 qP181 N 46 [a0, a1, a2, 0] [(1, 0)] (mu (mu (mu m (m a0 14) (s32 ((s32 (158 + (s32 (3 * a2)))) + (f235 m a0 a1 a2))) (s32 a1)) ((mu m (m a0 14) (s32 ((s32 (158 + (s32 (3 * a2)))) + (f235 m a0 a1 a2))) (s32 a1)) a0 14) (s32 (198 + a1)) (s32 a2)) ((mu (mu m (m a0 14) (s32 ((s32 (158 + (s32 (3 * a2)))) + (f235 m a0 a1 a2))) (s32 a1)) ((mu m (m a0 14) (s32 ((s32 (158 + (s32 (3 * a2)))) + (f235 m a0 a1 a2))) (s32 a1)) a0 14) (s32 (198 + a1)) (s32 a2)) a0 14) (s32 (206 + a1)) (s32 (s32 (((mu (mu m (m a0 14) (s32 ((s32 (158 + (s32 (3 * a2)))) + (f235 m a0 a1 a2))) (s32 a1)) ((mu m (m a0 14) (s32 ((s32 (158 + (s32 (3 * a2)))) + (f235 m a0 a1 a2))) (s32 a1)) a0 14) (s32 (198 + a1)) (s32 a2)) ((mu (mu m (m a0 14) (s32 ((s32 (158 + (s32 (3 * a2)))) + (f235 m a0 a1 a2))) (s32 a1)) ((mu m (m a0 14) (s32 ((s32 (158 + (s32 (3 * a2)))) + (f235 m a0 a1 a2))) (s32 a1)) a0 14) (s32 (198 + a1)) (s32 a2)) a0 14) (s32 (206 + a1))) + 1)))) (ig, rl, m') := h
  have h := CR_istore_n h rfl (Nat.le_of_ble_eq_true rfl)
  have h : MR X ρ 4 0 0 qP181 N 47 [a0, a1, a2, 0] [] (mu (mu (mu m (m a0 14) (s32 ((s32 (158 + (s32 (3 * a2)))) + (f235 m a0 a1 a2))) (s32 a1)) ((mu m (m a0 14) (s32 ((s32 (158 + (s32 (3 * a2)))) + (f235 m a0 a1 a2))) (s32 a1)) a0 14) (s32 (198 + a1)) (s32 a2)) ((mu (mu m (m a0 14) (s32 ((s32 (158 + (s32 (3 * a2)))) + (f235 m a0 a1 a2))) (s32 a1)) ((mu m (m a0 14) (s32 ((s32 (158 + (s32 (3 * a2)))) + (f235 m a0 a1 a2))) (s32 a1)) a0 14) (s32 (198 + a1)) (s32 a2)) a0 14) (s32 (206 + a1)) (s32 (s32 (((mu (mu m (m a0 14) (s32 ((s32 (158 + (s32 (3 * a2)))) + (f235 m a0 a1 a2))) (s32 a1)) ((mu m (m a0 14) (s32 ((s32 (158 + (s32 (3 * a2)))) + (f235 m a0 a1 a2))) (s32 a1)) a0 14) (s32 (198 + a1)) (s32 a2)) ((mu (mu m (m a0 14) (s32 ((s32 (158 + (s32 (3 * a2)))) + (f235 m a0 a1 a2))) (s32 a1)) ((mu m (m a0 14) (s32 ((s32 (158 + (s32 (3 * a2)))) + (f235 m a0 a1 a2))) (s32 a1)) a0 14) (s32 (198 + a1)) (s32 a2)) a0 14) (s32 (206 + a1))) + 1)))) (ig, rl, m') := h
  have h := l181_47 (Nat.le_refl _) h
  rcases h with ⟨x6, h⟩ | ⟨x6, h⟩
  ·
    have x6 : (L181_47 (mu (mu (mu m (m a0 14) (s32 ((s32 (158 + (s32 (3 * a2)))) + (f235 m a0 a1 a2))) (s32 a1)) ((mu m (m a0 14) (s32 ((s32 (158 + (s32 (3 * a2)))) + (f235 m a0 a1 a2))) (s32 a1)) a0 14) (s32 (198 + a1)) (s32 a2)) ((mu (mu m (m a0 14) (s32 ((s32 (158 + (s32 (3 * a2)))) + (f235 m a0 a1 a2))) (s32 a1)) ((mu m (m a0 14) (s32 ((s32 (158 + (s32 (3 * a2)))) + (f235 m a0 a1 a2))) (s32 a1)) a0 14) (s32 (198 + a1)) (s32 a2)) a0 14) (s32 (206 + a1)) (s32 (s32 (((mu (mu m (m a0 14) (s32 ((s32 (158 + (s32 (3 * a2)))) + (f235 m a0 a1 a2))) (s32 a1)) ((mu m (m a0 14) (s32 ((s32 (158 + (s32 (3 * a2)))) + (f235 m a0 a1 a2))) (s32 a1)) a0 14) (s32 (198 + a1)) (s32 a2)) ((mu (mu m (m a0 14) (s32 ((s32 (158 + (s32 (3 * a2)))) + (f235 m a0 a1 a2))) (s32 a1)) ((mu m (m a0 14) (s32 ((s32 (158 + (s32 (3 * a2)))) + (f235 m a0 a1 a2))) (s32 a1)) a0 14) (s32 (198 + a1)) (s32 a2)) a0 14) (s32 (206 + a1))) + 1)))) a0 a1 a2 0).1 = 1 := x6
    have h : MR X ρ 4 0 0 qP181 N 69 [a0, a1, a2, (L181_47 (mu (mu (mu m (m a0 14) (s32 ((s32 (158 + (s32 (3 * a2)))) + (f235 m a0 a1 a2))) (s32 a1)) ((mu m (m a0 14) (s32 ((s32 (158 + (s32 (3 * a2)))) + (f235 m a0 a1 a2))) (s32 a1)) a0 14) (s32 (198 + a1)) (s32 a2)) ((mu (mu m (m a0 14) (s32 ((s32 (158 + (s32 (3 * a2)))) + (f235 m a0 a1 a2))) (s32 a1)) ((mu m (m a0 14) (s32 ((s32 (158 + (s32 (3 * a2)))) + (f235 m a0 a1 a2))) (s32 a1)) a0 14) (s32 (198 + a1)) (s32 a2)) a0 14) (s32 (206 + a1)) (s32 (s32 (((mu (mu m (m a0 14) (s32 ((s32 (158 + (s32 (3 * a2)))) + (f235 m a0 a1 a2))) (s32 a1)) ((mu m (m a0 14) (s32 ((s32 (158 + (s32 (3 * a2)))) + (f235 m a0 a1 a2))) (s32 a1)) a0 14) (s32 (198 + a1)) (s32 a2)) ((mu (mu m (m a0 14) (s32 ((s32 (158 + (s32 (3 * a2)))) + (f235 m a0 a1 a2))) (s32 a1)) ((mu m (m a0 14) (s32 ((s32 (158 + (s32 (3 * a2)))) + (f235 m a0 a1 a2))) (s32 a1)) a0 14) (s32 (198 + a1)) (s32 a2)) a0 14) (s32 (206 + a1))) + 1)))) a0 a1 a2 0).2.2] [] (mu (mu (mu m (m a0 14) (s32 ((s32 (158 + (s32 (3 * a2)))) + (f235 m a0 a1 a2))) (s32 a1)) ((mu m (m a0 14) (s32 ((s32 (158 + (s32 (3 * a2)))) + (f235 m a0 a1 a2))) (s32 a1)) a0 14) (s32 (198 + a1)) (s32 a2)) ((mu (mu m (m a0 14) (s32 ((s32 (158 + (s32 (3 * a2)))) + (f235 m a0 a1 a2))) (s32 a1)) ((mu m (m a0 14) (s32 ((s32 (158 + (s32 (3 * a2)))) + (f235 m a0 a1 a2))) (s32 a1)) a0 14) (s32 (198 + a1)) (s32 a2)) a0 14) (s32 (206 + a1)) (s32 (s32 (((mu (mu m (m a0 14) (s32 ((s32 (158 + (s32 (3 * a2)))) + (f235 m a0 a1 a2))) (s32 a1)) ((mu m (m a0 14) (s32 ((s32 (158 + (s32 (3 * a2)))) + (f235 m a0 a1 a2))) (s32 a1)) a0 14) (s32 (198 + a1)) (s32 a2)) ((mu (mu m (m a0 14) (s32 ((s32 (158 + (s32 (3 * a2)))) + (f235 m a0 a1 a2))) (s32 a1)) ((mu m (m a0 14) (s32 ((s32 (158 + (s32 (3 * a2)))) + (f235 m a0 a1 a2))) (s32 a1)) a0 14) (s32 (198 + a1)) (s32 a2)) a0 14) (s32 (206 + a1))) + 1)))) (ig, rl, m') := h
    have h := CR_aload_n h rfl
    have h : MR X ρ 4 0 0 qP181 N 70 [a0, a1, a2, (L181_47 (mu (mu (mu m (m a0 14) (s32 ((s32 (158 + (s32 (3 * a2)))) + (f235 m a0 a1 a2))) (s32 a1)) ((mu m (m a0 14) (s32 ((s32 (158 + (s32 (3 * a2)))) + (f235 m a0 a1 a2))) (s32 a1)) a0 14) (s32 (198 + a1)) (s32 a2)) ((mu (mu m (m a0 14) (s32 ((s32 (158 + (s32 (3 * a2)))) + (f235 m a0 a1 a2))) (s32 a1)) ((mu m (m a0 14) (s32 ((s32 (158 + (s32 (3 * a2)))) + (f235 m a0 a1 a2))) (s32 a1)) a0 14) (s32 (198 + a1)) (s32 a2)) a0 14) (s32 (206 + a1)) (s32 (s32 (((mu (mu m (m a0 14) (s32 ((s32 (158 + (s32 (3 * a2)))) + (f235 m a0 a1 a2))) (s32 a1)) ((mu m (m a0 14) (s32 ((s32 (158 + (s32 (3 * a2)))) + (f235 m a0 a1 a2))) (s32 a1)) a0 14) (s32 (198 + a1)) (s32 a2)) ((mu (mu m (m a0 14) (s32 ((s32 (158 + (s32 (3 * a2)))) + (f235 m a0 a1 a2))) (s32 a1)) ((mu m (m a0 14) (s32 ((s32 (158 + (s32 (3 * a2)))) + (f235 m a0 a1 a2))) (s32 a1)) a0 14) (s32 (198 + a1)) (s32 a2)) a0 14) (s32 (206 + a1))) + 1)))) a0 a1 a2 0).2.2] [(1, a0)] (mu (mu (mu m (m a0 14) (s32 ((s32 (158 + (s32 (3 * a2)))) + (f235 m a0 a1 a2))) (s32 a1)) ((mu m (m a0 14) (s32 ((s32 (158 + (s32 (3 * a2)))) + (f235 m a0 a1 a2))) (s32 a1)) a0 14) (s32 (198 + a1)) (s32 a2)) ((mu (mu m (m a0 14) (s32 ((s32 (158 + (s32 (3 * a2)))) + (f235 m a0 a1 a2))) (s32 a1)) ((mu m (m a0 14) (s32 ((s32 (158 + (s32 (3 * a2)))) + (f235 m a0 a1 a2))) (s32 a1)) a0 14) (s32 (198 + a1)) (s32 a2)) a0 14) (s32 (206 + a1)) (s32 (s32 (((mu (mu m (m a0 14) (s32 ((s32 (158 + (s32 (3 * a2)))) + (f235 m a0 a1 a2))) (s32 a1)) ((mu m (m a0 14) (s32 ((s32 (158 + (s32 (3 * a2)))) + (f235 m a0 a1 a2))) (s32 a1)) a0 14) (s32 (198 + a1)) (s32 a2)) ((mu (mu m (m a0 14) (s32 ((s32 (158 + (s32 (3 * a2)))) + (f235 m a0 a1 a2))) (s32 a1)) ((mu m (m a0 14) (s32 ((s32 (158 + (s32 (3 * a2)))) + (f235 m a0 a1 a2))) (s32 a1)) a0 14) (s32 (198 + a1)) (s32 a2)) a0 14) (s32 (206 + a1))) + 1)))) (ig, rl, m') := h
    have h := CR_getf h rfl (by decide)
    have h : MR X ρ 4 0 0 qP181 N 73 [a0, a1, a2, (L181_47 (mu (mu (mu m (m a0 14) (s32 ((s32 (158 + (s32 (3 * a2)))) + (f235 m a0 a1 a2))) (s32 a1)) ((mu m (m a0 14) (s32 ((s32 (158 + (s32 (3 * a2)))) + (f235 m a0 a1 a2))) (s32 a1)) a0 14) (s32 (198 + a1)) (s32 a2)) ((mu (mu m (m a0 14) (s32 ((s32 (158 + (s32 (3 * a2)))) + (f235 m a0 a1 a2))) (s32 a1)) ((mu m (m a0 14) (s32 ((s32 (158 + (s32 (3 * a2)))) + (f235 m a0 a1 a2))) (s32 a1)) a0 14) (s32 (198 + a1)) (s32 a2)) a0 14) (s32 (206 + a1)) (s32 (s32 (((mu (mu m (m a0 14) (s32 ((s32 (158 + (s32 (3 * a2)))) + (f235 m a0 a1 a2))) (s32 a1)) ((mu m (m a0 14) (s32 ((s32 (158 + (s32 (3 * a2)))) + (f235 m a0 a1 a2))) (s32 a1)) a0 14) (s32 (198 + a1)) (s32 a2)) ((mu (mu m (m a0 14) (s32 ((s32 (158 + (s32 (3 * a2)))) + (f235 m a0 a1 a2))) (s32 a1)) ((mu m (m a0 14) (s32 ((s32 (158 + (s32 (3 * a2)))) + (f235 m a0 a1 a2))) (s32 a1)) a0 14) (s32 (198 + a1)) (s32 a2)) a0 14) (s32 (206 + a1))) + 1)))) a0 a1 a2 0).2.2] [(1, (mu (mu (mu m (m a0 14) (s32 ((s32 (158 + (s32 (3 * a2)))) + (f235 m a0 a1 a2))) (s32 a1)) ((mu m (m a0 14) (s32 ((s32 (158 + (s32 (3 * a2)))) + (f235 m a0 a1 a2))) (s32 a1)) a0 14) (s32 (198 + a1)) (s32 a2)) ((mu (mu m (m a0 14) (s32 ((s32 (158 + (s32 (3 * a2)))) + (f235 m a0 a1 a2))) (s32 a1)) ((mu m (m a0 14) (s32 ((s32 (158 + (s32 (3 * a2)))) + (f235 m a0 a1 a2))) (s32 a1)) a0 14) (s32 (198 + a1)) (s32 a2)) a0 14) (s32 (206 + a1)) (s32 (s32 (((mu (mu m (m a0 14) (s32 ((s32 (158 + (s32 (3 * a2)))) + (f235 m a0 a1 a2))) (s32 a1)) ((mu m (m a0 14) (s32 ((s32 (158 + (s32 (3 * a2)))) + (f235 m a0 a1 a2))) (s32 a1)) a0 14) (s32 (198 + a1)) (s32 a2)) ((mu (mu m (m a0 14) (s32 ((s32 (158 + (s32 (3 * a2)))) + (f235 m a0 a1 a2))) (s32 a1)) ((mu m (m a0 14) (s32 ((s32 (158 + (s32 (3 * a2)))) + (f235 m a0 a1 a2))) (s32 a1)) a0 14) (s32 (198 + a1)) (s32 a2)) a0 14) (s32 (206 + a1))) + 1)))) a0 14)] (mu (mu (mu m (m a0 14) (s32 ((s32 (158 + (s32 (3 * a2)))) + (f235 m a0 a1 a2))) (s32 a1)) ((mu m (m a0 14) (s32 ((s32 (158 + (s32 (3 * a2)))) + (f235 m a0 a1 a2))) (s32 a1)) a0 14) (s32 (198 + a1)) (s32 a2)) ((mu (mu m (m a0 14) (s32 ((s32 (158 + (s32 (3 * a2)))) + (f235 m a0 a1 a2))) (s32 a1)) ((mu m (m a0 14) (s32 ((s32 (158 + (s32 (3 * a2)))) + (f235 m a0 a1 a2))) (s32 a1)) a0 14) (s32 (198 + a1)) (s32 a2)) a0 14) (s32 (206 + a1)) (s32 (s32 (((mu (mu m (m a0 14) (s32 ((s32 (158 + (s32 (3 * a2)))) + (f235 m a0 a1 a2))) (s32 a1)) ((mu m (m a0 14) (s32 ((s32 (158 + (s32 (3 * a2)))) + (f235 m a0 a1 a2))) (s32 a1)) a0 14) (s32 (198 + a1)) (s32 a2)) ((mu (mu m (m a0 14) (s32 ((s32 (158 + (s32 (3 * a2)))) + (f235 m a0 a1 a2))) (s32 a1)) ((mu m (m a0 14) (s32 ((s32 (158 + (s32 (3 * a2)))) + (f235 m a0 a1 a2))) (s32 a1)) a0 14) (s32 (198 + a1)) (s32 a2)) a0 14) (s32 (206 + a1))) + 1)))) (ig, rl, m') := h
    have h := CR_sipush h rfl rfl
    have h : MR X ρ 4 0 0 qP181 N 76 [a0, a1, a2, (L181_47 (mu (mu (mu m (m a0 14) (s32 ((s32 (158 + (s32 (3 * a2)))) + (f235 m a0 a1 a2))) (s32 a1)) ((mu m (m a0 14) (s32 ((s32 (158 + (s32 (3 * a2)))) + (f235 m a0 a1 a2))) (s32 a1)) a0 14) (s32 (198 + a1)) (s32 a2)) ((mu (mu m (m a0 14) (s32 ((s32 (158 + (s32 (3 * a2)))) + (f235 m a0 a1 a2))) (s32 a1)) ((mu m (m a0 14) (s32 ((s32 (158 + (s32 (3 * a2)))) + (f235 m a0 a1 a2))) (s32 a1)) a0 14) (s32 (198 + a1)) (s32 a2)) a0 14) (s32 (206 + a1)) (s32 (s32 (((mu (mu m (m a0 14) (s32 ((s32 (158 + (s32 (3 * a2)))) + (f235 m a0 a1 a2))) (s32 a1)) ((mu m (m a0 14) (s32 ((s32 (158 + (s32 (3 * a2)))) + (f235 m a0 a1 a2))) (s32 a1)) a0 14) (s32 (198 + a1)) (s32 a2)) ((mu (mu m (m a0 14) (s32 ((s32 (158 + (s32 (3 * a2)))) + (f235 m a0 a1 a2))) (s32 a1)) ((mu m (m a0 14) (s32 ((s32 (158 + (s32 (3 * a2)))) + (f235 m a0 a1 a2))) (s32 a1)) a0 14) (s32 (198 + a1)) (s32 a2)) a0 14) (s32 (206 + a1))) + 1)))) a0 a1 a2 0).2.2] [(1, 182), (1, (mu (mu (mu m (m a0 14) (s32 ((s32 (158 + (s32 (3 * a2)))) + (f235 m a0 a1 a2))) (s32 a1)) ((mu m (m a0 14) (s32 ((s32 (158 + (s32 (3 * a2)))) + (f235 m a0 a1 a2))) (s32 a1)) a0 14) (s32 (198 + a1)) (s32 a2)) ((mu (mu m (m a0 14) (s32 ((s32 (158 + (s32 (3 * a2)))) + (f235 m a0 a1 a2))) (s32 a1)) ((mu m (m a0 14) (s32 ((s32 (158 + (s32 (3 * a2)))) + (f235 m a0 a1 a2))) (s32 a1)) a0 14) (s32 (198 + a1)) (s32 a2)) a0 14) (s32 (206 + a1)) (s32 (s32 (((mu (mu m (m a0 14) (s32 ((s32 (158 + (s32 (3 * a2)))) + (f235 m a0 a1 a2))) (s32 a1)) ((mu m (m a0 14) (s32 ((s32 (158 + (s32 (3 * a2)))) + (f235 m a0 a1 a2))) (s32 a1)) a0 14) (s32 (198 + a1)) (s32 a2)) ((mu (mu m (m a0 14) (s32 ((s32 (158 + (s32 (3 * a2)))) + (f235 m a0 a1 a2))) (s32 a1)) ((mu m (m a0 14) (s32 ((s32 (158 + (s32 (3 * a2)))) + (f235 m a0 a1 a2))) (s32 a1)) a0 14) (s32 (198 + a1)) (s32 a2)) a0 14) (s32 (206 + a1))) + 1)))) a0 14)] (mu (mu (mu m (m a0 14) (s32 ((s32 (158 + (s32 (3 * a2)))) + (f235 m a0 a1 a2))) (s32 a1)) ((mu m (m a0 14) (s32 ((s32 (158 + (s32 (3 * a2)))) + (f235 m a0 a1 a2))) (s32 a1)) a0 14) (s32 (198 + a1)) (s32 a2)) ((mu (mu m (m a0 14) (s32 ((s32 (158 + (s32 (3 * a2)))) + (f235 m a0 a1 a2))) (s32 a1)) ((mu m (m a0 14) (s32 ((s32 (158 + (s32 (3 * a2)))) + (f235 m a0 a1 a2))) (s32 a1)) a0 14) (s32 (198 + a1)) (s32 a2)) a0 14) (s32 (206 + a1)) (s32 (s32 (((mu (mu m (m a0 14) (s32 ((s32 (158 + (s32 (3 * a2)))) + (f235 m a0 a1 a2))) (s32 a1)) ((mu m (m a0 14) (s32 ((s32 (158 + (s32 (3 * a2)))) + (f235 m a0 a1 a2))) (s32 a1)) a0 14) (s32 (198 + a1)) (s32 a2)) ((mu (mu m (m a0 14) (s32 ((s32 (158 + (s32 (3 * a2)))) + (f235 m a0 a1 a2))) (s32 a1)) ((mu m (m a0 14) (s32 ((s32 (158 + (s32 (3 * a2)))) + (f235 m a0 a1 a2))) (s32 a1)) a0 14) (s32 (198 + a1)) (s32 a2)) a0 14) (s32 (206 + a1))) + 1)))) (ig, rl, m') := h
    have h := CR_iload_n h rfl
    have h : MR X ρ 4 0 0 qP181 N 77 [a0, a1, a2, (L181_47 (mu (mu (mu m (m a0 14) (s32 ((s32 (158 + (s32 (3 * a2)))) + (f235 m a0 a1 a2))) (s32 a1)) ((mu m (m a0 14) (s32 ((s32 (158 + (s32 (3 * a2)))) + (f235 m a0 a1 a2))) (s32 a1)) a0 14) (s32 (198 + a1)) (s32 a2)) ((mu (mu m (m a0 14) (s32 ((s32 (158 + (s32 (3 * a2)))) + (f235 m a0 a1 a2))) (s32 a1)) ((mu m (m a0 14) (s32 ((s32 (158 + (s32 (3 * a2)))) + (f235 m a0 a1 a2))) (s32 a1)) a0 14) (s32 (198 + a1)) (s32 a2)) a0 14) (s32 (206 + a1)) (s32 (s32 (((mu (mu m (m a0 14) (s32 ((s32 (158 + (s32 (3 * a2)))) + (f235 m a0 a1 a2))) (s32 a1)) ((mu m (m a0 14) (s32 ((s32 (158 + (s32 (3 * a2)))) + (f235 m a0 a1 a2))) (s32 a1)) a0 14) (s32 (198 + a1)) (s32 a2)) ((mu (mu m (m a0 14) (s32 ((s32 (158 + (s32 (3 * a2)))) + (f235 m a0 a1 a2))) (s32 a1)) ((mu m (m a0 14) (s32 ((s32 (158 + (s32 (3 * a2)))) + (f235 m a0 a1 a2))) (s32 a1)) a0 14) (s32 (198 + a1)) (s32 a2)) a0 14) (s32 (206 + a1))) + 1)))) a0 a1 a2 0).2.2] [(1, a2), (1, 182), (1, (mu (mu (mu m (m a0 14) (s32 ((s32 (158 + (s32 (3 * a2)))) + (f235 m a0 a1 a2))) (s32 a1)) ((mu m (m a0 14) (s32 ((s32 (158 + (s32 (3 * a2)))) + (f235 m a0 a1 a2))) (s32 a1)) a0 14) (s32 (198 + a1)) (s32 a2)) ((mu (mu m (m a0 14) (s32 ((s32 (158 + (s32 (3 * a2)))) + (f235 m a0 a1 a2))) (s32 a1)) ((mu m (m a0 14) (s32 ((s32 (158 + (s32 (3 * a2)))) + (f235 m a0 a1 a2))) (s32 a1)) a0 14) (s32 (198 + a1)) (s32 a2)) a0 14) (s32 (206 + a1)) (s32 (s32 (((mu (mu m (m a0 14) (s32 ((s32 (158 + (s32 (3 * a2)))) + (f235 m a0 a1 a2))) (s32 a1)) ((mu m (m a0 14) (s32 ((s32 (158 + (s32 (3 * a2)))) + (f235 m a0 a1 a2))) (s32 a1)) a0 14) (s32 (198 + a1)) (s32 a2)) ((mu (mu m (m a0 14) (s32 ((s32 (158 + (s32 (3 * a2)))) + (f235 m a0 a1 a2))) (s32 a1)) ((mu m (m a0 14) (s32 ((s32 (158 + (s32 (3 * a2)))) + (f235 m a0 a1 a2))) (s32 a1)) a0 14) (s32 (198 + a1)) (s32 a2)) a0 14) (s32 (206 + a1))) + 1)))) a0 14)] (mu (mu (mu m (m a0 14) (s32 ((s32 (158 + (s32 (3 * a2)))) + (f235 m a0 a1 a2))) (s32 a1)) ((mu m (m a0 14) (s32 ((s32 (158 + (s32 (3 * a2)))) + (f235 m a0 a1 a2))) (s32 a1)) a0 14) (s32 (198 + a1)) (s32 a2)) ((mu (mu m (m a0 14) (s32 ((s32 (158 + (s32 (3 * a2)))) + (f235 m a0 a1 a2))) (s32 a1)) ((mu m (m a0 14) (s32 ((s32 (158 + (s32 (3 * a2)))) + (f235 m a0 a1 a2))) (s32 a1)) a0 14) (s32 (198 + a1)) (s32 a2)) a0 14) (s32 (206 + a1)) (s32 (s32 (((mu (mu m (m a0 14) (s32 ((s32 (158 + (s32 (3 * a2)))) + (f235 m a0 a1 a2))) (s32 a1)) ((mu m (m a0 14) (s32 ((s32 (158 + (s32 (3 * a2)))) + (f235 m a0 a1 a2))) (s32 a1)) a0 14) (s32 (198 + a1)) (s32 a2)) ((mu (mu m (m a0 14) (s32 ((s32 (158 + (s32 (3 * a2)))) + (f235 m a0 a1 a2))) (s32 a1)) ((mu m (m a0 14) (s32 ((s32 (158 + (s32 (3 * a2)))) + (f235 m a0 a1 a2))) (s32 a1)) a0 14) (s32 (198 + a1)) (s32 a2)) a0 14) (s32 (206 + a1))) + 1)))) (ig, rl, m') := h
    have h := CR_iadd h rfl
    have h : MR X ρ 4 0 0 qP181 N 78 [a0, a1, a2, (L181_47 (mu (mu (mu m (m a0 14) (s32 ((s32 (158 + (s32 (3 * a2)))) + (f235 m a0 a1 a2))) (s32 a1)) ((mu m (m a0 14) (s32 ((s32 (158 + (s32 (3 * a2)))) + (f235 m a0 a1 a2))) (s32 a1)) a0 14) (s32 (198 + a1)) (s32 a2)) ((mu (mu m (m a0 14) (s32 ((s32 (158 + (s32 (3 * a2)))) + (f235 m a0 a1 a2))) (s32 a1)) ((mu m (m a0 14) (s32 ((s32 (158 + (s32 (3 * a2)))) + (f235 m a0 a1 a2))) (s32 a1)) a0 14) (s32 (198 + a1)) (s32 a2)) a0 14) (s32 (206 + a1)) (s32 (s32 (((mu (mu m (m a0 14) (s32 ((s32 (158 + (s32 (3 * a2)))) + (f235 m a0 a1 a2))) (s32 a1)) ((mu m (m a0 14) (s32 ((s32 (158 + (s32 (3 * a2)))) + (f235 m a0 a1 a2))) (s32 a1)) a0 14) (s32 (198 + a1)) (s32 a2)) ((mu (mu m (m a0 14) (s32 ((s32 (158 + (s32 (3 * a2)))) + (f235 m a0 a1 a2))) (s32 a1)) ((mu m (m a0 14) (s32 ((s32 (158 + (s32 (3 * a2)))) + (f235 m a0 a1 a2))) (s32 a1)) a0 14) (s32 (198 + a1)) (s32 a2)) a0 14) (s32 (206 + a1))) + 1)))) a0 a1 a2 0).2.2] [(1, s32 (182 + a2)), (1, (mu (mu (mu m (m a0 14) (s32 ((s32 (158 + (s32 (3 * a2)))) + (f235 m a0 a1 a2))) (s32 a1)) ((mu m (m a0 14) (s32 ((s32 (158 + (s32 (3 * a2)))) + (f235 m a0 a1 a2))) (s32 a1)) a0 14) (s32 (198 + a1)) (s32 a2)) ((mu (mu m (m a0 14) (s32 ((s32 (158 + (s32 (3 * a2)))) + (f235 m a0 a1 a2))) (s32 a1)) ((mu m (m a0 14) (s32 ((s32 (158 + (s32 (3 * a2)))) + (f235 m a0 a1 a2))) (s32 a1)) a0 14) (s32 (198 + a1)) (s32 a2)) a0 14) (s32 (206 + a1)) (s32 (s32 (((mu (mu m (m a0 14) (s32 ((s32 (158 + (s32 (3 * a2)))) + (f235 m a0 a1 a2))) (s32 a1)) ((mu m (m a0 14) (s32 ((s32 (158 + (s32 (3 * a2)))) + (f235 m a0 a1 a2))) (s32 a1)) a0 14) (s32 (198 + a1)) (s32 a2)) ((mu (mu m (m a0 14) (s32 ((s32 (158 + (s32 (3 * a2)))) + (f235 m a0 a1 a2))) (s32 a1)) ((mu m (m a0 14) (s32 ((s32 (158 + (s32 (3 * a2)))) + (f235 m a0 a1 a2))) (s32 a1)) a0 14) (s32 (198 + a1)) (s32 a2)) a0 14) (s32 (206 + a1))) + 1)))) a0 14)] (mu (mu (mu m (m a0 14) (s32 ((s32 (158 + (s32 (3 * a2)))) + (f235 m a0 a1 a2))) (s32 a1)) ((mu m (m a0 14) (s32 ((s32 (158 + (s32 (3 * a2)))) + (f235 m a0 a1 a2))) (s32 a1)) a0 14) (s32 (198 + a1)) (s32 a2)) ((mu (mu m (m a0 14) (s32 ((s32 (158 + (s32 (3 * a2)))) + (f235 m a0 a1 a2))) (s32 a1)) ((mu m (m a0 14) (s32 ((s32 (158 + (s32 (3 * a2)))) + (f235 m a0 a1 a2))) (s32 a1)) a0 14) (s32 (198 + a1)) (s32 a2)) a0 14) (s32 (206 + a1)) (s32 (s32 (((mu (mu m (m a0 14) (s32 ((s32 (158 + (s32 (3 * a2)))) + (f235 m a0 a1 a2))) (s32 a1)) ((mu m (m a0 14) (s32 ((s32 (158 + (s32 (3 * a2)))) + (f235 m a0 a1 a2))) (s32 a1)) a0 14) (s32 (198 + a1)) (s32 a2)) ((mu (mu m (m a0 14) (s32 ((s32 (158 + (s32 (3 * a2)))) + (f235 m a0 a1 a2))) (s32 a1)) ((mu m (m a0 14) (s32 ((s32 (158 + (s32 (3 * a2)))) + (f235 m a0 a1 a2))) (s32 a1)) a0 14) (s32 (198 + a1)) (s32 a2)) a0 14) (s32 (206 + a1))) + 1)))) (ig, rl, m') := h
    have h := CR_iconst h rfl rfl
    have h : MR X ρ 4 0 0 qP181 N 79 [a0, a1, a2, (L181_47 (mu (mu (mu m (m a0 14) (s32 ((s32 (158 + (s32 (3 * a2)))) + (f235 m a0 a1 a2))) (s32 a1)) ((mu m (m a0 14) (s32 ((s32 (158 + (s32 (3 * a2)))) + (f235 m a0 a1 a2))) (s32 a1)) a0 14) (s32 (198 + a1)) (s32 a2)) ((mu (mu m (m a0 14) (s32 ((s32 (158 + (s32 (3 * a2)))) + (f235 m a0 a1 a2))) (s32 a1)) ((mu m (m a0 14) (s32 ((s32 (158 + (s32 (3 * a2)))) + (f235 m a0 a1 a2))) (s32 a1)) a0 14) (s32 (198 + a1)) (s32 a2)) a0 14) (s32 (206 + a1)) (s32 (s32 (((mu (mu m (m a0 14) (s32 ((s32 (158 + (s32 (3 * a2)))) + (f235 m a0 a1 a2))) (s32 a1)) ((mu m (m a0 14) (s32 ((s32 (158 + (s32 (3 * a2)))) + (f235 m a0 a1 a2))) (s32 a1)) a0 14) (s32 (198 + a1)) (s32 a2)) ((mu (mu m (m a0 14) (s32 ((s32 (158 + (s32 (3 * a2)))) + (f235 m a0 a1 a2))) (s32 a1)) ((mu m (m a0 14) (s32 ((s32 (158 + (s32 (3 * a2)))) + (f235 m a0 a1 a2))) (s32 a1)) a0 14) (s32 (198 + a1)) (s32 a2)) a0 14) (s32 (206 + a1))) + 1)))) a0 a1 a2 0).2.2] [(1, 1), (1, s32 (182 + a2)), (1, (mu (mu (mu m (m a0 14) (s32 ((s32 (158 + (s32 (3 * a2)))) + (f235 m a0 a1 a2))) (s32 a1)) ((mu m (m a0 14) (s32 ((s32 (158 + (s32 (3 * a2)))) + (f235 m a0 a1 a2))) (s32 a1)) a0 14) (s32 (198 + a1)) (s32 a2)) ((mu (mu m (m a0 14) (s32 ((s32 (158 + (s32 (3 * a2)))) + (f235 m a0 a1 a2))) (s32 a1)) ((mu m (m a0 14) (s32 ((s32 (158 + (s32 (3 * a2)))) + (f235 m a0 a1 a2))) (s32 a1)) a0 14) (s32 (198 + a1)) (s32 a2)) a0 14) (s32 (206 + a1)) (s32 (s32 (((mu (mu m (m a0 14) (s32 ((s32 (158 + (s32 (3 * a2)))) + (f235 m a0 a1 a2))) (s32 a1)) ((mu m (m a0 14) (s32 ((s32 (158 + (s32 (3 * a2)))) + (f235 m a0 a1 a2))) (s32 a1)) a0 14) (s32 (198 + a1)) (s32 a2)) ((mu (mu m (m a0 14) (s32 ((s32 (158 + (s32 (3 * a2)))) + (f235 m a0 a1 a2))) (s32 a1)) ((mu m (m a0 14) (s32 ((s32 (158 + (s32 (3 * a2)))) + (f235 m a0 a1 a2))) (s32 a1)) a0 14) (s32 (198 + a1)) (s32 a2)) a0 14) (s32 (206 + a1))) + 1)))) a0 14)] (mu (mu (mu m (m a0 14) (s32 ((s32 (158 + (s32 (3 * a2)))) + (f235 m a0 a1 a2))) (s32 a1)) ((mu m (m a0 14) (s32 ((s32 (158 + (s32 (3 * a2)))) + (f235 m a0 a1 a2))) (s32 a1)) a0 14) (s32 (198 + a1)) (s32 a2)) ((mu (mu m (m a0 14) (s32 ((s32 (158 + (s32 (3 * a2)))) + (f235 m a0 a1 a2))) (s32 a1)) ((mu m (m a0 14) (s32 ((s32 (158 + (s32 (3 * a2)))) + (f235 m a0 a1 a2))) (s32 a1)) a0 14) (s32 (198 + a1)) (s32 a2)) a0 14) (s32 (206 + a1)) (s32 (s32 (((mu (mu m (m a0 14) (s32 ((s32 (158 + (s32 (3 * a2)))) + (f235 m a0 a1 a2))) (s32 a1)) ((mu m (m a0 14) (s32 ((s32 (158 + (s32 (3 * a2)))) + (f235 m a0 a1 a2))) (s32 a1)) a0 14) (s32 (198 + a1)) (s32 a2)) ((mu (mu m (m a0 14) (s32 ((s32 (158 + (s32 (3 * a2)))) + (f235 m a0 a1 a2))) (s32 a1)) ((mu m (m a0 14) (s32 ((s32 (158 + (s32 (3 * a2)))) + (f235 m a0 a1 a2))) (s32 a1)) a0 14) (s32 (198 + a1)) (s32 a2)) a0 14) (s32 (206 + a1))) + 1)))) (ig, rl, m') := h
    have h := CR_iastore_ h rfl
    have h : MR X ρ 4 0 0 qP181 N 80 [a0, a1, a2, (L181_47 (mu (mu (mu m (m a0 14) (s32 ((s32 (158 + (s32 (3 * a2)))) + (f235 m a0 a1 a2))) (s32 a1)) ((mu m (m a0 14) (s32 ((s32 (158 + (s32 (3 * a2)))) + (f235 m a0 a1 a2))) (s32 a1)) a0 14) (s32 (198 + a1)) (s32 a2)) ((mu (mu m (m a0 14) (s32 ((s32 (158 + (s32 (3 * a2)))) + (f235 m a0 a1 a2))) (s32 a1)) ((mu m (m a0 14) (s32 ((s32 (158 + (s32 (3 * a2)))) + (f235 m a0 a1 a2))) (s32 a1)) a0 14) (s32 (198 + a1)) (s32 a2)) a0 14) (s32 (206 + a1)) (s32 (s32 (((mu (mu m (m a0 14) (s32 ((s32 (158 + (s32 (3 * a2)))) + (f235 m a0 a1 a2))) (s32 a1)) ((mu m (m a0 14) (s32 ((s32 (158 + (s32 (3 * a2)))) + (f235 m a0 a1 a2))) (s32 a1)) a0 14) (s32 (198 + a1)) (s32 a2)) ((mu (mu m (m a0 14) (s32 ((s32 (158 + (s32 (3 * a2)))) + (f235 m a0 a1 a2))) (s32 a1)) ((mu m (m a0 14) (s32 ((s32 (158 + (s32 (3 * a2)))) + (f235 m a0 a1 a2))) (s32 a1)) a0 14) (s32 (198 + a1)) (s32 a2)) a0 14) (s32 (206 + a1))) + 1)))) a0 a1 a2 0).2.2] [] (mu (mu (mu (mu m (m a0 14) (s32 ((s32 (158 + (s32 (3 * a2)))) + (f235 m a0 a1 a2))) (s32 a1)) ((mu m (m a0 14) (s32 ((s32 (158 + (s32 (3 * a2)))) + (f235 m a0 a1 a2))) (s32 a1)) a0 14) (s32 (198 + a1)) (s32 a2)) ((mu (mu m (m a0 14) (s32 ((s32 (158 + (s32 (3 * a2)))) + (f235 m a0 a1 a2))) (s32 a1)) ((mu m (m a0 14) (s32 ((s32 (158 + (s32 (3 * a2)))) + (f235 m a0 a1 a2))) (s32 a1)) a0 14) (s32 (198 + a1)) (s32 a2)) a0 14) (s32 (206 + a1)) (s32 (s32 (((mu (mu m (m a0 14) (s32 ((s32 (158 + (s32 (3 * a2)))) + (f235 m a0 a1 a2))) (s32 a1)) ((mu m (m a0 14) (s32 ((s32 (158 + (s32 (3 * a2)))) + (f235 m a0 a1 a2))) (s32 a1)) a0 14) (s32 (198 + a1)) (s32 a2)) ((mu (mu m (m a0 14) (s32 ((s32 (158 + (s32 (3 * a2)))) + (f235 m a0 a1 a2))) (s32 a1)) ((mu m (m a0 14) (s32 ((s32 (158 + (s32 (3 * a2)))) + (f235 m a0 a1 a2))) (s32 a1)) a0 14) (s32 (198 + a1)) (s32 a2)) a0 14) (s32 (206 + a1))) + 1)))) ((mu (mu (mu m (m a0 14) (s32 ((s32 (158 + (s32 (3 * a2)))) + (f235 m a0 a1 a2))) (s32 a1)) ((mu m (m a0 14) (s32 ((s32 (158 + (s32 (3 * a2)))) + (f235 m a0 a1 a2))) (s32 a1)) a0 14) (s32 (198 + a1)) (s32 a2)) ((mu (mu m (m a0 14) (s32 ((s32 (158 + (s32 (3 * a2)))) + (f235 m a0 a1 a2))) (s32 a1)) ((mu m (m a0 14) (s32 ((s32 (158 + (s32 (3 * a2)))) + (f235 m a0 a1 a2))) (s32 a1)) a0 14) (s32 (198 + a1)) (s32 a2)) a0 14) (s32 (206 + a1)) (s32 (s32 (((mu (mu m (m a0 14) (s32 ((s32 (158 + (s32 (3 * a2)))) + (f235 m a0 a1 a2))) (s32 a1)) ((mu m (m a0 14) (s32 ((s32 (158 + (s32 (3 * a2)))) + (f235 m a0 a1 a2))) (s32 a1)) a0 14) (s32 (198 + a1)) (s32 a2)) ((mu (mu m (m a0 14) (s32 ((s32 (158 + (s32 (3 * a2)))) + (f235 m a0 a1 a2))) (s32 a1)) ((mu m (m a0 14) (s32 ((s32 (158 + (s32 (3 * a2)))) + (f235 m a0 a1 a2))) (s32 a1)) a0 14) (s32 (198 + a1)) (s32 a2)) a0 14) (s32 (206 + a1))) + 1)))) a0 14) (s32 (182 + a2)) (s32 1)) (ig, rl, m') := h
    have e := CR_end h rfl rfl
    cases e
    exact ⟨rfl, Eq.symm (show g181 m a0 a1 a2 = _ from (if_pos x6).trans (rfl))⟩
  ·
    have x6 : ¬ ((L181_47 (mu (mu (mu m (m a0 14) (s32 ((s32 (158 + (s32 (3 * a2)))) + (f235 m a0 a1 a2))) (s32 a1)) ((mu m (m a0 14) (s32 ((s32 (158 + (s32 (3 * a2)))) + (f235 m a0 a1 a2))) (s32 a1)) a0 14) (s32 (198 + a1)) (s32 a2)) ((mu (mu m (m a0 14) (s32 ((s32 (158 + (s32 (3 * a2)))) + (f235 m a0 a1 a2))) (s32 a1)) ((mu m (m a0 14) (s32 ((s32 (158 + (s32 (3 * a2)))) + (f235 m a0 a1 a2))) (s32 a1)) a0 14) (s32 (198 + a1)) (s32 a2)) a0 14) (s32 (206 + a1)) (s32 (s32 (((mu (mu m (m a0 14) (s32 ((s32 (158 + (s32 (3 * a2)))) + (f235 m a0 a1 a2))) (s32 a1)) ((mu m (m a0 14) (s32 ((s32 (158 + (s32 (3 * a2)))) + (f235 m a0 a1 a2))) (s32 a1)) a0 14) (s32 (198 + a1)) (s32 a2)) ((mu (mu m (m a0 14) (s32 ((s32 (158 + (s32 (3 * a2)))) + (f235 m a0 a1 a2))) (s32 a1)) ((mu m (m a0 14) (s32 ((s32 (158 + (s32 (3 * a2)))) + (f235 m a0 a1 a2))) (s32 a1)) a0 14) (s32 (198 + a1)) (s32 a2)) a0 14) (s32 (206 + a1))) + 1)))) a0 a1 a2 0).1 = 1) := x6
    have e := CR_end_id h
    cases e
    exact ⟨rfl, Eq.symm (show g181 m a0 a1 a2 = _ from (if_neg x6).trans (rfl))⟩
set_option maxRecDepth 16384 in
/-- TriplicateFormsModel.live(III)V -/
noncomputable def g222 (m : MM) (a0 a1 a2 a3 : Int) : MM := (if a1 = 0 then g181 m a0 a2 a3 else (if a1 = 1 then (if a1 = 2 then mu m (m a0 14) (s32 ((s32 (94 + (s32 (8 * a2)))) + a3)) (s32 (s32 ((m (m a0 14) (s32 ((s32 (94 + (s32 (8 * a2)))) + a3))) + 1))) else mu m (m a0 14) (s32 ((s32 (94 + (s32 (8 * a2)))) + a3)) (s32 (s32 ((m (m a0 14) (s32 ((s32 (94 + (s32 (8 * a2)))) + a3))) + (-1))))) else (if a1 = 2 then mu m (m a0 14) (s32 ((s32 (94 + (s32 (8 * a2)))) + a3)) (s32 (s32 ((m (m a0 14) (s32 ((s32 (94 + (s32 (8 * a2)))) + a3))) + 1))) else (if a1 = 3 then mu m (m a0 14) 93 (s32 (jxor (m (m a0 14) 93) (jshl 1 a2))) else (if a1 = 4 then mu m (m a0 14) 93 (s32 (jxor (m (m a0 14) 93) (jshl 1 a2))) else (if a1 = 5 then mu (mu m (m a0 14) (s32 (182 + a2)) (s32 3)) ((mu m (m a0 14) (s32 (182 + a2)) (s32 3)) a0 14) (s32 (190 + a2)) (s32 ((mu m (m a0 14) (s32 (182 + a2)) (s32 3)) ((mu m (m a0 14) (s32 (182 + a2)) (s32 3)) a0 14) (s32 (84 + a2)))) else g232 m a0 a2))))))
set_option maxRecDepth 16384 in
theorem d222 {X : KO} {ρ : Nat → Int32} {m m' : MM} {rl : List (Nat × Int)} {a0 a1 a2 a3 : Int} (h : Run X ρ 222 [(1, a0), (1, a1), (1, a2), (1, a3)] m rl m') : rl = [] ∧ m' = g222 m a0 a1 a2 a3 := by
  obtain ⟨N, ig, h⟩ := Run_CR h rfl
  have h : MR X ρ 4 0 0 qP222 N 0 [a0, a1, a2, a3] [] m (ig, rl, m') := h
  have h := CR_iload_n h rfl
  have h : MR X ρ 4 0 0 qP222 N 1 [a0, a1, a2, a3] [(1, a1)] m (ig, rl, m') := h
  obtain ⟨t1, s2, h⟩ := CR_tsw kRg0 h rfl
  rcases Decidable.em (a1 = 0) with c3 | c3
  ·
    have us2 : swt 1 (119) (0) (5) #[39, 46, 46, 74, 74, 88] a1 = some 40 := by rw [c3]; rfl
    have s2 := us2.symm.trans s2
    cases s2
    have h : MR X ρ 4 0 0 qP222 N 40 [a0, a1, a2, a3] [] m (ig, rl, m') := h
    have h := CR_aload_n h rfl
    have h : MR X ρ 4 0 0 qP222 N 41 [a0, a1, a2, a3] [(1, a0)] m (ig, rl, m') := h
    have h := CR_iload_n h rfl
    have h : MR X ρ 4 0 0 qP222 N 42 [a0, a1, a2, a3] [(1, a2), (1, a0)] m (ig, rl, m') := h
    have h := CR_iload_n h rfl
    have h : MR X ρ 4 0 0 qP222 N 43 [a0, a1, a2, a3] [(1, a3), (1, a2), (1, a0)] m (ig, rl, m') := h
    obtain ⟨r4, m5, q6, h⟩ := MR_invV h rfl rfl
    have q6 : Run X ρ 181 [(1, a0), (1, a2), (1, a3)] m r4 m5 := q6
    obtain ⟨e7, e8⟩ := d181 q6
    rw [e7, e8] at h
    have h : MR X ρ 4 0 0 qP222 N 46 [a0, a1, a2, a3] [] (g181 m a0 a2 a3) (ig, rl, m') := h
    have e := CR_end h rfl rfl
    cases e
    exact ⟨rfl, Eq.symm (show g222 m a0 a1 a2 a3 = _ from (if_pos c3).trans (rfl))⟩
  ·
    rcases Decidable.em (a1 = 1) with c9 | c9
    ·
      have us2 : swt 1 (119) (0) (5) #[39, 46, 46, 74, 74, 88] a1 = some 47 := by rw [c9]; rfl
      have s2 := us2.symm.trans s2
      cases s2
      have h : MR X ρ 4 0 0 qP222 N 47 [a0, a1, a2, a3] [] m (ig, rl, m') := h
      have h := CR_aload_n h rfl
      have h : MR X ρ 4 0 0 qP222 N 48 [a0, a1, a2, a3] [(1, a0)] m (ig, rl, m') := h
      have h := CR_getf h rfl (by decide)
      have h : MR X ρ 4 0 0 qP222 N 51 [a0, a1, a2, a3] [(1, m a0 14)] m (ig, rl, m') := h
      have h := CR_bipush h rfl rfl
      have h : MR X ρ 4 0 0 qP222 N 53 [a0, a1, a2, a3] [(1, 94), (1, m a0 14)] m (ig, rl, m') := h
      have h := CR_bipush h rfl rfl
      have h : MR X ρ 4 0 0 qP222 N 55 [a0, a1, a2, a3] [(1, 8), (1, 94), (1, m a0 14)] m (ig, rl, m') := h
      have h := CR_iload_n h rfl
      have h : MR X ρ 4 0 0 qP222 N 56 [a0, a1, a2, a3] [(1, a2), (1, 8), (1, 94), (1, m a0 14)] m (ig, rl, m') := h
      have h := CR_imul h rfl
      have h : MR X ρ 4 0 0 qP222 N 57 [a0, a1, a2, a3] [(1, s32 (8 * a2)), (1, 94), (1, m a0 14)] m (ig, rl, m') := h
      have h := CR_iadd h rfl
      have h : MR X ρ 4 0 0 qP222 N 58 [a0, a1, a2, a3] [(1, s32 (94 + (s32 (8 * a2)))), (1, m a0 14)] m (ig, rl, m') := h
      have h := CR_iload_n h rfl
      have h : MR X ρ 4 0 0 qP222 N 59 [a0, a1, a2, a3] [(1, a3), (1, s32 (94 + (s32 (8 * a2)))), (1, m a0 14)] m (ig, rl, m') := h
      have h := CR_iadd h rfl
      have h : MR X ρ 4 0 0 qP222 N 60 [a0, a1, a2, a3] [(1, s32 ((s32 (94 + (s32 (8 * a2)))) + a3)), (1, m a0 14)] m (ig, rl, m') := h
      have h := CR_dup2 h rfl
      have h : MR X ρ 4 0 0 qP222 N 61 [a0, a1, a2, a3] [(1, s32 ((s32 (94 + (s32 (8 * a2)))) + a3)), (1, m a0 14), (1, s32 ((s32 (94 + (s32 (8 * a2)))) + a3)), (1, m a0 14)] m (ig, rl, m') := h
      have h := CR_iaload h rfl rfl
      have h : MR X ρ 4 0 0 qP222 N 62 [a0, a1, a2, a3] [(1, m (m a0 14) (s32 ((s32 (94 + (s32 (8 * a2)))) + a3))), (1, s32 ((s32 (94 + (s32 (8 * a2)))) + a3)), (1, m a0 14)] m (ig, rl, m') := h
      have h := CR_iload_n h rfl
      have h : MR X ρ 4 0 0 qP222 N 63 [a0, a1, a2, a3] [(1, a1), (1, m (m a0 14) (s32 ((s32 (94 + (s32 (8 * a2)))) + a3))), (1, s32 ((s32 (94 + (s32 (8 * a2)))) + a3)), (1, m a0 14)] m (ig, rl, m') := h
      have h := CR_iconst h rfl rfl
      have h : MR X ρ 4 0 0 qP222 N 64 [a0, a1, a2, a3] [(1, 2), (1, a1), (1, m (m a0 14) (s32 ((s32 (94 + (s32 (8 * a2)))) + a3))), (1, s32 ((s32 (94 + (s32 (8 * a2)))) + a3)), (1, m a0 14)] m (ig, rl, m') := h
      rcases MR_icmp h rfl rfl with ⟨c10, h⟩ | ⟨c10, h⟩
      ·
        have c10 : ¬ (a1 = 2) := c10
        have h : MR X ρ 4 0 0 qP222 N 71 [a0, a1, a2, a3] [(1, m (m a0 14) (s32 ((s32 (94 + (s32 (8 * a2)))) + a3))), (1, s32 ((s32 (94 + (s32 (8 * a2)))) + a3)), (1, m a0 14)] m (ig, rl, m') := h
        have h := CR_iconst h rfl rfl
        have h : MR X ρ 4 0 0 qP222 N 72 [a0, a1, a2, a3] [(1, -1), (1, m (m a0 14) (s32 ((s32 (94 + (s32 (8 * a2)))) + a3))), (1, s32 ((s32 (94 + (s32 (8 * a2)))) + a3)), (1, m a0 14)] m (ig, rl, m') := h
        have h := CR_iadd h rfl
        have h : MR X ρ 4 0 0 qP222 N 73 [a0, a1, a2, a3] [(1, s32 ((m (m a0 14) (s32 ((s32 (94 + (s32 (8 * a2)))) + a3))) + (-1))), (1, s32 ((s32 (94 + (s32 (8 * a2)))) + a3)), (1, m a0 14)] m (ig, rl, m') := h
        have h := CR_iastore_ h rfl
        have h : MR X ρ 4 0 0 qP222 N 74 [a0, a1, a2, a3] [] (mu m (m a0 14) (s32 ((s32 (94 + (s32 (8 * a2)))) + a3)) (s32 (s32 ((m (m a0 14) (s32 ((s32 (94 + (s32 (8 * a2)))) + a3))) + (-1))))) (ig, rl, m') := h
        have e := CR_end h rfl rfl
        cases e
        exact ⟨rfl, Eq.symm (show g222 m a0 a1 a2 a3 = _ from (if_neg c3).trans ((if_pos c9).trans ((if_neg c10).trans (rfl))))⟩
      ·
        have c10 : a1 = 2 := Decidable.of_not_not (show ¬ ¬ (a1 = 2) from c10)
        have h : MR X ρ 4 0 0 qP222 N 67 [a0, a1, a2, a3] [(1, m (m a0 14) (s32 ((s32 (94 + (s32 (8 * a2)))) + a3))), (1, s32 ((s32 (94 + (s32 (8 * a2)))) + a3)), (1, m a0 14)] m (ig, rl, m') := h
        have h := CR_iconst h rfl rfl
        have h : MR X ρ 4 0 0 qP222 N 68 [a0, a1, a2, a3] [(1, 1), (1, m (m a0 14) (s32 ((s32 (94 + (s32 (8 * a2)))) + a3))), (1, s32 ((s32 (94 + (s32 (8 * a2)))) + a3)), (1, m a0 14)] m (ig, rl, m') := h
        have h := CR_go h rfl rfl
        have h : MR X ρ 4 0 0 qP222 N 72 [a0, a1, a2, a3] [(1, 1), (1, m (m a0 14) (s32 ((s32 (94 + (s32 (8 * a2)))) + a3))), (1, s32 ((s32 (94 + (s32 (8 * a2)))) + a3)), (1, m a0 14)] m (ig, rl, m') := h
        have h := CR_iadd h rfl
        have h : MR X ρ 4 0 0 qP222 N 73 [a0, a1, a2, a3] [(1, s32 ((m (m a0 14) (s32 ((s32 (94 + (s32 (8 * a2)))) + a3))) + 1)), (1, s32 ((s32 (94 + (s32 (8 * a2)))) + a3)), (1, m a0 14)] m (ig, rl, m') := h
        have h := CR_iastore_ h rfl
        have h : MR X ρ 4 0 0 qP222 N 74 [a0, a1, a2, a3] [] (mu m (m a0 14) (s32 ((s32 (94 + (s32 (8 * a2)))) + a3)) (s32 (s32 ((m (m a0 14) (s32 ((s32 (94 + (s32 (8 * a2)))) + a3))) + 1)))) (ig, rl, m') := h
        have e := CR_end h rfl rfl
        cases e
        exact ⟨rfl, Eq.symm (show g222 m a0 a1 a2 a3 = _ from (if_neg c3).trans ((if_pos c9).trans ((if_pos c10).trans (rfl))))⟩
    ·
      rcases Decidable.em (a1 = 2) with c11 | c11
      ·
        have us2 : swt 1 (119) (0) (5) #[39, 46, 46, 74, 74, 88] a1 = some 47 := by rw [c11]; rfl
        have s2 := us2.symm.trans s2
        cases s2
        have h : MR X ρ 4 0 0 qP222 N 47 [a0, a1, a2, a3] [] m (ig, rl, m') := h
        have h := CR_aload_n h rfl
        have h : MR X ρ 4 0 0 qP222 N 48 [a0, a1, a2, a3] [(1, a0)] m (ig, rl, m') := h
        have h := CR_getf h rfl (by decide)
        have h : MR X ρ 4 0 0 qP222 N 51 [a0, a1, a2, a3] [(1, m a0 14)] m (ig, rl, m') := h
        have h := CR_bipush h rfl rfl
        have h : MR X ρ 4 0 0 qP222 N 53 [a0, a1, a2, a3] [(1, 94), (1, m a0 14)] m (ig, rl, m') := h
        have h := CR_bipush h rfl rfl
        have h : MR X ρ 4 0 0 qP222 N 55 [a0, a1, a2, a3] [(1, 8), (1, 94), (1, m a0 14)] m (ig, rl, m') := h
        have h := CR_iload_n h rfl
        have h : MR X ρ 4 0 0 qP222 N 56 [a0, a1, a2, a3] [(1, a2), (1, 8), (1, 94), (1, m a0 14)] m (ig, rl, m') := h
        have h := CR_imul h rfl
        have h : MR X ρ 4 0 0 qP222 N 57 [a0, a1, a2, a3] [(1, s32 (8 * a2)), (1, 94), (1, m a0 14)] m (ig, rl, m') := h
        have h := CR_iadd h rfl
        have h : MR X ρ 4 0 0 qP222 N 58 [a0, a1, a2, a3] [(1, s32 (94 + (s32 (8 * a2)))), (1, m a0 14)] m (ig, rl, m') := h
        have h := CR_iload_n h rfl
        have h : MR X ρ 4 0 0 qP222 N 59 [a0, a1, a2, a3] [(1, a3), (1, s32 (94 + (s32 (8 * a2)))), (1, m a0 14)] m (ig, rl, m') := h
        have h := CR_iadd h rfl
        have h : MR X ρ 4 0 0 qP222 N 60 [a0, a1, a2, a3] [(1, s32 ((s32 (94 + (s32 (8 * a2)))) + a3)), (1, m a0 14)] m (ig, rl, m') := h
        have h := CR_dup2 h rfl
        have h : MR X ρ 4 0 0 qP222 N 61 [a0, a1, a2, a3] [(1, s32 ((s32 (94 + (s32 (8 * a2)))) + a3)), (1, m a0 14), (1, s32 ((s32 (94 + (s32 (8 * a2)))) + a3)), (1, m a0 14)] m (ig, rl, m') := h
        have h := CR_iaload h rfl rfl
        have h : MR X ρ 4 0 0 qP222 N 62 [a0, a1, a2, a3] [(1, m (m a0 14) (s32 ((s32 (94 + (s32 (8 * a2)))) + a3))), (1, s32 ((s32 (94 + (s32 (8 * a2)))) + a3)), (1, m a0 14)] m (ig, rl, m') := h
        have h := CR_iload_n h rfl
        have h : MR X ρ 4 0 0 qP222 N 63 [a0, a1, a2, a3] [(1, a1), (1, m (m a0 14) (s32 ((s32 (94 + (s32 (8 * a2)))) + a3))), (1, s32 ((s32 (94 + (s32 (8 * a2)))) + a3)), (1, m a0 14)] m (ig, rl, m') := h
        have h := CR_iconst h rfl rfl
        have h : MR X ρ 4 0 0 qP222 N 64 [a0, a1, a2, a3] [(1, 2), (1, a1), (1, m (m a0 14) (s32 ((s32 (94 + (s32 (8 * a2)))) + a3))), (1, s32 ((s32 (94 + (s32 (8 * a2)))) + a3)), (1, m a0 14)] m (ig, rl, m') := h
        rcases MR_icmp h rfl rfl with ⟨c12, h⟩ | ⟨c12, h⟩
        · exact absurd c11 (show ¬ (a1 = 2) from c12)
        ·
          have h : MR X ρ 4 0 0 qP222 N 67 [a0, a1, a2, a3] [(1, m (m a0 14) (s32 ((s32 (94 + (s32 (8 * a2)))) + a3))), (1, s32 ((s32 (94 + (s32 (8 * a2)))) + a3)), (1, m a0 14)] m (ig, rl, m') := h
          have h := CR_iconst h rfl rfl
          have h : MR X ρ 4 0 0 qP222 N 68 [a0, a1, a2, a3] [(1, 1), (1, m (m a0 14) (s32 ((s32 (94 + (s32 (8 * a2)))) + a3))), (1, s32 ((s32 (94 + (s32 (8 * a2)))) + a3)), (1, m a0 14)] m (ig, rl, m') := h
          have h := CR_go h rfl rfl
          have h : MR X ρ 4 0 0 qP222 N 72 [a0, a1, a2, a3] [(1, 1), (1, m (m a0 14) (s32 ((s32 (94 + (s32 (8 * a2)))) + a3))), (1, s32 ((s32 (94 + (s32 (8 * a2)))) + a3)), (1, m a0 14)] m (ig, rl, m') := h
          have h := CR_iadd h rfl
          have h : MR X ρ 4 0 0 qP222 N 73 [a0, a1, a2, a3] [(1, s32 ((m (m a0 14) (s32 ((s32 (94 + (s32 (8 * a2)))) + a3))) + 1)), (1, s32 ((s32 (94 + (s32 (8 * a2)))) + a3)), (1, m a0 14)] m (ig, rl, m') := h
          have h := CR_iastore_ h rfl
          have h : MR X ρ 4 0 0 qP222 N 74 [a0, a1, a2, a3] [] (mu m (m a0 14) (s32 ((s32 (94 + (s32 (8 * a2)))) + a3)) (s32 (s32 ((m (m a0 14) (s32 ((s32 (94 + (s32 (8 * a2)))) + a3))) + 1)))) (ig, rl, m') := h
          have e := CR_end h rfl rfl
          cases e
          exact ⟨rfl, Eq.symm (show g222 m a0 a1 a2 a3 = _ from (if_neg c3).trans ((if_neg c9).trans ((if_pos c11).trans (rfl))))⟩
      ·
        rcases Decidable.em (a1 = 3) with c13 | c13
        ·
          have us2 : swt 1 (119) (0) (5) #[39, 46, 46, 74, 74, 88] a1 = some 75 := by rw [c13]; rfl
          have s2 := us2.symm.trans s2
          cases s2
          have h : MR X ρ 4 0 0 qP222 N 75 [a0, a1, a2, a3] [] m (ig, rl, m') := h
          have h := CR_aload_n h rfl
          have h : MR X ρ 4 0 0 qP222 N 76 [a0, a1, a2, a3] [(1, a0)] m (ig, rl, m') := h
          have h := CR_getf h rfl (by decide)
          have h : MR X ρ 4 0 0 qP222 N 79 [a0, a1, a2, a3] [(1, m a0 14)] m (ig, rl, m') := h
          have h := CR_bipush h rfl rfl
          have h : MR X ρ 4 0 0 qP222 N 81 [a0, a1, a2, a3] [(1, 93), (1, m a0 14)] m (ig, rl, m') := h
          have h := CR_dup2 h rfl
          have h : MR X ρ 4 0 0 qP222 N 82 [a0, a1, a2, a3] [(1, 93), (1, m a0 14), (1, 93), (1, m a0 14)] m (ig, rl, m') := h
          have h := CR_iaload h rfl rfl
          have h : MR X ρ 4 0 0 qP222 N 83 [a0, a1, a2, a3] [(1, m (m a0 14) 93), (1, 93), (1, m a0 14)] m (ig, rl, m') := h
          have h := CR_iconst h rfl rfl
          have h : MR X ρ 4 0 0 qP222 N 84 [a0, a1, a2, a3] [(1, 1), (1, m (m a0 14) 93), (1, 93), (1, m a0 14)] m (ig, rl, m') := h
          have h := CR_iload_n h rfl
          have h : MR X ρ 4 0 0 qP222 N 85 [a0, a1, a2, a3] [(1, a2), (1, 1), (1, m (m a0 14) 93), (1, 93), (1, m a0 14)] m (ig, rl, m') := h
          have h := CR_ishl h rfl
          have h : MR X ρ 4 0 0 qP222 N 86 [a0, a1, a2, a3] [(1, jshl 1 a2), (1, m (m a0 14) 93), (1, 93), (1, m a0 14)] m (ig, rl, m') := h
          have h := CR_ixor h rfl
          have h : MR X ρ 4 0 0 qP222 N 87 [a0, a1, a2, a3] [(1, jxor (m (m a0 14) 93) (jshl 1 a2)), (1, 93), (1, m a0 14)] m (ig, rl, m') := h
          have h := CR_iastore_ h rfl
          have h : MR X ρ 4 0 0 qP222 N 88 [a0, a1, a2, a3] [] (mu m (m a0 14) 93 (s32 (jxor (m (m a0 14) 93) (jshl 1 a2)))) (ig, rl, m') := h
          have e := CR_end h rfl rfl
          cases e
          exact ⟨rfl, Eq.symm (show g222 m a0 a1 a2 a3 = _ from (if_neg c3).trans ((if_neg c9).trans ((if_neg c11).trans ((if_pos c13).trans (rfl)))))⟩
        ·
          rcases Decidable.em (a1 = 4) with c14 | c14
          ·
            have us2 : swt 1 (119) (0) (5) #[39, 46, 46, 74, 74, 88] a1 = some 75 := by rw [c14]; rfl
            have s2 := us2.symm.trans s2
            cases s2
            have h : MR X ρ 4 0 0 qP222 N 75 [a0, a1, a2, a3] [] m (ig, rl, m') := h
            have h := CR_aload_n h rfl
            have h : MR X ρ 4 0 0 qP222 N 76 [a0, a1, a2, a3] [(1, a0)] m (ig, rl, m') := h
            have h := CR_getf h rfl (by decide)
            have h : MR X ρ 4 0 0 qP222 N 79 [a0, a1, a2, a3] [(1, m a0 14)] m (ig, rl, m') := h
            have h := CR_bipush h rfl rfl
            have h : MR X ρ 4 0 0 qP222 N 81 [a0, a1, a2, a3] [(1, 93), (1, m a0 14)] m (ig, rl, m') := h
            have h := CR_dup2 h rfl
            have h : MR X ρ 4 0 0 qP222 N 82 [a0, a1, a2, a3] [(1, 93), (1, m a0 14), (1, 93), (1, m a0 14)] m (ig, rl, m') := h
            have h := CR_iaload h rfl rfl
            have h : MR X ρ 4 0 0 qP222 N 83 [a0, a1, a2, a3] [(1, m (m a0 14) 93), (1, 93), (1, m a0 14)] m (ig, rl, m') := h
            have h := CR_iconst h rfl rfl
            have h : MR X ρ 4 0 0 qP222 N 84 [a0, a1, a2, a3] [(1, 1), (1, m (m a0 14) 93), (1, 93), (1, m a0 14)] m (ig, rl, m') := h
            have h := CR_iload_n h rfl
            have h : MR X ρ 4 0 0 qP222 N 85 [a0, a1, a2, a3] [(1, a2), (1, 1), (1, m (m a0 14) 93), (1, 93), (1, m a0 14)] m (ig, rl, m') := h
            have h := CR_ishl h rfl
            have h : MR X ρ 4 0 0 qP222 N 86 [a0, a1, a2, a3] [(1, jshl 1 a2), (1, m (m a0 14) 93), (1, 93), (1, m a0 14)] m (ig, rl, m') := h
            have h := CR_ixor h rfl
            have h : MR X ρ 4 0 0 qP222 N 87 [a0, a1, a2, a3] [(1, jxor (m (m a0 14) 93) (jshl 1 a2)), (1, 93), (1, m a0 14)] m (ig, rl, m') := h
            have h := CR_iastore_ h rfl
            have h : MR X ρ 4 0 0 qP222 N 88 [a0, a1, a2, a3] [] (mu m (m a0 14) 93 (s32 (jxor (m (m a0 14) 93) (jshl 1 a2)))) (ig, rl, m') := h
            have e := CR_end h rfl rfl
            cases e
            exact ⟨rfl, Eq.symm (show g222 m a0 a1 a2 a3 = _ from (if_neg c3).trans ((if_neg c9).trans ((if_neg c11).trans ((if_neg c13).trans ((if_pos c14).trans (rfl))))))⟩
          ·
            rcases Decidable.em (a1 = 5) with c15 | c15
            ·
              have us2 : swt 1 (119) (0) (5) #[39, 46, 46, 74, 74, 88] a1 = some 89 := by rw [c15]; rfl
              have s2 := us2.symm.trans s2
              cases s2
              have h : MR X ρ 4 0 0 qP222 N 89 [a0, a1, a2, a3] [] m (ig, rl, m') := h
              have h := CR_aload_n h rfl
              have h : MR X ρ 4 0 0 qP222 N 90 [a0, a1, a2, a3] [(1, a0)] m (ig, rl, m') := h
              have h := CR_getf h rfl (by decide)
              have h : MR X ρ 4 0 0 qP222 N 93 [a0, a1, a2, a3] [(1, m a0 14)] m (ig, rl, m') := h
              have h := CR_sipush h rfl rfl
              have h : MR X ρ 4 0 0 qP222 N 96 [a0, a1, a2, a3] [(1, 182), (1, m a0 14)] m (ig, rl, m') := h
              have h := CR_iload_n h rfl
              have h : MR X ρ 4 0 0 qP222 N 97 [a0, a1, a2, a3] [(1, a2), (1, 182), (1, m a0 14)] m (ig, rl, m') := h
              have h := CR_iadd h rfl
              have h : MR X ρ 4 0 0 qP222 N 98 [a0, a1, a2, a3] [(1, s32 (182 + a2)), (1, m a0 14)] m (ig, rl, m') := h
              have h := CR_iconst h rfl rfl
              have h : MR X ρ 4 0 0 qP222 N 99 [a0, a1, a2, a3] [(1, 3), (1, s32 (182 + a2)), (1, m a0 14)] m (ig, rl, m') := h
              have h := CR_iastore_ h rfl
              have h : MR X ρ 4 0 0 qP222 N 100 [a0, a1, a2, a3] [] (mu m (m a0 14) (s32 (182 + a2)) (s32 3)) (ig, rl, m') := h
              have h := CR_aload_n h rfl
              have h : MR X ρ 4 0 0 qP222 N 101 [a0, a1, a2, a3] [(1, a0)] (mu m (m a0 14) (s32 (182 + a2)) (s32 3)) (ig, rl, m') := h
              have h := CR_getf h rfl (by decide)
              have h : MR X ρ 4 0 0 qP222 N 104 [a0, a1, a2, a3] [(1, (mu m (m a0 14) (s32 (182 + a2)) (s32 3)) a0 14)] (mu m (m a0 14) (s32 (182 + a2)) (s32 3)) (ig, rl, m') := h
              have h := CR_sipush h rfl rfl
              have h : MR X ρ 4 0 0 qP222 N 107 [a0, a1, a2, a3] [(1, 190), (1, (mu m (m a0 14) (s32 (182 + a2)) (s32 3)) a0 14)] (mu m (m a0 14) (s32 (182 + a2)) (s32 3)) (ig, rl, m') := h
              have h := CR_iload_n h rfl
              have h : MR X ρ 4 0 0 qP222 N 108 [a0, a1, a2, a3] [(1, a2), (1, 190), (1, (mu m (m a0 14) (s32 (182 + a2)) (s32 3)) a0 14)] (mu m (m a0 14) (s32 (182 + a2)) (s32 3)) (ig, rl, m') := h
              have h := CR_iadd h rfl
              have h : MR X ρ 4 0 0 qP222 N 109 [a0, a1, a2, a3] [(1, s32 (190 + a2)), (1, (mu m (m a0 14) (s32 (182 + a2)) (s32 3)) a0 14)] (mu m (m a0 14) (s32 (182 + a2)) (s32 3)) (ig, rl, m') := h
              have h := CR_aload_n h rfl
              have h : MR X ρ 4 0 0 qP222 N 110 [a0, a1, a2, a3] [(1, a0), (1, s32 (190 + a2)), (1, (mu m (m a0 14) (s32 (182 + a2)) (s32 3)) a0 14)] (mu m (m a0 14) (s32 (182 + a2)) (s32 3)) (ig, rl, m') := h
              have h := CR_getf h rfl (by decide)
              have h : MR X ρ 4 0 0 qP222 N 113 [a0, a1, a2, a3] [(1, (mu m (m a0 14) (s32 (182 + a2)) (s32 3)) a0 14), (1, s32 (190 + a2)), (1, (mu m (m a0 14) (s32 (182 + a2)) (s32 3)) a0 14)] (mu m (m a0 14) (s32 (182 + a2)) (s32 3)) (ig, rl, m') := h
              have h := CR_bipush h rfl rfl
              have h : MR X ρ 4 0 0 qP222 N 115 [a0, a1, a2, a3] [(1, 84), (1, (mu m (m a0 14) (s32 (182 + a2)) (s32 3)) a0 14), (1, s32 (190 + a2)), (1, (mu m (m a0 14) (s32 (182 + a2)) (s32 3)) a0 14)] (mu m (m a0 14) (s32 (182 + a2)) (s32 3)) (ig, rl, m') := h
              have h := CR_iload_n h rfl
              have h : MR X ρ 4 0 0 qP222 N 116 [a0, a1, a2, a3] [(1, a2), (1, 84), (1, (mu m (m a0 14) (s32 (182 + a2)) (s32 3)) a0 14), (1, s32 (190 + a2)), (1, (mu m (m a0 14) (s32 (182 + a2)) (s32 3)) a0 14)] (mu m (m a0 14) (s32 (182 + a2)) (s32 3)) (ig, rl, m') := h
              have h := CR_iadd h rfl
              have h : MR X ρ 4 0 0 qP222 N 117 [a0, a1, a2, a3] [(1, s32 (84 + a2)), (1, (mu m (m a0 14) (s32 (182 + a2)) (s32 3)) a0 14), (1, s32 (190 + a2)), (1, (mu m (m a0 14) (s32 (182 + a2)) (s32 3)) a0 14)] (mu m (m a0 14) (s32 (182 + a2)) (s32 3)) (ig, rl, m') := h
              have h := CR_iaload h rfl rfl
              have h : MR X ρ 4 0 0 qP222 N 118 [a0, a1, a2, a3] [(1, (mu m (m a0 14) (s32 (182 + a2)) (s32 3)) ((mu m (m a0 14) (s32 (182 + a2)) (s32 3)) a0 14) (s32 (84 + a2))), (1, s32 (190 + a2)), (1, (mu m (m a0 14) (s32 (182 + a2)) (s32 3)) a0 14)] (mu m (m a0 14) (s32 (182 + a2)) (s32 3)) (ig, rl, m') := h
              have h := CR_iastore_ h rfl
              have h : MR X ρ 4 0 0 qP222 N 119 [a0, a1, a2, a3] [] (mu (mu m (m a0 14) (s32 (182 + a2)) (s32 3)) ((mu m (m a0 14) (s32 (182 + a2)) (s32 3)) a0 14) (s32 (190 + a2)) (s32 ((mu m (m a0 14) (s32 (182 + a2)) (s32 3)) ((mu m (m a0 14) (s32 (182 + a2)) (s32 3)) a0 14) (s32 (84 + a2))))) (ig, rl, m') := h
              have e := CR_end h rfl rfl
              cases e
              exact ⟨rfl, Eq.symm (show g222 m a0 a1 a2 a3 = _ from (if_neg c3).trans ((if_neg c9).trans ((if_neg c11).trans ((if_neg c13).trans ((if_neg c14).trans ((if_pos c15).trans (rfl)))))))⟩
            ·
              have us2 := swt_d (pc := 1) (dflt := 119) (lw := 0) (hg := 5) (offs := #[39, 46, 46, 74, 74, 88]) (t := 120) (e := a1) (by omega) rfl
              have s2 := us2.symm.trans s2
              cases s2
              have h : MR X ρ 4 0 0 qP222 N 120 [a0, a1, a2, a3] [] m (ig, rl, m') := h
              have h := CR_aload_n h rfl
              have h : MR X ρ 4 0 0 qP222 N 121 [a0, a1, a2, a3] [(1, a0)] m (ig, rl, m') := h
              have h := CR_iload_n h rfl
              have h : MR X ρ 4 0 0 qP222 N 122 [a0, a1, a2, a3] [(1, a2), (1, a0)] m (ig, rl, m') := h
              obtain ⟨r16, m17, q18, h⟩ := MR_invV h rfl rfl
              have q18 : Run X ρ 232 [(1, a0), (1, a2)] m r16 m17 := q18
              obtain ⟨e19, e20⟩ := d232 q18
              rw [e19, e20] at h
              have h : MR X ρ 4 0 0 qP222 N 125 [a0, a1, a2, a3] [] (g232 m a0 a2) (ig, rl, m') := h
              have e := CR_end h rfl rfl
              cases e
              exact ⟨rfl, Eq.symm (show g222 m a0 a1 a2 a3 = _ from (if_neg c3).trans ((if_neg c9).trans ((if_neg c11).trans ((if_neg c13).trans ((if_neg c14).trans ((if_neg c15).trans (rfl)))))))⟩
set_option maxRecDepth 16384 in
/-- TriplicateFormsModel.stay(Z)V, the loop at 2 -/
noncomputable def S281_2 (m : MM) (b0 b1 b2 b3 : Int) : (Int × Int × MM) ⊕ (Nat × Int × (Int × Int × MM)) := (if 122 ≤ b2 then .inr (1, 0, (b2, b3, m)) else .inl (s32 (b2 + 1), m (m b0 14) (s32 (92 + b2)), mu (mu m (m b0 14) (s32 (92 + b2)) (s32 (m (m b0 18) b2))) ((mu m (m b0 14) (s32 (92 + b2)) (s32 (m (m b0 18) b2))) b0 18) b2 (s32 (m (m b0 14) (s32 (92 + b2))))))
set_option maxRecDepth 16384 in
noncomputable def K281_2 (m : MM) (b0 b1 b2 b3 : Int) : (Int × Int × MM) → (Int × Int × MM) ⊕ (Nat × Int × (Int × Int × MM)) := fun s => S281_2 s.2.2 b0 b1 s.1 s.2.1
set_option maxRecDepth 16384 in
noncomputable def L281_2 (m : MM) (b0 b1 b2 b3 : Int) : (Nat × Int × (Int × Int × MM)) := Lp (K281_2 m b0 b1 b2 b3) (b2, b3, m)
set_option maxRecDepth 16384 in
theorem l281_2 {X : KO} {ρ : Nat → Int32} {o : Instr × List (Nat × Int) × MM} {K : Nat} : ∀ {N : Nat} {m : MM} {b0 b1 b2 b3 : Int}, N ≤ K → MR X ρ 4 0 0 qP281 N 2 [b0, b1, b2, b3] [] m o → (MR X ρ 4 0 0 qP281 K 46 [b0, b1, (L281_2 m b0 b1 b2 b3).2.2.1, (L281_2 m b0 b1 b2 b3).2.2.2.1] [] ((L281_2 m b0 b1 b2 b3).2.2.2.2) o) := by
  intro N
  induction N using Nat.strongRecOn with
  | ind N ih =>
  intro m b0 b1 b2 b3 hK h
  have h := CR_iload_n h rfl
  have h : MR X ρ 4 0 0 qP281 N 3 [b0, b1, b2, b3] [(1, b2)] m o := h
  have h := CR_bipush h rfl rfl
  have h : MR X ρ 4 0 0 qP281 N 5 [b0, b1, b2, b3] [(1, 122), (1, b2)] m o := h
  rcases MR_icmp h rfl rfl with ⟨c1, h⟩ | ⟨c1, h⟩
  ·
    have c1 : 122 ≤ b2 := c1
    have h : MR X ρ 4 0 0 qP281 N 46 [b0, b1, b2, b3] [] m o := h
    have hr : L281_2 m b0 b1 b2 b3 = (1, 0, (b2, b3, m)) := Lp_inr (f := K281_2 m b0 b1 b2 b3) (s := (b2, b3, m)) ((if_pos c1).trans (rfl))
    rw [hr]
    exact CR_le (by omega) h
  ·
    have c1 : ¬ (122 ≤ b2) := c1
    have h : MR X ρ 4 0 0 qP281 N 8 [b0, b1, b2, b3] [] m o := h
    have h := CR_aload_n h rfl
    have h : MR X ρ 4 0 0 qP281 N 9 [b0, b1, b2, b3] [(1, b0)] m o := h
    have h := CR_getf h rfl (by decide)
    have h : MR X ρ 4 0 0 qP281 N 12 [b0, b1, b2, b3] [(1, m b0 14)] m o := h
    have h := CR_bipush h rfl rfl
    have h : MR X ρ 4 0 0 qP281 N 14 [b0, b1, b2, b3] [(1, 92), (1, m b0 14)] m o := h
    have h := CR_iload_n h rfl
    have h : MR X ρ 4 0 0 qP281 N 15 [b0, b1, b2, b3] [(1, b2), (1, 92), (1, m b0 14)] m o := h
    have h := CR_iadd h rfl
    have h : MR X ρ 4 0 0 qP281 N 16 [b0, b1, b2, b3] [(1, s32 (92 + b2)), (1, m b0 14)] m o := h
    have h := CR_iaload h rfl rfl
    have h : MR X ρ 4 0 0 qP281 N 17 [b0, b1, b2, b3] [(1, m (m b0 14) (s32 (92 + b2)))] m o := h
    have h := CR_istore_n h rfl (Nat.le_of_ble_eq_true rfl)
    have h : MR X ρ 4 0 0 qP281 N 18 [b0, b1, b2, m (m b0 14) (s32 (92 + b2))] [] m o := h
    have h := CR_aload_n h rfl
    have h : MR X ρ 4 0 0 qP281 N 19 [b0, b1, b2, m (m b0 14) (s32 (92 + b2))] [(1, b0)] m o := h
    have h := CR_getf h rfl (by decide)
    have h : MR X ρ 4 0 0 qP281 N 22 [b0, b1, b2, m (m b0 14) (s32 (92 + b2))] [(1, m b0 14)] m o := h
    have h := CR_bipush h rfl rfl
    have h : MR X ρ 4 0 0 qP281 N 24 [b0, b1, b2, m (m b0 14) (s32 (92 + b2))] [(1, 92), (1, m b0 14)] m o := h
    have h := CR_iload_n h rfl
    have h : MR X ρ 4 0 0 qP281 N 25 [b0, b1, b2, m (m b0 14) (s32 (92 + b2))] [(1, b2), (1, 92), (1, m b0 14)] m o := h
    have h := CR_iadd h rfl
    have h : MR X ρ 4 0 0 qP281 N 26 [b0, b1, b2, m (m b0 14) (s32 (92 + b2))] [(1, s32 (92 + b2)), (1, m b0 14)] m o := h
    have h := CR_aload_n h rfl
    have h : MR X ρ 4 0 0 qP281 N 27 [b0, b1, b2, m (m b0 14) (s32 (92 + b2))] [(1, b0), (1, s32 (92 + b2)), (1, m b0 14)] m o := h
    have h := CR_getf h rfl (by decide)
    have h : MR X ρ 4 0 0 qP281 N 30 [b0, b1, b2, m (m b0 14) (s32 (92 + b2))] [(1, m b0 18), (1, s32 (92 + b2)), (1, m b0 14)] m o := h
    have h := CR_iload_n h rfl
    have h : MR X ρ 4 0 0 qP281 N 31 [b0, b1, b2, m (m b0 14) (s32 (92 + b2))] [(1, b2), (1, m b0 18), (1, s32 (92 + b2)), (1, m b0 14)] m o := h
    have h := CR_iaload h rfl rfl
    have h : MR X ρ 4 0 0 qP281 N 32 [b0, b1, b2, m (m b0 14) (s32 (92 + b2))] [(1, m (m b0 18) b2), (1, s32 (92 + b2)), (1, m b0 14)] m o := h
    have h := CR_iastore_ h rfl
    have h : MR X ρ 4 0 0 qP281 N 33 [b0, b1, b2, m (m b0 14) (s32 (92 + b2))] [] (mu m (m b0 14) (s32 (92 + b2)) (s32 (m (m b0 18) b2))) o := h
    have h := CR_aload_n h rfl
    have h : MR X ρ 4 0 0 qP281 N 34 [b0, b1, b2, m (m b0 14) (s32 (92 + b2))] [(1, b0)] (mu m (m b0 14) (s32 (92 + b2)) (s32 (m (m b0 18) b2))) o := h
    have h := CR_getf h rfl (by decide)
    have h : MR X ρ 4 0 0 qP281 N 37 [b0, b1, b2, m (m b0 14) (s32 (92 + b2))] [(1, (mu m (m b0 14) (s32 (92 + b2)) (s32 (m (m b0 18) b2))) b0 18)] (mu m (m b0 14) (s32 (92 + b2)) (s32 (m (m b0 18) b2))) o := h
    have h := CR_iload_n h rfl
    have h : MR X ρ 4 0 0 qP281 N 38 [b0, b1, b2, m (m b0 14) (s32 (92 + b2))] [(1, b2), (1, (mu m (m b0 14) (s32 (92 + b2)) (s32 (m (m b0 18) b2))) b0 18)] (mu m (m b0 14) (s32 (92 + b2)) (s32 (m (m b0 18) b2))) o := h
    have h := CR_iload_n h rfl
    have h : MR X ρ 4 0 0 qP281 N 39 [b0, b1, b2, m (m b0 14) (s32 (92 + b2))] [(1, m (m b0 14) (s32 (92 + b2))), (1, b2), (1, (mu m (m b0 14) (s32 (92 + b2)) (s32 (m (m b0 18) b2))) b0 18)] (mu m (m b0 14) (s32 (92 + b2)) (s32 (m (m b0 18) b2))) o := h
    have h := CR_iastore_ h rfl
    have h : MR X ρ 4 0 0 qP281 N 40 [b0, b1, b2, m (m b0 14) (s32 (92 + b2))] [] (mu (mu m (m b0 14) (s32 (92 + b2)) (s32 (m (m b0 18) b2))) ((mu m (m b0 14) (s32 (92 + b2)) (s32 (m (m b0 18) b2))) b0 18) b2 (s32 (m (m b0 14) (s32 (92 + b2))))) o := h
    have h := CR_inc h rfl (Nat.le_of_ble_eq_true rfl)
    have h : MR X ρ 4 0 0 qP281 N 43 [b0, b1, s32 (b2 + 1), m (m b0 14) (s32 (92 + b2))] [] (mu (mu m (m b0 14) (s32 (92 + b2)) (s32 (m (m b0 18) b2))) ((mu m (m b0 14) (s32 (92 + b2)) (s32 (m (m b0 18) b2))) b0 18) b2 (s32 (m (m b0 14) (s32 (92 + b2))))) o := h
    obtain ⟨N2, eN2, h⟩ := CR_goto h rfl rfl
    have h : MR X ρ 4 0 0 qP281 N2 2 [b0, b1, s32 (b2 + 1), m (m b0 14) (s32 (92 + b2))] [] (mu (mu m (m b0 14) (s32 (92 + b2)) (s32 (m (m b0 18) b2))) ((mu m (m b0 14) (s32 (92 + b2)) (s32 (m (m b0 18) b2))) b0 18) b2 (s32 (m (m b0 14) (s32 (92 + b2))))) o := h
    have hr : L281_2 m b0 b1 b2 b3 = L281_2 (mu (mu m (m b0 14) (s32 (92 + b2)) (s32 (m (m b0 18) b2))) ((mu m (m b0 14) (s32 (92 + b2)) (s32 (m (m b0 18) b2))) b0 18) b2 (s32 (m (m b0 14) (s32 (92 + b2))))) b0 b1 (s32 (b2 + 1)) (m (m b0 14) (s32 (92 + b2))) := Lp_inl (f := K281_2 m b0 b1 b2 b3) (s := (b2, b3, m)) (s' := (s32 (b2 + 1), m (m b0 14) (s32 (92 + b2)), mu (mu m (m b0 14) (s32 (92 + b2)) (s32 (m (m b0 18) b2))) ((mu m (m b0 14) (s32 (92 + b2)) (s32 (m (m b0 18) b2))) b0 18) b2 (s32 (m (m b0 14) (s32 (92 + b2)))))) ((if_neg c1).trans (rfl))
    rw [hr]
    exact ih N2 (by omega) (by omega) h
set_option maxRecDepth 16384 in
/-- TriplicateFormsModel.stay(Z)V -/
noncomputable def g281 (m : MM) (a0 a1 : Int) : MM := (if a1 = 0 then (L281_2 m a0 a1 0 0).2.2.2.2 else g284 (g276 ((L281_2 m a0 a1 0 0).2.2.2.2) a0) a0)
set_option maxRecDepth 16384 in
theorem d281 {X : KO} {ρ : Nat → Int32} {m m' : MM} {rl : List (Nat × Int)} {a0 a1 : Int} (h : Run X ρ 281 [(1, a0), (1, a1)] m rl m') : rl = [] ∧ m' = g281 m a0 a1 := by
  obtain ⟨N, ig, h⟩ := Run_CR h rfl
  have h : MR X ρ 4 0 0 qP281 N 0 [a0, a1, 0, 0] [] m (ig, rl, m') := h
  have h := CR_iconst h rfl rfl
  have h : MR X ρ 4 0 0 qP281 N 1 [a0, a1, 0, 0] [(1, 0)] m (ig, rl, m') := h
  have h := CR_istore_n h rfl (Nat.le_of_ble_eq_true rfl)
  have h : MR X ρ 4 0 0 qP281 N 2 [a0, a1, 0, 0] [] m (ig, rl, m') := h
  have h := l281_2 (Nat.le_refl _) h
  have h : MR X ρ 4 0 0 qP281 N 46 [a0, a1, (L281_2 m a0 a1 0 0).2.2.1, (L281_2 m a0 a1 0 0).2.2.2.1] [] ((L281_2 m a0 a1 0 0).2.2.2.2) (ig, rl, m') := h
  have h := CR_iload_n h rfl
  have h : MR X ρ 4 0 0 qP281 N 47 [a0, a1, (L281_2 m a0 a1 0 0).2.2.1, (L281_2 m a0 a1 0 0).2.2.2.1] [(1, a1)] ((L281_2 m a0 a1 0 0).2.2.2.2) (ig, rl, m') := h
  rcases MR_if h rfl rfl with ⟨c1, h⟩ | ⟨c1, h⟩
  ·
    have c1 : ¬ (a1 = 0) := c1
    have h : MR X ρ 4 0 0 qP281 N 51 [a0, a1, (L281_2 m a0 a1 0 0).2.2.1, (L281_2 m a0 a1 0 0).2.2.2.1] [] ((L281_2 m a0 a1 0 0).2.2.2.2) (ig, rl, m') := h
    have h := CR_aload_n h rfl
    have h : MR X ρ 4 0 0 qP281 N 52 [a0, a1, (L281_2 m a0 a1 0 0).2.2.1, (L281_2 m a0 a1 0 0).2.2.2.1] [(1, a0)] ((L281_2 m a0 a1 0 0).2.2.2.2) (ig, rl, m') := h
    obtain ⟨r2, m3, q4, h⟩ := MR_invV h rfl rfl
    have q4 : Run X ρ 276 [(1, a0)] ((L281_2 m a0 a1 0 0).2.2.2.2) r2 m3 := q4
    obtain ⟨e5, e6⟩ := d276 q4
    rw [e5, e6] at h
    have h : MR X ρ 4 0 0 qP281 N 55 [a0, a1, (L281_2 m a0 a1 0 0).2.2.1, (L281_2 m a0 a1 0 0).2.2.2.1] [] (g276 ((L281_2 m a0 a1 0 0).2.2.2.2) a0) (ig, rl, m') := h
    have h := CR_aload_n h rfl
    have h : MR X ρ 4 0 0 qP281 N 56 [a0, a1, (L281_2 m a0 a1 0 0).2.2.1, (L281_2 m a0 a1 0 0).2.2.2.1] [(1, a0)] (g276 ((L281_2 m a0 a1 0 0).2.2.2.2) a0) (ig, rl, m') := h
    obtain ⟨r7, m8, q9, h⟩ := MR_invV h rfl rfl
    have q9 : Run X ρ 284 [(1, a0)] (g276 ((L281_2 m a0 a1 0 0).2.2.2.2) a0) r7 m8 := q9
    obtain ⟨e10, e11⟩ := d284 q9
    rw [e10, e11] at h
    have h : MR X ρ 4 0 0 qP281 N 59 [a0, a1, (L281_2 m a0 a1 0 0).2.2.1, (L281_2 m a0 a1 0 0).2.2.2.1] [] (g284 (g276 ((L281_2 m a0 a1 0 0).2.2.2.2) a0) a0) (ig, rl, m') := h
    have e := CR_end h rfl rfl
    cases e
    exact ⟨rfl, Eq.symm (show g281 m a0 a1 = _ from (if_neg c1).trans (rfl))⟩
  ·
    have c1 : a1 = 0 := Decidable.of_not_not (show ¬ ¬ (a1 = 0) from c1)
    have h : MR X ρ 4 0 0 qP281 N 50 [a0, a1, (L281_2 m a0 a1 0 0).2.2.1, (L281_2 m a0 a1 0 0).2.2.2.1] [] ((L281_2 m a0 a1 0 0).2.2.2.2) (ig, rl, m') := h
    have e := CR_end h rfl rfl
    cases e
    exact ⟨rfl, Eq.symm (show g281 m a0 a1 = _ from (if_pos c1).trans (rfl))⟩
set_option maxRecDepth 16384 in
/-- TriplicateForms.attempt(III)I -/
noncomputable def f1 (m : MM) (a0 a1 a2 a3 : Int) : Int := (if (f146 m (m a0 3) a1 a2 a3) = 0 then f146 m (m a0 3) a1 a2 a3 else f146 m (m a0 3) a1 a2 a3)
set_option maxRecDepth 16384 in
noncomputable def g1 (m : MM) (a0 a1 a2 a3 : Int) : MM := (if (f146 m (m a0 3) a1 a2 a3) = 0 then g135 (g162 m (m a0 5) (m a0 3)) ((g162 m (m a0 5) (m a0 3)) a0 3) a1 a2 a3 else m)
set_option maxRecDepth 16384 in
theorem d1 {X : KO} {ρ : Nat → Int32} {m m' : MM} {rl : List (Nat × Int)} {a0 a1 a2 a3 : Int} (h : Run X ρ 1 [(1, a0), (1, a1), (1, a2), (1, a3)] m rl m') : rl = [(1, f1 m a0 a1 a2 a3)] ∧ m' = g1 m a0 a1 a2 a3 := by
  obtain ⟨N, ig, h⟩ := Run_CR h rfl
  have h : MR X ρ 5 0 0 qP1 N 0 [a0, a1, a2, a3, 0] [] m (ig, rl, m') := h
  have h := CR_aload_n h rfl
  have h : MR X ρ 5 0 0 qP1 N 1 [a0, a1, a2, a3, 0] [(1, a0)] m (ig, rl, m') := h
  have h := CR_getf h rfl (by decide)
  have h : MR X ρ 5 0 0 qP1 N 4 [a0, a1, a2, a3, 0] [(1, m a0 3)] m (ig, rl, m') := h
  have h := CR_iload_n h rfl
  have h : MR X ρ 5 0 0 qP1 N 5 [a0, a1, a2, a3, 0] [(1, a1), (1, m a0 3)] m (ig, rl, m') := h
  have h := CR_iload_n h rfl
  have h : MR X ρ 5 0 0 qP1 N 6 [a0, a1, a2, a3, 0] [(1, a2), (1, a1), (1, m a0 3)] m (ig, rl, m') := h
  have h := CR_iload_n h rfl
  have h : MR X ρ 5 0 0 qP1 N 7 [a0, a1, a2, a3, 0] [(1, a3), (1, a2), (1, a1), (1, m a0 3)] m (ig, rl, m') := h
  obtain ⟨r1, m2, q3, h⟩ := MR_invV h rfl rfl
  have q3 : Run X ρ 146 [(1, m a0 3), (1, a1), (1, a2), (1, a3)] m r1 m2 := q3
  obtain ⟨e4, e5⟩ := d146 q3
  rw [e4, e5] at h
  have h : MR X ρ 5 0 0 qP1 N 10 [a0, a1, a2, a3, 0] [(1, f146 m (m a0 3) a1 a2 a3)] m (ig, rl, m') := h
  have h := CR_istore h rfl (Nat.le_of_ble_eq_true rfl)
  have h : MR X ρ 5 0 0 qP1 N 12 [a0, a1, a2, a3, f146 m (m a0 3) a1 a2 a3] [] m (ig, rl, m') := h
  have h := CR_iload h rfl
  have h : MR X ρ 5 0 0 qP1 N 14 [a0, a1, a2, a3, f146 m (m a0 3) a1 a2 a3] [(1, f146 m (m a0 3) a1 a2 a3)] m (ig, rl, m') := h
  rcases MR_if h rfl rfl with ⟨c6, h⟩ | ⟨c6, h⟩
  ·
    have c6 : ¬ ((f146 m (m a0 3) a1 a2 a3) = 0) := c6
    have h : MR X ρ 5 0 0 qP1 N 38 [a0, a1, a2, a3, f146 m (m a0 3) a1 a2 a3] [] m (ig, rl, m') := h
    have h := CR_iload h rfl
    have h : MR X ρ 5 0 0 qP1 N 40 [a0, a1, a2, a3, f146 m (m a0 3) a1 a2 a3] [(1, f146 m (m a0 3) a1 a2 a3)] m (ig, rl, m') := h
    have e := CR_end h rfl rfl
    cases e
    exact ⟨congrArg (fun z => [(1, z)]) (Eq.symm (show f1 m a0 a1 a2 a3 = _ from (if_neg c6).trans (rfl))), Eq.symm (show g1 m a0 a1 a2 a3 = _ from (if_neg c6).trans (rfl))⟩
  ·
    have c6 : (f146 m (m a0 3) a1 a2 a3) = 0 := Decidable.of_not_not (show ¬ ¬ ((f146 m (m a0 3) a1 a2 a3) = 0) from c6)
    have h : MR X ρ 5 0 0 qP1 N 17 [a0, a1, a2, a3, f146 m (m a0 3) a1 a2 a3] [] m (ig, rl, m') := h
    have h := CR_aload_n h rfl
    have h : MR X ρ 5 0 0 qP1 N 18 [a0, a1, a2, a3, f146 m (m a0 3) a1 a2 a3] [(1, a0)] m (ig, rl, m') := h
    have h := CR_getf h rfl (by decide)
    have h : MR X ρ 5 0 0 qP1 N 21 [a0, a1, a2, a3, f146 m (m a0 3) a1 a2 a3] [(1, m a0 5)] m (ig, rl, m') := h
    have h := CR_aload_n h rfl
    have h : MR X ρ 5 0 0 qP1 N 22 [a0, a1, a2, a3, f146 m (m a0 3) a1 a2 a3] [(1, a0), (1, m a0 5)] m (ig, rl, m') := h
    have h := CR_getf h rfl (by decide)
    have h : MR X ρ 5 0 0 qP1 N 25 [a0, a1, a2, a3, f146 m (m a0 3) a1 a2 a3] [(1, m a0 3), (1, m a0 5)] m (ig, rl, m') := h
    obtain ⟨r7, m8, q9, h⟩ := MR_invV h rfl rfl
    have q9 : Run X ρ 162 [(1, m a0 5), (1, m a0 3)] m r7 m8 := q9
    obtain ⟨e10, e11⟩ := d162 q9
    rw [e10, e11] at h
    have h : MR X ρ 5 0 0 qP1 N 28 [a0, a1, a2, a3, f146 m (m a0 3) a1 a2 a3] [] (g162 m (m a0 5) (m a0 3)) (ig, rl, m') := h
    have h := CR_aload_n h rfl
    have h : MR X ρ 5 0 0 qP1 N 29 [a0, a1, a2, a3, f146 m (m a0 3) a1 a2 a3] [(1, a0)] (g162 m (m a0 5) (m a0 3)) (ig, rl, m') := h
    have h := CR_getf h rfl (by decide)
    have h : MR X ρ 5 0 0 qP1 N 32 [a0, a1, a2, a3, f146 m (m a0 3) a1 a2 a3] [(1, (g162 m (m a0 5) (m a0 3)) a0 3)] (g162 m (m a0 5) (m a0 3)) (ig, rl, m') := h
    have h := CR_iload_n h rfl
    have h : MR X ρ 5 0 0 qP1 N 33 [a0, a1, a2, a3, f146 m (m a0 3) a1 a2 a3] [(1, a1), (1, (g162 m (m a0 5) (m a0 3)) a0 3)] (g162 m (m a0 5) (m a0 3)) (ig, rl, m') := h
    have h := CR_iload_n h rfl
    have h : MR X ρ 5 0 0 qP1 N 34 [a0, a1, a2, a3, f146 m (m a0 3) a1 a2 a3] [(1, a2), (1, a1), (1, (g162 m (m a0 5) (m a0 3)) a0 3)] (g162 m (m a0 5) (m a0 3)) (ig, rl, m') := h
    have h := CR_iload_n h rfl
    have h : MR X ρ 5 0 0 qP1 N 35 [a0, a1, a2, a3, f146 m (m a0 3) a1 a2 a3] [(1, a3), (1, a2), (1, a1), (1, (g162 m (m a0 5) (m a0 3)) a0 3)] (g162 m (m a0 5) (m a0 3)) (ig, rl, m') := h
    obtain ⟨r12, m13, q14, h⟩ := MR_invV h rfl rfl
    have q14 : Run X ρ 135 [(1, (g162 m (m a0 5) (m a0 3)) a0 3), (1, a1), (1, a2), (1, a3)] (g162 m (m a0 5) (m a0 3)) r12 m13 := q14
    obtain ⟨e15, e16⟩ := d135 q14
    rw [e15, e16] at h
    have h : MR X ρ 5 0 0 qP1 N 38 [a0, a1, a2, a3, f146 m (m a0 3) a1 a2 a3] [] (g135 (g162 m (m a0 5) (m a0 3)) ((g162 m (m a0 5) (m a0 3)) a0 3) a1 a2 a3) (ig, rl, m') := h
    have h := CR_iload h rfl
    have h : MR X ρ 5 0 0 qP1 N 40 [a0, a1, a2, a3, f146 m (m a0 3) a1 a2 a3] [(1, f146 m (m a0 3) a1 a2 a3)] (g135 (g162 m (m a0 5) (m a0 3)) ((g162 m (m a0 5) (m a0 3)) a0 3) a1 a2 a3) (ig, rl, m') := h
    have e := CR_end h rfl rfl
    cases e
    exact ⟨congrArg (fun z => [(1, z)]) (Eq.symm (show f1 m a0 a1 a2 a3 = _ from (if_pos c6).trans (rfl))), Eq.symm (show g1 m a0 a1 a2 a3 = _ from (if_pos c6).trans (rfl))⟩
set_option maxRecDepth 16384 in
/-- TriplicateForms.back(I)I -/
noncomputable def f2 (m : MM) (a0 a1 : Int) : Int := (if (f73 m (m a0 1) a1) = 0 then -1 else f1 m a0 4 a1 0)
set_option maxRecDepth 16384 in
noncomputable def g2 (m : MM) (a0 a1 : Int) : MM := (if (f73 m (m a0 1) a1) = 0 then m else g1 m a0 4 a1 0)
set_option maxRecDepth 16384 in
theorem d2 {X : KO} {ρ : Nat → Int32} {m m' : MM} {rl : List (Nat × Int)} {a0 a1 : Int} (h : Run X ρ 2 [(1, a0), (1, a1)] m rl m') : rl = [(1, f2 m a0 a1)] ∧ m' = g2 m a0 a1 := by
  obtain ⟨N, ig, h⟩ := Run_CR h rfl
  have h : MR X ρ 2 0 0 qP2 N 0 [a0, a1] [] m (ig, rl, m') := h
  have h := CR_aload_n h rfl
  have h : MR X ρ 2 0 0 qP2 N 1 [a0, a1] [(1, a0)] m (ig, rl, m') := h
  have h := CR_getf h rfl (by decide)
  have h : MR X ρ 2 0 0 qP2 N 4 [a0, a1] [(1, m a0 1)] m (ig, rl, m') := h
  have h := CR_iload_n h rfl
  have h : MR X ρ 2 0 0 qP2 N 5 [a0, a1] [(1, a1), (1, m a0 1)] m (ig, rl, m') := h
  obtain ⟨r1, m2, q3, h⟩ := MR_invV h rfl rfl
  have q3 : Run X ρ 73 [(1, m a0 1), (1, a1)] m r1 m2 := q3
  obtain ⟨e4, e5⟩ := d73 q3
  rw [e4, e5] at h
  have h : MR X ρ 2 0 0 qP2 N 8 [a0, a1] [(1, f73 m (m a0 1) a1)] m (ig, rl, m') := h
  rcases MR_if h rfl rfl with ⟨c6, h⟩ | ⟨c6, h⟩
  ·
    have c6 : (f73 m (m a0 1) a1) = 0 := c6
    have h : MR X ρ 2 0 0 qP2 N 21 [a0, a1] [] m (ig, rl, m') := h
    have h := CR_iconst h rfl rfl
    have h : MR X ρ 2 0 0 qP2 N 22 [a0, a1] [(1, -1)] m (ig, rl, m') := h
    have e := CR_end h rfl rfl
    cases e
    exact ⟨congrArg (fun z => [(1, z)]) (Eq.symm (show f2 m a0 a1 = _ from (if_pos c6).trans (rfl))), Eq.symm (show g2 m a0 a1 = _ from (if_pos c6).trans (rfl))⟩
  ·
    have c6 : ¬ ((f73 m (m a0 1) a1) = 0) := c6
    have h : MR X ρ 2 0 0 qP2 N 11 [a0, a1] [] m (ig, rl, m') := h
    have h := CR_aload_n h rfl
    have h : MR X ρ 2 0 0 qP2 N 12 [a0, a1] [(1, a0)] m (ig, rl, m') := h
    have h := CR_iconst h rfl rfl
    have h : MR X ρ 2 0 0 qP2 N 13 [a0, a1] [(1, 4), (1, a0)] m (ig, rl, m') := h
    have h := CR_iload_n h rfl
    have h : MR X ρ 2 0 0 qP2 N 14 [a0, a1] [(1, a1), (1, 4), (1, a0)] m (ig, rl, m') := h
    have h := CR_iconst h rfl rfl
    have h : MR X ρ 2 0 0 qP2 N 15 [a0, a1] [(1, 0), (1, a1), (1, 4), (1, a0)] m (ig, rl, m') := h
    obtain ⟨r7, m8, q9, h⟩ := MR_invV h rfl rfl
    have q9 : Run X ρ 1 [(1, a0), (1, 4), (1, a1), (1, 0)] m r7 m8 := q9
    obtain ⟨e10, e11⟩ := d1 q9
    rw [e10, e11] at h
    have h : MR X ρ 2 0 0 qP2 N 18 [a0, a1] [(1, f1 m a0 4 a1 0)] (g1 m a0 4 a1 0) (ig, rl, m') := h
    have h := CR_go h rfl rfl
    have h : MR X ρ 2 0 0 qP2 N 22 [a0, a1] [(1, f1 m a0 4 a1 0)] (g1 m a0 4 a1 0) (ig, rl, m') := h
    have e := CR_end h rfl rfl
    cases e
    exact ⟨congrArg (fun z => [(1, z)]) (Eq.symm (show f2 m a0 a1 = _ from (if_neg c6).trans (rfl))), Eq.symm (show g2 m a0 a1 = _ from (if_neg c6).trans (rfl))⟩
set_option maxRecDepth 16384 in
/-- TriplicateForms.cancel(I)I -/
noncomputable def f6 (m : MM) (a0 a1 : Int) : Int := (if (f72 m (m a0 1) a1) = 0 then -1 else f1 m a0 5 a1 0)
set_option maxRecDepth 16384 in
noncomputable def g6 (m : MM) (a0 a1 : Int) : MM := (if (f72 m (m a0 1) a1) = 0 then m else g1 m a0 5 a1 0)
set_option maxRecDepth 16384 in
theorem d6 {X : KO} {ρ : Nat → Int32} {m m' : MM} {rl : List (Nat × Int)} {a0 a1 : Int} (h : Run X ρ 6 [(1, a0), (1, a1)] m rl m') : rl = [(1, f6 m a0 a1)] ∧ m' = g6 m a0 a1 := by
  obtain ⟨N, ig, h⟩ := Run_CR h rfl
  have h : MR X ρ 2 0 0 qP6 N 0 [a0, a1] [] m (ig, rl, m') := h
  have h := CR_aload_n h rfl
  have h : MR X ρ 2 0 0 qP6 N 1 [a0, a1] [(1, a0)] m (ig, rl, m') := h
  have h := CR_getf h rfl (by decide)
  have h : MR X ρ 2 0 0 qP6 N 4 [a0, a1] [(1, m a0 1)] m (ig, rl, m') := h
  have h := CR_iload_n h rfl
  have h : MR X ρ 2 0 0 qP6 N 5 [a0, a1] [(1, a1), (1, m a0 1)] m (ig, rl, m') := h
  obtain ⟨r1, m2, q3, h⟩ := MR_invV h rfl rfl
  have q3 : Run X ρ 72 [(1, m a0 1), (1, a1)] m r1 m2 := q3
  obtain ⟨e4, e5⟩ := d72 q3
  rw [e4, e5] at h
  have h : MR X ρ 2 0 0 qP6 N 8 [a0, a1] [(1, f72 m (m a0 1) a1)] m (ig, rl, m') := h
  rcases MR_if h rfl rfl with ⟨c6, h⟩ | ⟨c6, h⟩
  ·
    have c6 : (f72 m (m a0 1) a1) = 0 := c6
    have h : MR X ρ 2 0 0 qP6 N 21 [a0, a1] [] m (ig, rl, m') := h
    have h := CR_iconst h rfl rfl
    have h : MR X ρ 2 0 0 qP6 N 22 [a0, a1] [(1, -1)] m (ig, rl, m') := h
    have e := CR_end h rfl rfl
    cases e
    exact ⟨congrArg (fun z => [(1, z)]) (Eq.symm (show f6 m a0 a1 = _ from (if_pos c6).trans (rfl))), Eq.symm (show g6 m a0 a1 = _ from (if_pos c6).trans (rfl))⟩
  ·
    have c6 : ¬ ((f72 m (m a0 1) a1) = 0) := c6
    have h : MR X ρ 2 0 0 qP6 N 11 [a0, a1] [] m (ig, rl, m') := h
    have h := CR_aload_n h rfl
    have h : MR X ρ 2 0 0 qP6 N 12 [a0, a1] [(1, a0)] m (ig, rl, m') := h
    have h := CR_iconst h rfl rfl
    have h : MR X ρ 2 0 0 qP6 N 13 [a0, a1] [(1, 5), (1, a0)] m (ig, rl, m') := h
    have h := CR_iload_n h rfl
    have h : MR X ρ 2 0 0 qP6 N 14 [a0, a1] [(1, a1), (1, 5), (1, a0)] m (ig, rl, m') := h
    have h := CR_iconst h rfl rfl
    have h : MR X ρ 2 0 0 qP6 N 15 [a0, a1] [(1, 0), (1, a1), (1, 5), (1, a0)] m (ig, rl, m') := h
    obtain ⟨r7, m8, q9, h⟩ := MR_invV h rfl rfl
    have q9 : Run X ρ 1 [(1, a0), (1, 5), (1, a1), (1, 0)] m r7 m8 := q9
    obtain ⟨e10, e11⟩ := d1 q9
    rw [e10, e11] at h
    have h : MR X ρ 2 0 0 qP6 N 18 [a0, a1] [(1, f1 m a0 5 a1 0)] (g1 m a0 5 a1 0) (ig, rl, m') := h
    have h := CR_go h rfl rfl
    have h : MR X ρ 2 0 0 qP6 N 22 [a0, a1] [(1, f1 m a0 5 a1 0)] (g1 m a0 5 a1 0) (ig, rl, m') := h
    have e := CR_end h rfl rfl
    cases e
    exact ⟨congrArg (fun z => [(1, z)]) (Eq.symm (show f6 m a0 a1 = _ from (if_neg c6).trans (rfl))), Eq.symm (show g6 m a0 a1 = _ from (if_neg c6).trans (rfl))⟩
set_option maxRecDepth 16384 in
/-- TriplicateForms.days(I)I -/
noncomputable def f10 (m : MM) (a0 a1 : Int) : Int := (if a1 < 1 then -1 else (if a1 ≤ 60 then (if (jmin a1 (s32 (400 - (m (m a0 3) 8)))) ≤ 0 then jmin a1 (s32 (400 - (m (m a0 3) 8))) else jmin a1 (s32 (400 - (m (m a0 3) 8)))) else -1))
set_option maxRecDepth 16384 in
noncomputable def g10 (m : MM) (a0 a1 : Int) : MM := (if a1 < 1 then m else (if a1 ≤ 60 then (if (jmin a1 (s32 (400 - (m (m a0 3) 8)))) ≤ 0 then m else g1 m a0 7 (jmin a1 (s32 (400 - (m (m a0 3) 8)))) 0) else m))
set_option maxRecDepth 16384 in
theorem d10 {X : KO} {ρ : Nat → Int32} {m m' : MM} {rl : List (Nat × Int)} {a0 a1 : Int} (h : Run X ρ 10 [(1, a0), (1, a1)] m rl m') : rl = [(1, f10 m a0 a1)] ∧ m' = g10 m a0 a1 := by
  obtain ⟨N, ig, h⟩ := Run_CR h rfl
  have h : MR X ρ 3 0 0 qP10 N 0 [a0, a1, 0] [] m (ig, rl, m') := h
  have h := CR_iload_n h rfl
  have h : MR X ρ 3 0 0 qP10 N 1 [a0, a1, 0] [(1, a1)] m (ig, rl, m') := h
  have h := CR_iconst h rfl rfl
  have h : MR X ρ 3 0 0 qP10 N 2 [a0, a1, 0] [(1, 1), (1, a1)] m (ig, rl, m') := h
  rcases MR_icmp h rfl rfl with ⟨c1, h⟩ | ⟨c1, h⟩
  ·
    have c1 : a1 < 1 := c1
    have h : MR X ρ 3 0 0 qP10 N 11 [a0, a1, 0] [] m (ig, rl, m') := h
    have h := CR_iconst h rfl rfl
    have h : MR X ρ 3 0 0 qP10 N 12 [a0, a1, 0] [(1, -1)] m (ig, rl, m') := h
    have e := CR_end h rfl rfl
    cases e
    exact ⟨congrArg (fun z => [(1, z)]) (Eq.symm (show f10 m a0 a1 = _ from (if_pos c1).trans (rfl))), Eq.symm (show g10 m a0 a1 = _ from (if_pos c1).trans (rfl))⟩
  ·
    have c1 : ¬ (a1 < 1) := c1
    have h : MR X ρ 3 0 0 qP10 N 5 [a0, a1, 0] [] m (ig, rl, m') := h
    have h := CR_iload_n h rfl
    have h : MR X ρ 3 0 0 qP10 N 6 [a0, a1, 0] [(1, a1)] m (ig, rl, m') := h
    have h := CR_bipush h rfl rfl
    have h : MR X ρ 3 0 0 qP10 N 8 [a0, a1, 0] [(1, 60), (1, a1)] m (ig, rl, m') := h
    rcases MR_icmp h rfl rfl with ⟨c2, h⟩ | ⟨c2, h⟩
    ·
      have c2 : a1 ≤ 60 := c2
      have h : MR X ρ 3 0 0 qP10 N 13 [a0, a1, 0] [] m (ig, rl, m') := h
      have h := CR_iload_n h rfl
      have h : MR X ρ 3 0 0 qP10 N 14 [a0, a1, 0] [(1, a1)] m (ig, rl, m') := h
      have h := CR_sipush h rfl rfl
      have h : MR X ρ 3 0 0 qP10 N 17 [a0, a1, 0] [(1, 400), (1, a1)] m (ig, rl, m') := h
      have h := CR_aload_n h rfl
      have h : MR X ρ 3 0 0 qP10 N 18 [a0, a1, 0] [(1, a0), (1, 400), (1, a1)] m (ig, rl, m') := h
      have h := CR_getf h rfl (by decide)
      have h : MR X ρ 3 0 0 qP10 N 21 [a0, a1, 0] [(1, m a0 3), (1, 400), (1, a1)] m (ig, rl, m') := h
      have h := CR_getf h rfl (by decide)
      have h : MR X ρ 3 0 0 qP10 N 24 [a0, a1, 0] [(1, m (m a0 3) 8), (1, 400), (1, a1)] m (ig, rl, m') := h
      have h := CR_isub h rfl
      have h : MR X ρ 3 0 0 qP10 N 25 [a0, a1, 0] [(1, s32 (400 - (m (m a0 3) 8))), (1, a1)] m (ig, rl, m') := h
      have h := MR_min h rfl rfl
      have h : MR X ρ 3 0 0 qP10 N 28 [a0, a1, 0] [(1, jmin a1 (s32 (400 - (m (m a0 3) 8))))] m (ig, rl, m') := h
      have h := CR_istore_n h rfl (Nat.le_of_ble_eq_true rfl)
      have h : MR X ρ 3 0 0 qP10 N 29 [a0, a1, jmin a1 (s32 (400 - (m (m a0 3) 8)))] [] m (ig, rl, m') := h
      have h := CR_iload_n h rfl
      have h : MR X ρ 3 0 0 qP10 N 30 [a0, a1, jmin a1 (s32 (400 - (m (m a0 3) 8)))] [(1, jmin a1 (s32 (400 - (m (m a0 3) 8))))] m (ig, rl, m') := h
      rcases MR_if h rfl rfl with ⟨c3, h⟩ | ⟨c3, h⟩
      ·
        have c3 : (jmin a1 (s32 (400 - (m (m a0 3) 8)))) ≤ 0 := c3
        have h : MR X ρ 3 0 0 qP10 N 42 [a0, a1, jmin a1 (s32 (400 - (m (m a0 3) 8)))] [] m (ig, rl, m') := h
        have h := CR_iload_n h rfl
        have h : MR X ρ 3 0 0 qP10 N 43 [a0, a1, jmin a1 (s32 (400 - (m (m a0 3) 8)))] [(1, jmin a1 (s32 (400 - (m (m a0 3) 8))))] m (ig, rl, m') := h
        have e := CR_end h rfl rfl
        cases e
        exact ⟨congrArg (fun z => [(1, z)]) (Eq.symm (show f10 m a0 a1 = _ from (if_neg c1).trans ((if_pos c2).trans ((if_pos c3).trans (rfl))))), Eq.symm (show g10 m a0 a1 = _ from (if_neg c1).trans ((if_pos c2).trans ((if_pos c3).trans (rfl))))⟩
      ·
        have c3 : ¬ ((jmin a1 (s32 (400 - (m (m a0 3) 8)))) ≤ 0) := c3
        have h : MR X ρ 3 0 0 qP10 N 33 [a0, a1, jmin a1 (s32 (400 - (m (m a0 3) 8)))] [] m (ig, rl, m') := h
        have h := CR_aload_n h rfl
        have h : MR X ρ 3 0 0 qP10 N 34 [a0, a1, jmin a1 (s32 (400 - (m (m a0 3) 8)))] [(1, a0)] m (ig, rl, m') := h
        have h := CR_bipush h rfl rfl
        have h : MR X ρ 3 0 0 qP10 N 36 [a0, a1, jmin a1 (s32 (400 - (m (m a0 3) 8)))] [(1, 7), (1, a0)] m (ig, rl, m') := h
        have h := CR_iload_n h rfl
        have h : MR X ρ 3 0 0 qP10 N 37 [a0, a1, jmin a1 (s32 (400 - (m (m a0 3) 8)))] [(1, jmin a1 (s32 (400 - (m (m a0 3) 8)))), (1, 7), (1, a0)] m (ig, rl, m') := h
        have h := CR_iconst h rfl rfl
        have h : MR X ρ 3 0 0 qP10 N 38 [a0, a1, jmin a1 (s32 (400 - (m (m a0 3) 8)))] [(1, 0), (1, jmin a1 (s32 (400 - (m (m a0 3) 8)))), (1, 7), (1, a0)] m (ig, rl, m') := h
        obtain ⟨r4, m5, q6, h⟩ := MR_invV h rfl rfl
        have q6 : Run X ρ 1 [(1, a0), (1, 7), (1, jmin a1 (s32 (400 - (m (m a0 3) 8)))), (1, 0)] m r4 m5 := q6
        obtain ⟨e7, e8⟩ := d1 q6
        rw [e7, e8] at h
        have h : MR X ρ 3 0 0 qP10 N 41 [a0, a1, jmin a1 (s32 (400 - (m (m a0 3) 8)))] [(1, f1 m a0 7 (jmin a1 (s32 (400 - (m (m a0 3) 8)))) 0)] (g1 m a0 7 (jmin a1 (s32 (400 - (m (m a0 3) 8)))) 0) (ig, rl, m') := h
        have h := CR_pop h rfl
        have h : MR X ρ 3 0 0 qP10 N 42 [a0, a1, jmin a1 (s32 (400 - (m (m a0 3) 8)))] [] (g1 m a0 7 (jmin a1 (s32 (400 - (m (m a0 3) 8)))) 0) (ig, rl, m') := h
        have h := CR_iload_n h rfl
        have h : MR X ρ 3 0 0 qP10 N 43 [a0, a1, jmin a1 (s32 (400 - (m (m a0 3) 8)))] [(1, jmin a1 (s32 (400 - (m (m a0 3) 8))))] (g1 m a0 7 (jmin a1 (s32 (400 - (m (m a0 3) 8)))) 0) (ig, rl, m') := h
        have e := CR_end h rfl rfl
        cases e
        exact ⟨congrArg (fun z => [(1, z)]) (Eq.symm (show f10 m a0 a1 = _ from (if_neg c1).trans ((if_pos c2).trans ((if_neg c3).trans (rfl))))), Eq.symm (show g10 m a0 a1 = _ from (if_neg c1).trans ((if_pos c2).trans ((if_neg c3).trans (rfl))))⟩
    ·
      have c2 : ¬ (a1 ≤ 60) := c2
      have h : MR X ρ 3 0 0 qP10 N 11 [a0, a1, 0] [] m (ig, rl, m') := h
      have h := CR_iconst h rfl rfl
      have h : MR X ρ 3 0 0 qP10 N 12 [a0, a1, 0] [(1, -1)] m (ig, rl, m') := h
      have e := CR_end h rfl rfl
      cases e
      exact ⟨congrArg (fun z => [(1, z)]) (Eq.symm (show f10 m a0 a1 = _ from (if_neg c1).trans ((if_neg c2).trans (rfl)))), Eq.symm (show g10 m a0 a1 = _ from (if_neg c1).trans ((if_neg c2).trans (rfl)))⟩
set_option maxRecDepth 16384 in
/-- TriplicateForms.lodge(I)I -/
noncomputable def f19 (m : MM) (a0 a1 : Int) : Int := (if (f72 m (m a0 1) a1) = 0 then -1 else f1 m a0 6 a1 0)
set_option maxRecDepth 16384 in
noncomputable def g19 (m : MM) (a0 a1 : Int) : MM := (if (f72 m (m a0 1) a1) = 0 then m else g1 m a0 6 a1 0)
set_option maxRecDepth 16384 in
theorem d19 {X : KO} {ρ : Nat → Int32} {m m' : MM} {rl : List (Nat × Int)} {a0 a1 : Int} (h : Run X ρ 19 [(1, a0), (1, a1)] m rl m') : rl = [(1, f19 m a0 a1)] ∧ m' = g19 m a0 a1 := by
  obtain ⟨N, ig, h⟩ := Run_CR h rfl
  have h : MR X ρ 2 0 0 qP19 N 0 [a0, a1] [] m (ig, rl, m') := h
  have h := CR_aload_n h rfl
  have h : MR X ρ 2 0 0 qP19 N 1 [a0, a1] [(1, a0)] m (ig, rl, m') := h
  have h := CR_getf h rfl (by decide)
  have h : MR X ρ 2 0 0 qP19 N 4 [a0, a1] [(1, m a0 1)] m (ig, rl, m') := h
  have h := CR_iload_n h rfl
  have h : MR X ρ 2 0 0 qP19 N 5 [a0, a1] [(1, a1), (1, m a0 1)] m (ig, rl, m') := h
  obtain ⟨r1, m2, q3, h⟩ := MR_invV h rfl rfl
  have q3 : Run X ρ 72 [(1, m a0 1), (1, a1)] m r1 m2 := q3
  obtain ⟨e4, e5⟩ := d72 q3
  rw [e4, e5] at h
  have h : MR X ρ 2 0 0 qP19 N 8 [a0, a1] [(1, f72 m (m a0 1) a1)] m (ig, rl, m') := h
  rcases MR_if h rfl rfl with ⟨c6, h⟩ | ⟨c6, h⟩
  ·
    have c6 : (f72 m (m a0 1) a1) = 0 := c6
    have h : MR X ρ 2 0 0 qP19 N 22 [a0, a1] [] m (ig, rl, m') := h
    have h := CR_iconst h rfl rfl
    have h : MR X ρ 2 0 0 qP19 N 23 [a0, a1] [(1, -1)] m (ig, rl, m') := h
    have e := CR_end h rfl rfl
    cases e
    exact ⟨congrArg (fun z => [(1, z)]) (Eq.symm (show f19 m a0 a1 = _ from (if_pos c6).trans (rfl))), Eq.symm (show g19 m a0 a1 = _ from (if_pos c6).trans (rfl))⟩
  ·
    have c6 : ¬ ((f72 m (m a0 1) a1) = 0) := c6
    have h : MR X ρ 2 0 0 qP19 N 11 [a0, a1] [] m (ig, rl, m') := h
    have h := CR_aload_n h rfl
    have h : MR X ρ 2 0 0 qP19 N 12 [a0, a1] [(1, a0)] m (ig, rl, m') := h
    have h := CR_bipush h rfl rfl
    have h : MR X ρ 2 0 0 qP19 N 14 [a0, a1] [(1, 6), (1, a0)] m (ig, rl, m') := h
    have h := CR_iload_n h rfl
    have h : MR X ρ 2 0 0 qP19 N 15 [a0, a1] [(1, a1), (1, 6), (1, a0)] m (ig, rl, m') := h
    have h := CR_iconst h rfl rfl
    have h : MR X ρ 2 0 0 qP19 N 16 [a0, a1] [(1, 0), (1, a1), (1, 6), (1, a0)] m (ig, rl, m') := h
    obtain ⟨r7, m8, q9, h⟩ := MR_invV h rfl rfl
    have q9 : Run X ρ 1 [(1, a0), (1, 6), (1, a1), (1, 0)] m r7 m8 := q9
    obtain ⟨e10, e11⟩ := d1 q9
    rw [e10, e11] at h
    have h : MR X ρ 2 0 0 qP19 N 19 [a0, a1] [(1, f1 m a0 6 a1 0)] (g1 m a0 6 a1 0) (ig, rl, m') := h
    have h := CR_go h rfl rfl
    have h : MR X ρ 2 0 0 qP19 N 23 [a0, a1] [(1, f1 m a0 6 a1 0)] (g1 m a0 6 a1 0) (ig, rl, m') := h
    have e := CR_end h rfl rfl
    cases e
    exact ⟨congrArg (fun z => [(1, z)]) (Eq.symm (show f19 m a0 a1 = _ from (if_neg c6).trans (rfl))), Eq.symm (show g19 m a0 a1 = _ from (if_neg c6).trans (rfl))⟩
set_option maxRecDepth 16384 in
/-- TriplicateForms.resent(II)I -/
noncomputable def f27 (m : MM) (a0 a1 a2 : Int) : Int := (if (f73 m (m a0 1) a1) = 0 then -1 else (if (f73 m (m a0 1) a2) = 0 then -1 else f1 m a0 2 a1 a2))
set_option maxRecDepth 16384 in
noncomputable def g27 (m : MM) (a0 a1 a2 : Int) : MM := (if (f73 m (m a0 1) a1) = 0 then m else (if (f73 m (m a0 1) a2) = 0 then m else g1 m a0 2 a1 a2))
set_option maxRecDepth 16384 in
theorem d27 {X : KO} {ρ : Nat → Int32} {m m' : MM} {rl : List (Nat × Int)} {a0 a1 a2 : Int} (h : Run X ρ 27 [(1, a0), (1, a1), (1, a2)] m rl m') : rl = [(1, f27 m a0 a1 a2)] ∧ m' = g27 m a0 a1 a2 := by
  obtain ⟨N, ig, h⟩ := Run_CR h rfl
  have h : MR X ρ 3 0 0 qP27 N 0 [a0, a1, a2] [] m (ig, rl, m') := h
  have h := CR_aload_n h rfl
  have h : MR X ρ 3 0 0 qP27 N 1 [a0, a1, a2] [(1, a0)] m (ig, rl, m') := h
  have h := CR_getf h rfl (by decide)
  have h : MR X ρ 3 0 0 qP27 N 4 [a0, a1, a2] [(1, m a0 1)] m (ig, rl, m') := h
  have h := CR_iload_n h rfl
  have h : MR X ρ 3 0 0 qP27 N 5 [a0, a1, a2] [(1, a1), (1, m a0 1)] m (ig, rl, m') := h
  obtain ⟨r1, m2, q3, h⟩ := MR_invV h rfl rfl
  have q3 : Run X ρ 73 [(1, m a0 1), (1, a1)] m r1 m2 := q3
  obtain ⟨e4, e5⟩ := d73 q3
  rw [e4, e5] at h
  have h : MR X ρ 3 0 0 qP27 N 8 [a0, a1, a2] [(1, f73 m (m a0 1) a1)] m (ig, rl, m') := h
  rcases MR_if h rfl rfl with ⟨c6, h⟩ | ⟨c6, h⟩
  ·
    have c6 : (f73 m (m a0 1) a1) = 0 := c6
    have h : MR X ρ 3 0 0 qP27 N 32 [a0, a1, a2] [] m (ig, rl, m') := h
    have h := CR_iconst h rfl rfl
    have h : MR X ρ 3 0 0 qP27 N 33 [a0, a1, a2] [(1, -1)] m (ig, rl, m') := h
    have e := CR_end h rfl rfl
    cases e
    exact ⟨congrArg (fun z => [(1, z)]) (Eq.symm (show f27 m a0 a1 a2 = _ from (if_pos c6).trans (rfl))), Eq.symm (show g27 m a0 a1 a2 = _ from (if_pos c6).trans (rfl))⟩
  ·
    have c6 : ¬ ((f73 m (m a0 1) a1) = 0) := c6
    have h : MR X ρ 3 0 0 qP27 N 11 [a0, a1, a2] [] m (ig, rl, m') := h
    have h := CR_aload_n h rfl
    have h : MR X ρ 3 0 0 qP27 N 12 [a0, a1, a2] [(1, a0)] m (ig, rl, m') := h
    have h := CR_getf h rfl (by decide)
    have h : MR X ρ 3 0 0 qP27 N 15 [a0, a1, a2] [(1, m a0 1)] m (ig, rl, m') := h
    have h := CR_iload_n h rfl
    have h : MR X ρ 3 0 0 qP27 N 16 [a0, a1, a2] [(1, a2), (1, m a0 1)] m (ig, rl, m') := h
    obtain ⟨r7, m8, q9, h⟩ := MR_invV h rfl rfl
    have q9 : Run X ρ 73 [(1, m a0 1), (1, a2)] m r7 m8 := q9
    obtain ⟨e10, e11⟩ := d73 q9
    rw [e10, e11] at h
    have h : MR X ρ 3 0 0 qP27 N 19 [a0, a1, a2] [(1, f73 m (m a0 1) a2)] m (ig, rl, m') := h
    rcases MR_if h rfl rfl with ⟨c12, h⟩ | ⟨c12, h⟩
    ·
      have c12 : (f73 m (m a0 1) a2) = 0 := c12
      have h : MR X ρ 3 0 0 qP27 N 32 [a0, a1, a2] [] m (ig, rl, m') := h
      have h := CR_iconst h rfl rfl
      have h : MR X ρ 3 0 0 qP27 N 33 [a0, a1, a2] [(1, -1)] m (ig, rl, m') := h
      have e := CR_end h rfl rfl
      cases e
      exact ⟨congrArg (fun z => [(1, z)]) (Eq.symm (show f27 m a0 a1 a2 = _ from (if_neg c6).trans ((if_pos c12).trans (rfl)))), Eq.symm (show g27 m a0 a1 a2 = _ from (if_neg c6).trans ((if_pos c12).trans (rfl)))⟩
    ·
      have c12 : ¬ ((f73 m (m a0 1) a2) = 0) := c12
      have h : MR X ρ 3 0 0 qP27 N 22 [a0, a1, a2] [] m (ig, rl, m') := h
      have h := CR_aload_n h rfl
      have h : MR X ρ 3 0 0 qP27 N 23 [a0, a1, a2] [(1, a0)] m (ig, rl, m') := h
      have h := CR_iconst h rfl rfl
      have h : MR X ρ 3 0 0 qP27 N 24 [a0, a1, a2] [(1, 2), (1, a0)] m (ig, rl, m') := h
      have h := CR_iload_n h rfl
      have h : MR X ρ 3 0 0 qP27 N 25 [a0, a1, a2] [(1, a1), (1, 2), (1, a0)] m (ig, rl, m') := h
      have h := CR_iload_n h rfl
      have h : MR X ρ 3 0 0 qP27 N 26 [a0, a1, a2] [(1, a2), (1, a1), (1, 2), (1, a0)] m (ig, rl, m') := h
      obtain ⟨r13, m14, q15, h⟩ := MR_invV h rfl rfl
      have q15 : Run X ρ 1 [(1, a0), (1, 2), (1, a1), (1, a2)] m r13 m14 := q15
      obtain ⟨e16, e17⟩ := d1 q15
      rw [e16, e17] at h
      have h : MR X ρ 3 0 0 qP27 N 29 [a0, a1, a2] [(1, f1 m a0 2 a1 a2)] (g1 m a0 2 a1 a2) (ig, rl, m') := h
      have h := CR_go h rfl rfl
      have h : MR X ρ 3 0 0 qP27 N 33 [a0, a1, a2] [(1, f1 m a0 2 a1 a2)] (g1 m a0 2 a1 a2) (ig, rl, m') := h
      have e := CR_end h rfl rfl
      cases e
      exact ⟨congrArg (fun z => [(1, z)]) (Eq.symm (show f27 m a0 a1 a2 = _ from (if_neg c6).trans ((if_neg c12).trans (rfl)))), Eq.symm (show g27 m a0 a1 a2 = _ from (if_neg c6).trans ((if_neg c12).trans (rfl)))⟩
set_option maxRecDepth 16384 in
/-- TriplicateForms.retire(I)I -/
noncomputable def f29 (m : MM) (a0 a1 : Int) : Int := (if (f73 m (m a0 1) a1) = 0 then -1 else f1 m a0 3 a1 0)
set_option maxRecDepth 16384 in
noncomputable def g29 (m : MM) (a0 a1 : Int) : MM := (if (f73 m (m a0 1) a1) = 0 then m else g1 m a0 3 a1 0)
set_option maxRecDepth 16384 in
theorem d29 {X : KO} {ρ : Nat → Int32} {m m' : MM} {rl : List (Nat × Int)} {a0 a1 : Int} (h : Run X ρ 29 [(1, a0), (1, a1)] m rl m') : rl = [(1, f29 m a0 a1)] ∧ m' = g29 m a0 a1 := by
  obtain ⟨N, ig, h⟩ := Run_CR h rfl
  have h : MR X ρ 2 0 0 qP29 N 0 [a0, a1] [] m (ig, rl, m') := h
  have h := CR_aload_n h rfl
  have h : MR X ρ 2 0 0 qP29 N 1 [a0, a1] [(1, a0)] m (ig, rl, m') := h
  have h := CR_getf h rfl (by decide)
  have h : MR X ρ 2 0 0 qP29 N 4 [a0, a1] [(1, m a0 1)] m (ig, rl, m') := h
  have h := CR_iload_n h rfl
  have h : MR X ρ 2 0 0 qP29 N 5 [a0, a1] [(1, a1), (1, m a0 1)] m (ig, rl, m') := h
  obtain ⟨r1, m2, q3, h⟩ := MR_invV h rfl rfl
  have q3 : Run X ρ 73 [(1, m a0 1), (1, a1)] m r1 m2 := q3
  obtain ⟨e4, e5⟩ := d73 q3
  rw [e4, e5] at h
  have h : MR X ρ 2 0 0 qP29 N 8 [a0, a1] [(1, f73 m (m a0 1) a1)] m (ig, rl, m') := h
  rcases MR_if h rfl rfl with ⟨c6, h⟩ | ⟨c6, h⟩
  ·
    have c6 : (f73 m (m a0 1) a1) = 0 := c6
    have h : MR X ρ 2 0 0 qP29 N 21 [a0, a1] [] m (ig, rl, m') := h
    have h := CR_iconst h rfl rfl
    have h : MR X ρ 2 0 0 qP29 N 22 [a0, a1] [(1, -1)] m (ig, rl, m') := h
    have e := CR_end h rfl rfl
    cases e
    exact ⟨congrArg (fun z => [(1, z)]) (Eq.symm (show f29 m a0 a1 = _ from (if_pos c6).trans (rfl))), Eq.symm (show g29 m a0 a1 = _ from (if_pos c6).trans (rfl))⟩
  ·
    have c6 : ¬ ((f73 m (m a0 1) a1) = 0) := c6
    have h : MR X ρ 2 0 0 qP29 N 11 [a0, a1] [] m (ig, rl, m') := h
    have h := CR_aload_n h rfl
    have h : MR X ρ 2 0 0 qP29 N 12 [a0, a1] [(1, a0)] m (ig, rl, m') := h
    have h := CR_iconst h rfl rfl
    have h : MR X ρ 2 0 0 qP29 N 13 [a0, a1] [(1, 3), (1, a0)] m (ig, rl, m') := h
    have h := CR_iload_n h rfl
    have h : MR X ρ 2 0 0 qP29 N 14 [a0, a1] [(1, a1), (1, 3), (1, a0)] m (ig, rl, m') := h
    have h := CR_iconst h rfl rfl
    have h : MR X ρ 2 0 0 qP29 N 15 [a0, a1] [(1, 0), (1, a1), (1, 3), (1, a0)] m (ig, rl, m') := h
    obtain ⟨r7, m8, q9, h⟩ := MR_invV h rfl rfl
    have q9 : Run X ρ 1 [(1, a0), (1, 3), (1, a1), (1, 0)] m r7 m8 := q9
    obtain ⟨e10, e11⟩ := d1 q9
    rw [e10, e11] at h
    have h : MR X ρ 2 0 0 qP29 N 18 [a0, a1] [(1, f1 m a0 3 a1 0)] (g1 m a0 3 a1 0) (ig, rl, m') := h
    have h := CR_go h rfl rfl
    have h : MR X ρ 2 0 0 qP29 N 22 [a0, a1] [(1, f1 m a0 3 a1 0)] (g1 m a0 3 a1 0) (ig, rl, m') := h
    have e := CR_end h rfl rfl
    cases e
    exact ⟨congrArg (fun z => [(1, z)]) (Eq.symm (show f29 m a0 a1 = _ from (if_neg c6).trans (rfl))), Eq.symm (show g29 m a0 a1 = _ from (if_neg c6).trans (rfl))⟩
set_option maxRecDepth 16384 in
/-- TriplicateForms.sign(II)I -/
noncomputable def f33 (m : MM) (a0 a1 a2 : Int) : Int := (if (f73 m (m a0 1) a1) = 0 then -1 else (if (f72 m (m a0 1) a2) = 0 then -1 else f1 m a0 0 a1 a2))
set_option maxRecDepth 16384 in
noncomputable def g33 (m : MM) (a0 a1 a2 : Int) : MM := (if (f73 m (m a0 1) a1) = 0 then m else (if (f72 m (m a0 1) a2) = 0 then m else g1 m a0 0 a1 a2))
set_option maxRecDepth 16384 in
theorem d33 {X : KO} {ρ : Nat → Int32} {m m' : MM} {rl : List (Nat × Int)} {a0 a1 a2 : Int} (h : Run X ρ 33 [(1, a0), (1, a1), (1, a2)] m rl m') : rl = [(1, f33 m a0 a1 a2)] ∧ m' = g33 m a0 a1 a2 := by
  obtain ⟨N, ig, h⟩ := Run_CR h rfl
  have h : MR X ρ 3 0 0 qP33 N 0 [a0, a1, a2] [] m (ig, rl, m') := h
  have h := CR_aload_n h rfl
  have h : MR X ρ 3 0 0 qP33 N 1 [a0, a1, a2] [(1, a0)] m (ig, rl, m') := h
  have h := CR_getf h rfl (by decide)
  have h : MR X ρ 3 0 0 qP33 N 4 [a0, a1, a2] [(1, m a0 1)] m (ig, rl, m') := h
  have h := CR_iload_n h rfl
  have h : MR X ρ 3 0 0 qP33 N 5 [a0, a1, a2] [(1, a1), (1, m a0 1)] m (ig, rl, m') := h
  obtain ⟨r1, m2, q3, h⟩ := MR_invV h rfl rfl
  have q3 : Run X ρ 73 [(1, m a0 1), (1, a1)] m r1 m2 := q3
  obtain ⟨e4, e5⟩ := d73 q3
  rw [e4, e5] at h
  have h : MR X ρ 3 0 0 qP33 N 8 [a0, a1, a2] [(1, f73 m (m a0 1) a1)] m (ig, rl, m') := h
  rcases MR_if h rfl rfl with ⟨c6, h⟩ | ⟨c6, h⟩
  ·
    have c6 : (f73 m (m a0 1) a1) = 0 := c6
    have h : MR X ρ 3 0 0 qP33 N 32 [a0, a1, a2] [] m (ig, rl, m') := h
    have h := CR_iconst h rfl rfl
    have h : MR X ρ 3 0 0 qP33 N 33 [a0, a1, a2] [(1, -1)] m (ig, rl, m') := h
    have e := CR_end h rfl rfl
    cases e
    exact ⟨congrArg (fun z => [(1, z)]) (Eq.symm (show f33 m a0 a1 a2 = _ from (if_pos c6).trans (rfl))), Eq.symm (show g33 m a0 a1 a2 = _ from (if_pos c6).trans (rfl))⟩
  ·
    have c6 : ¬ ((f73 m (m a0 1) a1) = 0) := c6
    have h : MR X ρ 3 0 0 qP33 N 11 [a0, a1, a2] [] m (ig, rl, m') := h
    have h := CR_aload_n h rfl
    have h : MR X ρ 3 0 0 qP33 N 12 [a0, a1, a2] [(1, a0)] m (ig, rl, m') := h
    have h := CR_getf h rfl (by decide)
    have h : MR X ρ 3 0 0 qP33 N 15 [a0, a1, a2] [(1, m a0 1)] m (ig, rl, m') := h
    have h := CR_iload_n h rfl
    have h : MR X ρ 3 0 0 qP33 N 16 [a0, a1, a2] [(1, a2), (1, m a0 1)] m (ig, rl, m') := h
    obtain ⟨r7, m8, q9, h⟩ := MR_invV h rfl rfl
    have q9 : Run X ρ 72 [(1, m a0 1), (1, a2)] m r7 m8 := q9
    obtain ⟨e10, e11⟩ := d72 q9
    rw [e10, e11] at h
    have h : MR X ρ 3 0 0 qP33 N 19 [a0, a1, a2] [(1, f72 m (m a0 1) a2)] m (ig, rl, m') := h
    rcases MR_if h rfl rfl with ⟨c12, h⟩ | ⟨c12, h⟩
    ·
      have c12 : (f72 m (m a0 1) a2) = 0 := c12
      have h : MR X ρ 3 0 0 qP33 N 32 [a0, a1, a2] [] m (ig, rl, m') := h
      have h := CR_iconst h rfl rfl
      have h : MR X ρ 3 0 0 qP33 N 33 [a0, a1, a2] [(1, -1)] m (ig, rl, m') := h
      have e := CR_end h rfl rfl
      cases e
      exact ⟨congrArg (fun z => [(1, z)]) (Eq.symm (show f33 m a0 a1 a2 = _ from (if_neg c6).trans ((if_pos c12).trans (rfl)))), Eq.symm (show g33 m a0 a1 a2 = _ from (if_neg c6).trans ((if_pos c12).trans (rfl)))⟩
    ·
      have c12 : ¬ ((f72 m (m a0 1) a2) = 0) := c12
      have h : MR X ρ 3 0 0 qP33 N 22 [a0, a1, a2] [] m (ig, rl, m') := h
      have h := CR_aload_n h rfl
      have h : MR X ρ 3 0 0 qP33 N 23 [a0, a1, a2] [(1, a0)] m (ig, rl, m') := h
      have h := CR_iconst h rfl rfl
      have h : MR X ρ 3 0 0 qP33 N 24 [a0, a1, a2] [(1, 0), (1, a0)] m (ig, rl, m') := h
      have h := CR_iload_n h rfl
      have h : MR X ρ 3 0 0 qP33 N 25 [a0, a1, a2] [(1, a1), (1, 0), (1, a0)] m (ig, rl, m') := h
      have h := CR_iload_n h rfl
      have h : MR X ρ 3 0 0 qP33 N 26 [a0, a1, a2] [(1, a2), (1, a1), (1, 0), (1, a0)] m (ig, rl, m') := h
      obtain ⟨r13, m14, q15, h⟩ := MR_invV h rfl rfl
      have q15 : Run X ρ 1 [(1, a0), (1, 0), (1, a1), (1, a2)] m r13 m14 := q15
      obtain ⟨e16, e17⟩ := d1 q15
      rw [e16, e17] at h
      have h : MR X ρ 3 0 0 qP33 N 29 [a0, a1, a2] [(1, f1 m a0 0 a1 a2)] (g1 m a0 0 a1 a2) (ig, rl, m') := h
      have h := CR_go h rfl rfl
      have h : MR X ρ 3 0 0 qP33 N 33 [a0, a1, a2] [(1, f1 m a0 0 a1 a2)] (g1 m a0 0 a1 a2) (ig, rl, m') := h
      have e := CR_end h rfl rfl
      cases e
      exact ⟨congrArg (fun z => [(1, z)]) (Eq.symm (show f33 m a0 a1 a2 = _ from (if_neg c6).trans ((if_neg c12).trans (rfl)))), Eq.symm (show g33 m a0 a1 a2 = _ from (if_neg c6).trans ((if_neg c12).trans (rfl)))⟩
set_option maxRecDepth 16384 in
/-- TriplicateForms.soften(II)I -/
noncomputable def f34 (m : MM) (a0 a1 a2 : Int) : Int := (if (f73 m (m a0 1) a1) = 0 then -1 else (if (f73 m (m a0 1) a2) = 0 then -1 else f1 m a0 1 a1 a2))
set_option maxRecDepth 16384 in
noncomputable def g34 (m : MM) (a0 a1 a2 : Int) : MM := (if (f73 m (m a0 1) a1) = 0 then m else (if (f73 m (m a0 1) a2) = 0 then m else g1 m a0 1 a1 a2))
set_option maxRecDepth 16384 in
theorem d34 {X : KO} {ρ : Nat → Int32} {m m' : MM} {rl : List (Nat × Int)} {a0 a1 a2 : Int} (h : Run X ρ 34 [(1, a0), (1, a1), (1, a2)] m rl m') : rl = [(1, f34 m a0 a1 a2)] ∧ m' = g34 m a0 a1 a2 := by
  obtain ⟨N, ig, h⟩ := Run_CR h rfl
  have h : MR X ρ 3 0 0 qP34 N 0 [a0, a1, a2] [] m (ig, rl, m') := h
  have h := CR_aload_n h rfl
  have h : MR X ρ 3 0 0 qP34 N 1 [a0, a1, a2] [(1, a0)] m (ig, rl, m') := h
  have h := CR_getf h rfl (by decide)
  have h : MR X ρ 3 0 0 qP34 N 4 [a0, a1, a2] [(1, m a0 1)] m (ig, rl, m') := h
  have h := CR_iload_n h rfl
  have h : MR X ρ 3 0 0 qP34 N 5 [a0, a1, a2] [(1, a1), (1, m a0 1)] m (ig, rl, m') := h
  obtain ⟨r1, m2, q3, h⟩ := MR_invV h rfl rfl
  have q3 : Run X ρ 73 [(1, m a0 1), (1, a1)] m r1 m2 := q3
  obtain ⟨e4, e5⟩ := d73 q3
  rw [e4, e5] at h
  have h : MR X ρ 3 0 0 qP34 N 8 [a0, a1, a2] [(1, f73 m (m a0 1) a1)] m (ig, rl, m') := h
  rcases MR_if h rfl rfl with ⟨c6, h⟩ | ⟨c6, h⟩
  ·
    have c6 : (f73 m (m a0 1) a1) = 0 := c6
    have h : MR X ρ 3 0 0 qP34 N 32 [a0, a1, a2] [] m (ig, rl, m') := h
    have h := CR_iconst h rfl rfl
    have h : MR X ρ 3 0 0 qP34 N 33 [a0, a1, a2] [(1, -1)] m (ig, rl, m') := h
    have e := CR_end h rfl rfl
    cases e
    exact ⟨congrArg (fun z => [(1, z)]) (Eq.symm (show f34 m a0 a1 a2 = _ from (if_pos c6).trans (rfl))), Eq.symm (show g34 m a0 a1 a2 = _ from (if_pos c6).trans (rfl))⟩
  ·
    have c6 : ¬ ((f73 m (m a0 1) a1) = 0) := c6
    have h : MR X ρ 3 0 0 qP34 N 11 [a0, a1, a2] [] m (ig, rl, m') := h
    have h := CR_aload_n h rfl
    have h : MR X ρ 3 0 0 qP34 N 12 [a0, a1, a2] [(1, a0)] m (ig, rl, m') := h
    have h := CR_getf h rfl (by decide)
    have h : MR X ρ 3 0 0 qP34 N 15 [a0, a1, a2] [(1, m a0 1)] m (ig, rl, m') := h
    have h := CR_iload_n h rfl
    have h : MR X ρ 3 0 0 qP34 N 16 [a0, a1, a2] [(1, a2), (1, m a0 1)] m (ig, rl, m') := h
    obtain ⟨r7, m8, q9, h⟩ := MR_invV h rfl rfl
    have q9 : Run X ρ 73 [(1, m a0 1), (1, a2)] m r7 m8 := q9
    obtain ⟨e10, e11⟩ := d73 q9
    rw [e10, e11] at h
    have h : MR X ρ 3 0 0 qP34 N 19 [a0, a1, a2] [(1, f73 m (m a0 1) a2)] m (ig, rl, m') := h
    rcases MR_if h rfl rfl with ⟨c12, h⟩ | ⟨c12, h⟩
    ·
      have c12 : (f73 m (m a0 1) a2) = 0 := c12
      have h : MR X ρ 3 0 0 qP34 N 32 [a0, a1, a2] [] m (ig, rl, m') := h
      have h := CR_iconst h rfl rfl
      have h : MR X ρ 3 0 0 qP34 N 33 [a0, a1, a2] [(1, -1)] m (ig, rl, m') := h
      have e := CR_end h rfl rfl
      cases e
      exact ⟨congrArg (fun z => [(1, z)]) (Eq.symm (show f34 m a0 a1 a2 = _ from (if_neg c6).trans ((if_pos c12).trans (rfl)))), Eq.symm (show g34 m a0 a1 a2 = _ from (if_neg c6).trans ((if_pos c12).trans (rfl)))⟩
    ·
      have c12 : ¬ ((f73 m (m a0 1) a2) = 0) := c12
      have h : MR X ρ 3 0 0 qP34 N 22 [a0, a1, a2] [] m (ig, rl, m') := h
      have h := CR_aload_n h rfl
      have h : MR X ρ 3 0 0 qP34 N 23 [a0, a1, a2] [(1, a0)] m (ig, rl, m') := h
      have h := CR_iconst h rfl rfl
      have h : MR X ρ 3 0 0 qP34 N 24 [a0, a1, a2] [(1, 1), (1, a0)] m (ig, rl, m') := h
      have h := CR_iload_n h rfl
      have h : MR X ρ 3 0 0 qP34 N 25 [a0, a1, a2] [(1, a1), (1, 1), (1, a0)] m (ig, rl, m') := h
      have h := CR_iload_n h rfl
      have h : MR X ρ 3 0 0 qP34 N 26 [a0, a1, a2] [(1, a2), (1, a1), (1, 1), (1, a0)] m (ig, rl, m') := h
      obtain ⟨r13, m14, q15, h⟩ := MR_invV h rfl rfl
      have q15 : Run X ρ 1 [(1, a0), (1, 1), (1, a1), (1, a2)] m r13 m14 := q15
      obtain ⟨e16, e17⟩ := d1 q15
      rw [e16, e17] at h
      have h : MR X ρ 3 0 0 qP34 N 29 [a0, a1, a2] [(1, f1 m a0 1 a1 a2)] (g1 m a0 1 a1 a2) (ig, rl, m') := h
      have h := CR_go h rfl rfl
      have h : MR X ρ 3 0 0 qP34 N 33 [a0, a1, a2] [(1, f1 m a0 1 a1 a2)] (g1 m a0 1 a1 a2) (ig, rl, m') := h
      have e := CR_end h rfl rfl
      cases e
      exact ⟨congrArg (fun z => [(1, z)]) (Eq.symm (show f34 m a0 a1 a2 = _ from (if_neg c6).trans ((if_neg c12).trans (rfl)))), Eq.symm (show g34 m a0 a1 a2 = _ from (if_neg c6).trans ((if_neg c12).trans (rfl)))⟩
set_option maxRecDepth 16384 in
/-- TriplicateForms$Adviser.fewestToCover(LTriplicateForms$Standing;)I, the loop at 14 -/
noncomputable def S41_14 (m : MM) (b0 b1 b2 b3 b4 b5 b6 : Int) : (Int × Int × Int × Int) ⊕ (Nat × Int × (Int × Int × Int × Int)) := (if (jshl 1 (m (m b1 0) 6)) ≤ b5 then .inr (1, 0, (b3, b4, b5, b6)) else (if b4 = (-1) then (if (f40 m b0 b5 b2) = 0 then .inl (b3, b4, s32 (b5 + 1), f296 m b5) else .inl (b5, f296 m b5, s32 (b5 + 1), f296 m b5)) else (if b4 ≤ (f296 m b5) then .inl (b3, b4, s32 (b5 + 1), f296 m b5) else (if (f40 m b0 b5 b2) = 0 then .inl (b3, b4, s32 (b5 + 1), f296 m b5) else .inl (b5, f296 m b5, s32 (b5 + 1), f296 m b5)))))
set_option maxRecDepth 16384 in
noncomputable def K41_14 (m : MM) (b0 b1 b2 b3 b4 b5 b6 : Int) : (Int × Int × Int × Int) → (Int × Int × Int × Int) ⊕ (Nat × Int × (Int × Int × Int × Int)) := fun s => S41_14 m b0 b1 b2 s.1 s.2.1 s.2.2.1 s.2.2.2
set_option maxRecDepth 16384 in
noncomputable def L41_14 (m : MM) (b0 b1 b2 b3 b4 b5 b6 : Int) : (Nat × Int × (Int × Int × Int × Int)) := Lp (K41_14 m b0 b1 b2 b3 b4 b5 b6) (b3, b4, b5, b6)
set_option maxRecDepth 16384 in
theorem l41_14 {X : KO} {ρ : Nat → Int32} {o : Instr × List (Nat × Int) × MM} {K : Nat} : ∀ {N : Nat} {m : MM} {b0 b1 b2 b3 b4 b5 b6 : Int}, N ≤ K → MR X ρ 7 0 0 qP41 N 14 [b0, b1, b2, b3, b4, b5, b6] [] m o → (MR X ρ 7 0 0 qP41 K 71 [b0, b1, b2, (L41_14 m b0 b1 b2 b3 b4 b5 b6).2.2.1, (L41_14 m b0 b1 b2 b3 b4 b5 b6).2.2.2.1, (L41_14 m b0 b1 b2 b3 b4 b5 b6).2.2.2.2.1, (L41_14 m b0 b1 b2 b3 b4 b5 b6).2.2.2.2.2] [] m o) := by
  intro N
  induction N using Nat.strongRecOn with
  | ind N ih =>
  intro m b0 b1 b2 b3 b4 b5 b6 hK h
  have h := CR_iload h rfl
  have h : MR X ρ 7 0 0 qP41 N 16 [b0, b1, b2, b3, b4, b5, b6] [(1, b5)] m o := h
  have h := CR_iconst h rfl rfl
  have h : MR X ρ 7 0 0 qP41 N 17 [b0, b1, b2, b3, b4, b5, b6] [(1, 1), (1, b5)] m o := h
  have h := CR_aload_n h rfl
  have h : MR X ρ 7 0 0 qP41 N 18 [b0, b1, b2, b3, b4, b5, b6] [(1, b1), (1, 1), (1, b5)] m o := h
  have h := CR_getf h rfl (by decide)
  have h : MR X ρ 7 0 0 qP41 N 21 [b0, b1, b2, b3, b4, b5, b6] [(1, m b1 0), (1, 1), (1, b5)] m o := h
  have h := CR_getf h rfl (by decide)
  have h : MR X ρ 7 0 0 qP41 N 24 [b0, b1, b2, b3, b4, b5, b6] [(1, m (m b1 0) 6), (1, 1), (1, b5)] m o := h
  have h := CR_ishl h rfl
  have h : MR X ρ 7 0 0 qP41 N 25 [b0, b1, b2, b3, b4, b5, b6] [(1, jshl 1 (m (m b1 0) 6)), (1, b5)] m o := h
  rcases MR_icmp h rfl rfl with ⟨c1, h⟩ | ⟨c1, h⟩
  ·
    have c1 : (jshl 1 (m (m b1 0) 6)) ≤ b5 := c1
    have h : MR X ρ 7 0 0 qP41 N 71 [b0, b1, b2, b3, b4, b5, b6] [] m o := h
    have hr : L41_14 m b0 b1 b2 b3 b4 b5 b6 = (1, 0, (b3, b4, b5, b6)) := Lp_inr (f := K41_14 m b0 b1 b2 b3 b4 b5 b6) (s := (b3, b4, b5, b6)) ((if_pos c1).trans (rfl))
    rw [hr]
    exact CR_le (by omega) h
  ·
    have c1 : ¬ ((jshl 1 (m (m b1 0) 6)) ≤ b5) := c1
    have h : MR X ρ 7 0 0 qP41 N 28 [b0, b1, b2, b3, b4, b5, b6] [] m o := h
    have h := CR_iload h rfl
    have h : MR X ρ 7 0 0 qP41 N 30 [b0, b1, b2, b3, b4, b5, b6] [(1, b5)] m o := h
    obtain ⟨r2, m3, q4, h⟩ := MR_invS h rfl rfl
    have q4 : Run X ρ 296 [(1, b5)] m r2 m3 := q4
    obtain ⟨e5, e6⟩ := d296 q4
    rw [e5, e6] at h
    have h : MR X ρ 7 0 0 qP41 N 33 [b0, b1, b2, b3, b4, b5, b6] [(1, f296 m b5)] m o := h
    have h := CR_istore h rfl (Nat.le_of_ble_eq_true rfl)
    have h : MR X ρ 7 0 0 qP41 N 35 [b0, b1, b2, b3, b4, b5, f296 m b5] [] m o := h
    have h := CR_iload h rfl
    have h : MR X ρ 7 0 0 qP41 N 37 [b0, b1, b2, b3, b4, b5, f296 m b5] [(1, b4)] m o := h
    have h := CR_iconst h rfl rfl
    have h : MR X ρ 7 0 0 qP41 N 38 [b0, b1, b2, b3, b4, b5, f296 m b5] [(1, -1), (1, b4)] m o := h
    rcases MR_icmp h rfl rfl with ⟨c7, h⟩ | ⟨c7, h⟩
    ·
      have c7 : b4 = (-1) := c7
      have h : MR X ρ 7 0 0 qP41 N 48 [b0, b1, b2, b3, b4, b5, f296 m b5] [] m o := h
      have h := CR_aload_n h rfl
      have h : MR X ρ 7 0 0 qP41 N 49 [b0, b1, b2, b3, b4, b5, f296 m b5] [(1, b0)] m o := h
      have h := CR_iload h rfl
      have h : MR X ρ 7 0 0 qP41 N 51 [b0, b1, b2, b3, b4, b5, f296 m b5] [(1, b5), (1, b0)] m o := h
      have h := CR_iload_n h rfl
      have h : MR X ρ 7 0 0 qP41 N 52 [b0, b1, b2, b3, b4, b5, f296 m b5] [(1, b2), (1, b5), (1, b0)] m o := h
      obtain ⟨r8, m9, q10, h⟩ := MR_invV h rfl rfl
      have q10 : Run X ρ 40 [(1, b0), (1, b5), (1, b2)] m r8 m9 := q10
      obtain ⟨e11, e12⟩ := d40 q10
      rw [e11, e12] at h
      have h : MR X ρ 7 0 0 qP41 N 55 [b0, b1, b2, b3, b4, b5, f296 m b5] [(1, f40 m b0 b5 b2)] m o := h
      rcases MR_if h rfl rfl with ⟨c13, h⟩ | ⟨c13, h⟩
      ·
        have c13 : (f40 m b0 b5 b2) = 0 := c13
        have h : MR X ρ 7 0 0 qP41 N 65 [b0, b1, b2, b3, b4, b5, f296 m b5] [] m o := h
        have h := CR_inc h rfl (Nat.le_of_ble_eq_true rfl)
        have h : MR X ρ 7 0 0 qP41 N 68 [b0, b1, b2, b3, b4, s32 (b5 + 1), f296 m b5] [] m o := h
        obtain ⟨N14, eN14, h⟩ := CR_goto h rfl rfl
        have h : MR X ρ 7 0 0 qP41 N14 14 [b0, b1, b2, b3, b4, s32 (b5 + 1), f296 m b5] [] m o := h
        have hr : L41_14 m b0 b1 b2 b3 b4 b5 b6 = L41_14 m b0 b1 b2 b3 b4 (s32 (b5 + 1)) (f296 m b5) := Lp_inl (f := K41_14 m b0 b1 b2 b3 b4 b5 b6) (s := (b3, b4, b5, b6)) (s' := (b3, b4, s32 (b5 + 1), f296 m b5)) ((if_neg c1).trans ((if_pos c7).trans ((if_pos c13).trans (rfl))))
        rw [hr]
        exact ih N14 (by omega) (by omega) h
      ·
        have c13 : ¬ ((f40 m b0 b5 b2) = 0) := c13
        have h : MR X ρ 7 0 0 qP41 N 58 [b0, b1, b2, b3, b4, b5, f296 m b5] [] m o := h
        have h := CR_iload h rfl
        have h : MR X ρ 7 0 0 qP41 N 60 [b0, b1, b2, b3, b4, b5, f296 m b5] [(1, f296 m b5)] m o := h
        have h := CR_istore h rfl (Nat.le_of_ble_eq_true rfl)
        have h : MR X ρ 7 0 0 qP41 N 62 [b0, b1, b2, b3, f296 m b5, b5, f296 m b5] [] m o := h
        have h := CR_iload h rfl
        have h : MR X ρ 7 0 0 qP41 N 64 [b0, b1, b2, b3, f296 m b5, b5, f296 m b5] [(1, b5)] m o := h
        have h := CR_istore_n h rfl (Nat.le_of_ble_eq_true rfl)
        have h : MR X ρ 7 0 0 qP41 N 65 [b0, b1, b2, b5, f296 m b5, b5, f296 m b5] [] m o := h
        have h := CR_inc h rfl (Nat.le_of_ble_eq_true rfl)
        have h : MR X ρ 7 0 0 qP41 N 68 [b0, b1, b2, b5, f296 m b5, s32 (b5 + 1), f296 m b5] [] m o := h
        obtain ⟨N15, eN15, h⟩ := CR_goto h rfl rfl
        have h : MR X ρ 7 0 0 qP41 N15 14 [b0, b1, b2, b5, f296 m b5, s32 (b5 + 1), f296 m b5] [] m o := h
        have hr : L41_14 m b0 b1 b2 b3 b4 b5 b6 = L41_14 m b0 b1 b2 b5 (f296 m b5) (s32 (b5 + 1)) (f296 m b5) := Lp_inl (f := K41_14 m b0 b1 b2 b3 b4 b5 b6) (s := (b3, b4, b5, b6)) (s' := (b5, f296 m b5, s32 (b5 + 1), f296 m b5)) ((if_neg c1).trans ((if_pos c7).trans ((if_neg c13).trans (rfl))))
        rw [hr]
        exact ih N15 (by omega) (by omega) h
    ·
      have c7 : ¬ (b4 = (-1)) := c7
      have h : MR X ρ 7 0 0 qP41 N 41 [b0, b1, b2, b3, b4, b5, f296 m b5] [] m o := h
      have h := CR_iload h rfl
      have h : MR X ρ 7 0 0 qP41 N 43 [b0, b1, b2, b3, b4, b5, f296 m b5] [(1, f296 m b5)] m o := h
      have h := CR_iload h rfl
      have h : MR X ρ 7 0 0 qP41 N 45 [b0, b1, b2, b3, b4, b5, f296 m b5] [(1, b4), (1, f296 m b5)] m o := h
      rcases MR_icmp h rfl rfl with ⟨c16, h⟩ | ⟨c16, h⟩
      ·
        have c16 : b4 ≤ (f296 m b5) := c16
        have h : MR X ρ 7 0 0 qP41 N 65 [b0, b1, b2, b3, b4, b5, f296 m b5] [] m o := h
        have h := CR_inc h rfl (Nat.le_of_ble_eq_true rfl)
        have h : MR X ρ 7 0 0 qP41 N 68 [b0, b1, b2, b3, b4, s32 (b5 + 1), f296 m b5] [] m o := h
        obtain ⟨N17, eN17, h⟩ := CR_goto h rfl rfl
        have h : MR X ρ 7 0 0 qP41 N17 14 [b0, b1, b2, b3, b4, s32 (b5 + 1), f296 m b5] [] m o := h
        have hr : L41_14 m b0 b1 b2 b3 b4 b5 b6 = L41_14 m b0 b1 b2 b3 b4 (s32 (b5 + 1)) (f296 m b5) := Lp_inl (f := K41_14 m b0 b1 b2 b3 b4 b5 b6) (s := (b3, b4, b5, b6)) (s' := (b3, b4, s32 (b5 + 1), f296 m b5)) ((if_neg c1).trans ((if_neg c7).trans ((if_pos c16).trans (rfl))))
        rw [hr]
        exact ih N17 (by omega) (by omega) h
      ·
        have c16 : ¬ (b4 ≤ (f296 m b5)) := c16
        have h : MR X ρ 7 0 0 qP41 N 48 [b0, b1, b2, b3, b4, b5, f296 m b5] [] m o := h
        have h := CR_aload_n h rfl
        have h : MR X ρ 7 0 0 qP41 N 49 [b0, b1, b2, b3, b4, b5, f296 m b5] [(1, b0)] m o := h
        have h := CR_iload h rfl
        have h : MR X ρ 7 0 0 qP41 N 51 [b0, b1, b2, b3, b4, b5, f296 m b5] [(1, b5), (1, b0)] m o := h
        have h := CR_iload_n h rfl
        have h : MR X ρ 7 0 0 qP41 N 52 [b0, b1, b2, b3, b4, b5, f296 m b5] [(1, b2), (1, b5), (1, b0)] m o := h
        obtain ⟨r18, m19, q20, h⟩ := MR_invV h rfl rfl
        have q20 : Run X ρ 40 [(1, b0), (1, b5), (1, b2)] m r18 m19 := q20
        obtain ⟨e21, e22⟩ := d40 q20
        rw [e21, e22] at h
        have h : MR X ρ 7 0 0 qP41 N 55 [b0, b1, b2, b3, b4, b5, f296 m b5] [(1, f40 m b0 b5 b2)] m o := h
        rcases MR_if h rfl rfl with ⟨c23, h⟩ | ⟨c23, h⟩
        ·
          have c23 : (f40 m b0 b5 b2) = 0 := c23
          have h : MR X ρ 7 0 0 qP41 N 65 [b0, b1, b2, b3, b4, b5, f296 m b5] [] m o := h
          have h := CR_inc h rfl (Nat.le_of_ble_eq_true rfl)
          have h : MR X ρ 7 0 0 qP41 N 68 [b0, b1, b2, b3, b4, s32 (b5 + 1), f296 m b5] [] m o := h
          obtain ⟨N24, eN24, h⟩ := CR_goto h rfl rfl
          have h : MR X ρ 7 0 0 qP41 N24 14 [b0, b1, b2, b3, b4, s32 (b5 + 1), f296 m b5] [] m o := h
          have hr : L41_14 m b0 b1 b2 b3 b4 b5 b6 = L41_14 m b0 b1 b2 b3 b4 (s32 (b5 + 1)) (f296 m b5) := Lp_inl (f := K41_14 m b0 b1 b2 b3 b4 b5 b6) (s := (b3, b4, b5, b6)) (s' := (b3, b4, s32 (b5 + 1), f296 m b5)) ((if_neg c1).trans ((if_neg c7).trans ((if_neg c16).trans ((if_pos c23).trans (rfl)))))
          rw [hr]
          exact ih N24 (by omega) (by omega) h
        ·
          have c23 : ¬ ((f40 m b0 b5 b2) = 0) := c23
          have h : MR X ρ 7 0 0 qP41 N 58 [b0, b1, b2, b3, b4, b5, f296 m b5] [] m o := h
          have h := CR_iload h rfl
          have h : MR X ρ 7 0 0 qP41 N 60 [b0, b1, b2, b3, b4, b5, f296 m b5] [(1, f296 m b5)] m o := h
          have h := CR_istore h rfl (Nat.le_of_ble_eq_true rfl)
          have h : MR X ρ 7 0 0 qP41 N 62 [b0, b1, b2, b3, f296 m b5, b5, f296 m b5] [] m o := h
          have h := CR_iload h rfl
          have h : MR X ρ 7 0 0 qP41 N 64 [b0, b1, b2, b3, f296 m b5, b5, f296 m b5] [(1, b5)] m o := h
          have h := CR_istore_n h rfl (Nat.le_of_ble_eq_true rfl)
          have h : MR X ρ 7 0 0 qP41 N 65 [b0, b1, b2, b5, f296 m b5, b5, f296 m b5] [] m o := h
          have h := CR_inc h rfl (Nat.le_of_ble_eq_true rfl)
          have h : MR X ρ 7 0 0 qP41 N 68 [b0, b1, b2, b5, f296 m b5, s32 (b5 + 1), f296 m b5] [] m o := h
          obtain ⟨N25, eN25, h⟩ := CR_goto h rfl rfl
          have h : MR X ρ 7 0 0 qP41 N25 14 [b0, b1, b2, b5, f296 m b5, s32 (b5 + 1), f296 m b5] [] m o := h
          have hr : L41_14 m b0 b1 b2 b3 b4 b5 b6 = L41_14 m b0 b1 b2 b5 (f296 m b5) (s32 (b5 + 1)) (f296 m b5) := Lp_inl (f := K41_14 m b0 b1 b2 b3 b4 b5 b6) (s := (b3, b4, b5, b6)) (s' := (b5, f296 m b5, s32 (b5 + 1), f296 m b5)) ((if_neg c1).trans ((if_neg c7).trans ((if_neg c16).trans ((if_neg c23).trans (rfl)))))
          rw [hr]
          exact ih N25 (by omega) (by omega) h
set_option maxRecDepth 16384 in
/-- TriplicateForms$Adviser.fewestToCover(LTriplicateForms$Standing;)I -/
noncomputable def f41 (m : MM) (a0 a1 : Int) : Int := (if ((L41_14 (g43 m a0 a1) a0 a1 (f43 m a0 a1) (-1) (-1) 0 0).2.2.2.1) = (-1) then (L41_14 (g43 m a0 a1) a0 a1 (f43 m a0 a1) (-1) (-1) 0 0).2.2.2.1 else (L41_14 (g43 m a0 a1) a0 a1 (f43 m a0 a1) (-1) (-1) 0 0).2.2.2.1)
set_option maxRecDepth 16384 in
noncomputable def g41 (m : MM) (a0 a1 : Int) : MM := (if ((L41_14 (g43 m a0 a1) a0 a1 (f43 m a0 a1) (-1) (-1) 0 0).2.2.2.1) = (-1) then g43 m a0 a1 else mu (g43 m a0 a1) a0 2 ((L41_14 (g43 m a0 a1) a0 a1 (f43 m a0 a1) (-1) (-1) 0 0).2.2.1))
set_option maxRecDepth 16384 in
theorem d41 {X : KO} {ρ : Nat → Int32} {m m' : MM} {rl : List (Nat × Int)} {a0 a1 : Int} (h : Run X ρ 41 [(1, a0), (1, a1)] m rl m') : rl = [(1, f41 m a0 a1)] ∧ m' = g41 m a0 a1 := by
  obtain ⟨N, ig, h⟩ := Run_CR h rfl
  have h : MR X ρ 7 0 0 qP41 N 0 [a0, a1, 0, 0, 0, 0, 0] [] m (ig, rl, m') := h
  have h := CR_aload_n h rfl
  have h : MR X ρ 7 0 0 qP41 N 1 [a0, a1, 0, 0, 0, 0, 0] [(1, a0)] m (ig, rl, m') := h
  have h := CR_aload_n h rfl
  have h : MR X ρ 7 0 0 qP41 N 2 [a0, a1, 0, 0, 0, 0, 0] [(1, a1), (1, a0)] m (ig, rl, m') := h
  obtain ⟨r1, m2, q3, h⟩ := MR_invV h rfl rfl
  have q3 : Run X ρ 43 [(1, a0), (1, a1)] m r1 m2 := q3
  obtain ⟨e4, e5⟩ := d43 q3
  rw [e4, e5] at h
  have h : MR X ρ 7 0 0 qP41 N 5 [a0, a1, 0, 0, 0, 0, 0] [(1, f43 m a0 a1)] (g43 m a0 a1) (ig, rl, m') := h
  have h := CR_istore_n h rfl (Nat.le_of_ble_eq_true rfl)
  have h : MR X ρ 7 0 0 qP41 N 6 [a0, a1, f43 m a0 a1, 0, 0, 0, 0] [] (g43 m a0 a1) (ig, rl, m') := h
  have h := CR_iconst h rfl rfl
  have h : MR X ρ 7 0 0 qP41 N 7 [a0, a1, f43 m a0 a1, 0, 0, 0, 0] [(1, -1)] (g43 m a0 a1) (ig, rl, m') := h
  have h := CR_istore_n h rfl (Nat.le_of_ble_eq_true rfl)
  have h : MR X ρ 7 0 0 qP41 N 8 [a0, a1, f43 m a0 a1, -1, 0, 0, 0] [] (g43 m a0 a1) (ig, rl, m') := h
  have h := CR_iconst h rfl rfl
  have h : MR X ρ 7 0 0 qP41 N 9 [a0, a1, f43 m a0 a1, -1, 0, 0, 0] [(1, -1)] (g43 m a0 a1) (ig, rl, m') := h
  have h := CR_istore h rfl (Nat.le_of_ble_eq_true rfl)
  have h : MR X ρ 7 0 0 qP41 N 11 [a0, a1, f43 m a0 a1, -1, -1, 0, 0] [] (g43 m a0 a1) (ig, rl, m') := h
  have h := CR_iconst h rfl rfl
  have h : MR X ρ 7 0 0 qP41 N 12 [a0, a1, f43 m a0 a1, -1, -1, 0, 0] [(1, 0)] (g43 m a0 a1) (ig, rl, m') := h
  have h := CR_istore h rfl (Nat.le_of_ble_eq_true rfl)
  have h : MR X ρ 7 0 0 qP41 N 14 [a0, a1, f43 m a0 a1, -1, -1, 0, 0] [] (g43 m a0 a1) (ig, rl, m') := h
  have h := l41_14 (Nat.le_refl _) h
  have h : MR X ρ 7 0 0 qP41 N 71 [a0, a1, f43 m a0 a1, (L41_14 (g43 m a0 a1) a0 a1 (f43 m a0 a1) (-1) (-1) 0 0).2.2.1, (L41_14 (g43 m a0 a1) a0 a1 (f43 m a0 a1) (-1) (-1) 0 0).2.2.2.1, (L41_14 (g43 m a0 a1) a0 a1 (f43 m a0 a1) (-1) (-1) 0 0).2.2.2.2.1, (L41_14 (g43 m a0 a1) a0 a1 (f43 m a0 a1) (-1) (-1) 0 0).2.2.2.2.2] [] (g43 m a0 a1) (ig, rl, m') := h
  have h := CR_iload h rfl
  have h : MR X ρ 7 0 0 qP41 N 73 [a0, a1, f43 m a0 a1, (L41_14 (g43 m a0 a1) a0 a1 (f43 m a0 a1) (-1) (-1) 0 0).2.2.1, (L41_14 (g43 m a0 a1) a0 a1 (f43 m a0 a1) (-1) (-1) 0 0).2.2.2.1, (L41_14 (g43 m a0 a1) a0 a1 (f43 m a0 a1) (-1) (-1) 0 0).2.2.2.2.1, (L41_14 (g43 m a0 a1) a0 a1 (f43 m a0 a1) (-1) (-1) 0 0).2.2.2.2.2] [(1, (L41_14 (g43 m a0 a1) a0 a1 (f43 m a0 a1) (-1) (-1) 0 0).2.2.2.1)] (g43 m a0 a1) (ig, rl, m') := h
  have h := CR_iconst h rfl rfl
  have h : MR X ρ 7 0 0 qP41 N 74 [a0, a1, f43 m a0 a1, (L41_14 (g43 m a0 a1) a0 a1 (f43 m a0 a1) (-1) (-1) 0 0).2.2.1, (L41_14 (g43 m a0 a1) a0 a1 (f43 m a0 a1) (-1) (-1) 0 0).2.2.2.1, (L41_14 (g43 m a0 a1) a0 a1 (f43 m a0 a1) (-1) (-1) 0 0).2.2.2.2.1, (L41_14 (g43 m a0 a1) a0 a1 (f43 m a0 a1) (-1) (-1) 0 0).2.2.2.2.2] [(1, -1), (1, (L41_14 (g43 m a0 a1) a0 a1 (f43 m a0 a1) (-1) (-1) 0 0).2.2.2.1)] (g43 m a0 a1) (ig, rl, m') := h
  rcases MR_icmp h rfl rfl with ⟨c6, h⟩ | ⟨c6, h⟩
  ·
    have c6 : ((L41_14 (g43 m a0 a1) a0 a1 (f43 m a0 a1) (-1) (-1) 0 0).2.2.2.1) = (-1) := c6
    have h : MR X ρ 7 0 0 qP41 N 82 [a0, a1, f43 m a0 a1, (L41_14 (g43 m a0 a1) a0 a1 (f43 m a0 a1) (-1) (-1) 0 0).2.2.1, (L41_14 (g43 m a0 a1) a0 a1 (f43 m a0 a1) (-1) (-1) 0 0).2.2.2.1, (L41_14 (g43 m a0 a1) a0 a1 (f43 m a0 a1) (-1) (-1) 0 0).2.2.2.2.1, (L41_14 (g43 m a0 a1) a0 a1 (f43 m a0 a1) (-1) (-1) 0 0).2.2.2.2.2] [] (g43 m a0 a1) (ig, rl, m') := h
    have h := CR_iload h rfl
    have h : MR X ρ 7 0 0 qP41 N 84 [a0, a1, f43 m a0 a1, (L41_14 (g43 m a0 a1) a0 a1 (f43 m a0 a1) (-1) (-1) 0 0).2.2.1, (L41_14 (g43 m a0 a1) a0 a1 (f43 m a0 a1) (-1) (-1) 0 0).2.2.2.1, (L41_14 (g43 m a0 a1) a0 a1 (f43 m a0 a1) (-1) (-1) 0 0).2.2.2.2.1, (L41_14 (g43 m a0 a1) a0 a1 (f43 m a0 a1) (-1) (-1) 0 0).2.2.2.2.2] [(1, (L41_14 (g43 m a0 a1) a0 a1 (f43 m a0 a1) (-1) (-1) 0 0).2.2.2.1)] (g43 m a0 a1) (ig, rl, m') := h
    have e := CR_end h rfl rfl
    cases e
    exact ⟨congrArg (fun z => [(1, z)]) (Eq.symm (show f41 m a0 a1 = _ from (if_pos c6).trans (rfl))), Eq.symm (show g41 m a0 a1 = _ from (if_pos c6).trans (rfl))⟩
  ·
    have c6 : ¬ (((L41_14 (g43 m a0 a1) a0 a1 (f43 m a0 a1) (-1) (-1) 0 0).2.2.2.1) = (-1)) := c6
    have h : MR X ρ 7 0 0 qP41 N 77 [a0, a1, f43 m a0 a1, (L41_14 (g43 m a0 a1) a0 a1 (f43 m a0 a1) (-1) (-1) 0 0).2.2.1, (L41_14 (g43 m a0 a1) a0 a1 (f43 m a0 a1) (-1) (-1) 0 0).2.2.2.1, (L41_14 (g43 m a0 a1) a0 a1 (f43 m a0 a1) (-1) (-1) 0 0).2.2.2.2.1, (L41_14 (g43 m a0 a1) a0 a1 (f43 m a0 a1) (-1) (-1) 0 0).2.2.2.2.2] [] (g43 m a0 a1) (ig, rl, m') := h
    have h := CR_aload_n h rfl
    have h : MR X ρ 7 0 0 qP41 N 78 [a0, a1, f43 m a0 a1, (L41_14 (g43 m a0 a1) a0 a1 (f43 m a0 a1) (-1) (-1) 0 0).2.2.1, (L41_14 (g43 m a0 a1) a0 a1 (f43 m a0 a1) (-1) (-1) 0 0).2.2.2.1, (L41_14 (g43 m a0 a1) a0 a1 (f43 m a0 a1) (-1) (-1) 0 0).2.2.2.2.1, (L41_14 (g43 m a0 a1) a0 a1 (f43 m a0 a1) (-1) (-1) 0 0).2.2.2.2.2] [(1, a0)] (g43 m a0 a1) (ig, rl, m') := h
    have h := CR_iload_n h rfl
    have h : MR X ρ 7 0 0 qP41 N 79 [a0, a1, f43 m a0 a1, (L41_14 (g43 m a0 a1) a0 a1 (f43 m a0 a1) (-1) (-1) 0 0).2.2.1, (L41_14 (g43 m a0 a1) a0 a1 (f43 m a0 a1) (-1) (-1) 0 0).2.2.2.1, (L41_14 (g43 m a0 a1) a0 a1 (f43 m a0 a1) (-1) (-1) 0 0).2.2.2.2.1, (L41_14 (g43 m a0 a1) a0 a1 (f43 m a0 a1) (-1) (-1) 0 0).2.2.2.2.2] [(1, (L41_14 (g43 m a0 a1) a0 a1 (f43 m a0 a1) (-1) (-1) 0 0).2.2.1), (1, a0)] (g43 m a0 a1) (ig, rl, m') := h
    have h := CR_putf h rfl
    have h : MR X ρ 7 0 0 qP41 N 82 [a0, a1, f43 m a0 a1, (L41_14 (g43 m a0 a1) a0 a1 (f43 m a0 a1) (-1) (-1) 0 0).2.2.1, (L41_14 (g43 m a0 a1) a0 a1 (f43 m a0 a1) (-1) (-1) 0 0).2.2.2.1, (L41_14 (g43 m a0 a1) a0 a1 (f43 m a0 a1) (-1) (-1) 0 0).2.2.2.2.1, (L41_14 (g43 m a0 a1) a0 a1 (f43 m a0 a1) (-1) (-1) 0 0).2.2.2.2.2] [] (mu (g43 m a0 a1) a0 2 ((L41_14 (g43 m a0 a1) a0 a1 (f43 m a0 a1) (-1) (-1) 0 0).2.2.1)) (ig, rl, m') := h
    have h := CR_iload h rfl
    have h : MR X ρ 7 0 0 qP41 N 84 [a0, a1, f43 m a0 a1, (L41_14 (g43 m a0 a1) a0 a1 (f43 m a0 a1) (-1) (-1) 0 0).2.2.1, (L41_14 (g43 m a0 a1) a0 a1 (f43 m a0 a1) (-1) (-1) 0 0).2.2.2.1, (L41_14 (g43 m a0 a1) a0 a1 (f43 m a0 a1) (-1) (-1) 0 0).2.2.2.2.1, (L41_14 (g43 m a0 a1) a0 a1 (f43 m a0 a1) (-1) (-1) 0 0).2.2.2.2.2] [(1, (L41_14 (g43 m a0 a1) a0 a1 (f43 m a0 a1) (-1) (-1) 0 0).2.2.2.1)] (mu (g43 m a0 a1) a0 2 ((L41_14 (g43 m a0 a1) a0 a1 (f43 m a0 a1) (-1) (-1) 0 0).2.2.1)) (ig, rl, m') := h
    have e := CR_end h rfl rfl
    cases e
    exact ⟨congrArg (fun z => [(1, z)]) (Eq.symm (show f41 m a0 a1 = _ from (if_neg c6).trans (rfl))), Eq.symm (show g41 m a0 a1 = _ from (if_neg c6).trans (rfl))⟩
set_option maxRecDepth 16384 in
/-- TriplicateForms$Book.goThrough(LTriplicateForms$Standing;)I, the loop at 19 -/
noncomputable def S47_19 (m : MM) (b0 b1 b2 b3 b4 : Int) : (Int × Int × Int × MM) ⊕ (Nat × Int × (Int × Int × Int × MM)) := (if (m b0 3) ≤ b3 then .inr (1, 0, (b2, b3, b4, m)) else (if 40 ≤ b3 then .inr (1, 0, (b2, b3, b4, m)) else (if b2 = (-1) then (if (f146 m b1 (m (m b0 0) b3) (m (m b0 1) b3) (m (m b0 2) b3)) = 0 then .inl (b2, s32 (b3 + 1), f146 m b1 (m (m b0 0) b3) (m (m b0 1) b3) (m (m b0 2) b3), mu (g135 m b1 (m (m b0 0) b3) (m (m b0 1) b3) (m (m b0 2) b3)) b0 6 (s32 (((g135 m b1 (m (m b0 0) b3) (m (m b0 1) b3) (m (m b0 2) b3)) b0 6) + 1))) else .inl (b3, s32 (b3 + 1), f146 m b1 (m (m b0 0) b3) (m (m b0 1) b3) (m (m b0 2) b3), mu m b0 5 (s32 ((s32 ((m (m b0 0) b3) * 10)) + (f146 m b1 (m (m b0 0) b3) (m (m b0 1) b3) (m (m b0 2) b3)))))) else .inr (1, 0, (b2, b3, b4, m)))))
set_option maxRecDepth 16384 in
noncomputable def K47_19 (m : MM) (b0 b1 b2 b3 b4 : Int) : (Int × Int × Int × MM) → (Int × Int × Int × MM) ⊕ (Nat × Int × (Int × Int × Int × MM)) := fun s => S47_19 s.2.2.2 b0 b1 s.1 s.2.1 s.2.2.1
set_option maxRecDepth 16384 in
noncomputable def L47_19 (m : MM) (b0 b1 b2 b3 b4 : Int) : (Nat × Int × (Int × Int × Int × MM)) := Lp (K47_19 m b0 b1 b2 b3 b4) (b2, b3, b4, m)
set_option maxRecDepth 16384 in
theorem l47_19 {X : KO} {ρ : Nat → Int32} {o : Instr × List (Nat × Int) × MM} {K : Nat} : ∀ {N : Nat} {m : MM} {b0 b1 b2 b3 b4 : Int}, N ≤ K → MR X ρ 5 0 0 qP47 N 19 [b0, b1, b2, b3, b4] [] m o → (MR X ρ 5 0 0 qP47 K 126 [b0, b1, (L47_19 m b0 b1 b2 b3 b4).2.2.1, (L47_19 m b0 b1 b2 b3 b4).2.2.2.1, (L47_19 m b0 b1 b2 b3 b4).2.2.2.2.1] [] ((L47_19 m b0 b1 b2 b3 b4).2.2.2.2.2) o) := by
  intro N
  induction N using Nat.strongRecOn with
  | ind N ih =>
  intro m b0 b1 b2 b3 b4 hK h
  have h := CR_iload_n h rfl
  have h : MR X ρ 5 0 0 qP47 N 20 [b0, b1, b2, b3, b4] [(1, b3)] m o := h
  have h := CR_aload_n h rfl
  have h : MR X ρ 5 0 0 qP47 N 21 [b0, b1, b2, b3, b4] [(1, b0), (1, b3)] m o := h
  have h := CR_getf h rfl (by decide)
  have h : MR X ρ 5 0 0 qP47 N 24 [b0, b1, b2, b3, b4] [(1, m b0 3), (1, b3)] m o := h
  rcases MR_icmp h rfl rfl with ⟨c1, h⟩ | ⟨c1, h⟩
  ·
    have c1 : (m b0 3) ≤ b3 := c1
    have h : MR X ρ 5 0 0 qP47 N 126 [b0, b1, b2, b3, b4] [] m o := h
    have hr : L47_19 m b0 b1 b2 b3 b4 = (1, 0, (b2, b3, b4, m)) := Lp_inr (f := K47_19 m b0 b1 b2 b3 b4) (s := (b2, b3, b4, m)) ((if_pos c1).trans (rfl))
    rw [hr]
    exact CR_le (by omega) h
  ·
    have c1 : ¬ ((m b0 3) ≤ b3) := c1
    have h : MR X ρ 5 0 0 qP47 N 27 [b0, b1, b2, b3, b4] [] m o := h
    have h := CR_iload_n h rfl
    have h : MR X ρ 5 0 0 qP47 N 28 [b0, b1, b2, b3, b4] [(1, b3)] m o := h
    have h := CR_bipush h rfl rfl
    have h : MR X ρ 5 0 0 qP47 N 30 [b0, b1, b2, b3, b4] [(1, 40), (1, b3)] m o := h
    rcases MR_icmp h rfl rfl with ⟨c2, h⟩ | ⟨c2, h⟩
    ·
      have c2 : 40 ≤ b3 := c2
      have h : MR X ρ 5 0 0 qP47 N 126 [b0, b1, b2, b3, b4] [] m o := h
      have hr : L47_19 m b0 b1 b2 b3 b4 = (1, 0, (b2, b3, b4, m)) := Lp_inr (f := K47_19 m b0 b1 b2 b3 b4) (s := (b2, b3, b4, m)) ((if_neg c1).trans ((if_pos c2).trans (rfl)))
      rw [hr]
      exact CR_le (by omega) h
    ·
      have c2 : ¬ (40 ≤ b3) := c2
      have h : MR X ρ 5 0 0 qP47 N 33 [b0, b1, b2, b3, b4] [] m o := h
      have h := CR_iload_n h rfl
      have h : MR X ρ 5 0 0 qP47 N 34 [b0, b1, b2, b3, b4] [(1, b2)] m o := h
      have h := CR_iconst h rfl rfl
      have h : MR X ρ 5 0 0 qP47 N 35 [b0, b1, b2, b3, b4] [(1, -1), (1, b2)] m o := h
      rcases MR_icmp h rfl rfl with ⟨c3, h⟩ | ⟨c3, h⟩
      ·
        have c3 : ¬ (b2 = (-1)) := c3
        have h : MR X ρ 5 0 0 qP47 N 126 [b0, b1, b2, b3, b4] [] m o := h
        have hr : L47_19 m b0 b1 b2 b3 b4 = (1, 0, (b2, b3, b4, m)) := Lp_inr (f := K47_19 m b0 b1 b2 b3 b4) (s := (b2, b3, b4, m)) ((if_neg c1).trans ((if_neg c2).trans ((if_neg c3).trans (rfl))))
        rw [hr]
        exact CR_le (by omega) h
      ·
        have c3 : b2 = (-1) := Decidable.of_not_not (show ¬ ¬ (b2 = (-1)) from c3)
        have h : MR X ρ 5 0 0 qP47 N 38 [b0, b1, b2, b3, b4] [] m o := h
        have h := CR_aload_n h rfl
        have h : MR X ρ 5 0 0 qP47 N 39 [b0, b1, b2, b3, b4] [(1, b1)] m o := h
        have h := CR_aload_n h rfl
        have h : MR X ρ 5 0 0 qP47 N 40 [b0, b1, b2, b3, b4] [(1, b0), (1, b1)] m o := h
        have h := CR_getf h rfl (by decide)
        have h : MR X ρ 5 0 0 qP47 N 43 [b0, b1, b2, b3, b4] [(1, m b0 0), (1, b1)] m o := h
        have h := CR_iload_n h rfl
        have h : MR X ρ 5 0 0 qP47 N 44 [b0, b1, b2, b3, b4] [(1, b3), (1, m b0 0), (1, b1)] m o := h
        have h := CR_iaload h rfl rfl
        have h : MR X ρ 5 0 0 qP47 N 45 [b0, b1, b2, b3, b4] [(1, m (m b0 0) b3), (1, b1)] m o := h
        have h := CR_aload_n h rfl
        have h : MR X ρ 5 0 0 qP47 N 46 [b0, b1, b2, b3, b4] [(1, b0), (1, m (m b0 0) b3), (1, b1)] m o := h
        have h := CR_getf h rfl (by decide)
        have h : MR X ρ 5 0 0 qP47 N 49 [b0, b1, b2, b3, b4] [(1, m b0 1), (1, m (m b0 0) b3), (1, b1)] m o := h
        have h := CR_iload_n h rfl
        have h : MR X ρ 5 0 0 qP47 N 50 [b0, b1, b2, b3, b4] [(1, b3), (1, m b0 1), (1, m (m b0 0) b3), (1, b1)] m o := h
        have h := CR_iaload h rfl rfl
        have h : MR X ρ 5 0 0 qP47 N 51 [b0, b1, b2, b3, b4] [(1, m (m b0 1) b3), (1, m (m b0 0) b3), (1, b1)] m o := h
        have h := CR_aload_n h rfl
        have h : MR X ρ 5 0 0 qP47 N 52 [b0, b1, b2, b3, b4] [(1, b0), (1, m (m b0 1) b3), (1, m (m b0 0) b3), (1, b1)] m o := h
        have h := CR_getf h rfl (by decide)
        have h : MR X ρ 5 0 0 qP47 N 55 [b0, b1, b2, b3, b4] [(1, m b0 2), (1, m (m b0 1) b3), (1, m (m b0 0) b3), (1, b1)] m o := h
        have h := CR_iload_n h rfl
        have h : MR X ρ 5 0 0 qP47 N 56 [b0, b1, b2, b3, b4] [(1, b3), (1, m b0 2), (1, m (m b0 1) b3), (1, m (m b0 0) b3), (1, b1)] m o := h
        have h := CR_iaload h rfl rfl
        have h : MR X ρ 5 0 0 qP47 N 57 [b0, b1, b2, b3, b4] [(1, m (m b0 2) b3), (1, m (m b0 1) b3), (1, m (m b0 0) b3), (1, b1)] m o := h
        obtain ⟨r4, m5, q6, h⟩ := MR_invV h rfl rfl
        have q6 : Run X ρ 146 [(1, b1), (1, m (m b0 0) b3), (1, m (m b0 1) b3), (1, m (m b0 2) b3)] m r4 m5 := q6
        obtain ⟨e7, e8⟩ := d146 q6
        rw [e7, e8] at h
        have h : MR X ρ 5 0 0 qP47 N 60 [b0, b1, b2, b3, b4] [(1, f146 m b1 (m (m b0 0) b3) (m (m b0 1) b3) (m (m b0 2) b3))] m o := h
        have h := CR_istore h rfl (Nat.le_of_ble_eq_true rfl)
        have h : MR X ρ 5 0 0 qP47 N 62 [b0, b1, b2, b3, f146 m b1 (m (m b0 0) b3) (m (m b0 1) b3) (m (m b0 2) b3)] [] m o := h
        have h := CR_iload h rfl
        have h : MR X ρ 5 0 0 qP47 N 64 [b0, b1, b2, b3, f146 m b1 (m (m b0 0) b3) (m (m b0 1) b3) (m (m b0 2) b3)] [(1, f146 m b1 (m (m b0 0) b3) (m (m b0 1) b3) (m (m b0 2) b3))] m o := h
        rcases MR_if h rfl rfl with ⟨c9, h⟩ | ⟨c9, h⟩
        ·
          have c9 : (f146 m b1 (m (m b0 0) b3) (m (m b0 1) b3) (m (m b0 2) b3)) = 0 := c9
          have h : MR X ρ 5 0 0 qP47 N 88 [b0, b1, b2, b3, f146 m b1 (m (m b0 0) b3) (m (m b0 1) b3) (m (m b0 2) b3)] [] m o := h
          have h := CR_aload_n h rfl
          have h : MR X ρ 5 0 0 qP47 N 89 [b0, b1, b2, b3, f146 m b1 (m (m b0 0) b3) (m (m b0 1) b3) (m (m b0 2) b3)] [(1, b1)] m o := h
          have h := CR_aload_n h rfl
          have h : MR X ρ 5 0 0 qP47 N 90 [b0, b1, b2, b3, f146 m b1 (m (m b0 0) b3) (m (m b0 1) b3) (m (m b0 2) b3)] [(1, b0), (1, b1)] m o := h
          have h := CR_getf h rfl (by decide)
          have h : MR X ρ 5 0 0 qP47 N 93 [b0, b1, b2, b3, f146 m b1 (m (m b0 0) b3) (m (m b0 1) b3) (m (m b0 2) b3)] [(1, m b0 0), (1, b1)] m o := h
          have h := CR_iload_n h rfl
          have h : MR X ρ 5 0 0 qP47 N 94 [b0, b1, b2, b3, f146 m b1 (m (m b0 0) b3) (m (m b0 1) b3) (m (m b0 2) b3)] [(1, b3), (1, m b0 0), (1, b1)] m o := h
          have h := CR_iaload h rfl rfl
          have h : MR X ρ 5 0 0 qP47 N 95 [b0, b1, b2, b3, f146 m b1 (m (m b0 0) b3) (m (m b0 1) b3) (m (m b0 2) b3)] [(1, m (m b0 0) b3), (1, b1)] m o := h
          have h := CR_aload_n h rfl
          have h : MR X ρ 5 0 0 qP47 N 96 [b0, b1, b2, b3, f146 m b1 (m (m b0 0) b3) (m (m b0 1) b3) (m (m b0 2) b3)] [(1, b0), (1, m (m b0 0) b3), (1, b1)] m o := h
          have h := CR_getf h rfl (by decide)
          have h : MR X ρ 5 0 0 qP47 N 99 [b0, b1, b2, b3, f146 m b1 (m (m b0 0) b3) (m (m b0 1) b3) (m (m b0 2) b3)] [(1, m b0 1), (1, m (m b0 0) b3), (1, b1)] m o := h
          have h := CR_iload_n h rfl
          have h : MR X ρ 5 0 0 qP47 N 100 [b0, b1, b2, b3, f146 m b1 (m (m b0 0) b3) (m (m b0 1) b3) (m (m b0 2) b3)] [(1, b3), (1, m b0 1), (1, m (m b0 0) b3), (1, b1)] m o := h
          have h := CR_iaload h rfl rfl
          have h : MR X ρ 5 0 0 qP47 N 101 [b0, b1, b2, b3, f146 m b1 (m (m b0 0) b3) (m (m b0 1) b3) (m (m b0 2) b3)] [(1, m (m b0 1) b3), (1, m (m b0 0) b3), (1, b1)] m o := h
          have h := CR_aload_n h rfl
          have h : MR X ρ 5 0 0 qP47 N 102 [b0, b1, b2, b3, f146 m b1 (m (m b0 0) b3) (m (m b0 1) b3) (m (m b0 2) b3)] [(1, b0), (1, m (m b0 1) b3), (1, m (m b0 0) b3), (1, b1)] m o := h
          have h := CR_getf h rfl (by decide)
          have h : MR X ρ 5 0 0 qP47 N 105 [b0, b1, b2, b3, f146 m b1 (m (m b0 0) b3) (m (m b0 1) b3) (m (m b0 2) b3)] [(1, m b0 2), (1, m (m b0 1) b3), (1, m (m b0 0) b3), (1, b1)] m o := h
          have h := CR_iload_n h rfl
          have h : MR X ρ 5 0 0 qP47 N 106 [b0, b1, b2, b3, f146 m b1 (m (m b0 0) b3) (m (m b0 1) b3) (m (m b0 2) b3)] [(1, b3), (1, m b0 2), (1, m (m b0 1) b3), (1, m (m b0 0) b3), (1, b1)] m o := h
          have h := CR_iaload h rfl rfl
          have h : MR X ρ 5 0 0 qP47 N 107 [b0, b1, b2, b3, f146 m b1 (m (m b0 0) b3) (m (m b0 1) b3) (m (m b0 2) b3)] [(1, m (m b0 2) b3), (1, m (m b0 1) b3), (1, m (m b0 0) b3), (1, b1)] m o := h
          obtain ⟨r10, m11, q12, h⟩ := MR_invV h rfl rfl
          have q12 : Run X ρ 135 [(1, b1), (1, m (m b0 0) b3), (1, m (m b0 1) b3), (1, m (m b0 2) b3)] m r10 m11 := q12
          obtain ⟨e13, e14⟩ := d135 q12
          rw [e13, e14] at h
          have h : MR X ρ 5 0 0 qP47 N 110 [b0, b1, b2, b3, f146 m b1 (m (m b0 0) b3) (m (m b0 1) b3) (m (m b0 2) b3)] [] (g135 m b1 (m (m b0 0) b3) (m (m b0 1) b3) (m (m b0 2) b3)) o := h
          have h := CR_aload_n h rfl
          have h : MR X ρ 5 0 0 qP47 N 111 [b0, b1, b2, b3, f146 m b1 (m (m b0 0) b3) (m (m b0 1) b3) (m (m b0 2) b3)] [(1, b0)] (g135 m b1 (m (m b0 0) b3) (m (m b0 1) b3) (m (m b0 2) b3)) o := h
          have h := CR_dup h rfl
          have h : MR X ρ 5 0 0 qP47 N 112 [b0, b1, b2, b3, f146 m b1 (m (m b0 0) b3) (m (m b0 1) b3) (m (m b0 2) b3)] [(1, b0), (1, b0)] (g135 m b1 (m (m b0 0) b3) (m (m b0 1) b3) (m (m b0 2) b3)) o := h
          have h := CR_getf h rfl (by decide)
          have h : MR X ρ 5 0 0 qP47 N 115 [b0, b1, b2, b3, f146 m b1 (m (m b0 0) b3) (m (m b0 1) b3) (m (m b0 2) b3)] [(1, (g135 m b1 (m (m b0 0) b3) (m (m b0 1) b3) (m (m b0 2) b3)) b0 6), (1, b0)] (g135 m b1 (m (m b0 0) b3) (m (m b0 1) b3) (m (m b0 2) b3)) o := h
          have h := CR_iconst h rfl rfl
          have h : MR X ρ 5 0 0 qP47 N 116 [b0, b1, b2, b3, f146 m b1 (m (m b0 0) b3) (m (m b0 1) b3) (m (m b0 2) b3)] [(1, 1), (1, (g135 m b1 (m (m b0 0) b3) (m (m b0 1) b3) (m (m b0 2) b3)) b0 6), (1, b0)] (g135 m b1 (m (m b0 0) b3) (m (m b0 1) b3) (m (m b0 2) b3)) o := h
          have h := CR_iadd h rfl
          have h : MR X ρ 5 0 0 qP47 N 117 [b0, b1, b2, b3, f146 m b1 (m (m b0 0) b3) (m (m b0 1) b3) (m (m b0 2) b3)] [(1, s32 (((g135 m b1 (m (m b0 0) b3) (m (m b0 1) b3) (m (m b0 2) b3)) b0 6) + 1)), (1, b0)] (g135 m b1 (m (m b0 0) b3) (m (m b0 1) b3) (m (m b0 2) b3)) o := h
          have h := CR_putf h rfl
          have h : MR X ρ 5 0 0 qP47 N 120 [b0, b1, b2, b3, f146 m b1 (m (m b0 0) b3) (m (m b0 1) b3) (m (m b0 2) b3)] [] (mu (g135 m b1 (m (m b0 0) b3) (m (m b0 1) b3) (m (m b0 2) b3)) b0 6 (s32 (((g135 m b1 (m (m b0 0) b3) (m (m b0 1) b3) (m (m b0 2) b3)) b0 6) + 1))) o := h
          have h := CR_inc h rfl (Nat.le_of_ble_eq_true rfl)
          have h : MR X ρ 5 0 0 qP47 N 123 [b0, b1, b2, s32 (b3 + 1), f146 m b1 (m (m b0 0) b3) (m (m b0 1) b3) (m (m b0 2) b3)] [] (mu (g135 m b1 (m (m b0 0) b3) (m (m b0 1) b3) (m (m b0 2) b3)) b0 6 (s32 (((g135 m b1 (m (m b0 0) b3) (m (m b0 1) b3) (m (m b0 2) b3)) b0 6) + 1))) o := h
          obtain ⟨N15, eN15, h⟩ := CR_goto h rfl rfl
          have h : MR X ρ 5 0 0 qP47 N15 19 [b0, b1, b2, s32 (b3 + 1), f146 m b1 (m (m b0 0) b3) (m (m b0 1) b3) (m (m b0 2) b3)] [] (mu (g135 m b1 (m (m b0 0) b3) (m (m b0 1) b3) (m (m b0 2) b3)) b0 6 (s32 (((g135 m b1 (m (m b0 0) b3) (m (m b0 1) b3) (m (m b0 2) b3)) b0 6) + 1))) o := h
          have hr : L47_19 m b0 b1 b2 b3 b4 = L47_19 (mu (g135 m b1 (m (m b0 0) b3) (m (m b0 1) b3) (m (m b0 2) b3)) b0 6 (s32 (((g135 m b1 (m (m b0 0) b3) (m (m b0 1) b3) (m (m b0 2) b3)) b0 6) + 1))) b0 b1 b2 (s32 (b3 + 1)) (f146 m b1 (m (m b0 0) b3) (m (m b0 1) b3) (m (m b0 2) b3)) := Lp_inl (f := K47_19 m b0 b1 b2 b3 b4) (s := (b2, b3, b4, m)) (s' := (b2, s32 (b3 + 1), f146 m b1 (m (m b0 0) b3) (m (m b0 1) b3) (m (m b0 2) b3), mu (g135 m b1 (m (m b0 0) b3) (m (m b0 1) b3) (m (m b0 2) b3)) b0 6 (s32 (((g135 m b1 (m (m b0 0) b3) (m (m b0 1) b3) (m (m b0 2) b3)) b0 6) + 1)))) ((if_neg c1).trans ((if_neg c2).trans ((if_pos c3).trans ((if_pos c9).trans (rfl)))))
          rw [hr]
          exact ih N15 (by omega) (by omega) h
        ·
          have c9 : ¬ ((f146 m b1 (m (m b0 0) b3) (m (m b0 1) b3) (m (m b0 2) b3)) = 0) := c9
          have h : MR X ρ 5 0 0 qP47 N 67 [b0, b1, b2, b3, f146 m b1 (m (m b0 0) b3) (m (m b0 1) b3) (m (m b0 2) b3)] [] m o := h
          have h := CR_aload_n h rfl
          have h : MR X ρ 5 0 0 qP47 N 68 [b0, b1, b2, b3, f146 m b1 (m (m b0 0) b3) (m (m b0 1) b3) (m (m b0 2) b3)] [(1, b0)] m o := h
          have h := CR_aload_n h rfl
          have h : MR X ρ 5 0 0 qP47 N 69 [b0, b1, b2, b3, f146 m b1 (m (m b0 0) b3) (m (m b0 1) b3) (m (m b0 2) b3)] [(1, b0), (1, b0)] m o := h
          have h := CR_getf h rfl (by decide)
          have h : MR X ρ 5 0 0 qP47 N 72 [b0, b1, b2, b3, f146 m b1 (m (m b0 0) b3) (m (m b0 1) b3) (m (m b0 2) b3)] [(1, m b0 0), (1, b0)] m o := h
          have h := CR_iload_n h rfl
          have h : MR X ρ 5 0 0 qP47 N 73 [b0, b1, b2, b3, f146 m b1 (m (m b0 0) b3) (m (m b0 1) b3) (m (m b0 2) b3)] [(1, b3), (1, m b0 0), (1, b0)] m o := h
          have h := CR_iaload h rfl rfl
          have h : MR X ρ 5 0 0 qP47 N 74 [b0, b1, b2, b3, f146 m b1 (m (m b0 0) b3) (m (m b0 1) b3) (m (m b0 2) b3)] [(1, m (m b0 0) b3), (1, b0)] m o := h
          have h := CR_bipush h rfl rfl
          have h : MR X ρ 5 0 0 qP47 N 76 [b0, b1, b2, b3, f146 m b1 (m (m b0 0) b3) (m (m b0 1) b3) (m (m b0 2) b3)] [(1, 10), (1, m (m b0 0) b3), (1, b0)] m o := h
          have h := CR_imul h rfl
          have h : MR X ρ 5 0 0 qP47 N 77 [b0, b1, b2, b3, f146 m b1 (m (m b0 0) b3) (m (m b0 1) b3) (m (m b0 2) b3)] [(1, s32 ((m (m b0 0) b3) * 10)), (1, b0)] m o := h
          have h := CR_iload h rfl
          have h : MR X ρ 5 0 0 qP47 N 79 [b0, b1, b2, b3, f146 m b1 (m (m b0 0) b3) (m (m b0 1) b3) (m (m b0 2) b3)] [(1, f146 m b1 (m (m b0 0) b3) (m (m b0 1) b3) (m (m b0 2) b3)), (1, s32 ((m (m b0 0) b3) * 10)), (1, b0)] m o := h
          have h := CR_iadd h rfl
          have h : MR X ρ 5 0 0 qP47 N 80 [b0, b1, b2, b3, f146 m b1 (m (m b0 0) b3) (m (m b0 1) b3) (m (m b0 2) b3)] [(1, s32 ((s32 ((m (m b0 0) b3) * 10)) + (f146 m b1 (m (m b0 0) b3) (m (m b0 1) b3) (m (m b0 2) b3)))), (1, b0)] m o := h
          have h := CR_putf h rfl
          have h : MR X ρ 5 0 0 qP47 N 83 [b0, b1, b2, b3, f146 m b1 (m (m b0 0) b3) (m (m b0 1) b3) (m (m b0 2) b3)] [] (mu m b0 5 (s32 ((s32 ((m (m b0 0) b3) * 10)) + (f146 m b1 (m (m b0 0) b3) (m (m b0 1) b3) (m (m b0 2) b3))))) o := h
          have h := CR_iload_n h rfl
          have h : MR X ρ 5 0 0 qP47 N 84 [b0, b1, b2, b3, f146 m b1 (m (m b0 0) b3) (m (m b0 1) b3) (m (m b0 2) b3)] [(1, b3)] (mu m b0 5 (s32 ((s32 ((m (m b0 0) b3) * 10)) + (f146 m b1 (m (m b0 0) b3) (m (m b0 1) b3) (m (m b0 2) b3))))) o := h
          have h := CR_istore_n h rfl (Nat.le_of_ble_eq_true rfl)
          have h : MR X ρ 5 0 0 qP47 N 85 [b0, b1, b3, b3, f146 m b1 (m (m b0 0) b3) (m (m b0 1) b3) (m (m b0 2) b3)] [] (mu m b0 5 (s32 ((s32 ((m (m b0 0) b3) * 10)) + (f146 m b1 (m (m b0 0) b3) (m (m b0 1) b3) (m (m b0 2) b3))))) o := h
          have h := CR_go h rfl rfl
          have h : MR X ρ 5 0 0 qP47 N 120 [b0, b1, b3, b3, f146 m b1 (m (m b0 0) b3) (m (m b0 1) b3) (m (m b0 2) b3)] [] (mu m b0 5 (s32 ((s32 ((m (m b0 0) b3) * 10)) + (f146 m b1 (m (m b0 0) b3) (m (m b0 1) b3) (m (m b0 2) b3))))) o := h
          have h := CR_inc h rfl (Nat.le_of_ble_eq_true rfl)
          have h : MR X ρ 5 0 0 qP47 N 123 [b0, b1, b3, s32 (b3 + 1), f146 m b1 (m (m b0 0) b3) (m (m b0 1) b3) (m (m b0 2) b3)] [] (mu m b0 5 (s32 ((s32 ((m (m b0 0) b3) * 10)) + (f146 m b1 (m (m b0 0) b3) (m (m b0 1) b3) (m (m b0 2) b3))))) o := h
          obtain ⟨N16, eN16, h⟩ := CR_goto h rfl rfl
          have h : MR X ρ 5 0 0 qP47 N16 19 [b0, b1, b3, s32 (b3 + 1), f146 m b1 (m (m b0 0) b3) (m (m b0 1) b3) (m (m b0 2) b3)] [] (mu m b0 5 (s32 ((s32 ((m (m b0 0) b3) * 10)) + (f146 m b1 (m (m b0 0) b3) (m (m b0 1) b3) (m (m b0 2) b3))))) o := h
          have hr : L47_19 m b0 b1 b2 b3 b4 = L47_19 (mu m b0 5 (s32 ((s32 ((m (m b0 0) b3) * 10)) + (f146 m b1 (m (m b0 0) b3) (m (m b0 1) b3) (m (m b0 2) b3))))) b0 b1 b3 (s32 (b3 + 1)) (f146 m b1 (m (m b0 0) b3) (m (m b0 1) b3) (m (m b0 2) b3)) := Lp_inl (f := K47_19 m b0 b1 b2 b3 b4) (s := (b2, b3, b4, m)) (s' := (b3, s32 (b3 + 1), f146 m b1 (m (m b0 0) b3) (m (m b0 1) b3) (m (m b0 2) b3), mu m b0 5 (s32 ((s32 ((m (m b0 0) b3) * 10)) + (f146 m b1 (m (m b0 0) b3) (m (m b0 1) b3) (m (m b0 2) b3)))))) ((if_neg c1).trans ((if_neg c2).trans ((if_pos c3).trans ((if_neg c9).trans (rfl)))))
          rw [hr]
          exact ih N16 (by omega) (by omega) h
set_option maxRecDepth 16384 in
/-- TriplicateForms$Book.goThrough(LTriplicateForms$Standing;)I -/
noncomputable def f47 (m : MM) (a0 a1 : Int) : Int := (L47_19 (mu (mu (mu m a0 4 1) a0 5 0) a0 6 0) a0 a1 (-1) 0 0).2.2.1
set_option maxRecDepth 16384 in
noncomputable def g47 (m : MM) (a0 a1 : Int) : MM := mu (mu ((L47_19 (mu (mu (mu m a0 4 1) a0 5 0) a0 6 0) a0 a1 (-1) 0 0).2.2.2.2.2) a0 7 (((L47_19 (mu (mu (mu m a0 4 1) a0 5 0) a0 6 0) a0 a1 (-1) 0 0).2.2.2.2.2) a1 8)) a0 8 (f119 (mu ((L47_19 (mu (mu (mu m a0 4 1) a0 5 0) a0 6 0) a0 a1 (-1) 0 0).2.2.2.2.2) a0 7 (((L47_19 (mu (mu (mu m a0 4 1) a0 5 0) a0 6 0) a0 a1 (-1) 0 0).2.2.2.2.2) a1 8)) a1 2)
set_option maxRecDepth 16384 in
theorem d47 {X : KO} {ρ : Nat → Int32} {m m' : MM} {rl : List (Nat × Int)} {a0 a1 : Int} (h : Run X ρ 47 [(1, a0), (1, a1)] m rl m') : rl = [(1, f47 m a0 a1)] ∧ m' = g47 m a0 a1 := by
  obtain ⟨N, ig, h⟩ := Run_CR h rfl
  have h : MR X ρ 5 0 0 qP47 N 0 [a0, a1, 0, 0, 0] [] m (ig, rl, m') := h
  have h := CR_aload_n h rfl
  have h : MR X ρ 5 0 0 qP47 N 1 [a0, a1, 0, 0, 0] [(1, a0)] m (ig, rl, m') := h
  have h := CR_iconst h rfl rfl
  have h : MR X ρ 5 0 0 qP47 N 2 [a0, a1, 0, 0, 0] [(1, 1), (1, a0)] m (ig, rl, m') := h
  have h := CR_putf h rfl
  have h : MR X ρ 5 0 0 qP47 N 5 [a0, a1, 0, 0, 0] [] (mu m a0 4 1) (ig, rl, m') := h
  have h := CR_aload_n h rfl
  have h : MR X ρ 5 0 0 qP47 N 6 [a0, a1, 0, 0, 0] [(1, a0)] (mu m a0 4 1) (ig, rl, m') := h
  have h := CR_iconst h rfl rfl
  have h : MR X ρ 5 0 0 qP47 N 7 [a0, a1, 0, 0, 0] [(1, 0), (1, a0)] (mu m a0 4 1) (ig, rl, m') := h
  have h := CR_putf h rfl
  have h : MR X ρ 5 0 0 qP47 N 10 [a0, a1, 0, 0, 0] [] (mu (mu m a0 4 1) a0 5 0) (ig, rl, m') := h
  have h := CR_aload_n h rfl
  have h : MR X ρ 5 0 0 qP47 N 11 [a0, a1, 0, 0, 0] [(1, a0)] (mu (mu m a0 4 1) a0 5 0) (ig, rl, m') := h
  have h := CR_iconst h rfl rfl
  have h : MR X ρ 5 0 0 qP47 N 12 [a0, a1, 0, 0, 0] [(1, 0), (1, a0)] (mu (mu m a0 4 1) a0 5 0) (ig, rl, m') := h
  have h := CR_putf h rfl
  have h : MR X ρ 5 0 0 qP47 N 15 [a0, a1, 0, 0, 0] [] (mu (mu (mu m a0 4 1) a0 5 0) a0 6 0) (ig, rl, m') := h
  have h := CR_iconst h rfl rfl
  have h : MR X ρ 5 0 0 qP47 N 16 [a0, a1, 0, 0, 0] [(1, -1)] (mu (mu (mu m a0 4 1) a0 5 0) a0 6 0) (ig, rl, m') := h
  have h := CR_istore_n h rfl (Nat.le_of_ble_eq_true rfl)
  have h : MR X ρ 5 0 0 qP47 N 17 [a0, a1, -1, 0, 0] [] (mu (mu (mu m a0 4 1) a0 5 0) a0 6 0) (ig, rl, m') := h
  have h := CR_iconst h rfl rfl
  have h : MR X ρ 5 0 0 qP47 N 18 [a0, a1, -1, 0, 0] [(1, 0)] (mu (mu (mu m a0 4 1) a0 5 0) a0 6 0) (ig, rl, m') := h
  have h := CR_istore_n h rfl (Nat.le_of_ble_eq_true rfl)
  have h : MR X ρ 5 0 0 qP47 N 19 [a0, a1, -1, 0, 0] [] (mu (mu (mu m a0 4 1) a0 5 0) a0 6 0) (ig, rl, m') := h
  have h := l47_19 (Nat.le_refl _) h
  have h : MR X ρ 5 0 0 qP47 N 126 [a0, a1, (L47_19 (mu (mu (mu m a0 4 1) a0 5 0) a0 6 0) a0 a1 (-1) 0 0).2.2.1, (L47_19 (mu (mu (mu m a0 4 1) a0 5 0) a0 6 0) a0 a1 (-1) 0 0).2.2.2.1, (L47_19 (mu (mu (mu m a0 4 1) a0 5 0) a0 6 0) a0 a1 (-1) 0 0).2.2.2.2.1] [] ((L47_19 (mu (mu (mu m a0 4 1) a0 5 0) a0 6 0) a0 a1 (-1) 0 0).2.2.2.2.2) (ig, rl, m') := h
  have h := CR_aload_n h rfl
  have h : MR X ρ 5 0 0 qP47 N 127 [a0, a1, (L47_19 (mu (mu (mu m a0 4 1) a0 5 0) a0 6 0) a0 a1 (-1) 0 0).2.2.1, (L47_19 (mu (mu (mu m a0 4 1) a0 5 0) a0 6 0) a0 a1 (-1) 0 0).2.2.2.1, (L47_19 (mu (mu (mu m a0 4 1) a0 5 0) a0 6 0) a0 a1 (-1) 0 0).2.2.2.2.1] [(1, a0)] ((L47_19 (mu (mu (mu m a0 4 1) a0 5 0) a0 6 0) a0 a1 (-1) 0 0).2.2.2.2.2) (ig, rl, m') := h
  have h := CR_aload_n h rfl
  have h : MR X ρ 5 0 0 qP47 N 128 [a0, a1, (L47_19 (mu (mu (mu m a0 4 1) a0 5 0) a0 6 0) a0 a1 (-1) 0 0).2.2.1, (L47_19 (mu (mu (mu m a0 4 1) a0 5 0) a0 6 0) a0 a1 (-1) 0 0).2.2.2.1, (L47_19 (mu (mu (mu m a0 4 1) a0 5 0) a0 6 0) a0 a1 (-1) 0 0).2.2.2.2.1] [(1, a1), (1, a0)] ((L47_19 (mu (mu (mu m a0 4 1) a0 5 0) a0 6 0) a0 a1 (-1) 0 0).2.2.2.2.2) (ig, rl, m') := h
  have h := CR_getf h rfl (by decide)
  have h : MR X ρ 5 0 0 qP47 N 131 [a0, a1, (L47_19 (mu (mu (mu m a0 4 1) a0 5 0) a0 6 0) a0 a1 (-1) 0 0).2.2.1, (L47_19 (mu (mu (mu m a0 4 1) a0 5 0) a0 6 0) a0 a1 (-1) 0 0).2.2.2.1, (L47_19 (mu (mu (mu m a0 4 1) a0 5 0) a0 6 0) a0 a1 (-1) 0 0).2.2.2.2.1] [(1, ((L47_19 (mu (mu (mu m a0 4 1) a0 5 0) a0 6 0) a0 a1 (-1) 0 0).2.2.2.2.2) a1 8), (1, a0)] ((L47_19 (mu (mu (mu m a0 4 1) a0 5 0) a0 6 0) a0 a1 (-1) 0 0).2.2.2.2.2) (ig, rl, m') := h
  have h := CR_putf h rfl
  have h : MR X ρ 5 0 0 qP47 N 134 [a0, a1, (L47_19 (mu (mu (mu m a0 4 1) a0 5 0) a0 6 0) a0 a1 (-1) 0 0).2.2.1, (L47_19 (mu (mu (mu m a0 4 1) a0 5 0) a0 6 0) a0 a1 (-1) 0 0).2.2.2.1, (L47_19 (mu (mu (mu m a0 4 1) a0 5 0) a0 6 0) a0 a1 (-1) 0 0).2.2.2.2.1] [] (mu ((L47_19 (mu (mu (mu m a0 4 1) a0 5 0) a0 6 0) a0 a1 (-1) 0 0).2.2.2.2.2) a0 7 (((L47_19 (mu (mu (mu m a0 4 1) a0 5 0) a0 6 0) a0 a1 (-1) 0 0).2.2.2.2.2) a1 8)) (ig, rl, m') := h
  have h := CR_aload_n h rfl
  have h : MR X ρ 5 0 0 qP47 N 135 [a0, a1, (L47_19 (mu (mu (mu m a0 4 1) a0 5 0) a0 6 0) a0 a1 (-1) 0 0).2.2.1, (L47_19 (mu (mu (mu m a0 4 1) a0 5 0) a0 6 0) a0 a1 (-1) 0 0).2.2.2.1, (L47_19 (mu (mu (mu m a0 4 1) a0 5 0) a0 6 0) a0 a1 (-1) 0 0).2.2.2.2.1] [(1, a0)] (mu ((L47_19 (mu (mu (mu m a0 4 1) a0 5 0) a0 6 0) a0 a1 (-1) 0 0).2.2.2.2.2) a0 7 (((L47_19 (mu (mu (mu m a0 4 1) a0 5 0) a0 6 0) a0 a1 (-1) 0 0).2.2.2.2.2) a1 8)) (ig, rl, m') := h
  have h := CR_aload_n h rfl
  have h : MR X ρ 5 0 0 qP47 N 136 [a0, a1, (L47_19 (mu (mu (mu m a0 4 1) a0 5 0) a0 6 0) a0 a1 (-1) 0 0).2.2.1, (L47_19 (mu (mu (mu m a0 4 1) a0 5 0) a0 6 0) a0 a1 (-1) 0 0).2.2.2.1, (L47_19 (mu (mu (mu m a0 4 1) a0 5 0) a0 6 0) a0 a1 (-1) 0 0).2.2.2.2.1] [(1, a1), (1, a0)] (mu ((L47_19 (mu (mu (mu m a0 4 1) a0 5 0) a0 6 0) a0 a1 (-1) 0 0).2.2.2.2.2) a0 7 (((L47_19 (mu (mu (mu m a0 4 1) a0 5 0) a0 6 0) a0 a1 (-1) 0 0).2.2.2.2.2) a1 8)) (ig, rl, m') := h
  have h := CR_iconst h rfl rfl
  have h : MR X ρ 5 0 0 qP47 N 137 [a0, a1, (L47_19 (mu (mu (mu m a0 4 1) a0 5 0) a0 6 0) a0 a1 (-1) 0 0).2.2.1, (L47_19 (mu (mu (mu m a0 4 1) a0 5 0) a0 6 0) a0 a1 (-1) 0 0).2.2.2.1, (L47_19 (mu (mu (mu m a0 4 1) a0 5 0) a0 6 0) a0 a1 (-1) 0 0).2.2.2.2.1] [(1, 2), (1, a1), (1, a0)] (mu ((L47_19 (mu (mu (mu m a0 4 1) a0 5 0) a0 6 0) a0 a1 (-1) 0 0).2.2.2.2.2) a0 7 (((L47_19 (mu (mu (mu m a0 4 1) a0 5 0) a0 6 0) a0 a1 (-1) 0 0).2.2.2.2.2) a1 8)) (ig, rl, m') := h
  obtain ⟨r1, m2, q3, h⟩ := MR_invV h rfl rfl
  have q3 : Run X ρ 119 [(1, a1), (1, 2)] (mu ((L47_19 (mu (mu (mu m a0 4 1) a0 5 0) a0 6 0) a0 a1 (-1) 0 0).2.2.2.2.2) a0 7 (((L47_19 (mu (mu (mu m a0 4 1) a0 5 0) a0 6 0) a0 a1 (-1) 0 0).2.2.2.2.2) a1 8)) r1 m2 := q3
  obtain ⟨e4, e5⟩ := d119 q3
  rw [e4, e5] at h
  have h : MR X ρ 5 0 0 qP47 N 140 [a0, a1, (L47_19 (mu (mu (mu m a0 4 1) a0 5 0) a0 6 0) a0 a1 (-1) 0 0).2.2.1, (L47_19 (mu (mu (mu m a0 4 1) a0 5 0) a0 6 0) a0 a1 (-1) 0 0).2.2.2.1, (L47_19 (mu (mu (mu m a0 4 1) a0 5 0) a0 6 0) a0 a1 (-1) 0 0).2.2.2.2.1] [(1, f119 (mu ((L47_19 (mu (mu (mu m a0 4 1) a0 5 0) a0 6 0) a0 a1 (-1) 0 0).2.2.2.2.2) a0 7 (((L47_19 (mu (mu (mu m a0 4 1) a0 5 0) a0 6 0) a0 a1 (-1) 0 0).2.2.2.2.2) a1 8)) a1 2), (1, a0)] (mu ((L47_19 (mu (mu (mu m a0 4 1) a0 5 0) a0 6 0) a0 a1 (-1) 0 0).2.2.2.2.2) a0 7 (((L47_19 (mu (mu (mu m a0 4 1) a0 5 0) a0 6 0) a0 a1 (-1) 0 0).2.2.2.2.2) a1 8)) (ig, rl, m') := h
  have h := CR_putf h rfl
  have h : MR X ρ 5 0 0 qP47 N 143 [a0, a1, (L47_19 (mu (mu (mu m a0 4 1) a0 5 0) a0 6 0) a0 a1 (-1) 0 0).2.2.1, (L47_19 (mu (mu (mu m a0 4 1) a0 5 0) a0 6 0) a0 a1 (-1) 0 0).2.2.2.1, (L47_19 (mu (mu (mu m a0 4 1) a0 5 0) a0 6 0) a0 a1 (-1) 0 0).2.2.2.2.1] [] (mu (mu ((L47_19 (mu (mu (mu m a0 4 1) a0 5 0) a0 6 0) a0 a1 (-1) 0 0).2.2.2.2.2) a0 7 (((L47_19 (mu (mu (mu m a0 4 1) a0 5 0) a0 6 0) a0 a1 (-1) 0 0).2.2.2.2.2) a1 8)) a0 8 (f119 (mu ((L47_19 (mu (mu (mu m a0 4 1) a0 5 0) a0 6 0) a0 a1 (-1) 0 0).2.2.2.2.2) a0 7 (((L47_19 (mu (mu (mu m a0 4 1) a0 5 0) a0 6 0) a0 a1 (-1) 0 0).2.2.2.2.2) a1 8)) a1 2)) (ig, rl, m') := h
  have h := CR_iload_n h rfl
  have h : MR X ρ 5 0 0 qP47 N 144 [a0, a1, (L47_19 (mu (mu (mu m a0 4 1) a0 5 0) a0 6 0) a0 a1 (-1) 0 0).2.2.1, (L47_19 (mu (mu (mu m a0 4 1) a0 5 0) a0 6 0) a0 a1 (-1) 0 0).2.2.2.1, (L47_19 (mu (mu (mu m a0 4 1) a0 5 0) a0 6 0) a0 a1 (-1) 0 0).2.2.2.2.1] [(1, (L47_19 (mu (mu (mu m a0 4 1) a0 5 0) a0 6 0) a0 a1 (-1) 0 0).2.2.1)] (mu (mu ((L47_19 (mu (mu (mu m a0 4 1) a0 5 0) a0 6 0) a0 a1 (-1) 0 0).2.2.2.2.2) a0 7 (((L47_19 (mu (mu (mu m a0 4 1) a0 5 0) a0 6 0) a0 a1 (-1) 0 0).2.2.2.2.2) a1 8)) a0 8 (f119 (mu ((L47_19 (mu (mu (mu m a0 4 1) a0 5 0) a0 6 0) a0 a1 (-1) 0 0).2.2.2.2.2) a0 7 (((L47_19 (mu (mu (mu m a0 4 1) a0 5 0) a0 6 0) a0 a1 (-1) 0 0).2.2.2.2.2) a1 8)) a1 2)) (ig, rl, m') := h
  have e := CR_end h rfl rfl
  cases e
  exact ⟨congrArg (fun z => [(1, z)]) (Eq.symm (show f47 m a0 a1 = _ from rfl)), Eq.symm (show g47 m a0 a1 = _ from rfl)⟩
set_option maxRecDepth 16384 in
/-- TriplicateForms$Standing.goByDraws(II)I, the loop at 25 -/
noncomputable def S121_25 (m : MM) (b0 b1 b2 b3 b4 b5 : Int) : (Int × Int × MM) ⊕ (Nat × Int × (Int × Int × MM)) := (if (m (m b0 0) 6) ≤ b4 then .inr (1, 0, (b4, b5, m)) else (if (m (m b0 0) 7) ≤ 0 then (if 1 < (f116 m b0 6) then .inl (s32 (b4 + 1), f116 m b0 6, g116 m b0 6) else (if (f116 m b0 6) = 0 then .inl (s32 (b4 + 1), f116 m b0 6, g136 (g116 (g116 m b0 6) b0 ((g116 m b0 6) ((g116 m b0 6) b0 0) 6)) b0 2 b4 (f116 (g116 m b0 6) b0 ((g116 m b0 6) ((g116 m b0 6) b0 0) 6))) else .inl (s32 (b4 + 1), f116 m b0 6, g136 (g116 (g116 m b0 6) b0 ((g116 m b0 6) ((g116 m b0 6) b0 0) 6)) b0 1 b4 (f116 (g116 m b0 6) b0 ((g116 m b0 6) ((g116 m b0 6) b0 0) 6))))) else (if 1 < (f116 (g136 (g116 m b0 (m (m b0 0) 7)) b0 0 b4 (f116 m b0 (m (m b0 0) 7))) b0 6) then .inl (s32 (b4 + 1), f116 (g136 (g116 m b0 (m (m b0 0) 7)) b0 0 b4 (f116 m b0 (m (m b0 0) 7))) b0 6, g116 (g136 (g116 m b0 (m (m b0 0) 7)) b0 0 b4 (f116 m b0 (m (m b0 0) 7))) b0 6) else (if (f116 (g136 (g116 m b0 (m (m b0 0) 7)) b0 0 b4 (f116 m b0 (m (m b0 0) 7))) b0 6) = 0 then .inl (s32 (b4 + 1), f116 (g136 (g116 m b0 (m (m b0 0) 7)) b0 0 b4 (f116 m b0 (m (m b0 0) 7))) b0 6, g136 (g116 (g116 (g136 (g116 m b0 (m (m b0 0) 7)) b0 0 b4 (f116 m b0 (m (m b0 0) 7))) b0 6) b0 ((g116 (g136 (g116 m b0 (m (m b0 0) 7)) b0 0 b4 (f116 m b0 (m (m b0 0) 7))) b0 6) ((g116 (g136 (g116 m b0 (m (m b0 0) 7)) b0 0 b4 (f116 m b0 (m (m b0 0) 7))) b0 6) b0 0) 6)) b0 2 b4 (f116 (g116 (g136 (g116 m b0 (m (m b0 0) 7)) b0 0 b4 (f116 m b0 (m (m b0 0) 7))) b0 6) b0 ((g116 (g136 (g116 m b0 (m (m b0 0) 7)) b0 0 b4 (f116 m b0 (m (m b0 0) 7))) b0 6) ((g116 (g136 (g116 m b0 (m (m b0 0) 7)) b0 0 b4 (f116 m b0 (m (m b0 0) 7))) b0 6) b0 0) 6))) else .inl (s32 (b4 + 1), f116 (g136 (g116 m b0 (m (m b0 0) 7)) b0 0 b4 (f116 m b0 (m (m b0 0) 7))) b0 6, g136 (g116 (g116 (g136 (g116 m b0 (m (m b0 0) 7)) b0 0 b4 (f116 m b0 (m (m b0 0) 7))) b0 6) b0 ((g116 (g136 (g116 m b0 (m (m b0 0) 7)) b0 0 b4 (f116 m b0 (m (m b0 0) 7))) b0 6) ((g116 (g136 (g116 m b0 (m (m b0 0) 7)) b0 0 b4 (f116 m b0 (m (m b0 0) 7))) b0 6) b0 0) 6)) b0 1 b4 (f116 (g116 (g136 (g116 m b0 (m (m b0 0) 7)) b0 0 b4 (f116 m b0 (m (m b0 0) 7))) b0 6) b0 ((g116 (g136 (g116 m b0 (m (m b0 0) 7)) b0 0 b4 (f116 m b0 (m (m b0 0) 7))) b0 6) ((g116 (g136 (g116 m b0 (m (m b0 0) 7)) b0 0 b4 (f116 m b0 (m (m b0 0) 7))) b0 6) b0 0) 6)))))))
set_option maxRecDepth 16384 in
noncomputable def K121_25 (m : MM) (b0 b1 b2 b3 b4 b5 : Int) : (Int × Int × MM) → (Int × Int × MM) ⊕ (Nat × Int × (Int × Int × MM)) := fun s => S121_25 s.2.2 b0 b1 b2 b3 s.1 s.2.1
set_option maxRecDepth 16384 in
noncomputable def L121_25 (m : MM) (b0 b1 b2 b3 b4 b5 : Int) : (Nat × Int × (Int × Int × MM)) := Lp (K121_25 m b0 b1 b2 b3 b4 b5) (b4, b5, m)
set_option maxRecDepth 16384 in
theorem l121_25 {X : KO} {ρ : Nat → Int32} {o : Instr × List (Nat × Int) × MM} {K : Nat} : ∀ {N : Nat} {m : MM} {b0 b1 b2 b3 b4 b5 : Int}, N ≤ K → MR X ρ 6 0 0 qP121 N 25 [b0, b1, b2, b3, b4, b5] [] m o → (MR X ρ 6 0 0 qP121 K 112 [b0, b1, b2, b3, (L121_25 m b0 b1 b2 b3 b4 b5).2.2.1, (L121_25 m b0 b1 b2 b3 b4 b5).2.2.2.1] [] ((L121_25 m b0 b1 b2 b3 b4 b5).2.2.2.2) o) := by
  intro N
  induction N using Nat.strongRecOn with
  | ind N ih =>
  intro m b0 b1 b2 b3 b4 b5 hK h
  have h := CR_iload h rfl
  have h : MR X ρ 6 0 0 qP121 N 27 [b0, b1, b2, b3, b4, b5] [(1, b4)] m o := h
  have h := CR_aload_n h rfl
  have h : MR X ρ 6 0 0 qP121 N 28 [b0, b1, b2, b3, b4, b5] [(1, b0), (1, b4)] m o := h
  have h := CR_getf h rfl (by decide)
  have h : MR X ρ 6 0 0 qP121 N 31 [b0, b1, b2, b3, b4, b5] [(1, m b0 0), (1, b4)] m o := h
  have h := CR_getf h rfl (by decide)
  have h : MR X ρ 6 0 0 qP121 N 34 [b0, b1, b2, b3, b4, b5] [(1, m (m b0 0) 6), (1, b4)] m o := h
  rcases MR_icmp h rfl rfl with ⟨c1, h⟩ | ⟨c1, h⟩
  ·
    have c1 : (m (m b0 0) 6) ≤ b4 := c1
    have h : MR X ρ 6 0 0 qP121 N 112 [b0, b1, b2, b3, b4, b5] [] m o := h
    have hr : L121_25 m b0 b1 b2 b3 b4 b5 = (1, 0, (b4, b5, m)) := Lp_inr (f := K121_25 m b0 b1 b2 b3 b4 b5) (s := (b4, b5, m)) ((if_pos c1).trans (rfl))
    rw [hr]
    exact CR_le (by omega) h
  ·
    have c1 : ¬ ((m (m b0 0) 6) ≤ b4) := c1
    have h : MR X ρ 6 0 0 qP121 N 37 [b0, b1, b2, b3, b4, b5] [] m o := h
    have h := CR_aload_n h rfl
    have h : MR X ρ 6 0 0 qP121 N 38 [b0, b1, b2, b3, b4, b5] [(1, b0)] m o := h
    have h := CR_getf h rfl (by decide)
    have h : MR X ρ 6 0 0 qP121 N 41 [b0, b1, b2, b3, b4, b5] [(1, m b0 0)] m o := h
    have h := CR_getf h rfl (by decide)
    have h : MR X ρ 6 0 0 qP121 N 44 [b0, b1, b2, b3, b4, b5] [(1, m (m b0 0) 7)] m o := h
    rcases MR_if h rfl rfl with ⟨c2, h⟩ | ⟨c2, h⟩
    ·
      have c2 : (m (m b0 0) 7) ≤ 0 := c2
      have h : MR X ρ 6 0 0 qP121 N 65 [b0, b1, b2, b3, b4, b5] [] m o := h
      have h := CR_aload_n h rfl
      have h : MR X ρ 6 0 0 qP121 N 66 [b0, b1, b2, b3, b4, b5] [(1, b0)] m o := h
      have h := CR_bipush h rfl rfl
      have h : MR X ρ 6 0 0 qP121 N 68 [b0, b1, b2, b3, b4, b5] [(1, 6), (1, b0)] m o := h
      obtain ⟨r3, m4, q5, h⟩ := MR_invV h rfl rfl
      have q5 : Run X ρ 116 [(1, b0), (1, 6)] m r3 m4 := q5
      obtain ⟨e6, e7⟩ := d116 q5
      rw [e6, e7] at h
      have h : MR X ρ 6 0 0 qP121 N 71 [b0, b1, b2, b3, b4, b5] [(1, f116 m b0 6)] (g116 m b0 6) o := h
      have h := CR_istore h rfl (Nat.le_of_ble_eq_true rfl)
      have h : MR X ρ 6 0 0 qP121 N 73 [b0, b1, b2, b3, b4, f116 m b0 6] [] (g116 m b0 6) o := h
      have h := CR_iload h rfl
      have h : MR X ρ 6 0 0 qP121 N 75 [b0, b1, b2, b3, b4, f116 m b0 6] [(1, f116 m b0 6)] (g116 m b0 6) o := h
      have h := CR_iconst h rfl rfl
      have h : MR X ρ 6 0 0 qP121 N 76 [b0, b1, b2, b3, b4, f116 m b0 6] [(1, 1), (1, f116 m b0 6)] (g116 m b0 6) o := h
      rcases MR_icmp h rfl rfl with ⟨c8, h⟩ | ⟨c8, h⟩
      ·
        have c8 : 1 < (f116 m b0 6) := c8
        have h : MR X ρ 6 0 0 qP121 N 106 [b0, b1, b2, b3, b4, f116 m b0 6] [] (g116 m b0 6) o := h
        have h := CR_inc h rfl (Nat.le_of_ble_eq_true rfl)
        have h : MR X ρ 6 0 0 qP121 N 109 [b0, b1, b2, b3, s32 (b4 + 1), f116 m b0 6] [] (g116 m b0 6) o := h
        obtain ⟨N9, eN9, h⟩ := CR_goto h rfl rfl
        have h : MR X ρ 6 0 0 qP121 N9 25 [b0, b1, b2, b3, s32 (b4 + 1), f116 m b0 6] [] (g116 m b0 6) o := h
        have hr : L121_25 m b0 b1 b2 b3 b4 b5 = L121_25 (g116 m b0 6) b0 b1 b2 b3 (s32 (b4 + 1)) (f116 m b0 6) := Lp_inl (f := K121_25 m b0 b1 b2 b3 b4 b5) (s := (b4, b5, m)) (s' := (s32 (b4 + 1), f116 m b0 6, g116 m b0 6)) ((if_neg c1).trans ((if_pos c2).trans ((if_pos c8).trans (rfl))))
        rw [hr]
        exact ih N9 (by omega) (by omega) h
      ·
        have c8 : ¬ (1 < (f116 m b0 6)) := c8
        have h : MR X ρ 6 0 0 qP121 N 79 [b0, b1, b2, b3, b4, f116 m b0 6] [] (g116 m b0 6) o := h
        have h := CR_aload_n h rfl
        have h : MR X ρ 6 0 0 qP121 N 80 [b0, b1, b2, b3, b4, f116 m b0 6] [(1, b0)] (g116 m b0 6) o := h
        have h := CR_iload h rfl
        have h : MR X ρ 6 0 0 qP121 N 82 [b0, b1, b2, b3, b4, f116 m b0 6] [(1, f116 m b0 6), (1, b0)] (g116 m b0 6) o := h
        rcases MR_if h rfl rfl with ⟨c10, h⟩ | ⟨c10, h⟩
        ·
          have c10 : ¬ ((f116 m b0 6) = 0) := c10
          have h : MR X ρ 6 0 0 qP121 N 89 [b0, b1, b2, b3, b4, f116 m b0 6] [(1, b0)] (g116 m b0 6) o := h
          have h := CR_iconst h rfl rfl
          have h : MR X ρ 6 0 0 qP121 N 90 [b0, b1, b2, b3, b4, f116 m b0 6] [(1, 1), (1, b0)] (g116 m b0 6) o := h
          have h := CR_iload h rfl
          have h : MR X ρ 6 0 0 qP121 N 92 [b0, b1, b2, b3, b4, f116 m b0 6] [(1, b4), (1, 1), (1, b0)] (g116 m b0 6) o := h
          have h := CR_aload_n h rfl
          have h : MR X ρ 6 0 0 qP121 N 93 [b0, b1, b2, b3, b4, f116 m b0 6] [(1, b0), (1, b4), (1, 1), (1, b0)] (g116 m b0 6) o := h
          have h := CR_aload_n h rfl
          have h : MR X ρ 6 0 0 qP121 N 94 [b0, b1, b2, b3, b4, f116 m b0 6] [(1, b0), (1, b0), (1, b4), (1, 1), (1, b0)] (g116 m b0 6) o := h
          have h := CR_getf h rfl (by decide)
          have h : MR X ρ 6 0 0 qP121 N 97 [b0, b1, b2, b3, b4, f116 m b0 6] [(1, (g116 m b0 6) b0 0), (1, b0), (1, b4), (1, 1), (1, b0)] (g116 m b0 6) o := h
          have h := CR_getf h rfl (by decide)
          have h : MR X ρ 6 0 0 qP121 N 100 [b0, b1, b2, b3, b4, f116 m b0 6] [(1, (g116 m b0 6) ((g116 m b0 6) b0 0) 6), (1, b0), (1, b4), (1, 1), (1, b0)] (g116 m b0 6) o := h
          obtain ⟨r11, m12, q13, h⟩ := MR_invV h rfl rfl
          have q13 : Run X ρ 116 [(1, b0), (1, (g116 m b0 6) ((g116 m b0 6) b0 0) 6)] (g116 m b0 6) r11 m12 := q13
          obtain ⟨e14, e15⟩ := d116 q13
          rw [e14, e15] at h
          have h : MR X ρ 6 0 0 qP121 N 103 [b0, b1, b2, b3, b4, f116 m b0 6] [(1, f116 (g116 m b0 6) b0 ((g116 m b0 6) ((g116 m b0 6) b0 0) 6)), (1, b4), (1, 1), (1, b0)] (g116 (g116 m b0 6) b0 ((g116 m b0 6) ((g116 m b0 6) b0 0) 6)) o := h
          obtain ⟨r16, m17, q18, h⟩ := MR_invV h rfl rfl
          have q18 : Run X ρ 136 [(1, b0), (1, 1), (1, b4), (1, f116 (g116 m b0 6) b0 ((g116 m b0 6) ((g116 m b0 6) b0 0) 6))] (g116 (g116 m b0 6) b0 ((g116 m b0 6) ((g116 m b0 6) b0 0) 6)) r16 m17 := q18
          obtain ⟨e19, e20⟩ := d136 q18
          rw [e19, e20] at h
          have h : MR X ρ 6 0 0 qP121 N 106 [b0, b1, b2, b3, b4, f116 m b0 6] [] (g136 (g116 (g116 m b0 6) b0 ((g116 m b0 6) ((g116 m b0 6) b0 0) 6)) b0 1 b4 (f116 (g116 m b0 6) b0 ((g116 m b0 6) ((g116 m b0 6) b0 0) 6))) o := h
          have h := CR_inc h rfl (Nat.le_of_ble_eq_true rfl)
          have h : MR X ρ 6 0 0 qP121 N 109 [b0, b1, b2, b3, s32 (b4 + 1), f116 m b0 6] [] (g136 (g116 (g116 m b0 6) b0 ((g116 m b0 6) ((g116 m b0 6) b0 0) 6)) b0 1 b4 (f116 (g116 m b0 6) b0 ((g116 m b0 6) ((g116 m b0 6) b0 0) 6))) o := h
          obtain ⟨N21, eN21, h⟩ := CR_goto h rfl rfl
          have h : MR X ρ 6 0 0 qP121 N21 25 [b0, b1, b2, b3, s32 (b4 + 1), f116 m b0 6] [] (g136 (g116 (g116 m b0 6) b0 ((g116 m b0 6) ((g116 m b0 6) b0 0) 6)) b0 1 b4 (f116 (g116 m b0 6) b0 ((g116 m b0 6) ((g116 m b0 6) b0 0) 6))) o := h
          have hr : L121_25 m b0 b1 b2 b3 b4 b5 = L121_25 (g136 (g116 (g116 m b0 6) b0 ((g116 m b0 6) ((g116 m b0 6) b0 0) 6)) b0 1 b4 (f116 (g116 m b0 6) b0 ((g116 m b0 6) ((g116 m b0 6) b0 0) 6))) b0 b1 b2 b3 (s32 (b4 + 1)) (f116 m b0 6) := Lp_inl (f := K121_25 m b0 b1 b2 b3 b4 b5) (s := (b4, b5, m)) (s' := (s32 (b4 + 1), f116 m b0 6, g136 (g116 (g116 m b0 6) b0 ((g116 m b0 6) ((g116 m b0 6) b0 0) 6)) b0 1 b4 (f116 (g116 m b0 6) b0 ((g116 m b0 6) ((g116 m b0 6) b0 0) 6)))) ((if_neg c1).trans ((if_pos c2).trans ((if_neg c8).trans ((if_neg c10).trans (rfl)))))
          rw [hr]
          exact ih N21 (by omega) (by omega) h
        ·
          have c10 : (f116 m b0 6) = 0 := Decidable.of_not_not (show ¬ ¬ ((f116 m b0 6) = 0) from c10)
          have h : MR X ρ 6 0 0 qP121 N 85 [b0, b1, b2, b3, b4, f116 m b0 6] [(1, b0)] (g116 m b0 6) o := h
          have h := CR_iconst h rfl rfl
          have h : MR X ρ 6 0 0 qP121 N 86 [b0, b1, b2, b3, b4, f116 m b0 6] [(1, 2), (1, b0)] (g116 m b0 6) o := h
          have h := CR_go h rfl rfl
          have h : MR X ρ 6 0 0 qP121 N 90 [b0, b1, b2, b3, b4, f116 m b0 6] [(1, 2), (1, b0)] (g116 m b0 6) o := h
          have h := CR_iload h rfl
          have h : MR X ρ 6 0 0 qP121 N 92 [b0, b1, b2, b3, b4, f116 m b0 6] [(1, b4), (1, 2), (1, b0)] (g116 m b0 6) o := h
          have h := CR_aload_n h rfl
          have h : MR X ρ 6 0 0 qP121 N 93 [b0, b1, b2, b3, b4, f116 m b0 6] [(1, b0), (1, b4), (1, 2), (1, b0)] (g116 m b0 6) o := h
          have h := CR_aload_n h rfl
          have h : MR X ρ 6 0 0 qP121 N 94 [b0, b1, b2, b3, b4, f116 m b0 6] [(1, b0), (1, b0), (1, b4), (1, 2), (1, b0)] (g116 m b0 6) o := h
          have h := CR_getf h rfl (by decide)
          have h : MR X ρ 6 0 0 qP121 N 97 [b0, b1, b2, b3, b4, f116 m b0 6] [(1, (g116 m b0 6) b0 0), (1, b0), (1, b4), (1, 2), (1, b0)] (g116 m b0 6) o := h
          have h := CR_getf h rfl (by decide)
          have h : MR X ρ 6 0 0 qP121 N 100 [b0, b1, b2, b3, b4, f116 m b0 6] [(1, (g116 m b0 6) ((g116 m b0 6) b0 0) 6), (1, b0), (1, b4), (1, 2), (1, b0)] (g116 m b0 6) o := h
          obtain ⟨r22, m23, q24, h⟩ := MR_invV h rfl rfl
          have q24 : Run X ρ 116 [(1, b0), (1, (g116 m b0 6) ((g116 m b0 6) b0 0) 6)] (g116 m b0 6) r22 m23 := q24
          obtain ⟨e25, e26⟩ := d116 q24
          rw [e25, e26] at h
          have h : MR X ρ 6 0 0 qP121 N 103 [b0, b1, b2, b3, b4, f116 m b0 6] [(1, f116 (g116 m b0 6) b0 ((g116 m b0 6) ((g116 m b0 6) b0 0) 6)), (1, b4), (1, 2), (1, b0)] (g116 (g116 m b0 6) b0 ((g116 m b0 6) ((g116 m b0 6) b0 0) 6)) o := h
          obtain ⟨r27, m28, q29, h⟩ := MR_invV h rfl rfl
          have q29 : Run X ρ 136 [(1, b0), (1, 2), (1, b4), (1, f116 (g116 m b0 6) b0 ((g116 m b0 6) ((g116 m b0 6) b0 0) 6))] (g116 (g116 m b0 6) b0 ((g116 m b0 6) ((g116 m b0 6) b0 0) 6)) r27 m28 := q29
          obtain ⟨e30, e31⟩ := d136 q29
          rw [e30, e31] at h
          have h : MR X ρ 6 0 0 qP121 N 106 [b0, b1, b2, b3, b4, f116 m b0 6] [] (g136 (g116 (g116 m b0 6) b0 ((g116 m b0 6) ((g116 m b0 6) b0 0) 6)) b0 2 b4 (f116 (g116 m b0 6) b0 ((g116 m b0 6) ((g116 m b0 6) b0 0) 6))) o := h
          have h := CR_inc h rfl (Nat.le_of_ble_eq_true rfl)
          have h : MR X ρ 6 0 0 qP121 N 109 [b0, b1, b2, b3, s32 (b4 + 1), f116 m b0 6] [] (g136 (g116 (g116 m b0 6) b0 ((g116 m b0 6) ((g116 m b0 6) b0 0) 6)) b0 2 b4 (f116 (g116 m b0 6) b0 ((g116 m b0 6) ((g116 m b0 6) b0 0) 6))) o := h
          obtain ⟨N32, eN32, h⟩ := CR_goto h rfl rfl
          have h : MR X ρ 6 0 0 qP121 N32 25 [b0, b1, b2, b3, s32 (b4 + 1), f116 m b0 6] [] (g136 (g116 (g116 m b0 6) b0 ((g116 m b0 6) ((g116 m b0 6) b0 0) 6)) b0 2 b4 (f116 (g116 m b0 6) b0 ((g116 m b0 6) ((g116 m b0 6) b0 0) 6))) o := h
          have hr : L121_25 m b0 b1 b2 b3 b4 b5 = L121_25 (g136 (g116 (g116 m b0 6) b0 ((g116 m b0 6) ((g116 m b0 6) b0 0) 6)) b0 2 b4 (f116 (g116 m b0 6) b0 ((g116 m b0 6) ((g116 m b0 6) b0 0) 6))) b0 b1 b2 b3 (s32 (b4 + 1)) (f116 m b0 6) := Lp_inl (f := K121_25 m b0 b1 b2 b3 b4 b5) (s := (b4, b5, m)) (s' := (s32 (b4 + 1), f116 m b0 6, g136 (g116 (g116 m b0 6) b0 ((g116 m b0 6) ((g116 m b0 6) b0 0) 6)) b0 2 b4 (f116 (g116 m b0 6) b0 ((g116 m b0 6) ((g116 m b0 6) b0 0) 6)))) ((if_neg c1).trans ((if_pos c2).trans ((if_neg c8).trans ((if_pos c10).trans (rfl)))))
          rw [hr]
          exact ih N32 (by omega) (by omega) h
    ·
      have c2 : ¬ ((m (m b0 0) 7) ≤ 0) := c2
      have h : MR X ρ 6 0 0 qP121 N 47 [b0, b1, b2, b3, b4, b5] [] m o := h
      have h := CR_aload_n h rfl
      have h : MR X ρ 6 0 0 qP121 N 48 [b0, b1, b2, b3, b4, b5] [(1, b0)] m o := h
      have h := CR_iconst h rfl rfl
      have h : MR X ρ 6 0 0 qP121 N 49 [b0, b1, b2, b3, b4, b5] [(1, 0), (1, b0)] m o := h
      have h := CR_iload h rfl
      have h : MR X ρ 6 0 0 qP121 N 51 [b0, b1, b2, b3, b4, b5] [(1, b4), (1, 0), (1, b0)] m o := h
      have h := CR_aload_n h rfl
      have h : MR X ρ 6 0 0 qP121 N 52 [b0, b1, b2, b3, b4, b5] [(1, b0), (1, b4), (1, 0), (1, b0)] m o := h
      have h := CR_aload_n h rfl
      have h : MR X ρ 6 0 0 qP121 N 53 [b0, b1, b2, b3, b4, b5] [(1, b0), (1, b0), (1, b4), (1, 0), (1, b0)] m o := h
      have h := CR_getf h rfl (by decide)
      have h : MR X ρ 6 0 0 qP121 N 56 [b0, b1, b2, b3, b4, b5] [(1, m b0 0), (1, b0), (1, b4), (1, 0), (1, b0)] m o := h
      have h := CR_getf h rfl (by decide)
      have h : MR X ρ 6 0 0 qP121 N 59 [b0, b1, b2, b3, b4, b5] [(1, m (m b0 0) 7), (1, b0), (1, b4), (1, 0), (1, b0)] m o := h
      obtain ⟨r33, m34, q35, h⟩ := MR_invV h rfl rfl
      have q35 : Run X ρ 116 [(1, b0), (1, m (m b0 0) 7)] m r33 m34 := q35
      obtain ⟨e36, e37⟩ := d116 q35
      rw [e36, e37] at h
      have h : MR X ρ 6 0 0 qP121 N 62 [b0, b1, b2, b3, b4, b5] [(1, f116 m b0 (m (m b0 0) 7)), (1, b4), (1, 0), (1, b0)] (g116 m b0 (m (m b0 0) 7)) o := h
      obtain ⟨r38, m39, q40, h⟩ := MR_invV h rfl rfl
      have q40 : Run X ρ 136 [(1, b0), (1, 0), (1, b4), (1, f116 m b0 (m (m b0 0) 7))] (g116 m b0 (m (m b0 0) 7)) r38 m39 := q40
      obtain ⟨e41, e42⟩ := d136 q40
      rw [e41, e42] at h
      have h : MR X ρ 6 0 0 qP121 N 65 [b0, b1, b2, b3, b4, b5] [] (g136 (g116 m b0 (m (m b0 0) 7)) b0 0 b4 (f116 m b0 (m (m b0 0) 7))) o := h
      have h := CR_aload_n h rfl
      have h : MR X ρ 6 0 0 qP121 N 66 [b0, b1, b2, b3, b4, b5] [(1, b0)] (g136 (g116 m b0 (m (m b0 0) 7)) b0 0 b4 (f116 m b0 (m (m b0 0) 7))) o := h
      have h := CR_bipush h rfl rfl
      have h : MR X ρ 6 0 0 qP121 N 68 [b0, b1, b2, b3, b4, b5] [(1, 6), (1, b0)] (g136 (g116 m b0 (m (m b0 0) 7)) b0 0 b4 (f116 m b0 (m (m b0 0) 7))) o := h
      obtain ⟨r43, m44, q45, h⟩ := MR_invV h rfl rfl
      have q45 : Run X ρ 116 [(1, b0), (1, 6)] (g136 (g116 m b0 (m (m b0 0) 7)) b0 0 b4 (f116 m b0 (m (m b0 0) 7))) r43 m44 := q45
      obtain ⟨e46, e47⟩ := d116 q45
      rw [e46, e47] at h
      have h : MR X ρ 6 0 0 qP121 N 71 [b0, b1, b2, b3, b4, b5] [(1, f116 (g136 (g116 m b0 (m (m b0 0) 7)) b0 0 b4 (f116 m b0 (m (m b0 0) 7))) b0 6)] (g116 (g136 (g116 m b0 (m (m b0 0) 7)) b0 0 b4 (f116 m b0 (m (m b0 0) 7))) b0 6) o := h
      have h := CR_istore h rfl (Nat.le_of_ble_eq_true rfl)
      have h : MR X ρ 6 0 0 qP121 N 73 [b0, b1, b2, b3, b4, f116 (g136 (g116 m b0 (m (m b0 0) 7)) b0 0 b4 (f116 m b0 (m (m b0 0) 7))) b0 6] [] (g116 (g136 (g116 m b0 (m (m b0 0) 7)) b0 0 b4 (f116 m b0 (m (m b0 0) 7))) b0 6) o := h
      have h := CR_iload h rfl
      have h : MR X ρ 6 0 0 qP121 N 75 [b0, b1, b2, b3, b4, f116 (g136 (g116 m b0 (m (m b0 0) 7)) b0 0 b4 (f116 m b0 (m (m b0 0) 7))) b0 6] [(1, f116 (g136 (g116 m b0 (m (m b0 0) 7)) b0 0 b4 (f116 m b0 (m (m b0 0) 7))) b0 6)] (g116 (g136 (g116 m b0 (m (m b0 0) 7)) b0 0 b4 (f116 m b0 (m (m b0 0) 7))) b0 6) o := h
      have h := CR_iconst h rfl rfl
      have h : MR X ρ 6 0 0 qP121 N 76 [b0, b1, b2, b3, b4, f116 (g136 (g116 m b0 (m (m b0 0) 7)) b0 0 b4 (f116 m b0 (m (m b0 0) 7))) b0 6] [(1, 1), (1, f116 (g136 (g116 m b0 (m (m b0 0) 7)) b0 0 b4 (f116 m b0 (m (m b0 0) 7))) b0 6)] (g116 (g136 (g116 m b0 (m (m b0 0) 7)) b0 0 b4 (f116 m b0 (m (m b0 0) 7))) b0 6) o := h
      rcases MR_icmp h rfl rfl with ⟨c48, h⟩ | ⟨c48, h⟩
      ·
        have c48 : 1 < (f116 (g136 (g116 m b0 (m (m b0 0) 7)) b0 0 b4 (f116 m b0 (m (m b0 0) 7))) b0 6) := c48
        have h : MR X ρ 6 0 0 qP121 N 106 [b0, b1, b2, b3, b4, f116 (g136 (g116 m b0 (m (m b0 0) 7)) b0 0 b4 (f116 m b0 (m (m b0 0) 7))) b0 6] [] (g116 (g136 (g116 m b0 (m (m b0 0) 7)) b0 0 b4 (f116 m b0 (m (m b0 0) 7))) b0 6) o := h
        have h := CR_inc h rfl (Nat.le_of_ble_eq_true rfl)
        have h : MR X ρ 6 0 0 qP121 N 109 [b0, b1, b2, b3, s32 (b4 + 1), f116 (g136 (g116 m b0 (m (m b0 0) 7)) b0 0 b4 (f116 m b0 (m (m b0 0) 7))) b0 6] [] (g116 (g136 (g116 m b0 (m (m b0 0) 7)) b0 0 b4 (f116 m b0 (m (m b0 0) 7))) b0 6) o := h
        obtain ⟨N49, eN49, h⟩ := CR_goto h rfl rfl
        have h : MR X ρ 6 0 0 qP121 N49 25 [b0, b1, b2, b3, s32 (b4 + 1), f116 (g136 (g116 m b0 (m (m b0 0) 7)) b0 0 b4 (f116 m b0 (m (m b0 0) 7))) b0 6] [] (g116 (g136 (g116 m b0 (m (m b0 0) 7)) b0 0 b4 (f116 m b0 (m (m b0 0) 7))) b0 6) o := h
        have hr : L121_25 m b0 b1 b2 b3 b4 b5 = L121_25 (g116 (g136 (g116 m b0 (m (m b0 0) 7)) b0 0 b4 (f116 m b0 (m (m b0 0) 7))) b0 6) b0 b1 b2 b3 (s32 (b4 + 1)) (f116 (g136 (g116 m b0 (m (m b0 0) 7)) b0 0 b4 (f116 m b0 (m (m b0 0) 7))) b0 6) := Lp_inl (f := K121_25 m b0 b1 b2 b3 b4 b5) (s := (b4, b5, m)) (s' := (s32 (b4 + 1), f116 (g136 (g116 m b0 (m (m b0 0) 7)) b0 0 b4 (f116 m b0 (m (m b0 0) 7))) b0 6, g116 (g136 (g116 m b0 (m (m b0 0) 7)) b0 0 b4 (f116 m b0 (m (m b0 0) 7))) b0 6)) ((if_neg c1).trans ((if_neg c2).trans ((if_pos c48).trans (rfl))))
        rw [hr]
        exact ih N49 (by omega) (by omega) h
      ·
        have c48 : ¬ (1 < (f116 (g136 (g116 m b0 (m (m b0 0) 7)) b0 0 b4 (f116 m b0 (m (m b0 0) 7))) b0 6)) := c48
        have h : MR X ρ 6 0 0 qP121 N 79 [b0, b1, b2, b3, b4, f116 (g136 (g116 m b0 (m (m b0 0) 7)) b0 0 b4 (f116 m b0 (m (m b0 0) 7))) b0 6] [] (g116 (g136 (g116 m b0 (m (m b0 0) 7)) b0 0 b4 (f116 m b0 (m (m b0 0) 7))) b0 6) o := h
        have h := CR_aload_n h rfl
        have h : MR X ρ 6 0 0 qP121 N 80 [b0, b1, b2, b3, b4, f116 (g136 (g116 m b0 (m (m b0 0) 7)) b0 0 b4 (f116 m b0 (m (m b0 0) 7))) b0 6] [(1, b0)] (g116 (g136 (g116 m b0 (m (m b0 0) 7)) b0 0 b4 (f116 m b0 (m (m b0 0) 7))) b0 6) o := h
        have h := CR_iload h rfl
        have h : MR X ρ 6 0 0 qP121 N 82 [b0, b1, b2, b3, b4, f116 (g136 (g116 m b0 (m (m b0 0) 7)) b0 0 b4 (f116 m b0 (m (m b0 0) 7))) b0 6] [(1, f116 (g136 (g116 m b0 (m (m b0 0) 7)) b0 0 b4 (f116 m b0 (m (m b0 0) 7))) b0 6), (1, b0)] (g116 (g136 (g116 m b0 (m (m b0 0) 7)) b0 0 b4 (f116 m b0 (m (m b0 0) 7))) b0 6) o := h
        rcases MR_if h rfl rfl with ⟨c50, h⟩ | ⟨c50, h⟩
        ·
          have c50 : ¬ ((f116 (g136 (g116 m b0 (m (m b0 0) 7)) b0 0 b4 (f116 m b0 (m (m b0 0) 7))) b0 6) = 0) := c50
          have h : MR X ρ 6 0 0 qP121 N 89 [b0, b1, b2, b3, b4, f116 (g136 (g116 m b0 (m (m b0 0) 7)) b0 0 b4 (f116 m b0 (m (m b0 0) 7))) b0 6] [(1, b0)] (g116 (g136 (g116 m b0 (m (m b0 0) 7)) b0 0 b4 (f116 m b0 (m (m b0 0) 7))) b0 6) o := h
          have h := CR_iconst h rfl rfl
          have h : MR X ρ 6 0 0 qP121 N 90 [b0, b1, b2, b3, b4, f116 (g136 (g116 m b0 (m (m b0 0) 7)) b0 0 b4 (f116 m b0 (m (m b0 0) 7))) b0 6] [(1, 1), (1, b0)] (g116 (g136 (g116 m b0 (m (m b0 0) 7)) b0 0 b4 (f116 m b0 (m (m b0 0) 7))) b0 6) o := h
          have h := CR_iload h rfl
          have h : MR X ρ 6 0 0 qP121 N 92 [b0, b1, b2, b3, b4, f116 (g136 (g116 m b0 (m (m b0 0) 7)) b0 0 b4 (f116 m b0 (m (m b0 0) 7))) b0 6] [(1, b4), (1, 1), (1, b0)] (g116 (g136 (g116 m b0 (m (m b0 0) 7)) b0 0 b4 (f116 m b0 (m (m b0 0) 7))) b0 6) o := h
          have h := CR_aload_n h rfl
          have h : MR X ρ 6 0 0 qP121 N 93 [b0, b1, b2, b3, b4, f116 (g136 (g116 m b0 (m (m b0 0) 7)) b0 0 b4 (f116 m b0 (m (m b0 0) 7))) b0 6] [(1, b0), (1, b4), (1, 1), (1, b0)] (g116 (g136 (g116 m b0 (m (m b0 0) 7)) b0 0 b4 (f116 m b0 (m (m b0 0) 7))) b0 6) o := h
          have h := CR_aload_n h rfl
          have h : MR X ρ 6 0 0 qP121 N 94 [b0, b1, b2, b3, b4, f116 (g136 (g116 m b0 (m (m b0 0) 7)) b0 0 b4 (f116 m b0 (m (m b0 0) 7))) b0 6] [(1, b0), (1, b0), (1, b4), (1, 1), (1, b0)] (g116 (g136 (g116 m b0 (m (m b0 0) 7)) b0 0 b4 (f116 m b0 (m (m b0 0) 7))) b0 6) o := h
          have h := CR_getf h rfl (by decide)
          have h : MR X ρ 6 0 0 qP121 N 97 [b0, b1, b2, b3, b4, f116 (g136 (g116 m b0 (m (m b0 0) 7)) b0 0 b4 (f116 m b0 (m (m b0 0) 7))) b0 6] [(1, (g116 (g136 (g116 m b0 (m (m b0 0) 7)) b0 0 b4 (f116 m b0 (m (m b0 0) 7))) b0 6) b0 0), (1, b0), (1, b4), (1, 1), (1, b0)] (g116 (g136 (g116 m b0 (m (m b0 0) 7)) b0 0 b4 (f116 m b0 (m (m b0 0) 7))) b0 6) o := h
          have h := CR_getf h rfl (by decide)
          have h : MR X ρ 6 0 0 qP121 N 100 [b0, b1, b2, b3, b4, f116 (g136 (g116 m b0 (m (m b0 0) 7)) b0 0 b4 (f116 m b0 (m (m b0 0) 7))) b0 6] [(1, (g116 (g136 (g116 m b0 (m (m b0 0) 7)) b0 0 b4 (f116 m b0 (m (m b0 0) 7))) b0 6) ((g116 (g136 (g116 m b0 (m (m b0 0) 7)) b0 0 b4 (f116 m b0 (m (m b0 0) 7))) b0 6) b0 0) 6), (1, b0), (1, b4), (1, 1), (1, b0)] (g116 (g136 (g116 m b0 (m (m b0 0) 7)) b0 0 b4 (f116 m b0 (m (m b0 0) 7))) b0 6) o := h
          obtain ⟨r51, m52, q53, h⟩ := MR_invV h rfl rfl
          have q53 : Run X ρ 116 [(1, b0), (1, (g116 (g136 (g116 m b0 (m (m b0 0) 7)) b0 0 b4 (f116 m b0 (m (m b0 0) 7))) b0 6) ((g116 (g136 (g116 m b0 (m (m b0 0) 7)) b0 0 b4 (f116 m b0 (m (m b0 0) 7))) b0 6) b0 0) 6)] (g116 (g136 (g116 m b0 (m (m b0 0) 7)) b0 0 b4 (f116 m b0 (m (m b0 0) 7))) b0 6) r51 m52 := q53
          obtain ⟨e54, e55⟩ := d116 q53
          rw [e54, e55] at h
          have h : MR X ρ 6 0 0 qP121 N 103 [b0, b1, b2, b3, b4, f116 (g136 (g116 m b0 (m (m b0 0) 7)) b0 0 b4 (f116 m b0 (m (m b0 0) 7))) b0 6] [(1, f116 (g116 (g136 (g116 m b0 (m (m b0 0) 7)) b0 0 b4 (f116 m b0 (m (m b0 0) 7))) b0 6) b0 ((g116 (g136 (g116 m b0 (m (m b0 0) 7)) b0 0 b4 (f116 m b0 (m (m b0 0) 7))) b0 6) ((g116 (g136 (g116 m b0 (m (m b0 0) 7)) b0 0 b4 (f116 m b0 (m (m b0 0) 7))) b0 6) b0 0) 6)), (1, b4), (1, 1), (1, b0)] (g116 (g116 (g136 (g116 m b0 (m (m b0 0) 7)) b0 0 b4 (f116 m b0 (m (m b0 0) 7))) b0 6) b0 ((g116 (g136 (g116 m b0 (m (m b0 0) 7)) b0 0 b4 (f116 m b0 (m (m b0 0) 7))) b0 6) ((g116 (g136 (g116 m b0 (m (m b0 0) 7)) b0 0 b4 (f116 m b0 (m (m b0 0) 7))) b0 6) b0 0) 6)) o := h
          obtain ⟨r56, m57, q58, h⟩ := MR_invV h rfl rfl
          have q58 : Run X ρ 136 [(1, b0), (1, 1), (1, b4), (1, f116 (g116 (g136 (g116 m b0 (m (m b0 0) 7)) b0 0 b4 (f116 m b0 (m (m b0 0) 7))) b0 6) b0 ((g116 (g136 (g116 m b0 (m (m b0 0) 7)) b0 0 b4 (f116 m b0 (m (m b0 0) 7))) b0 6) ((g116 (g136 (g116 m b0 (m (m b0 0) 7)) b0 0 b4 (f116 m b0 (m (m b0 0) 7))) b0 6) b0 0) 6))] (g116 (g116 (g136 (g116 m b0 (m (m b0 0) 7)) b0 0 b4 (f116 m b0 (m (m b0 0) 7))) b0 6) b0 ((g116 (g136 (g116 m b0 (m (m b0 0) 7)) b0 0 b4 (f116 m b0 (m (m b0 0) 7))) b0 6) ((g116 (g136 (g116 m b0 (m (m b0 0) 7)) b0 0 b4 (f116 m b0 (m (m b0 0) 7))) b0 6) b0 0) 6)) r56 m57 := q58
          obtain ⟨e59, e60⟩ := d136 q58
          rw [e59, e60] at h
          have h : MR X ρ 6 0 0 qP121 N 106 [b0, b1, b2, b3, b4, f116 (g136 (g116 m b0 (m (m b0 0) 7)) b0 0 b4 (f116 m b0 (m (m b0 0) 7))) b0 6] [] (g136 (g116 (g116 (g136 (g116 m b0 (m (m b0 0) 7)) b0 0 b4 (f116 m b0 (m (m b0 0) 7))) b0 6) b0 ((g116 (g136 (g116 m b0 (m (m b0 0) 7)) b0 0 b4 (f116 m b0 (m (m b0 0) 7))) b0 6) ((g116 (g136 (g116 m b0 (m (m b0 0) 7)) b0 0 b4 (f116 m b0 (m (m b0 0) 7))) b0 6) b0 0) 6)) b0 1 b4 (f116 (g116 (g136 (g116 m b0 (m (m b0 0) 7)) b0 0 b4 (f116 m b0 (m (m b0 0) 7))) b0 6) b0 ((g116 (g136 (g116 m b0 (m (m b0 0) 7)) b0 0 b4 (f116 m b0 (m (m b0 0) 7))) b0 6) ((g116 (g136 (g116 m b0 (m (m b0 0) 7)) b0 0 b4 (f116 m b0 (m (m b0 0) 7))) b0 6) b0 0) 6))) o := h
          have h := CR_inc h rfl (Nat.le_of_ble_eq_true rfl)
          have h : MR X ρ 6 0 0 qP121 N 109 [b0, b1, b2, b3, s32 (b4 + 1), f116 (g136 (g116 m b0 (m (m b0 0) 7)) b0 0 b4 (f116 m b0 (m (m b0 0) 7))) b0 6] [] (g136 (g116 (g116 (g136 (g116 m b0 (m (m b0 0) 7)) b0 0 b4 (f116 m b0 (m (m b0 0) 7))) b0 6) b0 ((g116 (g136 (g116 m b0 (m (m b0 0) 7)) b0 0 b4 (f116 m b0 (m (m b0 0) 7))) b0 6) ((g116 (g136 (g116 m b0 (m (m b0 0) 7)) b0 0 b4 (f116 m b0 (m (m b0 0) 7))) b0 6) b0 0) 6)) b0 1 b4 (f116 (g116 (g136 (g116 m b0 (m (m b0 0) 7)) b0 0 b4 (f116 m b0 (m (m b0 0) 7))) b0 6) b0 ((g116 (g136 (g116 m b0 (m (m b0 0) 7)) b0 0 b4 (f116 m b0 (m (m b0 0) 7))) b0 6) ((g116 (g136 (g116 m b0 (m (m b0 0) 7)) b0 0 b4 (f116 m b0 (m (m b0 0) 7))) b0 6) b0 0) 6))) o := h
          obtain ⟨N61, eN61, h⟩ := CR_goto h rfl rfl
          have h : MR X ρ 6 0 0 qP121 N61 25 [b0, b1, b2, b3, s32 (b4 + 1), f116 (g136 (g116 m b0 (m (m b0 0) 7)) b0 0 b4 (f116 m b0 (m (m b0 0) 7))) b0 6] [] (g136 (g116 (g116 (g136 (g116 m b0 (m (m b0 0) 7)) b0 0 b4 (f116 m b0 (m (m b0 0) 7))) b0 6) b0 ((g116 (g136 (g116 m b0 (m (m b0 0) 7)) b0 0 b4 (f116 m b0 (m (m b0 0) 7))) b0 6) ((g116 (g136 (g116 m b0 (m (m b0 0) 7)) b0 0 b4 (f116 m b0 (m (m b0 0) 7))) b0 6) b0 0) 6)) b0 1 b4 (f116 (g116 (g136 (g116 m b0 (m (m b0 0) 7)) b0 0 b4 (f116 m b0 (m (m b0 0) 7))) b0 6) b0 ((g116 (g136 (g116 m b0 (m (m b0 0) 7)) b0 0 b4 (f116 m b0 (m (m b0 0) 7))) b0 6) ((g116 (g136 (g116 m b0 (m (m b0 0) 7)) b0 0 b4 (f116 m b0 (m (m b0 0) 7))) b0 6) b0 0) 6))) o := h
          have hr : L121_25 m b0 b1 b2 b3 b4 b5 = L121_25 (g136 (g116 (g116 (g136 (g116 m b0 (m (m b0 0) 7)) b0 0 b4 (f116 m b0 (m (m b0 0) 7))) b0 6) b0 ((g116 (g136 (g116 m b0 (m (m b0 0) 7)) b0 0 b4 (f116 m b0 (m (m b0 0) 7))) b0 6) ((g116 (g136 (g116 m b0 (m (m b0 0) 7)) b0 0 b4 (f116 m b0 (m (m b0 0) 7))) b0 6) b0 0) 6)) b0 1 b4 (f116 (g116 (g136 (g116 m b0 (m (m b0 0) 7)) b0 0 b4 (f116 m b0 (m (m b0 0) 7))) b0 6) b0 ((g116 (g136 (g116 m b0 (m (m b0 0) 7)) b0 0 b4 (f116 m b0 (m (m b0 0) 7))) b0 6) ((g116 (g136 (g116 m b0 (m (m b0 0) 7)) b0 0 b4 (f116 m b0 (m (m b0 0) 7))) b0 6) b0 0) 6))) b0 b1 b2 b3 (s32 (b4 + 1)) (f116 (g136 (g116 m b0 (m (m b0 0) 7)) b0 0 b4 (f116 m b0 (m (m b0 0) 7))) b0 6) := Lp_inl (f := K121_25 m b0 b1 b2 b3 b4 b5) (s := (b4, b5, m)) (s' := (s32 (b4 + 1), f116 (g136 (g116 m b0 (m (m b0 0) 7)) b0 0 b4 (f116 m b0 (m (m b0 0) 7))) b0 6, g136 (g116 (g116 (g136 (g116 m b0 (m (m b0 0) 7)) b0 0 b4 (f116 m b0 (m (m b0 0) 7))) b0 6) b0 ((g116 (g136 (g116 m b0 (m (m b0 0) 7)) b0 0 b4 (f116 m b0 (m (m b0 0) 7))) b0 6) ((g116 (g136 (g116 m b0 (m (m b0 0) 7)) b0 0 b4 (f116 m b0 (m (m b0 0) 7))) b0 6) b0 0) 6)) b0 1 b4 (f116 (g116 (g136 (g116 m b0 (m (m b0 0) 7)) b0 0 b4 (f116 m b0 (m (m b0 0) 7))) b0 6) b0 ((g116 (g136 (g116 m b0 (m (m b0 0) 7)) b0 0 b4 (f116 m b0 (m (m b0 0) 7))) b0 6) ((g116 (g136 (g116 m b0 (m (m b0 0) 7)) b0 0 b4 (f116 m b0 (m (m b0 0) 7))) b0 6) b0 0) 6)))) ((if_neg c1).trans ((if_neg c2).trans ((if_neg c48).trans ((if_neg c50).trans (rfl)))))
          rw [hr]
          exact ih N61 (by omega) (by omega) h
        ·
          have c50 : (f116 (g136 (g116 m b0 (m (m b0 0) 7)) b0 0 b4 (f116 m b0 (m (m b0 0) 7))) b0 6) = 0 := Decidable.of_not_not (show ¬ ¬ ((f116 (g136 (g116 m b0 (m (m b0 0) 7)) b0 0 b4 (f116 m b0 (m (m b0 0) 7))) b0 6) = 0) from c50)
          have h : MR X ρ 6 0 0 qP121 N 85 [b0, b1, b2, b3, b4, f116 (g136 (g116 m b0 (m (m b0 0) 7)) b0 0 b4 (f116 m b0 (m (m b0 0) 7))) b0 6] [(1, b0)] (g116 (g136 (g116 m b0 (m (m b0 0) 7)) b0 0 b4 (f116 m b0 (m (m b0 0) 7))) b0 6) o := h
          have h := CR_iconst h rfl rfl
          have h : MR X ρ 6 0 0 qP121 N 86 [b0, b1, b2, b3, b4, f116 (g136 (g116 m b0 (m (m b0 0) 7)) b0 0 b4 (f116 m b0 (m (m b0 0) 7))) b0 6] [(1, 2), (1, b0)] (g116 (g136 (g116 m b0 (m (m b0 0) 7)) b0 0 b4 (f116 m b0 (m (m b0 0) 7))) b0 6) o := h
          have h := CR_go h rfl rfl
          have h : MR X ρ 6 0 0 qP121 N 90 [b0, b1, b2, b3, b4, f116 (g136 (g116 m b0 (m (m b0 0) 7)) b0 0 b4 (f116 m b0 (m (m b0 0) 7))) b0 6] [(1, 2), (1, b0)] (g116 (g136 (g116 m b0 (m (m b0 0) 7)) b0 0 b4 (f116 m b0 (m (m b0 0) 7))) b0 6) o := h
          have h := CR_iload h rfl
          have h : MR X ρ 6 0 0 qP121 N 92 [b0, b1, b2, b3, b4, f116 (g136 (g116 m b0 (m (m b0 0) 7)) b0 0 b4 (f116 m b0 (m (m b0 0) 7))) b0 6] [(1, b4), (1, 2), (1, b0)] (g116 (g136 (g116 m b0 (m (m b0 0) 7)) b0 0 b4 (f116 m b0 (m (m b0 0) 7))) b0 6) o := h
          have h := CR_aload_n h rfl
          have h : MR X ρ 6 0 0 qP121 N 93 [b0, b1, b2, b3, b4, f116 (g136 (g116 m b0 (m (m b0 0) 7)) b0 0 b4 (f116 m b0 (m (m b0 0) 7))) b0 6] [(1, b0), (1, b4), (1, 2), (1, b0)] (g116 (g136 (g116 m b0 (m (m b0 0) 7)) b0 0 b4 (f116 m b0 (m (m b0 0) 7))) b0 6) o := h
          have h := CR_aload_n h rfl
          have h : MR X ρ 6 0 0 qP121 N 94 [b0, b1, b2, b3, b4, f116 (g136 (g116 m b0 (m (m b0 0) 7)) b0 0 b4 (f116 m b0 (m (m b0 0) 7))) b0 6] [(1, b0), (1, b0), (1, b4), (1, 2), (1, b0)] (g116 (g136 (g116 m b0 (m (m b0 0) 7)) b0 0 b4 (f116 m b0 (m (m b0 0) 7))) b0 6) o := h
          have h := CR_getf h rfl (by decide)
          have h : MR X ρ 6 0 0 qP121 N 97 [b0, b1, b2, b3, b4, f116 (g136 (g116 m b0 (m (m b0 0) 7)) b0 0 b4 (f116 m b0 (m (m b0 0) 7))) b0 6] [(1, (g116 (g136 (g116 m b0 (m (m b0 0) 7)) b0 0 b4 (f116 m b0 (m (m b0 0) 7))) b0 6) b0 0), (1, b0), (1, b4), (1, 2), (1, b0)] (g116 (g136 (g116 m b0 (m (m b0 0) 7)) b0 0 b4 (f116 m b0 (m (m b0 0) 7))) b0 6) o := h
          have h := CR_getf h rfl (by decide)
          have h : MR X ρ 6 0 0 qP121 N 100 [b0, b1, b2, b3, b4, f116 (g136 (g116 m b0 (m (m b0 0) 7)) b0 0 b4 (f116 m b0 (m (m b0 0) 7))) b0 6] [(1, (g116 (g136 (g116 m b0 (m (m b0 0) 7)) b0 0 b4 (f116 m b0 (m (m b0 0) 7))) b0 6) ((g116 (g136 (g116 m b0 (m (m b0 0) 7)) b0 0 b4 (f116 m b0 (m (m b0 0) 7))) b0 6) b0 0) 6), (1, b0), (1, b4), (1, 2), (1, b0)] (g116 (g136 (g116 m b0 (m (m b0 0) 7)) b0 0 b4 (f116 m b0 (m (m b0 0) 7))) b0 6) o := h
          obtain ⟨r62, m63, q64, h⟩ := MR_invV h rfl rfl
          have q64 : Run X ρ 116 [(1, b0), (1, (g116 (g136 (g116 m b0 (m (m b0 0) 7)) b0 0 b4 (f116 m b0 (m (m b0 0) 7))) b0 6) ((g116 (g136 (g116 m b0 (m (m b0 0) 7)) b0 0 b4 (f116 m b0 (m (m b0 0) 7))) b0 6) b0 0) 6)] (g116 (g136 (g116 m b0 (m (m b0 0) 7)) b0 0 b4 (f116 m b0 (m (m b0 0) 7))) b0 6) r62 m63 := q64
          obtain ⟨e65, e66⟩ := d116 q64
          rw [e65, e66] at h
          have h : MR X ρ 6 0 0 qP121 N 103 [b0, b1, b2, b3, b4, f116 (g136 (g116 m b0 (m (m b0 0) 7)) b0 0 b4 (f116 m b0 (m (m b0 0) 7))) b0 6] [(1, f116 (g116 (g136 (g116 m b0 (m (m b0 0) 7)) b0 0 b4 (f116 m b0 (m (m b0 0) 7))) b0 6) b0 ((g116 (g136 (g116 m b0 (m (m b0 0) 7)) b0 0 b4 (f116 m b0 (m (m b0 0) 7))) b0 6) ((g116 (g136 (g116 m b0 (m (m b0 0) 7)) b0 0 b4 (f116 m b0 (m (m b0 0) 7))) b0 6) b0 0) 6)), (1, b4), (1, 2), (1, b0)] (g116 (g116 (g136 (g116 m b0 (m (m b0 0) 7)) b0 0 b4 (f116 m b0 (m (m b0 0) 7))) b0 6) b0 ((g116 (g136 (g116 m b0 (m (m b0 0) 7)) b0 0 b4 (f116 m b0 (m (m b0 0) 7))) b0 6) ((g116 (g136 (g116 m b0 (m (m b0 0) 7)) b0 0 b4 (f116 m b0 (m (m b0 0) 7))) b0 6) b0 0) 6)) o := h
          obtain ⟨r67, m68, q69, h⟩ := MR_invV h rfl rfl
          have q69 : Run X ρ 136 [(1, b0), (1, 2), (1, b4), (1, f116 (g116 (g136 (g116 m b0 (m (m b0 0) 7)) b0 0 b4 (f116 m b0 (m (m b0 0) 7))) b0 6) b0 ((g116 (g136 (g116 m b0 (m (m b0 0) 7)) b0 0 b4 (f116 m b0 (m (m b0 0) 7))) b0 6) ((g116 (g136 (g116 m b0 (m (m b0 0) 7)) b0 0 b4 (f116 m b0 (m (m b0 0) 7))) b0 6) b0 0) 6))] (g116 (g116 (g136 (g116 m b0 (m (m b0 0) 7)) b0 0 b4 (f116 m b0 (m (m b0 0) 7))) b0 6) b0 ((g116 (g136 (g116 m b0 (m (m b0 0) 7)) b0 0 b4 (f116 m b0 (m (m b0 0) 7))) b0 6) ((g116 (g136 (g116 m b0 (m (m b0 0) 7)) b0 0 b4 (f116 m b0 (m (m b0 0) 7))) b0 6) b0 0) 6)) r67 m68 := q69
          obtain ⟨e70, e71⟩ := d136 q69
          rw [e70, e71] at h
          have h : MR X ρ 6 0 0 qP121 N 106 [b0, b1, b2, b3, b4, f116 (g136 (g116 m b0 (m (m b0 0) 7)) b0 0 b4 (f116 m b0 (m (m b0 0) 7))) b0 6] [] (g136 (g116 (g116 (g136 (g116 m b0 (m (m b0 0) 7)) b0 0 b4 (f116 m b0 (m (m b0 0) 7))) b0 6) b0 ((g116 (g136 (g116 m b0 (m (m b0 0) 7)) b0 0 b4 (f116 m b0 (m (m b0 0) 7))) b0 6) ((g116 (g136 (g116 m b0 (m (m b0 0) 7)) b0 0 b4 (f116 m b0 (m (m b0 0) 7))) b0 6) b0 0) 6)) b0 2 b4 (f116 (g116 (g136 (g116 m b0 (m (m b0 0) 7)) b0 0 b4 (f116 m b0 (m (m b0 0) 7))) b0 6) b0 ((g116 (g136 (g116 m b0 (m (m b0 0) 7)) b0 0 b4 (f116 m b0 (m (m b0 0) 7))) b0 6) ((g116 (g136 (g116 m b0 (m (m b0 0) 7)) b0 0 b4 (f116 m b0 (m (m b0 0) 7))) b0 6) b0 0) 6))) o := h
          have h := CR_inc h rfl (Nat.le_of_ble_eq_true rfl)
          have h : MR X ρ 6 0 0 qP121 N 109 [b0, b1, b2, b3, s32 (b4 + 1), f116 (g136 (g116 m b0 (m (m b0 0) 7)) b0 0 b4 (f116 m b0 (m (m b0 0) 7))) b0 6] [] (g136 (g116 (g116 (g136 (g116 m b0 (m (m b0 0) 7)) b0 0 b4 (f116 m b0 (m (m b0 0) 7))) b0 6) b0 ((g116 (g136 (g116 m b0 (m (m b0 0) 7)) b0 0 b4 (f116 m b0 (m (m b0 0) 7))) b0 6) ((g116 (g136 (g116 m b0 (m (m b0 0) 7)) b0 0 b4 (f116 m b0 (m (m b0 0) 7))) b0 6) b0 0) 6)) b0 2 b4 (f116 (g116 (g136 (g116 m b0 (m (m b0 0) 7)) b0 0 b4 (f116 m b0 (m (m b0 0) 7))) b0 6) b0 ((g116 (g136 (g116 m b0 (m (m b0 0) 7)) b0 0 b4 (f116 m b0 (m (m b0 0) 7))) b0 6) ((g116 (g136 (g116 m b0 (m (m b0 0) 7)) b0 0 b4 (f116 m b0 (m (m b0 0) 7))) b0 6) b0 0) 6))) o := h
          obtain ⟨N72, eN72, h⟩ := CR_goto h rfl rfl
          have h : MR X ρ 6 0 0 qP121 N72 25 [b0, b1, b2, b3, s32 (b4 + 1), f116 (g136 (g116 m b0 (m (m b0 0) 7)) b0 0 b4 (f116 m b0 (m (m b0 0) 7))) b0 6] [] (g136 (g116 (g116 (g136 (g116 m b0 (m (m b0 0) 7)) b0 0 b4 (f116 m b0 (m (m b0 0) 7))) b0 6) b0 ((g116 (g136 (g116 m b0 (m (m b0 0) 7)) b0 0 b4 (f116 m b0 (m (m b0 0) 7))) b0 6) ((g116 (g136 (g116 m b0 (m (m b0 0) 7)) b0 0 b4 (f116 m b0 (m (m b0 0) 7))) b0 6) b0 0) 6)) b0 2 b4 (f116 (g116 (g136 (g116 m b0 (m (m b0 0) 7)) b0 0 b4 (f116 m b0 (m (m b0 0) 7))) b0 6) b0 ((g116 (g136 (g116 m b0 (m (m b0 0) 7)) b0 0 b4 (f116 m b0 (m (m b0 0) 7))) b0 6) ((g116 (g136 (g116 m b0 (m (m b0 0) 7)) b0 0 b4 (f116 m b0 (m (m b0 0) 7))) b0 6) b0 0) 6))) o := h
          have hr : L121_25 m b0 b1 b2 b3 b4 b5 = L121_25 (g136 (g116 (g116 (g136 (g116 m b0 (m (m b0 0) 7)) b0 0 b4 (f116 m b0 (m (m b0 0) 7))) b0 6) b0 ((g116 (g136 (g116 m b0 (m (m b0 0) 7)) b0 0 b4 (f116 m b0 (m (m b0 0) 7))) b0 6) ((g116 (g136 (g116 m b0 (m (m b0 0) 7)) b0 0 b4 (f116 m b0 (m (m b0 0) 7))) b0 6) b0 0) 6)) b0 2 b4 (f116 (g116 (g136 (g116 m b0 (m (m b0 0) 7)) b0 0 b4 (f116 m b0 (m (m b0 0) 7))) b0 6) b0 ((g116 (g136 (g116 m b0 (m (m b0 0) 7)) b0 0 b4 (f116 m b0 (m (m b0 0) 7))) b0 6) ((g116 (g136 (g116 m b0 (m (m b0 0) 7)) b0 0 b4 (f116 m b0 (m (m b0 0) 7))) b0 6) b0 0) 6))) b0 b1 b2 b3 (s32 (b4 + 1)) (f116 (g136 (g116 m b0 (m (m b0 0) 7)) b0 0 b4 (f116 m b0 (m (m b0 0) 7))) b0 6) := Lp_inl (f := K121_25 m b0 b1 b2 b3 b4 b5) (s := (b4, b5, m)) (s' := (s32 (b4 + 1), f116 (g136 (g116 m b0 (m (m b0 0) 7)) b0 0 b4 (f116 m b0 (m (m b0 0) 7))) b0 6, g136 (g116 (g116 (g136 (g116 m b0 (m (m b0 0) 7)) b0 0 b4 (f116 m b0 (m (m b0 0) 7))) b0 6) b0 ((g116 (g136 (g116 m b0 (m (m b0 0) 7)) b0 0 b4 (f116 m b0 (m (m b0 0) 7))) b0 6) ((g116 (g136 (g116 m b0 (m (m b0 0) 7)) b0 0 b4 (f116 m b0 (m (m b0 0) 7))) b0 6) b0 0) 6)) b0 2 b4 (f116 (g116 (g136 (g116 m b0 (m (m b0 0) 7)) b0 0 b4 (f116 m b0 (m (m b0 0) 7))) b0 6) b0 ((g116 (g136 (g116 m b0 (m (m b0 0) 7)) b0 0 b4 (f116 m b0 (m (m b0 0) 7))) b0 6) ((g116 (g136 (g116 m b0 (m (m b0 0) 7)) b0 0 b4 (f116 m b0 (m (m b0 0) 7))) b0 6) b0 0) 6)))) ((if_neg c1).trans ((if_neg c2).trans ((if_neg c48).trans ((if_pos c50).trans (rfl)))))
          rw [hr]
          exact ih N72 (by omega) (by omega) h
set_option maxRecDepth 16384 in
/-- TriplicateForms$Standing.goByDraws(II)I, the loop at 7 -/
noncomputable def S121_7 (m : MM) (b0 b1 b2 b3 b4 b5 : Int) : (Int × Int × Int × MM) ⊕ (Nat × Int × (Int × Int × Int × MM)) := (if b1 ≤ b3 then .inr (1, 0, (b3, b4, b5, m)) else (if 400 ≤ (m b0 8) then .inr (1, 0, (b3, b4, b5, m)) else .inl (s32 (b3 + 1), (L121_25 m b0 b1 b2 b3 0 b5).2.2.1, (L121_25 m b0 b1 b2 b3 0 b5).2.2.2.1, g122 ((L121_25 m b0 b1 b2 b3 0 b5).2.2.2.2) b0)))
set_option maxRecDepth 16384 in
noncomputable def K121_7 (m : MM) (b0 b1 b2 b3 b4 b5 : Int) : (Int × Int × Int × MM) → (Int × Int × Int × MM) ⊕ (Nat × Int × (Int × Int × Int × MM)) := fun s => S121_7 s.2.2.2 b0 b1 b2 s.1 s.2.1 s.2.2.1
set_option maxRecDepth 16384 in
noncomputable def L121_7 (m : MM) (b0 b1 b2 b3 b4 b5 : Int) : (Nat × Int × (Int × Int × Int × MM)) := Lp (K121_7 m b0 b1 b2 b3 b4 b5) (b3, b4, b5, m)
set_option maxRecDepth 16384 in
theorem l121_7 {X : KO} {ρ : Nat → Int32} {o : Instr × List (Nat × Int) × MM} {K : Nat} : ∀ {N : Nat} {m : MM} {b0 b1 b2 b3 b4 b5 : Int}, N ≤ K → MR X ρ 6 0 0 qP121 N 7 [b0, b1, b2, b3, b4, b5] [] m o → (MR X ρ 6 0 0 qP121 K 122 [b0, b1, b2, (L121_7 m b0 b1 b2 b3 b4 b5).2.2.1, (L121_7 m b0 b1 b2 b3 b4 b5).2.2.2.1, (L121_7 m b0 b1 b2 b3 b4 b5).2.2.2.2.1] [] ((L121_7 m b0 b1 b2 b3 b4 b5).2.2.2.2.2) o) := by
  intro N
  induction N using Nat.strongRecOn with
  | ind N ih =>
  intro m b0 b1 b2 b3 b4 b5 hK h
  have h := CR_iload_n h rfl
  have h : MR X ρ 6 0 0 qP121 N 8 [b0, b1, b2, b3, b4, b5] [(1, b3)] m o := h
  have h := CR_iload_n h rfl
  have h : MR X ρ 6 0 0 qP121 N 9 [b0, b1, b2, b3, b4, b5] [(1, b1), (1, b3)] m o := h
  rcases MR_icmp h rfl rfl with ⟨c1, h⟩ | ⟨c1, h⟩
  ·
    have c1 : b1 ≤ b3 := c1
    have h : MR X ρ 6 0 0 qP121 N 122 [b0, b1, b2, b3, b4, b5] [] m o := h
    have hr : L121_7 m b0 b1 b2 b3 b4 b5 = (1, 0, (b3, b4, b5, m)) := Lp_inr (f := K121_7 m b0 b1 b2 b3 b4 b5) (s := (b3, b4, b5, m)) ((if_pos c1).trans (rfl))
    rw [hr]
    exact CR_le (by omega) h
  ·
    have c1 : ¬ (b1 ≤ b3) := c1
    have h : MR X ρ 6 0 0 qP121 N 12 [b0, b1, b2, b3, b4, b5] [] m o := h
    have h := CR_aload_n h rfl
    have h : MR X ρ 6 0 0 qP121 N 13 [b0, b1, b2, b3, b4, b5] [(1, b0)] m o := h
    have h := CR_getf h rfl (by decide)
    have h : MR X ρ 6 0 0 qP121 N 16 [b0, b1, b2, b3, b4, b5] [(1, m b0 8)] m o := h
    have h := CR_sipush h rfl rfl
    have h : MR X ρ 6 0 0 qP121 N 19 [b0, b1, b2, b3, b4, b5] [(1, 400), (1, m b0 8)] m o := h
    rcases MR_icmp h rfl rfl with ⟨c2, h⟩ | ⟨c2, h⟩
    ·
      have c2 : 400 ≤ (m b0 8) := c2
      have h : MR X ρ 6 0 0 qP121 N 122 [b0, b1, b2, b3, b4, b5] [] m o := h
      have hr : L121_7 m b0 b1 b2 b3 b4 b5 = (1, 0, (b3, b4, b5, m)) := Lp_inr (f := K121_7 m b0 b1 b2 b3 b4 b5) (s := (b3, b4, b5, m)) ((if_neg c1).trans ((if_pos c2).trans (rfl)))
      rw [hr]
      exact CR_le (by omega) h
    ·
      have c2 : ¬ (400 ≤ (m b0 8)) := c2
      have h : MR X ρ 6 0 0 qP121 N 22 [b0, b1, b2, b3, b4, b5] [] m o := h
      have h := CR_iconst h rfl rfl
      have h : MR X ρ 6 0 0 qP121 N 23 [b0, b1, b2, b3, b4, b5] [(1, 0)] m o := h
      have h := CR_istore h rfl (Nat.le_of_ble_eq_true rfl)
      have h : MR X ρ 6 0 0 qP121 N 25 [b0, b1, b2, b3, 0, b5] [] m o := h
      have h := l121_25 (Nat.le_refl _) h
      have h : MR X ρ 6 0 0 qP121 N 112 [b0, b1, b2, b3, (L121_25 m b0 b1 b2 b3 0 b5).2.2.1, (L121_25 m b0 b1 b2 b3 0 b5).2.2.2.1] [] ((L121_25 m b0 b1 b2 b3 0 b5).2.2.2.2) o := h
      have h := CR_aload_n h rfl
      have h : MR X ρ 6 0 0 qP121 N 113 [b0, b1, b2, b3, (L121_25 m b0 b1 b2 b3 0 b5).2.2.1, (L121_25 m b0 b1 b2 b3 0 b5).2.2.2.1] [(1, b0)] ((L121_25 m b0 b1 b2 b3 0 b5).2.2.2.2) o := h
      obtain ⟨r3, m4, q5, h⟩ := MR_invV h rfl rfl
      have q5 : Run X ρ 122 [(1, b0)] ((L121_25 m b0 b1 b2 b3 0 b5).2.2.2.2) r3 m4 := q5
      obtain ⟨e6, e7⟩ := d122 q5
      rw [e6, e7] at h
      have h : MR X ρ 6 0 0 qP121 N 116 [b0, b1, b2, b3, (L121_25 m b0 b1 b2 b3 0 b5).2.2.1, (L121_25 m b0 b1 b2 b3 0 b5).2.2.2.1] [] (g122 ((L121_25 m b0 b1 b2 b3 0 b5).2.2.2.2) b0) o := h
      have h := CR_inc h rfl (Nat.le_of_ble_eq_true rfl)
      have h : MR X ρ 6 0 0 qP121 N 119 [b0, b1, b2, s32 (b3 + 1), (L121_25 m b0 b1 b2 b3 0 b5).2.2.1, (L121_25 m b0 b1 b2 b3 0 b5).2.2.2.1] [] (g122 ((L121_25 m b0 b1 b2 b3 0 b5).2.2.2.2) b0) o := h
      obtain ⟨N8, eN8, h⟩ := CR_goto h rfl rfl
      have h : MR X ρ 6 0 0 qP121 N8 7 [b0, b1, b2, s32 (b3 + 1), (L121_25 m b0 b1 b2 b3 0 b5).2.2.1, (L121_25 m b0 b1 b2 b3 0 b5).2.2.2.1] [] (g122 ((L121_25 m b0 b1 b2 b3 0 b5).2.2.2.2) b0) o := h
      have hr : L121_7 m b0 b1 b2 b3 b4 b5 = L121_7 (g122 ((L121_25 m b0 b1 b2 b3 0 b5).2.2.2.2) b0) b0 b1 b2 (s32 (b3 + 1)) ((L121_25 m b0 b1 b2 b3 0 b5).2.2.1) ((L121_25 m b0 b1 b2 b3 0 b5).2.2.2.1) := Lp_inl (f := K121_7 m b0 b1 b2 b3 b4 b5) (s := (b3, b4, b5, m)) (s' := (s32 (b3 + 1), (L121_25 m b0 b1 b2 b3 0 b5).2.2.1, (L121_25 m b0 b1 b2 b3 0 b5).2.2.2.1, g122 ((L121_25 m b0 b1 b2 b3 0 b5).2.2.2.2) b0)) ((if_neg c1).trans ((if_neg c2).trans (rfl)))
      rw [hr]
      exact ih N8 (by omega) (by omega) h
set_option maxRecDepth 16384 in
/-- TriplicateForms$Standing.goByDraws(II)I -/
noncomputable def f121 (m : MM) (a0 a1 a2 : Int) : Int := (L121_7 (mu m a0 9 a2) a0 a1 a2 0 0 0).2.2.1
set_option maxRecDepth 16384 in
noncomputable def g121 (m : MM) (a0 a1 a2 : Int) : MM := (L121_7 (mu m a0 9 a2) a0 a1 a2 0 0 0).2.2.2.2.2
set_option maxRecDepth 16384 in
theorem d121 {X : KO} {ρ : Nat → Int32} {m m' : MM} {rl : List (Nat × Int)} {a0 a1 a2 : Int} (h : Run X ρ 121 [(1, a0), (1, a1), (1, a2)] m rl m') : rl = [(1, f121 m a0 a1 a2)] ∧ m' = g121 m a0 a1 a2 := by
  obtain ⟨N, ig, h⟩ := Run_CR h rfl
  have h : MR X ρ 6 0 0 qP121 N 0 [a0, a1, a2, 0, 0, 0] [] m (ig, rl, m') := h
  have h := CR_aload_n h rfl
  have h : MR X ρ 6 0 0 qP121 N 1 [a0, a1, a2, 0, 0, 0] [(1, a0)] m (ig, rl, m') := h
  have h := CR_iload_n h rfl
  have h : MR X ρ 6 0 0 qP121 N 2 [a0, a1, a2, 0, 0, 0] [(1, a2), (1, a0)] m (ig, rl, m') := h
  have h := CR_putf h rfl
  have h : MR X ρ 6 0 0 qP121 N 5 [a0, a1, a2, 0, 0, 0] [] (mu m a0 9 a2) (ig, rl, m') := h
  have h := CR_iconst h rfl rfl
  have h : MR X ρ 6 0 0 qP121 N 6 [a0, a1, a2, 0, 0, 0] [(1, 0)] (mu m a0 9 a2) (ig, rl, m') := h
  have h := CR_istore_n h rfl (Nat.le_of_ble_eq_true rfl)
  have h : MR X ρ 6 0 0 qP121 N 7 [a0, a1, a2, 0, 0, 0] [] (mu m a0 9 a2) (ig, rl, m') := h
  have h := l121_7 (Nat.le_refl _) h
  have h : MR X ρ 6 0 0 qP121 N 122 [a0, a1, a2, (L121_7 (mu m a0 9 a2) a0 a1 a2 0 0 0).2.2.1, (L121_7 (mu m a0 9 a2) a0 a1 a2 0 0 0).2.2.2.1, (L121_7 (mu m a0 9 a2) a0 a1 a2 0 0 0).2.2.2.2.1] [] ((L121_7 (mu m a0 9 a2) a0 a1 a2 0 0 0).2.2.2.2.2) (ig, rl, m') := h
  have h := CR_iload_n h rfl
  have h : MR X ρ 6 0 0 qP121 N 123 [a0, a1, a2, (L121_7 (mu m a0 9 a2) a0 a1 a2 0 0 0).2.2.1, (L121_7 (mu m a0 9 a2) a0 a1 a2 0 0 0).2.2.2.1, (L121_7 (mu m a0 9 a2) a0 a1 a2 0 0 0).2.2.2.2.1] [(1, (L121_7 (mu m a0 9 a2) a0 a1 a2 0 0 0).2.2.1)] ((L121_7 (mu m a0 9 a2) a0 a1 a2 0 0 0).2.2.2.2.2) (ig, rl, m') := h
  have e := CR_end h rfl rfl
  cases e
  exact ⟨congrArg (fun z => [(1, z)]) (Eq.symm (show f121 m a0 a1 a2 = _ from rfl)), Eq.symm (show g121 m a0 a1 a2 = _ from rfl)⟩
set_option maxRecDepth 16384 in
/-- TriplicateFormsModel.act(IIIZ)I -/
noncomputable def f164 (m : MM) (a0 a1 a2 a3 a4 : Int) : Int := (if a4 = 0 then -1 else (if (f290 m a0 a1 a2 a3) = 0 then 0 else f290 m a0 a1 a2 a3))
set_option maxRecDepth 16384 in
noncomputable def g164 (m : MM) (a0 a1 a2 a3 a4 : Int) : MM := (if a4 = 0 then m else (if (f290 m a0 a1 a2 a3) = 0 then g222 (g276 m a0) a0 a1 a2 a3 else m))
set_option maxRecDepth 16384 in
theorem d164 {X : KO} {ρ : Nat → Int32} {m m' : MM} {rl : List (Nat × Int)} {a0 a1 a2 a3 a4 : Int} (h : Run X ρ 164 [(1, a0), (1, a1), (1, a2), (1, a3), (1, a4)] m rl m') : rl = [(1, f164 m a0 a1 a2 a3 a4)] ∧ m' = g164 m a0 a1 a2 a3 a4 := by
  obtain ⟨N, ig, h⟩ := Run_CR h rfl
  have h : MR X ρ 6 0 0 qP164 N 0 [a0, a1, a2, a3, a4, 0] [] m (ig, rl, m') := h
  have h := CR_iload h rfl
  have h : MR X ρ 6 0 0 qP164 N 2 [a0, a1, a2, a3, a4, 0] [(1, a4)] m (ig, rl, m') := h
  rcases MR_if h rfl rfl with ⟨c1, h⟩ | ⟨c1, h⟩
  ·
    have c1 : ¬ (a4 = 0) := c1
    have h : MR X ρ 6 0 0 qP164 N 7 [a0, a1, a2, a3, a4, 0] [] m (ig, rl, m') := h
    have h := CR_aload_n h rfl
    have h : MR X ρ 6 0 0 qP164 N 8 [a0, a1, a2, a3, a4, 0] [(1, a0)] m (ig, rl, m') := h
    have h := CR_iload_n h rfl
    have h : MR X ρ 6 0 0 qP164 N 9 [a0, a1, a2, a3, a4, 0] [(1, a1), (1, a0)] m (ig, rl, m') := h
    have h := CR_iload_n h rfl
    have h : MR X ρ 6 0 0 qP164 N 10 [a0, a1, a2, a3, a4, 0] [(1, a2), (1, a1), (1, a0)] m (ig, rl, m') := h
    have h := CR_iload_n h rfl
    have h : MR X ρ 6 0 0 qP164 N 11 [a0, a1, a2, a3, a4, 0] [(1, a3), (1, a2), (1, a1), (1, a0)] m (ig, rl, m') := h
    obtain ⟨r2, m3, q4, h⟩ := MR_invV h rfl rfl
    have q4 : Run X ρ 290 [(1, a0), (1, a1), (1, a2), (1, a3)] m r2 m3 := q4
    obtain ⟨e5, e6⟩ := d290 q4
    rw [e5, e6] at h
    have h : MR X ρ 6 0 0 qP164 N 14 [a0, a1, a2, a3, a4, 0] [(1, f290 m a0 a1 a2 a3)] m (ig, rl, m') := h
    have h := CR_istore h rfl (Nat.le_of_ble_eq_true rfl)
    have h : MR X ρ 6 0 0 qP164 N 16 [a0, a1, a2, a3, a4, f290 m a0 a1 a2 a3] [] m (ig, rl, m') := h
    have h := CR_iload h rfl
    have h : MR X ρ 6 0 0 qP164 N 18 [a0, a1, a2, a3, a4, f290 m a0 a1 a2 a3] [(1, f290 m a0 a1 a2 a3)] m (ig, rl, m') := h
    rcases MR_if h rfl rfl with ⟨c7, h⟩ | ⟨c7, h⟩
    ·
      have c7 : (f290 m a0 a1 a2 a3) = 0 := c7
      have h : MR X ρ 6 0 0 qP164 N 24 [a0, a1, a2, a3, a4, f290 m a0 a1 a2 a3] [] m (ig, rl, m') := h
      have h := CR_aload_n h rfl
      have h : MR X ρ 6 0 0 qP164 N 25 [a0, a1, a2, a3, a4, f290 m a0 a1 a2 a3] [(1, a0)] m (ig, rl, m') := h
      obtain ⟨r8, m9, q10, h⟩ := MR_invV h rfl rfl
      have q10 : Run X ρ 276 [(1, a0)] m r8 m9 := q10
      obtain ⟨e11, e12⟩ := d276 q10
      rw [e11, e12] at h
      have h : MR X ρ 6 0 0 qP164 N 28 [a0, a1, a2, a3, a4, f290 m a0 a1 a2 a3] [] (g276 m a0) (ig, rl, m') := h
      have h := CR_aload_n h rfl
      have h : MR X ρ 6 0 0 qP164 N 29 [a0, a1, a2, a3, a4, f290 m a0 a1 a2 a3] [(1, a0)] (g276 m a0) (ig, rl, m') := h
      have h := CR_iload_n h rfl
      have h : MR X ρ 6 0 0 qP164 N 30 [a0, a1, a2, a3, a4, f290 m a0 a1 a2 a3] [(1, a1), (1, a0)] (g276 m a0) (ig, rl, m') := h
      have h := CR_iload_n h rfl
      have h : MR X ρ 6 0 0 qP164 N 31 [a0, a1, a2, a3, a4, f290 m a0 a1 a2 a3] [(1, a2), (1, a1), (1, a0)] (g276 m a0) (ig, rl, m') := h
      have h := CR_iload_n h rfl
      have h : MR X ρ 6 0 0 qP164 N 32 [a0, a1, a2, a3, a4, f290 m a0 a1 a2 a3] [(1, a3), (1, a2), (1, a1), (1, a0)] (g276 m a0) (ig, rl, m') := h
      obtain ⟨r13, m14, q15, h⟩ := MR_invV h rfl rfl
      have q15 : Run X ρ 222 [(1, a0), (1, a1), (1, a2), (1, a3)] (g276 m a0) r13 m14 := q15
      obtain ⟨e16, e17⟩ := d222 q15
      rw [e16, e17] at h
      have h : MR X ρ 6 0 0 qP164 N 35 [a0, a1, a2, a3, a4, f290 m a0 a1 a2 a3] [] (g222 (g276 m a0) a0 a1 a2 a3) (ig, rl, m') := h
      have h := CR_iconst h rfl rfl
      have h : MR X ρ 6 0 0 qP164 N 36 [a0, a1, a2, a3, a4, f290 m a0 a1 a2 a3] [(1, 0)] (g222 (g276 m a0) a0 a1 a2 a3) (ig, rl, m') := h
      have e := CR_end h rfl rfl
      cases e
      exact ⟨congrArg (fun z => [(1, z)]) (Eq.symm (show f164 m a0 a1 a2 a3 a4 = _ from (if_neg c1).trans ((if_pos c7).trans (rfl)))), Eq.symm (show g164 m a0 a1 a2 a3 a4 = _ from (if_neg c1).trans ((if_pos c7).trans (rfl)))⟩
    ·
      have c7 : ¬ ((f290 m a0 a1 a2 a3) = 0) := c7
      have h : MR X ρ 6 0 0 qP164 N 21 [a0, a1, a2, a3, a4, f290 m a0 a1 a2 a3] [] m (ig, rl, m') := h
      have h := CR_iload h rfl
      have h : MR X ρ 6 0 0 qP164 N 23 [a0, a1, a2, a3, a4, f290 m a0 a1 a2 a3] [(1, f290 m a0 a1 a2 a3)] m (ig, rl, m') := h
      have e := CR_end h rfl rfl
      cases e
      exact ⟨congrArg (fun z => [(1, z)]) (Eq.symm (show f164 m a0 a1 a2 a3 a4 = _ from (if_neg c1).trans ((if_neg c7).trans (rfl)))), Eq.symm (show g164 m a0 a1 a2 a3 a4 = _ from (if_neg c1).trans ((if_neg c7).trans (rfl)))⟩
  ·
    have c1 : a4 = 0 := Decidable.of_not_not (show ¬ ¬ (a4 = 0) from c1)
    have h : MR X ρ 6 0 0 qP164 N 5 [a0, a1, a2, a3, a4, 0] [] m (ig, rl, m') := h
    have h := CR_iconst h rfl rfl
    have h : MR X ρ 6 0 0 qP164 N 6 [a0, a1, a2, a3, a4, 0] [(1, -1)] m (ig, rl, m') := h
    have e := CR_end h rfl rfl
    cases e
    exact ⟨congrArg (fun z => [(1, z)]) (Eq.symm (show f164 m a0 a1 a2 a3 a4 = _ from (if_pos c1).trans (rfl))), Eq.symm (show g164 m a0 a1 a2 a3 a4 = _ from (if_pos c1).trans (rfl))⟩
set_option maxRecDepth 16384 in
/-- TriplicateFormsModel.back(I)I -/
noncomputable def f167 (m : MM) (a0 a1 : Int) : Int := f164 (mu m a0 0 0) a0 4 a1 0 (f213 (mu m a0 0 0) a0 a1)
set_option maxRecDepth 16384 in
noncomputable def g167 (m : MM) (a0 a1 : Int) : MM := g164 (mu m a0 0 0) a0 4 a1 0 (f213 (mu m a0 0 0) a0 a1)
set_option maxRecDepth 16384 in
theorem d167 {X : KO} {ρ : Nat → Int32} {m m' : MM} {rl : List (Nat × Int)} {a0 a1 : Int} (h : Run X ρ 167 [(1, a0), (1, a1)] m rl m') : rl = [(1, f167 m a0 a1)] ∧ m' = g167 m a0 a1 := by
  obtain ⟨N, ig, h⟩ := Run_CR h rfl
  have h : MR X ρ 2 0 0 qP167 N 0 [a0, a1] [] m (ig, rl, m') := h
  have h := CR_aload_n h rfl
  have h : MR X ρ 2 0 0 qP167 N 1 [a0, a1] [(1, a0)] m (ig, rl, m') := h
  have h := CR_iconst h rfl rfl
  have h : MR X ρ 2 0 0 qP167 N 2 [a0, a1] [(1, 0), (1, a0)] m (ig, rl, m') := h
  have h := CR_putf h rfl
  have h : MR X ρ 2 0 0 qP167 N 5 [a0, a1] [] (mu m a0 0 0) (ig, rl, m') := h
  have h := CR_aload_n h rfl
  have h : MR X ρ 2 0 0 qP167 N 6 [a0, a1] [(1, a0)] (mu m a0 0 0) (ig, rl, m') := h
  have h := CR_iconst h rfl rfl
  have h : MR X ρ 2 0 0 qP167 N 7 [a0, a1] [(1, 4), (1, a0)] (mu m a0 0 0) (ig, rl, m') := h
  have h := CR_iload_n h rfl
  have h : MR X ρ 2 0 0 qP167 N 8 [a0, a1] [(1, a1), (1, 4), (1, a0)] (mu m a0 0 0) (ig, rl, m') := h
  have h := CR_iconst h rfl rfl
  have h : MR X ρ 2 0 0 qP167 N 9 [a0, a1] [(1, 0), (1, a1), (1, 4), (1, a0)] (mu m a0 0 0) (ig, rl, m') := h
  have h := CR_aload_n h rfl
  have h : MR X ρ 2 0 0 qP167 N 10 [a0, a1] [(1, a0), (1, 0), (1, a1), (1, 4), (1, a0)] (mu m a0 0 0) (ig, rl, m') := h
  have h := CR_iload_n h rfl
  have h : MR X ρ 2 0 0 qP167 N 11 [a0, a1] [(1, a1), (1, a0), (1, 0), (1, a1), (1, 4), (1, a0)] (mu m a0 0 0) (ig, rl, m') := h
  obtain ⟨r1, m2, q3, h⟩ := MR_invV h rfl rfl
  have q3 : Run X ρ 213 [(1, a0), (1, a1)] (mu m a0 0 0) r1 m2 := q3
  obtain ⟨e4, e5⟩ := d213 q3
  rw [e4, e5] at h
  have h : MR X ρ 2 0 0 qP167 N 14 [a0, a1] [(1, f213 (mu m a0 0 0) a0 a1), (1, 0), (1, a1), (1, 4), (1, a0)] (mu m a0 0 0) (ig, rl, m') := h
  obtain ⟨r6, m7, q8, h⟩ := MR_invV h rfl rfl
  have q8 : Run X ρ 164 [(1, a0), (1, 4), (1, a1), (1, 0), (1, f213 (mu m a0 0 0) a0 a1)] (mu m a0 0 0) r6 m7 := q8
  obtain ⟨e9, e10⟩ := d164 q8
  rw [e9, e10] at h
  have h : MR X ρ 2 0 0 qP167 N 17 [a0, a1] [(1, f164 (mu m a0 0 0) a0 4 a1 0 (f213 (mu m a0 0 0) a0 a1))] (g164 (mu m a0 0 0) a0 4 a1 0 (f213 (mu m a0 0 0) a0 a1)) (ig, rl, m') := h
  have e := CR_end h rfl rfl
  cases e
  exact ⟨congrArg (fun z => [(1, z)]) (Eq.symm (show f167 m a0 a1 = _ from rfl)), Eq.symm (show g167 m a0 a1 = _ from rfl)⟩
set_option maxRecDepth 16384 in
/-- TriplicateFormsModel.cancel(I)I -/
noncomputable def f175 (m : MM) (a0 a1 : Int) : Int := f164 (mu m a0 0 0) a0 5 a1 0 (f208 (mu m a0 0 0) a0 a1)
set_option maxRecDepth 16384 in
noncomputable def g175 (m : MM) (a0 a1 : Int) : MM := g164 (mu m a0 0 0) a0 5 a1 0 (f208 (mu m a0 0 0) a0 a1)
set_option maxRecDepth 16384 in
theorem d175 {X : KO} {ρ : Nat → Int32} {m m' : MM} {rl : List (Nat × Int)} {a0 a1 : Int} (h : Run X ρ 175 [(1, a0), (1, a1)] m rl m') : rl = [(1, f175 m a0 a1)] ∧ m' = g175 m a0 a1 := by
  obtain ⟨N, ig, h⟩ := Run_CR h rfl
  have h : MR X ρ 2 0 0 qP175 N 0 [a0, a1] [] m (ig, rl, m') := h
  have h := CR_aload_n h rfl
  have h : MR X ρ 2 0 0 qP175 N 1 [a0, a1] [(1, a0)] m (ig, rl, m') := h
  have h := CR_iconst h rfl rfl
  have h : MR X ρ 2 0 0 qP175 N 2 [a0, a1] [(1, 0), (1, a0)] m (ig, rl, m') := h
  have h := CR_putf h rfl
  have h : MR X ρ 2 0 0 qP175 N 5 [a0, a1] [] (mu m a0 0 0) (ig, rl, m') := h
  have h := CR_aload_n h rfl
  have h : MR X ρ 2 0 0 qP175 N 6 [a0, a1] [(1, a0)] (mu m a0 0 0) (ig, rl, m') := h
  have h := CR_iconst h rfl rfl
  have h : MR X ρ 2 0 0 qP175 N 7 [a0, a1] [(1, 5), (1, a0)] (mu m a0 0 0) (ig, rl, m') := h
  have h := CR_iload_n h rfl
  have h : MR X ρ 2 0 0 qP175 N 8 [a0, a1] [(1, a1), (1, 5), (1, a0)] (mu m a0 0 0) (ig, rl, m') := h
  have h := CR_iconst h rfl rfl
  have h : MR X ρ 2 0 0 qP175 N 9 [a0, a1] [(1, 0), (1, a1), (1, 5), (1, a0)] (mu m a0 0 0) (ig, rl, m') := h
  have h := CR_aload_n h rfl
  have h : MR X ρ 2 0 0 qP175 N 10 [a0, a1] [(1, a0), (1, 0), (1, a1), (1, 5), (1, a0)] (mu m a0 0 0) (ig, rl, m') := h
  have h := CR_iload_n h rfl
  have h : MR X ρ 2 0 0 qP175 N 11 [a0, a1] [(1, a1), (1, a0), (1, 0), (1, a1), (1, 5), (1, a0)] (mu m a0 0 0) (ig, rl, m') := h
  obtain ⟨r1, m2, q3, h⟩ := MR_invV h rfl rfl
  have q3 : Run X ρ 208 [(1, a0), (1, a1)] (mu m a0 0 0) r1 m2 := q3
  obtain ⟨e4, e5⟩ := d208 q3
  rw [e4, e5] at h
  have h : MR X ρ 2 0 0 qP175 N 14 [a0, a1] [(1, f208 (mu m a0 0 0) a0 a1), (1, 0), (1, a1), (1, 5), (1, a0)] (mu m a0 0 0) (ig, rl, m') := h
  obtain ⟨r6, m7, q8, h⟩ := MR_invV h rfl rfl
  have q8 : Run X ρ 164 [(1, a0), (1, 5), (1, a1), (1, 0), (1, f208 (mu m a0 0 0) a0 a1)] (mu m a0 0 0) r6 m7 := q8
  obtain ⟨e9, e10⟩ := d164 q8
  rw [e9, e10] at h
  have h : MR X ρ 2 0 0 qP175 N 17 [a0, a1] [(1, f164 (mu m a0 0 0) a0 5 a1 0 (f208 (mu m a0 0 0) a0 a1))] (g164 (mu m a0 0 0) a0 5 a1 0 (f208 (mu m a0 0 0) a0 a1)) (ig, rl, m') := h
  have e := CR_end h rfl rfl
  cases e
  exact ⟨congrArg (fun z => [(1, z)]) (Eq.symm (show f175 m a0 a1 = _ from rfl)), Eq.symm (show g175 m a0 a1 = _ from rfl)⟩
set_option maxRecDepth 16384 in
/-- TriplicateFormsModel.drawsFor(I)V -/
noncomputable def g185 (m : MM) (a0 a1 : Int) : MM := (if (m (m a0 14) 1) ≤ 0 then (if (f182 m a0 6) ≤ 1 then (if (f182 m a0 6) = 0 then (if (f290 (g182 (g182 m a0 6) a0 ((g182 m a0 6) ((g182 m a0 6) a0 14) 0)) a0 2 a1 (f182 (g182 m a0 6) a0 ((g182 m a0 6) ((g182 m a0 6) a0 14) 0))) = 0 then g222 (g182 (g182 m a0 6) a0 ((g182 m a0 6) ((g182 m a0 6) a0 14) 0)) a0 2 a1 (f182 (g182 m a0 6) a0 ((g182 m a0 6) ((g182 m a0 6) a0 14) 0)) else g182 (g182 m a0 6) a0 ((g182 m a0 6) ((g182 m a0 6) a0 14) 0)) else (if (f290 (g182 (g182 m a0 6) a0 ((g182 m a0 6) ((g182 m a0 6) a0 14) 0)) a0 1 a1 (f182 (g182 m a0 6) a0 ((g182 m a0 6) ((g182 m a0 6) a0 14) 0))) = 0 then g222 (g182 (g182 m a0 6) a0 ((g182 m a0 6) ((g182 m a0 6) a0 14) 0)) a0 1 a1 (f182 (g182 m a0 6) a0 ((g182 m a0 6) ((g182 m a0 6) a0 14) 0)) else g182 (g182 m a0 6) a0 ((g182 m a0 6) ((g182 m a0 6) a0 14) 0))) else g182 m a0 6) else (if (f290 (g182 m a0 (m (m a0 14) 1)) a0 0 a1 (f182 m a0 (m (m a0 14) 1))) = 0 then (if (f182 (g222 (g182 m a0 (m (m a0 14) 1)) a0 0 a1 (f182 m a0 (m (m a0 14) 1))) a0 6) ≤ 1 then (if (f182 (g222 (g182 m a0 (m (m a0 14) 1)) a0 0 a1 (f182 m a0 (m (m a0 14) 1))) a0 6) = 0 then (if (f290 (g182 (g182 (g222 (g182 m a0 (m (m a0 14) 1)) a0 0 a1 (f182 m a0 (m (m a0 14) 1))) a0 6) a0 ((g182 (g222 (g182 m a0 (m (m a0 14) 1)) a0 0 a1 (f182 m a0 (m (m a0 14) 1))) a0 6) ((g182 (g222 (g182 m a0 (m (m a0 14) 1)) a0 0 a1 (f182 m a0 (m (m a0 14) 1))) a0 6) a0 14) 0)) a0 2 a1 (f182 (g182 (g222 (g182 m a0 (m (m a0 14) 1)) a0 0 a1 (f182 m a0 (m (m a0 14) 1))) a0 6) a0 ((g182 (g222 (g182 m a0 (m (m a0 14) 1)) a0 0 a1 (f182 m a0 (m (m a0 14) 1))) a0 6) ((g182 (g222 (g182 m a0 (m (m a0 14) 1)) a0 0 a1 (f182 m a0 (m (m a0 14) 1))) a0 6) a0 14) 0))) = 0 then g222 (g182 (g182 (g222 (g182 m a0 (m (m a0 14) 1)) a0 0 a1 (f182 m a0 (m (m a0 14) 1))) a0 6) a0 ((g182 (g222 (g182 m a0 (m (m a0 14) 1)) a0 0 a1 (f182 m a0 (m (m a0 14) 1))) a0 6) ((g182 (g222 (g182 m a0 (m (m a0 14) 1)) a0 0 a1 (f182 m a0 (m (m a0 14) 1))) a0 6) a0 14) 0)) a0 2 a1 (f182 (g182 (g222 (g182 m a0 (m (m a0 14) 1)) a0 0 a1 (f182 m a0 (m (m a0 14) 1))) a0 6) a0 ((g182 (g222 (g182 m a0 (m (m a0 14) 1)) a0 0 a1 (f182 m a0 (m (m a0 14) 1))) a0 6) ((g182 (g222 (g182 m a0 (m (m a0 14) 1)) a0 0 a1 (f182 m a0 (m (m a0 14) 1))) a0 6) a0 14) 0)) else g182 (g182 (g222 (g182 m a0 (m (m a0 14) 1)) a0 0 a1 (f182 m a0 (m (m a0 14) 1))) a0 6) a0 ((g182 (g222 (g182 m a0 (m (m a0 14) 1)) a0 0 a1 (f182 m a0 (m (m a0 14) 1))) a0 6) ((g182 (g222 (g182 m a0 (m (m a0 14) 1)) a0 0 a1 (f182 m a0 (m (m a0 14) 1))) a0 6) a0 14) 0)) else (if (f290 (g182 (g182 (g222 (g182 m a0 (m (m a0 14) 1)) a0 0 a1 (f182 m a0 (m (m a0 14) 1))) a0 6) a0 ((g182 (g222 (g182 m a0 (m (m a0 14) 1)) a0 0 a1 (f182 m a0 (m (m a0 14) 1))) a0 6) ((g182 (g222 (g182 m a0 (m (m a0 14) 1)) a0 0 a1 (f182 m a0 (m (m a0 14) 1))) a0 6) a0 14) 0)) a0 1 a1 (f182 (g182 (g222 (g182 m a0 (m (m a0 14) 1)) a0 0 a1 (f182 m a0 (m (m a0 14) 1))) a0 6) a0 ((g182 (g222 (g182 m a0 (m (m a0 14) 1)) a0 0 a1 (f182 m a0 (m (m a0 14) 1))) a0 6) ((g182 (g222 (g182 m a0 (m (m a0 14) 1)) a0 0 a1 (f182 m a0 (m (m a0 14) 1))) a0 6) a0 14) 0))) = 0 then g222 (g182 (g182 (g222 (g182 m a0 (m (m a0 14) 1)) a0 0 a1 (f182 m a0 (m (m a0 14) 1))) a0 6) a0 ((g182 (g222 (g182 m a0 (m (m a0 14) 1)) a0 0 a1 (f182 m a0 (m (m a0 14) 1))) a0 6) ((g182 (g222 (g182 m a0 (m (m a0 14) 1)) a0 0 a1 (f182 m a0 (m (m a0 14) 1))) a0 6) a0 14) 0)) a0 1 a1 (f182 (g182 (g222 (g182 m a0 (m (m a0 14) 1)) a0 0 a1 (f182 m a0 (m (m a0 14) 1))) a0 6) a0 ((g182 (g222 (g182 m a0 (m (m a0 14) 1)) a0 0 a1 (f182 m a0 (m (m a0 14) 1))) a0 6) ((g182 (g222 (g182 m a0 (m (m a0 14) 1)) a0 0 a1 (f182 m a0 (m (m a0 14) 1))) a0 6) a0 14) 0)) else g182 (g182 (g222 (g182 m a0 (m (m a0 14) 1)) a0 0 a1 (f182 m a0 (m (m a0 14) 1))) a0 6) a0 ((g182 (g222 (g182 m a0 (m (m a0 14) 1)) a0 0 a1 (f182 m a0 (m (m a0 14) 1))) a0 6) ((g182 (g222 (g182 m a0 (m (m a0 14) 1)) a0 0 a1 (f182 m a0 (m (m a0 14) 1))) a0 6) a0 14) 0))) else g182 (g222 (g182 m a0 (m (m a0 14) 1)) a0 0 a1 (f182 m a0 (m (m a0 14) 1))) a0 6) else (if (f182 (g182 m a0 (m (m a0 14) 1)) a0 6) ≤ 1 then (if (f182 (g182 m a0 (m (m a0 14) 1)) a0 6) = 0 then (if (f290 (g182 (g182 (g182 m a0 (m (m a0 14) 1)) a0 6) a0 ((g182 (g182 m a0 (m (m a0 14) 1)) a0 6) ((g182 (g182 m a0 (m (m a0 14) 1)) a0 6) a0 14) 0)) a0 2 a1 (f182 (g182 (g182 m a0 (m (m a0 14) 1)) a0 6) a0 ((g182 (g182 m a0 (m (m a0 14) 1)) a0 6) ((g182 (g182 m a0 (m (m a0 14) 1)) a0 6) a0 14) 0))) = 0 then g222 (g182 (g182 (g182 m a0 (m (m a0 14) 1)) a0 6) a0 ((g182 (g182 m a0 (m (m a0 14) 1)) a0 6) ((g182 (g182 m a0 (m (m a0 14) 1)) a0 6) a0 14) 0)) a0 2 a1 (f182 (g182 (g182 m a0 (m (m a0 14) 1)) a0 6) a0 ((g182 (g182 m a0 (m (m a0 14) 1)) a0 6) ((g182 (g182 m a0 (m (m a0 14) 1)) a0 6) a0 14) 0)) else g182 (g182 (g182 m a0 (m (m a0 14) 1)) a0 6) a0 ((g182 (g182 m a0 (m (m a0 14) 1)) a0 6) ((g182 (g182 m a0 (m (m a0 14) 1)) a0 6) a0 14) 0)) else (if (f290 (g182 (g182 (g182 m a0 (m (m a0 14) 1)) a0 6) a0 ((g182 (g182 m a0 (m (m a0 14) 1)) a0 6) ((g182 (g182 m a0 (m (m a0 14) 1)) a0 6) a0 14) 0)) a0 1 a1 (f182 (g182 (g182 m a0 (m (m a0 14) 1)) a0 6) a0 ((g182 (g182 m a0 (m (m a0 14) 1)) a0 6) ((g182 (g182 m a0 (m (m a0 14) 1)) a0 6) a0 14) 0))) = 0 then g222 (g182 (g182 (g182 m a0 (m (m a0 14) 1)) a0 6) a0 ((g182 (g182 m a0 (m (m a0 14) 1)) a0 6) ((g182 (g182 m a0 (m (m a0 14) 1)) a0 6) a0 14) 0)) a0 1 a1 (f182 (g182 (g182 m a0 (m (m a0 14) 1)) a0 6) a0 ((g182 (g182 m a0 (m (m a0 14) 1)) a0 6) ((g182 (g182 m a0 (m (m a0 14) 1)) a0 6) a0 14) 0)) else g182 (g182 (g182 m a0 (m (m a0 14) 1)) a0 6) a0 ((g182 (g182 m a0 (m (m a0 14) 1)) a0 6) ((g182 (g182 m a0 (m (m a0 14) 1)) a0 6) a0 14) 0))) else g182 (g182 m a0 (m (m a0 14) 1)) a0 6)))
set_option maxRecDepth 16384 in
theorem d185 {X : KO} {ρ : Nat → Int32} {m m' : MM} {rl : List (Nat × Int)} {a0 a1 : Int} (h : Run X ρ 185 [(1, a0), (1, a1)] m rl m') : rl = [] ∧ m' = g185 m a0 a1 := by
  obtain ⟨N, ig, h⟩ := Run_CR h rfl
  have h : MR X ρ 5 0 0 qP185 N 0 [a0, a1, 0, 0, 0] [] m (ig, rl, m') := h
  have h := CR_aload_n h rfl
  have h : MR X ρ 5 0 0 qP185 N 1 [a0, a1, 0, 0, 0] [(1, a0)] m (ig, rl, m') := h
  have h := CR_getf h rfl (by decide)
  have h : MR X ρ 5 0 0 qP185 N 4 [a0, a1, 0, 0, 0] [(1, m a0 14)] m (ig, rl, m') := h
  have h := CR_iconst h rfl rfl
  have h : MR X ρ 5 0 0 qP185 N 5 [a0, a1, 0, 0, 0] [(1, 1), (1, m a0 14)] m (ig, rl, m') := h
  have h := CR_iaload h rfl rfl
  have h : MR X ρ 5 0 0 qP185 N 6 [a0, a1, 0, 0, 0] [(1, m (m a0 14) 1)] m (ig, rl, m') := h
  rcases MR_if h rfl rfl with ⟨c1, h⟩ | ⟨c1, h⟩
  ·
    have c1 : (m (m a0 14) 1) ≤ 0 := c1
    have h : MR X ρ 5 0 0 qP185 N 37 [a0, a1, 0, 0, 0] [] m (ig, rl, m') := h
    have h := CR_aload_n h rfl
    have h : MR X ρ 5 0 0 qP185 N 38 [a0, a1, 0, 0, 0] [(1, a0)] m (ig, rl, m') := h
    have h := CR_bipush h rfl rfl
    have h : MR X ρ 5 0 0 qP185 N 40 [a0, a1, 0, 0, 0] [(1, 6), (1, a0)] m (ig, rl, m') := h
    obtain ⟨r2, m3, q4, h⟩ := MR_invV h rfl rfl
    have q4 : Run X ρ 182 [(1, a0), (1, 6)] m r2 m3 := q4
    obtain ⟨e5, e6⟩ := d182 q4
    rw [e5, e6] at h
    have h : MR X ρ 5 0 0 qP185 N 43 [a0, a1, 0, 0, 0] [(1, f182 m a0 6)] (g182 m a0 6) (ig, rl, m') := h
    have h := CR_istore_n h rfl (Nat.le_of_ble_eq_true rfl)
    have h : MR X ρ 5 0 0 qP185 N 44 [a0, a1, f182 m a0 6, 0, 0] [] (g182 m a0 6) (ig, rl, m') := h
    have h := CR_iload_n h rfl
    have h : MR X ρ 5 0 0 qP185 N 45 [a0, a1, f182 m a0 6, 0, 0] [(1, f182 m a0 6)] (g182 m a0 6) (ig, rl, m') := h
    have h := CR_iconst h rfl rfl
    have h : MR X ρ 5 0 0 qP185 N 46 [a0, a1, f182 m a0 6, 0, 0] [(1, 1), (1, f182 m a0 6)] (g182 m a0 6) (ig, rl, m') := h
    rcases MR_icmp h rfl rfl with ⟨c7, h⟩ | ⟨c7, h⟩
    ·
      have c7 : (f182 m a0 6) ≤ 1 := c7
      have h : MR X ρ 5 0 0 qP185 N 50 [a0, a1, f182 m a0 6, 0, 0] [] (g182 m a0 6) (ig, rl, m') := h
      have h := CR_aload_n h rfl
      have h : MR X ρ 5 0 0 qP185 N 51 [a0, a1, f182 m a0 6, 0, 0] [(1, a0)] (g182 m a0 6) (ig, rl, m') := h
      have h := CR_aload_n h rfl
      have h : MR X ρ 5 0 0 qP185 N 52 [a0, a1, f182 m a0 6, 0, 0] [(1, a0), (1, a0)] (g182 m a0 6) (ig, rl, m') := h
      have h := CR_getf h rfl (by decide)
      have h : MR X ρ 5 0 0 qP185 N 55 [a0, a1, f182 m a0 6, 0, 0] [(1, (g182 m a0 6) a0 14), (1, a0)] (g182 m a0 6) (ig, rl, m') := h
      have h := CR_iconst h rfl rfl
      have h : MR X ρ 5 0 0 qP185 N 56 [a0, a1, f182 m a0 6, 0, 0] [(1, 0), (1, (g182 m a0 6) a0 14), (1, a0)] (g182 m a0 6) (ig, rl, m') := h
      have h := CR_iaload h rfl rfl
      have h : MR X ρ 5 0 0 qP185 N 57 [a0, a1, f182 m a0 6, 0, 0] [(1, (g182 m a0 6) ((g182 m a0 6) a0 14) 0), (1, a0)] (g182 m a0 6) (ig, rl, m') := h
      obtain ⟨r8, m9, q10, h⟩ := MR_invV h rfl rfl
      have q10 : Run X ρ 182 [(1, a0), (1, (g182 m a0 6) ((g182 m a0 6) a0 14) 0)] (g182 m a0 6) r8 m9 := q10
      obtain ⟨e11, e12⟩ := d182 q10
      rw [e11, e12] at h
      have h : MR X ρ 5 0 0 qP185 N 60 [a0, a1, f182 m a0 6, 0, 0] [(1, f182 (g182 m a0 6) a0 ((g182 m a0 6) ((g182 m a0 6) a0 14) 0))] (g182 (g182 m a0 6) a0 ((g182 m a0 6) ((g182 m a0 6) a0 14) 0)) (ig, rl, m') := h
      have h := CR_istore_n h rfl (Nat.le_of_ble_eq_true rfl)
      have h : MR X ρ 5 0 0 qP185 N 61 [a0, a1, f182 m a0 6, f182 (g182 m a0 6) a0 ((g182 m a0 6) ((g182 m a0 6) a0 14) 0), 0] [] (g182 (g182 m a0 6) a0 ((g182 m a0 6) ((g182 m a0 6) a0 14) 0)) (ig, rl, m') := h
      have h := CR_iload_n h rfl
      have h : MR X ρ 5 0 0 qP185 N 62 [a0, a1, f182 m a0 6, f182 (g182 m a0 6) a0 ((g182 m a0 6) ((g182 m a0 6) a0 14) 0), 0] [(1, f182 m a0 6)] (g182 (g182 m a0 6) a0 ((g182 m a0 6) ((g182 m a0 6) a0 14) 0)) (ig, rl, m') := h
      rcases MR_if h rfl rfl with ⟨c13, h⟩ | ⟨c13, h⟩
      ·
        have c13 : ¬ ((f182 m a0 6) = 0) := c13
        have h : MR X ρ 5 0 0 qP185 N 69 [a0, a1, f182 m a0 6, f182 (g182 m a0 6) a0 ((g182 m a0 6) ((g182 m a0 6) a0 14) 0), 0] [] (g182 (g182 m a0 6) a0 ((g182 m a0 6) ((g182 m a0 6) a0 14) 0)) (ig, rl, m') := h
        have h := CR_iconst h rfl rfl
        have h : MR X ρ 5 0 0 qP185 N 70 [a0, a1, f182 m a0 6, f182 (g182 m a0 6) a0 ((g182 m a0 6) ((g182 m a0 6) a0 14) 0), 0] [(1, 1)] (g182 (g182 m a0 6) a0 ((g182 m a0 6) ((g182 m a0 6) a0 14) 0)) (ig, rl, m') := h
        have h := CR_istore h rfl (Nat.le_of_ble_eq_true rfl)
        have h : MR X ρ 5 0 0 qP185 N 72 [a0, a1, f182 m a0 6, f182 (g182 m a0 6) a0 ((g182 m a0 6) ((g182 m a0 6) a0 14) 0), 1] [] (g182 (g182 m a0 6) a0 ((g182 m a0 6) ((g182 m a0 6) a0 14) 0)) (ig, rl, m') := h
        have h := CR_aload_n h rfl
        have h : MR X ρ 5 0 0 qP185 N 73 [a0, a1, f182 m a0 6, f182 (g182 m a0 6) a0 ((g182 m a0 6) ((g182 m a0 6) a0 14) 0), 1] [(1, a0)] (g182 (g182 m a0 6) a0 ((g182 m a0 6) ((g182 m a0 6) a0 14) 0)) (ig, rl, m') := h
        have h := CR_iload h rfl
        have h : MR X ρ 5 0 0 qP185 N 75 [a0, a1, f182 m a0 6, f182 (g182 m a0 6) a0 ((g182 m a0 6) ((g182 m a0 6) a0 14) 0), 1] [(1, 1), (1, a0)] (g182 (g182 m a0 6) a0 ((g182 m a0 6) ((g182 m a0 6) a0 14) 0)) (ig, rl, m') := h
        have h := CR_iload_n h rfl
        have h : MR X ρ 5 0 0 qP185 N 76 [a0, a1, f182 m a0 6, f182 (g182 m a0 6) a0 ((g182 m a0 6) ((g182 m a0 6) a0 14) 0), 1] [(1, a1), (1, 1), (1, a0)] (g182 (g182 m a0 6) a0 ((g182 m a0 6) ((g182 m a0 6) a0 14) 0)) (ig, rl, m') := h
        have h := CR_iload_n h rfl
        have h : MR X ρ 5 0 0 qP185 N 77 [a0, a1, f182 m a0 6, f182 (g182 m a0 6) a0 ((g182 m a0 6) ((g182 m a0 6) a0 14) 0), 1] [(1, f182 (g182 m a0 6) a0 ((g182 m a0 6) ((g182 m a0 6) a0 14) 0)), (1, a1), (1, 1), (1, a0)] (g182 (g182 m a0 6) a0 ((g182 m a0 6) ((g182 m a0 6) a0 14) 0)) (ig, rl, m') := h
        obtain ⟨r14, m15, q16, h⟩ := MR_invV h rfl rfl
        have q16 : Run X ρ 290 [(1, a0), (1, 1), (1, a1), (1, f182 (g182 m a0 6) a0 ((g182 m a0 6) ((g182 m a0 6) a0 14) 0))] (g182 (g182 m a0 6) a0 ((g182 m a0 6) ((g182 m a0 6) a0 14) 0)) r14 m15 := q16
        obtain ⟨e17, e18⟩ := d290 q16
        rw [e17, e18] at h
        have h : MR X ρ 5 0 0 qP185 N 80 [a0, a1, f182 m a0 6, f182 (g182 m a0 6) a0 ((g182 m a0 6) ((g182 m a0 6) a0 14) 0), 1] [(1, f290 (g182 (g182 m a0 6) a0 ((g182 m a0 6) ((g182 m a0 6) a0 14) 0)) a0 1 a1 (f182 (g182 m a0 6) a0 ((g182 m a0 6) ((g182 m a0 6) a0 14) 0)))] (g182 (g182 m a0 6) a0 ((g182 m a0 6) ((g182 m a0 6) a0 14) 0)) (ig, rl, m') := h
        rcases MR_if h rfl rfl with ⟨c19, h⟩ | ⟨c19, h⟩
        ·
          have c19 : ¬ ((f290 (g182 (g182 m a0 6) a0 ((g182 m a0 6) ((g182 m a0 6) a0 14) 0)) a0 1 a1 (f182 (g182 m a0 6) a0 ((g182 m a0 6) ((g182 m a0 6) a0 14) 0))) = 0) := c19
          have h : MR X ρ 5 0 0 qP185 N 91 [a0, a1, f182 m a0 6, f182 (g182 m a0 6) a0 ((g182 m a0 6) ((g182 m a0 6) a0 14) 0), 1] [] (g182 (g182 m a0 6) a0 ((g182 m a0 6) ((g182 m a0 6) a0 14) 0)) (ig, rl, m') := h
          have e := CR_end h rfl rfl
          cases e
          exact ⟨rfl, Eq.symm (show g185 m a0 a1 = _ from (if_pos c1).trans ((if_pos c7).trans ((if_neg c13).trans ((if_neg c19).trans (rfl)))))⟩
        ·
          have c19 : (f290 (g182 (g182 m a0 6) a0 ((g182 m a0 6) ((g182 m a0 6) a0 14) 0)) a0 1 a1 (f182 (g182 m a0 6) a0 ((g182 m a0 6) ((g182 m a0 6) a0 14) 0))) = 0 := Decidable.of_not_not (show ¬ ¬ ((f290 (g182 (g182 m a0 6) a0 ((g182 m a0 6) ((g182 m a0 6) a0 14) 0)) a0 1 a1 (f182 (g182 m a0 6) a0 ((g182 m a0 6) ((g182 m a0 6) a0 14) 0))) = 0) from c19)
          have h : MR X ρ 5 0 0 qP185 N 83 [a0, a1, f182 m a0 6, f182 (g182 m a0 6) a0 ((g182 m a0 6) ((g182 m a0 6) a0 14) 0), 1] [] (g182 (g182 m a0 6) a0 ((g182 m a0 6) ((g182 m a0 6) a0 14) 0)) (ig, rl, m') := h
          have h := CR_aload_n h rfl
          have h : MR X ρ 5 0 0 qP185 N 84 [a0, a1, f182 m a0 6, f182 (g182 m a0 6) a0 ((g182 m a0 6) ((g182 m a0 6) a0 14) 0), 1] [(1, a0)] (g182 (g182 m a0 6) a0 ((g182 m a0 6) ((g182 m a0 6) a0 14) 0)) (ig, rl, m') := h
          have h := CR_iload h rfl
          have h : MR X ρ 5 0 0 qP185 N 86 [a0, a1, f182 m a0 6, f182 (g182 m a0 6) a0 ((g182 m a0 6) ((g182 m a0 6) a0 14) 0), 1] [(1, 1), (1, a0)] (g182 (g182 m a0 6) a0 ((g182 m a0 6) ((g182 m a0 6) a0 14) 0)) (ig, rl, m') := h
          have h := CR_iload_n h rfl
          have h : MR X ρ 5 0 0 qP185 N 87 [a0, a1, f182 m a0 6, f182 (g182 m a0 6) a0 ((g182 m a0 6) ((g182 m a0 6) a0 14) 0), 1] [(1, a1), (1, 1), (1, a0)] (g182 (g182 m a0 6) a0 ((g182 m a0 6) ((g182 m a0 6) a0 14) 0)) (ig, rl, m') := h
          have h := CR_iload_n h rfl
          have h : MR X ρ 5 0 0 qP185 N 88 [a0, a1, f182 m a0 6, f182 (g182 m a0 6) a0 ((g182 m a0 6) ((g182 m a0 6) a0 14) 0), 1] [(1, f182 (g182 m a0 6) a0 ((g182 m a0 6) ((g182 m a0 6) a0 14) 0)), (1, a1), (1, 1), (1, a0)] (g182 (g182 m a0 6) a0 ((g182 m a0 6) ((g182 m a0 6) a0 14) 0)) (ig, rl, m') := h
          obtain ⟨r20, m21, q22, h⟩ := MR_invV h rfl rfl
          have q22 : Run X ρ 222 [(1, a0), (1, 1), (1, a1), (1, f182 (g182 m a0 6) a0 ((g182 m a0 6) ((g182 m a0 6) a0 14) 0))] (g182 (g182 m a0 6) a0 ((g182 m a0 6) ((g182 m a0 6) a0 14) 0)) r20 m21 := q22
          obtain ⟨e23, e24⟩ := d222 q22
          rw [e23, e24] at h
          have h : MR X ρ 5 0 0 qP185 N 91 [a0, a1, f182 m a0 6, f182 (g182 m a0 6) a0 ((g182 m a0 6) ((g182 m a0 6) a0 14) 0), 1] [] (g222 (g182 (g182 m a0 6) a0 ((g182 m a0 6) ((g182 m a0 6) a0 14) 0)) a0 1 a1 (f182 (g182 m a0 6) a0 ((g182 m a0 6) ((g182 m a0 6) a0 14) 0))) (ig, rl, m') := h
          have e := CR_end h rfl rfl
          cases e
          exact ⟨rfl, Eq.symm (show g185 m a0 a1 = _ from (if_pos c1).trans ((if_pos c7).trans ((if_neg c13).trans ((if_pos c19).trans (rfl)))))⟩
      ·
        have c13 : (f182 m a0 6) = 0 := Decidable.of_not_not (show ¬ ¬ ((f182 m a0 6) = 0) from c13)
        have h : MR X ρ 5 0 0 qP185 N 65 [a0, a1, f182 m a0 6, f182 (g182 m a0 6) a0 ((g182 m a0 6) ((g182 m a0 6) a0 14) 0), 0] [] (g182 (g182 m a0 6) a0 ((g182 m a0 6) ((g182 m a0 6) a0 14) 0)) (ig, rl, m') := h
        have h := CR_iconst h rfl rfl
        have h : MR X ρ 5 0 0 qP185 N 66 [a0, a1, f182 m a0 6, f182 (g182 m a0 6) a0 ((g182 m a0 6) ((g182 m a0 6) a0 14) 0), 0] [(1, 2)] (g182 (g182 m a0 6) a0 ((g182 m a0 6) ((g182 m a0 6) a0 14) 0)) (ig, rl, m') := h
        have h := CR_go h rfl rfl
        have h : MR X ρ 5 0 0 qP185 N 70 [a0, a1, f182 m a0 6, f182 (g182 m a0 6) a0 ((g182 m a0 6) ((g182 m a0 6) a0 14) 0), 0] [(1, 2)] (g182 (g182 m a0 6) a0 ((g182 m a0 6) ((g182 m a0 6) a0 14) 0)) (ig, rl, m') := h
        have h := CR_istore h rfl (Nat.le_of_ble_eq_true rfl)
        have h : MR X ρ 5 0 0 qP185 N 72 [a0, a1, f182 m a0 6, f182 (g182 m a0 6) a0 ((g182 m a0 6) ((g182 m a0 6) a0 14) 0), 2] [] (g182 (g182 m a0 6) a0 ((g182 m a0 6) ((g182 m a0 6) a0 14) 0)) (ig, rl, m') := h
        have h := CR_aload_n h rfl
        have h : MR X ρ 5 0 0 qP185 N 73 [a0, a1, f182 m a0 6, f182 (g182 m a0 6) a0 ((g182 m a0 6) ((g182 m a0 6) a0 14) 0), 2] [(1, a0)] (g182 (g182 m a0 6) a0 ((g182 m a0 6) ((g182 m a0 6) a0 14) 0)) (ig, rl, m') := h
        have h := CR_iload h rfl
        have h : MR X ρ 5 0 0 qP185 N 75 [a0, a1, f182 m a0 6, f182 (g182 m a0 6) a0 ((g182 m a0 6) ((g182 m a0 6) a0 14) 0), 2] [(1, 2), (1, a0)] (g182 (g182 m a0 6) a0 ((g182 m a0 6) ((g182 m a0 6) a0 14) 0)) (ig, rl, m') := h
        have h := CR_iload_n h rfl
        have h : MR X ρ 5 0 0 qP185 N 76 [a0, a1, f182 m a0 6, f182 (g182 m a0 6) a0 ((g182 m a0 6) ((g182 m a0 6) a0 14) 0), 2] [(1, a1), (1, 2), (1, a0)] (g182 (g182 m a0 6) a0 ((g182 m a0 6) ((g182 m a0 6) a0 14) 0)) (ig, rl, m') := h
        have h := CR_iload_n h rfl
        have h : MR X ρ 5 0 0 qP185 N 77 [a0, a1, f182 m a0 6, f182 (g182 m a0 6) a0 ((g182 m a0 6) ((g182 m a0 6) a0 14) 0), 2] [(1, f182 (g182 m a0 6) a0 ((g182 m a0 6) ((g182 m a0 6) a0 14) 0)), (1, a1), (1, 2), (1, a0)] (g182 (g182 m a0 6) a0 ((g182 m a0 6) ((g182 m a0 6) a0 14) 0)) (ig, rl, m') := h
        obtain ⟨r25, m26, q27, h⟩ := MR_invV h rfl rfl
        have q27 : Run X ρ 290 [(1, a0), (1, 2), (1, a1), (1, f182 (g182 m a0 6) a0 ((g182 m a0 6) ((g182 m a0 6) a0 14) 0))] (g182 (g182 m a0 6) a0 ((g182 m a0 6) ((g182 m a0 6) a0 14) 0)) r25 m26 := q27
        obtain ⟨e28, e29⟩ := d290 q27
        rw [e28, e29] at h
        have h : MR X ρ 5 0 0 qP185 N 80 [a0, a1, f182 m a0 6, f182 (g182 m a0 6) a0 ((g182 m a0 6) ((g182 m a0 6) a0 14) 0), 2] [(1, f290 (g182 (g182 m a0 6) a0 ((g182 m a0 6) ((g182 m a0 6) a0 14) 0)) a0 2 a1 (f182 (g182 m a0 6) a0 ((g182 m a0 6) ((g182 m a0 6) a0 14) 0)))] (g182 (g182 m a0 6) a0 ((g182 m a0 6) ((g182 m a0 6) a0 14) 0)) (ig, rl, m') := h
        rcases MR_if h rfl rfl with ⟨c30, h⟩ | ⟨c30, h⟩
        ·
          have c30 : ¬ ((f290 (g182 (g182 m a0 6) a0 ((g182 m a0 6) ((g182 m a0 6) a0 14) 0)) a0 2 a1 (f182 (g182 m a0 6) a0 ((g182 m a0 6) ((g182 m a0 6) a0 14) 0))) = 0) := c30
          have h : MR X ρ 5 0 0 qP185 N 91 [a0, a1, f182 m a0 6, f182 (g182 m a0 6) a0 ((g182 m a0 6) ((g182 m a0 6) a0 14) 0), 2] [] (g182 (g182 m a0 6) a0 ((g182 m a0 6) ((g182 m a0 6) a0 14) 0)) (ig, rl, m') := h
          have e := CR_end h rfl rfl
          cases e
          exact ⟨rfl, Eq.symm (show g185 m a0 a1 = _ from (if_pos c1).trans ((if_pos c7).trans ((if_pos c13).trans ((if_neg c30).trans (rfl)))))⟩
        ·
          have c30 : (f290 (g182 (g182 m a0 6) a0 ((g182 m a0 6) ((g182 m a0 6) a0 14) 0)) a0 2 a1 (f182 (g182 m a0 6) a0 ((g182 m a0 6) ((g182 m a0 6) a0 14) 0))) = 0 := Decidable.of_not_not (show ¬ ¬ ((f290 (g182 (g182 m a0 6) a0 ((g182 m a0 6) ((g182 m a0 6) a0 14) 0)) a0 2 a1 (f182 (g182 m a0 6) a0 ((g182 m a0 6) ((g182 m a0 6) a0 14) 0))) = 0) from c30)
          have h : MR X ρ 5 0 0 qP185 N 83 [a0, a1, f182 m a0 6, f182 (g182 m a0 6) a0 ((g182 m a0 6) ((g182 m a0 6) a0 14) 0), 2] [] (g182 (g182 m a0 6) a0 ((g182 m a0 6) ((g182 m a0 6) a0 14) 0)) (ig, rl, m') := h
          have h := CR_aload_n h rfl
          have h : MR X ρ 5 0 0 qP185 N 84 [a0, a1, f182 m a0 6, f182 (g182 m a0 6) a0 ((g182 m a0 6) ((g182 m a0 6) a0 14) 0), 2] [(1, a0)] (g182 (g182 m a0 6) a0 ((g182 m a0 6) ((g182 m a0 6) a0 14) 0)) (ig, rl, m') := h
          have h := CR_iload h rfl
          have h : MR X ρ 5 0 0 qP185 N 86 [a0, a1, f182 m a0 6, f182 (g182 m a0 6) a0 ((g182 m a0 6) ((g182 m a0 6) a0 14) 0), 2] [(1, 2), (1, a0)] (g182 (g182 m a0 6) a0 ((g182 m a0 6) ((g182 m a0 6) a0 14) 0)) (ig, rl, m') := h
          have h := CR_iload_n h rfl
          have h : MR X ρ 5 0 0 qP185 N 87 [a0, a1, f182 m a0 6, f182 (g182 m a0 6) a0 ((g182 m a0 6) ((g182 m a0 6) a0 14) 0), 2] [(1, a1), (1, 2), (1, a0)] (g182 (g182 m a0 6) a0 ((g182 m a0 6) ((g182 m a0 6) a0 14) 0)) (ig, rl, m') := h
          have h := CR_iload_n h rfl
          have h : MR X ρ 5 0 0 qP185 N 88 [a0, a1, f182 m a0 6, f182 (g182 m a0 6) a0 ((g182 m a0 6) ((g182 m a0 6) a0 14) 0), 2] [(1, f182 (g182 m a0 6) a0 ((g182 m a0 6) ((g182 m a0 6) a0 14) 0)), (1, a1), (1, 2), (1, a0)] (g182 (g182 m a0 6) a0 ((g182 m a0 6) ((g182 m a0 6) a0 14) 0)) (ig, rl, m') := h
          obtain ⟨r31, m32, q33, h⟩ := MR_invV h rfl rfl
          have q33 : Run X ρ 222 [(1, a0), (1, 2), (1, a1), (1, f182 (g182 m a0 6) a0 ((g182 m a0 6) ((g182 m a0 6) a0 14) 0))] (g182 (g182 m a0 6) a0 ((g182 m a0 6) ((g182 m a0 6) a0 14) 0)) r31 m32 := q33
          obtain ⟨e34, e35⟩ := d222 q33
          rw [e34, e35] at h
          have h : MR X ρ 5 0 0 qP185 N 91 [a0, a1, f182 m a0 6, f182 (g182 m a0 6) a0 ((g182 m a0 6) ((g182 m a0 6) a0 14) 0), 2] [] (g222 (g182 (g182 m a0 6) a0 ((g182 m a0 6) ((g182 m a0 6) a0 14) 0)) a0 2 a1 (f182 (g182 m a0 6) a0 ((g182 m a0 6) ((g182 m a0 6) a0 14) 0))) (ig, rl, m') := h
          have e := CR_end h rfl rfl
          cases e
          exact ⟨rfl, Eq.symm (show g185 m a0 a1 = _ from (if_pos c1).trans ((if_pos c7).trans ((if_pos c13).trans ((if_pos c30).trans (rfl)))))⟩
    ·
      have c7 : ¬ ((f182 m a0 6) ≤ 1) := c7
      have h : MR X ρ 5 0 0 qP185 N 49 [a0, a1, f182 m a0 6, 0, 0] [] (g182 m a0 6) (ig, rl, m') := h
      have e := CR_end h rfl rfl
      cases e
      exact ⟨rfl, Eq.symm (show g185 m a0 a1 = _ from (if_pos c1).trans ((if_neg c7).trans (rfl)))⟩
  ·
    have c1 : ¬ ((m (m a0 14) 1) ≤ 0) := c1
    have h : MR X ρ 5 0 0 qP185 N 9 [a0, a1, 0, 0, 0] [] m (ig, rl, m') := h
    have h := CR_aload_n h rfl
    have h : MR X ρ 5 0 0 qP185 N 10 [a0, a1, 0, 0, 0] [(1, a0)] m (ig, rl, m') := h
    have h := CR_aload_n h rfl
    have h : MR X ρ 5 0 0 qP185 N 11 [a0, a1, 0, 0, 0] [(1, a0), (1, a0)] m (ig, rl, m') := h
    have h := CR_getf h rfl (by decide)
    have h : MR X ρ 5 0 0 qP185 N 14 [a0, a1, 0, 0, 0] [(1, m a0 14), (1, a0)] m (ig, rl, m') := h
    have h := CR_iconst h rfl rfl
    have h : MR X ρ 5 0 0 qP185 N 15 [a0, a1, 0, 0, 0] [(1, 1), (1, m a0 14), (1, a0)] m (ig, rl, m') := h
    have h := CR_iaload h rfl rfl
    have h : MR X ρ 5 0 0 qP185 N 16 [a0, a1, 0, 0, 0] [(1, m (m a0 14) 1), (1, a0)] m (ig, rl, m') := h
    obtain ⟨r36, m37, q38, h⟩ := MR_invV h rfl rfl
    have q38 : Run X ρ 182 [(1, a0), (1, m (m a0 14) 1)] m r36 m37 := q38
    obtain ⟨e39, e40⟩ := d182 q38
    rw [e39, e40] at h
    have h : MR X ρ 5 0 0 qP185 N 19 [a0, a1, 0, 0, 0] [(1, f182 m a0 (m (m a0 14) 1))] (g182 m a0 (m (m a0 14) 1)) (ig, rl, m') := h
    have h := CR_istore_n h rfl (Nat.le_of_ble_eq_true rfl)
    have h : MR X ρ 5 0 0 qP185 N 20 [a0, a1, f182 m a0 (m (m a0 14) 1), 0, 0] [] (g182 m a0 (m (m a0 14) 1)) (ig, rl, m') := h
    have h := CR_aload_n h rfl
    have h : MR X ρ 5 0 0 qP185 N 21 [a0, a1, f182 m a0 (m (m a0 14) 1), 0, 0] [(1, a0)] (g182 m a0 (m (m a0 14) 1)) (ig, rl, m') := h
    have h := CR_iconst h rfl rfl
    have h : MR X ρ 5 0 0 qP185 N 22 [a0, a1, f182 m a0 (m (m a0 14) 1), 0, 0] [(1, 0), (1, a0)] (g182 m a0 (m (m a0 14) 1)) (ig, rl, m') := h
    have h := CR_iload_n h rfl
    have h : MR X ρ 5 0 0 qP185 N 23 [a0, a1, f182 m a0 (m (m a0 14) 1), 0, 0] [(1, a1), (1, 0), (1, a0)] (g182 m a0 (m (m a0 14) 1)) (ig, rl, m') := h
    have h := CR_iload_n h rfl
    have h : MR X ρ 5 0 0 qP185 N 24 [a0, a1, f182 m a0 (m (m a0 14) 1), 0, 0] [(1, f182 m a0 (m (m a0 14) 1)), (1, a1), (1, 0), (1, a0)] (g182 m a0 (m (m a0 14) 1)) (ig, rl, m') := h
    obtain ⟨r41, m42, q43, h⟩ := MR_invV h rfl rfl
    have q43 : Run X ρ 290 [(1, a0), (1, 0), (1, a1), (1, f182 m a0 (m (m a0 14) 1))] (g182 m a0 (m (m a0 14) 1)) r41 m42 := q43
    obtain ⟨e44, e45⟩ := d290 q43
    rw [e44, e45] at h
    have h : MR X ρ 5 0 0 qP185 N 27 [a0, a1, f182 m a0 (m (m a0 14) 1), 0, 0] [(1, f290 (g182 m a0 (m (m a0 14) 1)) a0 0 a1 (f182 m a0 (m (m a0 14) 1)))] (g182 m a0 (m (m a0 14) 1)) (ig, rl, m') := h
    rcases MR_if h rfl rfl with ⟨c46, h⟩ | ⟨c46, h⟩
    ·
      have c46 : ¬ ((f290 (g182 m a0 (m (m a0 14) 1)) a0 0 a1 (f182 m a0 (m (m a0 14) 1))) = 0) := c46
      have h : MR X ρ 5 0 0 qP185 N 37 [a0, a1, f182 m a0 (m (m a0 14) 1), 0, 0] [] (g182 m a0 (m (m a0 14) 1)) (ig, rl, m') := h
      have h := CR_aload_n h rfl
      have h : MR X ρ 5 0 0 qP185 N 38 [a0, a1, f182 m a0 (m (m a0 14) 1), 0, 0] [(1, a0)] (g182 m a0 (m (m a0 14) 1)) (ig, rl, m') := h
      have h := CR_bipush h rfl rfl
      have h : MR X ρ 5 0 0 qP185 N 40 [a0, a1, f182 m a0 (m (m a0 14) 1), 0, 0] [(1, 6), (1, a0)] (g182 m a0 (m (m a0 14) 1)) (ig, rl, m') := h
      obtain ⟨r47, m48, q49, h⟩ := MR_invV h rfl rfl
      have q49 : Run X ρ 182 [(1, a0), (1, 6)] (g182 m a0 (m (m a0 14) 1)) r47 m48 := q49
      obtain ⟨e50, e51⟩ := d182 q49
      rw [e50, e51] at h
      have h : MR X ρ 5 0 0 qP185 N 43 [a0, a1, f182 m a0 (m (m a0 14) 1), 0, 0] [(1, f182 (g182 m a0 (m (m a0 14) 1)) a0 6)] (g182 (g182 m a0 (m (m a0 14) 1)) a0 6) (ig, rl, m') := h
      have h := CR_istore_n h rfl (Nat.le_of_ble_eq_true rfl)
      have h : MR X ρ 5 0 0 qP185 N 44 [a0, a1, f182 (g182 m a0 (m (m a0 14) 1)) a0 6, 0, 0] [] (g182 (g182 m a0 (m (m a0 14) 1)) a0 6) (ig, rl, m') := h
      have h := CR_iload_n h rfl
      have h : MR X ρ 5 0 0 qP185 N 45 [a0, a1, f182 (g182 m a0 (m (m a0 14) 1)) a0 6, 0, 0] [(1, f182 (g182 m a0 (m (m a0 14) 1)) a0 6)] (g182 (g182 m a0 (m (m a0 14) 1)) a0 6) (ig, rl, m') := h
      have h := CR_iconst h rfl rfl
      have h : MR X ρ 5 0 0 qP185 N 46 [a0, a1, f182 (g182 m a0 (m (m a0 14) 1)) a0 6, 0, 0] [(1, 1), (1, f182 (g182 m a0 (m (m a0 14) 1)) a0 6)] (g182 (g182 m a0 (m (m a0 14) 1)) a0 6) (ig, rl, m') := h
      rcases MR_icmp h rfl rfl with ⟨c52, h⟩ | ⟨c52, h⟩
      ·
        have c52 : (f182 (g182 m a0 (m (m a0 14) 1)) a0 6) ≤ 1 := c52
        have h : MR X ρ 5 0 0 qP185 N 50 [a0, a1, f182 (g182 m a0 (m (m a0 14) 1)) a0 6, 0, 0] [] (g182 (g182 m a0 (m (m a0 14) 1)) a0 6) (ig, rl, m') := h
        have h := CR_aload_n h rfl
        have h : MR X ρ 5 0 0 qP185 N 51 [a0, a1, f182 (g182 m a0 (m (m a0 14) 1)) a0 6, 0, 0] [(1, a0)] (g182 (g182 m a0 (m (m a0 14) 1)) a0 6) (ig, rl, m') := h
        have h := CR_aload_n h rfl
        have h : MR X ρ 5 0 0 qP185 N 52 [a0, a1, f182 (g182 m a0 (m (m a0 14) 1)) a0 6, 0, 0] [(1, a0), (1, a0)] (g182 (g182 m a0 (m (m a0 14) 1)) a0 6) (ig, rl, m') := h
        have h := CR_getf h rfl (by decide)
        have h : MR X ρ 5 0 0 qP185 N 55 [a0, a1, f182 (g182 m a0 (m (m a0 14) 1)) a0 6, 0, 0] [(1, (g182 (g182 m a0 (m (m a0 14) 1)) a0 6) a0 14), (1, a0)] (g182 (g182 m a0 (m (m a0 14) 1)) a0 6) (ig, rl, m') := h
        have h := CR_iconst h rfl rfl
        have h : MR X ρ 5 0 0 qP185 N 56 [a0, a1, f182 (g182 m a0 (m (m a0 14) 1)) a0 6, 0, 0] [(1, 0), (1, (g182 (g182 m a0 (m (m a0 14) 1)) a0 6) a0 14), (1, a0)] (g182 (g182 m a0 (m (m a0 14) 1)) a0 6) (ig, rl, m') := h
        have h := CR_iaload h rfl rfl
        have h : MR X ρ 5 0 0 qP185 N 57 [a0, a1, f182 (g182 m a0 (m (m a0 14) 1)) a0 6, 0, 0] [(1, (g182 (g182 m a0 (m (m a0 14) 1)) a0 6) ((g182 (g182 m a0 (m (m a0 14) 1)) a0 6) a0 14) 0), (1, a0)] (g182 (g182 m a0 (m (m a0 14) 1)) a0 6) (ig, rl, m') := h
        obtain ⟨r53, m54, q55, h⟩ := MR_invV h rfl rfl
        have q55 : Run X ρ 182 [(1, a0), (1, (g182 (g182 m a0 (m (m a0 14) 1)) a0 6) ((g182 (g182 m a0 (m (m a0 14) 1)) a0 6) a0 14) 0)] (g182 (g182 m a0 (m (m a0 14) 1)) a0 6) r53 m54 := q55
        obtain ⟨e56, e57⟩ := d182 q55
        rw [e56, e57] at h
        have h : MR X ρ 5 0 0 qP185 N 60 [a0, a1, f182 (g182 m a0 (m (m a0 14) 1)) a0 6, 0, 0] [(1, f182 (g182 (g182 m a0 (m (m a0 14) 1)) a0 6) a0 ((g182 (g182 m a0 (m (m a0 14) 1)) a0 6) ((g182 (g182 m a0 (m (m a0 14) 1)) a0 6) a0 14) 0))] (g182 (g182 (g182 m a0 (m (m a0 14) 1)) a0 6) a0 ((g182 (g182 m a0 (m (m a0 14) 1)) a0 6) ((g182 (g182 m a0 (m (m a0 14) 1)) a0 6) a0 14) 0)) (ig, rl, m') := h
        have h := CR_istore_n h rfl (Nat.le_of_ble_eq_true rfl)
        have h : MR X ρ 5 0 0 qP185 N 61 [a0, a1, f182 (g182 m a0 (m (m a0 14) 1)) a0 6, f182 (g182 (g182 m a0 (m (m a0 14) 1)) a0 6) a0 ((g182 (g182 m a0 (m (m a0 14) 1)) a0 6) ((g182 (g182 m a0 (m (m a0 14) 1)) a0 6) a0 14) 0), 0] [] (g182 (g182 (g182 m a0 (m (m a0 14) 1)) a0 6) a0 ((g182 (g182 m a0 (m (m a0 14) 1)) a0 6) ((g182 (g182 m a0 (m (m a0 14) 1)) a0 6) a0 14) 0)) (ig, rl, m') := h
        have h := CR_iload_n h rfl
        have h : MR X ρ 5 0 0 qP185 N 62 [a0, a1, f182 (g182 m a0 (m (m a0 14) 1)) a0 6, f182 (g182 (g182 m a0 (m (m a0 14) 1)) a0 6) a0 ((g182 (g182 m a0 (m (m a0 14) 1)) a0 6) ((g182 (g182 m a0 (m (m a0 14) 1)) a0 6) a0 14) 0), 0] [(1, f182 (g182 m a0 (m (m a0 14) 1)) a0 6)] (g182 (g182 (g182 m a0 (m (m a0 14) 1)) a0 6) a0 ((g182 (g182 m a0 (m (m a0 14) 1)) a0 6) ((g182 (g182 m a0 (m (m a0 14) 1)) a0 6) a0 14) 0)) (ig, rl, m') := h
        rcases MR_if h rfl rfl with ⟨c58, h⟩ | ⟨c58, h⟩
        ·
          have c58 : ¬ ((f182 (g182 m a0 (m (m a0 14) 1)) a0 6) = 0) := c58
          have h : MR X ρ 5 0 0 qP185 N 69 [a0, a1, f182 (g182 m a0 (m (m a0 14) 1)) a0 6, f182 (g182 (g182 m a0 (m (m a0 14) 1)) a0 6) a0 ((g182 (g182 m a0 (m (m a0 14) 1)) a0 6) ((g182 (g182 m a0 (m (m a0 14) 1)) a0 6) a0 14) 0), 0] [] (g182 (g182 (g182 m a0 (m (m a0 14) 1)) a0 6) a0 ((g182 (g182 m a0 (m (m a0 14) 1)) a0 6) ((g182 (g182 m a0 (m (m a0 14) 1)) a0 6) a0 14) 0)) (ig, rl, m') := h
          have h := CR_iconst h rfl rfl
          have h : MR X ρ 5 0 0 qP185 N 70 [a0, a1, f182 (g182 m a0 (m (m a0 14) 1)) a0 6, f182 (g182 (g182 m a0 (m (m a0 14) 1)) a0 6) a0 ((g182 (g182 m a0 (m (m a0 14) 1)) a0 6) ((g182 (g182 m a0 (m (m a0 14) 1)) a0 6) a0 14) 0), 0] [(1, 1)] (g182 (g182 (g182 m a0 (m (m a0 14) 1)) a0 6) a0 ((g182 (g182 m a0 (m (m a0 14) 1)) a0 6) ((g182 (g182 m a0 (m (m a0 14) 1)) a0 6) a0 14) 0)) (ig, rl, m') := h
          have h := CR_istore h rfl (Nat.le_of_ble_eq_true rfl)
          have h : MR X ρ 5 0 0 qP185 N 72 [a0, a1, f182 (g182 m a0 (m (m a0 14) 1)) a0 6, f182 (g182 (g182 m a0 (m (m a0 14) 1)) a0 6) a0 ((g182 (g182 m a0 (m (m a0 14) 1)) a0 6) ((g182 (g182 m a0 (m (m a0 14) 1)) a0 6) a0 14) 0), 1] [] (g182 (g182 (g182 m a0 (m (m a0 14) 1)) a0 6) a0 ((g182 (g182 m a0 (m (m a0 14) 1)) a0 6) ((g182 (g182 m a0 (m (m a0 14) 1)) a0 6) a0 14) 0)) (ig, rl, m') := h
          have h := CR_aload_n h rfl
          have h : MR X ρ 5 0 0 qP185 N 73 [a0, a1, f182 (g182 m a0 (m (m a0 14) 1)) a0 6, f182 (g182 (g182 m a0 (m (m a0 14) 1)) a0 6) a0 ((g182 (g182 m a0 (m (m a0 14) 1)) a0 6) ((g182 (g182 m a0 (m (m a0 14) 1)) a0 6) a0 14) 0), 1] [(1, a0)] (g182 (g182 (g182 m a0 (m (m a0 14) 1)) a0 6) a0 ((g182 (g182 m a0 (m (m a0 14) 1)) a0 6) ((g182 (g182 m a0 (m (m a0 14) 1)) a0 6) a0 14) 0)) (ig, rl, m') := h
          have h := CR_iload h rfl
          have h : MR X ρ 5 0 0 qP185 N 75 [a0, a1, f182 (g182 m a0 (m (m a0 14) 1)) a0 6, f182 (g182 (g182 m a0 (m (m a0 14) 1)) a0 6) a0 ((g182 (g182 m a0 (m (m a0 14) 1)) a0 6) ((g182 (g182 m a0 (m (m a0 14) 1)) a0 6) a0 14) 0), 1] [(1, 1), (1, a0)] (g182 (g182 (g182 m a0 (m (m a0 14) 1)) a0 6) a0 ((g182 (g182 m a0 (m (m a0 14) 1)) a0 6) ((g182 (g182 m a0 (m (m a0 14) 1)) a0 6) a0 14) 0)) (ig, rl, m') := h
          have h := CR_iload_n h rfl
          have h : MR X ρ 5 0 0 qP185 N 76 [a0, a1, f182 (g182 m a0 (m (m a0 14) 1)) a0 6, f182 (g182 (g182 m a0 (m (m a0 14) 1)) a0 6) a0 ((g182 (g182 m a0 (m (m a0 14) 1)) a0 6) ((g182 (g182 m a0 (m (m a0 14) 1)) a0 6) a0 14) 0), 1] [(1, a1), (1, 1), (1, a0)] (g182 (g182 (g182 m a0 (m (m a0 14) 1)) a0 6) a0 ((g182 (g182 m a0 (m (m a0 14) 1)) a0 6) ((g182 (g182 m a0 (m (m a0 14) 1)) a0 6) a0 14) 0)) (ig, rl, m') := h
          have h := CR_iload_n h rfl
          have h : MR X ρ 5 0 0 qP185 N 77 [a0, a1, f182 (g182 m a0 (m (m a0 14) 1)) a0 6, f182 (g182 (g182 m a0 (m (m a0 14) 1)) a0 6) a0 ((g182 (g182 m a0 (m (m a0 14) 1)) a0 6) ((g182 (g182 m a0 (m (m a0 14) 1)) a0 6) a0 14) 0), 1] [(1, f182 (g182 (g182 m a0 (m (m a0 14) 1)) a0 6) a0 ((g182 (g182 m a0 (m (m a0 14) 1)) a0 6) ((g182 (g182 m a0 (m (m a0 14) 1)) a0 6) a0 14) 0)), (1, a1), (1, 1), (1, a0)] (g182 (g182 (g182 m a0 (m (m a0 14) 1)) a0 6) a0 ((g182 (g182 m a0 (m (m a0 14) 1)) a0 6) ((g182 (g182 m a0 (m (m a0 14) 1)) a0 6) a0 14) 0)) (ig, rl, m') := h
          obtain ⟨r59, m60, q61, h⟩ := MR_invV h rfl rfl
          have q61 : Run X ρ 290 [(1, a0), (1, 1), (1, a1), (1, f182 (g182 (g182 m a0 (m (m a0 14) 1)) a0 6) a0 ((g182 (g182 m a0 (m (m a0 14) 1)) a0 6) ((g182 (g182 m a0 (m (m a0 14) 1)) a0 6) a0 14) 0))] (g182 (g182 (g182 m a0 (m (m a0 14) 1)) a0 6) a0 ((g182 (g182 m a0 (m (m a0 14) 1)) a0 6) ((g182 (g182 m a0 (m (m a0 14) 1)) a0 6) a0 14) 0)) r59 m60 := q61
          obtain ⟨e62, e63⟩ := d290 q61
          rw [e62, e63] at h
          have h : MR X ρ 5 0 0 qP185 N 80 [a0, a1, f182 (g182 m a0 (m (m a0 14) 1)) a0 6, f182 (g182 (g182 m a0 (m (m a0 14) 1)) a0 6) a0 ((g182 (g182 m a0 (m (m a0 14) 1)) a0 6) ((g182 (g182 m a0 (m (m a0 14) 1)) a0 6) a0 14) 0), 1] [(1, f290 (g182 (g182 (g182 m a0 (m (m a0 14) 1)) a0 6) a0 ((g182 (g182 m a0 (m (m a0 14) 1)) a0 6) ((g182 (g182 m a0 (m (m a0 14) 1)) a0 6) a0 14) 0)) a0 1 a1 (f182 (g182 (g182 m a0 (m (m a0 14) 1)) a0 6) a0 ((g182 (g182 m a0 (m (m a0 14) 1)) a0 6) ((g182 (g182 m a0 (m (m a0 14) 1)) a0 6) a0 14) 0)))] (g182 (g182 (g182 m a0 (m (m a0 14) 1)) a0 6) a0 ((g182 (g182 m a0 (m (m a0 14) 1)) a0 6) ((g182 (g182 m a0 (m (m a0 14) 1)) a0 6) a0 14) 0)) (ig, rl, m') := h
          rcases MR_if h rfl rfl with ⟨c64, h⟩ | ⟨c64, h⟩
          ·
            have c64 : ¬ ((f290 (g182 (g182 (g182 m a0 (m (m a0 14) 1)) a0 6) a0 ((g182 (g182 m a0 (m (m a0 14) 1)) a0 6) ((g182 (g182 m a0 (m (m a0 14) 1)) a0 6) a0 14) 0)) a0 1 a1 (f182 (g182 (g182 m a0 (m (m a0 14) 1)) a0 6) a0 ((g182 (g182 m a0 (m (m a0 14) 1)) a0 6) ((g182 (g182 m a0 (m (m a0 14) 1)) a0 6) a0 14) 0))) = 0) := c64
            have h : MR X ρ 5 0 0 qP185 N 91 [a0, a1, f182 (g182 m a0 (m (m a0 14) 1)) a0 6, f182 (g182 (g182 m a0 (m (m a0 14) 1)) a0 6) a0 ((g182 (g182 m a0 (m (m a0 14) 1)) a0 6) ((g182 (g182 m a0 (m (m a0 14) 1)) a0 6) a0 14) 0), 1] [] (g182 (g182 (g182 m a0 (m (m a0 14) 1)) a0 6) a0 ((g182 (g182 m a0 (m (m a0 14) 1)) a0 6) ((g182 (g182 m a0 (m (m a0 14) 1)) a0 6) a0 14) 0)) (ig, rl, m') := h
            have e := CR_end h rfl rfl
            cases e
            exact ⟨rfl, Eq.symm (show g185 m a0 a1 = _ from (if_neg c1).trans ((if_neg c46).trans ((if_pos c52).trans ((if_neg c58).trans ((if_neg c64).trans (rfl))))))⟩
          ·
            have c64 : (f290 (g182 (g182 (g182 m a0 (m (m a0 14) 1)) a0 6) a0 ((g182 (g182 m a0 (m (m a0 14) 1)) a0 6) ((g182 (g182 m a0 (m (m a0 14) 1)) a0 6) a0 14) 0)) a0 1 a1 (f182 (g182 (g182 m a0 (m (m a0 14) 1)) a0 6) a0 ((g182 (g182 m a0 (m (m a0 14) 1)) a0 6) ((g182 (g182 m a0 (m (m a0 14) 1)) a0 6) a0 14) 0))) = 0 := Decidable.of_not_not (show ¬ ¬ ((f290 (g182 (g182 (g182 m a0 (m (m a0 14) 1)) a0 6) a0 ((g182 (g182 m a0 (m (m a0 14) 1)) a0 6) ((g182 (g182 m a0 (m (m a0 14) 1)) a0 6) a0 14) 0)) a0 1 a1 (f182 (g182 (g182 m a0 (m (m a0 14) 1)) a0 6) a0 ((g182 (g182 m a0 (m (m a0 14) 1)) a0 6) ((g182 (g182 m a0 (m (m a0 14) 1)) a0 6) a0 14) 0))) = 0) from c64)
            have h : MR X ρ 5 0 0 qP185 N 83 [a0, a1, f182 (g182 m a0 (m (m a0 14) 1)) a0 6, f182 (g182 (g182 m a0 (m (m a0 14) 1)) a0 6) a0 ((g182 (g182 m a0 (m (m a0 14) 1)) a0 6) ((g182 (g182 m a0 (m (m a0 14) 1)) a0 6) a0 14) 0), 1] [] (g182 (g182 (g182 m a0 (m (m a0 14) 1)) a0 6) a0 ((g182 (g182 m a0 (m (m a0 14) 1)) a0 6) ((g182 (g182 m a0 (m (m a0 14) 1)) a0 6) a0 14) 0)) (ig, rl, m') := h
            have h := CR_aload_n h rfl
            have h : MR X ρ 5 0 0 qP185 N 84 [a0, a1, f182 (g182 m a0 (m (m a0 14) 1)) a0 6, f182 (g182 (g182 m a0 (m (m a0 14) 1)) a0 6) a0 ((g182 (g182 m a0 (m (m a0 14) 1)) a0 6) ((g182 (g182 m a0 (m (m a0 14) 1)) a0 6) a0 14) 0), 1] [(1, a0)] (g182 (g182 (g182 m a0 (m (m a0 14) 1)) a0 6) a0 ((g182 (g182 m a0 (m (m a0 14) 1)) a0 6) ((g182 (g182 m a0 (m (m a0 14) 1)) a0 6) a0 14) 0)) (ig, rl, m') := h
            have h := CR_iload h rfl
            have h : MR X ρ 5 0 0 qP185 N 86 [a0, a1, f182 (g182 m a0 (m (m a0 14) 1)) a0 6, f182 (g182 (g182 m a0 (m (m a0 14) 1)) a0 6) a0 ((g182 (g182 m a0 (m (m a0 14) 1)) a0 6) ((g182 (g182 m a0 (m (m a0 14) 1)) a0 6) a0 14) 0), 1] [(1, 1), (1, a0)] (g182 (g182 (g182 m a0 (m (m a0 14) 1)) a0 6) a0 ((g182 (g182 m a0 (m (m a0 14) 1)) a0 6) ((g182 (g182 m a0 (m (m a0 14) 1)) a0 6) a0 14) 0)) (ig, rl, m') := h
            have h := CR_iload_n h rfl
            have h : MR X ρ 5 0 0 qP185 N 87 [a0, a1, f182 (g182 m a0 (m (m a0 14) 1)) a0 6, f182 (g182 (g182 m a0 (m (m a0 14) 1)) a0 6) a0 ((g182 (g182 m a0 (m (m a0 14) 1)) a0 6) ((g182 (g182 m a0 (m (m a0 14) 1)) a0 6) a0 14) 0), 1] [(1, a1), (1, 1), (1, a0)] (g182 (g182 (g182 m a0 (m (m a0 14) 1)) a0 6) a0 ((g182 (g182 m a0 (m (m a0 14) 1)) a0 6) ((g182 (g182 m a0 (m (m a0 14) 1)) a0 6) a0 14) 0)) (ig, rl, m') := h
            have h := CR_iload_n h rfl
            have h : MR X ρ 5 0 0 qP185 N 88 [a0, a1, f182 (g182 m a0 (m (m a0 14) 1)) a0 6, f182 (g182 (g182 m a0 (m (m a0 14) 1)) a0 6) a0 ((g182 (g182 m a0 (m (m a0 14) 1)) a0 6) ((g182 (g182 m a0 (m (m a0 14) 1)) a0 6) a0 14) 0), 1] [(1, f182 (g182 (g182 m a0 (m (m a0 14) 1)) a0 6) a0 ((g182 (g182 m a0 (m (m a0 14) 1)) a0 6) ((g182 (g182 m a0 (m (m a0 14) 1)) a0 6) a0 14) 0)), (1, a1), (1, 1), (1, a0)] (g182 (g182 (g182 m a0 (m (m a0 14) 1)) a0 6) a0 ((g182 (g182 m a0 (m (m a0 14) 1)) a0 6) ((g182 (g182 m a0 (m (m a0 14) 1)) a0 6) a0 14) 0)) (ig, rl, m') := h
            obtain ⟨r65, m66, q67, h⟩ := MR_invV h rfl rfl
            have q67 : Run X ρ 222 [(1, a0), (1, 1), (1, a1), (1, f182 (g182 (g182 m a0 (m (m a0 14) 1)) a0 6) a0 ((g182 (g182 m a0 (m (m a0 14) 1)) a0 6) ((g182 (g182 m a0 (m (m a0 14) 1)) a0 6) a0 14) 0))] (g182 (g182 (g182 m a0 (m (m a0 14) 1)) a0 6) a0 ((g182 (g182 m a0 (m (m a0 14) 1)) a0 6) ((g182 (g182 m a0 (m (m a0 14) 1)) a0 6) a0 14) 0)) r65 m66 := q67
            obtain ⟨e68, e69⟩ := d222 q67
            rw [e68, e69] at h
            have h : MR X ρ 5 0 0 qP185 N 91 [a0, a1, f182 (g182 m a0 (m (m a0 14) 1)) a0 6, f182 (g182 (g182 m a0 (m (m a0 14) 1)) a0 6) a0 ((g182 (g182 m a0 (m (m a0 14) 1)) a0 6) ((g182 (g182 m a0 (m (m a0 14) 1)) a0 6) a0 14) 0), 1] [] (g222 (g182 (g182 (g182 m a0 (m (m a0 14) 1)) a0 6) a0 ((g182 (g182 m a0 (m (m a0 14) 1)) a0 6) ((g182 (g182 m a0 (m (m a0 14) 1)) a0 6) a0 14) 0)) a0 1 a1 (f182 (g182 (g182 m a0 (m (m a0 14) 1)) a0 6) a0 ((g182 (g182 m a0 (m (m a0 14) 1)) a0 6) ((g182 (g182 m a0 (m (m a0 14) 1)) a0 6) a0 14) 0))) (ig, rl, m') := h
            have e := CR_end h rfl rfl
            cases e
            exact ⟨rfl, Eq.symm (show g185 m a0 a1 = _ from (if_neg c1).trans ((if_neg c46).trans ((if_pos c52).trans ((if_neg c58).trans ((if_pos c64).trans (rfl))))))⟩
        ·
          have c58 : (f182 (g182 m a0 (m (m a0 14) 1)) a0 6) = 0 := Decidable.of_not_not (show ¬ ¬ ((f182 (g182 m a0 (m (m a0 14) 1)) a0 6) = 0) from c58)
          have h : MR X ρ 5 0 0 qP185 N 65 [a0, a1, f182 (g182 m a0 (m (m a0 14) 1)) a0 6, f182 (g182 (g182 m a0 (m (m a0 14) 1)) a0 6) a0 ((g182 (g182 m a0 (m (m a0 14) 1)) a0 6) ((g182 (g182 m a0 (m (m a0 14) 1)) a0 6) a0 14) 0), 0] [] (g182 (g182 (g182 m a0 (m (m a0 14) 1)) a0 6) a0 ((g182 (g182 m a0 (m (m a0 14) 1)) a0 6) ((g182 (g182 m a0 (m (m a0 14) 1)) a0 6) a0 14) 0)) (ig, rl, m') := h
          have h := CR_iconst h rfl rfl
          have h : MR X ρ 5 0 0 qP185 N 66 [a0, a1, f182 (g182 m a0 (m (m a0 14) 1)) a0 6, f182 (g182 (g182 m a0 (m (m a0 14) 1)) a0 6) a0 ((g182 (g182 m a0 (m (m a0 14) 1)) a0 6) ((g182 (g182 m a0 (m (m a0 14) 1)) a0 6) a0 14) 0), 0] [(1, 2)] (g182 (g182 (g182 m a0 (m (m a0 14) 1)) a0 6) a0 ((g182 (g182 m a0 (m (m a0 14) 1)) a0 6) ((g182 (g182 m a0 (m (m a0 14) 1)) a0 6) a0 14) 0)) (ig, rl, m') := h
          have h := CR_go h rfl rfl
          have h : MR X ρ 5 0 0 qP185 N 70 [a0, a1, f182 (g182 m a0 (m (m a0 14) 1)) a0 6, f182 (g182 (g182 m a0 (m (m a0 14) 1)) a0 6) a0 ((g182 (g182 m a0 (m (m a0 14) 1)) a0 6) ((g182 (g182 m a0 (m (m a0 14) 1)) a0 6) a0 14) 0), 0] [(1, 2)] (g182 (g182 (g182 m a0 (m (m a0 14) 1)) a0 6) a0 ((g182 (g182 m a0 (m (m a0 14) 1)) a0 6) ((g182 (g182 m a0 (m (m a0 14) 1)) a0 6) a0 14) 0)) (ig, rl, m') := h
          have h := CR_istore h rfl (Nat.le_of_ble_eq_true rfl)
          have h : MR X ρ 5 0 0 qP185 N 72 [a0, a1, f182 (g182 m a0 (m (m a0 14) 1)) a0 6, f182 (g182 (g182 m a0 (m (m a0 14) 1)) a0 6) a0 ((g182 (g182 m a0 (m (m a0 14) 1)) a0 6) ((g182 (g182 m a0 (m (m a0 14) 1)) a0 6) a0 14) 0), 2] [] (g182 (g182 (g182 m a0 (m (m a0 14) 1)) a0 6) a0 ((g182 (g182 m a0 (m (m a0 14) 1)) a0 6) ((g182 (g182 m a0 (m (m a0 14) 1)) a0 6) a0 14) 0)) (ig, rl, m') := h
          have h := CR_aload_n h rfl
          have h : MR X ρ 5 0 0 qP185 N 73 [a0, a1, f182 (g182 m a0 (m (m a0 14) 1)) a0 6, f182 (g182 (g182 m a0 (m (m a0 14) 1)) a0 6) a0 ((g182 (g182 m a0 (m (m a0 14) 1)) a0 6) ((g182 (g182 m a0 (m (m a0 14) 1)) a0 6) a0 14) 0), 2] [(1, a0)] (g182 (g182 (g182 m a0 (m (m a0 14) 1)) a0 6) a0 ((g182 (g182 m a0 (m (m a0 14) 1)) a0 6) ((g182 (g182 m a0 (m (m a0 14) 1)) a0 6) a0 14) 0)) (ig, rl, m') := h
          have h := CR_iload h rfl
          have h : MR X ρ 5 0 0 qP185 N 75 [a0, a1, f182 (g182 m a0 (m (m a0 14) 1)) a0 6, f182 (g182 (g182 m a0 (m (m a0 14) 1)) a0 6) a0 ((g182 (g182 m a0 (m (m a0 14) 1)) a0 6) ((g182 (g182 m a0 (m (m a0 14) 1)) a0 6) a0 14) 0), 2] [(1, 2), (1, a0)] (g182 (g182 (g182 m a0 (m (m a0 14) 1)) a0 6) a0 ((g182 (g182 m a0 (m (m a0 14) 1)) a0 6) ((g182 (g182 m a0 (m (m a0 14) 1)) a0 6) a0 14) 0)) (ig, rl, m') := h
          have h := CR_iload_n h rfl
          have h : MR X ρ 5 0 0 qP185 N 76 [a0, a1, f182 (g182 m a0 (m (m a0 14) 1)) a0 6, f182 (g182 (g182 m a0 (m (m a0 14) 1)) a0 6) a0 ((g182 (g182 m a0 (m (m a0 14) 1)) a0 6) ((g182 (g182 m a0 (m (m a0 14) 1)) a0 6) a0 14) 0), 2] [(1, a1), (1, 2), (1, a0)] (g182 (g182 (g182 m a0 (m (m a0 14) 1)) a0 6) a0 ((g182 (g182 m a0 (m (m a0 14) 1)) a0 6) ((g182 (g182 m a0 (m (m a0 14) 1)) a0 6) a0 14) 0)) (ig, rl, m') := h
          have h := CR_iload_n h rfl
          have h : MR X ρ 5 0 0 qP185 N 77 [a0, a1, f182 (g182 m a0 (m (m a0 14) 1)) a0 6, f182 (g182 (g182 m a0 (m (m a0 14) 1)) a0 6) a0 ((g182 (g182 m a0 (m (m a0 14) 1)) a0 6) ((g182 (g182 m a0 (m (m a0 14) 1)) a0 6) a0 14) 0), 2] [(1, f182 (g182 (g182 m a0 (m (m a0 14) 1)) a0 6) a0 ((g182 (g182 m a0 (m (m a0 14) 1)) a0 6) ((g182 (g182 m a0 (m (m a0 14) 1)) a0 6) a0 14) 0)), (1, a1), (1, 2), (1, a0)] (g182 (g182 (g182 m a0 (m (m a0 14) 1)) a0 6) a0 ((g182 (g182 m a0 (m (m a0 14) 1)) a0 6) ((g182 (g182 m a0 (m (m a0 14) 1)) a0 6) a0 14) 0)) (ig, rl, m') := h
          obtain ⟨r70, m71, q72, h⟩ := MR_invV h rfl rfl
          have q72 : Run X ρ 290 [(1, a0), (1, 2), (1, a1), (1, f182 (g182 (g182 m a0 (m (m a0 14) 1)) a0 6) a0 ((g182 (g182 m a0 (m (m a0 14) 1)) a0 6) ((g182 (g182 m a0 (m (m a0 14) 1)) a0 6) a0 14) 0))] (g182 (g182 (g182 m a0 (m (m a0 14) 1)) a0 6) a0 ((g182 (g182 m a0 (m (m a0 14) 1)) a0 6) ((g182 (g182 m a0 (m (m a0 14) 1)) a0 6) a0 14) 0)) r70 m71 := q72
          obtain ⟨e73, e74⟩ := d290 q72
          rw [e73, e74] at h
          have h : MR X ρ 5 0 0 qP185 N 80 [a0, a1, f182 (g182 m a0 (m (m a0 14) 1)) a0 6, f182 (g182 (g182 m a0 (m (m a0 14) 1)) a0 6) a0 ((g182 (g182 m a0 (m (m a0 14) 1)) a0 6) ((g182 (g182 m a0 (m (m a0 14) 1)) a0 6) a0 14) 0), 2] [(1, f290 (g182 (g182 (g182 m a0 (m (m a0 14) 1)) a0 6) a0 ((g182 (g182 m a0 (m (m a0 14) 1)) a0 6) ((g182 (g182 m a0 (m (m a0 14) 1)) a0 6) a0 14) 0)) a0 2 a1 (f182 (g182 (g182 m a0 (m (m a0 14) 1)) a0 6) a0 ((g182 (g182 m a0 (m (m a0 14) 1)) a0 6) ((g182 (g182 m a0 (m (m a0 14) 1)) a0 6) a0 14) 0)))] (g182 (g182 (g182 m a0 (m (m a0 14) 1)) a0 6) a0 ((g182 (g182 m a0 (m (m a0 14) 1)) a0 6) ((g182 (g182 m a0 (m (m a0 14) 1)) a0 6) a0 14) 0)) (ig, rl, m') := h
          rcases MR_if h rfl rfl with ⟨c75, h⟩ | ⟨c75, h⟩
          ·
            have c75 : ¬ ((f290 (g182 (g182 (g182 m a0 (m (m a0 14) 1)) a0 6) a0 ((g182 (g182 m a0 (m (m a0 14) 1)) a0 6) ((g182 (g182 m a0 (m (m a0 14) 1)) a0 6) a0 14) 0)) a0 2 a1 (f182 (g182 (g182 m a0 (m (m a0 14) 1)) a0 6) a0 ((g182 (g182 m a0 (m (m a0 14) 1)) a0 6) ((g182 (g182 m a0 (m (m a0 14) 1)) a0 6) a0 14) 0))) = 0) := c75
            have h : MR X ρ 5 0 0 qP185 N 91 [a0, a1, f182 (g182 m a0 (m (m a0 14) 1)) a0 6, f182 (g182 (g182 m a0 (m (m a0 14) 1)) a0 6) a0 ((g182 (g182 m a0 (m (m a0 14) 1)) a0 6) ((g182 (g182 m a0 (m (m a0 14) 1)) a0 6) a0 14) 0), 2] [] (g182 (g182 (g182 m a0 (m (m a0 14) 1)) a0 6) a0 ((g182 (g182 m a0 (m (m a0 14) 1)) a0 6) ((g182 (g182 m a0 (m (m a0 14) 1)) a0 6) a0 14) 0)) (ig, rl, m') := h
            have e := CR_end h rfl rfl
            cases e
            exact ⟨rfl, Eq.symm (show g185 m a0 a1 = _ from (if_neg c1).trans ((if_neg c46).trans ((if_pos c52).trans ((if_pos c58).trans ((if_neg c75).trans (rfl))))))⟩
          ·
            have c75 : (f290 (g182 (g182 (g182 m a0 (m (m a0 14) 1)) a0 6) a0 ((g182 (g182 m a0 (m (m a0 14) 1)) a0 6) ((g182 (g182 m a0 (m (m a0 14) 1)) a0 6) a0 14) 0)) a0 2 a1 (f182 (g182 (g182 m a0 (m (m a0 14) 1)) a0 6) a0 ((g182 (g182 m a0 (m (m a0 14) 1)) a0 6) ((g182 (g182 m a0 (m (m a0 14) 1)) a0 6) a0 14) 0))) = 0 := Decidable.of_not_not (show ¬ ¬ ((f290 (g182 (g182 (g182 m a0 (m (m a0 14) 1)) a0 6) a0 ((g182 (g182 m a0 (m (m a0 14) 1)) a0 6) ((g182 (g182 m a0 (m (m a0 14) 1)) a0 6) a0 14) 0)) a0 2 a1 (f182 (g182 (g182 m a0 (m (m a0 14) 1)) a0 6) a0 ((g182 (g182 m a0 (m (m a0 14) 1)) a0 6) ((g182 (g182 m a0 (m (m a0 14) 1)) a0 6) a0 14) 0))) = 0) from c75)
            have h : MR X ρ 5 0 0 qP185 N 83 [a0, a1, f182 (g182 m a0 (m (m a0 14) 1)) a0 6, f182 (g182 (g182 m a0 (m (m a0 14) 1)) a0 6) a0 ((g182 (g182 m a0 (m (m a0 14) 1)) a0 6) ((g182 (g182 m a0 (m (m a0 14) 1)) a0 6) a0 14) 0), 2] [] (g182 (g182 (g182 m a0 (m (m a0 14) 1)) a0 6) a0 ((g182 (g182 m a0 (m (m a0 14) 1)) a0 6) ((g182 (g182 m a0 (m (m a0 14) 1)) a0 6) a0 14) 0)) (ig, rl, m') := h
            have h := CR_aload_n h rfl
            have h : MR X ρ 5 0 0 qP185 N 84 [a0, a1, f182 (g182 m a0 (m (m a0 14) 1)) a0 6, f182 (g182 (g182 m a0 (m (m a0 14) 1)) a0 6) a0 ((g182 (g182 m a0 (m (m a0 14) 1)) a0 6) ((g182 (g182 m a0 (m (m a0 14) 1)) a0 6) a0 14) 0), 2] [(1, a0)] (g182 (g182 (g182 m a0 (m (m a0 14) 1)) a0 6) a0 ((g182 (g182 m a0 (m (m a0 14) 1)) a0 6) ((g182 (g182 m a0 (m (m a0 14) 1)) a0 6) a0 14) 0)) (ig, rl, m') := h
            have h := CR_iload h rfl
            have h : MR X ρ 5 0 0 qP185 N 86 [a0, a1, f182 (g182 m a0 (m (m a0 14) 1)) a0 6, f182 (g182 (g182 m a0 (m (m a0 14) 1)) a0 6) a0 ((g182 (g182 m a0 (m (m a0 14) 1)) a0 6) ((g182 (g182 m a0 (m (m a0 14) 1)) a0 6) a0 14) 0), 2] [(1, 2), (1, a0)] (g182 (g182 (g182 m a0 (m (m a0 14) 1)) a0 6) a0 ((g182 (g182 m a0 (m (m a0 14) 1)) a0 6) ((g182 (g182 m a0 (m (m a0 14) 1)) a0 6) a0 14) 0)) (ig, rl, m') := h
            have h := CR_iload_n h rfl
            have h : MR X ρ 5 0 0 qP185 N 87 [a0, a1, f182 (g182 m a0 (m (m a0 14) 1)) a0 6, f182 (g182 (g182 m a0 (m (m a0 14) 1)) a0 6) a0 ((g182 (g182 m a0 (m (m a0 14) 1)) a0 6) ((g182 (g182 m a0 (m (m a0 14) 1)) a0 6) a0 14) 0), 2] [(1, a1), (1, 2), (1, a0)] (g182 (g182 (g182 m a0 (m (m a0 14) 1)) a0 6) a0 ((g182 (g182 m a0 (m (m a0 14) 1)) a0 6) ((g182 (g182 m a0 (m (m a0 14) 1)) a0 6) a0 14) 0)) (ig, rl, m') := h
            have h := CR_iload_n h rfl
            have h : MR X ρ 5 0 0 qP185 N 88 [a0, a1, f182 (g182 m a0 (m (m a0 14) 1)) a0 6, f182 (g182 (g182 m a0 (m (m a0 14) 1)) a0 6) a0 ((g182 (g182 m a0 (m (m a0 14) 1)) a0 6) ((g182 (g182 m a0 (m (m a0 14) 1)) a0 6) a0 14) 0), 2] [(1, f182 (g182 (g182 m a0 (m (m a0 14) 1)) a0 6) a0 ((g182 (g182 m a0 (m (m a0 14) 1)) a0 6) ((g182 (g182 m a0 (m (m a0 14) 1)) a0 6) a0 14) 0)), (1, a1), (1, 2), (1, a0)] (g182 (g182 (g182 m a0 (m (m a0 14) 1)) a0 6) a0 ((g182 (g182 m a0 (m (m a0 14) 1)) a0 6) ((g182 (g182 m a0 (m (m a0 14) 1)) a0 6) a0 14) 0)) (ig, rl, m') := h
            obtain ⟨r76, m77, q78, h⟩ := MR_invV h rfl rfl
            have q78 : Run X ρ 222 [(1, a0), (1, 2), (1, a1), (1, f182 (g182 (g182 m a0 (m (m a0 14) 1)) a0 6) a0 ((g182 (g182 m a0 (m (m a0 14) 1)) a0 6) ((g182 (g182 m a0 (m (m a0 14) 1)) a0 6) a0 14) 0))] (g182 (g182 (g182 m a0 (m (m a0 14) 1)) a0 6) a0 ((g182 (g182 m a0 (m (m a0 14) 1)) a0 6) ((g182 (g182 m a0 (m (m a0 14) 1)) a0 6) a0 14) 0)) r76 m77 := q78
            obtain ⟨e79, e80⟩ := d222 q78
            rw [e79, e80] at h
            have h : MR X ρ 5 0 0 qP185 N 91 [a0, a1, f182 (g182 m a0 (m (m a0 14) 1)) a0 6, f182 (g182 (g182 m a0 (m (m a0 14) 1)) a0 6) a0 ((g182 (g182 m a0 (m (m a0 14) 1)) a0 6) ((g182 (g182 m a0 (m (m a0 14) 1)) a0 6) a0 14) 0), 2] [] (g222 (g182 (g182 (g182 m a0 (m (m a0 14) 1)) a0 6) a0 ((g182 (g182 m a0 (m (m a0 14) 1)) a0 6) ((g182 (g182 m a0 (m (m a0 14) 1)) a0 6) a0 14) 0)) a0 2 a1 (f182 (g182 (g182 m a0 (m (m a0 14) 1)) a0 6) a0 ((g182 (g182 m a0 (m (m a0 14) 1)) a0 6) ((g182 (g182 m a0 (m (m a0 14) 1)) a0 6) a0 14) 0))) (ig, rl, m') := h
            have e := CR_end h rfl rfl
            cases e
            exact ⟨rfl, Eq.symm (show g185 m a0 a1 = _ from (if_neg c1).trans ((if_neg c46).trans ((if_pos c52).trans ((if_pos c58).trans ((if_pos c75).trans (rfl))))))⟩
      ·
        have c52 : ¬ ((f182 (g182 m a0 (m (m a0 14) 1)) a0 6) ≤ 1) := c52
        have h : MR X ρ 5 0 0 qP185 N 49 [a0, a1, f182 (g182 m a0 (m (m a0 14) 1)) a0 6, 0, 0] [] (g182 (g182 m a0 (m (m a0 14) 1)) a0 6) (ig, rl, m') := h
        have e := CR_end h rfl rfl
        cases e
        exact ⟨rfl, Eq.symm (show g185 m a0 a1 = _ from (if_neg c1).trans ((if_neg c46).trans ((if_neg c52).trans (rfl))))⟩
    ·
      have c46 : (f290 (g182 m a0 (m (m a0 14) 1)) a0 0 a1 (f182 m a0 (m (m a0 14) 1))) = 0 := Decidable.of_not_not (show ¬ ¬ ((f290 (g182 m a0 (m (m a0 14) 1)) a0 0 a1 (f182 m a0 (m (m a0 14) 1))) = 0) from c46)
      have h : MR X ρ 5 0 0 qP185 N 30 [a0, a1, f182 m a0 (m (m a0 14) 1), 0, 0] [] (g182 m a0 (m (m a0 14) 1)) (ig, rl, m') := h
      have h := CR_aload_n h rfl
      have h : MR X ρ 5 0 0 qP185 N 31 [a0, a1, f182 m a0 (m (m a0 14) 1), 0, 0] [(1, a0)] (g182 m a0 (m (m a0 14) 1)) (ig, rl, m') := h
      have h := CR_iconst h rfl rfl
      have h : MR X ρ 5 0 0 qP185 N 32 [a0, a1, f182 m a0 (m (m a0 14) 1), 0, 0] [(1, 0), (1, a0)] (g182 m a0 (m (m a0 14) 1)) (ig, rl, m') := h
      have h := CR_iload_n h rfl
      have h : MR X ρ 5 0 0 qP185 N 33 [a0, a1, f182 m a0 (m (m a0 14) 1), 0, 0] [(1, a1), (1, 0), (1, a0)] (g182 m a0 (m (m a0 14) 1)) (ig, rl, m') := h
      have h := CR_iload_n h rfl
      have h : MR X ρ 5 0 0 qP185 N 34 [a0, a1, f182 m a0 (m (m a0 14) 1), 0, 0] [(1, f182 m a0 (m (m a0 14) 1)), (1, a1), (1, 0), (1, a0)] (g182 m a0 (m (m a0 14) 1)) (ig, rl, m') := h
      obtain ⟨r81, m82, q83, h⟩ := MR_invV h rfl rfl
      have q83 : Run X ρ 222 [(1, a0), (1, 0), (1, a1), (1, f182 m a0 (m (m a0 14) 1))] (g182 m a0 (m (m a0 14) 1)) r81 m82 := q83
      obtain ⟨e84, e85⟩ := d222 q83
      rw [e84, e85] at h
      have h : MR X ρ 5 0 0 qP185 N 37 [a0, a1, f182 m a0 (m (m a0 14) 1), 0, 0] [] (g222 (g182 m a0 (m (m a0 14) 1)) a0 0 a1 (f182 m a0 (m (m a0 14) 1))) (ig, rl, m') := h
      have h := CR_aload_n h rfl
      have h : MR X ρ 5 0 0 qP185 N 38 [a0, a1, f182 m a0 (m (m a0 14) 1), 0, 0] [(1, a0)] (g222 (g182 m a0 (m (m a0 14) 1)) a0 0 a1 (f182 m a0 (m (m a0 14) 1))) (ig, rl, m') := h
      have h := CR_bipush h rfl rfl
      have h : MR X ρ 5 0 0 qP185 N 40 [a0, a1, f182 m a0 (m (m a0 14) 1), 0, 0] [(1, 6), (1, a0)] (g222 (g182 m a0 (m (m a0 14) 1)) a0 0 a1 (f182 m a0 (m (m a0 14) 1))) (ig, rl, m') := h
      obtain ⟨r86, m87, q88, h⟩ := MR_invV h rfl rfl
      have q88 : Run X ρ 182 [(1, a0), (1, 6)] (g222 (g182 m a0 (m (m a0 14) 1)) a0 0 a1 (f182 m a0 (m (m a0 14) 1))) r86 m87 := q88
      obtain ⟨e89, e90⟩ := d182 q88
      rw [e89, e90] at h
      have h : MR X ρ 5 0 0 qP185 N 43 [a0, a1, f182 m a0 (m (m a0 14) 1), 0, 0] [(1, f182 (g222 (g182 m a0 (m (m a0 14) 1)) a0 0 a1 (f182 m a0 (m (m a0 14) 1))) a0 6)] (g182 (g222 (g182 m a0 (m (m a0 14) 1)) a0 0 a1 (f182 m a0 (m (m a0 14) 1))) a0 6) (ig, rl, m') := h
      have h := CR_istore_n h rfl (Nat.le_of_ble_eq_true rfl)
      have h : MR X ρ 5 0 0 qP185 N 44 [a0, a1, f182 (g222 (g182 m a0 (m (m a0 14) 1)) a0 0 a1 (f182 m a0 (m (m a0 14) 1))) a0 6, 0, 0] [] (g182 (g222 (g182 m a0 (m (m a0 14) 1)) a0 0 a1 (f182 m a0 (m (m a0 14) 1))) a0 6) (ig, rl, m') := h
      have h := CR_iload_n h rfl
      have h : MR X ρ 5 0 0 qP185 N 45 [a0, a1, f182 (g222 (g182 m a0 (m (m a0 14) 1)) a0 0 a1 (f182 m a0 (m (m a0 14) 1))) a0 6, 0, 0] [(1, f182 (g222 (g182 m a0 (m (m a0 14) 1)) a0 0 a1 (f182 m a0 (m (m a0 14) 1))) a0 6)] (g182 (g222 (g182 m a0 (m (m a0 14) 1)) a0 0 a1 (f182 m a0 (m (m a0 14) 1))) a0 6) (ig, rl, m') := h
      have h := CR_iconst h rfl rfl
      have h : MR X ρ 5 0 0 qP185 N 46 [a0, a1, f182 (g222 (g182 m a0 (m (m a0 14) 1)) a0 0 a1 (f182 m a0 (m (m a0 14) 1))) a0 6, 0, 0] [(1, 1), (1, f182 (g222 (g182 m a0 (m (m a0 14) 1)) a0 0 a1 (f182 m a0 (m (m a0 14) 1))) a0 6)] (g182 (g222 (g182 m a0 (m (m a0 14) 1)) a0 0 a1 (f182 m a0 (m (m a0 14) 1))) a0 6) (ig, rl, m') := h
      rcases MR_icmp h rfl rfl with ⟨c91, h⟩ | ⟨c91, h⟩
      ·
        have c91 : (f182 (g222 (g182 m a0 (m (m a0 14) 1)) a0 0 a1 (f182 m a0 (m (m a0 14) 1))) a0 6) ≤ 1 := c91
        have h : MR X ρ 5 0 0 qP185 N 50 [a0, a1, f182 (g222 (g182 m a0 (m (m a0 14) 1)) a0 0 a1 (f182 m a0 (m (m a0 14) 1))) a0 6, 0, 0] [] (g182 (g222 (g182 m a0 (m (m a0 14) 1)) a0 0 a1 (f182 m a0 (m (m a0 14) 1))) a0 6) (ig, rl, m') := h
        have h := CR_aload_n h rfl
        have h : MR X ρ 5 0 0 qP185 N 51 [a0, a1, f182 (g222 (g182 m a0 (m (m a0 14) 1)) a0 0 a1 (f182 m a0 (m (m a0 14) 1))) a0 6, 0, 0] [(1, a0)] (g182 (g222 (g182 m a0 (m (m a0 14) 1)) a0 0 a1 (f182 m a0 (m (m a0 14) 1))) a0 6) (ig, rl, m') := h
        have h := CR_aload_n h rfl
        have h : MR X ρ 5 0 0 qP185 N 52 [a0, a1, f182 (g222 (g182 m a0 (m (m a0 14) 1)) a0 0 a1 (f182 m a0 (m (m a0 14) 1))) a0 6, 0, 0] [(1, a0), (1, a0)] (g182 (g222 (g182 m a0 (m (m a0 14) 1)) a0 0 a1 (f182 m a0 (m (m a0 14) 1))) a0 6) (ig, rl, m') := h
        have h := CR_getf h rfl (by decide)
        have h : MR X ρ 5 0 0 qP185 N 55 [a0, a1, f182 (g222 (g182 m a0 (m (m a0 14) 1)) a0 0 a1 (f182 m a0 (m (m a0 14) 1))) a0 6, 0, 0] [(1, (g182 (g222 (g182 m a0 (m (m a0 14) 1)) a0 0 a1 (f182 m a0 (m (m a0 14) 1))) a0 6) a0 14), (1, a0)] (g182 (g222 (g182 m a0 (m (m a0 14) 1)) a0 0 a1 (f182 m a0 (m (m a0 14) 1))) a0 6) (ig, rl, m') := h
        have h := CR_iconst h rfl rfl
        have h : MR X ρ 5 0 0 qP185 N 56 [a0, a1, f182 (g222 (g182 m a0 (m (m a0 14) 1)) a0 0 a1 (f182 m a0 (m (m a0 14) 1))) a0 6, 0, 0] [(1, 0), (1, (g182 (g222 (g182 m a0 (m (m a0 14) 1)) a0 0 a1 (f182 m a0 (m (m a0 14) 1))) a0 6) a0 14), (1, a0)] (g182 (g222 (g182 m a0 (m (m a0 14) 1)) a0 0 a1 (f182 m a0 (m (m a0 14) 1))) a0 6) (ig, rl, m') := h
        have h := CR_iaload h rfl rfl
        have h : MR X ρ 5 0 0 qP185 N 57 [a0, a1, f182 (g222 (g182 m a0 (m (m a0 14) 1)) a0 0 a1 (f182 m a0 (m (m a0 14) 1))) a0 6, 0, 0] [(1, (g182 (g222 (g182 m a0 (m (m a0 14) 1)) a0 0 a1 (f182 m a0 (m (m a0 14) 1))) a0 6) ((g182 (g222 (g182 m a0 (m (m a0 14) 1)) a0 0 a1 (f182 m a0 (m (m a0 14) 1))) a0 6) a0 14) 0), (1, a0)] (g182 (g222 (g182 m a0 (m (m a0 14) 1)) a0 0 a1 (f182 m a0 (m (m a0 14) 1))) a0 6) (ig, rl, m') := h
        obtain ⟨r92, m93, q94, h⟩ := MR_invV h rfl rfl
        have q94 : Run X ρ 182 [(1, a0), (1, (g182 (g222 (g182 m a0 (m (m a0 14) 1)) a0 0 a1 (f182 m a0 (m (m a0 14) 1))) a0 6) ((g182 (g222 (g182 m a0 (m (m a0 14) 1)) a0 0 a1 (f182 m a0 (m (m a0 14) 1))) a0 6) a0 14) 0)] (g182 (g222 (g182 m a0 (m (m a0 14) 1)) a0 0 a1 (f182 m a0 (m (m a0 14) 1))) a0 6) r92 m93 := q94
        obtain ⟨e95, e96⟩ := d182 q94
        rw [e95, e96] at h
        have h : MR X ρ 5 0 0 qP185 N 60 [a0, a1, f182 (g222 (g182 m a0 (m (m a0 14) 1)) a0 0 a1 (f182 m a0 (m (m a0 14) 1))) a0 6, 0, 0] [(1, f182 (g182 (g222 (g182 m a0 (m (m a0 14) 1)) a0 0 a1 (f182 m a0 (m (m a0 14) 1))) a0 6) a0 ((g182 (g222 (g182 m a0 (m (m a0 14) 1)) a0 0 a1 (f182 m a0 (m (m a0 14) 1))) a0 6) ((g182 (g222 (g182 m a0 (m (m a0 14) 1)) a0 0 a1 (f182 m a0 (m (m a0 14) 1))) a0 6) a0 14) 0))] (g182 (g182 (g222 (g182 m a0 (m (m a0 14) 1)) a0 0 a1 (f182 m a0 (m (m a0 14) 1))) a0 6) a0 ((g182 (g222 (g182 m a0 (m (m a0 14) 1)) a0 0 a1 (f182 m a0 (m (m a0 14) 1))) a0 6) ((g182 (g222 (g182 m a0 (m (m a0 14) 1)) a0 0 a1 (f182 m a0 (m (m a0 14) 1))) a0 6) a0 14) 0)) (ig, rl, m') := h
        have h := CR_istore_n h rfl (Nat.le_of_ble_eq_true rfl)
        have h : MR X ρ 5 0 0 qP185 N 61 [a0, a1, f182 (g222 (g182 m a0 (m (m a0 14) 1)) a0 0 a1 (f182 m a0 (m (m a0 14) 1))) a0 6, f182 (g182 (g222 (g182 m a0 (m (m a0 14) 1)) a0 0 a1 (f182 m a0 (m (m a0 14) 1))) a0 6) a0 ((g182 (g222 (g182 m a0 (m (m a0 14) 1)) a0 0 a1 (f182 m a0 (m (m a0 14) 1))) a0 6) ((g182 (g222 (g182 m a0 (m (m a0 14) 1)) a0 0 a1 (f182 m a0 (m (m a0 14) 1))) a0 6) a0 14) 0), 0] [] (g182 (g182 (g222 (g182 m a0 (m (m a0 14) 1)) a0 0 a1 (f182 m a0 (m (m a0 14) 1))) a0 6) a0 ((g182 (g222 (g182 m a0 (m (m a0 14) 1)) a0 0 a1 (f182 m a0 (m (m a0 14) 1))) a0 6) ((g182 (g222 (g182 m a0 (m (m a0 14) 1)) a0 0 a1 (f182 m a0 (m (m a0 14) 1))) a0 6) a0 14) 0)) (ig, rl, m') := h
        have h := CR_iload_n h rfl
        have h : MR X ρ 5 0 0 qP185 N 62 [a0, a1, f182 (g222 (g182 m a0 (m (m a0 14) 1)) a0 0 a1 (f182 m a0 (m (m a0 14) 1))) a0 6, f182 (g182 (g222 (g182 m a0 (m (m a0 14) 1)) a0 0 a1 (f182 m a0 (m (m a0 14) 1))) a0 6) a0 ((g182 (g222 (g182 m a0 (m (m a0 14) 1)) a0 0 a1 (f182 m a0 (m (m a0 14) 1))) a0 6) ((g182 (g222 (g182 m a0 (m (m a0 14) 1)) a0 0 a1 (f182 m a0 (m (m a0 14) 1))) a0 6) a0 14) 0), 0] [(1, f182 (g222 (g182 m a0 (m (m a0 14) 1)) a0 0 a1 (f182 m a0 (m (m a0 14) 1))) a0 6)] (g182 (g182 (g222 (g182 m a0 (m (m a0 14) 1)) a0 0 a1 (f182 m a0 (m (m a0 14) 1))) a0 6) a0 ((g182 (g222 (g182 m a0 (m (m a0 14) 1)) a0 0 a1 (f182 m a0 (m (m a0 14) 1))) a0 6) ((g182 (g222 (g182 m a0 (m (m a0 14) 1)) a0 0 a1 (f182 m a0 (m (m a0 14) 1))) a0 6) a0 14) 0)) (ig, rl, m') := h
        rcases MR_if h rfl rfl with ⟨c97, h⟩ | ⟨c97, h⟩
        ·
          have c97 : ¬ ((f182 (g222 (g182 m a0 (m (m a0 14) 1)) a0 0 a1 (f182 m a0 (m (m a0 14) 1))) a0 6) = 0) := c97
          have h : MR X ρ 5 0 0 qP185 N 69 [a0, a1, f182 (g222 (g182 m a0 (m (m a0 14) 1)) a0 0 a1 (f182 m a0 (m (m a0 14) 1))) a0 6, f182 (g182 (g222 (g182 m a0 (m (m a0 14) 1)) a0 0 a1 (f182 m a0 (m (m a0 14) 1))) a0 6) a0 ((g182 (g222 (g182 m a0 (m (m a0 14) 1)) a0 0 a1 (f182 m a0 (m (m a0 14) 1))) a0 6) ((g182 (g222 (g182 m a0 (m (m a0 14) 1)) a0 0 a1 (f182 m a0 (m (m a0 14) 1))) a0 6) a0 14) 0), 0] [] (g182 (g182 (g222 (g182 m a0 (m (m a0 14) 1)) a0 0 a1 (f182 m a0 (m (m a0 14) 1))) a0 6) a0 ((g182 (g222 (g182 m a0 (m (m a0 14) 1)) a0 0 a1 (f182 m a0 (m (m a0 14) 1))) a0 6) ((g182 (g222 (g182 m a0 (m (m a0 14) 1)) a0 0 a1 (f182 m a0 (m (m a0 14) 1))) a0 6) a0 14) 0)) (ig, rl, m') := h
          have h := CR_iconst h rfl rfl
          have h : MR X ρ 5 0 0 qP185 N 70 [a0, a1, f182 (g222 (g182 m a0 (m (m a0 14) 1)) a0 0 a1 (f182 m a0 (m (m a0 14) 1))) a0 6, f182 (g182 (g222 (g182 m a0 (m (m a0 14) 1)) a0 0 a1 (f182 m a0 (m (m a0 14) 1))) a0 6) a0 ((g182 (g222 (g182 m a0 (m (m a0 14) 1)) a0 0 a1 (f182 m a0 (m (m a0 14) 1))) a0 6) ((g182 (g222 (g182 m a0 (m (m a0 14) 1)) a0 0 a1 (f182 m a0 (m (m a0 14) 1))) a0 6) a0 14) 0), 0] [(1, 1)] (g182 (g182 (g222 (g182 m a0 (m (m a0 14) 1)) a0 0 a1 (f182 m a0 (m (m a0 14) 1))) a0 6) a0 ((g182 (g222 (g182 m a0 (m (m a0 14) 1)) a0 0 a1 (f182 m a0 (m (m a0 14) 1))) a0 6) ((g182 (g222 (g182 m a0 (m (m a0 14) 1)) a0 0 a1 (f182 m a0 (m (m a0 14) 1))) a0 6) a0 14) 0)) (ig, rl, m') := h
          have h := CR_istore h rfl (Nat.le_of_ble_eq_true rfl)
          have h : MR X ρ 5 0 0 qP185 N 72 [a0, a1, f182 (g222 (g182 m a0 (m (m a0 14) 1)) a0 0 a1 (f182 m a0 (m (m a0 14) 1))) a0 6, f182 (g182 (g222 (g182 m a0 (m (m a0 14) 1)) a0 0 a1 (f182 m a0 (m (m a0 14) 1))) a0 6) a0 ((g182 (g222 (g182 m a0 (m (m a0 14) 1)) a0 0 a1 (f182 m a0 (m (m a0 14) 1))) a0 6) ((g182 (g222 (g182 m a0 (m (m a0 14) 1)) a0 0 a1 (f182 m a0 (m (m a0 14) 1))) a0 6) a0 14) 0), 1] [] (g182 (g182 (g222 (g182 m a0 (m (m a0 14) 1)) a0 0 a1 (f182 m a0 (m (m a0 14) 1))) a0 6) a0 ((g182 (g222 (g182 m a0 (m (m a0 14) 1)) a0 0 a1 (f182 m a0 (m (m a0 14) 1))) a0 6) ((g182 (g222 (g182 m a0 (m (m a0 14) 1)) a0 0 a1 (f182 m a0 (m (m a0 14) 1))) a0 6) a0 14) 0)) (ig, rl, m') := h
          have h := CR_aload_n h rfl
          have h : MR X ρ 5 0 0 qP185 N 73 [a0, a1, f182 (g222 (g182 m a0 (m (m a0 14) 1)) a0 0 a1 (f182 m a0 (m (m a0 14) 1))) a0 6, f182 (g182 (g222 (g182 m a0 (m (m a0 14) 1)) a0 0 a1 (f182 m a0 (m (m a0 14) 1))) a0 6) a0 ((g182 (g222 (g182 m a0 (m (m a0 14) 1)) a0 0 a1 (f182 m a0 (m (m a0 14) 1))) a0 6) ((g182 (g222 (g182 m a0 (m (m a0 14) 1)) a0 0 a1 (f182 m a0 (m (m a0 14) 1))) a0 6) a0 14) 0), 1] [(1, a0)] (g182 (g182 (g222 (g182 m a0 (m (m a0 14) 1)) a0 0 a1 (f182 m a0 (m (m a0 14) 1))) a0 6) a0 ((g182 (g222 (g182 m a0 (m (m a0 14) 1)) a0 0 a1 (f182 m a0 (m (m a0 14) 1))) a0 6) ((g182 (g222 (g182 m a0 (m (m a0 14) 1)) a0 0 a1 (f182 m a0 (m (m a0 14) 1))) a0 6) a0 14) 0)) (ig, rl, m') := h
          have h := CR_iload h rfl
          have h : MR X ρ 5 0 0 qP185 N 75 [a0, a1, f182 (g222 (g182 m a0 (m (m a0 14) 1)) a0 0 a1 (f182 m a0 (m (m a0 14) 1))) a0 6, f182 (g182 (g222 (g182 m a0 (m (m a0 14) 1)) a0 0 a1 (f182 m a0 (m (m a0 14) 1))) a0 6) a0 ((g182 (g222 (g182 m a0 (m (m a0 14) 1)) a0 0 a1 (f182 m a0 (m (m a0 14) 1))) a0 6) ((g182 (g222 (g182 m a0 (m (m a0 14) 1)) a0 0 a1 (f182 m a0 (m (m a0 14) 1))) a0 6) a0 14) 0), 1] [(1, 1), (1, a0)] (g182 (g182 (g222 (g182 m a0 (m (m a0 14) 1)) a0 0 a1 (f182 m a0 (m (m a0 14) 1))) a0 6) a0 ((g182 (g222 (g182 m a0 (m (m a0 14) 1)) a0 0 a1 (f182 m a0 (m (m a0 14) 1))) a0 6) ((g182 (g222 (g182 m a0 (m (m a0 14) 1)) a0 0 a1 (f182 m a0 (m (m a0 14) 1))) a0 6) a0 14) 0)) (ig, rl, m') := h
          have h := CR_iload_n h rfl
          have h : MR X ρ 5 0 0 qP185 N 76 [a0, a1, f182 (g222 (g182 m a0 (m (m a0 14) 1)) a0 0 a1 (f182 m a0 (m (m a0 14) 1))) a0 6, f182 (g182 (g222 (g182 m a0 (m (m a0 14) 1)) a0 0 a1 (f182 m a0 (m (m a0 14) 1))) a0 6) a0 ((g182 (g222 (g182 m a0 (m (m a0 14) 1)) a0 0 a1 (f182 m a0 (m (m a0 14) 1))) a0 6) ((g182 (g222 (g182 m a0 (m (m a0 14) 1)) a0 0 a1 (f182 m a0 (m (m a0 14) 1))) a0 6) a0 14) 0), 1] [(1, a1), (1, 1), (1, a0)] (g182 (g182 (g222 (g182 m a0 (m (m a0 14) 1)) a0 0 a1 (f182 m a0 (m (m a0 14) 1))) a0 6) a0 ((g182 (g222 (g182 m a0 (m (m a0 14) 1)) a0 0 a1 (f182 m a0 (m (m a0 14) 1))) a0 6) ((g182 (g222 (g182 m a0 (m (m a0 14) 1)) a0 0 a1 (f182 m a0 (m (m a0 14) 1))) a0 6) a0 14) 0)) (ig, rl, m') := h
          have h := CR_iload_n h rfl
          have h : MR X ρ 5 0 0 qP185 N 77 [a0, a1, f182 (g222 (g182 m a0 (m (m a0 14) 1)) a0 0 a1 (f182 m a0 (m (m a0 14) 1))) a0 6, f182 (g182 (g222 (g182 m a0 (m (m a0 14) 1)) a0 0 a1 (f182 m a0 (m (m a0 14) 1))) a0 6) a0 ((g182 (g222 (g182 m a0 (m (m a0 14) 1)) a0 0 a1 (f182 m a0 (m (m a0 14) 1))) a0 6) ((g182 (g222 (g182 m a0 (m (m a0 14) 1)) a0 0 a1 (f182 m a0 (m (m a0 14) 1))) a0 6) a0 14) 0), 1] [(1, f182 (g182 (g222 (g182 m a0 (m (m a0 14) 1)) a0 0 a1 (f182 m a0 (m (m a0 14) 1))) a0 6) a0 ((g182 (g222 (g182 m a0 (m (m a0 14) 1)) a0 0 a1 (f182 m a0 (m (m a0 14) 1))) a0 6) ((g182 (g222 (g182 m a0 (m (m a0 14) 1)) a0 0 a1 (f182 m a0 (m (m a0 14) 1))) a0 6) a0 14) 0)), (1, a1), (1, 1), (1, a0)] (g182 (g182 (g222 (g182 m a0 (m (m a0 14) 1)) a0 0 a1 (f182 m a0 (m (m a0 14) 1))) a0 6) a0 ((g182 (g222 (g182 m a0 (m (m a0 14) 1)) a0 0 a1 (f182 m a0 (m (m a0 14) 1))) a0 6) ((g182 (g222 (g182 m a0 (m (m a0 14) 1)) a0 0 a1 (f182 m a0 (m (m a0 14) 1))) a0 6) a0 14) 0)) (ig, rl, m') := h
          obtain ⟨r98, m99, q100, h⟩ := MR_invV h rfl rfl
          have q100 : Run X ρ 290 [(1, a0), (1, 1), (1, a1), (1, f182 (g182 (g222 (g182 m a0 (m (m a0 14) 1)) a0 0 a1 (f182 m a0 (m (m a0 14) 1))) a0 6) a0 ((g182 (g222 (g182 m a0 (m (m a0 14) 1)) a0 0 a1 (f182 m a0 (m (m a0 14) 1))) a0 6) ((g182 (g222 (g182 m a0 (m (m a0 14) 1)) a0 0 a1 (f182 m a0 (m (m a0 14) 1))) a0 6) a0 14) 0))] (g182 (g182 (g222 (g182 m a0 (m (m a0 14) 1)) a0 0 a1 (f182 m a0 (m (m a0 14) 1))) a0 6) a0 ((g182 (g222 (g182 m a0 (m (m a0 14) 1)) a0 0 a1 (f182 m a0 (m (m a0 14) 1))) a0 6) ((g182 (g222 (g182 m a0 (m (m a0 14) 1)) a0 0 a1 (f182 m a0 (m (m a0 14) 1))) a0 6) a0 14) 0)) r98 m99 := q100
          obtain ⟨e101, e102⟩ := d290 q100
          rw [e101, e102] at h
          have h : MR X ρ 5 0 0 qP185 N 80 [a0, a1, f182 (g222 (g182 m a0 (m (m a0 14) 1)) a0 0 a1 (f182 m a0 (m (m a0 14) 1))) a0 6, f182 (g182 (g222 (g182 m a0 (m (m a0 14) 1)) a0 0 a1 (f182 m a0 (m (m a0 14) 1))) a0 6) a0 ((g182 (g222 (g182 m a0 (m (m a0 14) 1)) a0 0 a1 (f182 m a0 (m (m a0 14) 1))) a0 6) ((g182 (g222 (g182 m a0 (m (m a0 14) 1)) a0 0 a1 (f182 m a0 (m (m a0 14) 1))) a0 6) a0 14) 0), 1] [(1, f290 (g182 (g182 (g222 (g182 m a0 (m (m a0 14) 1)) a0 0 a1 (f182 m a0 (m (m a0 14) 1))) a0 6) a0 ((g182 (g222 (g182 m a0 (m (m a0 14) 1)) a0 0 a1 (f182 m a0 (m (m a0 14) 1))) a0 6) ((g182 (g222 (g182 m a0 (m (m a0 14) 1)) a0 0 a1 (f182 m a0 (m (m a0 14) 1))) a0 6) a0 14) 0)) a0 1 a1 (f182 (g182 (g222 (g182 m a0 (m (m a0 14) 1)) a0 0 a1 (f182 m a0 (m (m a0 14) 1))) a0 6) a0 ((g182 (g222 (g182 m a0 (m (m a0 14) 1)) a0 0 a1 (f182 m a0 (m (m a0 14) 1))) a0 6) ((g182 (g222 (g182 m a0 (m (m a0 14) 1)) a0 0 a1 (f182 m a0 (m (m a0 14) 1))) a0 6) a0 14) 0)))] (g182 (g182 (g222 (g182 m a0 (m (m a0 14) 1)) a0 0 a1 (f182 m a0 (m (m a0 14) 1))) a0 6) a0 ((g182 (g222 (g182 m a0 (m (m a0 14) 1)) a0 0 a1 (f182 m a0 (m (m a0 14) 1))) a0 6) ((g182 (g222 (g182 m a0 (m (m a0 14) 1)) a0 0 a1 (f182 m a0 (m (m a0 14) 1))) a0 6) a0 14) 0)) (ig, rl, m') := h
          rcases MR_if h rfl rfl with ⟨c103, h⟩ | ⟨c103, h⟩
          ·
            have c103 : ¬ ((f290 (g182 (g182 (g222 (g182 m a0 (m (m a0 14) 1)) a0 0 a1 (f182 m a0 (m (m a0 14) 1))) a0 6) a0 ((g182 (g222 (g182 m a0 (m (m a0 14) 1)) a0 0 a1 (f182 m a0 (m (m a0 14) 1))) a0 6) ((g182 (g222 (g182 m a0 (m (m a0 14) 1)) a0 0 a1 (f182 m a0 (m (m a0 14) 1))) a0 6) a0 14) 0)) a0 1 a1 (f182 (g182 (g222 (g182 m a0 (m (m a0 14) 1)) a0 0 a1 (f182 m a0 (m (m a0 14) 1))) a0 6) a0 ((g182 (g222 (g182 m a0 (m (m a0 14) 1)) a0 0 a1 (f182 m a0 (m (m a0 14) 1))) a0 6) ((g182 (g222 (g182 m a0 (m (m a0 14) 1)) a0 0 a1 (f182 m a0 (m (m a0 14) 1))) a0 6) a0 14) 0))) = 0) := c103
            have h : MR X ρ 5 0 0 qP185 N 91 [a0, a1, f182 (g222 (g182 m a0 (m (m a0 14) 1)) a0 0 a1 (f182 m a0 (m (m a0 14) 1))) a0 6, f182 (g182 (g222 (g182 m a0 (m (m a0 14) 1)) a0 0 a1 (f182 m a0 (m (m a0 14) 1))) a0 6) a0 ((g182 (g222 (g182 m a0 (m (m a0 14) 1)) a0 0 a1 (f182 m a0 (m (m a0 14) 1))) a0 6) ((g182 (g222 (g182 m a0 (m (m a0 14) 1)) a0 0 a1 (f182 m a0 (m (m a0 14) 1))) a0 6) a0 14) 0), 1] [] (g182 (g182 (g222 (g182 m a0 (m (m a0 14) 1)) a0 0 a1 (f182 m a0 (m (m a0 14) 1))) a0 6) a0 ((g182 (g222 (g182 m a0 (m (m a0 14) 1)) a0 0 a1 (f182 m a0 (m (m a0 14) 1))) a0 6) ((g182 (g222 (g182 m a0 (m (m a0 14) 1)) a0 0 a1 (f182 m a0 (m (m a0 14) 1))) a0 6) a0 14) 0)) (ig, rl, m') := h
            have e := CR_end h rfl rfl
            cases e
            exact ⟨rfl, Eq.symm (show g185 m a0 a1 = _ from (if_neg c1).trans ((if_pos c46).trans ((if_pos c91).trans ((if_neg c97).trans ((if_neg c103).trans (rfl))))))⟩
          ·
            have c103 : (f290 (g182 (g182 (g222 (g182 m a0 (m (m a0 14) 1)) a0 0 a1 (f182 m a0 (m (m a0 14) 1))) a0 6) a0 ((g182 (g222 (g182 m a0 (m (m a0 14) 1)) a0 0 a1 (f182 m a0 (m (m a0 14) 1))) a0 6) ((g182 (g222 (g182 m a0 (m (m a0 14) 1)) a0 0 a1 (f182 m a0 (m (m a0 14) 1))) a0 6) a0 14) 0)) a0 1 a1 (f182 (g182 (g222 (g182 m a0 (m (m a0 14) 1)) a0 0 a1 (f182 m a0 (m (m a0 14) 1))) a0 6) a0 ((g182 (g222 (g182 m a0 (m (m a0 14) 1)) a0 0 a1 (f182 m a0 (m (m a0 14) 1))) a0 6) ((g182 (g222 (g182 m a0 (m (m a0 14) 1)) a0 0 a1 (f182 m a0 (m (m a0 14) 1))) a0 6) a0 14) 0))) = 0 := Decidable.of_not_not (show ¬ ¬ ((f290 (g182 (g182 (g222 (g182 m a0 (m (m a0 14) 1)) a0 0 a1 (f182 m a0 (m (m a0 14) 1))) a0 6) a0 ((g182 (g222 (g182 m a0 (m (m a0 14) 1)) a0 0 a1 (f182 m a0 (m (m a0 14) 1))) a0 6) ((g182 (g222 (g182 m a0 (m (m a0 14) 1)) a0 0 a1 (f182 m a0 (m (m a0 14) 1))) a0 6) a0 14) 0)) a0 1 a1 (f182 (g182 (g222 (g182 m a0 (m (m a0 14) 1)) a0 0 a1 (f182 m a0 (m (m a0 14) 1))) a0 6) a0 ((g182 (g222 (g182 m a0 (m (m a0 14) 1)) a0 0 a1 (f182 m a0 (m (m a0 14) 1))) a0 6) ((g182 (g222 (g182 m a0 (m (m a0 14) 1)) a0 0 a1 (f182 m a0 (m (m a0 14) 1))) a0 6) a0 14) 0))) = 0) from c103)
            have h : MR X ρ 5 0 0 qP185 N 83 [a0, a1, f182 (g222 (g182 m a0 (m (m a0 14) 1)) a0 0 a1 (f182 m a0 (m (m a0 14) 1))) a0 6, f182 (g182 (g222 (g182 m a0 (m (m a0 14) 1)) a0 0 a1 (f182 m a0 (m (m a0 14) 1))) a0 6) a0 ((g182 (g222 (g182 m a0 (m (m a0 14) 1)) a0 0 a1 (f182 m a0 (m (m a0 14) 1))) a0 6) ((g182 (g222 (g182 m a0 (m (m a0 14) 1)) a0 0 a1 (f182 m a0 (m (m a0 14) 1))) a0 6) a0 14) 0), 1] [] (g182 (g182 (g222 (g182 m a0 (m (m a0 14) 1)) a0 0 a1 (f182 m a0 (m (m a0 14) 1))) a0 6) a0 ((g182 (g222 (g182 m a0 (m (m a0 14) 1)) a0 0 a1 (f182 m a0 (m (m a0 14) 1))) a0 6) ((g182 (g222 (g182 m a0 (m (m a0 14) 1)) a0 0 a1 (f182 m a0 (m (m a0 14) 1))) a0 6) a0 14) 0)) (ig, rl, m') := h
            have h := CR_aload_n h rfl
            have h : MR X ρ 5 0 0 qP185 N 84 [a0, a1, f182 (g222 (g182 m a0 (m (m a0 14) 1)) a0 0 a1 (f182 m a0 (m (m a0 14) 1))) a0 6, f182 (g182 (g222 (g182 m a0 (m (m a0 14) 1)) a0 0 a1 (f182 m a0 (m (m a0 14) 1))) a0 6) a0 ((g182 (g222 (g182 m a0 (m (m a0 14) 1)) a0 0 a1 (f182 m a0 (m (m a0 14) 1))) a0 6) ((g182 (g222 (g182 m a0 (m (m a0 14) 1)) a0 0 a1 (f182 m a0 (m (m a0 14) 1))) a0 6) a0 14) 0), 1] [(1, a0)] (g182 (g182 (g222 (g182 m a0 (m (m a0 14) 1)) a0 0 a1 (f182 m a0 (m (m a0 14) 1))) a0 6) a0 ((g182 (g222 (g182 m a0 (m (m a0 14) 1)) a0 0 a1 (f182 m a0 (m (m a0 14) 1))) a0 6) ((g182 (g222 (g182 m a0 (m (m a0 14) 1)) a0 0 a1 (f182 m a0 (m (m a0 14) 1))) a0 6) a0 14) 0)) (ig, rl, m') := h
            have h := CR_iload h rfl
            have h : MR X ρ 5 0 0 qP185 N 86 [a0, a1, f182 (g222 (g182 m a0 (m (m a0 14) 1)) a0 0 a1 (f182 m a0 (m (m a0 14) 1))) a0 6, f182 (g182 (g222 (g182 m a0 (m (m a0 14) 1)) a0 0 a1 (f182 m a0 (m (m a0 14) 1))) a0 6) a0 ((g182 (g222 (g182 m a0 (m (m a0 14) 1)) a0 0 a1 (f182 m a0 (m (m a0 14) 1))) a0 6) ((g182 (g222 (g182 m a0 (m (m a0 14) 1)) a0 0 a1 (f182 m a0 (m (m a0 14) 1))) a0 6) a0 14) 0), 1] [(1, 1), (1, a0)] (g182 (g182 (g222 (g182 m a0 (m (m a0 14) 1)) a0 0 a1 (f182 m a0 (m (m a0 14) 1))) a0 6) a0 ((g182 (g222 (g182 m a0 (m (m a0 14) 1)) a0 0 a1 (f182 m a0 (m (m a0 14) 1))) a0 6) ((g182 (g222 (g182 m a0 (m (m a0 14) 1)) a0 0 a1 (f182 m a0 (m (m a0 14) 1))) a0 6) a0 14) 0)) (ig, rl, m') := h
            have h := CR_iload_n h rfl
            have h : MR X ρ 5 0 0 qP185 N 87 [a0, a1, f182 (g222 (g182 m a0 (m (m a0 14) 1)) a0 0 a1 (f182 m a0 (m (m a0 14) 1))) a0 6, f182 (g182 (g222 (g182 m a0 (m (m a0 14) 1)) a0 0 a1 (f182 m a0 (m (m a0 14) 1))) a0 6) a0 ((g182 (g222 (g182 m a0 (m (m a0 14) 1)) a0 0 a1 (f182 m a0 (m (m a0 14) 1))) a0 6) ((g182 (g222 (g182 m a0 (m (m a0 14) 1)) a0 0 a1 (f182 m a0 (m (m a0 14) 1))) a0 6) a0 14) 0), 1] [(1, a1), (1, 1), (1, a0)] (g182 (g182 (g222 (g182 m a0 (m (m a0 14) 1)) a0 0 a1 (f182 m a0 (m (m a0 14) 1))) a0 6) a0 ((g182 (g222 (g182 m a0 (m (m a0 14) 1)) a0 0 a1 (f182 m a0 (m (m a0 14) 1))) a0 6) ((g182 (g222 (g182 m a0 (m (m a0 14) 1)) a0 0 a1 (f182 m a0 (m (m a0 14) 1))) a0 6) a0 14) 0)) (ig, rl, m') := h
            have h := CR_iload_n h rfl
            have h : MR X ρ 5 0 0 qP185 N 88 [a0, a1, f182 (g222 (g182 m a0 (m (m a0 14) 1)) a0 0 a1 (f182 m a0 (m (m a0 14) 1))) a0 6, f182 (g182 (g222 (g182 m a0 (m (m a0 14) 1)) a0 0 a1 (f182 m a0 (m (m a0 14) 1))) a0 6) a0 ((g182 (g222 (g182 m a0 (m (m a0 14) 1)) a0 0 a1 (f182 m a0 (m (m a0 14) 1))) a0 6) ((g182 (g222 (g182 m a0 (m (m a0 14) 1)) a0 0 a1 (f182 m a0 (m (m a0 14) 1))) a0 6) a0 14) 0), 1] [(1, f182 (g182 (g222 (g182 m a0 (m (m a0 14) 1)) a0 0 a1 (f182 m a0 (m (m a0 14) 1))) a0 6) a0 ((g182 (g222 (g182 m a0 (m (m a0 14) 1)) a0 0 a1 (f182 m a0 (m (m a0 14) 1))) a0 6) ((g182 (g222 (g182 m a0 (m (m a0 14) 1)) a0 0 a1 (f182 m a0 (m (m a0 14) 1))) a0 6) a0 14) 0)), (1, a1), (1, 1), (1, a0)] (g182 (g182 (g222 (g182 m a0 (m (m a0 14) 1)) a0 0 a1 (f182 m a0 (m (m a0 14) 1))) a0 6) a0 ((g182 (g222 (g182 m a0 (m (m a0 14) 1)) a0 0 a1 (f182 m a0 (m (m a0 14) 1))) a0 6) ((g182 (g222 (g182 m a0 (m (m a0 14) 1)) a0 0 a1 (f182 m a0 (m (m a0 14) 1))) a0 6) a0 14) 0)) (ig, rl, m') := h
            obtain ⟨r104, m105, q106, h⟩ := MR_invV h rfl rfl
            have q106 : Run X ρ 222 [(1, a0), (1, 1), (1, a1), (1, f182 (g182 (g222 (g182 m a0 (m (m a0 14) 1)) a0 0 a1 (f182 m a0 (m (m a0 14) 1))) a0 6) a0 ((g182 (g222 (g182 m a0 (m (m a0 14) 1)) a0 0 a1 (f182 m a0 (m (m a0 14) 1))) a0 6) ((g182 (g222 (g182 m a0 (m (m a0 14) 1)) a0 0 a1 (f182 m a0 (m (m a0 14) 1))) a0 6) a0 14) 0))] (g182 (g182 (g222 (g182 m a0 (m (m a0 14) 1)) a0 0 a1 (f182 m a0 (m (m a0 14) 1))) a0 6) a0 ((g182 (g222 (g182 m a0 (m (m a0 14) 1)) a0 0 a1 (f182 m a0 (m (m a0 14) 1))) a0 6) ((g182 (g222 (g182 m a0 (m (m a0 14) 1)) a0 0 a1 (f182 m a0 (m (m a0 14) 1))) a0 6) a0 14) 0)) r104 m105 := q106
            obtain ⟨e107, e108⟩ := d222 q106
            rw [e107, e108] at h
            have h : MR X ρ 5 0 0 qP185 N 91 [a0, a1, f182 (g222 (g182 m a0 (m (m a0 14) 1)) a0 0 a1 (f182 m a0 (m (m a0 14) 1))) a0 6, f182 (g182 (g222 (g182 m a0 (m (m a0 14) 1)) a0 0 a1 (f182 m a0 (m (m a0 14) 1))) a0 6) a0 ((g182 (g222 (g182 m a0 (m (m a0 14) 1)) a0 0 a1 (f182 m a0 (m (m a0 14) 1))) a0 6) ((g182 (g222 (g182 m a0 (m (m a0 14) 1)) a0 0 a1 (f182 m a0 (m (m a0 14) 1))) a0 6) a0 14) 0), 1] [] (g222 (g182 (g182 (g222 (g182 m a0 (m (m a0 14) 1)) a0 0 a1 (f182 m a0 (m (m a0 14) 1))) a0 6) a0 ((g182 (g222 (g182 m a0 (m (m a0 14) 1)) a0 0 a1 (f182 m a0 (m (m a0 14) 1))) a0 6) ((g182 (g222 (g182 m a0 (m (m a0 14) 1)) a0 0 a1 (f182 m a0 (m (m a0 14) 1))) a0 6) a0 14) 0)) a0 1 a1 (f182 (g182 (g222 (g182 m a0 (m (m a0 14) 1)) a0 0 a1 (f182 m a0 (m (m a0 14) 1))) a0 6) a0 ((g182 (g222 (g182 m a0 (m (m a0 14) 1)) a0 0 a1 (f182 m a0 (m (m a0 14) 1))) a0 6) ((g182 (g222 (g182 m a0 (m (m a0 14) 1)) a0 0 a1 (f182 m a0 (m (m a0 14) 1))) a0 6) a0 14) 0))) (ig, rl, m') := h
            have e := CR_end h rfl rfl
            cases e
            exact ⟨rfl, Eq.symm (show g185 m a0 a1 = _ from (if_neg c1).trans ((if_pos c46).trans ((if_pos c91).trans ((if_neg c97).trans ((if_pos c103).trans (rfl))))))⟩
        ·
          have c97 : (f182 (g222 (g182 m a0 (m (m a0 14) 1)) a0 0 a1 (f182 m a0 (m (m a0 14) 1))) a0 6) = 0 := Decidable.of_not_not (show ¬ ¬ ((f182 (g222 (g182 m a0 (m (m a0 14) 1)) a0 0 a1 (f182 m a0 (m (m a0 14) 1))) a0 6) = 0) from c97)
          have h : MR X ρ 5 0 0 qP185 N 65 [a0, a1, f182 (g222 (g182 m a0 (m (m a0 14) 1)) a0 0 a1 (f182 m a0 (m (m a0 14) 1))) a0 6, f182 (g182 (g222 (g182 m a0 (m (m a0 14) 1)) a0 0 a1 (f182 m a0 (m (m a0 14) 1))) a0 6) a0 ((g182 (g222 (g182 m a0 (m (m a0 14) 1)) a0 0 a1 (f182 m a0 (m (m a0 14) 1))) a0 6) ((g182 (g222 (g182 m a0 (m (m a0 14) 1)) a0 0 a1 (f182 m a0 (m (m a0 14) 1))) a0 6) a0 14) 0), 0] [] (g182 (g182 (g222 (g182 m a0 (m (m a0 14) 1)) a0 0 a1 (f182 m a0 (m (m a0 14) 1))) a0 6) a0 ((g182 (g222 (g182 m a0 (m (m a0 14) 1)) a0 0 a1 (f182 m a0 (m (m a0 14) 1))) a0 6) ((g182 (g222 (g182 m a0 (m (m a0 14) 1)) a0 0 a1 (f182 m a0 (m (m a0 14) 1))) a0 6) a0 14) 0)) (ig, rl, m') := h
          have h := CR_iconst h rfl rfl
          have h : MR X ρ 5 0 0 qP185 N 66 [a0, a1, f182 (g222 (g182 m a0 (m (m a0 14) 1)) a0 0 a1 (f182 m a0 (m (m a0 14) 1))) a0 6, f182 (g182 (g222 (g182 m a0 (m (m a0 14) 1)) a0 0 a1 (f182 m a0 (m (m a0 14) 1))) a0 6) a0 ((g182 (g222 (g182 m a0 (m (m a0 14) 1)) a0 0 a1 (f182 m a0 (m (m a0 14) 1))) a0 6) ((g182 (g222 (g182 m a0 (m (m a0 14) 1)) a0 0 a1 (f182 m a0 (m (m a0 14) 1))) a0 6) a0 14) 0), 0] [(1, 2)] (g182 (g182 (g222 (g182 m a0 (m (m a0 14) 1)) a0 0 a1 (f182 m a0 (m (m a0 14) 1))) a0 6) a0 ((g182 (g222 (g182 m a0 (m (m a0 14) 1)) a0 0 a1 (f182 m a0 (m (m a0 14) 1))) a0 6) ((g182 (g222 (g182 m a0 (m (m a0 14) 1)) a0 0 a1 (f182 m a0 (m (m a0 14) 1))) a0 6) a0 14) 0)) (ig, rl, m') := h
          have h := CR_go h rfl rfl
          have h : MR X ρ 5 0 0 qP185 N 70 [a0, a1, f182 (g222 (g182 m a0 (m (m a0 14) 1)) a0 0 a1 (f182 m a0 (m (m a0 14) 1))) a0 6, f182 (g182 (g222 (g182 m a0 (m (m a0 14) 1)) a0 0 a1 (f182 m a0 (m (m a0 14) 1))) a0 6) a0 ((g182 (g222 (g182 m a0 (m (m a0 14) 1)) a0 0 a1 (f182 m a0 (m (m a0 14) 1))) a0 6) ((g182 (g222 (g182 m a0 (m (m a0 14) 1)) a0 0 a1 (f182 m a0 (m (m a0 14) 1))) a0 6) a0 14) 0), 0] [(1, 2)] (g182 (g182 (g222 (g182 m a0 (m (m a0 14) 1)) a0 0 a1 (f182 m a0 (m (m a0 14) 1))) a0 6) a0 ((g182 (g222 (g182 m a0 (m (m a0 14) 1)) a0 0 a1 (f182 m a0 (m (m a0 14) 1))) a0 6) ((g182 (g222 (g182 m a0 (m (m a0 14) 1)) a0 0 a1 (f182 m a0 (m (m a0 14) 1))) a0 6) a0 14) 0)) (ig, rl, m') := h
          have h := CR_istore h rfl (Nat.le_of_ble_eq_true rfl)
          have h : MR X ρ 5 0 0 qP185 N 72 [a0, a1, f182 (g222 (g182 m a0 (m (m a0 14) 1)) a0 0 a1 (f182 m a0 (m (m a0 14) 1))) a0 6, f182 (g182 (g222 (g182 m a0 (m (m a0 14) 1)) a0 0 a1 (f182 m a0 (m (m a0 14) 1))) a0 6) a0 ((g182 (g222 (g182 m a0 (m (m a0 14) 1)) a0 0 a1 (f182 m a0 (m (m a0 14) 1))) a0 6) ((g182 (g222 (g182 m a0 (m (m a0 14) 1)) a0 0 a1 (f182 m a0 (m (m a0 14) 1))) a0 6) a0 14) 0), 2] [] (g182 (g182 (g222 (g182 m a0 (m (m a0 14) 1)) a0 0 a1 (f182 m a0 (m (m a0 14) 1))) a0 6) a0 ((g182 (g222 (g182 m a0 (m (m a0 14) 1)) a0 0 a1 (f182 m a0 (m (m a0 14) 1))) a0 6) ((g182 (g222 (g182 m a0 (m (m a0 14) 1)) a0 0 a1 (f182 m a0 (m (m a0 14) 1))) a0 6) a0 14) 0)) (ig, rl, m') := h
          have h := CR_aload_n h rfl
          have h : MR X ρ 5 0 0 qP185 N 73 [a0, a1, f182 (g222 (g182 m a0 (m (m a0 14) 1)) a0 0 a1 (f182 m a0 (m (m a0 14) 1))) a0 6, f182 (g182 (g222 (g182 m a0 (m (m a0 14) 1)) a0 0 a1 (f182 m a0 (m (m a0 14) 1))) a0 6) a0 ((g182 (g222 (g182 m a0 (m (m a0 14) 1)) a0 0 a1 (f182 m a0 (m (m a0 14) 1))) a0 6) ((g182 (g222 (g182 m a0 (m (m a0 14) 1)) a0 0 a1 (f182 m a0 (m (m a0 14) 1))) a0 6) a0 14) 0), 2] [(1, a0)] (g182 (g182 (g222 (g182 m a0 (m (m a0 14) 1)) a0 0 a1 (f182 m a0 (m (m a0 14) 1))) a0 6) a0 ((g182 (g222 (g182 m a0 (m (m a0 14) 1)) a0 0 a1 (f182 m a0 (m (m a0 14) 1))) a0 6) ((g182 (g222 (g182 m a0 (m (m a0 14) 1)) a0 0 a1 (f182 m a0 (m (m a0 14) 1))) a0 6) a0 14) 0)) (ig, rl, m') := h
          have h := CR_iload h rfl
          have h : MR X ρ 5 0 0 qP185 N 75 [a0, a1, f182 (g222 (g182 m a0 (m (m a0 14) 1)) a0 0 a1 (f182 m a0 (m (m a0 14) 1))) a0 6, f182 (g182 (g222 (g182 m a0 (m (m a0 14) 1)) a0 0 a1 (f182 m a0 (m (m a0 14) 1))) a0 6) a0 ((g182 (g222 (g182 m a0 (m (m a0 14) 1)) a0 0 a1 (f182 m a0 (m (m a0 14) 1))) a0 6) ((g182 (g222 (g182 m a0 (m (m a0 14) 1)) a0 0 a1 (f182 m a0 (m (m a0 14) 1))) a0 6) a0 14) 0), 2] [(1, 2), (1, a0)] (g182 (g182 (g222 (g182 m a0 (m (m a0 14) 1)) a0 0 a1 (f182 m a0 (m (m a0 14) 1))) a0 6) a0 ((g182 (g222 (g182 m a0 (m (m a0 14) 1)) a0 0 a1 (f182 m a0 (m (m a0 14) 1))) a0 6) ((g182 (g222 (g182 m a0 (m (m a0 14) 1)) a0 0 a1 (f182 m a0 (m (m a0 14) 1))) a0 6) a0 14) 0)) (ig, rl, m') := h
          have h := CR_iload_n h rfl
          have h : MR X ρ 5 0 0 qP185 N 76 [a0, a1, f182 (g222 (g182 m a0 (m (m a0 14) 1)) a0 0 a1 (f182 m a0 (m (m a0 14) 1))) a0 6, f182 (g182 (g222 (g182 m a0 (m (m a0 14) 1)) a0 0 a1 (f182 m a0 (m (m a0 14) 1))) a0 6) a0 ((g182 (g222 (g182 m a0 (m (m a0 14) 1)) a0 0 a1 (f182 m a0 (m (m a0 14) 1))) a0 6) ((g182 (g222 (g182 m a0 (m (m a0 14) 1)) a0 0 a1 (f182 m a0 (m (m a0 14) 1))) a0 6) a0 14) 0), 2] [(1, a1), (1, 2), (1, a0)] (g182 (g182 (g222 (g182 m a0 (m (m a0 14) 1)) a0 0 a1 (f182 m a0 (m (m a0 14) 1))) a0 6) a0 ((g182 (g222 (g182 m a0 (m (m a0 14) 1)) a0 0 a1 (f182 m a0 (m (m a0 14) 1))) a0 6) ((g182 (g222 (g182 m a0 (m (m a0 14) 1)) a0 0 a1 (f182 m a0 (m (m a0 14) 1))) a0 6) a0 14) 0)) (ig, rl, m') := h
          have h := CR_iload_n h rfl
          have h : MR X ρ 5 0 0 qP185 N 77 [a0, a1, f182 (g222 (g182 m a0 (m (m a0 14) 1)) a0 0 a1 (f182 m a0 (m (m a0 14) 1))) a0 6, f182 (g182 (g222 (g182 m a0 (m (m a0 14) 1)) a0 0 a1 (f182 m a0 (m (m a0 14) 1))) a0 6) a0 ((g182 (g222 (g182 m a0 (m (m a0 14) 1)) a0 0 a1 (f182 m a0 (m (m a0 14) 1))) a0 6) ((g182 (g222 (g182 m a0 (m (m a0 14) 1)) a0 0 a1 (f182 m a0 (m (m a0 14) 1))) a0 6) a0 14) 0), 2] [(1, f182 (g182 (g222 (g182 m a0 (m (m a0 14) 1)) a0 0 a1 (f182 m a0 (m (m a0 14) 1))) a0 6) a0 ((g182 (g222 (g182 m a0 (m (m a0 14) 1)) a0 0 a1 (f182 m a0 (m (m a0 14) 1))) a0 6) ((g182 (g222 (g182 m a0 (m (m a0 14) 1)) a0 0 a1 (f182 m a0 (m (m a0 14) 1))) a0 6) a0 14) 0)), (1, a1), (1, 2), (1, a0)] (g182 (g182 (g222 (g182 m a0 (m (m a0 14) 1)) a0 0 a1 (f182 m a0 (m (m a0 14) 1))) a0 6) a0 ((g182 (g222 (g182 m a0 (m (m a0 14) 1)) a0 0 a1 (f182 m a0 (m (m a0 14) 1))) a0 6) ((g182 (g222 (g182 m a0 (m (m a0 14) 1)) a0 0 a1 (f182 m a0 (m (m a0 14) 1))) a0 6) a0 14) 0)) (ig, rl, m') := h
          obtain ⟨r109, m110, q111, h⟩ := MR_invV h rfl rfl
          have q111 : Run X ρ 290 [(1, a0), (1, 2), (1, a1), (1, f182 (g182 (g222 (g182 m a0 (m (m a0 14) 1)) a0 0 a1 (f182 m a0 (m (m a0 14) 1))) a0 6) a0 ((g182 (g222 (g182 m a0 (m (m a0 14) 1)) a0 0 a1 (f182 m a0 (m (m a0 14) 1))) a0 6) ((g182 (g222 (g182 m a0 (m (m a0 14) 1)) a0 0 a1 (f182 m a0 (m (m a0 14) 1))) a0 6) a0 14) 0))] (g182 (g182 (g222 (g182 m a0 (m (m a0 14) 1)) a0 0 a1 (f182 m a0 (m (m a0 14) 1))) a0 6) a0 ((g182 (g222 (g182 m a0 (m (m a0 14) 1)) a0 0 a1 (f182 m a0 (m (m a0 14) 1))) a0 6) ((g182 (g222 (g182 m a0 (m (m a0 14) 1)) a0 0 a1 (f182 m a0 (m (m a0 14) 1))) a0 6) a0 14) 0)) r109 m110 := q111
          obtain ⟨e112, e113⟩ := d290 q111
          rw [e112, e113] at h
          have h : MR X ρ 5 0 0 qP185 N 80 [a0, a1, f182 (g222 (g182 m a0 (m (m a0 14) 1)) a0 0 a1 (f182 m a0 (m (m a0 14) 1))) a0 6, f182 (g182 (g222 (g182 m a0 (m (m a0 14) 1)) a0 0 a1 (f182 m a0 (m (m a0 14) 1))) a0 6) a0 ((g182 (g222 (g182 m a0 (m (m a0 14) 1)) a0 0 a1 (f182 m a0 (m (m a0 14) 1))) a0 6) ((g182 (g222 (g182 m a0 (m (m a0 14) 1)) a0 0 a1 (f182 m a0 (m (m a0 14) 1))) a0 6) a0 14) 0), 2] [(1, f290 (g182 (g182 (g222 (g182 m a0 (m (m a0 14) 1)) a0 0 a1 (f182 m a0 (m (m a0 14) 1))) a0 6) a0 ((g182 (g222 (g182 m a0 (m (m a0 14) 1)) a0 0 a1 (f182 m a0 (m (m a0 14) 1))) a0 6) ((g182 (g222 (g182 m a0 (m (m a0 14) 1)) a0 0 a1 (f182 m a0 (m (m a0 14) 1))) a0 6) a0 14) 0)) a0 2 a1 (f182 (g182 (g222 (g182 m a0 (m (m a0 14) 1)) a0 0 a1 (f182 m a0 (m (m a0 14) 1))) a0 6) a0 ((g182 (g222 (g182 m a0 (m (m a0 14) 1)) a0 0 a1 (f182 m a0 (m (m a0 14) 1))) a0 6) ((g182 (g222 (g182 m a0 (m (m a0 14) 1)) a0 0 a1 (f182 m a0 (m (m a0 14) 1))) a0 6) a0 14) 0)))] (g182 (g182 (g222 (g182 m a0 (m (m a0 14) 1)) a0 0 a1 (f182 m a0 (m (m a0 14) 1))) a0 6) a0 ((g182 (g222 (g182 m a0 (m (m a0 14) 1)) a0 0 a1 (f182 m a0 (m (m a0 14) 1))) a0 6) ((g182 (g222 (g182 m a0 (m (m a0 14) 1)) a0 0 a1 (f182 m a0 (m (m a0 14) 1))) a0 6) a0 14) 0)) (ig, rl, m') := h
          rcases MR_if h rfl rfl with ⟨c114, h⟩ | ⟨c114, h⟩
          ·
            have c114 : ¬ ((f290 (g182 (g182 (g222 (g182 m a0 (m (m a0 14) 1)) a0 0 a1 (f182 m a0 (m (m a0 14) 1))) a0 6) a0 ((g182 (g222 (g182 m a0 (m (m a0 14) 1)) a0 0 a1 (f182 m a0 (m (m a0 14) 1))) a0 6) ((g182 (g222 (g182 m a0 (m (m a0 14) 1)) a0 0 a1 (f182 m a0 (m (m a0 14) 1))) a0 6) a0 14) 0)) a0 2 a1 (f182 (g182 (g222 (g182 m a0 (m (m a0 14) 1)) a0 0 a1 (f182 m a0 (m (m a0 14) 1))) a0 6) a0 ((g182 (g222 (g182 m a0 (m (m a0 14) 1)) a0 0 a1 (f182 m a0 (m (m a0 14) 1))) a0 6) ((g182 (g222 (g182 m a0 (m (m a0 14) 1)) a0 0 a1 (f182 m a0 (m (m a0 14) 1))) a0 6) a0 14) 0))) = 0) := c114
            have h : MR X ρ 5 0 0 qP185 N 91 [a0, a1, f182 (g222 (g182 m a0 (m (m a0 14) 1)) a0 0 a1 (f182 m a0 (m (m a0 14) 1))) a0 6, f182 (g182 (g222 (g182 m a0 (m (m a0 14) 1)) a0 0 a1 (f182 m a0 (m (m a0 14) 1))) a0 6) a0 ((g182 (g222 (g182 m a0 (m (m a0 14) 1)) a0 0 a1 (f182 m a0 (m (m a0 14) 1))) a0 6) ((g182 (g222 (g182 m a0 (m (m a0 14) 1)) a0 0 a1 (f182 m a0 (m (m a0 14) 1))) a0 6) a0 14) 0), 2] [] (g182 (g182 (g222 (g182 m a0 (m (m a0 14) 1)) a0 0 a1 (f182 m a0 (m (m a0 14) 1))) a0 6) a0 ((g182 (g222 (g182 m a0 (m (m a0 14) 1)) a0 0 a1 (f182 m a0 (m (m a0 14) 1))) a0 6) ((g182 (g222 (g182 m a0 (m (m a0 14) 1)) a0 0 a1 (f182 m a0 (m (m a0 14) 1))) a0 6) a0 14) 0)) (ig, rl, m') := h
            have e := CR_end h rfl rfl
            cases e
            exact ⟨rfl, Eq.symm (show g185 m a0 a1 = _ from (if_neg c1).trans ((if_pos c46).trans ((if_pos c91).trans ((if_pos c97).trans ((if_neg c114).trans (rfl))))))⟩
          ·
            have c114 : (f290 (g182 (g182 (g222 (g182 m a0 (m (m a0 14) 1)) a0 0 a1 (f182 m a0 (m (m a0 14) 1))) a0 6) a0 ((g182 (g222 (g182 m a0 (m (m a0 14) 1)) a0 0 a1 (f182 m a0 (m (m a0 14) 1))) a0 6) ((g182 (g222 (g182 m a0 (m (m a0 14) 1)) a0 0 a1 (f182 m a0 (m (m a0 14) 1))) a0 6) a0 14) 0)) a0 2 a1 (f182 (g182 (g222 (g182 m a0 (m (m a0 14) 1)) a0 0 a1 (f182 m a0 (m (m a0 14) 1))) a0 6) a0 ((g182 (g222 (g182 m a0 (m (m a0 14) 1)) a0 0 a1 (f182 m a0 (m (m a0 14) 1))) a0 6) ((g182 (g222 (g182 m a0 (m (m a0 14) 1)) a0 0 a1 (f182 m a0 (m (m a0 14) 1))) a0 6) a0 14) 0))) = 0 := Decidable.of_not_not (show ¬ ¬ ((f290 (g182 (g182 (g222 (g182 m a0 (m (m a0 14) 1)) a0 0 a1 (f182 m a0 (m (m a0 14) 1))) a0 6) a0 ((g182 (g222 (g182 m a0 (m (m a0 14) 1)) a0 0 a1 (f182 m a0 (m (m a0 14) 1))) a0 6) ((g182 (g222 (g182 m a0 (m (m a0 14) 1)) a0 0 a1 (f182 m a0 (m (m a0 14) 1))) a0 6) a0 14) 0)) a0 2 a1 (f182 (g182 (g222 (g182 m a0 (m (m a0 14) 1)) a0 0 a1 (f182 m a0 (m (m a0 14) 1))) a0 6) a0 ((g182 (g222 (g182 m a0 (m (m a0 14) 1)) a0 0 a1 (f182 m a0 (m (m a0 14) 1))) a0 6) ((g182 (g222 (g182 m a0 (m (m a0 14) 1)) a0 0 a1 (f182 m a0 (m (m a0 14) 1))) a0 6) a0 14) 0))) = 0) from c114)
            have h : MR X ρ 5 0 0 qP185 N 83 [a0, a1, f182 (g222 (g182 m a0 (m (m a0 14) 1)) a0 0 a1 (f182 m a0 (m (m a0 14) 1))) a0 6, f182 (g182 (g222 (g182 m a0 (m (m a0 14) 1)) a0 0 a1 (f182 m a0 (m (m a0 14) 1))) a0 6) a0 ((g182 (g222 (g182 m a0 (m (m a0 14) 1)) a0 0 a1 (f182 m a0 (m (m a0 14) 1))) a0 6) ((g182 (g222 (g182 m a0 (m (m a0 14) 1)) a0 0 a1 (f182 m a0 (m (m a0 14) 1))) a0 6) a0 14) 0), 2] [] (g182 (g182 (g222 (g182 m a0 (m (m a0 14) 1)) a0 0 a1 (f182 m a0 (m (m a0 14) 1))) a0 6) a0 ((g182 (g222 (g182 m a0 (m (m a0 14) 1)) a0 0 a1 (f182 m a0 (m (m a0 14) 1))) a0 6) ((g182 (g222 (g182 m a0 (m (m a0 14) 1)) a0 0 a1 (f182 m a0 (m (m a0 14) 1))) a0 6) a0 14) 0)) (ig, rl, m') := h
            have h := CR_aload_n h rfl
            have h : MR X ρ 5 0 0 qP185 N 84 [a0, a1, f182 (g222 (g182 m a0 (m (m a0 14) 1)) a0 0 a1 (f182 m a0 (m (m a0 14) 1))) a0 6, f182 (g182 (g222 (g182 m a0 (m (m a0 14) 1)) a0 0 a1 (f182 m a0 (m (m a0 14) 1))) a0 6) a0 ((g182 (g222 (g182 m a0 (m (m a0 14) 1)) a0 0 a1 (f182 m a0 (m (m a0 14) 1))) a0 6) ((g182 (g222 (g182 m a0 (m (m a0 14) 1)) a0 0 a1 (f182 m a0 (m (m a0 14) 1))) a0 6) a0 14) 0), 2] [(1, a0)] (g182 (g182 (g222 (g182 m a0 (m (m a0 14) 1)) a0 0 a1 (f182 m a0 (m (m a0 14) 1))) a0 6) a0 ((g182 (g222 (g182 m a0 (m (m a0 14) 1)) a0 0 a1 (f182 m a0 (m (m a0 14) 1))) a0 6) ((g182 (g222 (g182 m a0 (m (m a0 14) 1)) a0 0 a1 (f182 m a0 (m (m a0 14) 1))) a0 6) a0 14) 0)) (ig, rl, m') := h
            have h := CR_iload h rfl
            have h : MR X ρ 5 0 0 qP185 N 86 [a0, a1, f182 (g222 (g182 m a0 (m (m a0 14) 1)) a0 0 a1 (f182 m a0 (m (m a0 14) 1))) a0 6, f182 (g182 (g222 (g182 m a0 (m (m a0 14) 1)) a0 0 a1 (f182 m a0 (m (m a0 14) 1))) a0 6) a0 ((g182 (g222 (g182 m a0 (m (m a0 14) 1)) a0 0 a1 (f182 m a0 (m (m a0 14) 1))) a0 6) ((g182 (g222 (g182 m a0 (m (m a0 14) 1)) a0 0 a1 (f182 m a0 (m (m a0 14) 1))) a0 6) a0 14) 0), 2] [(1, 2), (1, a0)] (g182 (g182 (g222 (g182 m a0 (m (m a0 14) 1)) a0 0 a1 (f182 m a0 (m (m a0 14) 1))) a0 6) a0 ((g182 (g222 (g182 m a0 (m (m a0 14) 1)) a0 0 a1 (f182 m a0 (m (m a0 14) 1))) a0 6) ((g182 (g222 (g182 m a0 (m (m a0 14) 1)) a0 0 a1 (f182 m a0 (m (m a0 14) 1))) a0 6) a0 14) 0)) (ig, rl, m') := h
            have h := CR_iload_n h rfl
            have h : MR X ρ 5 0 0 qP185 N 87 [a0, a1, f182 (g222 (g182 m a0 (m (m a0 14) 1)) a0 0 a1 (f182 m a0 (m (m a0 14) 1))) a0 6, f182 (g182 (g222 (g182 m a0 (m (m a0 14) 1)) a0 0 a1 (f182 m a0 (m (m a0 14) 1))) a0 6) a0 ((g182 (g222 (g182 m a0 (m (m a0 14) 1)) a0 0 a1 (f182 m a0 (m (m a0 14) 1))) a0 6) ((g182 (g222 (g182 m a0 (m (m a0 14) 1)) a0 0 a1 (f182 m a0 (m (m a0 14) 1))) a0 6) a0 14) 0), 2] [(1, a1), (1, 2), (1, a0)] (g182 (g182 (g222 (g182 m a0 (m (m a0 14) 1)) a0 0 a1 (f182 m a0 (m (m a0 14) 1))) a0 6) a0 ((g182 (g222 (g182 m a0 (m (m a0 14) 1)) a0 0 a1 (f182 m a0 (m (m a0 14) 1))) a0 6) ((g182 (g222 (g182 m a0 (m (m a0 14) 1)) a0 0 a1 (f182 m a0 (m (m a0 14) 1))) a0 6) a0 14) 0)) (ig, rl, m') := h
            have h := CR_iload_n h rfl
            have h : MR X ρ 5 0 0 qP185 N 88 [a0, a1, f182 (g222 (g182 m a0 (m (m a0 14) 1)) a0 0 a1 (f182 m a0 (m (m a0 14) 1))) a0 6, f182 (g182 (g222 (g182 m a0 (m (m a0 14) 1)) a0 0 a1 (f182 m a0 (m (m a0 14) 1))) a0 6) a0 ((g182 (g222 (g182 m a0 (m (m a0 14) 1)) a0 0 a1 (f182 m a0 (m (m a0 14) 1))) a0 6) ((g182 (g222 (g182 m a0 (m (m a0 14) 1)) a0 0 a1 (f182 m a0 (m (m a0 14) 1))) a0 6) a0 14) 0), 2] [(1, f182 (g182 (g222 (g182 m a0 (m (m a0 14) 1)) a0 0 a1 (f182 m a0 (m (m a0 14) 1))) a0 6) a0 ((g182 (g222 (g182 m a0 (m (m a0 14) 1)) a0 0 a1 (f182 m a0 (m (m a0 14) 1))) a0 6) ((g182 (g222 (g182 m a0 (m (m a0 14) 1)) a0 0 a1 (f182 m a0 (m (m a0 14) 1))) a0 6) a0 14) 0)), (1, a1), (1, 2), (1, a0)] (g182 (g182 (g222 (g182 m a0 (m (m a0 14) 1)) a0 0 a1 (f182 m a0 (m (m a0 14) 1))) a0 6) a0 ((g182 (g222 (g182 m a0 (m (m a0 14) 1)) a0 0 a1 (f182 m a0 (m (m a0 14) 1))) a0 6) ((g182 (g222 (g182 m a0 (m (m a0 14) 1)) a0 0 a1 (f182 m a0 (m (m a0 14) 1))) a0 6) a0 14) 0)) (ig, rl, m') := h
            obtain ⟨r115, m116, q117, h⟩ := MR_invV h rfl rfl
            have q117 : Run X ρ 222 [(1, a0), (1, 2), (1, a1), (1, f182 (g182 (g222 (g182 m a0 (m (m a0 14) 1)) a0 0 a1 (f182 m a0 (m (m a0 14) 1))) a0 6) a0 ((g182 (g222 (g182 m a0 (m (m a0 14) 1)) a0 0 a1 (f182 m a0 (m (m a0 14) 1))) a0 6) ((g182 (g222 (g182 m a0 (m (m a0 14) 1)) a0 0 a1 (f182 m a0 (m (m a0 14) 1))) a0 6) a0 14) 0))] (g182 (g182 (g222 (g182 m a0 (m (m a0 14) 1)) a0 0 a1 (f182 m a0 (m (m a0 14) 1))) a0 6) a0 ((g182 (g222 (g182 m a0 (m (m a0 14) 1)) a0 0 a1 (f182 m a0 (m (m a0 14) 1))) a0 6) ((g182 (g222 (g182 m a0 (m (m a0 14) 1)) a0 0 a1 (f182 m a0 (m (m a0 14) 1))) a0 6) a0 14) 0)) r115 m116 := q117
            obtain ⟨e118, e119⟩ := d222 q117
            rw [e118, e119] at h
            have h : MR X ρ 5 0 0 qP185 N 91 [a0, a1, f182 (g222 (g182 m a0 (m (m a0 14) 1)) a0 0 a1 (f182 m a0 (m (m a0 14) 1))) a0 6, f182 (g182 (g222 (g182 m a0 (m (m a0 14) 1)) a0 0 a1 (f182 m a0 (m (m a0 14) 1))) a0 6) a0 ((g182 (g222 (g182 m a0 (m (m a0 14) 1)) a0 0 a1 (f182 m a0 (m (m a0 14) 1))) a0 6) ((g182 (g222 (g182 m a0 (m (m a0 14) 1)) a0 0 a1 (f182 m a0 (m (m a0 14) 1))) a0 6) a0 14) 0), 2] [] (g222 (g182 (g182 (g222 (g182 m a0 (m (m a0 14) 1)) a0 0 a1 (f182 m a0 (m (m a0 14) 1))) a0 6) a0 ((g182 (g222 (g182 m a0 (m (m a0 14) 1)) a0 0 a1 (f182 m a0 (m (m a0 14) 1))) a0 6) ((g182 (g222 (g182 m a0 (m (m a0 14) 1)) a0 0 a1 (f182 m a0 (m (m a0 14) 1))) a0 6) a0 14) 0)) a0 2 a1 (f182 (g182 (g222 (g182 m a0 (m (m a0 14) 1)) a0 0 a1 (f182 m a0 (m (m a0 14) 1))) a0 6) a0 ((g182 (g222 (g182 m a0 (m (m a0 14) 1)) a0 0 a1 (f182 m a0 (m (m a0 14) 1))) a0 6) ((g182 (g222 (g182 m a0 (m (m a0 14) 1)) a0 0 a1 (f182 m a0 (m (m a0 14) 1))) a0 6) a0 14) 0))) (ig, rl, m') := h
            have e := CR_end h rfl rfl
            cases e
            exact ⟨rfl, Eq.symm (show g185 m a0 a1 = _ from (if_neg c1).trans ((if_pos c46).trans ((if_pos c91).trans ((if_pos c97).trans ((if_pos c114).trans (rfl))))))⟩
      ·
        have c91 : ¬ ((f182 (g222 (g182 m a0 (m (m a0 14) 1)) a0 0 a1 (f182 m a0 (m (m a0 14) 1))) a0 6) ≤ 1) := c91
        have h : MR X ρ 5 0 0 qP185 N 49 [a0, a1, f182 (g222 (g182 m a0 (m (m a0 14) 1)) a0 0 a1 (f182 m a0 (m (m a0 14) 1))) a0 6, 0, 0] [] (g182 (g222 (g182 m a0 (m (m a0 14) 1)) a0 0 a1 (f182 m a0 (m (m a0 14) 1))) a0 6) (ig, rl, m') := h
        have e := CR_end h rfl rfl
        cases e
        exact ⟨rfl, Eq.symm (show g185 m a0 a1 = _ from (if_neg c1).trans ((if_pos c46).trans ((if_neg c91).trans (rfl))))⟩
