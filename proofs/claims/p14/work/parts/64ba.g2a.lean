set_option maxRecDepth 16384 in
/-- TriplicateForms$Undos.keep(LTriplicateForms$Standing;)V -/
noncomputable def g162 (m : MM) (a0 a1 : Int) : MM := (if (m a0 1) < 0 then m else (if (m a0 1) < (if m a0 0 = 1000050 then 30 else s32 (m (m a0 0) (-1))) then (if (if (g113 m (if m a0 0 = 1000050 then 1000100 + (m a0 1) else m (m a0 0) (m a0 1)) a1) a0 0 = 1000050 then 30 else s32 ((g113 m (if m a0 0 = 1000050 then 1000100 + (m a0 1) else m (m a0 0) (m a0 1)) a1) ((g113 m (if m a0 0 = 1000050 then 1000100 + (m a0 1) else m (m a0 0) (m a0 1)) a1) a0 0) (-1))) ≤ (s32 (((g113 m (if m a0 0 = 1000050 then 1000100 + (m a0 1) else m (m a0 0) (m a0 1)) a1) a0 1) + 1)) then mu (mu (g113 m (if m a0 0 = 1000050 then 1000100 + (m a0 1) else m (m a0 0) (m a0 1)) a1) a0 1 0) a0 2 (jmin (s32 (((mu (g113 m (if m a0 0 = 1000050 then 1000100 + (m a0 1) else m (m a0 0) (m a0 1)) a1) a0 1 0) a0 2) + 1)) (if (mu (g113 m (if m a0 0 = 1000050 then 1000100 + (m a0 1) else m (m a0 0) (m a0 1)) a1) a0 1 0) a0 0 = 1000050 then 30 else s32 ((mu (g113 m (if m a0 0 = 1000050 then 1000100 + (m a0 1) else m (m a0 0) (m a0 1)) a1) a0 1 0) ((mu (g113 m (if m a0 0 = 1000050 then 1000100 + (m a0 1) else m (m a0 0) (m a0 1)) a1) a0 1 0) a0 0) (-1)))) else mu (mu (g113 m (if m a0 0 = 1000050 then 1000100 + (m a0 1) else m (m a0 0) (m a0 1)) a1) a0 1 (s32 (((g113 m (if m a0 0 = 1000050 then 1000100 + (m a0 1) else m (m a0 0) (m a0 1)) a1) a0 1) + 1))) a0 2 (jmin (s32 (((mu (g113 m (if m a0 0 = 1000050 then 1000100 + (m a0 1) else m (m a0 0) (m a0 1)) a1) a0 1 (s32 (((g113 m (if m a0 0 = 1000050 then 1000100 + (m a0 1) else m (m a0 0) (m a0 1)) a1) a0 1) + 1))) a0 2) + 1)) (if (mu (g113 m (if m a0 0 = 1000050 then 1000100 + (m a0 1) else m (m a0 0) (m a0 1)) a1) a0 1 (s32 (((g113 m (if m a0 0 = 1000050 then 1000100 + (m a0 1) else m (m a0 0) (m a0 1)) a1) a0 1) + 1))) a0 0 = 1000050 then 30 else s32 ((mu (g113 m (if m a0 0 = 1000050 then 1000100 + (m a0 1) else m (m a0 0) (m a0 1)) a1) a0 1 (s32 (((g113 m (if m a0 0 = 1000050 then 1000100 + (m a0 1) else m (m a0 0) (m a0 1)) a1) a0 1) + 1))) ((mu (g113 m (if m a0 0 = 1000050 then 1000100 + (m a0 1) else m (m a0 0) (m a0 1)) a1) a0 1 (s32 (((g113 m (if m a0 0 = 1000050 then 1000100 + (m a0 1) else m (m a0 0) (m a0 1)) a1) a0 1) + 1))) a0 0) (-1))))) else m))
set_option maxRecDepth 16384 in
theorem d162 {X : KO} {ρ : Nat → Int32} {m m' : MM} {rl : List (Nat × Int)} {a0 a1 : Int} (h : Run X ρ 162 [(1, a0), (1, a1)] m rl m') : rl = [] ∧ m' = g162 m a0 a1 := by
  obtain ⟨N, ig, h⟩ := Run_CR h rfl
  have h : MR X ρ 2 0 0 qP162 N 0 [a0, a1] [] m (ig, rl, m') := h
  have h := CR_aload_n h rfl
  have h : MR X ρ 2 0 0 qP162 N 1 [a0, a1] [(1, a0)] m (ig, rl, m') := h
  have h := CR_getf h rfl (by decide)
  have h : MR X ρ 2 0 0 qP162 N 4 [a0, a1] [(1, m a0 1)] m (ig, rl, m') := h
  rcases MR_if h rfl rfl with ⟨c1, h⟩ | ⟨c1, h⟩
  ·
    have c1 : (m a0 1) < 0 := c1
    have h : MR X ρ 2 0 0 qP162 N 19 [a0, a1] [] m (ig, rl, m') := h
    have e := CR_end h rfl rfl
    cases e
    exact ⟨rfl, Eq.symm (show g162 m a0 a1 = _ from (if_pos c1).trans (rfl))⟩
  ·
    have c1 : ¬ ((m a0 1) < 0) := c1
    have h : MR X ρ 2 0 0 qP162 N 7 [a0, a1] [] m (ig, rl, m') := h
    have h := CR_aload_n h rfl
    have h : MR X ρ 2 0 0 qP162 N 8 [a0, a1] [(1, a0)] m (ig, rl, m') := h
    have h := CR_getf h rfl (by decide)
    have h : MR X ρ 2 0 0 qP162 N 11 [a0, a1] [(1, m a0 1)] m (ig, rl, m') := h
    have h := CR_aload_n h rfl
    have h : MR X ρ 2 0 0 qP162 N 12 [a0, a1] [(1, a0), (1, m a0 1)] m (ig, rl, m') := h
    have h := CR_getf h rfl (by decide)
    have h : MR X ρ 2 0 0 qP162 N 15 [a0, a1] [(1, m a0 0), (1, m a0 1)] m (ig, rl, m') := h
    have h := CR_alen rfl h rfl
    have h : MR X ρ 2 0 0 qP162 N 16 [a0, a1] [(1, if m a0 0 = 1000050 then 30 else s32 (m (m a0 0) (-1))), (1, m a0 1)] m (ig, rl, m') := h
    rcases MR_icmp h rfl rfl with ⟨c2, h⟩ | ⟨c2, h⟩
    ·
      have c2 : (m a0 1) < (if m a0 0 = 1000050 then 30 else s32 (m (m a0 0) (-1))) := c2
      have h : MR X ρ 2 0 0 qP162 N 20 [a0, a1] [] m (ig, rl, m') := h
      have h := CR_aload_n h rfl
      have h : MR X ρ 2 0 0 qP162 N 21 [a0, a1] [(1, a0)] m (ig, rl, m') := h
      have h := CR_getf h rfl (by decide)
      have h : MR X ρ 2 0 0 qP162 N 24 [a0, a1] [(1, m a0 0)] m (ig, rl, m') := h
      have h := CR_aload_n h rfl
      have h : MR X ρ 2 0 0 qP162 N 25 [a0, a1] [(1, a0), (1, m a0 0)] m (ig, rl, m') := h
      have h := CR_getf h rfl (by decide)
      have h : MR X ρ 2 0 0 qP162 N 28 [a0, a1] [(1, m a0 1), (1, m a0 0)] m (ig, rl, m') := h
      have h := CR_aald h rfl
      have h : MR X ρ 2 0 0 qP162 N 29 [a0, a1] [(1, if m a0 0 = 1000050 then 1000100 + (m a0 1) else m (m a0 0) (m a0 1))] m (ig, rl, m') := h
      have h := CR_aload_n h rfl
      have h : MR X ρ 2 0 0 qP162 N 30 [a0, a1] [(1, a1), (1, if m a0 0 = 1000050 then 1000100 + (m a0 1) else m (m a0 0) (m a0 1))] m (ig, rl, m') := h
      obtain ⟨r3, m4, q5, h⟩ := MR_invV h rfl rfl
      have q5 : Run X ρ 113 [(1, if m a0 0 = 1000050 then 1000100 + (m a0 1) else m (m a0 0) (m a0 1)), (1, a1)] m r3 m4 := q5
      obtain ⟨e6, e7⟩ := d113 q5
      rw [e6, e7] at h
      have h : MR X ρ 2 0 0 qP162 N 33 [a0, a1] [] (g113 m (if m a0 0 = 1000050 then 1000100 + (m a0 1) else m (m a0 0) (m a0 1)) a1) (ig, rl, m') := h
      have h := CR_aload_n h rfl
      have h : MR X ρ 2 0 0 qP162 N 34 [a0, a1] [(1, a0)] (g113 m (if m a0 0 = 1000050 then 1000100 + (m a0 1) else m (m a0 0) (m a0 1)) a1) (ig, rl, m') := h
      have h := CR_aload_n h rfl
      have h : MR X ρ 2 0 0 qP162 N 35 [a0, a1] [(1, a0), (1, a0)] (g113 m (if m a0 0 = 1000050 then 1000100 + (m a0 1) else m (m a0 0) (m a0 1)) a1) (ig, rl, m') := h
      have h := CR_getf h rfl (by decide)
      have h : MR X ρ 2 0 0 qP162 N 38 [a0, a1] [(1, (g113 m (if m a0 0 = 1000050 then 1000100 + (m a0 1) else m (m a0 0) (m a0 1)) a1) a0 1), (1, a0)] (g113 m (if m a0 0 = 1000050 then 1000100 + (m a0 1) else m (m a0 0) (m a0 1)) a1) (ig, rl, m') := h
      have h := CR_iconst h rfl rfl
      have h : MR X ρ 2 0 0 qP162 N 39 [a0, a1] [(1, 1), (1, (g113 m (if m a0 0 = 1000050 then 1000100 + (m a0 1) else m (m a0 0) (m a0 1)) a1) a0 1), (1, a0)] (g113 m (if m a0 0 = 1000050 then 1000100 + (m a0 1) else m (m a0 0) (m a0 1)) a1) (ig, rl, m') := h
      have h := CR_iadd h rfl
      have h : MR X ρ 2 0 0 qP162 N 40 [a0, a1] [(1, s32 (((g113 m (if m a0 0 = 1000050 then 1000100 + (m a0 1) else m (m a0 0) (m a0 1)) a1) a0 1) + 1)), (1, a0)] (g113 m (if m a0 0 = 1000050 then 1000100 + (m a0 1) else m (m a0 0) (m a0 1)) a1) (ig, rl, m') := h
      have h := CR_aload_n h rfl
      have h : MR X ρ 2 0 0 qP162 N 41 [a0, a1] [(1, a0), (1, s32 (((g113 m (if m a0 0 = 1000050 then 1000100 + (m a0 1) else m (m a0 0) (m a0 1)) a1) a0 1) + 1)), (1, a0)] (g113 m (if m a0 0 = 1000050 then 1000100 + (m a0 1) else m (m a0 0) (m a0 1)) a1) (ig, rl, m') := h
      have h := CR_getf h rfl (by decide)
      have h : MR X ρ 2 0 0 qP162 N 44 [a0, a1] [(1, (g113 m (if m a0 0 = 1000050 then 1000100 + (m a0 1) else m (m a0 0) (m a0 1)) a1) a0 0), (1, s32 (((g113 m (if m a0 0 = 1000050 then 1000100 + (m a0 1) else m (m a0 0) (m a0 1)) a1) a0 1) + 1)), (1, a0)] (g113 m (if m a0 0 = 1000050 then 1000100 + (m a0 1) else m (m a0 0) (m a0 1)) a1) (ig, rl, m') := h
      have h := CR_alen rfl h rfl
      have h : MR X ρ 2 0 0 qP162 N 45 [a0, a1] [(1, if (g113 m (if m a0 0 = 1000050 then 1000100 + (m a0 1) else m (m a0 0) (m a0 1)) a1) a0 0 = 1000050 then 30 else s32 ((g113 m (if m a0 0 = 1000050 then 1000100 + (m a0 1) else m (m a0 0) (m a0 1)) a1) ((g113 m (if m a0 0 = 1000050 then 1000100 + (m a0 1) else m (m a0 0) (m a0 1)) a1) a0 0) (-1))), (1, s32 (((g113 m (if m a0 0 = 1000050 then 1000100 + (m a0 1) else m (m a0 0) (m a0 1)) a1) a0 1) + 1)), (1, a0)] (g113 m (if m a0 0 = 1000050 then 1000100 + (m a0 1) else m (m a0 0) (m a0 1)) a1) (ig, rl, m') := h
      rcases MR_icmp h rfl rfl with ⟨c8, h⟩ | ⟨c8, h⟩
      ·
        have c8 : (if (g113 m (if m a0 0 = 1000050 then 1000100 + (m a0 1) else m (m a0 0) (m a0 1)) a1) a0 0 = 1000050 then 30 else s32 ((g113 m (if m a0 0 = 1000050 then 1000100 + (m a0 1) else m (m a0 0) (m a0 1)) a1) ((g113 m (if m a0 0 = 1000050 then 1000100 + (m a0 1) else m (m a0 0) (m a0 1)) a1) a0 0) (-1))) ≤ (s32 (((g113 m (if m a0 0 = 1000050 then 1000100 + (m a0 1) else m (m a0 0) (m a0 1)) a1) a0 1) + 1)) := c8
        have h : MR X ρ 2 0 0 qP162 N 57 [a0, a1] [(1, a0)] (g113 m (if m a0 0 = 1000050 then 1000100 + (m a0 1) else m (m a0 0) (m a0 1)) a1) (ig, rl, m') := h
        have h := CR_iconst h rfl rfl
        have h : MR X ρ 2 0 0 qP162 N 58 [a0, a1] [(1, 0), (1, a0)] (g113 m (if m a0 0 = 1000050 then 1000100 + (m a0 1) else m (m a0 0) (m a0 1)) a1) (ig, rl, m') := h
        have h := CR_putf h rfl
        have h : MR X ρ 2 0 0 qP162 N 61 [a0, a1] [] (mu (g113 m (if m a0 0 = 1000050 then 1000100 + (m a0 1) else m (m a0 0) (m a0 1)) a1) a0 1 0) (ig, rl, m') := h
        have h := CR_aload_n h rfl
        have h : MR X ρ 2 0 0 qP162 N 62 [a0, a1] [(1, a0)] (mu (g113 m (if m a0 0 = 1000050 then 1000100 + (m a0 1) else m (m a0 0) (m a0 1)) a1) a0 1 0) (ig, rl, m') := h
        have h := CR_aload_n h rfl
        have h : MR X ρ 2 0 0 qP162 N 63 [a0, a1] [(1, a0), (1, a0)] (mu (g113 m (if m a0 0 = 1000050 then 1000100 + (m a0 1) else m (m a0 0) (m a0 1)) a1) a0 1 0) (ig, rl, m') := h
        have h := CR_getf h rfl (by decide)
        have h : MR X ρ 2 0 0 qP162 N 66 [a0, a1] [(1, (mu (g113 m (if m a0 0 = 1000050 then 1000100 + (m a0 1) else m (m a0 0) (m a0 1)) a1) a0 1 0) a0 2), (1, a0)] (mu (g113 m (if m a0 0 = 1000050 then 1000100 + (m a0 1) else m (m a0 0) (m a0 1)) a1) a0 1 0) (ig, rl, m') := h
        have h := CR_iconst h rfl rfl
        have h : MR X ρ 2 0 0 qP162 N 67 [a0, a1] [(1, 1), (1, (mu (g113 m (if m a0 0 = 1000050 then 1000100 + (m a0 1) else m (m a0 0) (m a0 1)) a1) a0 1 0) a0 2), (1, a0)] (mu (g113 m (if m a0 0 = 1000050 then 1000100 + (m a0 1) else m (m a0 0) (m a0 1)) a1) a0 1 0) (ig, rl, m') := h
        have h := CR_iadd h rfl
        have h : MR X ρ 2 0 0 qP162 N 68 [a0, a1] [(1, s32 (((mu (g113 m (if m a0 0 = 1000050 then 1000100 + (m a0 1) else m (m a0 0) (m a0 1)) a1) a0 1 0) a0 2) + 1)), (1, a0)] (mu (g113 m (if m a0 0 = 1000050 then 1000100 + (m a0 1) else m (m a0 0) (m a0 1)) a1) a0 1 0) (ig, rl, m') := h
        have h := CR_aload_n h rfl
        have h : MR X ρ 2 0 0 qP162 N 69 [a0, a1] [(1, a0), (1, s32 (((mu (g113 m (if m a0 0 = 1000050 then 1000100 + (m a0 1) else m (m a0 0) (m a0 1)) a1) a0 1 0) a0 2) + 1)), (1, a0)] (mu (g113 m (if m a0 0 = 1000050 then 1000100 + (m a0 1) else m (m a0 0) (m a0 1)) a1) a0 1 0) (ig, rl, m') := h
        have h := CR_getf h rfl (by decide)
        have h : MR X ρ 2 0 0 qP162 N 72 [a0, a1] [(1, (mu (g113 m (if m a0 0 = 1000050 then 1000100 + (m a0 1) else m (m a0 0) (m a0 1)) a1) a0 1 0) a0 0), (1, s32 (((mu (g113 m (if m a0 0 = 1000050 then 1000100 + (m a0 1) else m (m a0 0) (m a0 1)) a1) a0 1 0) a0 2) + 1)), (1, a0)] (mu (g113 m (if m a0 0 = 1000050 then 1000100 + (m a0 1) else m (m a0 0) (m a0 1)) a1) a0 1 0) (ig, rl, m') := h
        have h := CR_alen rfl h rfl
        have h : MR X ρ 2 0 0 qP162 N 73 [a0, a1] [(1, if (mu (g113 m (if m a0 0 = 1000050 then 1000100 + (m a0 1) else m (m a0 0) (m a0 1)) a1) a0 1 0) a0 0 = 1000050 then 30 else s32 ((mu (g113 m (if m a0 0 = 1000050 then 1000100 + (m a0 1) else m (m a0 0) (m a0 1)) a1) a0 1 0) ((mu (g113 m (if m a0 0 = 1000050 then 1000100 + (m a0 1) else m (m a0 0) (m a0 1)) a1) a0 1 0) a0 0) (-1))), (1, s32 (((mu (g113 m (if m a0 0 = 1000050 then 1000100 + (m a0 1) else m (m a0 0) (m a0 1)) a1) a0 1 0) a0 2) + 1)), (1, a0)] (mu (g113 m (if m a0 0 = 1000050 then 1000100 + (m a0 1) else m (m a0 0) (m a0 1)) a1) a0 1 0) (ig, rl, m') := h
        have h := MR_min h rfl rfl
        have h : MR X ρ 2 0 0 qP162 N 76 [a0, a1] [(1, jmin (s32 (((mu (g113 m (if m a0 0 = 1000050 then 1000100 + (m a0 1) else m (m a0 0) (m a0 1)) a1) a0 1 0) a0 2) + 1)) (if (mu (g113 m (if m a0 0 = 1000050 then 1000100 + (m a0 1) else m (m a0 0) (m a0 1)) a1) a0 1 0) a0 0 = 1000050 then 30 else s32 ((mu (g113 m (if m a0 0 = 1000050 then 1000100 + (m a0 1) else m (m a0 0) (m a0 1)) a1) a0 1 0) ((mu (g113 m (if m a0 0 = 1000050 then 1000100 + (m a0 1) else m (m a0 0) (m a0 1)) a1) a0 1 0) a0 0) (-1)))), (1, a0)] (mu (g113 m (if m a0 0 = 1000050 then 1000100 + (m a0 1) else m (m a0 0) (m a0 1)) a1) a0 1 0) (ig, rl, m') := h
        have h := CR_putf h rfl
        have h : MR X ρ 2 0 0 qP162 N 79 [a0, a1] [] (mu (mu (g113 m (if m a0 0 = 1000050 then 1000100 + (m a0 1) else m (m a0 0) (m a0 1)) a1) a0 1 0) a0 2 (jmin (s32 (((mu (g113 m (if m a0 0 = 1000050 then 1000100 + (m a0 1) else m (m a0 0) (m a0 1)) a1) a0 1 0) a0 2) + 1)) (if (mu (g113 m (if m a0 0 = 1000050 then 1000100 + (m a0 1) else m (m a0 0) (m a0 1)) a1) a0 1 0) a0 0 = 1000050 then 30 else s32 ((mu (g113 m (if m a0 0 = 1000050 then 1000100 + (m a0 1) else m (m a0 0) (m a0 1)) a1) a0 1 0) ((mu (g113 m (if m a0 0 = 1000050 then 1000100 + (m a0 1) else m (m a0 0) (m a0 1)) a1) a0 1 0) a0 0) (-1))))) (ig, rl, m') := h
        have e := CR_end h rfl rfl
        cases e
        exact ⟨rfl, Eq.symm (show g162 m a0 a1 = _ from (if_neg c1).trans ((if_pos c2).trans ((if_pos c8).trans (rfl))))⟩
      ·
        have c8 : ¬ ((if (g113 m (if m a0 0 = 1000050 then 1000100 + (m a0 1) else m (m a0 0) (m a0 1)) a1) a0 0 = 1000050 then 30 else s32 ((g113 m (if m a0 0 = 1000050 then 1000100 + (m a0 1) else m (m a0 0) (m a0 1)) a1) ((g113 m (if m a0 0 = 1000050 then 1000100 + (m a0 1) else m (m a0 0) (m a0 1)) a1) a0 0) (-1))) ≤ (s32 (((g113 m (if m a0 0 = 1000050 then 1000100 + (m a0 1) else m (m a0 0) (m a0 1)) a1) a0 1) + 1))) := c8
        have h : MR X ρ 2 0 0 qP162 N 48 [a0, a1] [(1, a0)] (g113 m (if m a0 0 = 1000050 then 1000100 + (m a0 1) else m (m a0 0) (m a0 1)) a1) (ig, rl, m') := h
        have h := CR_aload_n h rfl
        have h : MR X ρ 2 0 0 qP162 N 49 [a0, a1] [(1, a0), (1, a0)] (g113 m (if m a0 0 = 1000050 then 1000100 + (m a0 1) else m (m a0 0) (m a0 1)) a1) (ig, rl, m') := h
        have h := CR_getf h rfl (by decide)
        have h : MR X ρ 2 0 0 qP162 N 52 [a0, a1] [(1, (g113 m (if m a0 0 = 1000050 then 1000100 + (m a0 1) else m (m a0 0) (m a0 1)) a1) a0 1), (1, a0)] (g113 m (if m a0 0 = 1000050 then 1000100 + (m a0 1) else m (m a0 0) (m a0 1)) a1) (ig, rl, m') := h
        have h := CR_iconst h rfl rfl
        have h : MR X ρ 2 0 0 qP162 N 53 [a0, a1] [(1, 1), (1, (g113 m (if m a0 0 = 1000050 then 1000100 + (m a0 1) else m (m a0 0) (m a0 1)) a1) a0 1), (1, a0)] (g113 m (if m a0 0 = 1000050 then 1000100 + (m a0 1) else m (m a0 0) (m a0 1)) a1) (ig, rl, m') := h
        have h := CR_iadd h rfl
        have h : MR X ρ 2 0 0 qP162 N 54 [a0, a1] [(1, s32 (((g113 m (if m a0 0 = 1000050 then 1000100 + (m a0 1) else m (m a0 0) (m a0 1)) a1) a0 1) + 1)), (1, a0)] (g113 m (if m a0 0 = 1000050 then 1000100 + (m a0 1) else m (m a0 0) (m a0 1)) a1) (ig, rl, m') := h
        have h := CR_go h rfl rfl
        have h : MR X ρ 2 0 0 qP162 N 58 [a0, a1] [(1, s32 (((g113 m (if m a0 0 = 1000050 then 1000100 + (m a0 1) else m (m a0 0) (m a0 1)) a1) a0 1) + 1)), (1, a0)] (g113 m (if m a0 0 = 1000050 then 1000100 + (m a0 1) else m (m a0 0) (m a0 1)) a1) (ig, rl, m') := h
        have h := CR_putf h rfl
        have h : MR X ρ 2 0 0 qP162 N 61 [a0, a1] [] (mu (g113 m (if m a0 0 = 1000050 then 1000100 + (m a0 1) else m (m a0 0) (m a0 1)) a1) a0 1 (s32 (((g113 m (if m a0 0 = 1000050 then 1000100 + (m a0 1) else m (m a0 0) (m a0 1)) a1) a0 1) + 1))) (ig, rl, m') := h
        have h := CR_aload_n h rfl
        have h : MR X ρ 2 0 0 qP162 N 62 [a0, a1] [(1, a0)] (mu (g113 m (if m a0 0 = 1000050 then 1000100 + (m a0 1) else m (m a0 0) (m a0 1)) a1) a0 1 (s32 (((g113 m (if m a0 0 = 1000050 then 1000100 + (m a0 1) else m (m a0 0) (m a0 1)) a1) a0 1) + 1))) (ig, rl, m') := h
        have h := CR_aload_n h rfl
        have h : MR X ρ 2 0 0 qP162 N 63 [a0, a1] [(1, a0), (1, a0)] (mu (g113 m (if m a0 0 = 1000050 then 1000100 + (m a0 1) else m (m a0 0) (m a0 1)) a1) a0 1 (s32 (((g113 m (if m a0 0 = 1000050 then 1000100 + (m a0 1) else m (m a0 0) (m a0 1)) a1) a0 1) + 1))) (ig, rl, m') := h
        have h := CR_getf h rfl (by decide)
        have h : MR X ρ 2 0 0 qP162 N 66 [a0, a1] [(1, (mu (g113 m (if m a0 0 = 1000050 then 1000100 + (m a0 1) else m (m a0 0) (m a0 1)) a1) a0 1 (s32 (((g113 m (if m a0 0 = 1000050 then 1000100 + (m a0 1) else m (m a0 0) (m a0 1)) a1) a0 1) + 1))) a0 2), (1, a0)] (mu (g113 m (if m a0 0 = 1000050 then 1000100 + (m a0 1) else m (m a0 0) (m a0 1)) a1) a0 1 (s32 (((g113 m (if m a0 0 = 1000050 then 1000100 + (m a0 1) else m (m a0 0) (m a0 1)) a1) a0 1) + 1))) (ig, rl, m') := h
        have h := CR_iconst h rfl rfl
        have h : MR X ρ 2 0 0 qP162 N 67 [a0, a1] [(1, 1), (1, (mu (g113 m (if m a0 0 = 1000050 then 1000100 + (m a0 1) else m (m a0 0) (m a0 1)) a1) a0 1 (s32 (((g113 m (if m a0 0 = 1000050 then 1000100 + (m a0 1) else m (m a0 0) (m a0 1)) a1) a0 1) + 1))) a0 2), (1, a0)] (mu (g113 m (if m a0 0 = 1000050 then 1000100 + (m a0 1) else m (m a0 0) (m a0 1)) a1) a0 1 (s32 (((g113 m (if m a0 0 = 1000050 then 1000100 + (m a0 1) else m (m a0 0) (m a0 1)) a1) a0 1) + 1))) (ig, rl, m') := h
        have h := CR_iadd h rfl
        have h : MR X ρ 2 0 0 qP162 N 68 [a0, a1] [(1, s32 (((mu (g113 m (if m a0 0 = 1000050 then 1000100 + (m a0 1) else m (m a0 0) (m a0 1)) a1) a0 1 (s32 (((g113 m (if m a0 0 = 1000050 then 1000100 + (m a0 1) else m (m a0 0) (m a0 1)) a1) a0 1) + 1))) a0 2) + 1)), (1, a0)] (mu (g113 m (if m a0 0 = 1000050 then 1000100 + (m a0 1) else m (m a0 0) (m a0 1)) a1) a0 1 (s32 (((g113 m (if m a0 0 = 1000050 then 1000100 + (m a0 1) else m (m a0 0) (m a0 1)) a1) a0 1) + 1))) (ig, rl, m') := h
        have h := CR_aload_n h rfl
        have h : MR X ρ 2 0 0 qP162 N 69 [a0, a1] [(1, a0), (1, s32 (((mu (g113 m (if m a0 0 = 1000050 then 1000100 + (m a0 1) else m (m a0 0) (m a0 1)) a1) a0 1 (s32 (((g113 m (if m a0 0 = 1000050 then 1000100 + (m a0 1) else m (m a0 0) (m a0 1)) a1) a0 1) + 1))) a0 2) + 1)), (1, a0)] (mu (g113 m (if m a0 0 = 1000050 then 1000100 + (m a0 1) else m (m a0 0) (m a0 1)) a1) a0 1 (s32 (((g113 m (if m a0 0 = 1000050 then 1000100 + (m a0 1) else m (m a0 0) (m a0 1)) a1) a0 1) + 1))) (ig, rl, m') := h
        have h := CR_getf h rfl (by decide)
        have h : MR X ρ 2 0 0 qP162 N 72 [a0, a1] [(1, (mu (g113 m (if m a0 0 = 1000050 then 1000100 + (m a0 1) else m (m a0 0) (m a0 1)) a1) a0 1 (s32 (((g113 m (if m a0 0 = 1000050 then 1000100 + (m a0 1) else m (m a0 0) (m a0 1)) a1) a0 1) + 1))) a0 0), (1, s32 (((mu (g113 m (if m a0 0 = 1000050 then 1000100 + (m a0 1) else m (m a0 0) (m a0 1)) a1) a0 1 (s32 (((g113 m (if m a0 0 = 1000050 then 1000100 + (m a0 1) else m (m a0 0) (m a0 1)) a1) a0 1) + 1))) a0 2) + 1)), (1, a0)] (mu (g113 m (if m a0 0 = 1000050 then 1000100 + (m a0 1) else m (m a0 0) (m a0 1)) a1) a0 1 (s32 (((g113 m (if m a0 0 = 1000050 then 1000100 + (m a0 1) else m (m a0 0) (m a0 1)) a1) a0 1) + 1))) (ig, rl, m') := h
        have h := CR_alen rfl h rfl
        have h : MR X ρ 2 0 0 qP162 N 73 [a0, a1] [(1, if (mu (g113 m (if m a0 0 = 1000050 then 1000100 + (m a0 1) else m (m a0 0) (m a0 1)) a1) a0 1 (s32 (((g113 m (if m a0 0 = 1000050 then 1000100 + (m a0 1) else m (m a0 0) (m a0 1)) a1) a0 1) + 1))) a0 0 = 1000050 then 30 else s32 ((mu (g113 m (if m a0 0 = 1000050 then 1000100 + (m a0 1) else m (m a0 0) (m a0 1)) a1) a0 1 (s32 (((g113 m (if m a0 0 = 1000050 then 1000100 + (m a0 1) else m (m a0 0) (m a0 1)) a1) a0 1) + 1))) ((mu (g113 m (if m a0 0 = 1000050 then 1000100 + (m a0 1) else m (m a0 0) (m a0 1)) a1) a0 1 (s32 (((g113 m (if m a0 0 = 1000050 then 1000100 + (m a0 1) else m (m a0 0) (m a0 1)) a1) a0 1) + 1))) a0 0) (-1))), (1, s32 (((mu (g113 m (if m a0 0 = 1000050 then 1000100 + (m a0 1) else m (m a0 0) (m a0 1)) a1) a0 1 (s32 (((g113 m (if m a0 0 = 1000050 then 1000100 + (m a0 1) else m (m a0 0) (m a0 1)) a1) a0 1) + 1))) a0 2) + 1)), (1, a0)] (mu (g113 m (if m a0 0 = 1000050 then 1000100 + (m a0 1) else m (m a0 0) (m a0 1)) a1) a0 1 (s32 (((g113 m (if m a0 0 = 1000050 then 1000100 + (m a0 1) else m (m a0 0) (m a0 1)) a1) a0 1) + 1))) (ig, rl, m') := h
        have h := MR_min h rfl rfl
        have h : MR X ρ 2 0 0 qP162 N 76 [a0, a1] [(1, jmin (s32 (((mu (g113 m (if m a0 0 = 1000050 then 1000100 + (m a0 1) else m (m a0 0) (m a0 1)) a1) a0 1 (s32 (((g113 m (if m a0 0 = 1000050 then 1000100 + (m a0 1) else m (m a0 0) (m a0 1)) a1) a0 1) + 1))) a0 2) + 1)) (if (mu (g113 m (if m a0 0 = 1000050 then 1000100 + (m a0 1) else m (m a0 0) (m a0 1)) a1) a0 1 (s32 (((g113 m (if m a0 0 = 1000050 then 1000100 + (m a0 1) else m (m a0 0) (m a0 1)) a1) a0 1) + 1))) a0 0 = 1000050 then 30 else s32 ((mu (g113 m (if m a0 0 = 1000050 then 1000100 + (m a0 1) else m (m a0 0) (m a0 1)) a1) a0 1 (s32 (((g113 m (if m a0 0 = 1000050 then 1000100 + (m a0 1) else m (m a0 0) (m a0 1)) a1) a0 1) + 1))) ((mu (g113 m (if m a0 0 = 1000050 then 1000100 + (m a0 1) else m (m a0 0) (m a0 1)) a1) a0 1 (s32 (((g113 m (if m a0 0 = 1000050 then 1000100 + (m a0 1) else m (m a0 0) (m a0 1)) a1) a0 1) + 1))) a0 0) (-1)))), (1, a0)] (mu (g113 m (if m a0 0 = 1000050 then 1000100 + (m a0 1) else m (m a0 0) (m a0 1)) a1) a0 1 (s32 (((g113 m (if m a0 0 = 1000050 then 1000100 + (m a0 1) else m (m a0 0) (m a0 1)) a1) a0 1) + 1))) (ig, rl, m') := h
        have h := CR_putf h rfl
        have h : MR X ρ 2 0 0 qP162 N 79 [a0, a1] [] (mu (mu (g113 m (if m a0 0 = 1000050 then 1000100 + (m a0 1) else m (m a0 0) (m a0 1)) a1) a0 1 (s32 (((g113 m (if m a0 0 = 1000050 then 1000100 + (m a0 1) else m (m a0 0) (m a0 1)) a1) a0 1) + 1))) a0 2 (jmin (s32 (((mu (g113 m (if m a0 0 = 1000050 then 1000100 + (m a0 1) else m (m a0 0) (m a0 1)) a1) a0 1 (s32 (((g113 m (if m a0 0 = 1000050 then 1000100 + (m a0 1) else m (m a0 0) (m a0 1)) a1) a0 1) + 1))) a0 2) + 1)) (if (mu (g113 m (if m a0 0 = 1000050 then 1000100 + (m a0 1) else m (m a0 0) (m a0 1)) a1) a0 1 (s32 (((g113 m (if m a0 0 = 1000050 then 1000100 + (m a0 1) else m (m a0 0) (m a0 1)) a1) a0 1) + 1))) a0 0 = 1000050 then 30 else s32 ((mu (g113 m (if m a0 0 = 1000050 then 1000100 + (m a0 1) else m (m a0 0) (m a0 1)) a1) a0 1 (s32 (((g113 m (if m a0 0 = 1000050 then 1000100 + (m a0 1) else m (m a0 0) (m a0 1)) a1) a0 1) + 1))) ((mu (g113 m (if m a0 0 = 1000050 then 1000100 + (m a0 1) else m (m a0 0) (m a0 1)) a1) a0 1 (s32 (((g113 m (if m a0 0 = 1000050 then 1000100 + (m a0 1) else m (m a0 0) (m a0 1)) a1) a0 1) + 1))) a0 0) (-1))))) (ig, rl, m') := h
        have e := CR_end h rfl rfl
        cases e
        exact ⟨rfl, Eq.symm (show g162 m a0 a1 = _ from (if_neg c1).trans ((if_pos c2).trans ((if_neg c8).trans (rfl))))⟩
    ·
      have c2 : ¬ ((m a0 1) < (if m a0 0 = 1000050 then 30 else s32 (m (m a0 0) (-1)))) := c2
      have h : MR X ρ 2 0 0 qP162 N 19 [a0, a1] [] m (ig, rl, m') := h
      have e := CR_end h rfl rfl
      cases e
      exact ⟨rfl, Eq.symm (show g162 m a0 a1 = _ from (if_neg c1).trans ((if_neg c2).trans (rfl)))⟩
set_option maxRecDepth 16384 in
/-- TriplicateForms$Adviser.coversAll(II)Z, the loop at 2 -/
noncomputable def S40_2 (m : MM) (b0 b1 b2 b3 : Int) : (Int) ⊕ (Nat × Int × (Int)) := (if 8 ≤ b3 then .inr (1, 0, b3) else (if (jand b2 (jshl 1 b3)) = 0 then .inl (s32 (b3 + 1)) else (if (jand (m (m b0 0) b3) b1) = 0 then .inr (2, 0, b3) else .inl (s32 (b3 + 1)))))
set_option maxRecDepth 16384 in
noncomputable def K40_2 (m : MM) (b0 b1 b2 b3 : Int) : (Int) → (Int) ⊕ (Nat × Int × (Int)) := fun s => S40_2 m b0 b1 b2 s
set_option maxRecDepth 16384 in
noncomputable def L40_2 (m : MM) (b0 b1 b2 b3 : Int) : (Nat × Int × (Int)) := Lp (K40_2 m b0 b1 b2 b3) b3
set_option maxRecDepth 16384 in
theorem l40_2 {X : KO} {ρ : Nat → Int32} {o : Instr × List (Nat × Int) × MM} {K : Nat} : ∀ {N : Nat} {m : MM} {b0 b1 b2 b3 : Int}, N ≤ K → MR X ρ 4 0 0 qP40 N 2 [b0, b1, b2, b3] [] m o → (((L40_2 m b0 b1 b2 b3).1 = 1 ∧ (MR X ρ 4 0 0 qP40 K 35 [b0, b1, b2, (L40_2 m b0 b1 b2 b3).2.2] [] m o)) ∨ (¬ ((L40_2 m b0 b1 b2 b3).1 = 1) ∧ (o = (.ireturn, [(1, (L40_2 m b0 b1 b2 b3).2.1)], m)))) := by
  intro N
  induction N using Nat.strongRecOn with
  | ind N ih =>
  intro m b0 b1 b2 b3 hK h
  have h := CR_iload_n h rfl
  have h : MR X ρ 4 0 0 qP40 N 3 [b0, b1, b2, b3] [(1, b3)] m o := h
  have h := CR_bipush h rfl rfl
  have h : MR X ρ 4 0 0 qP40 N 5 [b0, b1, b2, b3] [(1, 8), (1, b3)] m o := h
  rcases MR_icmp h rfl rfl with ⟨c1, h⟩ | ⟨c1, h⟩
  ·
    have c1 : 8 ≤ b3 := c1
    have h : MR X ρ 4 0 0 qP40 N 35 [b0, b1, b2, b3] [] m o := h
    have hr : L40_2 m b0 b1 b2 b3 = (1, 0, b3) := Lp_inr (f := K40_2 m b0 b1 b2 b3) (s := b3) ((if_pos c1).trans (rfl))
    rw [hr]
    exact Or.inl ⟨rfl, CR_le (by omega) h⟩
  ·
    have c1 : ¬ (8 ≤ b3) := c1
    have h : MR X ρ 4 0 0 qP40 N 8 [b0, b1, b2, b3] [] m o := h
    have h := CR_iload_n h rfl
    have h : MR X ρ 4 0 0 qP40 N 9 [b0, b1, b2, b3] [(1, b2)] m o := h
    have h := CR_iconst h rfl rfl
    have h : MR X ρ 4 0 0 qP40 N 10 [b0, b1, b2, b3] [(1, 1), (1, b2)] m o := h
    have h := CR_iload_n h rfl
    have h : MR X ρ 4 0 0 qP40 N 11 [b0, b1, b2, b3] [(1, b3), (1, 1), (1, b2)] m o := h
    have h := CR_ishl h rfl
    have h : MR X ρ 4 0 0 qP40 N 12 [b0, b1, b2, b3] [(1, jshl 1 b3), (1, b2)] m o := h
    have h := CR_iand h rfl
    have h : MR X ρ 4 0 0 qP40 N 13 [b0, b1, b2, b3] [(1, jand b2 (jshl 1 b3))] m o := h
    rcases MR_if h rfl rfl with ⟨c2, h⟩ | ⟨c2, h⟩
    ·
      have c2 : (jand b2 (jshl 1 b3)) = 0 := c2
      have h : MR X ρ 4 0 0 qP40 N 29 [b0, b1, b2, b3] [] m o := h
      have h := CR_inc h rfl (Nat.le_of_ble_eq_true rfl)
      have h : MR X ρ 4 0 0 qP40 N 32 [b0, b1, b2, s32 (b3 + 1)] [] m o := h
      obtain ⟨N3, eN3, h⟩ := CR_goto h rfl rfl
      have h : MR X ρ 4 0 0 qP40 N3 2 [b0, b1, b2, s32 (b3 + 1)] [] m o := h
      have hr : L40_2 m b0 b1 b2 b3 = L40_2 m b0 b1 b2 (s32 (b3 + 1)) := Lp_inl (f := K40_2 m b0 b1 b2 b3) (s := b3) (s' := s32 (b3 + 1)) ((if_neg c1).trans ((if_pos c2).trans (rfl)))
      rw [hr]
      exact ih N3 (by omega) (by omega) h
    ·
      have c2 : ¬ ((jand b2 (jshl 1 b3)) = 0) := c2
      have h : MR X ρ 4 0 0 qP40 N 16 [b0, b1, b2, b3] [] m o := h
      have h := CR_aload_n h rfl
      have h : MR X ρ 4 0 0 qP40 N 17 [b0, b1, b2, b3] [(1, b0)] m o := h
      have h := CR_getf h rfl (by decide)
      have h : MR X ρ 4 0 0 qP40 N 20 [b0, b1, b2, b3] [(1, m b0 0)] m o := h
      have h := CR_iload_n h rfl
      have h : MR X ρ 4 0 0 qP40 N 21 [b0, b1, b2, b3] [(1, b3), (1, m b0 0)] m o := h
      have h := CR_iaload h rfl rfl
      have h : MR X ρ 4 0 0 qP40 N 22 [b0, b1, b2, b3] [(1, m (m b0 0) b3)] m o := h
      have h := CR_iload_n h rfl
      have h : MR X ρ 4 0 0 qP40 N 23 [b0, b1, b2, b3] [(1, b1), (1, m (m b0 0) b3)] m o := h
      have h := CR_iand h rfl
      have h : MR X ρ 4 0 0 qP40 N 24 [b0, b1, b2, b3] [(1, jand (m (m b0 0) b3) b1)] m o := h
      rcases MR_if h rfl rfl with ⟨c4, h⟩ | ⟨c4, h⟩
      ·
        have c4 : ¬ ((jand (m (m b0 0) b3) b1) = 0) := c4
        have h : MR X ρ 4 0 0 qP40 N 29 [b0, b1, b2, b3] [] m o := h
        have h := CR_inc h rfl (Nat.le_of_ble_eq_true rfl)
        have h : MR X ρ 4 0 0 qP40 N 32 [b0, b1, b2, s32 (b3 + 1)] [] m o := h
        obtain ⟨N5, eN5, h⟩ := CR_goto h rfl rfl
        have h : MR X ρ 4 0 0 qP40 N5 2 [b0, b1, b2, s32 (b3 + 1)] [] m o := h
        have hr : L40_2 m b0 b1 b2 b3 = L40_2 m b0 b1 b2 (s32 (b3 + 1)) := Lp_inl (f := K40_2 m b0 b1 b2 b3) (s := b3) (s' := s32 (b3 + 1)) ((if_neg c1).trans ((if_neg c2).trans ((if_neg c4).trans (rfl))))
        rw [hr]
        exact ih N5 (by omega) (by omega) h
      ·
        have c4 : (jand (m (m b0 0) b3) b1) = 0 := Decidable.of_not_not (show ¬ ¬ ((jand (m (m b0 0) b3) b1) = 0) from c4)
        have h : MR X ρ 4 0 0 qP40 N 27 [b0, b1, b2, b3] [] m o := h
        have h := CR_iconst h rfl rfl
        have h : MR X ρ 4 0 0 qP40 N 28 [b0, b1, b2, b3] [(1, 0)] m o := h
        have e := CR_end h rfl rfl
        have hr : L40_2 m b0 b1 b2 b3 = (2, 0, b3) := Lp_inr (f := K40_2 m b0 b1 b2 b3) (s := b3) ((if_neg c1).trans ((if_neg c2).trans ((if_pos c4).trans (rfl))))
        rw [hr]
        refine Or.inr ⟨(show ¬ ((2 : Nat) = 1) by decide), ?_⟩
        exact e
set_option maxRecDepth 16384 in
/-- TriplicateForms$Adviser.coversAll(II)Z -/
noncomputable def f40 (m : MM) (a0 a1 a2 : Int) : Int := (if (L40_2 m a0 a1 a2 0).1 = 1 then 1 else (L40_2 m a0 a1 a2 0).2.1)
set_option maxRecDepth 16384 in
theorem d40 {X : KO} {ρ : Nat → Int32} {m m' : MM} {rl : List (Nat × Int)} {a0 a1 a2 : Int} (h : Run X ρ 40 [(1, a0), (1, a1), (1, a2)] m rl m') : rl = [(1, f40 m a0 a1 a2)] ∧ m' = m := by
  obtain ⟨N, ig, h⟩ := Run_CR h rfl
  have h : MR X ρ 4 0 0 qP40 N 0 [a0, a1, a2, 0] [] m (ig, rl, m') := h
  have h := CR_iconst h rfl rfl
  have h : MR X ρ 4 0 0 qP40 N 1 [a0, a1, a2, 0] [(1, 0)] m (ig, rl, m') := h
  have h := CR_istore_n h rfl (Nat.le_of_ble_eq_true rfl)
  have h : MR X ρ 4 0 0 qP40 N 2 [a0, a1, a2, 0] [] m (ig, rl, m') := h
  have h := l40_2 (Nat.le_refl _) h
  rcases h with ⟨x1, h⟩ | ⟨x1, h⟩
  ·
    have x1 : (L40_2 m a0 a1 a2 0).1 = 1 := x1
    have h : MR X ρ 4 0 0 qP40 N 35 [a0, a1, a2, (L40_2 m a0 a1 a2 0).2.2] [] m (ig, rl, m') := h
    have h := CR_iconst h rfl rfl
    have h : MR X ρ 4 0 0 qP40 N 36 [a0, a1, a2, (L40_2 m a0 a1 a2 0).2.2] [(1, 1)] m (ig, rl, m') := h
    have e := CR_end h rfl rfl
    cases e
    exact ⟨congrArg (fun z => [(1, z)]) (Eq.symm (show f40 m a0 a1 a2 = _ from (if_pos x1).trans (rfl))), rfl⟩
  ·
    have x1 : ¬ ((L40_2 m a0 a1 a2 0).1 = 1) := x1
    have e := CR_end_id h
    cases e
    exact ⟨congrArg (fun z => [(1, z)]) (Eq.symm (show f40 m a0 a1 a2 = _ from (if_neg x1).trans (rfl))), rfl⟩
set_option maxRecDepth 16384 in
/-- TriplicateForms$Standing.angriestAt(I)I, the loop at 17 -/
noncomputable def S110_17 (m : MM) (b0 b1 b2 b3 b4 b5 b6 : Int) : (Int × Int × Int × Int) ⊕ (Nat × Int × (Int × Int × Int × Int)) := (if (m (m b0 0) 6) ≤ b5 then .inr (1, 0, (b3, b4, b5, b6)) else (if b5 = b2 then .inl (b3, b4, s32 (b5 + 1), f124 m b0 b5 b2) else (if (f124 m b0 b5 b2) ≤ b4 then .inl (b3, b4, s32 (b5 + 1), f124 m b0 b5 b2) else .inl (b5, f124 m b0 b5 b2, s32 (b5 + 1), f124 m b0 b5 b2))))
set_option maxRecDepth 16384 in
noncomputable def K110_17 (m : MM) (b0 b1 b2 b3 b4 b5 b6 : Int) : (Int × Int × Int × Int) → (Int × Int × Int × Int) ⊕ (Nat × Int × (Int × Int × Int × Int)) := fun s => S110_17 m b0 b1 b2 s.1 s.2.1 s.2.2.1 s.2.2.2
set_option maxRecDepth 16384 in
noncomputable def L110_17 (m : MM) (b0 b1 b2 b3 b4 b5 b6 : Int) : (Nat × Int × (Int × Int × Int × Int)) := Lp (K110_17 m b0 b1 b2 b3 b4 b5 b6) (b3, b4, b5, b6)
set_option maxRecDepth 16384 in
theorem l110_17 {X : KO} {ρ : Nat → Int32} {o : Instr × List (Nat × Int) × MM} {K : Nat} : ∀ {N : Nat} {m : MM} {b0 b1 b2 b3 b4 b5 b6 : Int}, N ≤ K → MR X ρ 7 0 0 qP110 N 17 [b0, b1, b2, b3, b4, b5, b6] [] m o → (MR X ρ 7 0 0 qP110 K 64 [b0, b1, b2, (L110_17 m b0 b1 b2 b3 b4 b5 b6).2.2.1, (L110_17 m b0 b1 b2 b3 b4 b5 b6).2.2.2.1, (L110_17 m b0 b1 b2 b3 b4 b5 b6).2.2.2.2.1, (L110_17 m b0 b1 b2 b3 b4 b5 b6).2.2.2.2.2] [] m o) := by
  intro N
  induction N using Nat.strongRecOn with
  | ind N ih =>
  intro m b0 b1 b2 b3 b4 b5 b6 hK h
  have h := CR_iload h rfl
  have h : MR X ρ 7 0 0 qP110 N 19 [b0, b1, b2, b3, b4, b5, b6] [(1, b5)] m o := h
  have h := CR_aload_n h rfl
  have h : MR X ρ 7 0 0 qP110 N 20 [b0, b1, b2, b3, b4, b5, b6] [(1, b0), (1, b5)] m o := h
  have h := CR_getf h rfl (by decide)
  have h : MR X ρ 7 0 0 qP110 N 23 [b0, b1, b2, b3, b4, b5, b6] [(1, m b0 0), (1, b5)] m o := h
  have h := CR_getf h rfl (by decide)
  have h : MR X ρ 7 0 0 qP110 N 26 [b0, b1, b2, b3, b4, b5, b6] [(1, m (m b0 0) 6), (1, b5)] m o := h
  rcases MR_icmp h rfl rfl with ⟨c1, h⟩ | ⟨c1, h⟩
  ·
    have c1 : (m (m b0 0) 6) ≤ b5 := c1
    have h : MR X ρ 7 0 0 qP110 N 64 [b0, b1, b2, b3, b4, b5, b6] [] m o := h
    have hr : L110_17 m b0 b1 b2 b3 b4 b5 b6 = (1, 0, (b3, b4, b5, b6)) := Lp_inr (f := K110_17 m b0 b1 b2 b3 b4 b5 b6) (s := (b3, b4, b5, b6)) ((if_pos c1).trans (rfl))
    rw [hr]
    exact CR_le (by omega) h
  ·
    have c1 : ¬ ((m (m b0 0) 6) ≤ b5) := c1
    have h : MR X ρ 7 0 0 qP110 N 29 [b0, b1, b2, b3, b4, b5, b6] [] m o := h
    have h := CR_aload_n h rfl
    have h : MR X ρ 7 0 0 qP110 N 30 [b0, b1, b2, b3, b4, b5, b6] [(1, b0)] m o := h
    have h := CR_iload h rfl
    have h : MR X ρ 7 0 0 qP110 N 32 [b0, b1, b2, b3, b4, b5, b6] [(1, b5), (1, b0)] m o := h
    have h := CR_iload_n h rfl
    have h : MR X ρ 7 0 0 qP110 N 33 [b0, b1, b2, b3, b4, b5, b6] [(1, b2), (1, b5), (1, b0)] m o := h
    obtain ⟨r2, m3, q4, h⟩ := MR_invV h rfl rfl
    have q4 : Run X ρ 124 [(1, b0), (1, b5), (1, b2)] m r2 m3 := q4
    obtain ⟨e5, e6⟩ := d124 q4
    rw [e5, e6] at h
    have h : MR X ρ 7 0 0 qP110 N 36 [b0, b1, b2, b3, b4, b5, b6] [(1, f124 m b0 b5 b2)] m o := h
    have h := CR_istore h rfl (Nat.le_of_ble_eq_true rfl)
    have h : MR X ρ 7 0 0 qP110 N 38 [b0, b1, b2, b3, b4, b5, f124 m b0 b5 b2] [] m o := h
    have h := CR_iload h rfl
    have h : MR X ρ 7 0 0 qP110 N 40 [b0, b1, b2, b3, b4, b5, f124 m b0 b5 b2] [(1, b5)] m o := h
    have h := CR_iload_n h rfl
    have h : MR X ρ 7 0 0 qP110 N 41 [b0, b1, b2, b3, b4, b5, f124 m b0 b5 b2] [(1, b2), (1, b5)] m o := h
    rcases MR_icmp h rfl rfl with ⟨c7, h⟩ | ⟨c7, h⟩
    ·
      have c7 : b5 = b2 := c7
      have h : MR X ρ 7 0 0 qP110 N 58 [b0, b1, b2, b3, b4, b5, f124 m b0 b5 b2] [] m o := h
      have h := CR_inc h rfl (Nat.le_of_ble_eq_true rfl)
      have h : MR X ρ 7 0 0 qP110 N 61 [b0, b1, b2, b3, b4, s32 (b5 + 1), f124 m b0 b5 b2] [] m o := h
      obtain ⟨N8, eN8, h⟩ := CR_goto h rfl rfl
      have h : MR X ρ 7 0 0 qP110 N8 17 [b0, b1, b2, b3, b4, s32 (b5 + 1), f124 m b0 b5 b2] [] m o := h
      have hr : L110_17 m b0 b1 b2 b3 b4 b5 b6 = L110_17 m b0 b1 b2 b3 b4 (s32 (b5 + 1)) (f124 m b0 b5 b2) := Lp_inl (f := K110_17 m b0 b1 b2 b3 b4 b5 b6) (s := (b3, b4, b5, b6)) (s' := (b3, b4, s32 (b5 + 1), f124 m b0 b5 b2)) ((if_neg c1).trans ((if_pos c7).trans (rfl)))
      rw [hr]
      exact ih N8 (by omega) (by omega) h
    ·
      have c7 : ¬ (b5 = b2) := c7
      have h : MR X ρ 7 0 0 qP110 N 44 [b0, b1, b2, b3, b4, b5, f124 m b0 b5 b2] [] m o := h
      have h := CR_iload h rfl
      have h : MR X ρ 7 0 0 qP110 N 46 [b0, b1, b2, b3, b4, b5, f124 m b0 b5 b2] [(1, f124 m b0 b5 b2)] m o := h
      have h := CR_iload h rfl
      have h : MR X ρ 7 0 0 qP110 N 48 [b0, b1, b2, b3, b4, b5, f124 m b0 b5 b2] [(1, b4), (1, f124 m b0 b5 b2)] m o := h
      rcases MR_icmp h rfl rfl with ⟨c9, h⟩ | ⟨c9, h⟩
      ·
        have c9 : (f124 m b0 b5 b2) ≤ b4 := c9
        have h : MR X ρ 7 0 0 qP110 N 58 [b0, b1, b2, b3, b4, b5, f124 m b0 b5 b2] [] m o := h
        have h := CR_inc h rfl (Nat.le_of_ble_eq_true rfl)
        have h : MR X ρ 7 0 0 qP110 N 61 [b0, b1, b2, b3, b4, s32 (b5 + 1), f124 m b0 b5 b2] [] m o := h
        obtain ⟨N10, eN10, h⟩ := CR_goto h rfl rfl
        have h : MR X ρ 7 0 0 qP110 N10 17 [b0, b1, b2, b3, b4, s32 (b5 + 1), f124 m b0 b5 b2] [] m o := h
        have hr : L110_17 m b0 b1 b2 b3 b4 b5 b6 = L110_17 m b0 b1 b2 b3 b4 (s32 (b5 + 1)) (f124 m b0 b5 b2) := Lp_inl (f := K110_17 m b0 b1 b2 b3 b4 b5 b6) (s := (b3, b4, b5, b6)) (s' := (b3, b4, s32 (b5 + 1), f124 m b0 b5 b2)) ((if_neg c1).trans ((if_neg c7).trans ((if_pos c9).trans (rfl))))
        rw [hr]
        exact ih N10 (by omega) (by omega) h
      ·
        have c9 : ¬ ((f124 m b0 b5 b2) ≤ b4) := c9
        have h : MR X ρ 7 0 0 qP110 N 51 [b0, b1, b2, b3, b4, b5, f124 m b0 b5 b2] [] m o := h
        have h := CR_iload h rfl
        have h : MR X ρ 7 0 0 qP110 N 53 [b0, b1, b2, b3, b4, b5, f124 m b0 b5 b2] [(1, f124 m b0 b5 b2)] m o := h
        have h := CR_istore h rfl (Nat.le_of_ble_eq_true rfl)
        have h : MR X ρ 7 0 0 qP110 N 55 [b0, b1, b2, b3, f124 m b0 b5 b2, b5, f124 m b0 b5 b2] [] m o := h
        have h := CR_iload h rfl
        have h : MR X ρ 7 0 0 qP110 N 57 [b0, b1, b2, b3, f124 m b0 b5 b2, b5, f124 m b0 b5 b2] [(1, b5)] m o := h
        have h := CR_istore_n h rfl (Nat.le_of_ble_eq_true rfl)
        have h : MR X ρ 7 0 0 qP110 N 58 [b0, b1, b2, b5, f124 m b0 b5 b2, b5, f124 m b0 b5 b2] [] m o := h
        have h := CR_inc h rfl (Nat.le_of_ble_eq_true rfl)
        have h : MR X ρ 7 0 0 qP110 N 61 [b0, b1, b2, b5, f124 m b0 b5 b2, s32 (b5 + 1), f124 m b0 b5 b2] [] m o := h
        obtain ⟨N11, eN11, h⟩ := CR_goto h rfl rfl
        have h : MR X ρ 7 0 0 qP110 N11 17 [b0, b1, b2, b5, f124 m b0 b5 b2, s32 (b5 + 1), f124 m b0 b5 b2] [] m o := h
        have hr : L110_17 m b0 b1 b2 b3 b4 b5 b6 = L110_17 m b0 b1 b2 b5 (f124 m b0 b5 b2) (s32 (b5 + 1)) (f124 m b0 b5 b2) := Lp_inl (f := K110_17 m b0 b1 b2 b3 b4 b5 b6) (s := (b3, b4, b5, b6)) (s' := (b5, f124 m b0 b5 b2, s32 (b5 + 1), f124 m b0 b5 b2)) ((if_neg c1).trans ((if_neg c7).trans ((if_neg c9).trans (rfl))))
        rw [hr]
        exact ih N11 (by omega) (by omega) h
set_option maxRecDepth 16384 in
/-- TriplicateForms$Standing.angriestAt(I)I -/
noncomputable def f110 (m : MM) (a0 a1 : Int) : Int := (L110_17 m a0 a1 (f66 m (m a0 0) a1) (-1) 0 0 0).2.2.1
set_option maxRecDepth 16384 in
theorem d110 {X : KO} {ρ : Nat → Int32} {m m' : MM} {rl : List (Nat × Int)} {a0 a1 : Int} (h : Run X ρ 110 [(1, a0), (1, a1)] m rl m') : rl = [(1, f110 m a0 a1)] ∧ m' = m := by
  obtain ⟨N, ig, h⟩ := Run_CR h rfl
  have h : MR X ρ 7 0 0 qP110 N 0 [a0, a1, 0, 0, 0, 0, 0] [] m (ig, rl, m') := h
  have h := CR_aload_n h rfl
  have h : MR X ρ 7 0 0 qP110 N 1 [a0, a1, 0, 0, 0, 0, 0] [(1, a0)] m (ig, rl, m') := h
  have h := CR_getf h rfl (by decide)
  have h : MR X ρ 7 0 0 qP110 N 4 [a0, a1, 0, 0, 0, 0, 0] [(1, m a0 0)] m (ig, rl, m') := h
  have h := CR_iload_n h rfl
  have h : MR X ρ 7 0 0 qP110 N 5 [a0, a1, 0, 0, 0, 0, 0] [(1, a1), (1, m a0 0)] m (ig, rl, m') := h
  obtain ⟨r1, m2, q3, h⟩ := MR_invV h rfl rfl
  have q3 : Run X ρ 66 [(1, m a0 0), (1, a1)] m r1 m2 := q3
  obtain ⟨e4, e5⟩ := d66 q3
  rw [e4, e5] at h
  have h : MR X ρ 7 0 0 qP110 N 8 [a0, a1, 0, 0, 0, 0, 0] [(1, f66 m (m a0 0) a1)] m (ig, rl, m') := h
  have h := CR_istore_n h rfl (Nat.le_of_ble_eq_true rfl)
  have h : MR X ρ 7 0 0 qP110 N 9 [a0, a1, f66 m (m a0 0) a1, 0, 0, 0, 0] [] m (ig, rl, m') := h
  have h := CR_iconst h rfl rfl
  have h : MR X ρ 7 0 0 qP110 N 10 [a0, a1, f66 m (m a0 0) a1, 0, 0, 0, 0] [(1, -1)] m (ig, rl, m') := h
  have h := CR_istore_n h rfl (Nat.le_of_ble_eq_true rfl)
  have h : MR X ρ 7 0 0 qP110 N 11 [a0, a1, f66 m (m a0 0) a1, -1, 0, 0, 0] [] m (ig, rl, m') := h
  have h := CR_iconst h rfl rfl
  have h : MR X ρ 7 0 0 qP110 N 12 [a0, a1, f66 m (m a0 0) a1, -1, 0, 0, 0] [(1, 0)] m (ig, rl, m') := h
  have h := CR_istore h rfl (Nat.le_of_ble_eq_true rfl)
  have h : MR X ρ 7 0 0 qP110 N 14 [a0, a1, f66 m (m a0 0) a1, -1, 0, 0, 0] [] m (ig, rl, m') := h
  have h := CR_iconst h rfl rfl
  have h : MR X ρ 7 0 0 qP110 N 15 [a0, a1, f66 m (m a0 0) a1, -1, 0, 0, 0] [(1, 0)] m (ig, rl, m') := h
  have h := CR_istore h rfl (Nat.le_of_ble_eq_true rfl)
  have h : MR X ρ 7 0 0 qP110 N 17 [a0, a1, f66 m (m a0 0) a1, -1, 0, 0, 0] [] m (ig, rl, m') := h
  have h := l110_17 (Nat.le_refl _) h
  have h : MR X ρ 7 0 0 qP110 N 64 [a0, a1, f66 m (m a0 0) a1, (L110_17 m a0 a1 (f66 m (m a0 0) a1) (-1) 0 0 0).2.2.1, (L110_17 m a0 a1 (f66 m (m a0 0) a1) (-1) 0 0 0).2.2.2.1, (L110_17 m a0 a1 (f66 m (m a0 0) a1) (-1) 0 0 0).2.2.2.2.1, (L110_17 m a0 a1 (f66 m (m a0 0) a1) (-1) 0 0 0).2.2.2.2.2] [] m (ig, rl, m') := h
  have h := CR_iload_n h rfl
  have h : MR X ρ 7 0 0 qP110 N 65 [a0, a1, f66 m (m a0 0) a1, (L110_17 m a0 a1 (f66 m (m a0 0) a1) (-1) 0 0 0).2.2.1, (L110_17 m a0 a1 (f66 m (m a0 0) a1) (-1) 0 0 0).2.2.2.1, (L110_17 m a0 a1 (f66 m (m a0 0) a1) (-1) 0 0 0).2.2.2.2.1, (L110_17 m a0 a1 (f66 m (m a0 0) a1) (-1) 0 0 0).2.2.2.2.2] [(1, (L110_17 m a0 a1 (f66 m (m a0 0) a1) (-1) 0 0 0).2.2.1)] m (ig, rl, m') := h
  have e := CR_end h rfl rfl
  cases e
  exact ⟨congrArg (fun z => [(1, z)]) (Eq.symm (show f110 m a0 a1 = _ from rfl)), rfl⟩
set_option maxRecDepth 16384 in
/-- TriplicateForms$Standing.formsThatAre(I)I, the loop at 4 -/
noncomputable def S119_4 (m : MM) (b0 b1 b2 b3 : Int) : (Int × Int) ⊕ (Nat × Int × (Int × Int)) := (if (m (m b0 0) 7) ≤ b3 then .inr (1, 0, (b2, b3)) else (if (f127 m b0 b3) = b1 then .inl (jor b2 (jshl 1 b3), s32 (b3 + 1)) else .inl (b2, s32 (b3 + 1))))
set_option maxRecDepth 16384 in
noncomputable def K119_4 (m : MM) (b0 b1 b2 b3 : Int) : (Int × Int) → (Int × Int) ⊕ (Nat × Int × (Int × Int)) := fun s => S119_4 m b0 b1 s.1 s.2
set_option maxRecDepth 16384 in
noncomputable def L119_4 (m : MM) (b0 b1 b2 b3 : Int) : (Nat × Int × (Int × Int)) := Lp (K119_4 m b0 b1 b2 b3) (b2, b3)
set_option maxRecDepth 16384 in
theorem l119_4 {X : KO} {ρ : Nat → Int32} {o : Instr × List (Nat × Int) × MM} {K : Nat} : ∀ {N : Nat} {m : MM} {b0 b1 b2 b3 : Int}, N ≤ K → MR X ρ 4 0 0 qP119 N 4 [b0, b1, b2, b3] [] m o → (MR X ρ 4 0 0 qP119 K 36 [b0, b1, (L119_4 m b0 b1 b2 b3).2.2.1, (L119_4 m b0 b1 b2 b3).2.2.2] [] m o) := by
  intro N
  induction N using Nat.strongRecOn with
  | ind N ih =>
  intro m b0 b1 b2 b3 hK h
  have h := CR_iload_n h rfl
  have h : MR X ρ 4 0 0 qP119 N 5 [b0, b1, b2, b3] [(1, b3)] m o := h
  have h := CR_aload_n h rfl
  have h : MR X ρ 4 0 0 qP119 N 6 [b0, b1, b2, b3] [(1, b0), (1, b3)] m o := h
  have h := CR_getf h rfl (by decide)
  have h : MR X ρ 4 0 0 qP119 N 9 [b0, b1, b2, b3] [(1, m b0 0), (1, b3)] m o := h
  have h := CR_getf h rfl (by decide)
  have h : MR X ρ 4 0 0 qP119 N 12 [b0, b1, b2, b3] [(1, m (m b0 0) 7), (1, b3)] m o := h
  rcases MR_icmp h rfl rfl with ⟨c1, h⟩ | ⟨c1, h⟩
  ·
    have c1 : (m (m b0 0) 7) ≤ b3 := c1
    have h : MR X ρ 4 0 0 qP119 N 36 [b0, b1, b2, b3] [] m o := h
    have hr : L119_4 m b0 b1 b2 b3 = (1, 0, (b2, b3)) := Lp_inr (f := K119_4 m b0 b1 b2 b3) (s := (b2, b3)) ((if_pos c1).trans (rfl))
    rw [hr]
    exact CR_le (by omega) h
  ·
    have c1 : ¬ ((m (m b0 0) 7) ≤ b3) := c1
    have h : MR X ρ 4 0 0 qP119 N 15 [b0, b1, b2, b3] [] m o := h
    have h := CR_aload_n h rfl
    have h : MR X ρ 4 0 0 qP119 N 16 [b0, b1, b2, b3] [(1, b0)] m o := h
    have h := CR_iload_n h rfl
    have h : MR X ρ 4 0 0 qP119 N 17 [b0, b1, b2, b3] [(1, b3), (1, b0)] m o := h
    obtain ⟨r2, m3, q4, h⟩ := MR_invV h rfl rfl
    have q4 : Run X ρ 127 [(1, b0), (1, b3)] m r2 m3 := q4
    obtain ⟨e5, e6⟩ := d127 q4
    rw [e5, e6] at h
    have h : MR X ρ 4 0 0 qP119 N 20 [b0, b1, b2, b3] [(1, f127 m b0 b3)] m o := h
    have h := CR_iload_n h rfl
    have h : MR X ρ 4 0 0 qP119 N 21 [b0, b1, b2, b3] [(1, b1), (1, f127 m b0 b3)] m o := h
    rcases MR_icmp h rfl rfl with ⟨c7, h⟩ | ⟨c7, h⟩
    ·
      have c7 : ¬ ((f127 m b0 b3) = b1) := c7
      have h : MR X ρ 4 0 0 qP119 N 30 [b0, b1, b2, b3] [] m o := h
      have h := CR_inc h rfl (Nat.le_of_ble_eq_true rfl)
      have h : MR X ρ 4 0 0 qP119 N 33 [b0, b1, b2, s32 (b3 + 1)] [] m o := h
      obtain ⟨N8, eN8, h⟩ := CR_goto h rfl rfl
      have h : MR X ρ 4 0 0 qP119 N8 4 [b0, b1, b2, s32 (b3 + 1)] [] m o := h
      have hr : L119_4 m b0 b1 b2 b3 = L119_4 m b0 b1 b2 (s32 (b3 + 1)) := Lp_inl (f := K119_4 m b0 b1 b2 b3) (s := (b2, b3)) (s' := (b2, s32 (b3 + 1))) ((if_neg c1).trans ((if_neg c7).trans (rfl)))
      rw [hr]
      exact ih N8 (by omega) (by omega) h
    ·
      have c7 : (f127 m b0 b3) = b1 := Decidable.of_not_not (show ¬ ¬ ((f127 m b0 b3) = b1) from c7)
      have h : MR X ρ 4 0 0 qP119 N 24 [b0, b1, b2, b3] [] m o := h
      have h := CR_iload_n h rfl
      have h : MR X ρ 4 0 0 qP119 N 25 [b0, b1, b2, b3] [(1, b2)] m o := h
      have h := CR_iconst h rfl rfl
      have h : MR X ρ 4 0 0 qP119 N 26 [b0, b1, b2, b3] [(1, 1), (1, b2)] m o := h
      have h := CR_iload_n h rfl
      have h : MR X ρ 4 0 0 qP119 N 27 [b0, b1, b2, b3] [(1, b3), (1, 1), (1, b2)] m o := h
      have h := CR_ishl h rfl
      have h : MR X ρ 4 0 0 qP119 N 28 [b0, b1, b2, b3] [(1, jshl 1 b3), (1, b2)] m o := h
      have h := CR_ior h rfl
      have h : MR X ρ 4 0 0 qP119 N 29 [b0, b1, b2, b3] [(1, jor b2 (jshl 1 b3))] m o := h
      have h := CR_istore_n h rfl (Nat.le_of_ble_eq_true rfl)
      have h : MR X ρ 4 0 0 qP119 N 30 [b0, b1, jor b2 (jshl 1 b3), b3] [] m o := h
      have h := CR_inc h rfl (Nat.le_of_ble_eq_true rfl)
      have h : MR X ρ 4 0 0 qP119 N 33 [b0, b1, jor b2 (jshl 1 b3), s32 (b3 + 1)] [] m o := h
      obtain ⟨N9, eN9, h⟩ := CR_goto h rfl rfl
      have h : MR X ρ 4 0 0 qP119 N9 4 [b0, b1, jor b2 (jshl 1 b3), s32 (b3 + 1)] [] m o := h
      have hr : L119_4 m b0 b1 b2 b3 = L119_4 m b0 b1 (jor b2 (jshl 1 b3)) (s32 (b3 + 1)) := Lp_inl (f := K119_4 m b0 b1 b2 b3) (s := (b2, b3)) (s' := (jor b2 (jshl 1 b3), s32 (b3 + 1))) ((if_neg c1).trans ((if_pos c7).trans (rfl)))
      rw [hr]
      exact ih N9 (by omega) (by omega) h
set_option maxRecDepth 16384 in
/-- TriplicateForms$Standing.formsThatAre(I)I -/
noncomputable def f119 (m : MM) (a0 a1 : Int) : Int := (L119_4 m a0 a1 0 0).2.2.1
set_option maxRecDepth 16384 in
theorem d119 {X : KO} {ρ : Nat → Int32} {m m' : MM} {rl : List (Nat × Int)} {a0 a1 : Int} (h : Run X ρ 119 [(1, a0), (1, a1)] m rl m') : rl = [(1, f119 m a0 a1)] ∧ m' = m := by
  obtain ⟨N, ig, h⟩ := Run_CR h rfl
  have h : MR X ρ 4 0 0 qP119 N 0 [a0, a1, 0, 0] [] m (ig, rl, m') := h
  have h := CR_iconst h rfl rfl
  have h : MR X ρ 4 0 0 qP119 N 1 [a0, a1, 0, 0] [(1, 0)] m (ig, rl, m') := h
  have h := CR_istore_n h rfl (Nat.le_of_ble_eq_true rfl)
  have h : MR X ρ 4 0 0 qP119 N 2 [a0, a1, 0, 0] [] m (ig, rl, m') := h
  have h := CR_iconst h rfl rfl
  have h : MR X ρ 4 0 0 qP119 N 3 [a0, a1, 0, 0] [(1, 0)] m (ig, rl, m') := h
  have h := CR_istore_n h rfl (Nat.le_of_ble_eq_true rfl)
  have h : MR X ρ 4 0 0 qP119 N 4 [a0, a1, 0, 0] [] m (ig, rl, m') := h
  have h := l119_4 (Nat.le_refl _) h
  have h : MR X ρ 4 0 0 qP119 N 36 [a0, a1, (L119_4 m a0 a1 0 0).2.2.1, (L119_4 m a0 a1 0 0).2.2.2] [] m (ig, rl, m') := h
  have h := CR_iload_n h rfl
  have h : MR X ρ 4 0 0 qP119 N 37 [a0, a1, (L119_4 m a0 a1 0 0).2.2.1, (L119_4 m a0 a1 0 0).2.2.2] [(1, (L119_4 m a0 a1 0 0).2.2.1)] m (ig, rl, m') := h
  have e := CR_end h rfl rfl
  cases e
  exact ⟨congrArg (fun z => [(1, z)]) (Eq.symm (show f119 m a0 a1 = _ from rfl)), rfl⟩
set_option maxRecDepth 16384 in
/-- TriplicateForms$Standing.hurtOf(I)I -/
noncomputable def f128 (m : MM) (a0 a1 : Int) : Int := (if (f142 m a0 a1 1) = (-1) then f110 m a0 a1 else f142 m a0 a1 1)
set_option maxRecDepth 16384 in
theorem d128 {X : KO} {ρ : Nat → Int32} {m m' : MM} {rl : List (Nat × Int)} {a0 a1 : Int} (h : Run X ρ 128 [(1, a0), (1, a1)] m rl m') : rl = [(1, f128 m a0 a1)] ∧ m' = m := by
  obtain ⟨N, ig, h⟩ := Run_CR h rfl
  have h : MR X ρ 3 0 0 qP128 N 0 [a0, a1, 0] [] m (ig, rl, m') := h
  have h := CR_aload_n h rfl
  have h : MR X ρ 3 0 0 qP128 N 1 [a0, a1, 0] [(1, a0)] m (ig, rl, m') := h
  have h := CR_iload_n h rfl
  have h : MR X ρ 3 0 0 qP128 N 2 [a0, a1, 0] [(1, a1), (1, a0)] m (ig, rl, m') := h
  have h := CR_iconst h rfl rfl
  have h : MR X ρ 3 0 0 qP128 N 3 [a0, a1, 0] [(1, 1), (1, a1), (1, a0)] m (ig, rl, m') := h
  obtain ⟨r1, m2, q3, h⟩ := MR_invV h rfl rfl
  have q3 : Run X ρ 142 [(1, a0), (1, a1), (1, 1)] m r1 m2 := q3
  obtain ⟨e4, e5⟩ := d142 q3
  rw [e4, e5] at h
  have h : MR X ρ 3 0 0 qP128 N 6 [a0, a1, 0] [(1, f142 m a0 a1 1)] m (ig, rl, m') := h
  have h := CR_istore_n h rfl (Nat.le_of_ble_eq_true rfl)
  have h : MR X ρ 3 0 0 qP128 N 7 [a0, a1, f142 m a0 a1 1] [] m (ig, rl, m') := h
  have h := CR_iload_n h rfl
  have h : MR X ρ 3 0 0 qP128 N 8 [a0, a1, f142 m a0 a1 1] [(1, f142 m a0 a1 1)] m (ig, rl, m') := h
  have h := CR_iconst h rfl rfl
  have h : MR X ρ 3 0 0 qP128 N 9 [a0, a1, f142 m a0 a1 1] [(1, -1), (1, f142 m a0 a1 1)] m (ig, rl, m') := h
  rcases MR_icmp h rfl rfl with ⟨c6, h⟩ | ⟨c6, h⟩
  ·
    have c6 : (f142 m a0 a1 1) = (-1) := c6
    have h : MR X ρ 3 0 0 qP128 N 16 [a0, a1, f142 m a0 a1 1] [] m (ig, rl, m') := h
    have h := CR_aload_n h rfl
    have h : MR X ρ 3 0 0 qP128 N 17 [a0, a1, f142 m a0 a1 1] [(1, a0)] m (ig, rl, m') := h
    have h := CR_iload_n h rfl
    have h : MR X ρ 3 0 0 qP128 N 18 [a0, a1, f142 m a0 a1 1] [(1, a1), (1, a0)] m (ig, rl, m') := h
    obtain ⟨r7, m8, q9, h⟩ := MR_invV h rfl rfl
    have q9 : Run X ρ 110 [(1, a0), (1, a1)] m r7 m8 := q9
    obtain ⟨e10, e11⟩ := d110 q9
    rw [e10, e11] at h
    have h : MR X ρ 3 0 0 qP128 N 21 [a0, a1, f142 m a0 a1 1] [(1, f110 m a0 a1)] m (ig, rl, m') := h
    have e := CR_end h rfl rfl
    cases e
    exact ⟨congrArg (fun z => [(1, z)]) (Eq.symm (show f128 m a0 a1 = _ from (if_pos c6).trans (rfl))), rfl⟩
  ·
    have c6 : ¬ ((f142 m a0 a1 1) = (-1)) := c6
    have h : MR X ρ 3 0 0 qP128 N 12 [a0, a1, f142 m a0 a1 1] [] m (ig, rl, m') := h
    have h := CR_iload_n h rfl
    have h : MR X ρ 3 0 0 qP128 N 13 [a0, a1, f142 m a0 a1 1] [(1, f142 m a0 a1 1)] m (ig, rl, m') := h
    have h := CR_go h rfl rfl
    have h : MR X ρ 3 0 0 qP128 N 21 [a0, a1, f142 m a0 a1 1] [(1, f142 m a0 a1 1)] m (ig, rl, m') := h
    have e := CR_end h rfl rfl
    cases e
    exact ⟨congrArg (fun z => [(1, z)]) (Eq.symm (show f128 m a0 a1 = _ from (if_neg c6).trans (rfl))), rfl⟩
set_option maxRecDepth 16384 in
/-- TriplicateForms$Standing.openAnew(I)V, the loop at 8 -/
noncomputable def S130_8 (m : MM) (b0 b1 b2 b3 : Int) : (Int × Int × MM) ⊕ (Nat × Int × (Int × Int × MM)) := (if 3 ≤ b2 then .inr (1, 0, (b2, b3, m)) else (if (f137 m b1 b2) < 0 then .inl (s32 (b2 + 1), f137 m b1 b2, m) else .inl (s32 (b2 + 1), f137 m b1 b2, mu m (m b0 6) (f137 m b1 b2) (s32 (-1)))))
set_option maxRecDepth 16384 in
noncomputable def K130_8 (m : MM) (b0 b1 b2 b3 : Int) : (Int × Int × MM) → (Int × Int × MM) ⊕ (Nat × Int × (Int × Int × MM)) := fun s => S130_8 s.2.2 b0 b1 s.1 s.2.1
set_option maxRecDepth 16384 in
noncomputable def L130_8 (m : MM) (b0 b1 b2 b3 : Int) : (Nat × Int × (Int × Int × MM)) := Lp (K130_8 m b0 b1 b2 b3) (b2, b3, m)
set_option maxRecDepth 16384 in
theorem l130_8 {X : KO} {ρ : Nat → Int32} {o : Instr × List (Nat × Int) × MM} {K : Nat} : ∀ {N : Nat} {m : MM} {b0 b1 b2 b3 : Int}, N ≤ K → MR X ρ 4 0 0 qP130 N 8 [b0, b1, b2, b3] [] m o → (MR X ρ 4 0 0 qP130 K 36 [b0, b1, (L130_8 m b0 b1 b2 b3).2.2.1, (L130_8 m b0 b1 b2 b3).2.2.2.1] [] ((L130_8 m b0 b1 b2 b3).2.2.2.2) o) := by
  intro N
  induction N using Nat.strongRecOn with
  | ind N ih =>
  intro m b0 b1 b2 b3 hK h
  have h := CR_iload_n h rfl
  have h : MR X ρ 4 0 0 qP130 N 9 [b0, b1, b2, b3] [(1, b2)] m o := h
  have h := CR_iconst h rfl rfl
  have h : MR X ρ 4 0 0 qP130 N 10 [b0, b1, b2, b3] [(1, 3), (1, b2)] m o := h
  rcases MR_icmp h rfl rfl with ⟨c1, h⟩ | ⟨c1, h⟩
  ·
    have c1 : 3 ≤ b2 := c1
    have h : MR X ρ 4 0 0 qP130 N 36 [b0, b1, b2, b3] [] m o := h
    have hr : L130_8 m b0 b1 b2 b3 = (1, 0, (b2, b3, m)) := Lp_inr (f := K130_8 m b0 b1 b2 b3) (s := (b2, b3, m)) ((if_pos c1).trans (rfl))
    rw [hr]
    exact CR_le (by omega) h
  ·
    have c1 : ¬ (3 ≤ b2) := c1
    have h : MR X ρ 4 0 0 qP130 N 13 [b0, b1, b2, b3] [] m o := h
    have h := CR_iload_n h rfl
    have h : MR X ρ 4 0 0 qP130 N 14 [b0, b1, b2, b3] [(1, b1)] m o := h
    have h := CR_iload_n h rfl
    have h : MR X ρ 4 0 0 qP130 N 15 [b0, b1, b2, b3] [(1, b2), (1, b1)] m o := h
    obtain ⟨r2, m3, q4, h⟩ := MR_invS h rfl rfl
    have q4 : Run X ρ 137 [(1, b1), (1, b2)] m r2 m3 := q4
    obtain ⟨e5, e6⟩ := d137 q4
    rw [e5, e6] at h
    have h : MR X ρ 4 0 0 qP130 N 18 [b0, b1, b2, b3] [(1, f137 m b1 b2)] m o := h
    have h := CR_istore_n h rfl (Nat.le_of_ble_eq_true rfl)
    have h : MR X ρ 4 0 0 qP130 N 19 [b0, b1, b2, f137 m b1 b2] [] m o := h
    have h := CR_iload_n h rfl
    have h : MR X ρ 4 0 0 qP130 N 20 [b0, b1, b2, f137 m b1 b2] [(1, f137 m b1 b2)] m o := h
    rcases MR_if h rfl rfl with ⟨c7, h⟩ | ⟨c7, h⟩
    ·
      have c7 : (f137 m b1 b2) < 0 := c7
      have h : MR X ρ 4 0 0 qP130 N 30 [b0, b1, b2, f137 m b1 b2] [] m o := h
      have h := CR_inc h rfl (Nat.le_of_ble_eq_true rfl)
      have h : MR X ρ 4 0 0 qP130 N 33 [b0, b1, s32 (b2 + 1), f137 m b1 b2] [] m o := h
      obtain ⟨N8, eN8, h⟩ := CR_goto h rfl rfl
      have h : MR X ρ 4 0 0 qP130 N8 8 [b0, b1, s32 (b2 + 1), f137 m b1 b2] [] m o := h
      have hr : L130_8 m b0 b1 b2 b3 = L130_8 m b0 b1 (s32 (b2 + 1)) (f137 m b1 b2) := Lp_inl (f := K130_8 m b0 b1 b2 b3) (s := (b2, b3, m)) (s' := (s32 (b2 + 1), f137 m b1 b2, m)) ((if_neg c1).trans ((if_pos c7).trans (rfl)))
      rw [hr]
      exact ih N8 (by omega) (by omega) h
    ·
      have c7 : ¬ ((f137 m b1 b2) < 0) := c7
      have h : MR X ρ 4 0 0 qP130 N 23 [b0, b1, b2, f137 m b1 b2] [] m o := h
      have h := CR_aload_n h rfl
      have h : MR X ρ 4 0 0 qP130 N 24 [b0, b1, b2, f137 m b1 b2] [(1, b0)] m o := h
      have h := CR_getf h rfl (by decide)
      have h : MR X ρ 4 0 0 qP130 N 27 [b0, b1, b2, f137 m b1 b2] [(1, m b0 6)] m o := h
      have h := CR_iload_n h rfl
      have h : MR X ρ 4 0 0 qP130 N 28 [b0, b1, b2, f137 m b1 b2] [(1, f137 m b1 b2), (1, m b0 6)] m o := h
      have h := CR_iconst h rfl rfl
      have h : MR X ρ 4 0 0 qP130 N 29 [b0, b1, b2, f137 m b1 b2] [(1, -1), (1, f137 m b1 b2), (1, m b0 6)] m o := h
      have h := CR_iastore_ h rfl
      have h : MR X ρ 4 0 0 qP130 N 30 [b0, b1, b2, f137 m b1 b2] [] (mu m (m b0 6) (f137 m b1 b2) (s32 (-1))) o := h
      have h := CR_inc h rfl (Nat.le_of_ble_eq_true rfl)
      have h : MR X ρ 4 0 0 qP130 N 33 [b0, b1, s32 (b2 + 1), f137 m b1 b2] [] (mu m (m b0 6) (f137 m b1 b2) (s32 (-1))) o := h
      obtain ⟨N9, eN9, h⟩ := CR_goto h rfl rfl
      have h : MR X ρ 4 0 0 qP130 N9 8 [b0, b1, s32 (b2 + 1), f137 m b1 b2] [] (mu m (m b0 6) (f137 m b1 b2) (s32 (-1))) o := h
      have hr : L130_8 m b0 b1 b2 b3 = L130_8 (mu m (m b0 6) (f137 m b1 b2) (s32 (-1))) b0 b1 (s32 (b2 + 1)) (f137 m b1 b2) := Lp_inl (f := K130_8 m b0 b1 b2 b3) (s := (b2, b3, m)) (s' := (s32 (b2 + 1), f137 m b1 b2, mu m (m b0 6) (f137 m b1 b2) (s32 (-1)))) ((if_neg c1).trans ((if_neg c7).trans (rfl)))
      rw [hr]
      exact ih N9 (by omega) (by omega) h
set_option maxRecDepth 16384 in
/-- TriplicateForms$Standing.openAnew(I)V -/
noncomputable def g130 (m : MM) (a0 a1 : Int) : MM := (L130_8 (g139 m a0 a1 0) a0 a1 0 0).2.2.2.2
set_option maxRecDepth 16384 in
theorem d130 {X : KO} {ρ : Nat → Int32} {m m' : MM} {rl : List (Nat × Int)} {a0 a1 : Int} (h : Run X ρ 130 [(1, a0), (1, a1)] m rl m') : rl = [] ∧ m' = g130 m a0 a1 := by
  obtain ⟨N, ig, h⟩ := Run_CR h rfl
  have h : MR X ρ 4 0 0 qP130 N 0 [a0, a1, 0, 0] [] m (ig, rl, m') := h
  have h := CR_aload_n h rfl
  have h : MR X ρ 4 0 0 qP130 N 1 [a0, a1, 0, 0] [(1, a0)] m (ig, rl, m') := h
  have h := CR_iload_n h rfl
  have h : MR X ρ 4 0 0 qP130 N 2 [a0, a1, 0, 0] [(1, a1), (1, a0)] m (ig, rl, m') := h
  have h := CR_iconst h rfl rfl
  have h : MR X ρ 4 0 0 qP130 N 3 [a0, a1, 0, 0] [(1, 0), (1, a1), (1, a0)] m (ig, rl, m') := h
  obtain ⟨r1, m2, q3, h⟩ := MR_invV h rfl rfl
  have q3 : Run X ρ 139 [(1, a0), (1, a1), (1, 0)] m r1 m2 := q3
  obtain ⟨e4, e5⟩ := d139 q3
  rw [e4, e5] at h
  have h : MR X ρ 4 0 0 qP130 N 6 [a0, a1, 0, 0] [] (g139 m a0 a1 0) (ig, rl, m') := h
  have h := CR_iconst h rfl rfl
  have h : MR X ρ 4 0 0 qP130 N 7 [a0, a1, 0, 0] [(1, 0)] (g139 m a0 a1 0) (ig, rl, m') := h
  have h := CR_istore_n h rfl (Nat.le_of_ble_eq_true rfl)
  have h : MR X ρ 4 0 0 qP130 N 8 [a0, a1, 0, 0] [] (g139 m a0 a1 0) (ig, rl, m') := h
  have h := l130_8 (Nat.le_refl _) h
  have h : MR X ρ 4 0 0 qP130 N 36 [a0, a1, (L130_8 (g139 m a0 a1 0) a0 a1 0 0).2.2.1, (L130_8 (g139 m a0 a1 0) a0 a1 0 0).2.2.2.1] [] ((L130_8 (g139 m a0 a1 0) a0 a1 0 0).2.2.2.2) (ig, rl, m') := h
  have e := CR_end h rfl rfl
  cases e
  exact ⟨rfl, Eq.symm (show g130 m a0 a1 = _ from rfl)⟩
set_option maxRecDepth 16384 in
/-- TriplicateForms$Standing.partOf(II)I -/
noncomputable def f132 (m : MM) (a0 a1 a2 : Int) : Int := (if (f127 m a0 a2) = 0 then (if (f126 m a0 a1 a2) = 0 then (if (f142 m a0 a2 (f133 m a0 (f128 m a0 a2) a1 a2)) = (-1) then f133 m a0 (f128 m a0 a2) a1 a2 else -1) else -1) else -1)
set_option maxRecDepth 16384 in
theorem d132 {X : KO} {ρ : Nat → Int32} {m m' : MM} {rl : List (Nat × Int)} {a0 a1 a2 : Int} (h : Run X ρ 132 [(1, a0), (1, a1), (1, a2)] m rl m') : rl = [(1, f132 m a0 a1 a2)] ∧ m' = m := by
  obtain ⟨N, ig, h⟩ := Run_CR h rfl
  have h : MR X ρ 4 0 0 qP132 N 0 [a0, a1, a2, 0] [] m (ig, rl, m') := h
  have h := CR_aload_n h rfl
  have h : MR X ρ 4 0 0 qP132 N 1 [a0, a1, a2, 0] [(1, a0)] m (ig, rl, m') := h
  have h := CR_iload_n h rfl
  have h : MR X ρ 4 0 0 qP132 N 2 [a0, a1, a2, 0] [(1, a2), (1, a0)] m (ig, rl, m') := h
  obtain ⟨r1, m2, q3, h⟩ := MR_invV h rfl rfl
  have q3 : Run X ρ 127 [(1, a0), (1, a2)] m r1 m2 := q3
  obtain ⟨e4, e5⟩ := d127 q3
  rw [e4, e5] at h
  have h : MR X ρ 4 0 0 qP132 N 5 [a0, a1, a2, 0] [(1, f127 m a0 a2)] m (ig, rl, m') := h
  rcases MR_if h rfl rfl with ⟨c6, h⟩ | ⟨c6, h⟩
  ·
    have c6 : ¬ ((f127 m a0 a2) = 0) := c6
    have h : MR X ρ 4 0 0 qP132 N 17 [a0, a1, a2, 0] [] m (ig, rl, m') := h
    have h := CR_iconst h rfl rfl
    have h : MR X ρ 4 0 0 qP132 N 18 [a0, a1, a2, 0] [(1, -1)] m (ig, rl, m') := h
    have e := CR_end h rfl rfl
    cases e
    exact ⟨congrArg (fun z => [(1, z)]) (Eq.symm (show f132 m a0 a1 a2 = _ from (if_neg c6).trans (rfl))), rfl⟩
  ·
    have c6 : (f127 m a0 a2) = 0 := Decidable.of_not_not (show ¬ ¬ ((f127 m a0 a2) = 0) from c6)
    have h : MR X ρ 4 0 0 qP132 N 8 [a0, a1, a2, 0] [] m (ig, rl, m') := h
    have h := CR_aload_n h rfl
    have h : MR X ρ 4 0 0 qP132 N 9 [a0, a1, a2, 0] [(1, a0)] m (ig, rl, m') := h
    have h := CR_iload_n h rfl
    have h : MR X ρ 4 0 0 qP132 N 10 [a0, a1, a2, 0] [(1, a1), (1, a0)] m (ig, rl, m') := h
    have h := CR_iload_n h rfl
    have h : MR X ρ 4 0 0 qP132 N 11 [a0, a1, a2, 0] [(1, a2), (1, a1), (1, a0)] m (ig, rl, m') := h
    obtain ⟨r7, m8, q9, h⟩ := MR_invV h rfl rfl
    have q9 : Run X ρ 126 [(1, a0), (1, a1), (1, a2)] m r7 m8 := q9
    obtain ⟨e10, e11⟩ := d126 q9
    rw [e10, e11] at h
    have h : MR X ρ 4 0 0 qP132 N 14 [a0, a1, a2, 0] [(1, f126 m a0 a1 a2)] m (ig, rl, m') := h
    rcases MR_if h rfl rfl with ⟨c12, h⟩ | ⟨c12, h⟩
    ·
      have c12 : (f126 m a0 a1 a2) = 0 := c12
      have h : MR X ρ 4 0 0 qP132 N 19 [a0, a1, a2, 0] [] m (ig, rl, m') := h
      have h := CR_aload_n h rfl
      have h : MR X ρ 4 0 0 qP132 N 20 [a0, a1, a2, 0] [(1, a0)] m (ig, rl, m') := h
      have h := CR_aload_n h rfl
      have h : MR X ρ 4 0 0 qP132 N 21 [a0, a1, a2, 0] [(1, a0), (1, a0)] m (ig, rl, m') := h
      have h := CR_iload_n h rfl
      have h : MR X ρ 4 0 0 qP132 N 22 [a0, a1, a2, 0] [(1, a2), (1, a0), (1, a0)] m (ig, rl, m') := h
      obtain ⟨r13, m14, q15, h⟩ := MR_invV h rfl rfl
      have q15 : Run X ρ 128 [(1, a0), (1, a2)] m r13 m14 := q15
      obtain ⟨e16, e17⟩ := d128 q15
      rw [e16, e17] at h
      have h : MR X ρ 4 0 0 qP132 N 25 [a0, a1, a2, 0] [(1, f128 m a0 a2), (1, a0)] m (ig, rl, m') := h
      have h := CR_iload_n h rfl
      have h : MR X ρ 4 0 0 qP132 N 26 [a0, a1, a2, 0] [(1, a1), (1, f128 m a0 a2), (1, a0)] m (ig, rl, m') := h
      have h := CR_iload_n h rfl
      have h : MR X ρ 4 0 0 qP132 N 27 [a0, a1, a2, 0] [(1, a2), (1, a1), (1, f128 m a0 a2), (1, a0)] m (ig, rl, m') := h
      obtain ⟨r18, m19, q20, h⟩ := MR_invV h rfl rfl
      have q20 : Run X ρ 133 [(1, a0), (1, f128 m a0 a2), (1, a1), (1, a2)] m r18 m19 := q20
      obtain ⟨e21, e22⟩ := d133 q20
      rw [e21, e22] at h
      have h : MR X ρ 4 0 0 qP132 N 30 [a0, a1, a2, 0] [(1, f133 m a0 (f128 m a0 a2) a1 a2)] m (ig, rl, m') := h
      have h := CR_istore_n h rfl (Nat.le_of_ble_eq_true rfl)
      have h : MR X ρ 4 0 0 qP132 N 31 [a0, a1, a2, f133 m a0 (f128 m a0 a2) a1 a2] [] m (ig, rl, m') := h
      have h := CR_aload_n h rfl
      have h : MR X ρ 4 0 0 qP132 N 32 [a0, a1, a2, f133 m a0 (f128 m a0 a2) a1 a2] [(1, a0)] m (ig, rl, m') := h
      have h := CR_iload_n h rfl
      have h : MR X ρ 4 0 0 qP132 N 33 [a0, a1, a2, f133 m a0 (f128 m a0 a2) a1 a2] [(1, a2), (1, a0)] m (ig, rl, m') := h
      have h := CR_iload_n h rfl
      have h : MR X ρ 4 0 0 qP132 N 34 [a0, a1, a2, f133 m a0 (f128 m a0 a2) a1 a2] [(1, f133 m a0 (f128 m a0 a2) a1 a2), (1, a2), (1, a0)] m (ig, rl, m') := h
      obtain ⟨r23, m24, q25, h⟩ := MR_invV h rfl rfl
      have q25 : Run X ρ 142 [(1, a0), (1, a2), (1, f133 m a0 (f128 m a0 a2) a1 a2)] m r23 m24 := q25
      obtain ⟨e26, e27⟩ := d142 q25
      rw [e26, e27] at h
      have h : MR X ρ 4 0 0 qP132 N 37 [a0, a1, a2, f133 m a0 (f128 m a0 a2) a1 a2] [(1, f142 m a0 a2 (f133 m a0 (f128 m a0 a2) a1 a2))] m (ig, rl, m') := h
      have h := CR_iconst h rfl rfl
      have h : MR X ρ 4 0 0 qP132 N 38 [a0, a1, a2, f133 m a0 (f128 m a0 a2) a1 a2] [(1, -1), (1, f142 m a0 a2 (f133 m a0 (f128 m a0 a2) a1 a2))] m (ig, rl, m') := h
      rcases MR_icmp h rfl rfl with ⟨c28, h⟩ | ⟨c28, h⟩
      ·
        have c28 : ¬ ((f142 m a0 a2 (f133 m a0 (f128 m a0 a2) a1 a2)) = (-1)) := c28
        have h : MR X ρ 4 0 0 qP132 N 45 [a0, a1, a2, f133 m a0 (f128 m a0 a2) a1 a2] [] m (ig, rl, m') := h
        have h := CR_iconst h rfl rfl
        have h : MR X ρ 4 0 0 qP132 N 46 [a0, a1, a2, f133 m a0 (f128 m a0 a2) a1 a2] [(1, -1)] m (ig, rl, m') := h
        have e := CR_end h rfl rfl
        cases e
        exact ⟨congrArg (fun z => [(1, z)]) (Eq.symm (show f132 m a0 a1 a2 = _ from (if_pos c6).trans ((if_pos c12).trans ((if_neg c28).trans (rfl))))), rfl⟩
      ·
        have c28 : (f142 m a0 a2 (f133 m a0 (f128 m a0 a2) a1 a2)) = (-1) := Decidable.of_not_not (show ¬ ¬ ((f142 m a0 a2 (f133 m a0 (f128 m a0 a2) a1 a2)) = (-1)) from c28)
        have h : MR X ρ 4 0 0 qP132 N 41 [a0, a1, a2, f133 m a0 (f128 m a0 a2) a1 a2] [] m (ig, rl, m') := h
        have h := CR_iload_n h rfl
        have h : MR X ρ 4 0 0 qP132 N 42 [a0, a1, a2, f133 m a0 (f128 m a0 a2) a1 a2] [(1, f133 m a0 (f128 m a0 a2) a1 a2)] m (ig, rl, m') := h
        have h := CR_go h rfl rfl
        have h : MR X ρ 4 0 0 qP132 N 46 [a0, a1, a2, f133 m a0 (f128 m a0 a2) a1 a2] [(1, f133 m a0 (f128 m a0 a2) a1 a2)] m (ig, rl, m') := h
        have e := CR_end h rfl rfl
        cases e
        exact ⟨congrArg (fun z => [(1, z)]) (Eq.symm (show f132 m a0 a1 a2 = _ from (if_pos c6).trans ((if_pos c12).trans ((if_pos c28).trans (rfl))))), rfl⟩
    ·
      have c12 : ¬ ((f126 m a0 a1 a2) = 0) := c12
      have h : MR X ρ 4 0 0 qP132 N 17 [a0, a1, a2, 0] [] m (ig, rl, m') := h
      have h := CR_iconst h rfl rfl
      have h : MR X ρ 4 0 0 qP132 N 18 [a0, a1, a2, 0] [(1, -1)] m (ig, rl, m') := h
      have e := CR_end h rfl rfl
      cases e
      exact ⟨congrArg (fun z => [(1, z)]) (Eq.symm (show f132 m a0 a1 a2 = _ from (if_pos c6).trans ((if_neg c12).trans (rfl)))), rfl⟩
set_option maxRecDepth 16384 in
/-- TriplicateForms$Standing.partsSigned(I)I, the loop at 4 -/
noncomputable def S134_4 (m : MM) (b0 b1 b2 b3 : Int) : (Int × Int) ⊕ (Nat × Int × (Int × Int)) := (if 3 ≤ b3 then .inr (1, 0, (b2, b3)) else (if (f142 m b0 b1 b3) = (-1) then .inl (b2, s32 (b3 + 1)) else .inl (s32 (b2 + 1), s32 (b3 + 1))))
set_option maxRecDepth 16384 in
noncomputable def K134_4 (m : MM) (b0 b1 b2 b3 : Int) : (Int × Int) → (Int × Int) ⊕ (Nat × Int × (Int × Int)) := fun s => S134_4 m b0 b1 s.1 s.2
set_option maxRecDepth 16384 in
noncomputable def L134_4 (m : MM) (b0 b1 b2 b3 : Int) : (Nat × Int × (Int × Int)) := Lp (K134_4 m b0 b1 b2 b3) (b2, b3)
set_option maxRecDepth 16384 in
theorem l134_4 {X : KO} {ρ : Nat → Int32} {o : Instr × List (Nat × Int) × MM} {K : Nat} : ∀ {N : Nat} {m : MM} {b0 b1 b2 b3 : Int}, N ≤ K → MR X ρ 4 0 0 qP134 N 4 [b0, b1, b2, b3] [] m o → (MR X ρ 4 0 0 qP134 K 28 [b0, b1, (L134_4 m b0 b1 b2 b3).2.2.1, (L134_4 m b0 b1 b2 b3).2.2.2] [] m o) := by
  intro N
  induction N using Nat.strongRecOn with
  | ind N ih =>
  intro m b0 b1 b2 b3 hK h
  have h := CR_iload_n h rfl
  have h : MR X ρ 4 0 0 qP134 N 5 [b0, b1, b2, b3] [(1, b3)] m o := h
  have h := CR_iconst h rfl rfl
  have h : MR X ρ 4 0 0 qP134 N 6 [b0, b1, b2, b3] [(1, 3), (1, b3)] m o := h
  rcases MR_icmp h rfl rfl with ⟨c1, h⟩ | ⟨c1, h⟩
  ·
    have c1 : 3 ≤ b3 := c1
    have h : MR X ρ 4 0 0 qP134 N 28 [b0, b1, b2, b3] [] m o := h
    have hr : L134_4 m b0 b1 b2 b3 = (1, 0, (b2, b3)) := Lp_inr (f := K134_4 m b0 b1 b2 b3) (s := (b2, b3)) ((if_pos c1).trans (rfl))
    rw [hr]
    exact CR_le (by omega) h
  ·
    have c1 : ¬ (3 ≤ b3) := c1
    have h : MR X ρ 4 0 0 qP134 N 9 [b0, b1, b2, b3] [] m o := h
    have h := CR_aload_n h rfl
    have h : MR X ρ 4 0 0 qP134 N 10 [b0, b1, b2, b3] [(1, b0)] m o := h
    have h := CR_iload_n h rfl
    have h : MR X ρ 4 0 0 qP134 N 11 [b0, b1, b2, b3] [(1, b1), (1, b0)] m o := h
    have h := CR_iload_n h rfl
    have h : MR X ρ 4 0 0 qP134 N 12 [b0, b1, b2, b3] [(1, b3), (1, b1), (1, b0)] m o := h
    obtain ⟨r2, m3, q4, h⟩ := MR_invV h rfl rfl
    have q4 : Run X ρ 142 [(1, b0), (1, b1), (1, b3)] m r2 m3 := q4
    obtain ⟨e5, e6⟩ := d142 q4
    rw [e5, e6] at h
    have h : MR X ρ 4 0 0 qP134 N 15 [b0, b1, b2, b3] [(1, f142 m b0 b1 b3)] m o := h
    have h := CR_iconst h rfl rfl
    have h : MR X ρ 4 0 0 qP134 N 16 [b0, b1, b2, b3] [(1, -1), (1, f142 m b0 b1 b3)] m o := h
    rcases MR_icmp h rfl rfl with ⟨c7, h⟩ | ⟨c7, h⟩
    ·
      have c7 : (f142 m b0 b1 b3) = (-1) := c7
      have h : MR X ρ 4 0 0 qP134 N 22 [b0, b1, b2, b3] [] m o := h
      have h := CR_inc h rfl (Nat.le_of_ble_eq_true rfl)
      have h : MR X ρ 4 0 0 qP134 N 25 [b0, b1, b2, s32 (b3 + 1)] [] m o := h
      obtain ⟨N8, eN8, h⟩ := CR_goto h rfl rfl
      have h : MR X ρ 4 0 0 qP134 N8 4 [b0, b1, b2, s32 (b3 + 1)] [] m o := h
      have hr : L134_4 m b0 b1 b2 b3 = L134_4 m b0 b1 b2 (s32 (b3 + 1)) := Lp_inl (f := K134_4 m b0 b1 b2 b3) (s := (b2, b3)) (s' := (b2, s32 (b3 + 1))) ((if_neg c1).trans ((if_pos c7).trans (rfl)))
      rw [hr]
      exact ih N8 (by omega) (by omega) h
    ·
      have c7 : ¬ ((f142 m b0 b1 b3) = (-1)) := c7
      have h : MR X ρ 4 0 0 qP134 N 19 [b0, b1, b2, b3] [] m o := h
      have h := CR_inc h rfl (Nat.le_of_ble_eq_true rfl)
      have h : MR X ρ 4 0 0 qP134 N 22 [b0, b1, s32 (b2 + 1), b3] [] m o := h
      have h := CR_inc h rfl (Nat.le_of_ble_eq_true rfl)
      have h : MR X ρ 4 0 0 qP134 N 25 [b0, b1, s32 (b2 + 1), s32 (b3 + 1)] [] m o := h
      obtain ⟨N9, eN9, h⟩ := CR_goto h rfl rfl
      have h : MR X ρ 4 0 0 qP134 N9 4 [b0, b1, s32 (b2 + 1), s32 (b3 + 1)] [] m o := h
      have hr : L134_4 m b0 b1 b2 b3 = L134_4 m b0 b1 (s32 (b2 + 1)) (s32 (b3 + 1)) := Lp_inl (f := K134_4 m b0 b1 b2 b3) (s := (b2, b3)) (s' := (s32 (b2 + 1), s32 (b3 + 1))) ((if_neg c1).trans ((if_neg c7).trans (rfl)))
      rw [hr]
      exact ih N9 (by omega) (by omega) h
set_option maxRecDepth 16384 in
/-- TriplicateForms$Standing.partsSigned(I)I -/
noncomputable def f134 (m : MM) (a0 a1 : Int) : Int := (L134_4 m a0 a1 0 0).2.2.1
set_option maxRecDepth 16384 in
theorem d134 {X : KO} {ρ : Nat → Int32} {m m' : MM} {rl : List (Nat × Int)} {a0 a1 : Int} (h : Run X ρ 134 [(1, a0), (1, a1)] m rl m') : rl = [(1, f134 m a0 a1)] ∧ m' = m := by
  obtain ⟨N, ig, h⟩ := Run_CR h rfl
  have h : MR X ρ 4 0 0 qP134 N 0 [a0, a1, 0, 0] [] m (ig, rl, m') := h
  have h := CR_iconst h rfl rfl
  have h : MR X ρ 4 0 0 qP134 N 1 [a0, a1, 0, 0] [(1, 0)] m (ig, rl, m') := h
  have h := CR_istore_n h rfl (Nat.le_of_ble_eq_true rfl)
  have h : MR X ρ 4 0 0 qP134 N 2 [a0, a1, 0, 0] [] m (ig, rl, m') := h
  have h := CR_iconst h rfl rfl
  have h : MR X ρ 4 0 0 qP134 N 3 [a0, a1, 0, 0] [(1, 0)] m (ig, rl, m') := h
  have h := CR_istore_n h rfl (Nat.le_of_ble_eq_true rfl)
  have h : MR X ρ 4 0 0 qP134 N 4 [a0, a1, 0, 0] [] m (ig, rl, m') := h
  have h := l134_4 (Nat.le_refl _) h
  have h : MR X ρ 4 0 0 qP134 N 28 [a0, a1, (L134_4 m a0 a1 0 0).2.2.1, (L134_4 m a0 a1 0 0).2.2.2] [] m (ig, rl, m') := h
  have h := CR_iload_n h rfl
  have h : MR X ρ 4 0 0 qP134 N 29 [a0, a1, (L134_4 m a0 a1 0 0).2.2.1, (L134_4 m a0 a1 0 0).2.2.2] [(1, (L134_4 m a0 a1 0 0).2.2.1)] m (ig, rl, m') := h
  have e := CR_end h rfl rfl
  cases e
  exact ⟨congrArg (fun z => [(1, z)]) (Eq.symm (show f134 m a0 a1 = _ from rfl)), rfl⟩
set_option maxRecDepth 16384 in
/-- TriplicateForms$Standing.putSignature(III)V -/
noncomputable def g138 (m : MM) (a0 a1 a2 a3 : Int) : MM := (if (f137 m a2 a3) < 0 then m else (if (f73 m (m a0 0) a1) = 0 then m else (if (f72 m (m a0 0) a2) = 0 then m else (if (f134 (mu (mu (mu m (m a0 6) (f137 m a2 a3) (s32 a1)) ((mu m (m a0 6) (f137 m a2 a3) (s32 a1)) a0 2) a1 (s32 a2)) ((mu (mu m (m a0 6) (f137 m a2 a3) (s32 a1)) ((mu m (m a0 6) (f137 m a2 a3) (s32 a1)) a0 2) a1 (s32 a2)) a0 3) a1 (s32 (s32 (((mu (mu m (m a0 6) (f137 m a2 a3) (s32 a1)) ((mu m (m a0 6) (f137 m a2 a3) (s32 a1)) a0 2) a1 (s32 a2)) ((mu (mu m (m a0 6) (f137 m a2 a3) (s32 a1)) ((mu m (m a0 6) (f137 m a2 a3) (s32 a1)) a0 2) a1 (s32 a2)) a0 3) a1) + 1)))) a0 a2) = 3 then mu (mu (mu (mu (mu m (m a0 6) (f137 m a2 a3) (s32 a1)) ((mu m (m a0 6) (f137 m a2 a3) (s32 a1)) a0 2) a1 (s32 a2)) ((mu (mu m (m a0 6) (f137 m a2 a3) (s32 a1)) ((mu m (m a0 6) (f137 m a2 a3) (s32 a1)) a0 2) a1 (s32 a2)) a0 3) a1 (s32 (s32 (((mu (mu m (m a0 6) (f137 m a2 a3) (s32 a1)) ((mu m (m a0 6) (f137 m a2 a3) (s32 a1)) a0 2) a1 (s32 a2)) ((mu (mu m (m a0 6) (f137 m a2 a3) (s32 a1)) ((mu m (m a0 6) (f137 m a2 a3) (s32 a1)) a0 2) a1 (s32 a2)) a0 3) a1) + 1)))) ((mu (mu (mu m (m a0 6) (f137 m a2 a3) (s32 a1)) ((mu m (m a0 6) (f137 m a2 a3) (s32 a1)) a0 2) a1 (s32 a2)) ((mu (mu m (m a0 6) (f137 m a2 a3) (s32 a1)) ((mu m (m a0 6) (f137 m a2 a3) (s32 a1)) a0 2) a1 (s32 a2)) a0 3) a1 (s32 (s32 (((mu (mu m (m a0 6) (f137 m a2 a3) (s32 a1)) ((mu m (m a0 6) (f137 m a2 a3) (s32 a1)) a0 2) a1 (s32 a2)) ((mu (mu m (m a0 6) (f137 m a2 a3) (s32 a1)) ((mu m (m a0 6) (f137 m a2 a3) (s32 a1)) a0 2) a1 (s32 a2)) a0 3) a1) + 1)))) a0 4) a2 (s32 1)) ((mu (mu (mu (mu m (m a0 6) (f137 m a2 a3) (s32 a1)) ((mu m (m a0 6) (f137 m a2 a3) (s32 a1)) a0 2) a1 (s32 a2)) ((mu (mu m (m a0 6) (f137 m a2 a3) (s32 a1)) ((mu m (m a0 6) (f137 m a2 a3) (s32 a1)) a0 2) a1 (s32 a2)) a0 3) a1 (s32 (s32 (((mu (mu m (m a0 6) (f137 m a2 a3) (s32 a1)) ((mu m (m a0 6) (f137 m a2 a3) (s32 a1)) a0 2) a1 (s32 a2)) ((mu (mu m (m a0 6) (f137 m a2 a3) (s32 a1)) ((mu m (m a0 6) (f137 m a2 a3) (s32 a1)) a0 2) a1 (s32 a2)) a0 3) a1) + 1)))) ((mu (mu (mu m (m a0 6) (f137 m a2 a3) (s32 a1)) ((mu m (m a0 6) (f137 m a2 a3) (s32 a1)) a0 2) a1 (s32 a2)) ((mu (mu m (m a0 6) (f137 m a2 a3) (s32 a1)) ((mu m (m a0 6) (f137 m a2 a3) (s32 a1)) a0 2) a1 (s32 a2)) a0 3) a1 (s32 (s32 (((mu (mu m (m a0 6) (f137 m a2 a3) (s32 a1)) ((mu m (m a0 6) (f137 m a2 a3) (s32 a1)) a0 2) a1 (s32 a2)) ((mu (mu m (m a0 6) (f137 m a2 a3) (s32 a1)) ((mu m (m a0 6) (f137 m a2 a3) (s32 a1)) a0 2) a1 (s32 a2)) a0 3) a1) + 1)))) a0 4) a2 (s32 1)) a0 5) a2 (s32 (f85 (mu (mu (mu (mu m (m a0 6) (f137 m a2 a3) (s32 a1)) ((mu m (m a0 6) (f137 m a2 a3) (s32 a1)) a0 2) a1 (s32 a2)) ((mu (mu m (m a0 6) (f137 m a2 a3) (s32 a1)) ((mu m (m a0 6) (f137 m a2 a3) (s32 a1)) a0 2) a1 (s32 a2)) a0 3) a1 (s32 (s32 (((mu (mu m (m a0 6) (f137 m a2 a3) (s32 a1)) ((mu m (m a0 6) (f137 m a2 a3) (s32 a1)) a0 2) a1 (s32 a2)) ((mu (mu m (m a0 6) (f137 m a2 a3) (s32 a1)) ((mu m (m a0 6) (f137 m a2 a3) (s32 a1)) a0 2) a1 (s32 a2)) a0 3) a1) + 1)))) ((mu (mu (mu m (m a0 6) (f137 m a2 a3) (s32 a1)) ((mu m (m a0 6) (f137 m a2 a3) (s32 a1)) a0 2) a1 (s32 a2)) ((mu (mu m (m a0 6) (f137 m a2 a3) (s32 a1)) ((mu m (m a0 6) (f137 m a2 a3) (s32 a1)) a0 2) a1 (s32 a2)) a0 3) a1 (s32 (s32 (((mu (mu m (m a0 6) (f137 m a2 a3) (s32 a1)) ((mu m (m a0 6) (f137 m a2 a3) (s32 a1)) a0 2) a1 (s32 a2)) ((mu (mu m (m a0 6) (f137 m a2 a3) (s32 a1)) ((mu m (m a0 6) (f137 m a2 a3) (s32 a1)) a0 2) a1 (s32 a2)) a0 3) a1) + 1)))) a0 4) a2 (s32 1)) ((mu (mu (mu (mu m (m a0 6) (f137 m a2 a3) (s32 a1)) ((mu m (m a0 6) (f137 m a2 a3) (s32 a1)) a0 2) a1 (s32 a2)) ((mu (mu m (m a0 6) (f137 m a2 a3) (s32 a1)) ((mu m (m a0 6) (f137 m a2 a3) (s32 a1)) a0 2) a1 (s32 a2)) a0 3) a1 (s32 (s32 (((mu (mu m (m a0 6) (f137 m a2 a3) (s32 a1)) ((mu m (m a0 6) (f137 m a2 a3) (s32 a1)) a0 2) a1 (s32 a2)) ((mu (mu m (m a0 6) (f137 m a2 a3) (s32 a1)) ((mu m (m a0 6) (f137 m a2 a3) (s32 a1)) a0 2) a1 (s32 a2)) a0 3) a1) + 1)))) ((mu (mu (mu m (m a0 6) (f137 m a2 a3) (s32 a1)) ((mu m (m a0 6) (f137 m a2 a3) (s32 a1)) a0 2) a1 (s32 a2)) ((mu (mu m (m a0 6) (f137 m a2 a3) (s32 a1)) ((mu m (m a0 6) (f137 m a2 a3) (s32 a1)) a0 2) a1 (s32 a2)) a0 3) a1 (s32 (s32 (((mu (mu m (m a0 6) (f137 m a2 a3) (s32 a1)) ((mu m (m a0 6) (f137 m a2 a3) (s32 a1)) a0 2) a1 (s32 a2)) ((mu (mu m (m a0 6) (f137 m a2 a3) (s32 a1)) ((mu m (m a0 6) (f137 m a2 a3) (s32 a1)) a0 2) a1 (s32 a2)) a0 3) a1) + 1)))) a0 4) a2 (s32 1)) a0 0) a2)) else mu (mu (mu m (m a0 6) (f137 m a2 a3) (s32 a1)) ((mu m (m a0 6) (f137 m a2 a3) (s32 a1)) a0 2) a1 (s32 a2)) ((mu (mu m (m a0 6) (f137 m a2 a3) (s32 a1)) ((mu m (m a0 6) (f137 m a2 a3) (s32 a1)) a0 2) a1 (s32 a2)) a0 3) a1 (s32 (s32 (((mu (mu m (m a0 6) (f137 m a2 a3) (s32 a1)) ((mu m (m a0 6) (f137 m a2 a3) (s32 a1)) a0 2) a1 (s32 a2)) ((mu (mu m (m a0 6) (f137 m a2 a3) (s32 a1)) ((mu m (m a0 6) (f137 m a2 a3) (s32 a1)) a0 2) a1 (s32 a2)) a0 3) a1) + 1)))))))
set_option maxRecDepth 16384 in
theorem d138 {X : KO} {ρ : Nat → Int32} {m m' : MM} {rl : List (Nat × Int)} {a0 a1 a2 a3 : Int} (h : Run X ρ 138 [(1, a0), (1, a1), (1, a2), (1, a3)] m rl m') : rl = [] ∧ m' = g138 m a0 a1 a2 a3 := by
  obtain ⟨N, ig, h⟩ := Run_CR h rfl
  have h : MR X ρ 5 0 0 qP138 N 0 [a0, a1, a2, a3, 0] [] m (ig, rl, m') := h
  have h := CR_iload_n h rfl
  have h : MR X ρ 5 0 0 qP138 N 1 [a0, a1, a2, a3, 0] [(1, a2)] m (ig, rl, m') := h
  have h := CR_iload_n h rfl
  have h : MR X ρ 5 0 0 qP138 N 2 [a0, a1, a2, a3, 0] [(1, a3), (1, a2)] m (ig, rl, m') := h
  obtain ⟨r1, m2, q3, h⟩ := MR_invS h rfl rfl
  have q3 : Run X ρ 137 [(1, a2), (1, a3)] m r1 m2 := q3
  obtain ⟨e4, e5⟩ := d137 q3
  rw [e4, e5] at h
  have h : MR X ρ 5 0 0 qP138 N 5 [a0, a1, a2, a3, 0] [(1, f137 m a2 a3)] m (ig, rl, m') := h
  have h := CR_istore h rfl (Nat.le_of_ble_eq_true rfl)
  have h : MR X ρ 5 0 0 qP138 N 7 [a0, a1, a2, a3, f137 m a2 a3] [] m (ig, rl, m') := h
  have h := CR_iload h rfl
  have h : MR X ρ 5 0 0 qP138 N 9 [a0, a1, a2, a3, f137 m a2 a3] [(1, f137 m a2 a3)] m (ig, rl, m') := h
  rcases MR_if h rfl rfl with ⟨c6, h⟩ | ⟨c6, h⟩
  ·
    have c6 : (f137 m a2 a3) < 0 := c6
    have h : MR X ρ 5 0 0 qP138 N 34 [a0, a1, a2, a3, f137 m a2 a3] [] m (ig, rl, m') := h
    have e := CR_end h rfl rfl
    cases e
    exact ⟨rfl, Eq.symm (show g138 m a0 a1 a2 a3 = _ from (if_pos c6).trans (rfl))⟩
  ·
    have c6 : ¬ ((f137 m a2 a3) < 0) := c6
    have h : MR X ρ 5 0 0 qP138 N 12 [a0, a1, a2, a3, f137 m a2 a3] [] m (ig, rl, m') := h
    have h := CR_aload_n h rfl
    have h : MR X ρ 5 0 0 qP138 N 13 [a0, a1, a2, a3, f137 m a2 a3] [(1, a0)] m (ig, rl, m') := h
    have h := CR_getf h rfl (by decide)
    have h : MR X ρ 5 0 0 qP138 N 16 [a0, a1, a2, a3, f137 m a2 a3] [(1, m a0 0)] m (ig, rl, m') := h
    have h := CR_iload_n h rfl
    have h : MR X ρ 5 0 0 qP138 N 17 [a0, a1, a2, a3, f137 m a2 a3] [(1, a1), (1, m a0 0)] m (ig, rl, m') := h
    obtain ⟨r7, m8, q9, h⟩ := MR_invV h rfl rfl
    have q9 : Run X ρ 73 [(1, m a0 0), (1, a1)] m r7 m8 := q9
    obtain ⟨e10, e11⟩ := d73 q9
    rw [e10, e11] at h
    have h : MR X ρ 5 0 0 qP138 N 20 [a0, a1, a2, a3, f137 m a2 a3] [(1, f73 m (m a0 0) a1)] m (ig, rl, m') := h
    rcases MR_if h rfl rfl with ⟨c12, h⟩ | ⟨c12, h⟩
    ·
      have c12 : (f73 m (m a0 0) a1) = 0 := c12
      have h : MR X ρ 5 0 0 qP138 N 34 [a0, a1, a2, a3, f137 m a2 a3] [] m (ig, rl, m') := h
      have e := CR_end h rfl rfl
      cases e
      exact ⟨rfl, Eq.symm (show g138 m a0 a1 a2 a3 = _ from (if_neg c6).trans ((if_pos c12).trans (rfl)))⟩
    ·
      have c12 : ¬ ((f73 m (m a0 0) a1) = 0) := c12
      have h : MR X ρ 5 0 0 qP138 N 23 [a0, a1, a2, a3, f137 m a2 a3] [] m (ig, rl, m') := h
      have h := CR_aload_n h rfl
      have h : MR X ρ 5 0 0 qP138 N 24 [a0, a1, a2, a3, f137 m a2 a3] [(1, a0)] m (ig, rl, m') := h
      have h := CR_getf h rfl (by decide)
      have h : MR X ρ 5 0 0 qP138 N 27 [a0, a1, a2, a3, f137 m a2 a3] [(1, m a0 0)] m (ig, rl, m') := h
      have h := CR_iload_n h rfl
      have h : MR X ρ 5 0 0 qP138 N 28 [a0, a1, a2, a3, f137 m a2 a3] [(1, a2), (1, m a0 0)] m (ig, rl, m') := h
      obtain ⟨r13, m14, q15, h⟩ := MR_invV h rfl rfl
      have q15 : Run X ρ 72 [(1, m a0 0), (1, a2)] m r13 m14 := q15
      obtain ⟨e16, e17⟩ := d72 q15
      rw [e16, e17] at h
      have h : MR X ρ 5 0 0 qP138 N 31 [a0, a1, a2, a3, f137 m a2 a3] [(1, f72 m (m a0 0) a2)] m (ig, rl, m') := h
      rcases MR_if h rfl rfl with ⟨c18, h⟩ | ⟨c18, h⟩
      ·
        have c18 : ¬ ((f72 m (m a0 0) a2) = 0) := c18
        have h : MR X ρ 5 0 0 qP138 N 35 [a0, a1, a2, a3, f137 m a2 a3] [] m (ig, rl, m') := h
        have h := CR_aload_n h rfl
        have h : MR X ρ 5 0 0 qP138 N 36 [a0, a1, a2, a3, f137 m a2 a3] [(1, a0)] m (ig, rl, m') := h
        have h := CR_getf h rfl (by decide)
        have h : MR X ρ 5 0 0 qP138 N 39 [a0, a1, a2, a3, f137 m a2 a3] [(1, m a0 6)] m (ig, rl, m') := h
        have h := CR_iload h rfl
        have h : MR X ρ 5 0 0 qP138 N 41 [a0, a1, a2, a3, f137 m a2 a3] [(1, f137 m a2 a3), (1, m a0 6)] m (ig, rl, m') := h
        have h := CR_iload_n h rfl
        have h : MR X ρ 5 0 0 qP138 N 42 [a0, a1, a2, a3, f137 m a2 a3] [(1, a1), (1, f137 m a2 a3), (1, m a0 6)] m (ig, rl, m') := h
        have h := CR_iastore_ h rfl
        have h : MR X ρ 5 0 0 qP138 N 43 [a0, a1, a2, a3, f137 m a2 a3] [] (mu m (m a0 6) (f137 m a2 a3) (s32 a1)) (ig, rl, m') := h
        have h := CR_aload_n h rfl
        have h : MR X ρ 5 0 0 qP138 N 44 [a0, a1, a2, a3, f137 m a2 a3] [(1, a0)] (mu m (m a0 6) (f137 m a2 a3) (s32 a1)) (ig, rl, m') := h
        have h := CR_getf h rfl (by decide)
        have h : MR X ρ 5 0 0 qP138 N 47 [a0, a1, a2, a3, f137 m a2 a3] [(1, (mu m (m a0 6) (f137 m a2 a3) (s32 a1)) a0 2)] (mu m (m a0 6) (f137 m a2 a3) (s32 a1)) (ig, rl, m') := h
        have h := CR_iload_n h rfl
        have h : MR X ρ 5 0 0 qP138 N 48 [a0, a1, a2, a3, f137 m a2 a3] [(1, a1), (1, (mu m (m a0 6) (f137 m a2 a3) (s32 a1)) a0 2)] (mu m (m a0 6) (f137 m a2 a3) (s32 a1)) (ig, rl, m') := h
        have h := CR_iload_n h rfl
        have h : MR X ρ 5 0 0 qP138 N 49 [a0, a1, a2, a3, f137 m a2 a3] [(1, a2), (1, a1), (1, (mu m (m a0 6) (f137 m a2 a3) (s32 a1)) a0 2)] (mu m (m a0 6) (f137 m a2 a3) (s32 a1)) (ig, rl, m') := h
        have h := CR_iastore_ h rfl
        have h : MR X ρ 5 0 0 qP138 N 50 [a0, a1, a2, a3, f137 m a2 a3] [] (mu (mu m (m a0 6) (f137 m a2 a3) (s32 a1)) ((mu m (m a0 6) (f137 m a2 a3) (s32 a1)) a0 2) a1 (s32 a2)) (ig, rl, m') := h
        have h := CR_aload_n h rfl
        have h : MR X ρ 5 0 0 qP138 N 51 [a0, a1, a2, a3, f137 m a2 a3] [(1, a0)] (mu (mu m (m a0 6) (f137 m a2 a3) (s32 a1)) ((mu m (m a0 6) (f137 m a2 a3) (s32 a1)) a0 2) a1 (s32 a2)) (ig, rl, m') := h
        have h := CR_getf h rfl (by decide)
        have h : MR X ρ 5 0 0 qP138 N 54 [a0, a1, a2, a3, f137 m a2 a3] [(1, (mu (mu m (m a0 6) (f137 m a2 a3) (s32 a1)) ((mu m (m a0 6) (f137 m a2 a3) (s32 a1)) a0 2) a1 (s32 a2)) a0 3)] (mu (mu m (m a0 6) (f137 m a2 a3) (s32 a1)) ((mu m (m a0 6) (f137 m a2 a3) (s32 a1)) a0 2) a1 (s32 a2)) (ig, rl, m') := h
        have h := CR_iload_n h rfl
        have h : MR X ρ 5 0 0 qP138 N 55 [a0, a1, a2, a3, f137 m a2 a3] [(1, a1), (1, (mu (mu m (m a0 6) (f137 m a2 a3) (s32 a1)) ((mu m (m a0 6) (f137 m a2 a3) (s32 a1)) a0 2) a1 (s32 a2)) a0 3)] (mu (mu m (m a0 6) (f137 m a2 a3) (s32 a1)) ((mu m (m a0 6) (f137 m a2 a3) (s32 a1)) a0 2) a1 (s32 a2)) (ig, rl, m') := h
        have h := CR_dup2 h rfl
        have h : MR X ρ 5 0 0 qP138 N 56 [a0, a1, a2, a3, f137 m a2 a3] [(1, a1), (1, (mu (mu m (m a0 6) (f137 m a2 a3) (s32 a1)) ((mu m (m a0 6) (f137 m a2 a3) (s32 a1)) a0 2) a1 (s32 a2)) a0 3), (1, a1), (1, (mu (mu m (m a0 6) (f137 m a2 a3) (s32 a1)) ((mu m (m a0 6) (f137 m a2 a3) (s32 a1)) a0 2) a1 (s32 a2)) a0 3)] (mu (mu m (m a0 6) (f137 m a2 a3) (s32 a1)) ((mu m (m a0 6) (f137 m a2 a3) (s32 a1)) a0 2) a1 (s32 a2)) (ig, rl, m') := h
        have h := CR_iaload h rfl rfl
        have h : MR X ρ 5 0 0 qP138 N 57 [a0, a1, a2, a3, f137 m a2 a3] [(1, (mu (mu m (m a0 6) (f137 m a2 a3) (s32 a1)) ((mu m (m a0 6) (f137 m a2 a3) (s32 a1)) a0 2) a1 (s32 a2)) ((mu (mu m (m a0 6) (f137 m a2 a3) (s32 a1)) ((mu m (m a0 6) (f137 m a2 a3) (s32 a1)) a0 2) a1 (s32 a2)) a0 3) a1), (1, a1), (1, (mu (mu m (m a0 6) (f137 m a2 a3) (s32 a1)) ((mu m (m a0 6) (f137 m a2 a3) (s32 a1)) a0 2) a1 (s32 a2)) a0 3)] (mu (mu m (m a0 6) (f137 m a2 a3) (s32 a1)) ((mu m (m a0 6) (f137 m a2 a3) (s32 a1)) a0 2) a1 (s32 a2)) (ig, rl, m') := h
        have h := CR_iconst h rfl rfl
        have h : MR X ρ 5 0 0 qP138 N 58 [a0, a1, a2, a3, f137 m a2 a3] [(1, 1), (1, (mu (mu m (m a0 6) (f137 m a2 a3) (s32 a1)) ((mu m (m a0 6) (f137 m a2 a3) (s32 a1)) a0 2) a1 (s32 a2)) ((mu (mu m (m a0 6) (f137 m a2 a3) (s32 a1)) ((mu m (m a0 6) (f137 m a2 a3) (s32 a1)) a0 2) a1 (s32 a2)) a0 3) a1), (1, a1), (1, (mu (mu m (m a0 6) (f137 m a2 a3) (s32 a1)) ((mu m (m a0 6) (f137 m a2 a3) (s32 a1)) a0 2) a1 (s32 a2)) a0 3)] (mu (mu m (m a0 6) (f137 m a2 a3) (s32 a1)) ((mu m (m a0 6) (f137 m a2 a3) (s32 a1)) a0 2) a1 (s32 a2)) (ig, rl, m') := h
        have h := CR_iadd h rfl
        have h : MR X ρ 5 0 0 qP138 N 59 [a0, a1, a2, a3, f137 m a2 a3] [(1, s32 (((mu (mu m (m a0 6) (f137 m a2 a3) (s32 a1)) ((mu m (m a0 6) (f137 m a2 a3) (s32 a1)) a0 2) a1 (s32 a2)) ((mu (mu m (m a0 6) (f137 m a2 a3) (s32 a1)) ((mu m (m a0 6) (f137 m a2 a3) (s32 a1)) a0 2) a1 (s32 a2)) a0 3) a1) + 1)), (1, a1), (1, (mu (mu m (m a0 6) (f137 m a2 a3) (s32 a1)) ((mu m (m a0 6) (f137 m a2 a3) (s32 a1)) a0 2) a1 (s32 a2)) a0 3)] (mu (mu m (m a0 6) (f137 m a2 a3) (s32 a1)) ((mu m (m a0 6) (f137 m a2 a3) (s32 a1)) a0 2) a1 (s32 a2)) (ig, rl, m') := h
        have h := CR_iastore_ h rfl
        have h : MR X ρ 5 0 0 qP138 N 60 [a0, a1, a2, a3, f137 m a2 a3] [] (mu (mu (mu m (m a0 6) (f137 m a2 a3) (s32 a1)) ((mu m (m a0 6) (f137 m a2 a3) (s32 a1)) a0 2) a1 (s32 a2)) ((mu (mu m (m a0 6) (f137 m a2 a3) (s32 a1)) ((mu m (m a0 6) (f137 m a2 a3) (s32 a1)) a0 2) a1 (s32 a2)) a0 3) a1 (s32 (s32 (((mu (mu m (m a0 6) (f137 m a2 a3) (s32 a1)) ((mu m (m a0 6) (f137 m a2 a3) (s32 a1)) a0 2) a1 (s32 a2)) ((mu (mu m (m a0 6) (f137 m a2 a3) (s32 a1)) ((mu m (m a0 6) (f137 m a2 a3) (s32 a1)) a0 2) a1 (s32 a2)) a0 3) a1) + 1)))) (ig, rl, m') := h
        have h := CR_aload_n h rfl
        have h : MR X ρ 5 0 0 qP138 N 61 [a0, a1, a2, a3, f137 m a2 a3] [(1, a0)] (mu (mu (mu m (m a0 6) (f137 m a2 a3) (s32 a1)) ((mu m (m a0 6) (f137 m a2 a3) (s32 a1)) a0 2) a1 (s32 a2)) ((mu (mu m (m a0 6) (f137 m a2 a3) (s32 a1)) ((mu m (m a0 6) (f137 m a2 a3) (s32 a1)) a0 2) a1 (s32 a2)) a0 3) a1 (s32 (s32 (((mu (mu m (m a0 6) (f137 m a2 a3) (s32 a1)) ((mu m (m a0 6) (f137 m a2 a3) (s32 a1)) a0 2) a1 (s32 a2)) ((mu (mu m (m a0 6) (f137 m a2 a3) (s32 a1)) ((mu m (m a0 6) (f137 m a2 a3) (s32 a1)) a0 2) a1 (s32 a2)) a0 3) a1) + 1)))) (ig, rl, m') := h
        have h := CR_iload_n h rfl
        have h : MR X ρ 5 0 0 qP138 N 62 [a0, a1, a2, a3, f137 m a2 a3] [(1, a2), (1, a0)] (mu (mu (mu m (m a0 6) (f137 m a2 a3) (s32 a1)) ((mu m (m a0 6) (f137 m a2 a3) (s32 a1)) a0 2) a1 (s32 a2)) ((mu (mu m (m a0 6) (f137 m a2 a3) (s32 a1)) ((mu m (m a0 6) (f137 m a2 a3) (s32 a1)) a0 2) a1 (s32 a2)) a0 3) a1 (s32 (s32 (((mu (mu m (m a0 6) (f137 m a2 a3) (s32 a1)) ((mu m (m a0 6) (f137 m a2 a3) (s32 a1)) a0 2) a1 (s32 a2)) ((mu (mu m (m a0 6) (f137 m a2 a3) (s32 a1)) ((mu m (m a0 6) (f137 m a2 a3) (s32 a1)) a0 2) a1 (s32 a2)) a0 3) a1) + 1)))) (ig, rl, m') := h
        obtain ⟨r19, m20, q21, h⟩ := MR_invV h rfl rfl
        have q21 : Run X ρ 134 [(1, a0), (1, a2)] (mu (mu (mu m (m a0 6) (f137 m a2 a3) (s32 a1)) ((mu m (m a0 6) (f137 m a2 a3) (s32 a1)) a0 2) a1 (s32 a2)) ((mu (mu m (m a0 6) (f137 m a2 a3) (s32 a1)) ((mu m (m a0 6) (f137 m a2 a3) (s32 a1)) a0 2) a1 (s32 a2)) a0 3) a1 (s32 (s32 (((mu (mu m (m a0 6) (f137 m a2 a3) (s32 a1)) ((mu m (m a0 6) (f137 m a2 a3) (s32 a1)) a0 2) a1 (s32 a2)) ((mu (mu m (m a0 6) (f137 m a2 a3) (s32 a1)) ((mu m (m a0 6) (f137 m a2 a3) (s32 a1)) a0 2) a1 (s32 a2)) a0 3) a1) + 1)))) r19 m20 := q21
        obtain ⟨e22, e23⟩ := d134 q21
        rw [e22, e23] at h
        have h : MR X ρ 5 0 0 qP138 N 65 [a0, a1, a2, a3, f137 m a2 a3] [(1, f134 (mu (mu (mu m (m a0 6) (f137 m a2 a3) (s32 a1)) ((mu m (m a0 6) (f137 m a2 a3) (s32 a1)) a0 2) a1 (s32 a2)) ((mu (mu m (m a0 6) (f137 m a2 a3) (s32 a1)) ((mu m (m a0 6) (f137 m a2 a3) (s32 a1)) a0 2) a1 (s32 a2)) a0 3) a1 (s32 (s32 (((mu (mu m (m a0 6) (f137 m a2 a3) (s32 a1)) ((mu m (m a0 6) (f137 m a2 a3) (s32 a1)) a0 2) a1 (s32 a2)) ((mu (mu m (m a0 6) (f137 m a2 a3) (s32 a1)) ((mu m (m a0 6) (f137 m a2 a3) (s32 a1)) a0 2) a1 (s32 a2)) a0 3) a1) + 1)))) a0 a2)] (mu (mu (mu m (m a0 6) (f137 m a2 a3) (s32 a1)) ((mu m (m a0 6) (f137 m a2 a3) (s32 a1)) a0 2) a1 (s32 a2)) ((mu (mu m (m a0 6) (f137 m a2 a3) (s32 a1)) ((mu m (m a0 6) (f137 m a2 a3) (s32 a1)) a0 2) a1 (s32 a2)) a0 3) a1 (s32 (s32 (((mu (mu m (m a0 6) (f137 m a2 a3) (s32 a1)) ((mu m (m a0 6) (f137 m a2 a3) (s32 a1)) a0 2) a1 (s32 a2)) ((mu (mu m (m a0 6) (f137 m a2 a3) (s32 a1)) ((mu m (m a0 6) (f137 m a2 a3) (s32 a1)) a0 2) a1 (s32 a2)) a0 3) a1) + 1)))) (ig, rl, m') := h
        have h := CR_iconst h rfl rfl
        have h : MR X ρ 5 0 0 qP138 N 66 [a0, a1, a2, a3, f137 m a2 a3] [(1, 3), (1, f134 (mu (mu (mu m (m a0 6) (f137 m a2 a3) (s32 a1)) ((mu m (m a0 6) (f137 m a2 a3) (s32 a1)) a0 2) a1 (s32 a2)) ((mu (mu m (m a0 6) (f137 m a2 a3) (s32 a1)) ((mu m (m a0 6) (f137 m a2 a3) (s32 a1)) a0 2) a1 (s32 a2)) a0 3) a1 (s32 (s32 (((mu (mu m (m a0 6) (f137 m a2 a3) (s32 a1)) ((mu m (m a0 6) (f137 m a2 a3) (s32 a1)) a0 2) a1 (s32 a2)) ((mu (mu m (m a0 6) (f137 m a2 a3) (s32 a1)) ((mu m (m a0 6) (f137 m a2 a3) (s32 a1)) a0 2) a1 (s32 a2)) a0 3) a1) + 1)))) a0 a2)] (mu (mu (mu m (m a0 6) (f137 m a2 a3) (s32 a1)) ((mu m (m a0 6) (f137 m a2 a3) (s32 a1)) a0 2) a1 (s32 a2)) ((mu (mu m (m a0 6) (f137 m a2 a3) (s32 a1)) ((mu m (m a0 6) (f137 m a2 a3) (s32 a1)) a0 2) a1 (s32 a2)) a0 3) a1 (s32 (s32 (((mu (mu m (m a0 6) (f137 m a2 a3) (s32 a1)) ((mu m (m a0 6) (f137 m a2 a3) (s32 a1)) a0 2) a1 (s32 a2)) ((mu (mu m (m a0 6) (f137 m a2 a3) (s32 a1)) ((mu m (m a0 6) (f137 m a2 a3) (s32 a1)) a0 2) a1 (s32 a2)) a0 3) a1) + 1)))) (ig, rl, m') := h
        rcases MR_icmp h rfl rfl with ⟨c24, h⟩ | ⟨c24, h⟩
        ·
          have c24 : ¬ ((f134 (mu (mu (mu m (m a0 6) (f137 m a2 a3) (s32 a1)) ((mu m (m a0 6) (f137 m a2 a3) (s32 a1)) a0 2) a1 (s32 a2)) ((mu (mu m (m a0 6) (f137 m a2 a3) (s32 a1)) ((mu m (m a0 6) (f137 m a2 a3) (s32 a1)) a0 2) a1 (s32 a2)) a0 3) a1 (s32 (s32 (((mu (mu m (m a0 6) (f137 m a2 a3) (s32 a1)) ((mu m (m a0 6) (f137 m a2 a3) (s32 a1)) a0 2) a1 (s32 a2)) ((mu (mu m (m a0 6) (f137 m a2 a3) (s32 a1)) ((mu m (m a0 6) (f137 m a2 a3) (s32 a1)) a0 2) a1 (s32 a2)) a0 3) a1) + 1)))) a0 a2) = 3) := c24
          have h : MR X ρ 5 0 0 qP138 N 90 [a0, a1, a2, a3, f137 m a2 a3] [] (mu (mu (mu m (m a0 6) (f137 m a2 a3) (s32 a1)) ((mu m (m a0 6) (f137 m a2 a3) (s32 a1)) a0 2) a1 (s32 a2)) ((mu (mu m (m a0 6) (f137 m a2 a3) (s32 a1)) ((mu m (m a0 6) (f137 m a2 a3) (s32 a1)) a0 2) a1 (s32 a2)) a0 3) a1 (s32 (s32 (((mu (mu m (m a0 6) (f137 m a2 a3) (s32 a1)) ((mu m (m a0 6) (f137 m a2 a3) (s32 a1)) a0 2) a1 (s32 a2)) ((mu (mu m (m a0 6) (f137 m a2 a3) (s32 a1)) ((mu m (m a0 6) (f137 m a2 a3) (s32 a1)) a0 2) a1 (s32 a2)) a0 3) a1) + 1)))) (ig, rl, m') := h
          have e := CR_end h rfl rfl
          cases e
          exact ⟨rfl, Eq.symm (show g138 m a0 a1 a2 a3 = _ from (if_neg c6).trans ((if_neg c12).trans ((if_neg c18).trans ((if_neg c24).trans (rfl)))))⟩
        ·
          have c24 : (f134 (mu (mu (mu m (m a0 6) (f137 m a2 a3) (s32 a1)) ((mu m (m a0 6) (f137 m a2 a3) (s32 a1)) a0 2) a1 (s32 a2)) ((mu (mu m (m a0 6) (f137 m a2 a3) (s32 a1)) ((mu m (m a0 6) (f137 m a2 a3) (s32 a1)) a0 2) a1 (s32 a2)) a0 3) a1 (s32 (s32 (((mu (mu m (m a0 6) (f137 m a2 a3) (s32 a1)) ((mu m (m a0 6) (f137 m a2 a3) (s32 a1)) a0 2) a1 (s32 a2)) ((mu (mu m (m a0 6) (f137 m a2 a3) (s32 a1)) ((mu m (m a0 6) (f137 m a2 a3) (s32 a1)) a0 2) a1 (s32 a2)) a0 3) a1) + 1)))) a0 a2) = 3 := Decidable.of_not_not (show ¬ ¬ ((f134 (mu (mu (mu m (m a0 6) (f137 m a2 a3) (s32 a1)) ((mu m (m a0 6) (f137 m a2 a3) (s32 a1)) a0 2) a1 (s32 a2)) ((mu (mu m (m a0 6) (f137 m a2 a3) (s32 a1)) ((mu m (m a0 6) (f137 m a2 a3) (s32 a1)) a0 2) a1 (s32 a2)) a0 3) a1 (s32 (s32 (((mu (mu m (m a0 6) (f137 m a2 a3) (s32 a1)) ((mu m (m a0 6) (f137 m a2 a3) (s32 a1)) a0 2) a1 (s32 a2)) ((mu (mu m (m a0 6) (f137 m a2 a3) (s32 a1)) ((mu m (m a0 6) (f137 m a2 a3) (s32 a1)) a0 2) a1 (s32 a2)) a0 3) a1) + 1)))) a0 a2) = 3) from c24)
          have h : MR X ρ 5 0 0 qP138 N 69 [a0, a1, a2, a3, f137 m a2 a3] [] (mu (mu (mu m (m a0 6) (f137 m a2 a3) (s32 a1)) ((mu m (m a0 6) (f137 m a2 a3) (s32 a1)) a0 2) a1 (s32 a2)) ((mu (mu m (m a0 6) (f137 m a2 a3) (s32 a1)) ((mu m (m a0 6) (f137 m a2 a3) (s32 a1)) a0 2) a1 (s32 a2)) a0 3) a1 (s32 (s32 (((mu (mu m (m a0 6) (f137 m a2 a3) (s32 a1)) ((mu m (m a0 6) (f137 m a2 a3) (s32 a1)) a0 2) a1 (s32 a2)) ((mu (mu m (m a0 6) (f137 m a2 a3) (s32 a1)) ((mu m (m a0 6) (f137 m a2 a3) (s32 a1)) a0 2) a1 (s32 a2)) a0 3) a1) + 1)))) (ig, rl, m') := h
          have h := CR_aload_n h rfl
          have h : MR X ρ 5 0 0 qP138 N 70 [a0, a1, a2, a3, f137 m a2 a3] [(1, a0)] (mu (mu (mu m (m a0 6) (f137 m a2 a3) (s32 a1)) ((mu m (m a0 6) (f137 m a2 a3) (s32 a1)) a0 2) a1 (s32 a2)) ((mu (mu m (m a0 6) (f137 m a2 a3) (s32 a1)) ((mu m (m a0 6) (f137 m a2 a3) (s32 a1)) a0 2) a1 (s32 a2)) a0 3) a1 (s32 (s32 (((mu (mu m (m a0 6) (f137 m a2 a3) (s32 a1)) ((mu m (m a0 6) (f137 m a2 a3) (s32 a1)) a0 2) a1 (s32 a2)) ((mu (mu m (m a0 6) (f137 m a2 a3) (s32 a1)) ((mu m (m a0 6) (f137 m a2 a3) (s32 a1)) a0 2) a1 (s32 a2)) a0 3) a1) + 1)))) (ig, rl, m') := h
          have h := CR_getf h rfl (by decide)
          have h : MR X ρ 5 0 0 qP138 N 73 [a0, a1, a2, a3, f137 m a2 a3] [(1, (mu (mu (mu m (m a0 6) (f137 m a2 a3) (s32 a1)) ((mu m (m a0 6) (f137 m a2 a3) (s32 a1)) a0 2) a1 (s32 a2)) ((mu (mu m (m a0 6) (f137 m a2 a3) (s32 a1)) ((mu m (m a0 6) (f137 m a2 a3) (s32 a1)) a0 2) a1 (s32 a2)) a0 3) a1 (s32 (s32 (((mu (mu m (m a0 6) (f137 m a2 a3) (s32 a1)) ((mu m (m a0 6) (f137 m a2 a3) (s32 a1)) a0 2) a1 (s32 a2)) ((mu (mu m (m a0 6) (f137 m a2 a3) (s32 a1)) ((mu m (m a0 6) (f137 m a2 a3) (s32 a1)) a0 2) a1 (s32 a2)) a0 3) a1) + 1)))) a0 4)] (mu (mu (mu m (m a0 6) (f137 m a2 a3) (s32 a1)) ((mu m (m a0 6) (f137 m a2 a3) (s32 a1)) a0 2) a1 (s32 a2)) ((mu (mu m (m a0 6) (f137 m a2 a3) (s32 a1)) ((mu m (m a0 6) (f137 m a2 a3) (s32 a1)) a0 2) a1 (s32 a2)) a0 3) a1 (s32 (s32 (((mu (mu m (m a0 6) (f137 m a2 a3) (s32 a1)) ((mu m (m a0 6) (f137 m a2 a3) (s32 a1)) a0 2) a1 (s32 a2)) ((mu (mu m (m a0 6) (f137 m a2 a3) (s32 a1)) ((mu m (m a0 6) (f137 m a2 a3) (s32 a1)) a0 2) a1 (s32 a2)) a0 3) a1) + 1)))) (ig, rl, m') := h
          have h := CR_iload_n h rfl
          have h : MR X ρ 5 0 0 qP138 N 74 [a0, a1, a2, a3, f137 m a2 a3] [(1, a2), (1, (mu (mu (mu m (m a0 6) (f137 m a2 a3) (s32 a1)) ((mu m (m a0 6) (f137 m a2 a3) (s32 a1)) a0 2) a1 (s32 a2)) ((mu (mu m (m a0 6) (f137 m a2 a3) (s32 a1)) ((mu m (m a0 6) (f137 m a2 a3) (s32 a1)) a0 2) a1 (s32 a2)) a0 3) a1 (s32 (s32 (((mu (mu m (m a0 6) (f137 m a2 a3) (s32 a1)) ((mu m (m a0 6) (f137 m a2 a3) (s32 a1)) a0 2) a1 (s32 a2)) ((mu (mu m (m a0 6) (f137 m a2 a3) (s32 a1)) ((mu m (m a0 6) (f137 m a2 a3) (s32 a1)) a0 2) a1 (s32 a2)) a0 3) a1) + 1)))) a0 4)] (mu (mu (mu m (m a0 6) (f137 m a2 a3) (s32 a1)) ((mu m (m a0 6) (f137 m a2 a3) (s32 a1)) a0 2) a1 (s32 a2)) ((mu (mu m (m a0 6) (f137 m a2 a3) (s32 a1)) ((mu m (m a0 6) (f137 m a2 a3) (s32 a1)) a0 2) a1 (s32 a2)) a0 3) a1 (s32 (s32 (((mu (mu m (m a0 6) (f137 m a2 a3) (s32 a1)) ((mu m (m a0 6) (f137 m a2 a3) (s32 a1)) a0 2) a1 (s32 a2)) ((mu (mu m (m a0 6) (f137 m a2 a3) (s32 a1)) ((mu m (m a0 6) (f137 m a2 a3) (s32 a1)) a0 2) a1 (s32 a2)) a0 3) a1) + 1)))) (ig, rl, m') := h
          have h := CR_iconst h rfl rfl
          have h : MR X ρ 5 0 0 qP138 N 75 [a0, a1, a2, a3, f137 m a2 a3] [(1, 1), (1, a2), (1, (mu (mu (mu m (m a0 6) (f137 m a2 a3) (s32 a1)) ((mu m (m a0 6) (f137 m a2 a3) (s32 a1)) a0 2) a1 (s32 a2)) ((mu (mu m (m a0 6) (f137 m a2 a3) (s32 a1)) ((mu m (m a0 6) (f137 m a2 a3) (s32 a1)) a0 2) a1 (s32 a2)) a0 3) a1 (s32 (s32 (((mu (mu m (m a0 6) (f137 m a2 a3) (s32 a1)) ((mu m (m a0 6) (f137 m a2 a3) (s32 a1)) a0 2) a1 (s32 a2)) ((mu (mu m (m a0 6) (f137 m a2 a3) (s32 a1)) ((mu m (m a0 6) (f137 m a2 a3) (s32 a1)) a0 2) a1 (s32 a2)) a0 3) a1) + 1)))) a0 4)] (mu (mu (mu m (m a0 6) (f137 m a2 a3) (s32 a1)) ((mu m (m a0 6) (f137 m a2 a3) (s32 a1)) a0 2) a1 (s32 a2)) ((mu (mu m (m a0 6) (f137 m a2 a3) (s32 a1)) ((mu m (m a0 6) (f137 m a2 a3) (s32 a1)) a0 2) a1 (s32 a2)) a0 3) a1 (s32 (s32 (((mu (mu m (m a0 6) (f137 m a2 a3) (s32 a1)) ((mu m (m a0 6) (f137 m a2 a3) (s32 a1)) a0 2) a1 (s32 a2)) ((mu (mu m (m a0 6) (f137 m a2 a3) (s32 a1)) ((mu m (m a0 6) (f137 m a2 a3) (s32 a1)) a0 2) a1 (s32 a2)) a0 3) a1) + 1)))) (ig, rl, m') := h
          have h := CR_iastore_ h rfl
          have h : MR X ρ 5 0 0 qP138 N 76 [a0, a1, a2, a3, f137 m a2 a3] [] (mu (mu (mu (mu m (m a0 6) (f137 m a2 a3) (s32 a1)) ((mu m (m a0 6) (f137 m a2 a3) (s32 a1)) a0 2) a1 (s32 a2)) ((mu (mu m (m a0 6) (f137 m a2 a3) (s32 a1)) ((mu m (m a0 6) (f137 m a2 a3) (s32 a1)) a0 2) a1 (s32 a2)) a0 3) a1 (s32 (s32 (((mu (mu m (m a0 6) (f137 m a2 a3) (s32 a1)) ((mu m (m a0 6) (f137 m a2 a3) (s32 a1)) a0 2) a1 (s32 a2)) ((mu (mu m (m a0 6) (f137 m a2 a3) (s32 a1)) ((mu m (m a0 6) (f137 m a2 a3) (s32 a1)) a0 2) a1 (s32 a2)) a0 3) a1) + 1)))) ((mu (mu (mu m (m a0 6) (f137 m a2 a3) (s32 a1)) ((mu m (m a0 6) (f137 m a2 a3) (s32 a1)) a0 2) a1 (s32 a2)) ((mu (mu m (m a0 6) (f137 m a2 a3) (s32 a1)) ((mu m (m a0 6) (f137 m a2 a3) (s32 a1)) a0 2) a1 (s32 a2)) a0 3) a1 (s32 (s32 (((mu (mu m (m a0 6) (f137 m a2 a3) (s32 a1)) ((mu m (m a0 6) (f137 m a2 a3) (s32 a1)) a0 2) a1 (s32 a2)) ((mu (mu m (m a0 6) (f137 m a2 a3) (s32 a1)) ((mu m (m a0 6) (f137 m a2 a3) (s32 a1)) a0 2) a1 (s32 a2)) a0 3) a1) + 1)))) a0 4) a2 (s32 1)) (ig, rl, m') := h
          have h := CR_aload_n h rfl
          have h : MR X ρ 5 0 0 qP138 N 77 [a0, a1, a2, a3, f137 m a2 a3] [(1, a0)] (mu (mu (mu (mu m (m a0 6) (f137 m a2 a3) (s32 a1)) ((mu m (m a0 6) (f137 m a2 a3) (s32 a1)) a0 2) a1 (s32 a2)) ((mu (mu m (m a0 6) (f137 m a2 a3) (s32 a1)) ((mu m (m a0 6) (f137 m a2 a3) (s32 a1)) a0 2) a1 (s32 a2)) a0 3) a1 (s32 (s32 (((mu (mu m (m a0 6) (f137 m a2 a3) (s32 a1)) ((mu m (m a0 6) (f137 m a2 a3) (s32 a1)) a0 2) a1 (s32 a2)) ((mu (mu m (m a0 6) (f137 m a2 a3) (s32 a1)) ((mu m (m a0 6) (f137 m a2 a3) (s32 a1)) a0 2) a1 (s32 a2)) a0 3) a1) + 1)))) ((mu (mu (mu m (m a0 6) (f137 m a2 a3) (s32 a1)) ((mu m (m a0 6) (f137 m a2 a3) (s32 a1)) a0 2) a1 (s32 a2)) ((mu (mu m (m a0 6) (f137 m a2 a3) (s32 a1)) ((mu m (m a0 6) (f137 m a2 a3) (s32 a1)) a0 2) a1 (s32 a2)) a0 3) a1 (s32 (s32 (((mu (mu m (m a0 6) (f137 m a2 a3) (s32 a1)) ((mu m (m a0 6) (f137 m a2 a3) (s32 a1)) a0 2) a1 (s32 a2)) ((mu (mu m (m a0 6) (f137 m a2 a3) (s32 a1)) ((mu m (m a0 6) (f137 m a2 a3) (s32 a1)) a0 2) a1 (s32 a2)) a0 3) a1) + 1)))) a0 4) a2 (s32 1)) (ig, rl, m') := h
          have h := CR_getf h rfl (by decide)
          have h : MR X ρ 5 0 0 qP138 N 80 [a0, a1, a2, a3, f137 m a2 a3] [(1, (mu (mu (mu (mu m (m a0 6) (f137 m a2 a3) (s32 a1)) ((mu m (m a0 6) (f137 m a2 a3) (s32 a1)) a0 2) a1 (s32 a2)) ((mu (mu m (m a0 6) (f137 m a2 a3) (s32 a1)) ((mu m (m a0 6) (f137 m a2 a3) (s32 a1)) a0 2) a1 (s32 a2)) a0 3) a1 (s32 (s32 (((mu (mu m (m a0 6) (f137 m a2 a3) (s32 a1)) ((mu m (m a0 6) (f137 m a2 a3) (s32 a1)) a0 2) a1 (s32 a2)) ((mu (mu m (m a0 6) (f137 m a2 a3) (s32 a1)) ((mu m (m a0 6) (f137 m a2 a3) (s32 a1)) a0 2) a1 (s32 a2)) a0 3) a1) + 1)))) ((mu (mu (mu m (m a0 6) (f137 m a2 a3) (s32 a1)) ((mu m (m a0 6) (f137 m a2 a3) (s32 a1)) a0 2) a1 (s32 a2)) ((mu (mu m (m a0 6) (f137 m a2 a3) (s32 a1)) ((mu m (m a0 6) (f137 m a2 a3) (s32 a1)) a0 2) a1 (s32 a2)) a0 3) a1 (s32 (s32 (((mu (mu m (m a0 6) (f137 m a2 a3) (s32 a1)) ((mu m (m a0 6) (f137 m a2 a3) (s32 a1)) a0 2) a1 (s32 a2)) ((mu (mu m (m a0 6) (f137 m a2 a3) (s32 a1)) ((mu m (m a0 6) (f137 m a2 a3) (s32 a1)) a0 2) a1 (s32 a2)) a0 3) a1) + 1)))) a0 4) a2 (s32 1)) a0 5)] (mu (mu (mu (mu m (m a0 6) (f137 m a2 a3) (s32 a1)) ((mu m (m a0 6) (f137 m a2 a3) (s32 a1)) a0 2) a1 (s32 a2)) ((mu (mu m (m a0 6) (f137 m a2 a3) (s32 a1)) ((mu m (m a0 6) (f137 m a2 a3) (s32 a1)) a0 2) a1 (s32 a2)) a0 3) a1 (s32 (s32 (((mu (mu m (m a0 6) (f137 m a2 a3) (s32 a1)) ((mu m (m a0 6) (f137 m a2 a3) (s32 a1)) a0 2) a1 (s32 a2)) ((mu (mu m (m a0 6) (f137 m a2 a3) (s32 a1)) ((mu m (m a0 6) (f137 m a2 a3) (s32 a1)) a0 2) a1 (s32 a2)) a0 3) a1) + 1)))) ((mu (mu (mu m (m a0 6) (f137 m a2 a3) (s32 a1)) ((mu m (m a0 6) (f137 m a2 a3) (s32 a1)) a0 2) a1 (s32 a2)) ((mu (mu m (m a0 6) (f137 m a2 a3) (s32 a1)) ((mu m (m a0 6) (f137 m a2 a3) (s32 a1)) a0 2) a1 (s32 a2)) a0 3) a1 (s32 (s32 (((mu (mu m (m a0 6) (f137 m a2 a3) (s32 a1)) ((mu m (m a0 6) (f137 m a2 a3) (s32 a1)) a0 2) a1 (s32 a2)) ((mu (mu m (m a0 6) (f137 m a2 a3) (s32 a1)) ((mu m (m a0 6) (f137 m a2 a3) (s32 a1)) a0 2) a1 (s32 a2)) a0 3) a1) + 1)))) a0 4) a2 (s32 1)) (ig, rl, m') := h
          have h := CR_iload_n h rfl
          have h : MR X ρ 5 0 0 qP138 N 81 [a0, a1, a2, a3, f137 m a2 a3] [(1, a2), (1, (mu (mu (mu (mu m (m a0 6) (f137 m a2 a3) (s32 a1)) ((mu m (m a0 6) (f137 m a2 a3) (s32 a1)) a0 2) a1 (s32 a2)) ((mu (mu m (m a0 6) (f137 m a2 a3) (s32 a1)) ((mu m (m a0 6) (f137 m a2 a3) (s32 a1)) a0 2) a1 (s32 a2)) a0 3) a1 (s32 (s32 (((mu (mu m (m a0 6) (f137 m a2 a3) (s32 a1)) ((mu m (m a0 6) (f137 m a2 a3) (s32 a1)) a0 2) a1 (s32 a2)) ((mu (mu m (m a0 6) (f137 m a2 a3) (s32 a1)) ((mu m (m a0 6) (f137 m a2 a3) (s32 a1)) a0 2) a1 (s32 a2)) a0 3) a1) + 1)))) ((mu (mu (mu m (m a0 6) (f137 m a2 a3) (s32 a1)) ((mu m (m a0 6) (f137 m a2 a3) (s32 a1)) a0 2) a1 (s32 a2)) ((mu (mu m (m a0 6) (f137 m a2 a3) (s32 a1)) ((mu m (m a0 6) (f137 m a2 a3) (s32 a1)) a0 2) a1 (s32 a2)) a0 3) a1 (s32 (s32 (((mu (mu m (m a0 6) (f137 m a2 a3) (s32 a1)) ((mu m (m a0 6) (f137 m a2 a3) (s32 a1)) a0 2) a1 (s32 a2)) ((mu (mu m (m a0 6) (f137 m a2 a3) (s32 a1)) ((mu m (m a0 6) (f137 m a2 a3) (s32 a1)) a0 2) a1 (s32 a2)) a0 3) a1) + 1)))) a0 4) a2 (s32 1)) a0 5)] (mu (mu (mu (mu m (m a0 6) (f137 m a2 a3) (s32 a1)) ((mu m (m a0 6) (f137 m a2 a3) (s32 a1)) a0 2) a1 (s32 a2)) ((mu (mu m (m a0 6) (f137 m a2 a3) (s32 a1)) ((mu m (m a0 6) (f137 m a2 a3) (s32 a1)) a0 2) a1 (s32 a2)) a0 3) a1 (s32 (s32 (((mu (mu m (m a0 6) (f137 m a2 a3) (s32 a1)) ((mu m (m a0 6) (f137 m a2 a3) (s32 a1)) a0 2) a1 (s32 a2)) ((mu (mu m (m a0 6) (f137 m a2 a3) (s32 a1)) ((mu m (m a0 6) (f137 m a2 a3) (s32 a1)) a0 2) a1 (s32 a2)) a0 3) a1) + 1)))) ((mu (mu (mu m (m a0 6) (f137 m a2 a3) (s32 a1)) ((mu m (m a0 6) (f137 m a2 a3) (s32 a1)) a0 2) a1 (s32 a2)) ((mu (mu m (m a0 6) (f137 m a2 a3) (s32 a1)) ((mu m (m a0 6) (f137 m a2 a3) (s32 a1)) a0 2) a1 (s32 a2)) a0 3) a1 (s32 (s32 (((mu (mu m (m a0 6) (f137 m a2 a3) (s32 a1)) ((mu m (m a0 6) (f137 m a2 a3) (s32 a1)) a0 2) a1 (s32 a2)) ((mu (mu m (m a0 6) (f137 m a2 a3) (s32 a1)) ((mu m (m a0 6) (f137 m a2 a3) (s32 a1)) a0 2) a1 (s32 a2)) a0 3) a1) + 1)))) a0 4) a2 (s32 1)) (ig, rl, m') := h
          have h := CR_aload_n h rfl
          have h : MR X ρ 5 0 0 qP138 N 82 [a0, a1, a2, a3, f137 m a2 a3] [(1, a0), (1, a2), (1, (mu (mu (mu (mu m (m a0 6) (f137 m a2 a3) (s32 a1)) ((mu m (m a0 6) (f137 m a2 a3) (s32 a1)) a0 2) a1 (s32 a2)) ((mu (mu m (m a0 6) (f137 m a2 a3) (s32 a1)) ((mu m (m a0 6) (f137 m a2 a3) (s32 a1)) a0 2) a1 (s32 a2)) a0 3) a1 (s32 (s32 (((mu (mu m (m a0 6) (f137 m a2 a3) (s32 a1)) ((mu m (m a0 6) (f137 m a2 a3) (s32 a1)) a0 2) a1 (s32 a2)) ((mu (mu m (m a0 6) (f137 m a2 a3) (s32 a1)) ((mu m (m a0 6) (f137 m a2 a3) (s32 a1)) a0 2) a1 (s32 a2)) a0 3) a1) + 1)))) ((mu (mu (mu m (m a0 6) (f137 m a2 a3) (s32 a1)) ((mu m (m a0 6) (f137 m a2 a3) (s32 a1)) a0 2) a1 (s32 a2)) ((mu (mu m (m a0 6) (f137 m a2 a3) (s32 a1)) ((mu m (m a0 6) (f137 m a2 a3) (s32 a1)) a0 2) a1 (s32 a2)) a0 3) a1 (s32 (s32 (((mu (mu m (m a0 6) (f137 m a2 a3) (s32 a1)) ((mu m (m a0 6) (f137 m a2 a3) (s32 a1)) a0 2) a1 (s32 a2)) ((mu (mu m (m a0 6) (f137 m a2 a3) (s32 a1)) ((mu m (m a0 6) (f137 m a2 a3) (s32 a1)) a0 2) a1 (s32 a2)) a0 3) a1) + 1)))) a0 4) a2 (s32 1)) a0 5)] (mu (mu (mu (mu m (m a0 6) (f137 m a2 a3) (s32 a1)) ((mu m (m a0 6) (f137 m a2 a3) (s32 a1)) a0 2) a1 (s32 a2)) ((mu (mu m (m a0 6) (f137 m a2 a3) (s32 a1)) ((mu m (m a0 6) (f137 m a2 a3) (s32 a1)) a0 2) a1 (s32 a2)) a0 3) a1 (s32 (s32 (((mu (mu m (m a0 6) (f137 m a2 a3) (s32 a1)) ((mu m (m a0 6) (f137 m a2 a3) (s32 a1)) a0 2) a1 (s32 a2)) ((mu (mu m (m a0 6) (f137 m a2 a3) (s32 a1)) ((mu m (m a0 6) (f137 m a2 a3) (s32 a1)) a0 2) a1 (s32 a2)) a0 3) a1) + 1)))) ((mu (mu (mu m (m a0 6) (f137 m a2 a3) (s32 a1)) ((mu m (m a0 6) (f137 m a2 a3) (s32 a1)) a0 2) a1 (s32 a2)) ((mu (mu m (m a0 6) (f137 m a2 a3) (s32 a1)) ((mu m (m a0 6) (f137 m a2 a3) (s32 a1)) a0 2) a1 (s32 a2)) a0 3) a1 (s32 (s32 (((mu (mu m (m a0 6) (f137 m a2 a3) (s32 a1)) ((mu m (m a0 6) (f137 m a2 a3) (s32 a1)) a0 2) a1 (s32 a2)) ((mu (mu m (m a0 6) (f137 m a2 a3) (s32 a1)) ((mu m (m a0 6) (f137 m a2 a3) (s32 a1)) a0 2) a1 (s32 a2)) a0 3) a1) + 1)))) a0 4) a2 (s32 1)) (ig, rl, m') := h
          have h := CR_getf h rfl (by decide)
          have h : MR X ρ 5 0 0 qP138 N 85 [a0, a1, a2, a3, f137 m a2 a3] [(1, (mu (mu (mu (mu m (m a0 6) (f137 m a2 a3) (s32 a1)) ((mu m (m a0 6) (f137 m a2 a3) (s32 a1)) a0 2) a1 (s32 a2)) ((mu (mu m (m a0 6) (f137 m a2 a3) (s32 a1)) ((mu m (m a0 6) (f137 m a2 a3) (s32 a1)) a0 2) a1 (s32 a2)) a0 3) a1 (s32 (s32 (((mu (mu m (m a0 6) (f137 m a2 a3) (s32 a1)) ((mu m (m a0 6) (f137 m a2 a3) (s32 a1)) a0 2) a1 (s32 a2)) ((mu (mu m (m a0 6) (f137 m a2 a3) (s32 a1)) ((mu m (m a0 6) (f137 m a2 a3) (s32 a1)) a0 2) a1 (s32 a2)) a0 3) a1) + 1)))) ((mu (mu (mu m (m a0 6) (f137 m a2 a3) (s32 a1)) ((mu m (m a0 6) (f137 m a2 a3) (s32 a1)) a0 2) a1 (s32 a2)) ((mu (mu m (m a0 6) (f137 m a2 a3) (s32 a1)) ((mu m (m a0 6) (f137 m a2 a3) (s32 a1)) a0 2) a1 (s32 a2)) a0 3) a1 (s32 (s32 (((mu (mu m (m a0 6) (f137 m a2 a3) (s32 a1)) ((mu m (m a0 6) (f137 m a2 a3) (s32 a1)) a0 2) a1 (s32 a2)) ((mu (mu m (m a0 6) (f137 m a2 a3) (s32 a1)) ((mu m (m a0 6) (f137 m a2 a3) (s32 a1)) a0 2) a1 (s32 a2)) a0 3) a1) + 1)))) a0 4) a2 (s32 1)) a0 0), (1, a2), (1, (mu (mu (mu (mu m (m a0 6) (f137 m a2 a3) (s32 a1)) ((mu m (m a0 6) (f137 m a2 a3) (s32 a1)) a0 2) a1 (s32 a2)) ((mu (mu m (m a0 6) (f137 m a2 a3) (s32 a1)) ((mu m (m a0 6) (f137 m a2 a3) (s32 a1)) a0 2) a1 (s32 a2)) a0 3) a1 (s32 (s32 (((mu (mu m (m a0 6) (f137 m a2 a3) (s32 a1)) ((mu m (m a0 6) (f137 m a2 a3) (s32 a1)) a0 2) a1 (s32 a2)) ((mu (mu m (m a0 6) (f137 m a2 a3) (s32 a1)) ((mu m (m a0 6) (f137 m a2 a3) (s32 a1)) a0 2) a1 (s32 a2)) a0 3) a1) + 1)))) ((mu (mu (mu m (m a0 6) (f137 m a2 a3) (s32 a1)) ((mu m (m a0 6) (f137 m a2 a3) (s32 a1)) a0 2) a1 (s32 a2)) ((mu (mu m (m a0 6) (f137 m a2 a3) (s32 a1)) ((mu m (m a0 6) (f137 m a2 a3) (s32 a1)) a0 2) a1 (s32 a2)) a0 3) a1 (s32 (s32 (((mu (mu m (m a0 6) (f137 m a2 a3) (s32 a1)) ((mu m (m a0 6) (f137 m a2 a3) (s32 a1)) a0 2) a1 (s32 a2)) ((mu (mu m (m a0 6) (f137 m a2 a3) (s32 a1)) ((mu m (m a0 6) (f137 m a2 a3) (s32 a1)) a0 2) a1 (s32 a2)) a0 3) a1) + 1)))) a0 4) a2 (s32 1)) a0 5)] (mu (mu (mu (mu m (m a0 6) (f137 m a2 a3) (s32 a1)) ((mu m (m a0 6) (f137 m a2 a3) (s32 a1)) a0 2) a1 (s32 a2)) ((mu (mu m (m a0 6) (f137 m a2 a3) (s32 a1)) ((mu m (m a0 6) (f137 m a2 a3) (s32 a1)) a0 2) a1 (s32 a2)) a0 3) a1 (s32 (s32 (((mu (mu m (m a0 6) (f137 m a2 a3) (s32 a1)) ((mu m (m a0 6) (f137 m a2 a3) (s32 a1)) a0 2) a1 (s32 a2)) ((mu (mu m (m a0 6) (f137 m a2 a3) (s32 a1)) ((mu m (m a0 6) (f137 m a2 a3) (s32 a1)) a0 2) a1 (s32 a2)) a0 3) a1) + 1)))) ((mu (mu (mu m (m a0 6) (f137 m a2 a3) (s32 a1)) ((mu m (m a0 6) (f137 m a2 a3) (s32 a1)) a0 2) a1 (s32 a2)) ((mu (mu m (m a0 6) (f137 m a2 a3) (s32 a1)) ((mu m (m a0 6) (f137 m a2 a3) (s32 a1)) a0 2) a1 (s32 a2)) a0 3) a1 (s32 (s32 (((mu (mu m (m a0 6) (f137 m a2 a3) (s32 a1)) ((mu m (m a0 6) (f137 m a2 a3) (s32 a1)) a0 2) a1 (s32 a2)) ((mu (mu m (m a0 6) (f137 m a2 a3) (s32 a1)) ((mu m (m a0 6) (f137 m a2 a3) (s32 a1)) a0 2) a1 (s32 a2)) a0 3) a1) + 1)))) a0 4) a2 (s32 1)) (ig, rl, m') := h
          have h := CR_iload_n h rfl
          have h : MR X ρ 5 0 0 qP138 N 86 [a0, a1, a2, a3, f137 m a2 a3] [(1, a2), (1, (mu (mu (mu (mu m (m a0 6) (f137 m a2 a3) (s32 a1)) ((mu m (m a0 6) (f137 m a2 a3) (s32 a1)) a0 2) a1 (s32 a2)) ((mu (mu m (m a0 6) (f137 m a2 a3) (s32 a1)) ((mu m (m a0 6) (f137 m a2 a3) (s32 a1)) a0 2) a1 (s32 a2)) a0 3) a1 (s32 (s32 (((mu (mu m (m a0 6) (f137 m a2 a3) (s32 a1)) ((mu m (m a0 6) (f137 m a2 a3) (s32 a1)) a0 2) a1 (s32 a2)) ((mu (mu m (m a0 6) (f137 m a2 a3) (s32 a1)) ((mu m (m a0 6) (f137 m a2 a3) (s32 a1)) a0 2) a1 (s32 a2)) a0 3) a1) + 1)))) ((mu (mu (mu m (m a0 6) (f137 m a2 a3) (s32 a1)) ((mu m (m a0 6) (f137 m a2 a3) (s32 a1)) a0 2) a1 (s32 a2)) ((mu (mu m (m a0 6) (f137 m a2 a3) (s32 a1)) ((mu m (m a0 6) (f137 m a2 a3) (s32 a1)) a0 2) a1 (s32 a2)) a0 3) a1 (s32 (s32 (((mu (mu m (m a0 6) (f137 m a2 a3) (s32 a1)) ((mu m (m a0 6) (f137 m a2 a3) (s32 a1)) a0 2) a1 (s32 a2)) ((mu (mu m (m a0 6) (f137 m a2 a3) (s32 a1)) ((mu m (m a0 6) (f137 m a2 a3) (s32 a1)) a0 2) a1 (s32 a2)) a0 3) a1) + 1)))) a0 4) a2 (s32 1)) a0 0), (1, a2), (1, (mu (mu (mu (mu m (m a0 6) (f137 m a2 a3) (s32 a1)) ((mu m (m a0 6) (f137 m a2 a3) (s32 a1)) a0 2) a1 (s32 a2)) ((mu (mu m (m a0 6) (f137 m a2 a3) (s32 a1)) ((mu m (m a0 6) (f137 m a2 a3) (s32 a1)) a0 2) a1 (s32 a2)) a0 3) a1 (s32 (s32 (((mu (mu m (m a0 6) (f137 m a2 a3) (s32 a1)) ((mu m (m a0 6) (f137 m a2 a3) (s32 a1)) a0 2) a1 (s32 a2)) ((mu (mu m (m a0 6) (f137 m a2 a3) (s32 a1)) ((mu m (m a0 6) (f137 m a2 a3) (s32 a1)) a0 2) a1 (s32 a2)) a0 3) a1) + 1)))) ((mu (mu (mu m (m a0 6) (f137 m a2 a3) (s32 a1)) ((mu m (m a0 6) (f137 m a2 a3) (s32 a1)) a0 2) a1 (s32 a2)) ((mu (mu m (m a0 6) (f137 m a2 a3) (s32 a1)) ((mu m (m a0 6) (f137 m a2 a3) (s32 a1)) a0 2) a1 (s32 a2)) a0 3) a1 (s32 (s32 (((mu (mu m (m a0 6) (f137 m a2 a3) (s32 a1)) ((mu m (m a0 6) (f137 m a2 a3) (s32 a1)) a0 2) a1 (s32 a2)) ((mu (mu m (m a0 6) (f137 m a2 a3) (s32 a1)) ((mu m (m a0 6) (f137 m a2 a3) (s32 a1)) a0 2) a1 (s32 a2)) a0 3) a1) + 1)))) a0 4) a2 (s32 1)) a0 5)] (mu (mu (mu (mu m (m a0 6) (f137 m a2 a3) (s32 a1)) ((mu m (m a0 6) (f137 m a2 a3) (s32 a1)) a0 2) a1 (s32 a2)) ((mu (mu m (m a0 6) (f137 m a2 a3) (s32 a1)) ((mu m (m a0 6) (f137 m a2 a3) (s32 a1)) a0 2) a1 (s32 a2)) a0 3) a1 (s32 (s32 (((mu (mu m (m a0 6) (f137 m a2 a3) (s32 a1)) ((mu m (m a0 6) (f137 m a2 a3) (s32 a1)) a0 2) a1 (s32 a2)) ((mu (mu m (m a0 6) (f137 m a2 a3) (s32 a1)) ((mu m (m a0 6) (f137 m a2 a3) (s32 a1)) a0 2) a1 (s32 a2)) a0 3) a1) + 1)))) ((mu (mu (mu m (m a0 6) (f137 m a2 a3) (s32 a1)) ((mu m (m a0 6) (f137 m a2 a3) (s32 a1)) a0 2) a1 (s32 a2)) ((mu (mu m (m a0 6) (f137 m a2 a3) (s32 a1)) ((mu m (m a0 6) (f137 m a2 a3) (s32 a1)) a0 2) a1 (s32 a2)) a0 3) a1 (s32 (s32 (((mu (mu m (m a0 6) (f137 m a2 a3) (s32 a1)) ((mu m (m a0 6) (f137 m a2 a3) (s32 a1)) a0 2) a1 (s32 a2)) ((mu (mu m (m a0 6) (f137 m a2 a3) (s32 a1)) ((mu m (m a0 6) (f137 m a2 a3) (s32 a1)) a0 2) a1 (s32 a2)) a0 3) a1) + 1)))) a0 4) a2 (s32 1)) (ig, rl, m') := h
          obtain ⟨r25, m26, q27, h⟩ := MR_invV h rfl rfl
          have q27 : Run X ρ 85 [(1, (mu (mu (mu (mu m (m a0 6) (f137 m a2 a3) (s32 a1)) ((mu m (m a0 6) (f137 m a2 a3) (s32 a1)) a0 2) a1 (s32 a2)) ((mu (mu m (m a0 6) (f137 m a2 a3) (s32 a1)) ((mu m (m a0 6) (f137 m a2 a3) (s32 a1)) a0 2) a1 (s32 a2)) a0 3) a1 (s32 (s32 (((mu (mu m (m a0 6) (f137 m a2 a3) (s32 a1)) ((mu m (m a0 6) (f137 m a2 a3) (s32 a1)) a0 2) a1 (s32 a2)) ((mu (mu m (m a0 6) (f137 m a2 a3) (s32 a1)) ((mu m (m a0 6) (f137 m a2 a3) (s32 a1)) a0 2) a1 (s32 a2)) a0 3) a1) + 1)))) ((mu (mu (mu m (m a0 6) (f137 m a2 a3) (s32 a1)) ((mu m (m a0 6) (f137 m a2 a3) (s32 a1)) a0 2) a1 (s32 a2)) ((mu (mu m (m a0 6) (f137 m a2 a3) (s32 a1)) ((mu m (m a0 6) (f137 m a2 a3) (s32 a1)) a0 2) a1 (s32 a2)) a0 3) a1 (s32 (s32 (((mu (mu m (m a0 6) (f137 m a2 a3) (s32 a1)) ((mu m (m a0 6) (f137 m a2 a3) (s32 a1)) a0 2) a1 (s32 a2)) ((mu (mu m (m a0 6) (f137 m a2 a3) (s32 a1)) ((mu m (m a0 6) (f137 m a2 a3) (s32 a1)) a0 2) a1 (s32 a2)) a0 3) a1) + 1)))) a0 4) a2 (s32 1)) a0 0), (1, a2)] (mu (mu (mu (mu m (m a0 6) (f137 m a2 a3) (s32 a1)) ((mu m (m a0 6) (f137 m a2 a3) (s32 a1)) a0 2) a1 (s32 a2)) ((mu (mu m (m a0 6) (f137 m a2 a3) (s32 a1)) ((mu m (m a0 6) (f137 m a2 a3) (s32 a1)) a0 2) a1 (s32 a2)) a0 3) a1 (s32 (s32 (((mu (mu m (m a0 6) (f137 m a2 a3) (s32 a1)) ((mu m (m a0 6) (f137 m a2 a3) (s32 a1)) a0 2) a1 (s32 a2)) ((mu (mu m (m a0 6) (f137 m a2 a3) (s32 a1)) ((mu m (m a0 6) (f137 m a2 a3) (s32 a1)) a0 2) a1 (s32 a2)) a0 3) a1) + 1)))) ((mu (mu (mu m (m a0 6) (f137 m a2 a3) (s32 a1)) ((mu m (m a0 6) (f137 m a2 a3) (s32 a1)) a0 2) a1 (s32 a2)) ((mu (mu m (m a0 6) (f137 m a2 a3) (s32 a1)) ((mu m (m a0 6) (f137 m a2 a3) (s32 a1)) a0 2) a1 (s32 a2)) a0 3) a1 (s32 (s32 (((mu (mu m (m a0 6) (f137 m a2 a3) (s32 a1)) ((mu m (m a0 6) (f137 m a2 a3) (s32 a1)) a0 2) a1 (s32 a2)) ((mu (mu m (m a0 6) (f137 m a2 a3) (s32 a1)) ((mu m (m a0 6) (f137 m a2 a3) (s32 a1)) a0 2) a1 (s32 a2)) a0 3) a1) + 1)))) a0 4) a2 (s32 1)) r25 m26 := q27
          obtain ⟨e28, e29⟩ := d85 q27
          rw [e28, e29] at h
          have h : MR X ρ 5 0 0 qP138 N 89 [a0, a1, a2, a3, f137 m a2 a3] [(1, f85 (mu (mu (mu (mu m (m a0 6) (f137 m a2 a3) (s32 a1)) ((mu m (m a0 6) (f137 m a2 a3) (s32 a1)) a0 2) a1 (s32 a2)) ((mu (mu m (m a0 6) (f137 m a2 a3) (s32 a1)) ((mu m (m a0 6) (f137 m a2 a3) (s32 a1)) a0 2) a1 (s32 a2)) a0 3) a1 (s32 (s32 (((mu (mu m (m a0 6) (f137 m a2 a3) (s32 a1)) ((mu m (m a0 6) (f137 m a2 a3) (s32 a1)) a0 2) a1 (s32 a2)) ((mu (mu m (m a0 6) (f137 m a2 a3) (s32 a1)) ((mu m (m a0 6) (f137 m a2 a3) (s32 a1)) a0 2) a1 (s32 a2)) a0 3) a1) + 1)))) ((mu (mu (mu m (m a0 6) (f137 m a2 a3) (s32 a1)) ((mu m (m a0 6) (f137 m a2 a3) (s32 a1)) a0 2) a1 (s32 a2)) ((mu (mu m (m a0 6) (f137 m a2 a3) (s32 a1)) ((mu m (m a0 6) (f137 m a2 a3) (s32 a1)) a0 2) a1 (s32 a2)) a0 3) a1 (s32 (s32 (((mu (mu m (m a0 6) (f137 m a2 a3) (s32 a1)) ((mu m (m a0 6) (f137 m a2 a3) (s32 a1)) a0 2) a1 (s32 a2)) ((mu (mu m (m a0 6) (f137 m a2 a3) (s32 a1)) ((mu m (m a0 6) (f137 m a2 a3) (s32 a1)) a0 2) a1 (s32 a2)) a0 3) a1) + 1)))) a0 4) a2 (s32 1)) ((mu (mu (mu (mu m (m a0 6) (f137 m a2 a3) (s32 a1)) ((mu m (m a0 6) (f137 m a2 a3) (s32 a1)) a0 2) a1 (s32 a2)) ((mu (mu m (m a0 6) (f137 m a2 a3) (s32 a1)) ((mu m (m a0 6) (f137 m a2 a3) (s32 a1)) a0 2) a1 (s32 a2)) a0 3) a1 (s32 (s32 (((mu (mu m (m a0 6) (f137 m a2 a3) (s32 a1)) ((mu m (m a0 6) (f137 m a2 a3) (s32 a1)) a0 2) a1 (s32 a2)) ((mu (mu m (m a0 6) (f137 m a2 a3) (s32 a1)) ((mu m (m a0 6) (f137 m a2 a3) (s32 a1)) a0 2) a1 (s32 a2)) a0 3) a1) + 1)))) ((mu (mu (mu m (m a0 6) (f137 m a2 a3) (s32 a1)) ((mu m (m a0 6) (f137 m a2 a3) (s32 a1)) a0 2) a1 (s32 a2)) ((mu (mu m (m a0 6) (f137 m a2 a3) (s32 a1)) ((mu m (m a0 6) (f137 m a2 a3) (s32 a1)) a0 2) a1 (s32 a2)) a0 3) a1 (s32 (s32 (((mu (mu m (m a0 6) (f137 m a2 a3) (s32 a1)) ((mu m (m a0 6) (f137 m a2 a3) (s32 a1)) a0 2) a1 (s32 a2)) ((mu (mu m (m a0 6) (f137 m a2 a3) (s32 a1)) ((mu m (m a0 6) (f137 m a2 a3) (s32 a1)) a0 2) a1 (s32 a2)) a0 3) a1) + 1)))) a0 4) a2 (s32 1)) a0 0) a2), (1, a2), (1, (mu (mu (mu (mu m (m a0 6) (f137 m a2 a3) (s32 a1)) ((mu m (m a0 6) (f137 m a2 a3) (s32 a1)) a0 2) a1 (s32 a2)) ((mu (mu m (m a0 6) (f137 m a2 a3) (s32 a1)) ((mu m (m a0 6) (f137 m a2 a3) (s32 a1)) a0 2) a1 (s32 a2)) a0 3) a1 (s32 (s32 (((mu (mu m (m a0 6) (f137 m a2 a3) (s32 a1)) ((mu m (m a0 6) (f137 m a2 a3) (s32 a1)) a0 2) a1 (s32 a2)) ((mu (mu m (m a0 6) (f137 m a2 a3) (s32 a1)) ((mu m (m a0 6) (f137 m a2 a3) (s32 a1)) a0 2) a1 (s32 a2)) a0 3) a1) + 1)))) ((mu (mu (mu m (m a0 6) (f137 m a2 a3) (s32 a1)) ((mu m (m a0 6) (f137 m a2 a3) (s32 a1)) a0 2) a1 (s32 a2)) ((mu (mu m (m a0 6) (f137 m a2 a3) (s32 a1)) ((mu m (m a0 6) (f137 m a2 a3) (s32 a1)) a0 2) a1 (s32 a2)) a0 3) a1 (s32 (s32 (((mu (mu m (m a0 6) (f137 m a2 a3) (s32 a1)) ((mu m (m a0 6) (f137 m a2 a3) (s32 a1)) a0 2) a1 (s32 a2)) ((mu (mu m (m a0 6) (f137 m a2 a3) (s32 a1)) ((mu m (m a0 6) (f137 m a2 a3) (s32 a1)) a0 2) a1 (s32 a2)) a0 3) a1) + 1)))) a0 4) a2 (s32 1)) a0 5)] (mu (mu (mu (mu m (m a0 6) (f137 m a2 a3) (s32 a1)) ((mu m (m a0 6) (f137 m a2 a3) (s32 a1)) a0 2) a1 (s32 a2)) ((mu (mu m (m a0 6) (f137 m a2 a3) (s32 a1)) ((mu m (m a0 6) (f137 m a2 a3) (s32 a1)) a0 2) a1 (s32 a2)) a0 3) a1 (s32 (s32 (((mu (mu m (m a0 6) (f137 m a2 a3) (s32 a1)) ((mu m (m a0 6) (f137 m a2 a3) (s32 a1)) a0 2) a1 (s32 a2)) ((mu (mu m (m a0 6) (f137 m a2 a3) (s32 a1)) ((mu m (m a0 6) (f137 m a2 a3) (s32 a1)) a0 2) a1 (s32 a2)) a0 3) a1) + 1)))) ((mu (mu (mu m (m a0 6) (f137 m a2 a3) (s32 a1)) ((mu m (m a0 6) (f137 m a2 a3) (s32 a1)) a0 2) a1 (s32 a2)) ((mu (mu m (m a0 6) (f137 m a2 a3) (s32 a1)) ((mu m (m a0 6) (f137 m a2 a3) (s32 a1)) a0 2) a1 (s32 a2)) a0 3) a1 (s32 (s32 (((mu (mu m (m a0 6) (f137 m a2 a3) (s32 a1)) ((mu m (m a0 6) (f137 m a2 a3) (s32 a1)) a0 2) a1 (s32 a2)) ((mu (mu m (m a0 6) (f137 m a2 a3) (s32 a1)) ((mu m (m a0 6) (f137 m a2 a3) (s32 a1)) a0 2) a1 (s32 a2)) a0 3) a1) + 1)))) a0 4) a2 (s32 1)) (ig, rl, m') := h
          have h := CR_iastore_ h rfl
          have h : MR X ρ 5 0 0 qP138 N 90 [a0, a1, a2, a3, f137 m a2 a3] [] (mu (mu (mu (mu (mu m (m a0 6) (f137 m a2 a3) (s32 a1)) ((mu m (m a0 6) (f137 m a2 a3) (s32 a1)) a0 2) a1 (s32 a2)) ((mu (mu m (m a0 6) (f137 m a2 a3) (s32 a1)) ((mu m (m a0 6) (f137 m a2 a3) (s32 a1)) a0 2) a1 (s32 a2)) a0 3) a1 (s32 (s32 (((mu (mu m (m a0 6) (f137 m a2 a3) (s32 a1)) ((mu m (m a0 6) (f137 m a2 a3) (s32 a1)) a0 2) a1 (s32 a2)) ((mu (mu m (m a0 6) (f137 m a2 a3) (s32 a1)) ((mu m (m a0 6) (f137 m a2 a3) (s32 a1)) a0 2) a1 (s32 a2)) a0 3) a1) + 1)))) ((mu (mu (mu m (m a0 6) (f137 m a2 a3) (s32 a1)) ((mu m (m a0 6) (f137 m a2 a3) (s32 a1)) a0 2) a1 (s32 a2)) ((mu (mu m (m a0 6) (f137 m a2 a3) (s32 a1)) ((mu m (m a0 6) (f137 m a2 a3) (s32 a1)) a0 2) a1 (s32 a2)) a0 3) a1 (s32 (s32 (((mu (mu m (m a0 6) (f137 m a2 a3) (s32 a1)) ((mu m (m a0 6) (f137 m a2 a3) (s32 a1)) a0 2) a1 (s32 a2)) ((mu (mu m (m a0 6) (f137 m a2 a3) (s32 a1)) ((mu m (m a0 6) (f137 m a2 a3) (s32 a1)) a0 2) a1 (s32 a2)) a0 3) a1) + 1)))) a0 4) a2 (s32 1)) ((mu (mu (mu (mu m (m a0 6) (f137 m a2 a3) (s32 a1)) ((mu m (m a0 6) (f137 m a2 a3) (s32 a1)) a0 2) a1 (s32 a2)) ((mu (mu m (m a0 6) (f137 m a2 a3) (s32 a1)) ((mu m (m a0 6) (f137 m a2 a3) (s32 a1)) a0 2) a1 (s32 a2)) a0 3) a1 (s32 (s32 (((mu (mu m (m a0 6) (f137 m a2 a3) (s32 a1)) ((mu m (m a0 6) (f137 m a2 a3) (s32 a1)) a0 2) a1 (s32 a2)) ((mu (mu m (m a0 6) (f137 m a2 a3) (s32 a1)) ((mu m (m a0 6) (f137 m a2 a3) (s32 a1)) a0 2) a1 (s32 a2)) a0 3) a1) + 1)))) ((mu (mu (mu m (m a0 6) (f137 m a2 a3) (s32 a1)) ((mu m (m a0 6) (f137 m a2 a3) (s32 a1)) a0 2) a1 (s32 a2)) ((mu (mu m (m a0 6) (f137 m a2 a3) (s32 a1)) ((mu m (m a0 6) (f137 m a2 a3) (s32 a1)) a0 2) a1 (s32 a2)) a0 3) a1 (s32 (s32 (((mu (mu m (m a0 6) (f137 m a2 a3) (s32 a1)) ((mu m (m a0 6) (f137 m a2 a3) (s32 a1)) a0 2) a1 (s32 a2)) ((mu (mu m (m a0 6) (f137 m a2 a3) (s32 a1)) ((mu m (m a0 6) (f137 m a2 a3) (s32 a1)) a0 2) a1 (s32 a2)) a0 3) a1) + 1)))) a0 4) a2 (s32 1)) a0 5) a2 (s32 (f85 (mu (mu (mu (mu m (m a0 6) (f137 m a2 a3) (s32 a1)) ((mu m (m a0 6) (f137 m a2 a3) (s32 a1)) a0 2) a1 (s32 a2)) ((mu (mu m (m a0 6) (f137 m a2 a3) (s32 a1)) ((mu m (m a0 6) (f137 m a2 a3) (s32 a1)) a0 2) a1 (s32 a2)) a0 3) a1 (s32 (s32 (((mu (mu m (m a0 6) (f137 m a2 a3) (s32 a1)) ((mu m (m a0 6) (f137 m a2 a3) (s32 a1)) a0 2) a1 (s32 a2)) ((mu (mu m (m a0 6) (f137 m a2 a3) (s32 a1)) ((mu m (m a0 6) (f137 m a2 a3) (s32 a1)) a0 2) a1 (s32 a2)) a0 3) a1) + 1)))) ((mu (mu (mu m (m a0 6) (f137 m a2 a3) (s32 a1)) ((mu m (m a0 6) (f137 m a2 a3) (s32 a1)) a0 2) a1 (s32 a2)) ((mu (mu m (m a0 6) (f137 m a2 a3) (s32 a1)) ((mu m (m a0 6) (f137 m a2 a3) (s32 a1)) a0 2) a1 (s32 a2)) a0 3) a1 (s32 (s32 (((mu (mu m (m a0 6) (f137 m a2 a3) (s32 a1)) ((mu m (m a0 6) (f137 m a2 a3) (s32 a1)) a0 2) a1 (s32 a2)) ((mu (mu m (m a0 6) (f137 m a2 a3) (s32 a1)) ((mu m (m a0 6) (f137 m a2 a3) (s32 a1)) a0 2) a1 (s32 a2)) a0 3) a1) + 1)))) a0 4) a2 (s32 1)) ((mu (mu (mu (mu m (m a0 6) (f137 m a2 a3) (s32 a1)) ((mu m (m a0 6) (f137 m a2 a3) (s32 a1)) a0 2) a1 (s32 a2)) ((mu (mu m (m a0 6) (f137 m a2 a3) (s32 a1)) ((mu m (m a0 6) (f137 m a2 a3) (s32 a1)) a0 2) a1 (s32 a2)) a0 3) a1 (s32 (s32 (((mu (mu m (m a0 6) (f137 m a2 a3) (s32 a1)) ((mu m (m a0 6) (f137 m a2 a3) (s32 a1)) a0 2) a1 (s32 a2)) ((mu (mu m (m a0 6) (f137 m a2 a3) (s32 a1)) ((mu m (m a0 6) (f137 m a2 a3) (s32 a1)) a0 2) a1 (s32 a2)) a0 3) a1) + 1)))) ((mu (mu (mu m (m a0 6) (f137 m a2 a3) (s32 a1)) ((mu m (m a0 6) (f137 m a2 a3) (s32 a1)) a0 2) a1 (s32 a2)) ((mu (mu m (m a0 6) (f137 m a2 a3) (s32 a1)) ((mu m (m a0 6) (f137 m a2 a3) (s32 a1)) a0 2) a1 (s32 a2)) a0 3) a1 (s32 (s32 (((mu (mu m (m a0 6) (f137 m a2 a3) (s32 a1)) ((mu m (m a0 6) (f137 m a2 a3) (s32 a1)) a0 2) a1 (s32 a2)) ((mu (mu m (m a0 6) (f137 m a2 a3) (s32 a1)) ((mu m (m a0 6) (f137 m a2 a3) (s32 a1)) a0 2) a1 (s32 a2)) a0 3) a1) + 1)))) a0 4) a2 (s32 1)) a0 0) a2))) (ig, rl, m') := h
          have e := CR_end h rfl rfl
          cases e
          exact ⟨rfl, Eq.symm (show g138 m a0 a1 a2 a3 = _ from (if_neg c6).trans ((if_neg c12).trans ((if_neg c18).trans ((if_pos c24).trans (rfl)))))⟩
      ·
        have c18 : (f72 m (m a0 0) a2) = 0 := Decidable.of_not_not (show ¬ ¬ ((f72 m (m a0 0) a2) = 0) from c18)
        have h : MR X ρ 5 0 0 qP138 N 34 [a0, a1, a2, a3, f137 m a2 a3] [] m (ig, rl, m') := h
        have e := CR_end h rfl rfl
        cases e
        exact ⟨rfl, Eq.symm (show g138 m a0 a1 a2 a3 = _ from (if_neg c6).trans ((if_neg c12).trans ((if_pos c18).trans (rfl))))⟩
set_option maxRecDepth 16384 in
/-- TriplicateForms$Standing.signersPossible(I)I, the loop at 4 -/
noncomputable def S143_4 (m : MM) (b0 b1 b2 b3 : Int) : (Int × Int) ⊕ (Nat × Int × (Int × Int)) := (if (m (m b0 0) 6) ≤ b3 then .inr (1, 0, (b2, b3)) else (if (f132 m b0 b3 b1) = (-1) then .inl (b2, s32 (b3 + 1)) else .inl (jor b2 (jshl 1 b3), s32 (b3 + 1))))
set_option maxRecDepth 16384 in
noncomputable def K143_4 (m : MM) (b0 b1 b2 b3 : Int) : (Int × Int) → (Int × Int) ⊕ (Nat × Int × (Int × Int)) := fun s => S143_4 m b0 b1 s.1 s.2
set_option maxRecDepth 16384 in
noncomputable def L143_4 (m : MM) (b0 b1 b2 b3 : Int) : (Nat × Int × (Int × Int)) := Lp (K143_4 m b0 b1 b2 b3) (b2, b3)
set_option maxRecDepth 16384 in
theorem l143_4 {X : KO} {ρ : Nat → Int32} {o : Instr × List (Nat × Int) × MM} {K : Nat} : ∀ {N : Nat} {m : MM} {b0 b1 b2 b3 : Int}, N ≤ K → MR X ρ 4 0 0 qP143 N 4 [b0, b1, b2, b3] [] m o → (MR X ρ 4 0 0 qP143 K 37 [b0, b1, (L143_4 m b0 b1 b2 b3).2.2.1, (L143_4 m b0 b1 b2 b3).2.2.2] [] m o) := by
  intro N
  induction N using Nat.strongRecOn with
  | ind N ih =>
  intro m b0 b1 b2 b3 hK h
  have h := CR_iload_n h rfl
  have h : MR X ρ 4 0 0 qP143 N 5 [b0, b1, b2, b3] [(1, b3)] m o := h
  have h := CR_aload_n h rfl
  have h : MR X ρ 4 0 0 qP143 N 6 [b0, b1, b2, b3] [(1, b0), (1, b3)] m o := h
  have h := CR_getf h rfl (by decide)
  have h : MR X ρ 4 0 0 qP143 N 9 [b0, b1, b2, b3] [(1, m b0 0), (1, b3)] m o := h
  have h := CR_getf h rfl (by decide)
  have h : MR X ρ 4 0 0 qP143 N 12 [b0, b1, b2, b3] [(1, m (m b0 0) 6), (1, b3)] m o := h
  rcases MR_icmp h rfl rfl with ⟨c1, h⟩ | ⟨c1, h⟩
  ·
    have c1 : (m (m b0 0) 6) ≤ b3 := c1
    have h : MR X ρ 4 0 0 qP143 N 37 [b0, b1, b2, b3] [] m o := h
    have hr : L143_4 m b0 b1 b2 b3 = (1, 0, (b2, b3)) := Lp_inr (f := K143_4 m b0 b1 b2 b3) (s := (b2, b3)) ((if_pos c1).trans (rfl))
    rw [hr]
    exact CR_le (by omega) h
  ·
    have c1 : ¬ ((m (m b0 0) 6) ≤ b3) := c1
    have h : MR X ρ 4 0 0 qP143 N 15 [b0, b1, b2, b3] [] m o := h
    have h := CR_aload_n h rfl
    have h : MR X ρ 4 0 0 qP143 N 16 [b0, b1, b2, b3] [(1, b0)] m o := h
    have h := CR_iload_n h rfl
    have h : MR X ρ 4 0 0 qP143 N 17 [b0, b1, b2, b3] [(1, b3), (1, b0)] m o := h
    have h := CR_iload_n h rfl
    have h : MR X ρ 4 0 0 qP143 N 18 [b0, b1, b2, b3] [(1, b1), (1, b3), (1, b0)] m o := h
    obtain ⟨r2, m3, q4, h⟩ := MR_invV h rfl rfl
    have q4 : Run X ρ 132 [(1, b0), (1, b3), (1, b1)] m r2 m3 := q4
    obtain ⟨e5, e6⟩ := d132 q4
    rw [e5, e6] at h
    have h : MR X ρ 4 0 0 qP143 N 21 [b0, b1, b2, b3] [(1, f132 m b0 b3 b1)] m o := h
    have h := CR_iconst h rfl rfl
    have h : MR X ρ 4 0 0 qP143 N 22 [b0, b1, b2, b3] [(1, -1), (1, f132 m b0 b3 b1)] m o := h
    rcases MR_icmp h rfl rfl with ⟨c7, h⟩ | ⟨c7, h⟩
    ·
      have c7 : (f132 m b0 b3 b1) = (-1) := c7
      have h : MR X ρ 4 0 0 qP143 N 31 [b0, b1, b2, b3] [] m o := h
      have h := CR_inc h rfl (Nat.le_of_ble_eq_true rfl)
      have h : MR X ρ 4 0 0 qP143 N 34 [b0, b1, b2, s32 (b3 + 1)] [] m o := h
      obtain ⟨N8, eN8, h⟩ := CR_goto h rfl rfl
      have h : MR X ρ 4 0 0 qP143 N8 4 [b0, b1, b2, s32 (b3 + 1)] [] m o := h
      have hr : L143_4 m b0 b1 b2 b3 = L143_4 m b0 b1 b2 (s32 (b3 + 1)) := Lp_inl (f := K143_4 m b0 b1 b2 b3) (s := (b2, b3)) (s' := (b2, s32 (b3 + 1))) ((if_neg c1).trans ((if_pos c7).trans (rfl)))
      rw [hr]
      exact ih N8 (by omega) (by omega) h
    ·
      have c7 : ¬ ((f132 m b0 b3 b1) = (-1)) := c7
      have h : MR X ρ 4 0 0 qP143 N 25 [b0, b1, b2, b3] [] m o := h
      have h := CR_iload_n h rfl
      have h : MR X ρ 4 0 0 qP143 N 26 [b0, b1, b2, b3] [(1, b2)] m o := h
      have h := CR_iconst h rfl rfl
      have h : MR X ρ 4 0 0 qP143 N 27 [b0, b1, b2, b3] [(1, 1), (1, b2)] m o := h
      have h := CR_iload_n h rfl
      have h : MR X ρ 4 0 0 qP143 N 28 [b0, b1, b2, b3] [(1, b3), (1, 1), (1, b2)] m o := h
      have h := CR_ishl h rfl
      have h : MR X ρ 4 0 0 qP143 N 29 [b0, b1, b2, b3] [(1, jshl 1 b3), (1, b2)] m o := h
      have h := CR_ior h rfl
      have h : MR X ρ 4 0 0 qP143 N 30 [b0, b1, b2, b3] [(1, jor b2 (jshl 1 b3))] m o := h
      have h := CR_istore_n h rfl (Nat.le_of_ble_eq_true rfl)
      have h : MR X ρ 4 0 0 qP143 N 31 [b0, b1, jor b2 (jshl 1 b3), b3] [] m o := h
      have h := CR_inc h rfl (Nat.le_of_ble_eq_true rfl)
      have h : MR X ρ 4 0 0 qP143 N 34 [b0, b1, jor b2 (jshl 1 b3), s32 (b3 + 1)] [] m o := h
      obtain ⟨N9, eN9, h⟩ := CR_goto h rfl rfl
      have h : MR X ρ 4 0 0 qP143 N9 4 [b0, b1, jor b2 (jshl 1 b3), s32 (b3 + 1)] [] m o := h
      have hr : L143_4 m b0 b1 b2 b3 = L143_4 m b0 b1 (jor b2 (jshl 1 b3)) (s32 (b3 + 1)) := Lp_inl (f := K143_4 m b0 b1 b2 b3) (s := (b2, b3)) (s' := (jor b2 (jshl 1 b3), s32 (b3 + 1))) ((if_neg c1).trans ((if_neg c7).trans (rfl)))
      rw [hr]
      exact ih N9 (by omega) (by omega) h
set_option maxRecDepth 16384 in
/-- TriplicateForms$Standing.signersPossible(I)I -/
noncomputable def f143 (m : MM) (a0 a1 : Int) : Int := (L143_4 m a0 a1 0 0).2.2.1
set_option maxRecDepth 16384 in
theorem d143 {X : KO} {ρ : Nat → Int32} {m m' : MM} {rl : List (Nat × Int)} {a0 a1 : Int} (h : Run X ρ 143 [(1, a0), (1, a1)] m rl m') : rl = [(1, f143 m a0 a1)] ∧ m' = m := by
  obtain ⟨N, ig, h⟩ := Run_CR h rfl
  have h : MR X ρ 4 0 0 qP143 N 0 [a0, a1, 0, 0] [] m (ig, rl, m') := h
  have h := CR_iconst h rfl rfl
  have h : MR X ρ 4 0 0 qP143 N 1 [a0, a1, 0, 0] [(1, 0)] m (ig, rl, m') := h
  have h := CR_istore_n h rfl (Nat.le_of_ble_eq_true rfl)
  have h : MR X ρ 4 0 0 qP143 N 2 [a0, a1, 0, 0] [] m (ig, rl, m') := h
  have h := CR_iconst h rfl rfl
  have h : MR X ρ 4 0 0 qP143 N 3 [a0, a1, 0, 0] [(1, 0)] m (ig, rl, m') := h
  have h := CR_istore_n h rfl (Nat.le_of_ble_eq_true rfl)
  have h : MR X ρ 4 0 0 qP143 N 4 [a0, a1, 0, 0] [] m (ig, rl, m') := h
  have h := l143_4 (Nat.le_refl _) h
  have h : MR X ρ 4 0 0 qP143 N 37 [a0, a1, (L143_4 m a0 a1 0 0).2.2.1, (L143_4 m a0 a1 0 0).2.2.2] [] m (ig, rl, m') := h
  have h := CR_iload_n h rfl
  have h : MR X ρ 4 0 0 qP143 N 38 [a0, a1, (L143_4 m a0 a1 0 0).2.2.1, (L143_4 m a0 a1 0 0).2.2.2] [(1, (L143_4 m a0 a1 0 0).2.2.1)] m (ig, rl, m') := h
  have e := CR_end h rfl rfl
  cases e
  exact ⟨congrArg (fun z => [(1, z)]) (Eq.symm (show f143 m a0 a1 = _ from rfl)), rfl⟩
set_option maxRecDepth 16384 in
/-- TriplicateForms$Standing.thirdsByAny(I)I, the loop at 21 -/
noncomputable def S144_21 (m : MM) (b0 b1 b2 b3 b4 b5 : Int) : (Int × Int) ⊕ (Nat × Int × (Int × Int)) := (if (m (m b0 0) 6) ≤ b5 then .inr (1, 0, (b4, b5)) else (if b5 = b2 then .inl (b4, s32 (b5 + 1)) else (if b5 = b3 then .inl (b4, s32 (b5 + 1)) else (if (jand (f84 m (m b0 0) b5) (jshl 1 b2)) = 0 then .inl (jor b4 (jshl 1 b5), s32 (b5 + 1)) else .inl (b4, s32 (b5 + 1))))))
set_option maxRecDepth 16384 in
noncomputable def K144_21 (m : MM) (b0 b1 b2 b3 b4 b5 : Int) : (Int × Int) → (Int × Int) ⊕ (Nat × Int × (Int × Int)) := fun s => S144_21 m b0 b1 b2 b3 s.1 s.2
set_option maxRecDepth 16384 in
noncomputable def L144_21 (m : MM) (b0 b1 b2 b3 b4 b5 : Int) : (Nat × Int × (Int × Int)) := Lp (K144_21 m b0 b1 b2 b3 b4 b5) (b4, b5)
set_option maxRecDepth 16384 in
theorem l144_21 {X : KO} {ρ : Nat → Int32} {o : Instr × List (Nat × Int) × MM} {K : Nat} : ∀ {N : Nat} {m : MM} {b0 b1 b2 b3 b4 b5 : Int}, N ≤ K → MR X ρ 6 0 0 qP144 N 21 [b0, b1, b2, b3, b4, b5] [] m o → (MR X ρ 6 0 0 qP144 K 76 [b0, b1, b2, b3, (L144_21 m b0 b1 b2 b3 b4 b5).2.2.1, (L144_21 m b0 b1 b2 b3 b4 b5).2.2.2] [] m o) := by
  intro N
  induction N using Nat.strongRecOn with
  | ind N ih =>
  intro m b0 b1 b2 b3 b4 b5 hK h
  have h := CR_iload h rfl
  have h : MR X ρ 6 0 0 qP144 N 23 [b0, b1, b2, b3, b4, b5] [(1, b5)] m o := h
  have h := CR_aload_n h rfl
  have h : MR X ρ 6 0 0 qP144 N 24 [b0, b1, b2, b3, b4, b5] [(1, b0), (1, b5)] m o := h
  have h := CR_getf h rfl (by decide)
  have h : MR X ρ 6 0 0 qP144 N 27 [b0, b1, b2, b3, b4, b5] [(1, m b0 0), (1, b5)] m o := h
  have h := CR_getf h rfl (by decide)
  have h : MR X ρ 6 0 0 qP144 N 30 [b0, b1, b2, b3, b4, b5] [(1, m (m b0 0) 6), (1, b5)] m o := h
  rcases MR_icmp h rfl rfl with ⟨c1, h⟩ | ⟨c1, h⟩
  ·
    have c1 : (m (m b0 0) 6) ≤ b5 := c1
    have h : MR X ρ 6 0 0 qP144 N 76 [b0, b1, b2, b3, b4, b5] [] m o := h
    have hr : L144_21 m b0 b1 b2 b3 b4 b5 = (1, 0, (b4, b5)) := Lp_inr (f := K144_21 m b0 b1 b2 b3 b4 b5) (s := (b4, b5)) ((if_pos c1).trans (rfl))
    rw [hr]
    exact CR_le (by omega) h
  ·
    have c1 : ¬ ((m (m b0 0) 6) ≤ b5) := c1
    have h : MR X ρ 6 0 0 qP144 N 33 [b0, b1, b2, b3, b4, b5] [] m o := h
    have h := CR_iload h rfl
    have h : MR X ρ 6 0 0 qP144 N 35 [b0, b1, b2, b3, b4, b5] [(1, b5)] m o := h
    have h := CR_iload_n h rfl
    have h : MR X ρ 6 0 0 qP144 N 36 [b0, b1, b2, b3, b4, b5] [(1, b2), (1, b5)] m o := h
    rcases MR_icmp h rfl rfl with ⟨c2, h⟩ | ⟨c2, h⟩
    ·
      have c2 : b5 = b2 := c2
      have h : MR X ρ 6 0 0 qP144 N 70 [b0, b1, b2, b3, b4, b5] [] m o := h
      have h := CR_inc h rfl (Nat.le_of_ble_eq_true rfl)
      have h : MR X ρ 6 0 0 qP144 N 73 [b0, b1, b2, b3, b4, s32 (b5 + 1)] [] m o := h
      obtain ⟨N3, eN3, h⟩ := CR_goto h rfl rfl
      have h : MR X ρ 6 0 0 qP144 N3 21 [b0, b1, b2, b3, b4, s32 (b5 + 1)] [] m o := h
      have hr : L144_21 m b0 b1 b2 b3 b4 b5 = L144_21 m b0 b1 b2 b3 b4 (s32 (b5 + 1)) := Lp_inl (f := K144_21 m b0 b1 b2 b3 b4 b5) (s := (b4, b5)) (s' := (b4, s32 (b5 + 1))) ((if_neg c1).trans ((if_pos c2).trans (rfl)))
      rw [hr]
      exact ih N3 (by omega) (by omega) h
    ·
      have c2 : ¬ (b5 = b2) := c2
      have h : MR X ρ 6 0 0 qP144 N 39 [b0, b1, b2, b3, b4, b5] [] m o := h
      have h := CR_iload h rfl
      have h : MR X ρ 6 0 0 qP144 N 41 [b0, b1, b2, b3, b4, b5] [(1, b5)] m o := h
      have h := CR_iload_n h rfl
      have h : MR X ρ 6 0 0 qP144 N 42 [b0, b1, b2, b3, b4, b5] [(1, b3), (1, b5)] m o := h
      rcases MR_icmp h rfl rfl with ⟨c4, h⟩ | ⟨c4, h⟩
      ·
        have c4 : b5 = b3 := c4
        have h : MR X ρ 6 0 0 qP144 N 70 [b0, b1, b2, b3, b4, b5] [] m o := h
        have h := CR_inc h rfl (Nat.le_of_ble_eq_true rfl)
        have h : MR X ρ 6 0 0 qP144 N 73 [b0, b1, b2, b3, b4, s32 (b5 + 1)] [] m o := h
        obtain ⟨N5, eN5, h⟩ := CR_goto h rfl rfl
        have h : MR X ρ 6 0 0 qP144 N5 21 [b0, b1, b2, b3, b4, s32 (b5 + 1)] [] m o := h
        have hr : L144_21 m b0 b1 b2 b3 b4 b5 = L144_21 m b0 b1 b2 b3 b4 (s32 (b5 + 1)) := Lp_inl (f := K144_21 m b0 b1 b2 b3 b4 b5) (s := (b4, b5)) (s' := (b4, s32 (b5 + 1))) ((if_neg c1).trans ((if_neg c2).trans ((if_pos c4).trans (rfl))))
        rw [hr]
        exact ih N5 (by omega) (by omega) h
      ·
        have c4 : ¬ (b5 = b3) := c4
        have h : MR X ρ 6 0 0 qP144 N 45 [b0, b1, b2, b3, b4, b5] [] m o := h
        have h := CR_aload_n h rfl
        have h : MR X ρ 6 0 0 qP144 N 46 [b0, b1, b2, b3, b4, b5] [(1, b0)] m o := h
        have h := CR_getf h rfl (by decide)
        have h : MR X ρ 6 0 0 qP144 N 49 [b0, b1, b2, b3, b4, b5] [(1, m b0 0)] m o := h
        have h := CR_iload h rfl
        have h : MR X ρ 6 0 0 qP144 N 51 [b0, b1, b2, b3, b4, b5] [(1, b5), (1, m b0 0)] m o := h
        obtain ⟨r6, m7, q8, h⟩ := MR_invV h rfl rfl
        have q8 : Run X ρ 84 [(1, m b0 0), (1, b5)] m r6 m7 := q8
        obtain ⟨e9, e10⟩ := d84 q8
        rw [e9, e10] at h
        have h : MR X ρ 6 0 0 qP144 N 54 [b0, b1, b2, b3, b4, b5] [(1, f84 m (m b0 0) b5)] m o := h
        have h := CR_iconst h rfl rfl
        have h : MR X ρ 6 0 0 qP144 N 55 [b0, b1, b2, b3, b4, b5] [(1, 1), (1, f84 m (m b0 0) b5)] m o := h
        have h := CR_iload_n h rfl
        have h : MR X ρ 6 0 0 qP144 N 56 [b0, b1, b2, b3, b4, b5] [(1, b2), (1, 1), (1, f84 m (m b0 0) b5)] m o := h
        have h := CR_ishl h rfl
        have h : MR X ρ 6 0 0 qP144 N 57 [b0, b1, b2, b3, b4, b5] [(1, jshl 1 b2), (1, f84 m (m b0 0) b5)] m o := h
        have h := CR_iand h rfl
        have h : MR X ρ 6 0 0 qP144 N 58 [b0, b1, b2, b3, b4, b5] [(1, jand (f84 m (m b0 0) b5) (jshl 1 b2))] m o := h
        rcases MR_if h rfl rfl with ⟨c11, h⟩ | ⟨c11, h⟩
        ·
          have c11 : ¬ ((jand (f84 m (m b0 0) b5) (jshl 1 b2)) = 0) := c11
          have h : MR X ρ 6 0 0 qP144 N 70 [b0, b1, b2, b3, b4, b5] [] m o := h
          have h := CR_inc h rfl (Nat.le_of_ble_eq_true rfl)
          have h : MR X ρ 6 0 0 qP144 N 73 [b0, b1, b2, b3, b4, s32 (b5 + 1)] [] m o := h
          obtain ⟨N12, eN12, h⟩ := CR_goto h rfl rfl
          have h : MR X ρ 6 0 0 qP144 N12 21 [b0, b1, b2, b3, b4, s32 (b5 + 1)] [] m o := h
          have hr : L144_21 m b0 b1 b2 b3 b4 b5 = L144_21 m b0 b1 b2 b3 b4 (s32 (b5 + 1)) := Lp_inl (f := K144_21 m b0 b1 b2 b3 b4 b5) (s := (b4, b5)) (s' := (b4, s32 (b5 + 1))) ((if_neg c1).trans ((if_neg c2).trans ((if_neg c4).trans ((if_neg c11).trans (rfl)))))
          rw [hr]
          exact ih N12 (by omega) (by omega) h
        ·
          have c11 : (jand (f84 m (m b0 0) b5) (jshl 1 b2)) = 0 := Decidable.of_not_not (show ¬ ¬ ((jand (f84 m (m b0 0) b5) (jshl 1 b2)) = 0) from c11)
          have h : MR X ρ 6 0 0 qP144 N 61 [b0, b1, b2, b3, b4, b5] [] m o := h
          have h := CR_iload h rfl
          have h : MR X ρ 6 0 0 qP144 N 63 [b0, b1, b2, b3, b4, b5] [(1, b4)] m o := h
          have h := CR_iconst h rfl rfl
          have h : MR X ρ 6 0 0 qP144 N 64 [b0, b1, b2, b3, b4, b5] [(1, 1), (1, b4)] m o := h
          have h := CR_iload h rfl
          have h : MR X ρ 6 0 0 qP144 N 66 [b0, b1, b2, b3, b4, b5] [(1, b5), (1, 1), (1, b4)] m o := h
          have h := CR_ishl h rfl
          have h : MR X ρ 6 0 0 qP144 N 67 [b0, b1, b2, b3, b4, b5] [(1, jshl 1 b5), (1, b4)] m o := h
          have h := CR_ior h rfl
          have h : MR X ρ 6 0 0 qP144 N 68 [b0, b1, b2, b3, b4, b5] [(1, jor b4 (jshl 1 b5))] m o := h
          have h := CR_istore h rfl (Nat.le_of_ble_eq_true rfl)
          have h : MR X ρ 6 0 0 qP144 N 70 [b0, b1, b2, b3, jor b4 (jshl 1 b5), b5] [] m o := h
          have h := CR_inc h rfl (Nat.le_of_ble_eq_true rfl)
          have h : MR X ρ 6 0 0 qP144 N 73 [b0, b1, b2, b3, jor b4 (jshl 1 b5), s32 (b5 + 1)] [] m o := h
          obtain ⟨N13, eN13, h⟩ := CR_goto h rfl rfl
          have h : MR X ρ 6 0 0 qP144 N13 21 [b0, b1, b2, b3, jor b4 (jshl 1 b5), s32 (b5 + 1)] [] m o := h
          have hr : L144_21 m b0 b1 b2 b3 b4 b5 = L144_21 m b0 b1 b2 b3 (jor b4 (jshl 1 b5)) (s32 (b5 + 1)) := Lp_inl (f := K144_21 m b0 b1 b2 b3 b4 b5) (s := (b4, b5)) (s' := (jor b4 (jshl 1 b5), s32 (b5 + 1))) ((if_neg c1).trans ((if_neg c2).trans ((if_neg c4).trans ((if_pos c11).trans (rfl)))))
          rw [hr]
          exact ih N13 (by omega) (by omega) h
set_option maxRecDepth 16384 in
/-- TriplicateForms$Standing.thirdsByAny(I)I -/
noncomputable def f144 (m : MM) (a0 a1 : Int) : Int := (L144_21 m a0 a1 (f66 m (m a0 0) a1) (f128 m a0 a1) 0 0).2.2.1
set_option maxRecDepth 16384 in
theorem d144 {X : KO} {ρ : Nat → Int32} {m m' : MM} {rl : List (Nat × Int)} {a0 a1 : Int} (h : Run X ρ 144 [(1, a0), (1, a1)] m rl m') : rl = [(1, f144 m a0 a1)] ∧ m' = m := by
  obtain ⟨N, ig, h⟩ := Run_CR h rfl
  have h : MR X ρ 6 0 0 qP144 N 0 [a0, a1, 0, 0, 0, 0] [] m (ig, rl, m') := h
  have h := CR_aload_n h rfl
  have h : MR X ρ 6 0 0 qP144 N 1 [a0, a1, 0, 0, 0, 0] [(1, a0)] m (ig, rl, m') := h
  have h := CR_getf h rfl (by decide)
  have h : MR X ρ 6 0 0 qP144 N 4 [a0, a1, 0, 0, 0, 0] [(1, m a0 0)] m (ig, rl, m') := h
  have h := CR_iload_n h rfl
  have h : MR X ρ 6 0 0 qP144 N 5 [a0, a1, 0, 0, 0, 0] [(1, a1), (1, m a0 0)] m (ig, rl, m') := h
  obtain ⟨r1, m2, q3, h⟩ := MR_invV h rfl rfl
  have q3 : Run X ρ 66 [(1, m a0 0), (1, a1)] m r1 m2 := q3
  obtain ⟨e4, e5⟩ := d66 q3
  rw [e4, e5] at h
  have h : MR X ρ 6 0 0 qP144 N 8 [a0, a1, 0, 0, 0, 0] [(1, f66 m (m a0 0) a1)] m (ig, rl, m') := h
  have h := CR_istore_n h rfl (Nat.le_of_ble_eq_true rfl)
  have h : MR X ρ 6 0 0 qP144 N 9 [a0, a1, f66 m (m a0 0) a1, 0, 0, 0] [] m (ig, rl, m') := h
  have h := CR_aload_n h rfl
  have h : MR X ρ 6 0 0 qP144 N 10 [a0, a1, f66 m (m a0 0) a1, 0, 0, 0] [(1, a0)] m (ig, rl, m') := h
  have h := CR_iload_n h rfl
  have h : MR X ρ 6 0 0 qP144 N 11 [a0, a1, f66 m (m a0 0) a1, 0, 0, 0] [(1, a1), (1, a0)] m (ig, rl, m') := h
  obtain ⟨r6, m7, q8, h⟩ := MR_invV h rfl rfl
  have q8 : Run X ρ 128 [(1, a0), (1, a1)] m r6 m7 := q8
  obtain ⟨e9, e10⟩ := d128 q8
  rw [e9, e10] at h
  have h : MR X ρ 6 0 0 qP144 N 14 [a0, a1, f66 m (m a0 0) a1, 0, 0, 0] [(1, f128 m a0 a1)] m (ig, rl, m') := h
  have h := CR_istore_n h rfl (Nat.le_of_ble_eq_true rfl)
  have h : MR X ρ 6 0 0 qP144 N 15 [a0, a1, f66 m (m a0 0) a1, f128 m a0 a1, 0, 0] [] m (ig, rl, m') := h
  have h := CR_iconst h rfl rfl
  have h : MR X ρ 6 0 0 qP144 N 16 [a0, a1, f66 m (m a0 0) a1, f128 m a0 a1, 0, 0] [(1, 0)] m (ig, rl, m') := h
  have h := CR_istore h rfl (Nat.le_of_ble_eq_true rfl)
  have h : MR X ρ 6 0 0 qP144 N 18 [a0, a1, f66 m (m a0 0) a1, f128 m a0 a1, 0, 0] [] m (ig, rl, m') := h
  have h := CR_iconst h rfl rfl
  have h : MR X ρ 6 0 0 qP144 N 19 [a0, a1, f66 m (m a0 0) a1, f128 m a0 a1, 0, 0] [(1, 0)] m (ig, rl, m') := h
  have h := CR_istore h rfl (Nat.le_of_ble_eq_true rfl)
  have h : MR X ρ 6 0 0 qP144 N 21 [a0, a1, f66 m (m a0 0) a1, f128 m a0 a1, 0, 0] [] m (ig, rl, m') := h
  have h := l144_21 (Nat.le_refl _) h
  have h : MR X ρ 6 0 0 qP144 N 76 [a0, a1, f66 m (m a0 0) a1, f128 m a0 a1, (L144_21 m a0 a1 (f66 m (m a0 0) a1) (f128 m a0 a1) 0 0).2.2.1, (L144_21 m a0 a1 (f66 m (m a0 0) a1) (f128 m a0 a1) 0 0).2.2.2] [] m (ig, rl, m') := h
  have h := CR_iload h rfl
  have h : MR X ρ 6 0 0 qP144 N 78 [a0, a1, f66 m (m a0 0) a1, f128 m a0 a1, (L144_21 m a0 a1 (f66 m (m a0 0) a1) (f128 m a0 a1) 0 0).2.2.1, (L144_21 m a0 a1 (f66 m (m a0 0) a1) (f128 m a0 a1) 0 0).2.2.2] [(1, (L144_21 m a0 a1 (f66 m (m a0 0) a1) (f128 m a0 a1) 0 0).2.2.1)] m (ig, rl, m') := h
  have e := CR_end h rfl rfl
  cases e
  exact ⟨congrArg (fun z => [(1, z)]) (Eq.symm (show f144 m a0 a1 = _ from rfl)), rfl⟩
set_option maxRecDepth 16384 in
/-- TriplicateForms$Standing.whyNot(III)I -/
noncomputable def f146 (m : MM) (a0 a1 a2 a3 : Int) : Int := (if a1 = 0 then (if (f127 m a0 a3) = 0 then (if (f141 m a0 a2) = (-1) then (if (f132 m a0 a2 a3) = (-1) then 3 else 0) else 2) else 1) else (if a1 = 1 then (if a2 = a3 then 1 else (if (f124 m a0 a2 a3) = 0 then 1 else 0)) else (if a1 = 2 then (if a2 = a3 then 1 else (if (f124 m a0 a2 a3) < 9 then 0 else 2)) else (if a1 = 3 then (if (f129 m a0 a2) = 0 then 0 else 1) else (if a1 = 4 then (if (f129 m a0 a2) = 0 then 1 else 0) else (if a1 = 5 then (if (f127 m a0 a2) = 2 then 1 else (if (f127 m a0 a2) = 3 then 1 else 0)) else (if a1 = 6 then (if (f127 m a0 a2) = 3 then 0 else 1) else (if a2 ≤ (s32 (400 - (m a0 8))) then 0 else 1))))))))
set_option maxRecDepth 16384 in
theorem d146 {X : KO} {ρ : Nat → Int32} {m m' : MM} {rl : List (Nat × Int)} {a0 a1 a2 a3 : Int} (h : Run X ρ 146 [(1, a0), (1, a1), (1, a2), (1, a3)] m rl m') : rl = [(1, f146 m a0 a1 a2 a3)] ∧ m' = m := by
  obtain ⟨N, ig, h⟩ := Run_CR h rfl
  have h : MR X ρ 4 0 0 qP146 N 0 [a0, a1, a2, a3] [] m (ig, rl, m') := h
  have h := CR_iload_n h rfl
  have h : MR X ρ 4 0 0 qP146 N 1 [a0, a1, a2, a3] [(1, a1)] m (ig, rl, m') := h
  obtain ⟨t1, s2, h⟩ := CR_tsw kRg0 h rfl
  rcases Decidable.em (a1 = 0) with c3 | c3
  ·
    have us2 : swt 1 (191) (0) (6) #[43, 80, 100, 124, 138, 152, 176] a1 = some 44 := by rw [c3]; rfl
    have s2 := us2.symm.trans s2
    cases s2
    have h : MR X ρ 4 0 0 qP146 N 44 [a0, a1, a2, a3] [] m (ig, rl, m') := h
    have h := CR_aload_n h rfl
    have h : MR X ρ 4 0 0 qP146 N 45 [a0, a1, a2, a3] [(1, a0)] m (ig, rl, m') := h
    have h := CR_iload_n h rfl
    have h : MR X ρ 4 0 0 qP146 N 46 [a0, a1, a2, a3] [(1, a3), (1, a0)] m (ig, rl, m') := h
    obtain ⟨r4, m5, q6, h⟩ := MR_invV h rfl rfl
    have q6 : Run X ρ 127 [(1, a0), (1, a3)] m r4 m5 := q6
    obtain ⟨e7, e8⟩ := d127 q6
    rw [e7, e8] at h
    have h : MR X ρ 4 0 0 qP146 N 49 [a0, a1, a2, a3] [(1, f127 m a0 a3)] m (ig, rl, m') := h
    rcases MR_if h rfl rfl with ⟨c9, h⟩ | ⟨c9, h⟩
    ·
      have c9 : (f127 m a0 a3) = 0 := c9
      have h : MR X ρ 4 0 0 qP146 N 54 [a0, a1, a2, a3] [] m (ig, rl, m') := h
      have h := CR_aload_n h rfl
      have h : MR X ρ 4 0 0 qP146 N 55 [a0, a1, a2, a3] [(1, a0)] m (ig, rl, m') := h
      have h := CR_iload_n h rfl
      have h : MR X ρ 4 0 0 qP146 N 56 [a0, a1, a2, a3] [(1, a2), (1, a0)] m (ig, rl, m') := h
      obtain ⟨r10, m11, q12, h⟩ := MR_invV h rfl rfl
      have q12 : Run X ρ 141 [(1, a0), (1, a2)] m r10 m11 := q12
      obtain ⟨e13, e14⟩ := d141 q12
      rw [e13, e14] at h
      have h : MR X ρ 4 0 0 qP146 N 59 [a0, a1, a2, a3] [(1, f141 m a0 a2)] m (ig, rl, m') := h
      have h := CR_iconst h rfl rfl
      have h : MR X ρ 4 0 0 qP146 N 60 [a0, a1, a2, a3] [(1, -1), (1, f141 m a0 a2)] m (ig, rl, m') := h
      rcases MR_icmp h rfl rfl with ⟨c15, h⟩ | ⟨c15, h⟩
      ·
        have c15 : (f141 m a0 a2) = (-1) := c15
        have h : MR X ρ 4 0 0 qP146 N 65 [a0, a1, a2, a3] [] m (ig, rl, m') := h
        have h := CR_aload_n h rfl
        have h : MR X ρ 4 0 0 qP146 N 66 [a0, a1, a2, a3] [(1, a0)] m (ig, rl, m') := h
        have h := CR_iload_n h rfl
        have h : MR X ρ 4 0 0 qP146 N 67 [a0, a1, a2, a3] [(1, a2), (1, a0)] m (ig, rl, m') := h
        have h := CR_iload_n h rfl
        have h : MR X ρ 4 0 0 qP146 N 68 [a0, a1, a2, a3] [(1, a3), (1, a2), (1, a0)] m (ig, rl, m') := h
        obtain ⟨r16, m17, q18, h⟩ := MR_invV h rfl rfl
        have q18 : Run X ρ 132 [(1, a0), (1, a2), (1, a3)] m r16 m17 := q18
        obtain ⟨e19, e20⟩ := d132 q18
        rw [e19, e20] at h
        have h : MR X ρ 4 0 0 qP146 N 71 [a0, a1, a2, a3] [(1, f132 m a0 a2 a3)] m (ig, rl, m') := h
        have h := CR_iconst h rfl rfl
        have h : MR X ρ 4 0 0 qP146 N 72 [a0, a1, a2, a3] [(1, -1), (1, f132 m a0 a2 a3)] m (ig, rl, m') := h
        rcases MR_icmp h rfl rfl with ⟨c21, h⟩ | ⟨c21, h⟩
        ·
          have c21 : ¬ ((f132 m a0 a2 a3) = (-1)) := c21
          have h : MR X ρ 4 0 0 qP146 N 79 [a0, a1, a2, a3] [] m (ig, rl, m') := h
          have h := CR_iconst h rfl rfl
          have h : MR X ρ 4 0 0 qP146 N 80 [a0, a1, a2, a3] [(1, 0)] m (ig, rl, m') := h
          have e := CR_end h rfl rfl
          cases e
          exact ⟨congrArg (fun z => [(1, z)]) (Eq.symm (show f146 m a0 a1 a2 a3 = _ from (if_pos c3).trans ((if_pos c9).trans ((if_pos c15).trans ((if_neg c21).trans (rfl)))))), rfl⟩
        ·
          have c21 : (f132 m a0 a2 a3) = (-1) := Decidable.of_not_not (show ¬ ¬ ((f132 m a0 a2 a3) = (-1)) from c21)
          have h : MR X ρ 4 0 0 qP146 N 75 [a0, a1, a2, a3] [] m (ig, rl, m') := h
          have h := CR_iconst h rfl rfl
          have h : MR X ρ 4 0 0 qP146 N 76 [a0, a1, a2, a3] [(1, 3)] m (ig, rl, m') := h
          have h := CR_go h rfl rfl
          have h : MR X ρ 4 0 0 qP146 N 80 [a0, a1, a2, a3] [(1, 3)] m (ig, rl, m') := h
          have e := CR_end h rfl rfl
          cases e
          exact ⟨congrArg (fun z => [(1, z)]) (Eq.symm (show f146 m a0 a1 a2 a3 = _ from (if_pos c3).trans ((if_pos c9).trans ((if_pos c15).trans ((if_pos c21).trans (rfl)))))), rfl⟩
      ·
        have c15 : ¬ ((f141 m a0 a2) = (-1)) := c15
        have h : MR X ρ 4 0 0 qP146 N 63 [a0, a1, a2, a3] [] m (ig, rl, m') := h
        have h := CR_iconst h rfl rfl
        have h : MR X ρ 4 0 0 qP146 N 64 [a0, a1, a2, a3] [(1, 2)] m (ig, rl, m') := h
        have e := CR_end h rfl rfl
        cases e
        exact ⟨congrArg (fun z => [(1, z)]) (Eq.symm (show f146 m a0 a1 a2 a3 = _ from (if_pos c3).trans ((if_pos c9).trans ((if_neg c15).trans (rfl))))), rfl⟩
    ·
      have c9 : ¬ ((f127 m a0 a3) = 0) := c9
      have h : MR X ρ 4 0 0 qP146 N 52 [a0, a1, a2, a3] [] m (ig, rl, m') := h
      have h := CR_iconst h rfl rfl
      have h : MR X ρ 4 0 0 qP146 N 53 [a0, a1, a2, a3] [(1, 1)] m (ig, rl, m') := h
      have e := CR_end h rfl rfl
      cases e
      exact ⟨congrArg (fun z => [(1, z)]) (Eq.symm (show f146 m a0 a1 a2 a3 = _ from (if_pos c3).trans ((if_neg c9).trans (rfl)))), rfl⟩
  ·
    rcases Decidable.em (a1 = 1) with c22 | c22
    ·
      have us2 : swt 1 (191) (0) (6) #[43, 80, 100, 124, 138, 152, 176] a1 = some 81 := by rw [c22]; rfl
      have s2 := us2.symm.trans s2
      cases s2
      have h : MR X ρ 4 0 0 qP146 N 81 [a0, a1, a2, a3] [] m (ig, rl, m') := h
      have h := CR_iload_n h rfl
      have h : MR X ρ 4 0 0 qP146 N 82 [a0, a1, a2, a3] [(1, a2)] m (ig, rl, m') := h
      have h := CR_iload_n h rfl
      have h : MR X ρ 4 0 0 qP146 N 83 [a0, a1, a2, a3] [(1, a3), (1, a2)] m (ig, rl, m') := h
      rcases MR_icmp h rfl rfl with ⟨c23, h⟩ | ⟨c23, h⟩
      ·
        have c23 : a2 = a3 := c23
        have h : MR X ρ 4 0 0 qP146 N 95 [a0, a1, a2, a3] [] m (ig, rl, m') := h
        have h := CR_iconst h rfl rfl
        have h : MR X ρ 4 0 0 qP146 N 96 [a0, a1, a2, a3] [(1, 1)] m (ig, rl, m') := h
        have h := CR_go h rfl rfl
        have h : MR X ρ 4 0 0 qP146 N 100 [a0, a1, a2, a3] [(1, 1)] m (ig, rl, m') := h
        have e := CR_end h rfl rfl
        cases e
        exact ⟨congrArg (fun z => [(1, z)]) (Eq.symm (show f146 m a0 a1 a2 a3 = _ from (if_neg c3).trans ((if_pos c22).trans ((if_pos c23).trans (rfl))))), rfl⟩
      ·
        have c23 : ¬ (a2 = a3) := c23
        have h : MR X ρ 4 0 0 qP146 N 86 [a0, a1, a2, a3] [] m (ig, rl, m') := h
        have h := CR_aload_n h rfl
        have h : MR X ρ 4 0 0 qP146 N 87 [a0, a1, a2, a3] [(1, a0)] m (ig, rl, m') := h
        have h := CR_iload_n h rfl
        have h : MR X ρ 4 0 0 qP146 N 88 [a0, a1, a2, a3] [(1, a2), (1, a0)] m (ig, rl, m') := h
        have h := CR_iload_n h rfl
        have h : MR X ρ 4 0 0 qP146 N 89 [a0, a1, a2, a3] [(1, a3), (1, a2), (1, a0)] m (ig, rl, m') := h
        obtain ⟨r24, m25, q26, h⟩ := MR_invV h rfl rfl
        have q26 : Run X ρ 124 [(1, a0), (1, a2), (1, a3)] m r24 m25 := q26
        obtain ⟨e27, e28⟩ := d124 q26
        rw [e27, e28] at h
        have h : MR X ρ 4 0 0 qP146 N 92 [a0, a1, a2, a3] [(1, f124 m a0 a2 a3)] m (ig, rl, m') := h
        rcases MR_if h rfl rfl with ⟨c29, h⟩ | ⟨c29, h⟩
        ·
          have c29 : ¬ ((f124 m a0 a2 a3) = 0) := c29
          have h : MR X ρ 4 0 0 qP146 N 99 [a0, a1, a2, a3] [] m (ig, rl, m') := h
          have h := CR_iconst h rfl rfl
          have h : MR X ρ 4 0 0 qP146 N 100 [a0, a1, a2, a3] [(1, 0)] m (ig, rl, m') := h
          have e := CR_end h rfl rfl
          cases e
          exact ⟨congrArg (fun z => [(1, z)]) (Eq.symm (show f146 m a0 a1 a2 a3 = _ from (if_neg c3).trans ((if_pos c22).trans ((if_neg c23).trans ((if_neg c29).trans (rfl)))))), rfl⟩
        ·
          have c29 : (f124 m a0 a2 a3) = 0 := Decidable.of_not_not (show ¬ ¬ ((f124 m a0 a2 a3) = 0) from c29)
          have h : MR X ρ 4 0 0 qP146 N 95 [a0, a1, a2, a3] [] m (ig, rl, m') := h
          have h := CR_iconst h rfl rfl
          have h : MR X ρ 4 0 0 qP146 N 96 [a0, a1, a2, a3] [(1, 1)] m (ig, rl, m') := h
          have h := CR_go h rfl rfl
          have h : MR X ρ 4 0 0 qP146 N 100 [a0, a1, a2, a3] [(1, 1)] m (ig, rl, m') := h
          have e := CR_end h rfl rfl
          cases e
          exact ⟨congrArg (fun z => [(1, z)]) (Eq.symm (show f146 m a0 a1 a2 a3 = _ from (if_neg c3).trans ((if_pos c22).trans ((if_neg c23).trans ((if_pos c29).trans (rfl)))))), rfl⟩
    ·
      rcases Decidable.em (a1 = 2) with c30 | c30
      ·
        have us2 : swt 1 (191) (0) (6) #[43, 80, 100, 124, 138, 152, 176] a1 = some 101 := by rw [c30]; rfl
        have s2 := us2.symm.trans s2
        cases s2
        have h : MR X ρ 4 0 0 qP146 N 101 [a0, a1, a2, a3] [] m (ig, rl, m') := h
        have h := CR_iload_n h rfl
        have h : MR X ρ 4 0 0 qP146 N 102 [a0, a1, a2, a3] [(1, a2)] m (ig, rl, m') := h
        have h := CR_iload_n h rfl
        have h : MR X ρ 4 0 0 qP146 N 103 [a0, a1, a2, a3] [(1, a3), (1, a2)] m (ig, rl, m') := h
        rcases MR_icmp h rfl rfl with ⟨c31, h⟩ | ⟨c31, h⟩
        ·
          have c31 : ¬ (a2 = a3) := c31
          have h : MR X ρ 4 0 0 qP146 N 108 [a0, a1, a2, a3] [] m (ig, rl, m') := h
          have h := CR_aload_n h rfl
          have h : MR X ρ 4 0 0 qP146 N 109 [a0, a1, a2, a3] [(1, a0)] m (ig, rl, m') := h
          have h := CR_iload_n h rfl
          have h : MR X ρ 4 0 0 qP146 N 110 [a0, a1, a2, a3] [(1, a2), (1, a0)] m (ig, rl, m') := h
          have h := CR_iload_n h rfl
          have h : MR X ρ 4 0 0 qP146 N 111 [a0, a1, a2, a3] [(1, a3), (1, a2), (1, a0)] m (ig, rl, m') := h
          obtain ⟨r32, m33, q34, h⟩ := MR_invV h rfl rfl
          have q34 : Run X ρ 124 [(1, a0), (1, a2), (1, a3)] m r32 m33 := q34
          obtain ⟨e35, e36⟩ := d124 q34
          rw [e35, e36] at h
          have h : MR X ρ 4 0 0 qP146 N 114 [a0, a1, a2, a3] [(1, f124 m a0 a2 a3)] m (ig, rl, m') := h
          have h := CR_bipush h rfl rfl
          have h : MR X ρ 4 0 0 qP146 N 116 [a0, a1, a2, a3] [(1, 9), (1, f124 m a0 a2 a3)] m (ig, rl, m') := h
          rcases MR_icmp h rfl rfl with ⟨c37, h⟩ | ⟨c37, h⟩
          ·
            have c37 : (f124 m a0 a2 a3) < 9 := c37
            have h : MR X ρ 4 0 0 qP146 N 123 [a0, a1, a2, a3] [] m (ig, rl, m') := h
            have h := CR_iconst h rfl rfl
            have h : MR X ρ 4 0 0 qP146 N 124 [a0, a1, a2, a3] [(1, 0)] m (ig, rl, m') := h
            have e := CR_end h rfl rfl
            cases e
            exact ⟨congrArg (fun z => [(1, z)]) (Eq.symm (show f146 m a0 a1 a2 a3 = _ from (if_neg c3).trans ((if_neg c22).trans ((if_pos c30).trans ((if_neg c31).trans ((if_pos c37).trans (rfl))))))), rfl⟩
          ·
            have c37 : ¬ ((f124 m a0 a2 a3) < 9) := c37
            have h : MR X ρ 4 0 0 qP146 N 119 [a0, a1, a2, a3] [] m (ig, rl, m') := h
            have h := CR_iconst h rfl rfl
            have h : MR X ρ 4 0 0 qP146 N 120 [a0, a1, a2, a3] [(1, 2)] m (ig, rl, m') := h
            have h := CR_go h rfl rfl
            have h : MR X ρ 4 0 0 qP146 N 124 [a0, a1, a2, a3] [(1, 2)] m (ig, rl, m') := h
            have e := CR_end h rfl rfl
            cases e
            exact ⟨congrArg (fun z => [(1, z)]) (Eq.symm (show f146 m a0 a1 a2 a3 = _ from (if_neg c3).trans ((if_neg c22).trans ((if_pos c30).trans ((if_neg c31).trans ((if_neg c37).trans (rfl))))))), rfl⟩
        ·
          have c31 : a2 = a3 := Decidable.of_not_not (show ¬ ¬ (a2 = a3) from c31)
          have h : MR X ρ 4 0 0 qP146 N 106 [a0, a1, a2, a3] [] m (ig, rl, m') := h
          have h := CR_iconst h rfl rfl
          have h : MR X ρ 4 0 0 qP146 N 107 [a0, a1, a2, a3] [(1, 1)] m (ig, rl, m') := h
          have e := CR_end h rfl rfl
          cases e
          exact ⟨congrArg (fun z => [(1, z)]) (Eq.symm (show f146 m a0 a1 a2 a3 = _ from (if_neg c3).trans ((if_neg c22).trans ((if_pos c30).trans ((if_pos c31).trans (rfl)))))), rfl⟩
      ·
        rcases Decidable.em (a1 = 3) with c38 | c38
        ·
          have us2 : swt 1 (191) (0) (6) #[43, 80, 100, 124, 138, 152, 176] a1 = some 125 := by rw [c38]; rfl
          have s2 := us2.symm.trans s2
          cases s2
          have h : MR X ρ 4 0 0 qP146 N 125 [a0, a1, a2, a3] [] m (ig, rl, m') := h
          have h := CR_aload_n h rfl
          have h : MR X ρ 4 0 0 qP146 N 126 [a0, a1, a2, a3] [(1, a0)] m (ig, rl, m') := h
          have h := CR_iload_n h rfl
          have h : MR X ρ 4 0 0 qP146 N 127 [a0, a1, a2, a3] [(1, a2), (1, a0)] m (ig, rl, m') := h
          obtain ⟨r39, m40, q41, h⟩ := MR_invV h rfl rfl
          have q41 : Run X ρ 129 [(1, a0), (1, a2)] m r39 m40 := q41
          obtain ⟨e42, e43⟩ := d129 q41
          rw [e42, e43] at h
          have h : MR X ρ 4 0 0 qP146 N 130 [a0, a1, a2, a3] [(1, f129 m a0 a2)] m (ig, rl, m') := h
          rcases MR_if h rfl rfl with ⟨c44, h⟩ | ⟨c44, h⟩
          ·
            have c44 : (f129 m a0 a2) = 0 := c44
            have h : MR X ρ 4 0 0 qP146 N 137 [a0, a1, a2, a3] [] m (ig, rl, m') := h
            have h := CR_iconst h rfl rfl
            have h : MR X ρ 4 0 0 qP146 N 138 [a0, a1, a2, a3] [(1, 0)] m (ig, rl, m') := h
            have e := CR_end h rfl rfl
            cases e
            exact ⟨congrArg (fun z => [(1, z)]) (Eq.symm (show f146 m a0 a1 a2 a3 = _ from (if_neg c3).trans ((if_neg c22).trans ((if_neg c30).trans ((if_pos c38).trans ((if_pos c44).trans (rfl))))))), rfl⟩
          ·
            have c44 : ¬ ((f129 m a0 a2) = 0) := c44
            have h : MR X ρ 4 0 0 qP146 N 133 [a0, a1, a2, a3] [] m (ig, rl, m') := h
            have h := CR_iconst h rfl rfl
            have h : MR X ρ 4 0 0 qP146 N 134 [a0, a1, a2, a3] [(1, 1)] m (ig, rl, m') := h
            have h := CR_go h rfl rfl
            have h : MR X ρ 4 0 0 qP146 N 138 [a0, a1, a2, a3] [(1, 1)] m (ig, rl, m') := h
            have e := CR_end h rfl rfl
            cases e
            exact ⟨congrArg (fun z => [(1, z)]) (Eq.symm (show f146 m a0 a1 a2 a3 = _ from (if_neg c3).trans ((if_neg c22).trans ((if_neg c30).trans ((if_pos c38).trans ((if_neg c44).trans (rfl))))))), rfl⟩
        ·
          rcases Decidable.em (a1 = 4) with c45 | c45
          ·
            have us2 : swt 1 (191) (0) (6) #[43, 80, 100, 124, 138, 152, 176] a1 = some 139 := by rw [c45]; rfl
            have s2 := us2.symm.trans s2
            cases s2
            have h : MR X ρ 4 0 0 qP146 N 139 [a0, a1, a2, a3] [] m (ig, rl, m') := h
            have h := CR_aload_n h rfl
            have h : MR X ρ 4 0 0 qP146 N 140 [a0, a1, a2, a3] [(1, a0)] m (ig, rl, m') := h
            have h := CR_iload_n h rfl
            have h : MR X ρ 4 0 0 qP146 N 141 [a0, a1, a2, a3] [(1, a2), (1, a0)] m (ig, rl, m') := h
            obtain ⟨r46, m47, q48, h⟩ := MR_invV h rfl rfl
            have q48 : Run X ρ 129 [(1, a0), (1, a2)] m r46 m47 := q48
            obtain ⟨e49, e50⟩ := d129 q48
            rw [e49, e50] at h
            have h : MR X ρ 4 0 0 qP146 N 144 [a0, a1, a2, a3] [(1, f129 m a0 a2)] m (ig, rl, m') := h
            rcases MR_if h rfl rfl with ⟨c51, h⟩ | ⟨c51, h⟩
            ·
              have c51 : (f129 m a0 a2) = 0 := c51
              have h : MR X ρ 4 0 0 qP146 N 151 [a0, a1, a2, a3] [] m (ig, rl, m') := h
              have h := CR_iconst h rfl rfl
              have h : MR X ρ 4 0 0 qP146 N 152 [a0, a1, a2, a3] [(1, 1)] m (ig, rl, m') := h
              have e := CR_end h rfl rfl
              cases e
              exact ⟨congrArg (fun z => [(1, z)]) (Eq.symm (show f146 m a0 a1 a2 a3 = _ from (if_neg c3).trans ((if_neg c22).trans ((if_neg c30).trans ((if_neg c38).trans ((if_pos c45).trans ((if_pos c51).trans (rfl)))))))), rfl⟩
            ·
              have c51 : ¬ ((f129 m a0 a2) = 0) := c51
              have h : MR X ρ 4 0 0 qP146 N 147 [a0, a1, a2, a3] [] m (ig, rl, m') := h
              have h := CR_iconst h rfl rfl
              have h : MR X ρ 4 0 0 qP146 N 148 [a0, a1, a2, a3] [(1, 0)] m (ig, rl, m') := h
              have h := CR_go h rfl rfl
              have h : MR X ρ 4 0 0 qP146 N 152 [a0, a1, a2, a3] [(1, 0)] m (ig, rl, m') := h
              have e := CR_end h rfl rfl
              cases e
              exact ⟨congrArg (fun z => [(1, z)]) (Eq.symm (show f146 m a0 a1 a2 a3 = _ from (if_neg c3).trans ((if_neg c22).trans ((if_neg c30).trans ((if_neg c38).trans ((if_pos c45).trans ((if_neg c51).trans (rfl)))))))), rfl⟩
          ·
            rcases Decidable.em (a1 = 5) with c52 | c52
            ·
              have us2 : swt 1 (191) (0) (6) #[43, 80, 100, 124, 138, 152, 176] a1 = some 153 := by rw [c52]; rfl
              have s2 := us2.symm.trans s2
              cases s2
              have h : MR X ρ 4 0 0 qP146 N 153 [a0, a1, a2, a3] [] m (ig, rl, m') := h
              have h := CR_aload_n h rfl
              have h : MR X ρ 4 0 0 qP146 N 154 [a0, a1, a2, a3] [(1, a0)] m (ig, rl, m') := h
              have h := CR_iload_n h rfl
              have h : MR X ρ 4 0 0 qP146 N 155 [a0, a1, a2, a3] [(1, a2), (1, a0)] m (ig, rl, m') := h
              obtain ⟨r53, m54, q55, h⟩ := MR_invV h rfl rfl
              have q55 : Run X ρ 127 [(1, a0), (1, a2)] m r53 m54 := q55
              obtain ⟨e56, e57⟩ := d127 q55
              rw [e56, e57] at h
              have h : MR X ρ 4 0 0 qP146 N 158 [a0, a1, a2, a3] [(1, f127 m a0 a2)] m (ig, rl, m') := h
              have h := CR_iconst h rfl rfl
              have h : MR X ρ 4 0 0 qP146 N 159 [a0, a1, a2, a3] [(1, 2), (1, f127 m a0 a2)] m (ig, rl, m') := h
              rcases MR_icmp h rfl rfl with ⟨c58, h⟩ | ⟨c58, h⟩
              ·
                have c58 : (f127 m a0 a2) = 2 := c58
                have h : MR X ρ 4 0 0 qP146 N 171 [a0, a1, a2, a3] [] m (ig, rl, m') := h
                have h := CR_iconst h rfl rfl
                have h : MR X ρ 4 0 0 qP146 N 172 [a0, a1, a2, a3] [(1, 1)] m (ig, rl, m') := h
                have h := CR_go h rfl rfl
                have h : MR X ρ 4 0 0 qP146 N 176 [a0, a1, a2, a3] [(1, 1)] m (ig, rl, m') := h
                have e := CR_end h rfl rfl
                cases e
                exact ⟨congrArg (fun z => [(1, z)]) (Eq.symm (show f146 m a0 a1 a2 a3 = _ from (if_neg c3).trans ((if_neg c22).trans ((if_neg c30).trans ((if_neg c38).trans ((if_neg c45).trans ((if_pos c52).trans ((if_pos c58).trans (rfl))))))))), rfl⟩
              ·
                have c58 : ¬ ((f127 m a0 a2) = 2) := c58
                have h : MR X ρ 4 0 0 qP146 N 162 [a0, a1, a2, a3] [] m (ig, rl, m') := h
                have h := CR_aload_n h rfl
                have h : MR X ρ 4 0 0 qP146 N 163 [a0, a1, a2, a3] [(1, a0)] m (ig, rl, m') := h
                have h := CR_iload_n h rfl
                have h : MR X ρ 4 0 0 qP146 N 164 [a0, a1, a2, a3] [(1, a2), (1, a0)] m (ig, rl, m') := h
                obtain ⟨r59, m60, q61, h⟩ := MR_invV h rfl rfl
                have q61 : Run X ρ 127 [(1, a0), (1, a2)] m r59 m60 := q61
                obtain ⟨e62, e63⟩ := d127 q61
                rw [e62, e63] at h
                have h : MR X ρ 4 0 0 qP146 N 167 [a0, a1, a2, a3] [(1, f127 m a0 a2)] m (ig, rl, m') := h
                have h := CR_iconst h rfl rfl
                have h : MR X ρ 4 0 0 qP146 N 168 [a0, a1, a2, a3] [(1, 3), (1, f127 m a0 a2)] m (ig, rl, m') := h
                rcases MR_icmp h rfl rfl with ⟨c64, h⟩ | ⟨c64, h⟩
                ·
                  have c64 : ¬ ((f127 m a0 a2) = 3) := c64
                  have h : MR X ρ 4 0 0 qP146 N 175 [a0, a1, a2, a3] [] m (ig, rl, m') := h
                  have h := CR_iconst h rfl rfl
                  have h : MR X ρ 4 0 0 qP146 N 176 [a0, a1, a2, a3] [(1, 0)] m (ig, rl, m') := h
                  have e := CR_end h rfl rfl
                  cases e
                  exact ⟨congrArg (fun z => [(1, z)]) (Eq.symm (show f146 m a0 a1 a2 a3 = _ from (if_neg c3).trans ((if_neg c22).trans ((if_neg c30).trans ((if_neg c38).trans ((if_neg c45).trans ((if_pos c52).trans ((if_neg c58).trans ((if_neg c64).trans (rfl)))))))))), rfl⟩
                ·
                  have c64 : (f127 m a0 a2) = 3 := Decidable.of_not_not (show ¬ ¬ ((f127 m a0 a2) = 3) from c64)
                  have h : MR X ρ 4 0 0 qP146 N 171 [a0, a1, a2, a3] [] m (ig, rl, m') := h
                  have h := CR_iconst h rfl rfl
                  have h : MR X ρ 4 0 0 qP146 N 172 [a0, a1, a2, a3] [(1, 1)] m (ig, rl, m') := h
                  have h := CR_go h rfl rfl
                  have h : MR X ρ 4 0 0 qP146 N 176 [a0, a1, a2, a3] [(1, 1)] m (ig, rl, m') := h
                  have e := CR_end h rfl rfl
                  cases e
                  exact ⟨congrArg (fun z => [(1, z)]) (Eq.symm (show f146 m a0 a1 a2 a3 = _ from (if_neg c3).trans ((if_neg c22).trans ((if_neg c30).trans ((if_neg c38).trans ((if_neg c45).trans ((if_pos c52).trans ((if_neg c58).trans ((if_pos c64).trans (rfl)))))))))), rfl⟩
            ·
              rcases Decidable.em (a1 = 6) with c65 | c65
              ·
                have us2 : swt 1 (191) (0) (6) #[43, 80, 100, 124, 138, 152, 176] a1 = some 177 := by rw [c65]; rfl
                have s2 := us2.symm.trans s2
                cases s2
                have h : MR X ρ 4 0 0 qP146 N 177 [a0, a1, a2, a3] [] m (ig, rl, m') := h
                have h := CR_aload_n h rfl
                have h : MR X ρ 4 0 0 qP146 N 178 [a0, a1, a2, a3] [(1, a0)] m (ig, rl, m') := h
                have h := CR_iload_n h rfl
                have h : MR X ρ 4 0 0 qP146 N 179 [a0, a1, a2, a3] [(1, a2), (1, a0)] m (ig, rl, m') := h
                obtain ⟨r66, m67, q68, h⟩ := MR_invV h rfl rfl
                have q68 : Run X ρ 127 [(1, a0), (1, a2)] m r66 m67 := q68
                obtain ⟨e69, e70⟩ := d127 q68
                rw [e69, e70] at h
                have h : MR X ρ 4 0 0 qP146 N 182 [a0, a1, a2, a3] [(1, f127 m a0 a2)] m (ig, rl, m') := h
                have h := CR_iconst h rfl rfl
                have h : MR X ρ 4 0 0 qP146 N 183 [a0, a1, a2, a3] [(1, 3), (1, f127 m a0 a2)] m (ig, rl, m') := h
                rcases MR_icmp h rfl rfl with ⟨c71, h⟩ | ⟨c71, h⟩
                ·
                  have c71 : ¬ ((f127 m a0 a2) = 3) := c71
                  have h : MR X ρ 4 0 0 qP146 N 190 [a0, a1, a2, a3] [] m (ig, rl, m') := h
                  have h := CR_iconst h rfl rfl
                  have h : MR X ρ 4 0 0 qP146 N 191 [a0, a1, a2, a3] [(1, 1)] m (ig, rl, m') := h
                  have e := CR_end h rfl rfl
                  cases e
                  exact ⟨congrArg (fun z => [(1, z)]) (Eq.symm (show f146 m a0 a1 a2 a3 = _ from (if_neg c3).trans ((if_neg c22).trans ((if_neg c30).trans ((if_neg c38).trans ((if_neg c45).trans ((if_neg c52).trans ((if_pos c65).trans ((if_neg c71).trans (rfl)))))))))), rfl⟩
                ·
                  have c71 : (f127 m a0 a2) = 3 := Decidable.of_not_not (show ¬ ¬ ((f127 m a0 a2) = 3) from c71)
                  have h : MR X ρ 4 0 0 qP146 N 186 [a0, a1, a2, a3] [] m (ig, rl, m') := h
                  have h := CR_iconst h rfl rfl
                  have h : MR X ρ 4 0 0 qP146 N 187 [a0, a1, a2, a3] [(1, 0)] m (ig, rl, m') := h
                  have h := CR_go h rfl rfl
                  have h : MR X ρ 4 0 0 qP146 N 191 [a0, a1, a2, a3] [(1, 0)] m (ig, rl, m') := h
                  have e := CR_end h rfl rfl
                  cases e
                  exact ⟨congrArg (fun z => [(1, z)]) (Eq.symm (show f146 m a0 a1 a2 a3 = _ from (if_neg c3).trans ((if_neg c22).trans ((if_neg c30).trans ((if_neg c38).trans ((if_neg c45).trans ((if_neg c52).trans ((if_pos c65).trans ((if_pos c71).trans (rfl)))))))))), rfl⟩
              ·
                have us2 := swt_d (pc := 1) (dflt := 191) (lw := 0) (hg := 6) (offs := #[43, 80, 100, 124, 138, 152, 176]) (t := 192) (e := a1) (by omega) rfl
                have s2 := us2.symm.trans s2
                cases s2
                have h : MR X ρ 4 0 0 qP146 N 192 [a0, a1, a2, a3] [] m (ig, rl, m') := h
                have h := CR_iload_n h rfl
                have h : MR X ρ 4 0 0 qP146 N 193 [a0, a1, a2, a3] [(1, a2)] m (ig, rl, m') := h
                have h := CR_sipush h rfl rfl
                have h : MR X ρ 4 0 0 qP146 N 196 [a0, a1, a2, a3] [(1, 400), (1, a2)] m (ig, rl, m') := h
                have h := CR_aload_n h rfl
                have h : MR X ρ 4 0 0 qP146 N 197 [a0, a1, a2, a3] [(1, a0), (1, 400), (1, a2)] m (ig, rl, m') := h
                have h := CR_getf h rfl (by decide)
                have h : MR X ρ 4 0 0 qP146 N 200 [a0, a1, a2, a3] [(1, m a0 8), (1, 400), (1, a2)] m (ig, rl, m') := h
                have h := CR_isub h rfl
                have h : MR X ρ 4 0 0 qP146 N 201 [a0, a1, a2, a3] [(1, s32 (400 - (m a0 8))), (1, a2)] m (ig, rl, m') := h
                rcases MR_icmp h rfl rfl with ⟨c72, h⟩ | ⟨c72, h⟩
                ·
                  have c72 : a2 ≤ (s32 (400 - (m a0 8))) := c72
                  have h : MR X ρ 4 0 0 qP146 N 208 [a0, a1, a2, a3] [] m (ig, rl, m') := h
                  have h := CR_iconst h rfl rfl
                  have h : MR X ρ 4 0 0 qP146 N 209 [a0, a1, a2, a3] [(1, 0)] m (ig, rl, m') := h
                  have e := CR_end h rfl rfl
                  cases e
                  exact ⟨congrArg (fun z => [(1, z)]) (Eq.symm (show f146 m a0 a1 a2 a3 = _ from (if_neg c3).trans ((if_neg c22).trans ((if_neg c30).trans ((if_neg c38).trans ((if_neg c45).trans ((if_neg c52).trans ((if_neg c65).trans ((if_pos c72).trans (rfl)))))))))), rfl⟩
                ·
                  have c72 : ¬ (a2 ≤ (s32 (400 - (m a0 8)))) := c72
                  have h : MR X ρ 4 0 0 qP146 N 204 [a0, a1, a2, a3] [] m (ig, rl, m') := h
                  have h := CR_iconst h rfl rfl
                  have h : MR X ρ 4 0 0 qP146 N 205 [a0, a1, a2, a3] [(1, 1)] m (ig, rl, m') := h
                  have h := CR_go h rfl rfl
                  have h : MR X ρ 4 0 0 qP146 N 209 [a0, a1, a2, a3] [(1, 1)] m (ig, rl, m') := h
                  have e := CR_end h rfl rfl
                  cases e
                  exact ⟨congrArg (fun z => [(1, z)]) (Eq.symm (show f146 m a0 a1 a2 a3 = _ from (if_neg c3).trans ((if_neg c22).trans ((if_neg c30).trans ((if_neg c38).trans ((if_neg c45).trans ((if_neg c52).trans ((if_neg c65).trans ((if_neg c72).trans (rfl)))))))))), rfl⟩
set_option maxRecDepth 16384 in
/-- TriplicateForms$Tape.add(I)V, the loop at 3 -/
noncomputable def S147_3 (m : MM) (b0 b1 b2 : Int) : (Int × MM) ⊕ (Nat × Int × (Int × MM)) := (if b2 < 0 then .inr (1, 0, (b2, m)) else (if (m b0 1) < 0 then .inl (s32 (b2 + (-8)), m) else (if (if m b0 0 = 1000050 then 30 else s32 (m (m b0 0) (-1))) ≤ (m b0 1) then .inl (s32 (b2 + (-8)), m) else .inl (s32 (b2 + (-8)), mu (mu m (m b0 0) (m b0 1) (jbst (m (m b0 0) (-2)) (ji2b (jushr b1 b2)))) b0 1 (s32 (((mu m (m b0 0) (m b0 1) (jbst (m (m b0 0) (-2)) (ji2b (jushr b1 b2)))) b0 1) + 1))))))
set_option maxRecDepth 16384 in
noncomputable def K147_3 (m : MM) (b0 b1 b2 : Int) : (Int × MM) → (Int × MM) ⊕ (Nat × Int × (Int × MM)) := fun s => S147_3 s.2 b0 b1 s.1
set_option maxRecDepth 16384 in
noncomputable def L147_3 (m : MM) (b0 b1 b2 : Int) : (Nat × Int × (Int × MM)) := Lp (K147_3 m b0 b1 b2) (b2, m)
set_option maxRecDepth 16384 in
/-- TriplicateForms$Tape.add(I)V -/
noncomputable def g147 (m : MM) (a0 a1 : Int) : MM := (L147_3 m a0 a1 24).2.2.2
