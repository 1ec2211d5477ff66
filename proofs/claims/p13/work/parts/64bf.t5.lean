set_option maxRecDepth 16384 in
theorem q67_0 {X : KO} {ρ : Nat → Int32} {m : MM} {N : Nat} {o : Instr × List (Nat × Int) × MM} {a0 a1 : Int} (h : MR X ρ 2 0 0 qP67 N 0 [a0, a1] [] m o) : (∃ y1, y1 = mcp m (m a0 0) (m a1 0) 8 ∧ (∃ y2, y2 = mcp y1 (y1 a0 1) (y1 a1 1) 8 ∧ (∃ y3, y3 = mcp y2 (y2 a0 2) (y2 a1 2) 8 ∧ (∃ y4, y4 = mcp y3 (y3 a0 3) (y3 a1 3) 8 ∧ (∃ y5, y5 = mcp y4 (y4 a0 4) (y4 a1 4) 8 ∧ (∃ y6, y6 = mu y5 a0 5 (y5 a1 5) ∧ (∃ y7, y7 = mu y6 a0 6 (y6 a1 6) ∧ (∃ y8, y8 = mu y7 a0 7 (y7 a1 7) ∧ (∃ y9, y9 = mu y8 a0 8 (y8 a1 8) ∧ (o = (.return_, [], y9))))))))))) := by
  have h := CR_aload_n h rfl
  have h : MR X ρ 2 0 0 qP67 N 1 [a0, a1] [(1, a1)] m o := h
  have h := CR_getf h rfl (by decide)
  have h : MR X ρ 2 0 0 qP67 N 4 [a0, a1] [(1, m a1 0)] m o := h
  have h := CR_iconst h rfl rfl
  have h : MR X ρ 2 0 0 qP67 N 5 [a0, a1] [(1, 0), (1, m a1 0)] m o := h
  have h := CR_aload_n h rfl
  have h : MR X ρ 2 0 0 qP67 N 6 [a0, a1] [(1, a0), (1, 0), (1, m a1 0)] m o := h
  have h := CR_getf h rfl (by decide)
  have h : MR X ρ 2 0 0 qP67 N 9 [a0, a1] [(1, m a0 0), (1, 0), (1, m a1 0)] m o := h
  have h := CR_iconst h rfl rfl
  have h : MR X ρ 2 0 0 qP67 N 10 [a0, a1] [(1, 0), (1, m a0 0), (1, 0), (1, m a1 0)] m o := h
  have h := CR_bipush h rfl rfl
  have h : MR X ρ 2 0 0 qP67 N 12 [a0, a1] [(1, 8), (1, 0), (1, m a0 0), (1, 0), (1, m a1 0)] m o := h
  have h := MR_acopy h rfl rfl
  have h : MR X ρ 2 0 0 qP67 N 15 [a0, a1] [] (mcp m (m a0 0) (m a1 0) 8) o := h
  obtain ⟨y1, zy1, h⟩ : ∃ y, y = mcp m (m a0 0) (m a1 0) 8 ∧ MR X ρ 2 0 0 qP67 N 15 [a0, a1] [] y o := ⟨_, rfl, h⟩
  have h : MR X ρ 2 0 0 qP67 N 15 [a0, a1] [] y1 o := h
  refine ⟨y1, zy1, ?_⟩
  have h := CR_aload_n h rfl
  have h : MR X ρ 2 0 0 qP67 N 16 [a0, a1] [(1, a1)] y1 o := h
  have h := CR_getf h rfl (by decide)
  have h : MR X ρ 2 0 0 qP67 N 19 [a0, a1] [(1, y1 a1 1)] y1 o := h
  have h := CR_iconst h rfl rfl
  have h : MR X ρ 2 0 0 qP67 N 20 [a0, a1] [(1, 0), (1, y1 a1 1)] y1 o := h
  have h := CR_aload_n h rfl
  have h : MR X ρ 2 0 0 qP67 N 21 [a0, a1] [(1, a0), (1, 0), (1, y1 a1 1)] y1 o := h
  have h := CR_getf h rfl (by decide)
  have h : MR X ρ 2 0 0 qP67 N 24 [a0, a1] [(1, y1 a0 1), (1, 0), (1, y1 a1 1)] y1 o := h
  have h := CR_iconst h rfl rfl
  have h : MR X ρ 2 0 0 qP67 N 25 [a0, a1] [(1, 0), (1, y1 a0 1), (1, 0), (1, y1 a1 1)] y1 o := h
  have h := CR_bipush h rfl rfl
  have h : MR X ρ 2 0 0 qP67 N 27 [a0, a1] [(1, 8), (1, 0), (1, y1 a0 1), (1, 0), (1, y1 a1 1)] y1 o := h
  have h := MR_acopy h rfl rfl
  have h : MR X ρ 2 0 0 qP67 N 30 [a0, a1] [] (mcp y1 (y1 a0 1) (y1 a1 1) 8) o := h
  obtain ⟨y2, zy2, h⟩ : ∃ y, y = mcp y1 (y1 a0 1) (y1 a1 1) 8 ∧ MR X ρ 2 0 0 qP67 N 30 [a0, a1] [] y o := ⟨_, rfl, h⟩
  have h : MR X ρ 2 0 0 qP67 N 30 [a0, a1] [] y2 o := h
  refine ⟨y2, zy2, ?_⟩
  have h := CR_aload_n h rfl
  have h : MR X ρ 2 0 0 qP67 N 31 [a0, a1] [(1, a1)] y2 o := h
  have h := CR_getf h rfl (by decide)
  have h : MR X ρ 2 0 0 qP67 N 34 [a0, a1] [(1, y2 a1 2)] y2 o := h
  have h := CR_iconst h rfl rfl
  have h : MR X ρ 2 0 0 qP67 N 35 [a0, a1] [(1, 0), (1, y2 a1 2)] y2 o := h
  have h := CR_aload_n h rfl
  have h : MR X ρ 2 0 0 qP67 N 36 [a0, a1] [(1, a0), (1, 0), (1, y2 a1 2)] y2 o := h
  have h := CR_getf h rfl (by decide)
  have h : MR X ρ 2 0 0 qP67 N 39 [a0, a1] [(1, y2 a0 2), (1, 0), (1, y2 a1 2)] y2 o := h
  have h := CR_iconst h rfl rfl
  have h : MR X ρ 2 0 0 qP67 N 40 [a0, a1] [(1, 0), (1, y2 a0 2), (1, 0), (1, y2 a1 2)] y2 o := h
  have h := CR_bipush h rfl rfl
  have h : MR X ρ 2 0 0 qP67 N 42 [a0, a1] [(1, 8), (1, 0), (1, y2 a0 2), (1, 0), (1, y2 a1 2)] y2 o := h
  have h := MR_acopy h rfl rfl
  have h : MR X ρ 2 0 0 qP67 N 45 [a0, a1] [] (mcp y2 (y2 a0 2) (y2 a1 2) 8) o := h
  obtain ⟨y3, zy3, h⟩ : ∃ y, y = mcp y2 (y2 a0 2) (y2 a1 2) 8 ∧ MR X ρ 2 0 0 qP67 N 45 [a0, a1] [] y o := ⟨_, rfl, h⟩
  have h : MR X ρ 2 0 0 qP67 N 45 [a0, a1] [] y3 o := h
  refine ⟨y3, zy3, ?_⟩
  have h := CR_aload_n h rfl
  have h : MR X ρ 2 0 0 qP67 N 46 [a0, a1] [(1, a1)] y3 o := h
  have h := CR_getf h rfl (by decide)
  have h : MR X ρ 2 0 0 qP67 N 49 [a0, a1] [(1, y3 a1 3)] y3 o := h
  have h := CR_iconst h rfl rfl
  have h : MR X ρ 2 0 0 qP67 N 50 [a0, a1] [(1, 0), (1, y3 a1 3)] y3 o := h
  have h := CR_aload_n h rfl
  have h : MR X ρ 2 0 0 qP67 N 51 [a0, a1] [(1, a0), (1, 0), (1, y3 a1 3)] y3 o := h
  have h := CR_getf h rfl (by decide)
  have h : MR X ρ 2 0 0 qP67 N 54 [a0, a1] [(1, y3 a0 3), (1, 0), (1, y3 a1 3)] y3 o := h
  have h := CR_iconst h rfl rfl
  have h : MR X ρ 2 0 0 qP67 N 55 [a0, a1] [(1, 0), (1, y3 a0 3), (1, 0), (1, y3 a1 3)] y3 o := h
  have h := CR_bipush h rfl rfl
  have h : MR X ρ 2 0 0 qP67 N 57 [a0, a1] [(1, 8), (1, 0), (1, y3 a0 3), (1, 0), (1, y3 a1 3)] y3 o := h
  have h := MR_acopy h rfl rfl
  have h : MR X ρ 2 0 0 qP67 N 60 [a0, a1] [] (mcp y3 (y3 a0 3) (y3 a1 3) 8) o := h
  obtain ⟨y4, zy4, h⟩ : ∃ y, y = mcp y3 (y3 a0 3) (y3 a1 3) 8 ∧ MR X ρ 2 0 0 qP67 N 60 [a0, a1] [] y o := ⟨_, rfl, h⟩
  have h : MR X ρ 2 0 0 qP67 N 60 [a0, a1] [] y4 o := h
  refine ⟨y4, zy4, ?_⟩
  have h := CR_aload_n h rfl
  have h : MR X ρ 2 0 0 qP67 N 61 [a0, a1] [(1, a1)] y4 o := h
  have h := CR_getf h rfl (by decide)
  have h : MR X ρ 2 0 0 qP67 N 64 [a0, a1] [(1, y4 a1 4)] y4 o := h
  have h := CR_iconst h rfl rfl
  have h : MR X ρ 2 0 0 qP67 N 65 [a0, a1] [(1, 0), (1, y4 a1 4)] y4 o := h
  have h := CR_aload_n h rfl
  have h : MR X ρ 2 0 0 qP67 N 66 [a0, a1] [(1, a0), (1, 0), (1, y4 a1 4)] y4 o := h
  have h := CR_getf h rfl (by decide)
  have h : MR X ρ 2 0 0 qP67 N 69 [a0, a1] [(1, y4 a0 4), (1, 0), (1, y4 a1 4)] y4 o := h
  have h := CR_iconst h rfl rfl
  have h : MR X ρ 2 0 0 qP67 N 70 [a0, a1] [(1, 0), (1, y4 a0 4), (1, 0), (1, y4 a1 4)] y4 o := h
  have h := CR_bipush h rfl rfl
  have h : MR X ρ 2 0 0 qP67 N 72 [a0, a1] [(1, 8), (1, 0), (1, y4 a0 4), (1, 0), (1, y4 a1 4)] y4 o := h
  have h := MR_acopy h rfl rfl
  have h : MR X ρ 2 0 0 qP67 N 75 [a0, a1] [] (mcp y4 (y4 a0 4) (y4 a1 4) 8) o := h
  obtain ⟨y5, zy5, h⟩ : ∃ y, y = mcp y4 (y4 a0 4) (y4 a1 4) 8 ∧ MR X ρ 2 0 0 qP67 N 75 [a0, a1] [] y o := ⟨_, rfl, h⟩
  have h : MR X ρ 2 0 0 qP67 N 75 [a0, a1] [] y5 o := h
  refine ⟨y5, zy5, ?_⟩
  have h := CR_aload_n h rfl
  have h : MR X ρ 2 0 0 qP67 N 76 [a0, a1] [(1, a0)] y5 o := h
  have h := CR_aload_n h rfl
  have h : MR X ρ 2 0 0 qP67 N 77 [a0, a1] [(1, a1), (1, a0)] y5 o := h
  have h := CR_getf h rfl (by decide)
  have h : MR X ρ 2 0 0 qP67 N 80 [a0, a1] [(1, y5 a1 5), (1, a0)] y5 o := h
  have h := CR_putf h rfl
  have h : MR X ρ 2 0 0 qP67 N 83 [a0, a1] [] (mu y5 a0 5 (y5 a1 5)) o := h
  obtain ⟨y6, zy6, h⟩ : ∃ y, y = mu y5 a0 5 (y5 a1 5) ∧ MR X ρ 2 0 0 qP67 N 83 [a0, a1] [] y o := ⟨_, rfl, h⟩
  have h : MR X ρ 2 0 0 qP67 N 83 [a0, a1] [] y6 o := h
  refine ⟨y6, zy6, ?_⟩
  have h := CR_aload_n h rfl
  have h : MR X ρ 2 0 0 qP67 N 84 [a0, a1] [(1, a0)] y6 o := h
  have h := CR_aload_n h rfl
  have h : MR X ρ 2 0 0 qP67 N 85 [a0, a1] [(1, a1), (1, a0)] y6 o := h
  have h := CR_getf h rfl (by decide)
  have h : MR X ρ 2 0 0 qP67 N 88 [a0, a1] [(1, y6 a1 6), (1, a0)] y6 o := h
  have h := CR_putf h rfl
  have h : MR X ρ 2 0 0 qP67 N 91 [a0, a1] [] (mu y6 a0 6 (y6 a1 6)) o := h
  obtain ⟨y7, zy7, h⟩ : ∃ y, y = mu y6 a0 6 (y6 a1 6) ∧ MR X ρ 2 0 0 qP67 N 91 [a0, a1] [] y o := ⟨_, rfl, h⟩
  have h : MR X ρ 2 0 0 qP67 N 91 [a0, a1] [] y7 o := h
  refine ⟨y7, zy7, ?_⟩
  have h := CR_aload_n h rfl
  have h : MR X ρ 2 0 0 qP67 N 92 [a0, a1] [(1, a0)] y7 o := h
  have h := CR_aload_n h rfl
  have h : MR X ρ 2 0 0 qP67 N 93 [a0, a1] [(1, a1), (1, a0)] y7 o := h
  have h := CR_getf h rfl (by decide)
  have h : MR X ρ 2 0 0 qP67 N 96 [a0, a1] [(1, y7 a1 7), (1, a0)] y7 o := h
  have h := CR_putf h rfl
  have h : MR X ρ 2 0 0 qP67 N 99 [a0, a1] [] (mu y7 a0 7 (y7 a1 7)) o := h
  obtain ⟨y8, zy8, h⟩ : ∃ y, y = mu y7 a0 7 (y7 a1 7) ∧ MR X ρ 2 0 0 qP67 N 99 [a0, a1] [] y o := ⟨_, rfl, h⟩
  have h : MR X ρ 2 0 0 qP67 N 99 [a0, a1] [] y8 o := h
  refine ⟨y8, zy8, ?_⟩
  have h := CR_aload_n h rfl
  have h : MR X ρ 2 0 0 qP67 N 100 [a0, a1] [(1, a0)] y8 o := h
  have h := CR_aload_n h rfl
  have h : MR X ρ 2 0 0 qP67 N 101 [a0, a1] [(1, a1), (1, a0)] y8 o := h
  have h := CR_getf h rfl (by decide)
  have h : MR X ρ 2 0 0 qP67 N 104 [a0, a1] [(1, y8 a1 8), (1, a0)] y8 o := h
  have h := CR_putf h rfl
  have h : MR X ρ 2 0 0 qP67 N 107 [a0, a1] [] (mu y8 a0 8 (y8 a1 8)) o := h
  obtain ⟨y9, zy9, h⟩ : ∃ y, y = mu y8 a0 8 (y8 a1 8) ∧ MR X ρ 2 0 0 qP67 N 107 [a0, a1] [] y o := ⟨_, rfl, h⟩
  have h : MR X ρ 2 0 0 qP67 N 107 [a0, a1] [] y9 o := h
  refine ⟨y9, zy9, ?_⟩
  exact CR_end h rfl rfl
set_option maxRecDepth 16384 in
theorem q113_0 {X : KO} {ρ : Nat → Int32} {m : MM} {N : Nat} {o : Instr × List (Nat × Int) × MM} {a0 a1 : Int} (h : MR X ρ 2 0 0 qP113 N 0 [a0, a1] [] m o) : (∃ y1, y1 = mcp m (m a0 1) (m a1 1) 64 ∧ (∃ y2, y2 = mcp y1 (y1 a0 2) (y1 a1 2) 8 ∧ (∃ y3, y3 = mcp y2 (y2 a0 3) (y2 a1 3) 8 ∧ (∃ y4, y4 = mcp y3 (y3 a0 4) (y3 a1 4) 8 ∧ (∃ y5, y5 = mcp y4 (y4 a0 5) (y4 a1 5) 8 ∧ (∃ y6, y6 = mcp y5 (y5 a0 6) (y5 a1 6) 24 ∧ (∃ y7, y7 = mu y6 a0 7 (y6 a1 7) ∧ (∃ y8, y8 = mu y7 a0 8 (y7 a1 8) ∧ (o = (.return_, [], y8)))))))))) := by
  have h := CR_aload_n h rfl
  have h : MR X ρ 2 0 0 qP113 N 1 [a0, a1] [(1, a1)] m o := h
  have h := CR_getf h rfl (by decide)
  have h : MR X ρ 2 0 0 qP113 N 4 [a0, a1] [(1, m a1 1)] m o := h
  have h := CR_iconst h rfl rfl
  have h : MR X ρ 2 0 0 qP113 N 5 [a0, a1] [(1, 0), (1, m a1 1)] m o := h
  have h := CR_aload_n h rfl
  have h : MR X ρ 2 0 0 qP113 N 6 [a0, a1] [(1, a0), (1, 0), (1, m a1 1)] m o := h
  have h := CR_getf h rfl (by decide)
  have h : MR X ρ 2 0 0 qP113 N 9 [a0, a1] [(1, m a0 1), (1, 0), (1, m a1 1)] m o := h
  have h := CR_iconst h rfl rfl
  have h : MR X ρ 2 0 0 qP113 N 10 [a0, a1] [(1, 0), (1, m a0 1), (1, 0), (1, m a1 1)] m o := h
  have h := CR_bipush h rfl rfl
  have h : MR X ρ 2 0 0 qP113 N 12 [a0, a1] [(1, 64), (1, 0), (1, m a0 1), (1, 0), (1, m a1 1)] m o := h
  have h := MR_acopy h rfl rfl
  have h : MR X ρ 2 0 0 qP113 N 15 [a0, a1] [] (mcp m (m a0 1) (m a1 1) 64) o := h
  obtain ⟨y1, zy1, h⟩ : ∃ y, y = mcp m (m a0 1) (m a1 1) 64 ∧ MR X ρ 2 0 0 qP113 N 15 [a0, a1] [] y o := ⟨_, rfl, h⟩
  have h : MR X ρ 2 0 0 qP113 N 15 [a0, a1] [] y1 o := h
  refine ⟨y1, zy1, ?_⟩
  have h := CR_aload_n h rfl
  have h : MR X ρ 2 0 0 qP113 N 16 [a0, a1] [(1, a1)] y1 o := h
  have h := CR_getf h rfl (by decide)
  have h : MR X ρ 2 0 0 qP113 N 19 [a0, a1] [(1, y1 a1 2)] y1 o := h
  have h := CR_iconst h rfl rfl
  have h : MR X ρ 2 0 0 qP113 N 20 [a0, a1] [(1, 0), (1, y1 a1 2)] y1 o := h
  have h := CR_aload_n h rfl
  have h : MR X ρ 2 0 0 qP113 N 21 [a0, a1] [(1, a0), (1, 0), (1, y1 a1 2)] y1 o := h
  have h := CR_getf h rfl (by decide)
  have h : MR X ρ 2 0 0 qP113 N 24 [a0, a1] [(1, y1 a0 2), (1, 0), (1, y1 a1 2)] y1 o := h
  have h := CR_iconst h rfl rfl
  have h : MR X ρ 2 0 0 qP113 N 25 [a0, a1] [(1, 0), (1, y1 a0 2), (1, 0), (1, y1 a1 2)] y1 o := h
  have h := CR_bipush h rfl rfl
  have h : MR X ρ 2 0 0 qP113 N 27 [a0, a1] [(1, 8), (1, 0), (1, y1 a0 2), (1, 0), (1, y1 a1 2)] y1 o := h
  have h := MR_acopy h rfl rfl
  have h : MR X ρ 2 0 0 qP113 N 30 [a0, a1] [] (mcp y1 (y1 a0 2) (y1 a1 2) 8) o := h
  obtain ⟨y2, zy2, h⟩ : ∃ y, y = mcp y1 (y1 a0 2) (y1 a1 2) 8 ∧ MR X ρ 2 0 0 qP113 N 30 [a0, a1] [] y o := ⟨_, rfl, h⟩
  have h : MR X ρ 2 0 0 qP113 N 30 [a0, a1] [] y2 o := h
  refine ⟨y2, zy2, ?_⟩
  have h := CR_aload_n h rfl
  have h : MR X ρ 2 0 0 qP113 N 31 [a0, a1] [(1, a1)] y2 o := h
  have h := CR_getf h rfl (by decide)
  have h : MR X ρ 2 0 0 qP113 N 34 [a0, a1] [(1, y2 a1 3)] y2 o := h
  have h := CR_iconst h rfl rfl
  have h : MR X ρ 2 0 0 qP113 N 35 [a0, a1] [(1, 0), (1, y2 a1 3)] y2 o := h
  have h := CR_aload_n h rfl
  have h : MR X ρ 2 0 0 qP113 N 36 [a0, a1] [(1, a0), (1, 0), (1, y2 a1 3)] y2 o := h
  have h := CR_getf h rfl (by decide)
  have h : MR X ρ 2 0 0 qP113 N 39 [a0, a1] [(1, y2 a0 3), (1, 0), (1, y2 a1 3)] y2 o := h
  have h := CR_iconst h rfl rfl
  have h : MR X ρ 2 0 0 qP113 N 40 [a0, a1] [(1, 0), (1, y2 a0 3), (1, 0), (1, y2 a1 3)] y2 o := h
  have h := CR_bipush h rfl rfl
  have h : MR X ρ 2 0 0 qP113 N 42 [a0, a1] [(1, 8), (1, 0), (1, y2 a0 3), (1, 0), (1, y2 a1 3)] y2 o := h
  have h := MR_acopy h rfl rfl
  have h : MR X ρ 2 0 0 qP113 N 45 [a0, a1] [] (mcp y2 (y2 a0 3) (y2 a1 3) 8) o := h
  obtain ⟨y3, zy3, h⟩ : ∃ y, y = mcp y2 (y2 a0 3) (y2 a1 3) 8 ∧ MR X ρ 2 0 0 qP113 N 45 [a0, a1] [] y o := ⟨_, rfl, h⟩
  have h : MR X ρ 2 0 0 qP113 N 45 [a0, a1] [] y3 o := h
  refine ⟨y3, zy3, ?_⟩
  have h := CR_aload_n h rfl
  have h : MR X ρ 2 0 0 qP113 N 46 [a0, a1] [(1, a1)] y3 o := h
  have h := CR_getf h rfl (by decide)
  have h : MR X ρ 2 0 0 qP113 N 49 [a0, a1] [(1, y3 a1 4)] y3 o := h
  have h := CR_iconst h rfl rfl
  have h : MR X ρ 2 0 0 qP113 N 50 [a0, a1] [(1, 0), (1, y3 a1 4)] y3 o := h
  have h := CR_aload_n h rfl
  have h : MR X ρ 2 0 0 qP113 N 51 [a0, a1] [(1, a0), (1, 0), (1, y3 a1 4)] y3 o := h
  have h := CR_getf h rfl (by decide)
  have h : MR X ρ 2 0 0 qP113 N 54 [a0, a1] [(1, y3 a0 4), (1, 0), (1, y3 a1 4)] y3 o := h
  have h := CR_iconst h rfl rfl
  have h : MR X ρ 2 0 0 qP113 N 55 [a0, a1] [(1, 0), (1, y3 a0 4), (1, 0), (1, y3 a1 4)] y3 o := h
  have h := CR_bipush h rfl rfl
  have h : MR X ρ 2 0 0 qP113 N 57 [a0, a1] [(1, 8), (1, 0), (1, y3 a0 4), (1, 0), (1, y3 a1 4)] y3 o := h
  have h := MR_acopy h rfl rfl
  have h : MR X ρ 2 0 0 qP113 N 60 [a0, a1] [] (mcp y3 (y3 a0 4) (y3 a1 4) 8) o := h
  obtain ⟨y4, zy4, h⟩ : ∃ y, y = mcp y3 (y3 a0 4) (y3 a1 4) 8 ∧ MR X ρ 2 0 0 qP113 N 60 [a0, a1] [] y o := ⟨_, rfl, h⟩
  have h : MR X ρ 2 0 0 qP113 N 60 [a0, a1] [] y4 o := h
  refine ⟨y4, zy4, ?_⟩
  have h := CR_aload_n h rfl
  have h : MR X ρ 2 0 0 qP113 N 61 [a0, a1] [(1, a1)] y4 o := h
  have h := CR_getf h rfl (by decide)
  have h : MR X ρ 2 0 0 qP113 N 64 [a0, a1] [(1, y4 a1 5)] y4 o := h
  have h := CR_iconst h rfl rfl
  have h : MR X ρ 2 0 0 qP113 N 65 [a0, a1] [(1, 0), (1, y4 a1 5)] y4 o := h
  have h := CR_aload_n h rfl
  have h : MR X ρ 2 0 0 qP113 N 66 [a0, a1] [(1, a0), (1, 0), (1, y4 a1 5)] y4 o := h
  have h := CR_getf h rfl (by decide)
  have h : MR X ρ 2 0 0 qP113 N 69 [a0, a1] [(1, y4 a0 5), (1, 0), (1, y4 a1 5)] y4 o := h
  have h := CR_iconst h rfl rfl
  have h : MR X ρ 2 0 0 qP113 N 70 [a0, a1] [(1, 0), (1, y4 a0 5), (1, 0), (1, y4 a1 5)] y4 o := h
  have h := CR_bipush h rfl rfl
  have h : MR X ρ 2 0 0 qP113 N 72 [a0, a1] [(1, 8), (1, 0), (1, y4 a0 5), (1, 0), (1, y4 a1 5)] y4 o := h
  have h := MR_acopy h rfl rfl
  have h : MR X ρ 2 0 0 qP113 N 75 [a0, a1] [] (mcp y4 (y4 a0 5) (y4 a1 5) 8) o := h
  obtain ⟨y5, zy5, h⟩ : ∃ y, y = mcp y4 (y4 a0 5) (y4 a1 5) 8 ∧ MR X ρ 2 0 0 qP113 N 75 [a0, a1] [] y o := ⟨_, rfl, h⟩
  have h : MR X ρ 2 0 0 qP113 N 75 [a0, a1] [] y5 o := h
  refine ⟨y5, zy5, ?_⟩
  have h := CR_aload_n h rfl
  have h : MR X ρ 2 0 0 qP113 N 76 [a0, a1] [(1, a1)] y5 o := h
  have h := CR_getf h rfl (by decide)
  have h : MR X ρ 2 0 0 qP113 N 79 [a0, a1] [(1, y5 a1 6)] y5 o := h
  have h := CR_iconst h rfl rfl
  have h : MR X ρ 2 0 0 qP113 N 80 [a0, a1] [(1, 0), (1, y5 a1 6)] y5 o := h
  have h := CR_aload_n h rfl
  have h : MR X ρ 2 0 0 qP113 N 81 [a0, a1] [(1, a0), (1, 0), (1, y5 a1 6)] y5 o := h
  have h := CR_getf h rfl (by decide)
  have h : MR X ρ 2 0 0 qP113 N 84 [a0, a1] [(1, y5 a0 6), (1, 0), (1, y5 a1 6)] y5 o := h
  have h := CR_iconst h rfl rfl
  have h : MR X ρ 2 0 0 qP113 N 85 [a0, a1] [(1, 0), (1, y5 a0 6), (1, 0), (1, y5 a1 6)] y5 o := h
  have h := CR_bipush h rfl rfl
  have h : MR X ρ 2 0 0 qP113 N 87 [a0, a1] [(1, 24), (1, 0), (1, y5 a0 6), (1, 0), (1, y5 a1 6)] y5 o := h
  have h := MR_acopy h rfl rfl
  have h : MR X ρ 2 0 0 qP113 N 90 [a0, a1] [] (mcp y5 (y5 a0 6) (y5 a1 6) 24) o := h
  obtain ⟨y6, zy6, h⟩ : ∃ y, y = mcp y5 (y5 a0 6) (y5 a1 6) 24 ∧ MR X ρ 2 0 0 qP113 N 90 [a0, a1] [] y o := ⟨_, rfl, h⟩
  have h : MR X ρ 2 0 0 qP113 N 90 [a0, a1] [] y6 o := h
  refine ⟨y6, zy6, ?_⟩
  have h := CR_aload_n h rfl
  have h : MR X ρ 2 0 0 qP113 N 91 [a0, a1] [(1, a0)] y6 o := h
  have h := CR_aload_n h rfl
  have h : MR X ρ 2 0 0 qP113 N 92 [a0, a1] [(1, a1), (1, a0)] y6 o := h
  have h := CR_getf h rfl (by decide)
  have h : MR X ρ 2 0 0 qP113 N 95 [a0, a1] [(1, y6 a1 7), (1, a0)] y6 o := h
  have h := CR_putf h rfl
  have h : MR X ρ 2 0 0 qP113 N 98 [a0, a1] [] (mu y6 a0 7 (y6 a1 7)) o := h
  obtain ⟨y7, zy7, h⟩ : ∃ y, y = mu y6 a0 7 (y6 a1 7) ∧ MR X ρ 2 0 0 qP113 N 98 [a0, a1] [] y o := ⟨_, rfl, h⟩
  have h : MR X ρ 2 0 0 qP113 N 98 [a0, a1] [] y7 o := h
  refine ⟨y7, zy7, ?_⟩
  have h := CR_aload_n h rfl
  have h : MR X ρ 2 0 0 qP113 N 99 [a0, a1] [(1, a0)] y7 o := h
  have h := CR_aload_n h rfl
  have h : MR X ρ 2 0 0 qP113 N 100 [a0, a1] [(1, a1), (1, a0)] y7 o := h
  have h := CR_getf h rfl (by decide)
  have h : MR X ρ 2 0 0 qP113 N 103 [a0, a1] [(1, y7 a1 8), (1, a0)] y7 o := h
  have h := CR_putf h rfl
  have h : MR X ρ 2 0 0 qP113 N 106 [a0, a1] [] (mu y7 a0 8 (y7 a1 8)) o := h
  obtain ⟨y8, zy8, h⟩ : ∃ y, y = mu y7 a0 8 (y7 a1 8) ∧ MR X ρ 2 0 0 qP113 N 106 [a0, a1] [] y o := ⟨_, rfl, h⟩
  have h : MR X ρ 2 0 0 qP113 N 106 [a0, a1] [] y8 o := h
  refine ⟨y8, zy8, ?_⟩
  exact CR_end h rfl rfl
set_option maxRecDepth 16384 in
theorem q88_0 {X : KO} {ρ : Nat → Int32} {m : MM} {N : Nat} {o : Instr × List (Nat × Int) × MM} {a0 a1 : Int} (h : MR X ρ 2 0 0 qP88 N 0 [a0, a1] [] m o) : (∃ y1, y1 = mcp m (m a0 0) (m a1 0) 40 ∧ (∃ y2, y2 = mcp y1 (y1 a0 1) (y1 a1 1) 40 ∧ (∃ y3, y3 = mcp y2 (y2 a0 2) (y2 a1 2) 40 ∧ (∃ y4, y4 = mu y3 a0 4 (y3 a1 4) ∧ (∃ y5, y5 = mu y4 a0 5 (y4 a1 5) ∧ (o = (.return_, [], y5))))))) := by
  have h := CR_aload_n h rfl
  have h : MR X ρ 2 0 0 qP88 N 1 [a0, a1] [(1, a1)] m o := h
  have h := CR_getf h rfl (by decide)
  have h : MR X ρ 2 0 0 qP88 N 4 [a0, a1] [(1, m a1 0)] m o := h
  have h := CR_iconst h rfl rfl
  have h : MR X ρ 2 0 0 qP88 N 5 [a0, a1] [(1, 0), (1, m a1 0)] m o := h
  have h := CR_aload_n h rfl
  have h : MR X ρ 2 0 0 qP88 N 6 [a0, a1] [(1, a0), (1, 0), (1, m a1 0)] m o := h
  have h := CR_getf h rfl (by decide)
  have h : MR X ρ 2 0 0 qP88 N 9 [a0, a1] [(1, m a0 0), (1, 0), (1, m a1 0)] m o := h
  have h := CR_iconst h rfl rfl
  have h : MR X ρ 2 0 0 qP88 N 10 [a0, a1] [(1, 0), (1, m a0 0), (1, 0), (1, m a1 0)] m o := h
  have h := CR_bipush h rfl rfl
  have h : MR X ρ 2 0 0 qP88 N 12 [a0, a1] [(1, 40), (1, 0), (1, m a0 0), (1, 0), (1, m a1 0)] m o := h
  have h := MR_acopy h rfl rfl
  have h : MR X ρ 2 0 0 qP88 N 15 [a0, a1] [] (mcp m (m a0 0) (m a1 0) 40) o := h
  obtain ⟨y1, zy1, h⟩ : ∃ y, y = mcp m (m a0 0) (m a1 0) 40 ∧ MR X ρ 2 0 0 qP88 N 15 [a0, a1] [] y o := ⟨_, rfl, h⟩
  have h : MR X ρ 2 0 0 qP88 N 15 [a0, a1] [] y1 o := h
  refine ⟨y1, zy1, ?_⟩
  have h := CR_aload_n h rfl
  have h : MR X ρ 2 0 0 qP88 N 16 [a0, a1] [(1, a1)] y1 o := h
  have h := CR_getf h rfl (by decide)
  have h : MR X ρ 2 0 0 qP88 N 19 [a0, a1] [(1, y1 a1 1)] y1 o := h
  have h := CR_iconst h rfl rfl
  have h : MR X ρ 2 0 0 qP88 N 20 [a0, a1] [(1, 0), (1, y1 a1 1)] y1 o := h
  have h := CR_aload_n h rfl
  have h : MR X ρ 2 0 0 qP88 N 21 [a0, a1] [(1, a0), (1, 0), (1, y1 a1 1)] y1 o := h
  have h := CR_getf h rfl (by decide)
  have h : MR X ρ 2 0 0 qP88 N 24 [a0, a1] [(1, y1 a0 1), (1, 0), (1, y1 a1 1)] y1 o := h
  have h := CR_iconst h rfl rfl
  have h : MR X ρ 2 0 0 qP88 N 25 [a0, a1] [(1, 0), (1, y1 a0 1), (1, 0), (1, y1 a1 1)] y1 o := h
  have h := CR_bipush h rfl rfl
  have h : MR X ρ 2 0 0 qP88 N 27 [a0, a1] [(1, 40), (1, 0), (1, y1 a0 1), (1, 0), (1, y1 a1 1)] y1 o := h
  have h := MR_acopy h rfl rfl
  have h : MR X ρ 2 0 0 qP88 N 30 [a0, a1] [] (mcp y1 (y1 a0 1) (y1 a1 1) 40) o := h
  obtain ⟨y2, zy2, h⟩ : ∃ y, y = mcp y1 (y1 a0 1) (y1 a1 1) 40 ∧ MR X ρ 2 0 0 qP88 N 30 [a0, a1] [] y o := ⟨_, rfl, h⟩
  have h : MR X ρ 2 0 0 qP88 N 30 [a0, a1] [] y2 o := h
  refine ⟨y2, zy2, ?_⟩
  have h := CR_aload_n h rfl
  have h : MR X ρ 2 0 0 qP88 N 31 [a0, a1] [(1, a1)] y2 o := h
  have h := CR_getf h rfl (by decide)
  have h : MR X ρ 2 0 0 qP88 N 34 [a0, a1] [(1, y2 a1 2)] y2 o := h
  have h := CR_iconst h rfl rfl
  have h : MR X ρ 2 0 0 qP88 N 35 [a0, a1] [(1, 0), (1, y2 a1 2)] y2 o := h
  have h := CR_aload_n h rfl
  have h : MR X ρ 2 0 0 qP88 N 36 [a0, a1] [(1, a0), (1, 0), (1, y2 a1 2)] y2 o := h
  have h := CR_getf h rfl (by decide)
  have h : MR X ρ 2 0 0 qP88 N 39 [a0, a1] [(1, y2 a0 2), (1, 0), (1, y2 a1 2)] y2 o := h
  have h := CR_iconst h rfl rfl
  have h : MR X ρ 2 0 0 qP88 N 40 [a0, a1] [(1, 0), (1, y2 a0 2), (1, 0), (1, y2 a1 2)] y2 o := h
  have h := CR_bipush h rfl rfl
  have h : MR X ρ 2 0 0 qP88 N 42 [a0, a1] [(1, 40), (1, 0), (1, y2 a0 2), (1, 0), (1, y2 a1 2)] y2 o := h
  have h := MR_acopy h rfl rfl
  have h : MR X ρ 2 0 0 qP88 N 45 [a0, a1] [] (mcp y2 (y2 a0 2) (y2 a1 2) 40) o := h
  obtain ⟨y3, zy3, h⟩ : ∃ y, y = mcp y2 (y2 a0 2) (y2 a1 2) 40 ∧ MR X ρ 2 0 0 qP88 N 45 [a0, a1] [] y o := ⟨_, rfl, h⟩
  have h : MR X ρ 2 0 0 qP88 N 45 [a0, a1] [] y3 o := h
  refine ⟨y3, zy3, ?_⟩
  have h := CR_aload_n h rfl
  have h : MR X ρ 2 0 0 qP88 N 46 [a0, a1] [(1, a0)] y3 o := h
  have h := CR_aload_n h rfl
  have h : MR X ρ 2 0 0 qP88 N 47 [a0, a1] [(1, a1), (1, a0)] y3 o := h
  have h := CR_getf h rfl (by decide)
  have h : MR X ρ 2 0 0 qP88 N 50 [a0, a1] [(1, y3 a1 4), (1, a0)] y3 o := h
  have h := CR_putf h rfl
  have h : MR X ρ 2 0 0 qP88 N 53 [a0, a1] [] (mu y3 a0 4 (y3 a1 4)) o := h
  obtain ⟨y4, zy4, h⟩ : ∃ y, y = mu y3 a0 4 (y3 a1 4) ∧ MR X ρ 2 0 0 qP88 N 53 [a0, a1] [] y o := ⟨_, rfl, h⟩
  have h : MR X ρ 2 0 0 qP88 N 53 [a0, a1] [] y4 o := h
  refine ⟨y4, zy4, ?_⟩
  have h := CR_aload_n h rfl
  have h : MR X ρ 2 0 0 qP88 N 54 [a0, a1] [(1, a0)] y4 o := h
  have h := CR_aload_n h rfl
  have h : MR X ρ 2 0 0 qP88 N 55 [a0, a1] [(1, a1), (1, a0)] y4 o := h
  have h := CR_getf h rfl (by decide)
  have h : MR X ρ 2 0 0 qP88 N 58 [a0, a1] [(1, y4 a1 5), (1, a0)] y4 o := h
  have h := CR_putf h rfl
  have h : MR X ρ 2 0 0 qP88 N 61 [a0, a1] [] (mu y4 a0 5 (y4 a1 5)) o := h
  obtain ⟨y5, zy5, h⟩ : ∃ y, y = mu y4 a0 5 (y4 a1 5) ∧ MR X ρ 2 0 0 qP88 N 61 [a0, a1] [] y o := ⟨_, rfl, h⟩
  have h : MR X ρ 2 0 0 qP88 N 61 [a0, a1] [] y5 o := h
  refine ⟨y5, zy5, ?_⟩
  exact CR_end h rfl rfl
set_option maxRecDepth 16384 in
theorem q25_0 {X : KO} {ρ : Nat → Int32} {m : MM} {N : Nat} {o : Instr × List (Nat × Int) × MM} {a0 : Int} (h : MR X ρ 2 0 0 qP25 N 0 [a0, 0] [] m o) : (∃ v4 m2, Run X ρ 83 [(1, m a0 2), (1, m a0 0), (1, m a0 4)] m [(1, v4)] m2 ∧ (∃ y5, y5 = mu m2 a0 13 (m2 (m2 a0 0) 9) ∧ (∃ y6, y6 = mu y5 (y5 a0 0) 1 0 ∧ ((((y6 a0 13) = 0) ∧ (∃ m9, Run X ρ 67 [(1, y6 a0 1), (1, y6 a0 2)] y6 [] m9 ∧ (∃ m12, Run X ρ 113 [(1, m9 a0 3), (1, m9 a0 4)] m9 [] m12 ∧ (∃ m15, Run X ρ 89 [(1, m12 a0 11)] m12 [] m15 ∧ (∃ m18, Run X ρ 161 [(1, m15 a0 5)] m15 [] m18 ∧ (o = (.ireturn, [(1, v4)], m18))))))) ∨ (¬ ((y6 a0 13) = 0) ∧ (o = (.ireturn, [(1, s32 ((-1) - (y6 (y6 a0 0) 10)))], y6))))))) := by
  have h := CR_aload_n h rfl
  have h : MR X ρ 2 0 0 qP25 N 1 [a0, 0] [(1, a0)] m o := h
  have h := CR_getf h rfl (by decide)
  have h : MR X ρ 2 0 0 qP25 N 4 [a0, 0] [(1, m a0 2)] m o := h
  have h := CR_aload_n h rfl
  have h : MR X ρ 2 0 0 qP25 N 5 [a0, 0] [(1, a0), (1, m a0 2)] m o := h
  have h := CR_getf h rfl (by decide)
  have h : MR X ρ 2 0 0 qP25 N 8 [a0, 0] [(1, m a0 0), (1, m a0 2)] m o := h
  have h := CR_aload_n h rfl
  have h : MR X ρ 2 0 0 qP25 N 9 [a0, 0] [(1, a0), (1, m a0 0), (1, m a0 2)] m o := h
  have h := CR_getf h rfl (by decide)
  have h : MR X ρ 2 0 0 qP25 N 12 [a0, 0] [(1, m a0 4), (1, m a0 0), (1, m a0 2)] m o := h
  obtain ⟨r1, m2, q3, h⟩ := MR_invV h rfl rfl
  have q3 : Run X ρ 83 [(1, m a0 2), (1, m a0 0), (1, m a0 4)] m r1 m2 := q3
  obtain ⟨v4, rfl⟩ := Run_i q3 rfl
  have h : MR X ρ 2 0 0 qP25 N 15 [a0, 0] [(1, v4)] m2 o := h
  refine ⟨v4, m2, q3, ?_⟩
  have h := CR_istore_n h rfl (Nat.le_of_ble_eq_true rfl)
  have h : MR X ρ 2 0 0 qP25 N 16 [a0, v4] [] m2 o := h
  have h := CR_aload_n h rfl
  have h : MR X ρ 2 0 0 qP25 N 17 [a0, v4] [(1, a0)] m2 o := h
  have h := CR_aload_n h rfl
  have h : MR X ρ 2 0 0 qP25 N 18 [a0, v4] [(1, a0), (1, a0)] m2 o := h
  have h := CR_getf h rfl (by decide)
  have h : MR X ρ 2 0 0 qP25 N 21 [a0, v4] [(1, m2 a0 0), (1, a0)] m2 o := h
  have h := CR_getf h rfl (by decide)
  have h : MR X ρ 2 0 0 qP25 N 24 [a0, v4] [(1, m2 (m2 a0 0) 9), (1, a0)] m2 o := h
  have h := CR_putf h rfl
  have h : MR X ρ 2 0 0 qP25 N 27 [a0, v4] [] (mu m2 a0 13 (m2 (m2 a0 0) 9)) o := h
  obtain ⟨y5, zy5, h⟩ : ∃ y, y = mu m2 a0 13 (m2 (m2 a0 0) 9) ∧ MR X ρ 2 0 0 qP25 N 27 [a0, v4] [] y o := ⟨_, rfl, h⟩
  have h : MR X ρ 2 0 0 qP25 N 27 [a0, v4] [] y5 o := h
  refine ⟨y5, zy5, ?_⟩
  have h := CR_aload_n h rfl
  have h : MR X ρ 2 0 0 qP25 N 28 [a0, v4] [(1, a0)] y5 o := h
  have h := CR_getf h rfl (by decide)
  have h : MR X ρ 2 0 0 qP25 N 31 [a0, v4] [(1, y5 a0 0)] y5 o := h
  have h := CR_iconst h rfl rfl
  have h : MR X ρ 2 0 0 qP25 N 32 [a0, v4] [(1, 0), (1, y5 a0 0)] y5 o := h
  have h := CR_putf h rfl
  have h : MR X ρ 2 0 0 qP25 N 35 [a0, v4] [] (mu y5 (y5 a0 0) 1 0) o := h
  obtain ⟨y6, zy6, h⟩ : ∃ y, y = mu y5 (y5 a0 0) 1 0 ∧ MR X ρ 2 0 0 qP25 N 35 [a0, v4] [] y o := ⟨_, rfl, h⟩
  have h : MR X ρ 2 0 0 qP25 N 35 [a0, v4] [] y6 o := h
  refine ⟨y6, zy6, ?_⟩
  have h := CR_aload_n h rfl
  have h : MR X ρ 2 0 0 qP25 N 36 [a0, v4] [(1, a0)] y6 o := h
  have h := CR_getf h rfl (by decide)
  have h : MR X ρ 2 0 0 qP25 N 39 [a0, v4] [(1, y6 a0 13)] y6 o := h
  rcases MR_if h rfl rfl with ⟨c7, h⟩ | ⟨c7, h⟩
  ·
    have c7 : (y6 a0 13) = 0 := c7
    refine Or.inl ⟨c7, ?_⟩
    have h : MR X ρ 2 0 0 qP25 N 52 [a0, v4] [] y6 o := h
    have h := CR_aload_n h rfl
    have h : MR X ρ 2 0 0 qP25 N 53 [a0, v4] [(1, a0)] y6 o := h
    have h := CR_getf h rfl (by decide)
    have h : MR X ρ 2 0 0 qP25 N 56 [a0, v4] [(1, y6 a0 1)] y6 o := h
    have h := CR_aload_n h rfl
    have h : MR X ρ 2 0 0 qP25 N 57 [a0, v4] [(1, a0), (1, y6 a0 1)] y6 o := h
    have h := CR_getf h rfl (by decide)
    have h : MR X ρ 2 0 0 qP25 N 60 [a0, v4] [(1, y6 a0 2), (1, y6 a0 1)] y6 o := h
    obtain ⟨r8, m9, q10, h⟩ := MR_invV h rfl rfl
    have q10 : Run X ρ 67 [(1, y6 a0 1), (1, y6 a0 2)] y6 r8 m9 := q10
    obtain rfl := Run_v q10 rfl
    have h : MR X ρ 2 0 0 qP25 N 63 [a0, v4] [] m9 o := h
    refine ⟨m9, q10, ?_⟩
    have h := CR_aload_n h rfl
    have h : MR X ρ 2 0 0 qP25 N 64 [a0, v4] [(1, a0)] m9 o := h
    have h := CR_getf h rfl (by decide)
    have h : MR X ρ 2 0 0 qP25 N 67 [a0, v4] [(1, m9 a0 3)] m9 o := h
    have h := CR_aload_n h rfl
    have h : MR X ρ 2 0 0 qP25 N 68 [a0, v4] [(1, a0), (1, m9 a0 3)] m9 o := h
    have h := CR_getf h rfl (by decide)
    have h : MR X ρ 2 0 0 qP25 N 71 [a0, v4] [(1, m9 a0 4), (1, m9 a0 3)] m9 o := h
    obtain ⟨r11, m12, q13, h⟩ := MR_invV h rfl rfl
    have q13 : Run X ρ 113 [(1, m9 a0 3), (1, m9 a0 4)] m9 r11 m12 := q13
    obtain rfl := Run_v q13 rfl
    have h : MR X ρ 2 0 0 qP25 N 74 [a0, v4] [] m12 o := h
    refine ⟨m12, q13, ?_⟩
    have h := CR_aload_n h rfl
    have h : MR X ρ 2 0 0 qP25 N 75 [a0, v4] [(1, a0)] m12 o := h
    have h := CR_getf h rfl (by decide)
    have h : MR X ρ 2 0 0 qP25 N 78 [a0, v4] [(1, m12 a0 11)] m12 o := h
    obtain ⟨r14, m15, q16, h⟩ := MR_invV h rfl rfl
    have q16 : Run X ρ 89 [(1, m12 a0 11)] m12 r14 m15 := q16
    obtain rfl := Run_v q16 rfl
    have h : MR X ρ 2 0 0 qP25 N 81 [a0, v4] [] m15 o := h
    refine ⟨m15, q16, ?_⟩
    have h := CR_aload_n h rfl
    have h : MR X ρ 2 0 0 qP25 N 82 [a0, v4] [(1, a0)] m15 o := h
    have h := CR_getf h rfl (by decide)
    have h : MR X ρ 2 0 0 qP25 N 85 [a0, v4] [(1, m15 a0 5)] m15 o := h
    obtain ⟨r17, m18, q19, h⟩ := MR_invV h rfl rfl
    have q19 : Run X ρ 161 [(1, m15 a0 5)] m15 r17 m18 := q19
    obtain rfl := Run_v q19 rfl
    have h : MR X ρ 2 0 0 qP25 N 88 [a0, v4] [] m18 o := h
    refine ⟨m18, q19, ?_⟩
    have h := CR_iload_n h rfl
    have h : MR X ρ 2 0 0 qP25 N 89 [a0, v4] [(1, v4)] m18 o := h
    exact CR_end h rfl rfl
  ·
    have c7 : ¬ ((y6 a0 13) = 0) := c7
    refine Or.inr ⟨c7, ?_⟩
    have h : MR X ρ 2 0 0 qP25 N 42 [a0, v4] [] y6 o := h
    have h := CR_iconst h rfl rfl
    have h : MR X ρ 2 0 0 qP25 N 43 [a0, v4] [(1, -1)] y6 o := h
    have h := CR_aload_n h rfl
    have h : MR X ρ 2 0 0 qP25 N 44 [a0, v4] [(1, a0), (1, -1)] y6 o := h
    have h := CR_getf h rfl (by decide)
    have h : MR X ρ 2 0 0 qP25 N 47 [a0, v4] [(1, y6 a0 0), (1, -1)] y6 o := h
    have h := CR_getf h rfl (by decide)
    have h : MR X ρ 2 0 0 qP25 N 50 [a0, v4] [(1, y6 (y6 a0 0) 10), (1, -1)] y6 o := h
    have h := CR_isub h rfl
    have h : MR X ρ 2 0 0 qP25 N 51 [a0, v4] [(1, s32 ((-1) - (y6 (y6 a0 0) 10)))] y6 o := h
    exact CR_end h rfl rfl
