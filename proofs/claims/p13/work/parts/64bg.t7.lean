set_option maxRecDepth 16384 in
theorem q230_95 {X : KO} {ρ : Nat → Int32} {m : MM} {N : Nat} {o : Instr × List (Nat × Int) × MM} {b0 b1 b2 : Int} (h : MR X ρ 3 0 0 qP230 N 95 [b0, b1, b2] [] m o) : (MR X ρ 3 0 0 qP230 N 97 [b0, b1, 0] [] m o) := by
  have h := CR_iconst h rfl rfl
  have h : MR X ρ 3 0 0 qP230 N 96 [b0, b1, b2] [(1, 0)] m o := h
  have h := CR_istore_n h rfl (Nat.le_of_ble_eq_true rfl)
  have h : MR X ρ 3 0 0 qP230 N 97 [b0, b1, 0] [] m o := h
  exact h
set_option maxRecDepth 16384 in
theorem q230_121 {X : KO} {ρ : Nat → Int32} {m : MM} {N : Nat} {o : Instr × List (Nat × Int) × MM} {b0 b1 b2 : Int} (h : MR X ρ 3 0 0 qP230 N 121 [b0, b1, b2] [] m o) : (∃ m2, Run X ρ 280 [(1, b0)] m [] m2 ∧ (o = (.ireturn, [(1, b1)], mu m2 b0 23 0))) := by
  have h := CR_aload_n h rfl
  have h : MR X ρ 3 0 0 qP230 N 122 [b0, b1, b2] [(1, b0)] m o := h
  obtain ⟨r1, m2, q3, h⟩ := MR_invV h rfl rfl
  have q3 : Run X ρ 280 [(1, b0)] m r1 m2 := q3
  obtain rfl := Run_v q3 rfl
  have h : MR X ρ 3 0 0 qP230 N 125 [b0, b1, b2] [] m2 o := h
  refine ⟨m2, q3, ?_⟩
  have h := CR_aload_n h rfl
  have h : MR X ρ 3 0 0 qP230 N 126 [b0, b1, b2] [(1, b0)] m2 o := h
  have h := CR_iconst h rfl rfl
  have h : MR X ρ 3 0 0 qP230 N 127 [b0, b1, b2] [(1, 0), (1, b0)] m2 o := h
  have h := CR_putf h rfl
  have h : MR X ρ 3 0 0 qP230 N 130 [b0, b1, b2] [] (mu m2 b0 23 0) o := h
  have h := CR_iload_n h rfl
  have h : MR X ρ 3 0 0 qP230 N 131 [b0, b1, b2] [(1, b1)] (mu m2 b0 23 0) o := h
  exact CR_end h rfl rfl
