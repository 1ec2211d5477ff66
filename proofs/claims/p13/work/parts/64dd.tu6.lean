section CONDS
variable {X : KO} {ρ : Nat → Int32} {s w : Int}
set_option maxRecDepth 16384 in
theorem c0 {N : Nat} {x : MM} {o : Instr × List (Nat × Int) × MM} {p m c : Int} (h : MR X ρ 8 0 0 qP95 N 15 [s, 1, 3, w, 0, p, m, c] [] x o) : o = (.ireturn, [(1, 0)], x) := by
  rcases s95_15 h with ⟨-, h⟩ | ⟨-, h⟩
  · rcases h with ⟨-, h⟩ | ⟨q, _⟩
    · exact h
    · exact absurd rfl q
  · rcases h with ⟨-, h⟩ | ⟨q, _⟩
    · exact h
    · exact absurd rfl q
set_option maxRecDepth 16384 in
theorem cAnd {N : Nat} {x : MM} {o : Instr × List (Nat × Int) × MM} {p m c : Int} (hp : p = 0 ∨ p = 1) (m0 : 0 ≤ m) (m1 : m ≤ 19) (ha : ¬ f155 X x 1 1000029 = 0) (h : MR X ρ 8 0 0 qP95 N 15 [s, 1, 3, w, 1, p, m, c] [] x o) : ∃ m48, Run X ρ 148 [(1, 1)] x [] m48 ∧ ∃ v m51, Run X ρ 97 [(1, s), (1, 1), (1, 3), (1, w)] m48 [(1, v)] m51 ∧ (v = 0 ∨ v = 1) ∧ ((v = 0 ∧ ∃ N' c', MR X ρ 8 0 0 qP95 N' 15 [s, 1, 3, w, 0, p, m + 1, c'] [] m51 o) ∨ (¬ v = 0 ∧ (f101 m51 s 1 0 0 = 0 ∨ (∃ N' c', MR X ρ 8 0 0 qP95 N' 15 [s, 1, 3, w, 1, p, m + 1, c'] [] (g101 m51 s 1 0 0) o)))) := by
  have A := s95_15 h
  rw [s32_id (z := m + 1) (by omega) (by omega)] at A
  rcases A with ⟨q, _⟩ | ⟨-, A⟩
  · omega
  rcases A with ⟨q, _⟩ | ⟨-, A⟩
  · exact absurd q (by decide)
  rcases A with ⟨q, _⟩ | ⟨-, A⟩
  · exact absurd q ha
  rcases hp with rfl | rfl
  · rcases A with ⟨-, m48, r, v, m51, r2, hv, A⟩ | ⟨q, _⟩
    · refine ⟨m48, r, v, m51, r2, hv, ?_⟩
      rcases A with ⟨e, N', -, A⟩ | ⟨e, A⟩
      · exact Or.inl ⟨e, N', _, A⟩
      · rcases A with ⟨q, _⟩ | ⟨-, y, ey, A⟩
        · exact absurd q ha
        · rcases A with ⟨q, _⟩ | ⟨-, N', -, A⟩
          · exact Or.inr ⟨e, Or.inl q⟩
          · rw [ey] at A; exact Or.inr ⟨e, Or.inr ⟨N', _, A⟩⟩
    · exact absurd rfl q
  · rcases A with ⟨q, _⟩ | ⟨-, m48, r, v, m51, r2, hv, A⟩
    · exact absurd q (by decide)
    · refine ⟨m48, r, v, m51, r2, hv, ?_⟩
      rcases A with ⟨e, N', -, A⟩ | ⟨e, A⟩
      · exact Or.inl ⟨e, N', _, A⟩
      · rcases A with ⟨q, _⟩ | ⟨-, y, ey, A⟩
        · exact absurd q ha
        · rcases A with ⟨q, _⟩ | ⟨-, N', -, A⟩
          · exact Or.inr ⟨e, Or.inl q⟩
          · rw [ey] at A; exact Or.inr ⟨e, Or.inr ⟨N', _, A⟩⟩
set_option maxRecDepth 16384 in
theorem cOr {N : Nat} {x : MM} {o : Instr × List (Nat × Int) × MM} {p m c : Int} (hp : p = 0 ∨ p = 1) (m0 : 0 ≤ m) (m1 : m ≤ 19) (ha : f155 X x 1 1000029 = 0) (hb : ¬ f155 X x 1 1000030 = 0) (h : MR X ρ 8 0 0 qP95 N 15 [s, 1, 3, w, 1, p, m, c] [] x o) : ∃ x0, ((p = 0 ∧ x0 = x) ∨ (p = 1 ∧ x0 = g101 x s 2 0 0)) ∧ ∃ m92, Run X ρ 148 [(1, 1)] x0 [] m92 ∧ ∃ v m95, Run X ρ 97 [(1, s), (1, 1), (1, 3), (1, w)] m92 [(1, v)] m95 ∧ (v = 0 ∨ v = 1) ∧ ((v = 0 ∧ ∃ N' c', MR X ρ 8 0 0 qP95 N' 15 [s, 1, 3, w, 0, 1, m + 1, c'] [] m95 o) ∨ (¬ v = 0 ∧ ∃ N' c', MR X ρ 8 0 0 qP95 N' 15 [s, 1, 3, w, 1, 1, m + 1, c'] [] m95 o)) := by
  have A := s95_15 h
  rw [s32_id (z := m + 1) (by omega) (by omega)] at A
  rcases A with ⟨q, _⟩ | ⟨-, A⟩
  · omega
  rcases A with ⟨q, _⟩ | ⟨-, A⟩
  · exact absurd q (by decide)
  rcases A with ⟨-, A⟩ | ⟨q, _⟩
  · rcases A with ⟨q, _⟩ | ⟨-, A⟩
    · exact absurd q hb
    rcases hp with rfl | rfl
    · rcases A with ⟨-, m92, r, v, m95, r2, hv, A⟩ | ⟨q, _⟩
      · refine ⟨x, Or.inl ⟨rfl, rfl⟩, m92, r, v, m95, r2, hv, ?_⟩
        rcases A with ⟨e, N', -, A⟩ | ⟨e, A⟩
        · exact Or.inl ⟨e, N', _, A⟩
        · rcases A with ⟨-, N', -, A⟩ | ⟨q, _⟩
          · exact Or.inr ⟨e, N', _, A⟩
          · exact absurd ha q
      · exact absurd rfl q
    · rcases A with ⟨q, _⟩ | ⟨-, y, ey, m92, r, v, m95, r2, hv, A⟩
      · exact absurd q (by decide)
      · refine ⟨y, Or.inr ⟨rfl, ey⟩, m92, r, v, m95, r2, hv, ?_⟩
        rcases A with ⟨e, N', -, A⟩ | ⟨e, A⟩
        · exact Or.inl ⟨e, N', _, A⟩
        · rcases A with ⟨-, N', -, A⟩ | ⟨q, _⟩
          · exact Or.inr ⟨e, N', _, A⟩
          · exact absurd ha q
  · exact absurd ha q
set_option maxRecDepth 16384 in
theorem cEnd {N : Nat} {x : MM} {o : Instr × List (Nat × Int) × MM} {p m c : Int} (hp : p = 0 ∨ p = 1) (m1 : m ≤ 19) (ha : f155 X x 1 1000029 = 0) (hb : f155 X x 1 1000030 = 0) (h : MR X ρ 8 0 0 qP95 N 15 [s, 1, 3, w, 1, p, m, c] [] x o) : (p = 0 ∧ o = (.ireturn, [(1, 1)], x)) ∨ (p = 1 ∧ (f101 x s 2 0 0 = 0 ∨ o = (.ireturn, [(1, 1)], g101 x s 2 0 0))) := by
  have A := s95_15 h
  rcases A with ⟨q, _⟩ | ⟨-, A⟩
  · omega
  rcases A with ⟨q, _⟩ | ⟨-, A⟩
  · exact absurd q (by decide)
  rcases A with ⟨-, A⟩ | ⟨q, _⟩
  · rcases A with ⟨-, A⟩ | ⟨q, _⟩
    · rcases hp with rfl | rfl
      · rcases A with ⟨-, A⟩ | ⟨q, _⟩
        · exact Or.inl ⟨rfl, A⟩
        · exact absurd rfl q
      · rcases A with ⟨q, _⟩ | ⟨-, y, ey, A⟩
        · exact absurd q (by decide)
        · rcases A with ⟨q, _⟩ | ⟨-, A⟩
          · exact Or.inr ⟨rfl, Or.inl q⟩
          · rw [ey] at A; exact Or.inr ⟨rfl, Or.inr A⟩
    · exact absurd hb q
  · exact absurd ha q
end CONDS
