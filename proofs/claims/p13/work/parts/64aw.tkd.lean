/-! office() answers alike. -/
set_option maxRecDepth 16384 in
def OffA (m : MM) : Prop := m 0 0 = 1 ∧ m 0 2 = 9 ∧ m 0 4 = 22 ∧ m 1 0 = 2 ∧ m 2 (-1) = 940 ∧ LayA m ∧ LayT m
set_option maxRecDepth 16384 in
def OffB (m : MM) : Prop := m 148 1 = 149 ∧ LayB m
set_option maxRecDepth 16384 in
/-- the same bytes were fed -/
def TapeR (a b : MM) (L : Int) : Prop := a 1 1 = L ∧ b 148 2 = L ∧ 0 ≤ L ∧ L ≤ 940 ∧ ∀ j, 0 ≤ j → j < L → jand (a 2 j) 255 = b 149 j
set_option maxRecDepth 16384 in
theorem B230_9 {X : KO} {ρ : Nat → Int32} {o : Instr × List (Nat × Int) × MM} {b2 : Int} {m0 : MM} (hl : m0 148 15 = 151) : ∀ (N : Nat) (i : Int) (m : MM), MR X ρ 3 0 0 qP230 N 9 [148, i, b2] [] m o → 0 ≤ i → i ≤ 92 → Fr (fun x k => x = 151 ∧ 0 ≤ k) m0 m → (∀ k, 0 ≤ k → k < i → m 151 k = 0) → ∃ (N' : Nat) (m1 : MM), MR X ρ 3 0 0 qP230 N' 35 [148, 0, b2] [] (mu m1 148 24 0) o ∧ Fr (fun x k => x = 151 ∧ 0 ≤ k) m0 m1 ∧ ∀ k, 0 ≤ k → k < 92 → m1 151 k = 0 := by
  intro N
  induction N with
  | zero =>
    intro i m h h1 h2 hF hk
    rcases i230_9 h with ⟨c, h⟩ | ⟨c, N', e, _⟩
    · exact ⟨0, m, h, hF, fun k k1 k2 => hk k k1 (by omega)⟩
    · cases e
  | succ N ih =>
    intro i m h h1 h2 hF hk
    rcases i230_9 h with ⟨c, h⟩ | ⟨c, N', e, h⟩
    · exact ⟨N + 1, m, h, hF, fun k k1 k2 => hk k k1 (by omega)⟩
    · cases e
      have e15 : m 148 15 = 151 := by rw [hF 148 15 (by omega)]; exact hl
      rw [s32_id (z := i + 1) (by omega) (by omega), s32_id (z := 0) (by decide) (by decide), e15] at h
      refine ih (i + 1) _ h (by omega) (by omega) (hF.mu ⟨rfl, h1⟩) (fun k k1 k2 => ?_)
      by_cases d : k = i
      · rw [d, mu_s]
      · rw [mu_k d]; exact hk k k1 (by omega)
set_option maxRecDepth 16384 in
theorem B230_end {X : KO} {ρ : Nat → Int32} {o : Instr × List (Nat × Int) × MM} {n : Int} : ∀ (N : Nat) (i : Int) (m : MM), MR X ρ 3 0 0 qP230 N 71 [148, n, i] [] m o → o.2.1 = [(1, n)] := by
  have k97 : ∀ (N : Nat) (i : Int) (m : MM), MR X ρ 3 0 0 qP230 N 97 [148, n, i] [] m o → o.2.1 = [(1, n)] := by
    intro N
    induction N with
    | zero =>
      intro i m h
      rcases i230_97 h with ⟨c, m3, _, h⟩ | ⟨c, N', e, _⟩
      · rw [h]
      · cases e
    | succ N ih =>
      intro i m h
      rcases i230_97 h with ⟨c, m3, _, h⟩ | ⟨c, N', e, h⟩
      · rw [h]
      · cases e
        exact ih _ _ h
  intro N
  induction N with
  | zero =>
    intro i m h
    rcases i230_71 h with ⟨c, h⟩ | ⟨c, N', e, _⟩
    · exact k97 _ _ _ h
    · cases e
  | succ N ih =>
    intro i m h
    rcases i230_71 h with ⟨c, h⟩ | ⟨c, N', e, h⟩
    · exact k97 _ _ _ h
    · cases e
      exact ih _ _ h
set_option maxRecDepth 16384 in
/-- what both have read, behind an office's text -/
theorem text_ok {X : KO} {ρ : Nat → Int32} {a a' b : MM} {rl : List (Nat × Int)} {L : Int} {o' : Instr × List (Nat × Int) × MM} {M : Nat} (hX : XW X) (hS : XS X) (hA : OffA a) (hB : OffB b) (hT : TapeR a b L) (ra : Run X ρ 83 [(1, 9), (1, 1), (1, 22)] a rl a') (rb : MR X ρ 3 0 0 qP230 M 0 [148, 0, 0] [] b o') : (rl = [(1, -1)] ∧ FL a' o'.2.2 ∧ o'.2.1 = [(1, s32 ((-1) - (o'.2.2 148 11)))] ∧ a' 0 0 = a 0 0) ∨ (∃ (k : Nat) (M' : Nat) (b' : MM), rl = [(1, (k : Int))] ∧ ST X (fun j => b 149 j) L 900 a' b' ∧ MR X ρ 3 0 0 qP230 M' 71 [148, (k : Int), 0] [] b' o' ∧ a' 0 0 = a 0 0) := by
  obtain ⟨-, -, -, t0, t1, hLA, hLT⟩ := hA
  obtain ⟨u1, u2, u3⟩ := hB
  obtain ⟨v1, v2, v3, v4, v5⟩ := hT
  obtain ⟨N, ig, ra⟩ := Run_CR ra rfl
  have ra : MR X ρ 4 0 0 qP83 N 0 [9, 1, 22, 0] [] a (ig, rl, a') := ra
  obtain ⟨m2, r2, m5, r5, m8, r8, ha⟩ := i83_0 ra
  obtain ⟨mb, rb1, hb⟩ := i230_0 rb
  have hLA' := hLA
  obtain ⟨l1, l2, l3, l4, l5, l6⟩ := hLA'
  obtain ⟨F1, s14, s95, s96, s97, s98⟩ := A68 l5 r2
  have hLT2 : LayT m2 := by
    obtain ⟨q1, q2, q3, q4, q5, q6, q7, q8, q9, qa, qb, qc⟩ := hLT
    exact ⟨by rw [F1 _ _ (by omega)]; exact q1, by rw [F1 _ _ (by omega)]; exact q2, by rw [F1 _ _ (by omega)]; exact q3, by rw [F1 _ _ (by omega)]; exact q4, by rw [F1 _ _ (by omega)]; exact q5, by rw [F1 _ _ (by omega)]; exact q6, by rw [F1 _ _ (by omega)]; exact q7, by rw [F1 _ _ (by omega)]; exact q8, by rw [F1 _ _ (by omega)]; exact q9, by rw [F1 _ _ (by omega)]; exact qa, by rw [F1 _ _ (by omega)]; exact qb, by rw [F1 _ _ (by omega)]; exact qc⟩
  obtain ⟨F2, g23, -, -, g7, -⟩ := A111 hLT2 r5
  -- the class begins
  obtain ⟨N8, ig8, r8⟩ := Run_CR r8 rfl
  have r8 : MR X ρ 2 0 0 qP149 N8 0 [1, 900] [] m5 (ig8, [], m8) := r8
  obtain ⟨m8', r8b, e⟩ := i149_0 r8
  have e := congrArg (fun z => z.2.2) e
  have e : m8 = m8' := e
  subst e
  clear r8
  -- the reference begins
  obtain ⟨Nb, igb, rb1⟩ := Run_CR rb1 rfl
  have rb1 : MR X ρ 2 0 0 qP169 Nb 0 [148, 900] [] b (igb, [], mb) := rb1
  obtain ⟨mb', rb2, e⟩ := i169_0 rb1
  have e := congrArg (fun z => z.2.2) e
  have e : mb = mb' := e
  subst e
  clear rb1
  have ef : f283 (mu b 148 0 0) 148 = L := by
    show (mu b 148 0 0) 148 2 = L
    rw [mu_k (by decide)]
    exact v2
  have eg : g283 (mu b 148 0 0) 148 = mu (mu b 148 0 0) 148 2 0 := rfl
  rw [ef, eg] at rb2
  have Fb : Fr (fun x k => x = 148 ∧ (k = 0 ∨ k = 2 ∨ k = 3 ∨ k = 4 ∨ k = 10 ∨ k = 5)) b (mu (mu (mu (mu (mu (mu b 148 0 0) 148 2 0) 148 3 L) 148 4 900) 148 10 0) 148 5 0) := ((((((Fr.rf _ _).mu ⟨rfl, by omega⟩).mu ⟨rfl, by omega⟩).mu ⟨rfl, by omega⟩).mu ⟨rfl, by omega⟩).mu ⟨rfl, by omega⟩).mu ⟨rfl, by omega⟩
  have y3 : (mu (mu (mu (mu (mu (mu b 148 0 0) 148 2 0) 148 3 L) 148 4 900) 148 10 0) 148 5 0) 148 3 = L := by rw [mu_k (by decide), mu_k (by decide), mu_k (by decide), mu_s]
  have y4 : (mu (mu (mu (mu (mu (mu b 148 0 0) 148 2 0) 148 3 L) 148 4 900) 148 10 0) 148 5 0) 148 4 = 900 := by rw [mu_k (by decide), mu_k (by decide), mu_s]
  have y10 : (mu (mu (mu (mu (mu (mu b 148 0 0) 148 2 0) 148 3 L) 148 4 900) 148 10 0) 148 5 0) 148 10 = 0 := by rw [mu_k (by decide), mu_s]
  have y5 : (mu (mu (mu (mu (mu (mu b 148 0 0) 148 2 0) 148 3 L) 148 4 900) 148 10 0) 148 5 0) 148 5 = 0 := mu_s _ _ _ _
  revert rb2 Fb y3 y4 y10 y5
  generalize (mu (mu (mu (mu (mu (mu b 148 0 0) 148 2 0) 148 3 L) 148 4 900) 148 10 0) 148 5 0) = b0
  intro rb2 Fb y3 y4 y10 y5
  have Fa : Fr (fun x k => x = 1 ∧ (k = 2 ∨ k = 3 ∨ k = 9 ∨ k = 10)) m5 (mu (mu (mu (mu m5 1 2 900) 1 3 0) 1 9 0) 1 10 0) := ((((Fr.rf _ _).mu ⟨rfl, by omega⟩).mu ⟨rfl, by omega⟩).mu ⟨rfl, by omega⟩).mu ⟨rfl, by omega⟩
  have x2 : (mu (mu (mu (mu m5 1 2 900) 1 3 0) 1 9 0) 1 10 0) 1 2 = 900 := by rw [mu_k (by decide), mu_k (by decide), mu_k (by decide), mu_s]
  have x3 : (mu (mu (mu (mu m5 1 2 900) 1 3 0) 1 9 0) 1 10 0) 1 3 = 0 := by rw [mu_k (by decide), mu_k (by decide), mu_s]
  have x9 : (mu (mu (mu (mu m5 1 2 900) 1 3 0) 1 9 0) 1 10 0) 1 9 = 0 := by rw [mu_k (by decide), mu_s]
  revert r8b Fa x2 x3 x9
  generalize (mu (mu (mu (mu m5 1 2 900) 1 3 0) 1 9 0) 1 10 0) = a0
  intro r8b Fa x2 x3 x9
  have E1 : ∀ k, (k = 0 ∨ k = 1) → a0 1 k = a 1 k := fun k hk => by rw [Fa 1 k (by omega), F2 1 k (by unfold PC; omega), F1 1 k (by omega)]
  have E2 : ∀ k, a0 2 k = a 2 k := fun k => by rw [Fa 2 k (by omega), F2 2 k (by unfold PC; omega), F1 2 k (by omega)]
  have p0 : PR0 (fun j => b 149 j) L 900 a0 b0 := by
    refine ⟨⟨by rw [E1 0 (Or.inl rfl)]; exact t0, by rw [E1 1 (Or.inr rfl)]; exact v1, v3, v4, by rw [E2]; exact t1, fun j j1 j2 => by rw [E2]; exact v5 j j1 j2⟩, ⟨by rw [Fb 148 1 (by omega)]; exact u1, y3, v3, v4, fun j j1 j2 => by rw [Fb 149 j (by omega)]⟩, x2, y4, by rw [x3, y5], by omega, by omega⟩
  have pm := mon_ok hX p0 r8b
  obtain ⟨⟨p1, p2⟩, f1, f2, -, -⟩ := next_ok hX p0 r8b rb2
  -- the reference wipes its rows
  have l15 : mb 148 15 = 151 := by rw [f2.PM 148 15 (fun q => by have := q.2.2; omega), Fb 148 15 (by omega)]; exact u2
  obtain ⟨N', m1, hb, Fz, z⟩ := B230_9 l15 _ 0 mb hb (Int.le_refl _) (by decide) (Fr.rf _ _) (fun k k1 k2 => by omega)
  have Fb2 : Fr (fun x k => (x = 151 ∧ 0 ≤ k) ∨ (x = 148 ∧ k = 24)) mb (mu m1 148 24 0) := (Fz.mo (fun x k q => Or.inl q)).mu (Or.inr ⟨rfl, rfl⟩)
  have zr : ∀ k, 0 ≤ k → k < 92 → (mu m1 148 24 0) 151 k = 0 := fun k k1 k2 => by rw [mu_a (by decide)]; exact z k k1 k2
  have z24 : (mu m1 148 24 0) 148 24 = 0 := mu_s _ _ _ _
  revert hb Fb2 zr z24
  generalize (mu m1 148 24 0) = b2
  intro hb Fb2 zr z24
  have ea : ∀ x k, x ≠ 1 → m8 x k = m5 x k := fun x k hx => by rw [f1.PT x k (fun q => hx q.1), Fa x k (fun q => hx q.1)]
  have e9 : ∀ k, k < 5 → m8 9 k = a 9 k := fun k hk => by rw [ea 9 k (by decide), F2 9 k (by unfold PC; omega), F1 9 k (by omega)]
  have e9' : ∀ k, m8 9 k = m2 9 k := fun k => by rw [ea 9 k (by decide), F2 9 k (by unfold PC; omega)]
  have hs : ST X (fun j => b 149 j) L 900 m8 b2 := by
    refine ⟨⟨PR0_fr p1 (Fr.rf (fun _ _ => False) _) Fb2 (fun _ q => q) (fun _ q => q) (fun k _ _ q => by omega) (fun k q => by omega), TKR_fr p2 (Fr.rf (fun _ _ => False) _) Fb2 (fun _ q => q) (fun k _ _ q => by omega)⟩, ⟨⟨?_, ?_, ?_, ?_, ?_, ?_⟩, ⟨?_, ?_⟩, ⟨?_, ?_, ?_, ?_, ?_, ?_⟩, ⟨fun k k1 k2 => ?_, fun k k1 k2 => ?_⟩, fun k k1 k2 => ?_, fun k k1 k2 => ?_, fun k k1 k2 => ?_, ⟨?_, ?_, ?_, ?_⟩⟩, ?_, ?_⟩
    · rw [e9 _ (by decide)]; exact l1
    · rw [e9 _ (by decide)]; exact l2
    · rw [e9 _ (by decide)]; exact l3
    · rw [e9 _ (by decide)]; exact l4
    · rw [e9 _ (by decide)]; exact l5
    · rw [ea 22 1 (by decide), F2 22 1 (by unfold PC; omega), F1 22 1 (by omega)]; exact l6
    · rw [Fb2 148 15 (by omega)]; exact l15
    · rw [Fb2 148 20 (by omega), f2.PM 148 20 (fun q => by have := q.2.2; omega), Fb 148 20 (by omega)]; exact u3
    · rw [e9', s96, zr 0 (by decide) (by decide)]
    · rw [e9', s96]; exact Int.le_refl _
    · rw [e9', s96]; decide
    · rw [e9', s97, zr 1 (by decide) (by decide)]
    · rw [e9', s97]; exact Int.le_refl _
    · rw [e9', s97]; decide
    · rw [e9', s96] at k2; omega
    · rw [e9', s97] at k2; omega
    · rw [ea 23 k (by decide), g23 k k1 k2, zr (12 + k) (by omega) (by omega)]
      exact ⟨rfl, by decide, by decide, fun _ => rfl⟩
    · rw [ea 14 k (by decide), F2 14 k (by unfold PC; omega), s14 k k1 k2, zr (4 + k) (by omega) (by omega)]
    · rw [e9', s97] at k2; omega
    · rw [e9', s95, z24]
    · rw [e9', s98, zr 2 (by decide) (by decide)]
    · rw [ea 22 7 (by decide), g7, zr 3 (by decide) (by decide)]
    · rw [e9', s95]; exact Or.inl rfl
    · rw [f1 1 9 (by unfold P148; omega)]; exact x9
    · rw [Fb2 148 10 (by omega), f2 148 10 (by unfold P195; omega)]; exact y10
  have hfar : Far 0 m8 := ⟨0, by omega, by have := pm.1; omega, fun q1 q2 => by have := pm.2 q1 q2; omega⟩
  have h00 : m8 0 0 = a 0 0 := by rw [ea 0 0 (by decide), F2 0 0 (by unfold PC; omega), F1 0 0 (by omega)]
  rcases lines_ok (a0 := m8) (b0 := b2) hX hS _ _ 0 0 m8 b2 ha hb hs hfar (Fr.rf _ _) (Fr.rf _ _) with ⟨q1, q2, q3, q4, q5⟩ | ⟨k, M', b', q1, q2, q3, q4, q5⟩
  · exact Or.inl ⟨q1, q2, q3, by rw [← h00]; exact q4 0 0 (by unfold VA; omega)⟩
  · exact Or.inr ⟨k, M', b', q1, q2, q3, by rw [← h00]; exact q4 0 0 (by unfold VA; omega)⟩
set_option maxRecDepth 16384 in
theorem office_ok {X : KO} {ρ : Nat → Int32} {a a' b b' : MM} {rl rl' : List (Nat × Int)} {L : Int} (hX : XW X) (hS : XS X) (hA : OffA a) (hB : OffB b) (hT : TapeR a b L) (ra : Run X ρ 25 [(1, 0)] a rl a') (rb : Run X ρ 230 [(1, 148)] b rl' b') : rl = rl' := by
  obtain ⟨N, ig, ra⟩ := Run_CR ra rfl
  have ra : MR X ρ 2 0 0 qP25 N 0 [0, 0] [] a (ig, rl, a') := ra
  obtain ⟨M, ig', rb⟩ := Run_CR rb rfl
  have rb : MR X ρ 3 0 0 qP230 M 0 [148, 0, 0] [] b (ig', rl', b') := rb
  obtain ⟨v4, m2, r83, A⟩ := i25_0 ra
  have hA' := hA
  obtain ⟨t0, t1, t2, -⟩ := hA'
  rw [t0, t1, t2] at r83
  have hC : m2 0 0 = 1 → (mu (mu m2 0 13 (m2 (m2 0 0) 9)) ((mu m2 0 13 (m2 (m2 0 0) 9)) 0 0) 1 0) 0 13 = m2 1 9 ∧ (mu (mu m2 0 13 (m2 (m2 0 0) 9)) ((mu m2 0 13 (m2 (m2 0 0) 9)) 0 0) 1 0) ((mu (mu m2 0 13 (m2 (m2 0 0) 9)) ((mu m2 0 13 (m2 (m2 0 0) 9)) 0 0) 1 0) 0 0) 10 = m2 1 10 := fun h => by
    have e0 : (mu m2 0 13 (m2 (m2 0 0) 9)) 0 0 = 1 := by rw [mu_k (by decide)]; exact h
    rw [e0, h]
    constructor
    · rw [mu_a (by decide), mu_s]
    · rw [mu_a (b := 0) (by decide), mu_k (b := 0) (j := 0) (by decide), h, mu_k (by decide), mu_a (by decide)]
  rcases text_ok hX hS hA hB hT r83 rb with ⟨q1, q2, q3, q4⟩ | ⟨k, M', b2, q1, q2, q3, q4⟩
  · cases q1
    obtain ⟨c1, c2⟩ := hC (by rw [q4]; exact t0)
    rw [c1, c2] at A
    obtain ⟨d1, d2, d3⟩ := q2
    rcases A with ⟨c, _⟩ | ⟨_, A⟩
    · exact absurd c d3
    · have A := congrArg (fun z => z.2.1) A
      have A : rl = [(1, s32 ((-1) - (m2 1 10)))] := A
      have q3 : rl' = [(1, s32 ((-1) - (b' 148 11)))] := q3
      rw [A, q3, d2]
  · cases q1
    obtain ⟨c1, c2⟩ := hC (by rw [q4]; exact t0)
    rw [c1, c2] at A
    rcases A with ⟨_, A⟩ | ⟨c, _⟩
    · have A := congrArg (fun z => z.2.1) A
      have A : rl = [(1, (k : Int))] := A
      have B := B230_end _ _ _ q3
      have B : rl' = [(1, (k : Int))] := B
      rw [A, B]
    · exact absurd q2.2.2.1 c
