section
/-! The office's text again, with all that stays as it was. -/
set_option maxRecDepth 16384 in
def VA2 (x k : Int) : Prop := (x = 1 ∧ 2 ≤ k) ∨ (x = 9 ∧ 5 ≤ k) ∨ (10 ≤ x ∧ x ≤ 14 ∧ 0 ≤ k) ∨ (x = 22 ∧ 7 ≤ k ∧ k ≤ 8) ∨ (23 ≤ x ∧ x ≤ 28 ∧ 0 ≤ k)
set_option maxRecDepth 16384 in
def VB2 (x k : Int) : Prop := (x = 148 ∧ 0 ≤ k ∧ k ≤ 13) ∨ (x = 148 ∧ k = 24) ∨ ((x = 151 ∨ x = 156) ∧ 0 ≤ k)
set_option maxRecDepth 16384 in
/-- what both have read, behind an office's text -/
theorem text_ok2 {X : KO} {ρ : Nat → Int32} {a a' b : MM} {rl : List (Nat × Int)} {L : Int} {o' : Instr × List (Nat × Int) × MM} {M : Nat} (hX : XW X) (hS : XS X) (hA : OffA a) (hB : OffB b) (hT : TapeR a b L) (ra : Run X ρ 83 [(1, 9), (1, 1), (1, 22)] a rl a') (rb : MR X ρ 3 0 0 qP230 M 0 [148, 0, 0] [] b o') : (rl = [(1, -1)] ∧ FL a' o'.2.2 ∧ o'.2.1 = [(1, s32 ((-1) - (o'.2.2 148 11)))] ∧ Fr VA2 a a' ∧ Fr VB2 b o'.2.2) ∨ (∃ (k : Nat) (M' : Nat) (b' : MM), rl = [(1, (k : Int))] ∧ ST X (fun j => b 149 j) L 900 a' b' ∧ MR X ρ 3 0 0 qP230 M' 71 [148, (k : Int), 0] [] b' o' ∧ Fr VA2 a a' ∧ Fr VB2 b b' ∧ (∀ k, 0 ≤ k → k < 8 → a' 24 k = -1 ∧ a' 25 k = 0 ∧ a' 26 k = 0) ∧ (∀ k, 0 ≤ k → k < 24 → a' 28 k = -1) ∧ a' 22 8 = 0) := by
  obtain ⟨-, -, -, t0, t1, hLA, hLT⟩ := hA
  obtain ⟨u1, u2, u3⟩ := hB
  obtain ⟨v1, v2, v3, v4, v5⟩ := hT
  obtain ⟨N, ig, ra⟩ := Run_CR ra rfl
  have ra : MR X ρ 4 0 0 qP83 N 0 [9, 1, 22, 0] [] a (ig, rl, a') := ra
  obtain ⟨m2, r2, m5, r5, m8, r8, ha⟩ := i83_0 ra
  obtain ⟨mb, rb1, hb⟩ := i230_0 rb
  have hLA' := hLA
  obtain ⟨l1, l2, l3, l4, l5, l6⟩ := hLA'
  obtain ⟨F1, s14, s95, s96, s97, s98⟩ := A68 l5 r2
  have hLT2 : LayT m2 := by
    obtain ⟨q1, q2, q3, q4, q5, q6, q7, q8, q9, qa, qb, qc⟩ := hLT
    exact ⟨by rw [F1 _ _ (by omega)]; exact q1, by rw [F1 _ _ (by omega)]; exact q2, by rw [F1 _ _ (by omega)]; exact q3, by rw [F1 _ _ (by omega)]; exact q4, by rw [F1 _ _ (by omega)]; exact q5, by rw [F1 _ _ (by omega)]; exact q6, by rw [F1 _ _ (by omega)]; exact q7, by rw [F1 _ _ (by omega)]; exact q8, by rw [F1 _ _ (by omega)]; exact q9, by rw [F1 _ _ (by omega)]; exact qa, by rw [F1 _ _ (by omega)]; exact qb, by rw [F1 _ _ (by omega)]; exact qc⟩
  obtain ⟨F2, g23, g24, g28, g7, g8⟩ := A111 hLT2 r5
  -- the class begins
  obtain ⟨N8, ig8, r8⟩ := Run_CR r8 rfl
  have r8 : MR X ρ 2 0 0 qP149 N8 0 [1, 900] [] m5 (ig8, [], m8) := r8
  obtain ⟨m8', r8b, e⟩ := i149_0 r8
  have e := congrArg (fun z => z.2.2) e
  have e : m8 = m8' := e
  subst e
  clear r8
  -- the reference begins
  obtain ⟨Nb, igb, rb1⟩ := Run_CR rb1 rfl
  have rb1 : MR X ρ 2 0 0 qP169 Nb 0 [148, 900] [] b (igb, [], mb) := rb1
  obtain ⟨mb', rb2, e⟩ := i169_0 rb1
  have e := congrArg (fun z => z.2.2) e
  have e : mb = mb' := e
  subst e
  clear rb1
  have ef : f283 (mu b 148 0 0) 148 = L := by
    show (mu b 148 0 0) 148 2 = L
    rw [mu_k (by decide)]
    exact v2
  have eg : g283 (mu b 148 0 0) 148 = mu (mu b 148 0 0) 148 2 0 := rfl
  rw [ef, eg] at rb2
  have Fb : Fr (fun x k => x = 148 ∧ (k = 0 ∨ k = 2 ∨ k = 3 ∨ k = 4 ∨ k = 10 ∨ k = 5)) b (mu (mu (mu (mu (mu (mu b 148 0 0) 148 2 0) 148 3 L) 148 4 900) 148 10 0) 148 5 0) := ((((((Fr.rf _ _).mu ⟨rfl, by omega⟩).mu ⟨rfl, by omega⟩).mu ⟨rfl, by omega⟩).mu ⟨rfl, by omega⟩).mu ⟨rfl, by omega⟩).mu ⟨rfl, by omega⟩
  have y3 : (mu (mu (mu (mu (mu (mu b 148 0 0) 148 2 0) 148 3 L) 148 4 900) 148 10 0) 148 5 0) 148 3 = L := by rw [mu_k (by decide), mu_k (by decide), mu_k (by decide), mu_s]
  have y4 : (mu (mu (mu (mu (mu (mu b 148 0 0) 148 2 0) 148 3 L) 148 4 900) 148 10 0) 148 5 0) 148 4 = 900 := by rw [mu_k (by decide), mu_k (by decide), mu_s]
  have y10 : (mu (mu (mu (mu (mu (mu b 148 0 0) 148 2 0) 148 3 L) 148 4 900) 148 10 0) 148 5 0) 148 10 = 0 := by rw [mu_k (by decide), mu_s]
  have y5 : (mu (mu (mu (mu (mu (mu b 148 0 0) 148 2 0) 148 3 L) 148 4 900) 148 10 0) 148 5 0) 148 5 = 0 := mu_s _ _ _ _
  revert rb2 Fb y3 y4 y10 y5
  generalize (mu (mu (mu (mu (mu (mu b 148 0 0) 148 2 0) 148 3 L) 148 4 900) 148 10 0) 148 5 0) = b0
  intro rb2 Fb y3 y4 y10 y5
  have Fa : Fr (fun x k => x = 1 ∧ (k = 2 ∨ k = 3 ∨ k = 9 ∨ k = 10)) m5 (mu (mu (mu (mu m5 1 2 900) 1 3 0) 1 9 0) 1 10 0) := ((((Fr.rf _ _).mu ⟨rfl, by omega⟩).mu ⟨rfl, by omega⟩).mu ⟨rfl, by omega⟩).mu ⟨rfl, by omega⟩
  have x2 : (mu (mu (mu (mu m5 1 2 900) 1 3 0) 1 9 0) 1 10 0) 1 2 = 900 := by rw [mu_k (by decide), mu_k (by decide), mu_k (by decide), mu_s]
  have x3 : (mu (mu (mu (mu m5 1 2 900) 1 3 0) 1 9 0) 1 10 0) 1 3 = 0 := by rw [mu_k (by decide), mu_k (by decide), mu_s]
  have x9 : (mu (mu (mu (mu m5 1 2 900) 1 3 0) 1 9 0) 1 10 0) 1 9 = 0 := by rw [mu_k (by decide), mu_s]
  revert r8b Fa x2 x3 x9
  generalize (mu (mu (mu (mu m5 1 2 900) 1 3 0) 1 9 0) 1 10 0) = a0
  intro r8b Fa x2 x3 x9
  have E1 : ∀ k, (k = 0 ∨ k = 1) → a0 1 k = a 1 k := fun k hk => by rw [Fa 1 k (by omega), F2 1 k (by unfold PC; omega), F1 1 k (by omega)]
  have E2 : ∀ k, a0 2 k = a 2 k := fun k => by rw [Fa 2 k (by omega), F2 2 k (by unfold PC; omega), F1 2 k (by omega)]
  have p0 : PR0 (fun j => b 149 j) L 900 a0 b0 := by
    refine ⟨⟨by rw [E1 0 (Or.inl rfl)]; exact t0, by rw [E1 1 (Or.inr rfl)]; exact v1, v3, v4, by rw [E2]; exact t1, fun j j1 j2 => by rw [E2]; exact v5 j j1 j2⟩, ⟨by rw [Fb 148 1 (by omega)]; exact u1, y3, v3, v4, fun j j1 j2 => by rw [Fb 149 j (by omega)]⟩, x2, y4, by rw [x3, y5], by omega, by omega⟩
  have pm := mon_ok hX p0 r8b
  obtain ⟨⟨p1, p2⟩, f1, f2, -, -⟩ := next_ok hX p0 r8b rb2
  -- the reference wipes its rows
  have l15 : mb 148 15 = 151 := by rw [f2.PM 148 15 (fun q => by have := q.2.2; omega), Fb 148 15 (by omega)]; exact u2
  obtain ⟨N', m1, hb, Fz, z⟩ := B230_9 l15 _ 0 mb hb (Int.le_refl _) (by decide) (Fr.rf _ _) (fun k k1 k2 => by omega)
  have Fb2 : Fr (fun x k => (x = 151 ∧ 0 ≤ k) ∨ (x = 148 ∧ k = 24)) mb (mu m1 148 24 0) := (Fz.mo (fun x k q => Or.inl q)).mu (Or.inr ⟨rfl, rfl⟩)
  have zr : ∀ k, 0 ≤ k → k < 92 → (mu m1 148 24 0) 151 k = 0 := fun k k1 k2 => by rw [mu_a (by decide)]; exact z k k1 k2
  have z24 : (mu m1 148 24 0) 148 24 = 0 := mu_s _ _ _ _
  revert hb Fb2 zr z24
  generalize (mu m1 148 24 0) = b2
  intro hb Fb2 zr z24
  have ea : ∀ x k, x ≠ 1 → m8 x k = m5 x k := fun x k hx => by rw [f1.PT x k (fun q => hx q.1), Fa x k (fun q => hx q.1)]
  have e9 : ∀ k, k < 5 → m8 9 k = a 9 k := fun k hk => by rw [ea 9 k (by decide), F2 9 k (by unfold PC; omega), F1 9 k (by omega)]
  have e9' : ∀ k, m8 9 k = m2 9 k := fun k => by rw [ea 9 k (by decide), F2 9 k (by unfold PC; omega)]
  have hs : ST X (fun j => b 149 j) L 900 m8 b2 := by
    refine ⟨⟨PR0_fr p1 (Fr.rf (fun _ _ => False) _) Fb2 (fun _ q => q) (fun _ q => q) (fun k _ _ q => by omega) (fun k q => by omega), TKR_fr p2 (Fr.rf (fun _ _ => False) _) Fb2 (fun _ q => q) (fun k _ _ q => by omega)⟩, ⟨⟨?_, ?_, ?_, ?_, ?_, ?_⟩, ⟨?_, ?_⟩, ⟨?_, ?_, ?_, ?_, ?_, ?_⟩, ⟨fun k k1 k2 => ?_, fun k k1 k2 => ?_⟩, fun k k1 k2 => ?_, fun k k1 k2 => ?_, fun k k1 k2 => ?_, ⟨?_, ?_, ?_, ?_⟩⟩, ?_, ?_⟩
    · rw [e9 _ (by decide)]; exact l1
    · rw [e9 _ (by decide)]; exact l2
    · rw [e9 _ (by decide)]; exact l3
    · rw [e9 _ (by decide)]; exact l4
    · rw [e9 _ (by decide)]; exact l5
    · rw [ea 22 1 (by decide), F2 22 1 (by unfold PC; omega), F1 22 1 (by omega)]; exact l6
    · rw [Fb2 148 15 (by omega)]; exact l15
    · rw [Fb2 148 20 (by omega), f2.PM 148 20 (fun q => by have := q.2.2; omega), Fb 148 20 (by omega)]; exact u3
    · rw [e9', s96, zr 0 (by decide) (by decide)]
    · rw [e9', s96]; exact Int.le_refl _
    · rw [e9', s96]; decide
    · rw [e9', s97, zr 1 (by decide) (by decide)]
    · rw [e9', s97]; exact Int.le_refl _
    · rw [e9', s97]; decide
    · rw [e9', s96] at k2; omega
    · rw [e9', s97] at k2; omega
    · rw [ea 23 k (by decide), g23 k k1 k2, zr (12 + k) (by omega) (by omega)]
      exact ⟨rfl, by decide, by decide, fun _ => rfl⟩
    · rw [ea 14 k (by decide), F2 14 k (by unfold PC; omega), s14 k k1 k2, zr (4 + k) (by omega) (by omega)]
    · rw [e9', s97] at k2; omega
    · rw [e9', s95, z24]
    · rw [e9', s98, zr 2 (by decide) (by decide)]
    · rw [ea 22 7 (by decide), g7, zr 3 (by decide) (by decide)]
    · rw [e9', s95]; exact Or.inl rfl
    · rw [f1 1 9 (by unfold P148; omega)]; exact x9
    · rw [Fb2 148 10 (by omega), f2 148 10 (by unfold P195; omega)]; exact y10
  have hfar : Far 0 m8 := ⟨0, by omega, by have := pm.1; omega, fun q1 q2 => by have := pm.2 q1 q2; omega⟩
  have FA : Fr VA2 a m8 := ((((F1.mo (fun x k q => by unfold VA2; omega)).tr (F2.mo (fun x k q => by unfold PC at q; unfold VA2; omega))).tr (Fa.mo (fun x k q => by unfold VA2; omega))).tr (f1.mo (fun x k q => by unfold P148 at q; unfold VA2; omega)))
  have FB : Fr VB2 b b2 := ((Fb.mo (fun x k q => by unfold VB2; omega)).tr (f2.mo (fun x k q => by unfold P195 at q; unfold VB2; omega))).tr (Fb2.mo (fun x k q => by unfold VB2; omega))
  have va2 : ∀ {x y : MM}, Fr VA x y → Fr VA2 x y := fun h => h.mo (fun x k q => by unfold VA at q; unfold VA2; omega)
  have vb2 : ∀ {x y : MM}, Fr VB x y → Fr VB2 x y := fun h => h.mo (fun x k q => by unfold VB at q; unfold VB2; omega)
  rcases lines_ok (a0 := m8) (b0 := b2) hX hS _ _ 0 0 m8 b2 ha hb hs hfar (Fr.rf _ _) (Fr.rf _ _) with ⟨q1, q2, q3, q4, q5⟩ | ⟨k, M', b', q1, q2, q3, q4, q5⟩
  · exact Or.inl ⟨q1, q2, q3, FA.tr (va2 q4), FB.tr (vb2 q5)⟩
  · have q4 : Fr VA m8 a' := q4
    refine Or.inr ⟨k, M', b', q1, q2, q3, FA.tr (va2 q4), FB.tr (vb2 q5), fun j j1 j2 => ?_, fun j j1 j2 => ?_, ?_⟩
    · obtain ⟨y1, y2, y3, -⟩ := g24 j j1 j2
      refine ⟨?_, ?_, ?_⟩
      · rw [q4 24 j (by unfold VA; omega), ea 24 j (by decide)]; exact y1
      · rw [q4 25 j (by unfold VA; omega), ea 25 j (by decide)]; exact y2
      · rw [q4 26 j (by unfold VA; omega), ea 26 j (by decide)]; exact y3
    · rw [q4 28 j (by unfold VA; omega), ea 28 j (by decide)]; exact g28 j j1 j2
    · rw [q4 22 8 (by unfold VA; omega), ea 22 8 (by decide)]; exact g8
end
section
/-! Rows copied: rosters, standings, sentences; rows filled. -/
set_option maxRecDepth 16384 in
theorem mcp_k {m : MM} {d s n b j : Int} (h : ¬ (b = d ∧ 0 ≤ j ∧ j < n)) : mcp m d s n b j = m b j := if_neg h
set_option maxRecDepth 16384 in
theorem mcp_i {m : MM} {d s n j : Int} (h1 : 0 ≤ j) (h2 : j < n) : mcp m d s n d j = m s j := if_pos ⟨rfl, h1, h2⟩
set_option maxRecDepth 16384 in
theorem Fr.cp {P : Int → Int → Prop} {m m1 : MM} (h : Fr P m m1) {d s n : Int} (hp : ∀ j, 0 ≤ j → j < n → P d j) : Fr P m (mcp m1 d s n) := fun b j hn => by
  rw [mcp_k (fun q => hn (by rw [q.1]; exact hp j q.2.1 q.2.2))]
  exact h b j hn
set_option maxRecDepth 16384 in
/-- a roster's rows lie behind it -/
def LRo (m : MM) (x : Int) : Prop := m x 0 = x + 1 ∧ m x 1 = x + 2 ∧ m x 2 = x + 3 ∧ m x 3 = x + 4 ∧ m x 4 = x + 5
set_option maxRecDepth 16384 in
def PRo (x a k : Int) : Prop := (a = x ∧ 5 ≤ k ∧ k ≤ 8) ∨ (x < a ∧ a ≤ x + 5 ∧ 0 ≤ k ∧ k < 8)
set_option maxRecDepth 16384 in
theorem A67 {X : KO} {ρ : Nat → Int32} {m m' : MM} {rl : List (Nat × Int)} {x y : Int} (hx : LRo m x) (hy : LRo m y) (hd : x + 5 < y ∨ y + 5 < x) (h : Run X ρ 67 [(1, x), (1, y)] m rl m') : rl = [] ∧ Fr (PRo x) m m' ∧ (∀ k, 5 ≤ k → k ≤ 8 → m' x k = m y k) ∧ (∀ i k, 1 ≤ i → i ≤ 5 → 0 ≤ k → k < 8 → m' (x + i) k = m (y + i) k) := by
  obtain ⟨N, ig, h⟩ := Run_CR h rfl
  have h : MR X ρ 2 0 0 qP67 N 0 [x, y] [] m (ig, rl, m') := h
  obtain ⟨y1, e1, y2, e2, y3, e3, y4, e4, y5, e5, y6, e6, y7, e7, y8, e8, y9, e9, h⟩ := q67_0 h
  cases h
  obtain ⟨x0, x1, x2, x3, x4⟩ := hx
  obtain ⟨z0, z1, z2, z3, z4⟩ := hy
  rw [x0, z0] at e1
  have f1 : Fr (fun a k => a = x + 1 ∧ 0 ≤ k ∧ k < 8) m y1 := by rw [e1]; exact (Fr.rf _ _).cp (fun j h1 h2 => ⟨rfl, h1, h2⟩)
  rw [f1 x 1 (by omega), f1 y 1 (by omega), x1, z1] at e2
  have f2 : Fr (fun a k => (a = x + 1 ∨ a = x + 2) ∧ 0 ≤ k ∧ k < 8) m y2 := by rw [e2]; exact (f1.mo (fun a k q => ⟨Or.inl q.1, q.2⟩)).cp (fun j h1 h2 => ⟨Or.inr rfl, h1, h2⟩)
  rw [f2 x 2 (by omega), f2 y 2 (by omega), x2, z2] at e3
  have f3 : Fr (fun a k => (a = x + 1 ∨ a = x + 2 ∨ a = x + 3) ∧ 0 ≤ k ∧ k < 8) m y3 := by rw [e3]; exact (f2.mo (fun a k q => ⟨by omega, q.2⟩)).cp (fun j h1 h2 => ⟨by omega, h1, h2⟩)
  rw [f3 x 3 (by omega), f3 y 3 (by omega), x3, z3] at e4
  have f4 : Fr (fun a k => (a = x + 1 ∨ a = x + 2 ∨ a = x + 3 ∨ a = x + 4) ∧ 0 ≤ k ∧ k < 8) m y4 := by rw [e4]; exact (f3.mo (fun a k q => ⟨by omega, q.2⟩)).cp (fun j h1 h2 => ⟨by omega, h1, h2⟩)
  rw [f4 x 4 (by omega), f4 y 4 (by omega), x4, z4] at e5
  have f5 : Fr (fun a k => (x < a ∧ a ≤ x + 5) ∧ 0 ≤ k ∧ k < 8) m y5 := by rw [e5]; exact (f4.mo (fun a k q => ⟨by omega, q.2⟩)).cp (fun j h1 h2 => ⟨by omega, h1, h2⟩)
  have f9 : Fr (PRo x) m m' := by
    rw [e9, e8, e7, e6]
    exact ((((f5.mo (fun a k q => Or.inr ⟨q.1.1, q.1.2, q.2⟩)).mu (Or.inl ⟨rfl, by omega⟩)).mu (Or.inl ⟨rfl, by omega⟩)).mu (Or.inl ⟨rfl, by omega⟩)).mu (Or.inl ⟨rfl, by omega⟩)
  refine ⟨rfl, f9, fun k k1 k2 => ?_, fun i k i1 i2 k1 k2 => ?_⟩
  · have hyx : y ≠ x := by omega
    have t5 : ∀ j, 5 ≤ j → y5 y j = m y j := fun j hj => f5 y j (by omega)
    rcases (by omega : k = 5 ∨ k = 6 ∨ k = 7 ∨ k = 8) with rfl | rfl | rfl | rfl
    · rw [e9, mu_k (by decide), e8, mu_k (by decide), e7, mu_k (by decide), e6, mu_s]; exact t5 5 (by decide)
    · rw [e9, mu_k (by decide), e8, mu_k (by decide), e7, mu_s, e6, mu_a hyx]; exact t5 6 (by decide)
    · rw [e9, mu_k (by decide), e8, mu_s, e7, mu_a hyx, e6, mu_a hyx]; exact t5 7 (by decide)
    · rw [e9, mu_s, e8, mu_a hyx, e7, mu_a hyx, e6, mu_a hyx]; exact t5 8 (by decide)
  · have g : m' (x + i) k = y5 (x + i) k := by rw [e9, mu_a (by omega), e8, mu_a (by omega), e7, mu_a (by omega), e6, mu_a (by omega)]
    rw [g]
    rcases (by omega : i = 1 ∨ i = 2 ∨ i = 3 ∨ i = 4 ∨ i = 5) with rfl | rfl | rfl | rfl | rfl
    · rw [e5, mcp_k (by omega), e4, mcp_k (by omega), e3, mcp_k (by omega), e2, mcp_k (by omega), e1, mcp_i k1 k2]
    · rw [e5, mcp_k (by omega), e4, mcp_k (by omega), e3, mcp_k (by omega), e2, mcp_i k1 k2]; exact f1 _ _ (by omega)
    · rw [e5, mcp_k (by omega), e4, mcp_k (by omega), e3, mcp_i k1 k2]; exact f2 _ _ (by omega)
    · rw [e5, mcp_k (by omega), e4, mcp_i k1 k2]; exact f3 _ _ (by omega)
    · rw [e5, mcp_i k1 k2]; exact f4 _ _ (by omega)
set_option maxRecDepth 16384 in
/-- a standing's rows lie behind it -/
def LSt (m : MM) (x : Int) : Prop := m x 1 = x + 1 ∧ m x 2 = x + 2 ∧ m x 3 = x + 3 ∧ m x 4 = x + 4 ∧ m x 5 = x + 5 ∧ m x 6 = x + 6
set_option maxRecDepth 16384 in
def PSt (x a k : Int) : Prop := (a = x ∧ 7 ≤ k ∧ k ≤ 8) ∨ (x < a ∧ a ≤ x + 6 ∧ 0 ≤ k ∧ k < 64)
set_option maxRecDepth 16384 in
theorem A113 {X : KO} {ρ : Nat → Int32} {m m' : MM} {rl : List (Nat × Int)} {x y : Int} (hx : LSt m x) (hy : LSt m y) (hd : x + 6 < y ∨ y + 6 < x) (h : Run X ρ 113 [(1, x), (1, y)] m rl m') : rl = [] ∧ Fr (PSt x) m m' ∧ (m' x 7 = m y 7 ∧ m' x 8 = m y 8) ∧ (∀ k, 0 ≤ k → k < 64 → m' (x + 1) k = m (y + 1) k) ∧ (∀ i k, 2 ≤ i → i ≤ 5 → 0 ≤ k → k < 8 → m' (x + i) k = m (y + i) k) ∧ (∀ k, 0 ≤ k → k < 24 → m' (x + 6) k = m (y + 6) k) := by
  obtain ⟨N, ig, h⟩ := Run_CR h rfl
  have h : MR X ρ 2 0 0 qP113 N 0 [x, y] [] m (ig, rl, m') := h
  obtain ⟨y1, e1, y2, e2, y3, e3, y4, e4, y5, e5, y6, e6, y7, e7, y8, e8, h⟩ := q113_0 h
  cases h
  obtain ⟨x1, x2, x3, x4, x5, x6⟩ := hx
  obtain ⟨z1, z2, z3, z4, z5, z6⟩ := hy
  rw [x1, z1] at e1
  have f1 : Fr (fun a k => a = x + 1 ∧ 0 ≤ k ∧ k < 64) m y1 := by rw [e1]; exact (Fr.rf _ _).cp (fun j h1 h2 => ⟨rfl, h1, h2⟩)
  rw [f1 x 2 (by omega), f1 y 2 (by omega), x2, z2] at e2
  have f2 : Fr (fun a k => (a = x + 1 ∨ a = x + 2) ∧ 0 ≤ k ∧ k < 64) m y2 := by rw [e2]; exact (f1.mo (fun a k q => ⟨Or.inl q.1, q.2⟩)).cp (fun j h1 h2 => ⟨Or.inr rfl, h1, by omega⟩)
  rw [f2 x 3 (by omega), f2 y 3 (by omega), x3, z3] at e3
  have f3 : Fr (fun a k => (a = x + 1 ∨ a = x + 2 ∨ a = x + 3) ∧ 0 ≤ k ∧ k < 64) m y3 := by rw [e3]; exact (f2.mo (fun a k q => ⟨by omega, q.2⟩)).cp (fun j h1 h2 => ⟨by omega, h1, by omega⟩)
  rw [f3 x 4 (by omega), f3 y 4 (by omega), x4, z4] at e4
  have f4 : Fr (fun a k => (a = x + 1 ∨ a = x + 2 ∨ a = x + 3 ∨ a = x + 4) ∧ 0 ≤ k ∧ k < 64) m y4 := by rw [e4]; exact (f3.mo (fun a k q => ⟨by omega, q.2⟩)).cp (fun j h1 h2 => ⟨by omega, h1, by omega⟩)
  rw [f4 x 5 (by omega), f4 y 5 (by omega), x5, z5] at e5
  have f5 : Fr (fun a k => (x < a ∧ a ≤ x + 5) ∧ 0 ≤ k ∧ k < 64) m y5 := by rw [e5]; exact (f4.mo (fun a k q => ⟨by omega, q.2⟩)).cp (fun j h1 h2 => ⟨by omega, h1, by omega⟩)
  rw [f5 x 6 (by omega), f5 y 6 (by omega), x6, z6] at e6
  have f6 : Fr (fun a k => (x < a ∧ a ≤ x + 6) ∧ 0 ≤ k ∧ k < 64) m y6 := by rw [e6]; exact (f5.mo (fun a k q => ⟨by omega, q.2⟩)).cp (fun j h1 h2 => ⟨by omega, h1, by omega⟩)
  have f8 : Fr (PSt x) m m' := by
    rw [e8, e7]
    exact ((f6.mo (fun a k q => Or.inr ⟨q.1.1, q.1.2, q.2⟩)).mu (Or.inl ⟨rfl, by omega⟩)).mu (Or.inl ⟨rfl, by omega⟩)
  have hyx : y ≠ x := by omega
  have g : ∀ i k, 1 ≤ i → m' (x + i) k = y6 (x + i) k := fun i k hi => by rw [e8, mu_a (by omega), e7, mu_a (by omega)]
  refine ⟨rfl, f8, ⟨?_, ?_⟩, fun k k1 k2 => ?_, fun i k i1 i2 k1 k2 => ?_, fun k k1 k2 => ?_⟩
  · rw [e8, mu_k (by decide), e7, mu_s]; exact f6 y 7 (by omega)
  · rw [e8, mu_s, e7, mu_a hyx]; exact f6 y 8 (by omega)
  · rw [g 1 k (by omega), e6, mcp_k (by omega), e5, mcp_k (by omega), e4, mcp_k (by omega), e3, mcp_k (by omega), e2, mcp_k (by omega), e1, mcp_i k1 k2]
  · rw [g i k (by omega), e6, mcp_k (by omega)]
    rcases (by omega : i = 2 ∨ i = 3 ∨ i = 4 ∨ i = 5) with rfl | rfl | rfl | rfl
    · rw [e5, mcp_k (by omega), e4, mcp_k (by omega), e3, mcp_k (by omega), e2, mcp_i k1 k2]; exact f1 _ _ (by omega)
    · rw [e5, mcp_k (by omega), e4, mcp_k (by omega), e3, mcp_i k1 k2]; exact f2 _ _ (by omega)
    · rw [e5, mcp_k (by omega), e4, mcp_i k1 k2]; exact f3 _ _ (by omega)
    · rw [e5, mcp_i k1 k2]; exact f4 _ _ (by omega)
  · rw [g 6 k (by omega), e6, mcp_i k1 k2]; exact f5 _ _ (by omega)
set_option maxRecDepth 16384 in
/-- a sentence's rows lie behind it -/
def LSe (m : MM) (x : Int) : Prop := m x 0 = x + 1 ∧ m x 1 = x + 2 ∧ m x 2 = x + 3
set_option maxRecDepth 16384 in
def PSe (x a k : Int) : Prop := (a = x ∧ 4 ≤ k ∧ k ≤ 5) ∨ (x < a ∧ a ≤ x + 3 ∧ 0 ≤ k ∧ k < 40)
set_option maxRecDepth 16384 in
theorem A88 {X : KO} {ρ : Nat → Int32} {m m' : MM} {rl : List (Nat × Int)} {x y : Int} (hx : LSe m x) (hy : LSe m y) (hd : x + 3 < y ∨ y + 3 < x) (h : Run X ρ 88 [(1, x), (1, y)] m rl m') : rl = [] ∧ Fr (PSe x) m m' ∧ (m' x 4 = m y 4 ∧ m' x 5 = m y 5) ∧ (∀ i k, 1 ≤ i → i ≤ 3 → 0 ≤ k → k < 40 → m' (x + i) k = m (y + i) k) := by
  obtain ⟨N, ig, h⟩ := Run_CR h rfl
  have h : MR X ρ 2 0 0 qP88 N 0 [x, y] [] m (ig, rl, m') := h
  obtain ⟨y1, e1, y2, e2, y3, e3, y4, e4, y5, e5, h⟩ := q88_0 h
  cases h
  obtain ⟨x0, x1, x2⟩ := hx
  obtain ⟨z0, z1, z2⟩ := hy
  rw [x0, z0] at e1
  have f1 : Fr (fun a k => a = x + 1 ∧ 0 ≤ k ∧ k < 40) m y1 := by rw [e1]; exact (Fr.rf _ _).cp (fun j h1 h2 => ⟨rfl, h1, h2⟩)
  rw [f1 x 1 (by omega), f1 y 1 (by omega), x1, z1] at e2
  have f2 : Fr (fun a k => (a = x + 1 ∨ a = x + 2) ∧ 0 ≤ k ∧ k < 40) m y2 := by rw [e2]; exact (f1.mo (fun a k q => ⟨Or.inl q.1, q.2⟩)).cp (fun j h1 h2 => ⟨Or.inr rfl, h1, h2⟩)
  rw [f2 x 2 (by omega), f2 y 2 (by omega), x2, z2] at e3
  have f3 : Fr (fun a k => (x < a ∧ a ≤ x + 3) ∧ 0 ≤ k ∧ k < 40) m y3 := by rw [e3]; exact (f2.mo (fun a k q => ⟨by omega, q.2⟩)).cp (fun j h1 h2 => ⟨by omega, h1, h2⟩)
  have hyx : y ≠ x := by omega
  have g : ∀ i k, 1 ≤ i → m' (x + i) k = y3 (x + i) k := fun i k hi => by rw [e5, mu_a (by omega), e4, mu_a (by omega)]
  refine ⟨rfl, ?_, ⟨?_, ?_⟩, fun i k i1 i2 k1 k2 => ?_⟩
  · rw [e5, e4]
    exact ((f3.mo (fun a k q => Or.inr ⟨q.1.1, q.1.2, q.2⟩)).mu (Or.inl ⟨rfl, by omega⟩)).mu (Or.inl ⟨rfl, by omega⟩)
  · rw [e5, mu_k (by decide), e4, mu_s]; exact f3 y 4 (by omega)
  · rw [e5, mu_s, e4, mu_a hyx]; exact f3 y 5 (by omega)
  · rw [g i k (by omega)]
    rcases (by omega : i = 1 ∨ i = 2 ∨ i = 3) with rfl | rfl | rfl
    · rw [e3, mcp_k (by omega), e2, mcp_k (by omega), e1, mcp_i k1 k2]
    · rw [e3, mcp_k (by omega), e2, mcp_i k1 k2]; exact f1 _ _ (by omega)
    · rw [e3, mcp_i k1 k2]; exact f2 _ _ (by omega)
/-! a row filled by a loop -/
set_option maxRecDepth 16384 in
def fm (m : MM) (d lo hi : Int) (v : Int → Int) : MM := fun b j => if b = d ∧ lo ≤ j ∧ j < hi then v j else m b j
set_option maxRecDepth 16384 in
theorem fm_0 (m : MM) (d lo : Int) (v : Int → Int) : fm m d lo lo v = m := by
  funext b j
  exact if_neg (by omega)
set_option maxRecDepth 16384 in
theorem fm_n {m : MM} {d lo hi b j : Int} {v : Int → Int} (h : b ≠ d) : fm m d lo hi v b j = m b j := if_neg (fun q => h q.1)
set_option maxRecDepth 16384 in
theorem fm_i {m : MM} {d lo hi j : Int} {v : Int → Int} (h1 : lo ≤ j) (h2 : j < hi) : fm m d lo hi v d j = v j := if_pos ⟨rfl, h1, h2⟩
set_option maxRecDepth 16384 in
theorem fm_o {m : MM} {d lo hi b j : Int} {v : Int → Int} (h : j < lo ∨ hi ≤ j) : fm m d lo hi v b j = m b j := if_neg (by omega)
set_option maxRecDepth 16384 in
theorem fm_s {m : MM} {d lo hi : Int} {v : Int → Int} (h : lo ≤ hi) : mu (fm m d lo hi v) d hi (v hi) = fm m d lo (hi + 1) v := by
  funext b j
  by_cases c : b = d ∧ j = hi
  · rw [c.1, c.2, mu_s, fm_i h (by omega)]
  · have e : mu (fm m d lo hi v) d hi (v hi) b j = fm m d lo hi v b j := if_neg c
    rw [e]
    by_cases q : b = d ∧ lo ≤ j ∧ j < hi
    · rw [q.1, fm_i q.2.1 q.2.2, fm_i q.2.1 (by omega)]
    · have e1 : fm m d lo hi v b j = m b j := if_neg q
      have e2 : fm m d lo (hi + 1) v b j = m b j := if_neg (by omega)
      rw [e1, e2]
set_option maxRecDepth 16384 in
theorem Fr.fl {P : Int → Int → Prop} {m m1 : MM} (h : Fr P m m1) {d lo hi : Int} {v : Int → Int} (hp : ∀ j, lo ≤ j → j < hi → P d j) : Fr P m (fm m1 d lo hi v) := fun b j hn => by
  have : fm m1 d lo hi v b j = m1 b j := if_neg (fun q => hn (by rw [q.1]; exact hp j q.2.1 q.2.2))
  rw [this]
  exact h b j hn
set_option maxRecDepth 16384 in
theorem Lp_fill {f : Int × MM → (Int × MM) ⊕ (Nat × Int × (Int × MM))} {i0 n base d : Int} {m : MM} {v : Int → Int} {t : Nat} (h : i0 ≤ n) (step : ∀ i, i0 ≤ i → i < n → f (i, fm m d (base + i0) (base + i) v) = .inl (i + 1, mu (fm m d (base + i0) (base + i) v) d (base + i) (v (base + i)))) (stop : f (n, fm m d (base + i0) (base + n) v) = .inr (t, 0, (n, fm m d (base + i0) (base + n) v))) : Lp f (i0, m) = (t, 0, (n, fm m d (base + i0) (base + n) v)) := by
  have key := Lp_ind (f := f) (P := fun s => ∃ i, i0 ≤ i ∧ i ≤ n ∧ s = (i, fm m d (base + i0) (base + i) v)) (Q := fun z => z = (t, 0, (n, fm m d (base + i0) (base + n) v))) (fun s => (n - s.1).toNat) (fun s hs => by
    obtain ⟨i, h1, h2, rfl⟩ := hs
    by_cases c : i < n
    · refine Or.inl ⟨_, step i h1 c, ⟨i + 1, by omega, by omega, ?_⟩, ?_⟩
      · rw [fm_s (by omega), Int.add_assoc]
      · show (n - (i + 1)).toNat < (n - i).toNat
        omega
    · have : i = n := by omega
      subst this
      exact Or.inr ⟨_, stop, rfl⟩)
  refine key (i0, m) ⟨i0, Int.le_refl _, h, ?_⟩
  rw [fm_0]
end
section
/-! The reference's rows: images, restored ones, an office begun. -/
set_option maxRecDepth 16384 in
theorem B205_18 {m : MM} {k : Int} (h14 : m 148 14 = 150) (h16 : m 148 16 = 152) (hk : k = 0 ∨ k = 1) : L205_18 m 148 k 0 = (1, 0, (456, fm m 152 (456 * k + 0) (456 * k + 456) (fun j => s32 (m 150 (j - 456 * k))))) := by
  unfold L205_18
  refine Lp_fill (f := K205_18 m 148 k 0) (i0 := 0) (n := 456) (base := 456 * k) (d := 152) (by decide) (fun i h1 h2 => ?_) ?_
  · show S205_18 (fm m 152 (456 * k + 0) (456 * k + i) (fun j => s32 (m 150 (j - 456 * k)))) 148 k i = _
    unfold S205_18
    rw [if_neg (by omega), fm_n (b := 148) (by decide), fm_n (b := 148) (by decide), h14, h16, fm_n (b := 150) (by decide), s32_id (z := 456 * k) (by omega) (by omega), s32_id (z := 456 * k + i) (by omega) (by omega), s32_id (z := i + 1) (by omega) (by omega)]
    have e : 456 * k + i - 456 * k = i := by omega
    rw [e]
  · show S205_18 (fm m 152 (456 * k + 0) (456 * k + 456) (fun j => s32 (m 150 (j - 456 * k)))) 148 k 456 = _
    unfold S205_18
    rw [if_pos (by decide)]
set_option maxRecDepth 16384 in
theorem B205_51 {m : MM} {k : Int} (h19 : m 148 19 = 155) (h21 : m 148 21 = 157) (hk : k = 0 ∨ k = 1) : L205_51 m 148 k 0 = (1, 0, (16, fm m 157 (16 * k + 0) (16 * k + 16) (fun j => m 155 (j - 16 * k)))) := by
  unfold L205_51
  refine Lp_fill (f := K205_51 m 148 k 0) (i0 := 0) (n := 16) (base := 16 * k) (d := 157) (by decide) (fun i h1 h2 => ?_) ?_
  · show S205_51 (fm m 157 (16 * k + 0) (16 * k + i) (fun j => m 155 (j - 16 * k))) 148 k i = _
    unfold S205_51
    rw [if_neg (by omega), fm_n (b := 148) (by decide), fm_n (b := 148) (by decide), h19, h21, fm_n (b := 155) (by decide), s32_id (z := 16 * k) (by omega) (by omega), s32_id (z := 16 * k + i) (by omega) (by omega), s32_id (z := i + 1) (by omega) (by omega)]
    have e : 16 * k + i - 16 * k = i := by omega
    rw [e]
  · show S205_51 (fm m 157 (16 * k + 0) (16 * k + 16) (fun j => m 155 (j - 16 * k))) 148 k 16 = _
    unfold S205_51
    rw [if_pos (by decide)]
set_option maxRecDepth 16384 in
theorem B265_27 {m : MM} {k : Int} (h14 : m 148 14 = 150) (h16 : m 148 16 = 152) (hk : k = 0 ∨ k = 1) : L265_27 m 148 k 0 = (1, 0, (456, fm m 150 (0 + 0) (0 + 456) (fun j => s32 (m 152 (456 * k + j))))) := by
  unfold L265_27
  refine Lp_fill (f := K265_27 m 148 k 0) (i0 := 0) (n := 456) (base := 0) (d := 150) (by decide) (fun i h1 h2 => ?_) ?_
  · show S265_27 (fm m 150 (0 + 0) (0 + i) (fun j => s32 (m 152 (456 * k + j)))) 148 k i = _
    unfold S265_27
    rw [if_neg (by omega), fm_n (b := 148) (by decide), fm_n (b := 148) (by decide), h14, h16, fm_n (b := 152) (by decide), s32_id (z := 456 * k) (by omega) (by omega), s32_id (z := 456 * k + i) (by omega) (by omega), s32_id (z := i + 1) (by omega) (by omega), Int.zero_add i]
  · show S265_27 (fm m 150 (0 + 0) (0 + 456) (fun j => s32 (m 152 (456 * k + j)))) 148 k 456 = _
    unfold S265_27
    rw [if_pos (by decide)]
set_option maxRecDepth 16384 in
theorem B265_60 {m : MM} {k : Int} (h19 : m 148 19 = 155) (h21 : m 148 21 = 157) (hk : k = 0 ∨ k = 1) : L265_60 m 148 k 0 = (1, 0, (16, fm m 155 (0 + 0) (0 + 16) (fun j => m 157 (16 * k + j)))) := by
  unfold L265_60
  refine Lp_fill (f := K265_60 m 148 k 0) (i0 := 0) (n := 16) (base := 0) (d := 155) (by decide) (fun i h1 h2 => ?_) ?_
  · show S265_60 (fm m 155 (0 + 0) (0 + i) (fun j => m 157 (16 * k + j))) 148 k i = _
    unfold S265_60
    rw [if_neg (by omega), fm_n (b := 148) (by decide), fm_n (b := 148) (by decide), h19, h21, fm_n (b := 157) (by decide), s32_id (z := 16 * k) (by omega) (by omega), s32_id (z := 16 * k + i) (by omega) (by omega), s32_id (z := i + 1) (by omega) (by omega), Int.zero_add i]
  · show S265_60 (fm m 155 (0 + 0) (0 + 16) (fun j => m 157 (16 * k + j))) 148 k 16 = _
    unfold S265_60
    rw [if_pos (by decide)]
set_option maxRecDepth 16384 in
theorem B230_71 {m : MM} {n : Int} (h14 : m 148 14 = 150) (h15 : m 148 15 = 151) : L230_71 m 148 n 0 = (1, 0, (92, fm m 150 (0 + 0) (0 + 92) (fun j => s32 (m 151 j)))) := by
  unfold L230_71
  refine Lp_fill (f := K230_71 m 148 n 0) (i0 := 0) (n := 92) (base := 0) (d := 150) (by decide) (fun i h1 h2 => ?_) ?_
  · show S230_71 (fm m 150 (0 + 0) (0 + i) (fun j => s32 (m 151 j))) 148 n i = _
    unfold S230_71
    rw [if_neg (by omega), fm_n (b := 148) (by decide), fm_n (b := 148) (by decide), h14, h15, fm_n (b := 151) (by decide), s32_id (z := i + 1) (by omega) (by omega), Int.zero_add i]
  · show S230_71 (fm m 150 (0 + 0) (0 + 92) (fun j => s32 (m 151 j))) 148 n 92 = _
    unfold S230_71
    rw [if_pos (by decide)]
set_option maxRecDepth 16384 in
theorem B230_97 {m : MM} {n : Int} (h19 : m 148 19 = 155) (h20 : m 148 20 = 156) : L230_97 m 148 n 0 = (1, 0, (16, fm m 155 (0 + 0) (0 + 16) (fun j => m 156 j))) := by
  unfold L230_97
  refine Lp_fill (f := K230_97 m 148 n 0) (i0 := 0) (n := 16) (base := 0) (d := 155) (by decide) (fun i h1 h2 => ?_) ?_
  · show S230_97 (fm m 155 (0 + 0) (0 + i) (fun j => m 156 j)) 148 n i = _
    unfold S230_97
    rw [if_neg (by omega), fm_n (b := 148) (by decide), fm_n (b := 148) (by decide), h19, h20, fm_n (b := 156) (by decide), s32_id (z := i + 1) (by omega) (by omega), Int.zero_add i]
  · show S230_97 (fm m 155 (0 + 0) (0 + 16) (fun j => m 156 j)) 148 n 16 = _
    unfold S230_97
    rw [if_pos (by decide)]
set_option maxRecDepth 16384 in
theorem B280_3 {m : MM} (h14 : m 148 14 = 150) : L280_3 m 148 92 = (1, 0, (456, fm m 150 (0 + 92) (0 + 456) (fun _ => s32 0))) := by
  unfold L280_3
  refine Lp_fill (f := K280_3 m 148 92) (i0 := 92) (n := 456) (base := 0) (d := 150) (by decide) (fun i h1 h2 => ?_) ?_
  · show S280_3 (fm m 150 (0 + 92) (0 + i) (fun _ => s32 0)) 148 i = _
    unfold S280_3
    rw [if_neg (by omega), fm_n (b := 148) (by decide), h14, s32_id (z := i + 1) (by omega) (by omega), Int.zero_add i]
  · show S280_3 (fm m 150 (0 + 92) (0 + 456) (fun _ => s32 0)) 148 456 = _
    unfold S280_3
    rw [if_pos (by decide)]
set_option maxRecDepth 16384 in
theorem B280_38 {m : MM} (h14 : m 148 14 = 150) : L280_38 m 148 0 = (1, 0, (64, fm m 150 (94 + 0) (94 + 64) (fun j => s32 (m 150 (j - 82))))) := by
  unfold L280_38
  refine Lp_fill (f := K280_38 m 148 0) (i0 := 0) (n := 64) (base := 94) (d := 150) (by decide) (fun i h1 h2 => ?_) ?_
  · show S280_38 (fm m 150 (94 + 0) (94 + i) (fun j => s32 (m 150 (j - 82)))) 148 i = _
    unfold S280_38
    rw [if_neg (by omega), fm_n (b := 148) (by decide), h14, s32_id (z := 12 + i) (by omega) (by omega), s32_id (z := 94 + i) (by omega) (by omega), fm_o (by omega), s32_id (z := i + 1) (by omega) (by omega)]
    have e : 94 + i - 82 = 12 + i := by omega
    rw [e]
  · show S280_38 (fm m 150 (94 + 0) (94 + 64) (fun j => s32 (m 150 (j - 82)))) 148 64 = _
    unfold S280_38
    rw [if_pos (by decide)]
set_option maxRecDepth 16384 in
theorem B280_89 {m : MM} (h14 : m 148 14 = 150) : L280_89 m 148 0 = (1, 0, (8, fm m 150 (198 + 0) (198 + 8) (fun _ => s32 (-1)))) := by
  unfold L280_89
  refine Lp_fill (f := K280_89 m 148 0) (i0 := 0) (n := 8) (base := 198) (d := 150) (by decide) (fun i h1 h2 => ?_) ?_
  · show S280_89 (fm m 150 (198 + 0) (198 + i) (fun _ => s32 (-1))) 148 i = _
    unfold S280_89
    rw [if_neg (by omega), fm_n (b := 148) (by decide), h14, s32_id (z := 198 + i) (by omega) (by omega), s32_id (z := i + 1) (by omega) (by omega)]
  · show S280_89 (fm m 150 (198 + 0) (198 + 8) (fun _ => s32 (-1))) 148 8 = _
    unfold S280_89
    rw [if_pos (by decide)]
set_option maxRecDepth 16384 in
theorem B232_2 {m : MM} {f : Int} (h14 : m 148 14 = 150) (h0 : 0 ≤ f) (h8 : f < 8) : L232_2 m 148 f 0 = (1, 0, (3, fm m 150 (158 + 3 * f + 0) (158 + 3 * f + 3) (fun _ => s32 (-1)))) := by
  unfold L232_2
  refine Lp_fill (f := K232_2 m 148 f 0) (i0 := 0) (n := 3) (base := 158 + 3 * f) (d := 150) (by decide) (fun i h1 h2 => ?_) ?_
  · show S232_2 (fm m 150 (158 + 3 * f + 0) (158 + 3 * f + i) (fun _ => s32 (-1))) 148 f i = _
    unfold S232_2
    rw [if_neg (by omega), fm_n (b := 148) (by decide), h14, s32_id (z := 3 * f) (by omega) (by omega), s32_id (z := 158 + 3 * f) (by omega) (by omega), s32_id (z := 158 + 3 * f + i) (by omega) (by omega), s32_id (z := i + 1) (by omega) (by omega)]
  · show S232_2 (fm m 150 (158 + 3 * f + 0) (158 + 3 * f + 3) (fun _ => s32 (-1))) 148 f 3 = _
    unfold S232_2
    rw [if_pos (by decide)]
end
section
/-! An office begun, on the reference's side. -/
set_option maxRecDepth 16384 in
theorem s32_0 : s32 0 = 0 := s32_id (by decide) (by decide)
set_option maxRecDepth 16384 in
theorem s32_m1 : s32 (-1) = -1 := s32_id (by decide) (by decide)
set_option maxRecDepth 16384 in
theorem g232_ok {m : MM} {f : Int} (h14 : m 148 14 = 150) (h0 : 0 ≤ f) (h8 : f < 8) : Fr (fun b k => b = 150 ∧ ((158 + 3 * f ≤ k ∧ k < 161 + 3 * f) ∨ k = 182 + f ∨ k = 190 + f)) m (g232 m 148 f) ∧ (∀ k, 158 + 3 * f ≤ k → k < 161 + 3 * f → g232 m 148 f 150 k = -1) ∧ g232 m 148 f 150 (182 + f) = 0 ∧ g232 m 148 f 150 (190 + f) = s32 (m 150 (84 + f)) := by
  unfold g232
  rw [B232_2 h14 h0 h8]
  dsimp only
  have w : fm m 150 (158 + 3 * f + 0) (158 + 3 * f + 3) (fun _ => s32 (-1)) 148 14 = 150 := by rw [fm_n (by decide)]; exact h14
  rw [w, s32_id (z := 182 + f) (by omega) (by omega), s32_id (z := 190 + f) (by omega) (by omega), s32_id (z := 84 + f) (by omega) (by omega), mu_a (b := 148) (by decide), w, mu_k (by omega), fm_o (by omega), s32_0, s32_m1]
  refine ⟨(((Fr.rf _ _).fl (fun j h1 h2 => ⟨rfl, Or.inl (by omega)⟩)).mu ⟨rfl, Or.inr (Or.inl rfl)⟩).mu ⟨rfl, Or.inr (Or.inr rfl)⟩, fun k k1 k2 => ?_, ?_, mu_s _ _ _ _⟩
  · rw [mu_k (by omega), mu_k (by omega), fm_i (by omega) (by omega)]
  · rw [mu_k (by omega), mu_s]
set_option maxRecDepth 16384 in
def POp (b k : Int) : Prop := b = 150 ∧ 158 ≤ k ∧ k < 198
set_option maxRecDepth 16384 in
theorem B280_70 {m : MM} (h14 : m 148 14 = 150) : ∃ m', L280_70 m 148 0 = (1, 0, (8, m')) ∧ Fr POp m m' ∧ (∀ k, 158 ≤ k → k < 182 → m' 150 k = -1) ∧ ∀ f, 0 ≤ f → f < 8 → m' 150 (182 + f) = 0 ∧ m' 150 (190 + f) = s32 (m 150 (84 + f)) := by
  unfold L280_70
  refine Lp_ind (f := K280_70 m 148 0) (P := fun s => 0 ≤ s.1 ∧ s.1 ≤ 8 ∧ Fr POp m s.2 ∧ (∀ k, 158 ≤ k → k < 158 + 3 * s.1 → s.2 150 k = -1) ∧ ∀ f, 0 ≤ f → f < s.1 → s.2 150 (182 + f) = 0 ∧ s.2 150 (190 + f) = s32 (m 150 (84 + f))) (Q := fun z => ∃ m', z = (1, 0, (8, m')) ∧ Fr POp m m' ∧ (∀ k, 158 ≤ k → k < 182 → m' 150 k = -1) ∧ ∀ f, 0 ≤ f → f < 8 → m' 150 (182 + f) = 0 ∧ m' 150 (190 + f) = s32 (m 150 (84 + f))) (fun s => (8 - s.1).toNat) ?_ (0, m) ⟨Int.le_refl _, show (0 : Int) ≤ 8 by decide, Fr.rf _ _, fun k k1 k2 => absurd (show k < 158 + 3 * 0 from k2) (by omega), fun f f1 f2 => absurd (show f < 0 from f2) (by omega)⟩
  rintro ⟨i, mm⟩ ⟨h0, h8, hF, hk, hf⟩
  have h0 : 0 ≤ i := h0
  have h8 : i ≤ 8 := h8
  have hF : Fr POp m mm := hF
  show (∃ t, S280_70 mm 148 i = .inl t ∧ _) ∨ (∃ t, S280_70 mm 148 i = .inr t ∧ _)
  unfold S280_70
  by_cases c : 8 ≤ i
  · have : i = 8 := by omega
    subst this
    rw [if_pos c]
    exact Or.inr ⟨_, rfl, mm, rfl, hF, hk, hf⟩
  · rw [if_neg c, s32_id (z := i + 1) (by omega) (by omega)]
    have w14 : mm 148 14 = 150 := by rw [hF 148 14 (by unfold POp; omega)]; exact h14
    obtain ⟨F1, g1, g2, g3⟩ := g232_ok w14 h0 (by omega)
    refine Or.inl ⟨_, rfl, ⟨by show 0 ≤ i + 1; omega, by show i + 1 ≤ 8; omega, hF.tr (F1.mo (fun b k q => by unfold POp; omega)), fun k k1 k2 => ?_, fun f f1 f2 => ?_⟩, ?_⟩
    · show g232 mm 148 i 150 k = -1
      have k2 : k < 158 + 3 * (i + 1) := k2
      by_cases d : k < 158 + 3 * i
      · rw [F1 150 k (by omega)]; exact hk k k1 d
      · exact g1 k (by omega) (by omega)
    · have f2 : f < i + 1 := f2
      show g232 mm 148 i 150 (182 + f) = 0 ∧ g232 mm 148 i 150 (190 + f) = s32 (m 150 (84 + f))
      by_cases d : f = i
      · subst d
        refine ⟨g2, ?_⟩
        rw [g3, show mm 150 (84 + f) = m 150 (84 + f) from hF 150 (84 + f) (by unfold POp; omega)]
      · obtain ⟨e1, e2⟩ := hf f f1 (show f < i by omega)
        have e1 : mm 150 (182 + f) = 0 := e1
        have e2 : mm 150 (190 + f) = s32 (m 150 (84 + f)) := e2
        rw [F1 150 (182 + f) (by omega), F1 150 (190 + f) (by omega)]
        exact ⟨e1, e2⟩
    · show (8 - (i + 1)).toNat < (8 - i).toNat
      omega
set_option maxRecDepth 16384 in
/-- how it begins: the place of what is so -/
theorem g280_ok {m : MM} (h14 : m 148 14 = 150) : Fr (fun b k => b = 150 ∧ 92 ≤ k ∧ k < 456) m (g280 m 148) ∧ g280 m 148 150 92 = 0 ∧ g280 m 148 150 93 = s32 (m 150 3) ∧ (∀ k, 0 ≤ k → k < 64 → g280 m 148 150 (94 + k) = s32 (m 150 (12 + k))) ∧ (∀ k, 0 ≤ k → k < 24 → g280 m 148 150 (158 + k) = -1) ∧ (∀ k, 0 ≤ k → k < 8 → g280 m 148 150 (182 + k) = 0 ∧ g280 m 148 150 (190 + k) = s32 (m 150 (84 + k)) ∧ g280 m 148 150 (198 + k) = -1 ∧ g280 m 148 150 (206 + k) = 0) ∧ (∀ k, 214 ≤ k → k < 456 → g280 m 148 150 k = 0) := by
  unfold g280
  rw [B280_3 h14]
  dsimp only
  have w1 : fm m 150 (0 + 92) (0 + 456) (fun _ => s32 0) 148 14 = 150 := by rw [fm_n (by decide)]; exact h14
  have F1 : Fr (fun b k => b = 150 ∧ 92 ≤ k ∧ k < 456) m (fm m 150 (0 + 92) (0 + 456) (fun _ => s32 0)) := (Fr.rf _ _).fl (fun j h1 h2 => ⟨rfl, by omega, by omega⟩)
  have v1 : ∀ k, 92 ≤ k → k < 456 → fm m 150 (0 + 92) (0 + 456) (fun _ => s32 0) 150 k = 0 := fun k k1 k2 => by rw [fm_i (by omega) (by omega), s32_0]
  rw [w1, F1 150 3 (by omega)]
  revert w1 F1 v1
  generalize fm m 150 (0 + 92) (0 + 456) (fun _ => s32 0) = a1
  intro w1 F1 v1
  have w2 : mu a1 150 93 (s32 (m 150 3)) 148 14 = 150 := by rw [mu_a (by decide)]; exact w1
  rw [B280_38 w2]
  dsimp only
  have F2 : Fr (fun b k => b = 150 ∧ 92 ≤ k ∧ k < 158) a1 (fm (mu a1 150 93 (s32 (m 150 3))) 150 (94 + 0) (94 + 64) (fun j => s32 (mu a1 150 93 (s32 (m 150 3)) 150 (j - 82)))) := ((Fr.rf _ _).mu ⟨rfl, by omega, by omega⟩).fl (fun j h1 h2 => ⟨rfl, by omega, by omega⟩)
  have v93 : (fm (mu a1 150 93 (s32 (m 150 3))) 150 (94 + 0) (94 + 64) (fun j => s32 (mu a1 150 93 (s32 (m 150 3)) 150 (j - 82)))) 150 93 = s32 (m 150 3) := by rw [fm_o (by omega), mu_s]
  have v92 : (fm (mu a1 150 93 (s32 (m 150 3))) 150 (94 + 0) (94 + 64) (fun j => s32 (mu a1 150 93 (s32 (m 150 3)) 150 (j - 82)))) 150 92 = 0 := by rw [fm_o (by omega), mu_k (by omega), v1 92 (by omega) (by omega)]
  have vG : ∀ k, 0 ≤ k → k < 64 → (fm (mu a1 150 93 (s32 (m 150 3))) 150 (94 + 0) (94 + 64) (fun j => s32 (mu a1 150 93 (s32 (m 150 3)) 150 (j - 82)))) 150 (94 + k) = s32 (m 150 (12 + k)) := fun k k1 k2 => by
    rw [fm_i (by omega) (by omega), mu_k (by omega), F1 150 (94 + k - 82) (by omega)]
    congr 2
    omega
  have w3 : (fm (mu a1 150 93 (s32 (m 150 3))) 150 (94 + 0) (94 + 64) (fun j => s32 (mu a1 150 93 (s32 (m 150 3)) 150 (j - 82)))) 148 14 = 150 := by rw [F2 148 14 (by omega)]; exact w1
  revert F2 v93 v92 vG w3
  generalize (fm (mu a1 150 93 (s32 (m 150 3))) 150 (94 + 0) (94 + 64) (fun j => s32 (mu a1 150 93 (s32 (m 150 3)) 150 (j - 82)))) = a2
  intro F2 v93 v92 vG w3
  obtain ⟨a3, e3, F3, vS, vH⟩ := B280_70 w3
  rw [e3]
  dsimp only
  have w4 : a3 148 14 = 150 := by rw [F3 148 14 (by unfold POp; omega)]; exact w3
  rw [B280_89 w4]
  dsimp only
  have F4 : Fr (fun b k => b = 150 ∧ 198 ≤ k ∧ k < 206) a3 (fm a3 150 (198 + 0) (198 + 8) (fun _ => s32 (-1))) := (Fr.rf _ _).fl (fun j h1 h2 => ⟨rfl, by omega, by omega⟩)
  have vT : ∀ k, 0 ≤ k → k < 8 → fm a3 150 (198 + 0) (198 + 8) (fun _ => s32 (-1)) 150 (198 + k) = -1 := fun k k1 k2 => by rw [fm_i (by omega) (by omega), s32_m1]
  revert F4 vT
  generalize fm a3 150 (198 + 0) (198 + 8) (fun _ => s32 (-1)) = a4
  intro F4 vT
  refine ⟨((F1.tr (F2.mo (fun b k q => by omega))).tr (F3.mo (fun b k q => by unfold POp at q; omega))).tr (F4.mo (fun b k q => by omega)), ?_, ?_, fun k k1 k2 => ?_, fun k k1 k2 => ?_, fun k k1 k2 => ?_, fun k k1 k2 => ?_⟩
  · rw [F4 150 92 (by omega), F3 150 92 (by unfold POp; omega)]; exact v92
  · rw [F4 150 93 (by omega), F3 150 93 (by unfold POp; omega)]; exact v93
  · rw [F4 150 (94 + k) (by omega), F3 150 (94 + k) (by unfold POp; omega)]; exact vG k k1 k2
  · rw [F4 150 (158 + k) (by omega)]; exact vS (158 + k) (by omega) (by omega)
  · obtain ⟨q1, q2⟩ := vH k k1 k2
    refine ⟨?_, ?_, vT k k1 k2, ?_⟩
    · rw [F4 150 (182 + k) (by omega)]; exact q1
    · rw [F4 150 (190 + k) (by omega), q2, F2 150 (84 + k) (by omega), F1 150 (84 + k) (by omega)]
    · rw [F4 150 (206 + k) (by omega), F3 150 (206 + k) (by unfold POp; omega), F2 150 (206 + k) (by omega)]; exact v1 _ (by omega) (by omega)
  · rw [F4 150 k (by omega), F3 150 k (by unfold POp; omega), F2 150 k (by omega)]; exact v1 _ (by omega) (by omega)
set_option maxRecDepth 16384 in
/-- the office's last part: what is read is so -/
theorem B230_tail {X : KO} {ρ : Nat → Int32} {N : Nat} {m : MM} {o : Instr × List (Nat × Int) × MM} {n : Int} (h14 : m 148 14 = 150) (h15 : m 148 15 = 151) (h19 : m 148 19 = 155) (h20 : m 148 20 = 156) (h : MR X ρ 3 0 0 qP230 N 71 [148, n, 0] [] m o) : ∃ m1, o.2.1 = [(1, n)] ∧ o.2.2 = mu (g280 m1 148) 148 23 0 ∧ Fr (fun b k => (b = 150 ∧ 0 ≤ k ∧ k < 92) ∨ (b = 155 ∧ 0 ≤ k ∧ k < 16)) m m1 ∧ (∀ k, 0 ≤ k → k < 92 → m1 150 k = s32 (m 151 k)) ∧ (∀ k, 0 ≤ k → k < 16 → m1 155 k = m 156 k) := by
  have h := l230_71 (Nat.le_refl _) h
  rw [B230_71 h14 h15] at h
  dsimp only at h
  have h := q230_95 h
  have h := l230_97 (Nat.le_refl _) h
  have F1 : Fr (fun b k => b = 150 ∧ 0 ≤ k ∧ k < 92) m (fm m 150 (0 + 0) (0 + 92) (fun j => s32 (m 151 j))) := (Fr.rf _ _).fl (fun j h1 h2 => ⟨rfl, by omega, by omega⟩)
  have v1 : ∀ k, 0 ≤ k → k < 92 → fm m 150 (0 + 0) (0 + 92) (fun j => s32 (m 151 j)) 150 k = s32 (m 151 k) := fun k k1 k2 => fm_i (by omega) (by omega)
  revert h F1 v1
  generalize fm m 150 (0 + 0) (0 + 92) (fun j => s32 (m 151 j)) = a1
  intro h F1 v1
  rw [B230_97 (by rw [F1 148 19 (by omega)]; exact h19) (by rw [F1 148 20 (by omega)]; exact h20)] at h
  dsimp only at h
  obtain ⟨m3, r, e⟩ := q230_121 h
  obtain ⟨-, e2⟩ := d280 r
  refine ⟨fm a1 155 (0 + 0) (0 + 16) (fun j => a1 156 j), by rw [e], by rw [e, e2], (F1.mo (fun b k q => Or.inl q)).fl (fun j h1 h2 => Or.inr ⟨rfl, by omega, by omega⟩), fun k k1 k2 => ?_, fun k k1 k2 => ?_⟩
  · rw [fm_n (by decide)]; exact v1 k k1 k2
  · rw [fm_i (by omega) (by omega), F1 156 k (by omega)]
end
