/-! Tokens of a book: names looked up, numbers, marks. -/
set_option maxRecDepth 16384 in
def TS (X : KO) (t : Int → Int) (L most : Int) (a b : MM) : Prop := PR X t L most a b ∧ a 1 9 = 0 ∧ b 148 10 = 0
set_option maxRecDepth 16384 in
theorem goT {X : KO} {ρ : Nat → Int32} {t : Int → Int} {L most : Int} {a a' b b' : MM} {rl rl' : List (Nat × Int)} (hX : XW X) (h : PR0 t L most a b) (h9 : a 1 9 = 0) (h10 : b 148 10 = 0) (ha : Run X ρ 148 [(1, 1)] a rl a') (hb : Run X ρ 195 [(1, 148)] b rl' b') : TS X t L most a' b' ∧ Fr P148 a a' ∧ Fr P195 b b' := by
  obtain ⟨p1, f1, f2, -, -⟩ := next_ok hX h ha hb
  exact ⟨⟨p1, by rw [f1 1 9 (by unfold P148; omega)]; exact h9, by rw [f2 148 10 (by unfold P195; omega)]; exact h10⟩, f1, f2⟩
set_option maxRecDepth 16384 in
theorem markT {X : KO} {ρ : Nat → Int32} {t : Int → Int} {L most : Int} {a a' b b' : MM} {rl rl' : List (Nat × Int)} (hX : XW X) (h : TS X t L most a b) (ha : Run X ρ 160 [(1, 1), (1, 59)] a rl a') (hb : Run X ρ 245 [(1, 148)] b rl' b') : Fr PT a a' ∧ Fr PM b b' ∧ ((rl = [(1, 0)] ∧ rl' = [(1, 0)] ∧ FL a' b') ∨ (rl = [(1, 1)] ∧ rl' = [(1, 1)] ∧ TS X t L most a' b')) := by
  obtain ⟨N, ig, ha⟩ := Run_CR ha rfl
  obtain ⟨M, ig', hb⟩ := Run_CR hb rfl
  have ha : MR X ρ 2 0 0 qP160 N 0 [1, 59] [] a (ig, rl, a') := ha
  have hb : MR X ρ 1 0 0 qP245 M 0 [148] [] b (ig', rl', b') := hb
  obtain ⟨⟨p0, p1⟩, h9, h10⟩ := h
  have e := mark_ok p1 59
  have A := i160_0 ha
  have B := i245_0 hb
  rw [f168_0] at B
  rw [← e] at B
  rcases A with ⟨c, A⟩ | ⟨c, m8, r8, A⟩
  · rcases B with ⟨d, B⟩ | ⟨d, B⟩
    · cases A; cases B
      exact ⟨Fr_158 _ _, Fr_168 _ _, Or.inl ⟨rfl, rfl, bad_ok p1 (by decide) (Or.inl rfl)⟩⟩
    · exact absurd c d
  · rcases B with ⟨d, B⟩ | ⟨d, m9, r9, B⟩
    · exact absurd d c
    · cases A; cases B
      obtain ⟨s, f1, f2⟩ := goT hX p0 h9 h10 r8 r9
      exact ⟨f1.PT, f2.PM, Or.inr ⟨rfl, rfl, s⟩⟩
set_option maxRecDepth 16384 in
theorem i153 (a : MM) : f153 a 1 = 0 ∨ f153 a 1 = 1 := by
  unfold f153
  split
  · split
    · exact Or.inr rfl
    · exact Or.inl rfl
  · exact Or.inl rfl
set_option maxRecDepth 16384 in
/-- what the class finds: 1 no name, 3 a name not told, or the one -/
def LKa (a a' : MM) (rl : List (Nat × Int)) (u : Int → Int) (n : Int) : Prop := (f153 a 1 = 0 ∧ rl = [(1, -1)] ∧ a' = g158 a 1 1) ∨ (f153 a 1 = 1 ∧ rl = [(1, -1)] ∧ a' = g158 a 1 3 ∧ Fnd u n (a 1 7) (-1)) ∨ (f153 a 1 = 1 ∧ ∃ v, rl = [(1, v)] ∧ a' = a ∧ v ≠ -1 ∧ 0 ≤ v ∧ v < n ∧ Fnd u n (a 1 7) v)
set_option maxRecDepth 16384 in
theorem Fnd_r {u : Int → Int} {n x v : Int} (h : Fnd u n x v) (hv : v ≠ -1) : 0 ≤ v ∧ v < n := by
  rcases h with ⟨e, -⟩ | ⟨e1, e2, -⟩
  · exact absurd e hv
  · exact ⟨e1, e2⟩
set_option maxRecDepth 16384 in
theorem lookP {X : KO} {ρ : Nat → Int32} {a a' : MM} {rl : List (Nat × Int)} (l0 : a 3 0 = 4) (n0 : 0 ≤ a 3 6) (n8 : a 3 6 ≤ 8) (ha : Run X ρ 76 [(1, 3), (1, 1)] a rl a') : LKa a a' rl (fun k => a 4 k) (a 3 6) := by
  obtain ⟨N, ig, ha⟩ := Run_CR ha rfl
  have ha : MR X ρ 3 0 0 qP76 N 0 [3, 1, 0] [] a (ig, rl, a') := ha
  rcases i76_0 ha with ⟨c, A⟩ | ⟨c, v, m20, r20, A⟩
  · cases A
    exact Or.inl ⟨c, rfl, rfl⟩
  · have hn : f153 a 1 = 1 := (i153 a).resolve_left c
    obtain ⟨g1, w, g2, g3⟩ := A75 n0 n8 r20
    cases g2; have g1 := g1.symm; subst g1
    rw [l0] at g3
    rcases A with ⟨c1, A⟩ | ⟨c1, A⟩
    · subst c1
      rcases A with ⟨c2, A⟩ | ⟨c2, A⟩
      · exact absurd c2 c
      · cases A
        exact Or.inr (Or.inl ⟨hn, rfl, rfl, g3⟩)
    · cases A
      obtain ⟨q1, q2⟩ := Fnd_r g3 c1
      exact Or.inr (Or.inr ⟨hn, _, rfl, rfl, c1, q1, q2, g3⟩)
set_option maxRecDepth 16384 in
theorem lookF {X : KO} {ρ : Nat → Int32} {a a' : MM} {rl : List (Nat × Int)} (l1 : a 3 1 = 5) (n0 : 0 ≤ a 3 7) (n8 : a 3 7 ≤ 8) (ha : Run X ρ 71 [(1, 3), (1, 1)] a rl a') : LKa a a' rl (fun k => a 5 k) (a 3 7) := by
  obtain ⟨N, ig, ha⟩ := Run_CR ha rfl
  have ha : MR X ρ 3 0 0 qP71 N 0 [3, 1, 0] [] a (ig, rl, a') := ha
  rcases k71_0 ha with ⟨c, y, e, A⟩ | ⟨c, v, m20, r20, A⟩
  · cases A
    exact Or.inl ⟨c, rfl, e⟩
  · have hn : f153 a 1 = 1 := (i153 a).resolve_left c
    obtain ⟨g1, w, g2, g3⟩ := A70 n0 n8 r20
    cases g2; have g1 := g1.symm; subst g1
    rw [l1] at g3
    rcases A with ⟨c1, A⟩ | ⟨c1, A⟩
    · subst c1
      rcases A with ⟨c2, -⟩ | ⟨c2, y, e, A⟩
      · exact absurd c2 c
      · cases A
        exact Or.inr (Or.inl ⟨hn, rfl, e, g3⟩)
    · cases A
      obtain ⟨q1, q2⟩ := Fnd_r g3 c1
      exact Or.inr (Or.inr ⟨hn, _, rfl, rfl, c1, q1, q2, g3⟩)
set_option maxRecDepth 16384 in
/-- what the reference finds -/
def LKb (X : KO) (ρ : Nat → Int32) (a b b' : MM) (rl' : List (Nat × Int)) (u : Int → Int) (n : Int) : Prop := (f153 a 1 = 0 ∧ rl' = [(1, 0)] ∧ b' = g168 b 148 1) ∨ (f153 a 1 = 1 ∧ NRel (a 1 7) (b 148 12) ∧ rl' = [(1, 0)] ∧ b' = g168 (mu b 148 13 (-1)) 148 3 ∧ Fnd u n (b 148 12) (-1)) ∨ (f153 a 1 = 1 ∧ NRel (a 1 7) (b 148 12) ∧ ∃ v, v ≠ -1 ∧ rl' = [(1, 1)] ∧ Run X ρ 195 [(1, 148)] (mu b 148 13 v) [] b' ∧ Fnd u n (b 148 12) v)
set_option maxRecDepth 16384 in
theorem named {X : KO} {ρ : Nat → Int32} {a b b' : MM} {rl' : List (Nat × Int)} {base n : Int} (hT : TKR X a b) (w19 : b 148 19 = 155) (b0 : 0 ≤ base) (b8 : base ≤ 8) (n0 : 0 ≤ n) (n8 : n ≤ 8) (hb : Run X ρ 251 [(1, 148), (1, base), (1, n)] b rl' b') : LKb X ρ a b b' rl' (fun k => b 155 (base + k)) n := by
  obtain ⟨N, ig, hb⟩ := Run_CR hb rfl
  have hb : MR X ρ 3 0 0 qP251 N 0 [148, base, n] [] b (ig, rl', b') := hb
  obtain ⟨v4, m2, r2, -, B⟩ := k251_0 hb
  obtain ⟨e1, e2, e3, e4⟩ := name_ok hT r2
  cases e1; have e2 := e2.symm; subst e2
  rcases B with ⟨c, y, e, B⟩ | ⟨c, v9, m7, r7, y, e, B⟩
  · rw [f168_0] at B
    cases B
    exact Or.inl ⟨c, rfl, e⟩
  · have hn : f153 a 1 = 1 := e3.resolve_right c
    rw [w19] at r7
    obtain ⟨g4, w', g5, g6⟩ := B190 b0 b8 n0 n8 r7
    cases g5; have g4 := g4.symm; subst g4
    rw [e, mu_s] at B
    rcases B with ⟨c1, y2, e5, B⟩ | ⟨c1, m13, r13, B⟩
    · subst c1
      rw [f168_0] at B
      cases B
      exact Or.inr (Or.inl ⟨hn, e4 hn, rfl, e5, g6⟩)
    · cases B
      exact Or.inr (Or.inr ⟨hn, e4 hn, _, c1, rfl, r13, g6⟩)
set_option maxRecDepth 16384 in
theorem numT {X : KO} {ρ : Nat → Int32} {t : Int → Int} {L most : Int} {a b b' : MM} {rl' : List (Nat × Int)} {lo hi : Int} (hlo : 0 ≤ lo) (h : TS X t L most a b) (hb : Run X ρ 254 [(1, 148), (1, lo), (1, hi)] b rl' b') : (f156 a 1 lo hi = -1 ∧ rl' = [(1, 0)] ∧ FL (g156 a 1 lo hi) b' ∧ Fr PT a (g156 a 1 lo hi) ∧ Fr PM b b') ∨ (∃ v, f156 a 1 lo hi = v ∧ lo ≤ v ∧ v ≤ hi ∧ v < 1000 ∧ g156 a 1 lo hi = a ∧ rl' = [(1, 1)] ∧ Run X ρ 195 [(1, 148)] (mu b 148 13 v) [] b') := by
  obtain ⟨M, ig', hb⟩ := Run_CR hb rfl
  have hb : MR X ρ 3 0 0 qP254 M 0 [148, lo, hi] [] b (ig', rl', b') := hb
  obtain ⟨⟨p0, p1⟩, h9, h10⟩ := h
  have B := i254_0 hb
  have hno : ¬ a 1 4 = 2 → ¬ b 148 7 = 3 → (f156 a 1 lo hi = -1 ∧ rl' = [(1, 0)] ∧ FL (g156 a 1 lo hi) b' ∧ Fr PT a (g156 a 1 lo hi) ∧ Fr PM b b') := fun ha hb => by
    have e1 : f156 a 1 lo hi = -1 := by unfold f156; rw [if_neg ha]
    have e2 : g156 a 1 lo hi = g158 a 1 1 := by unfold g156; rw [if_neg ha]
    rcases B with ⟨d, _⟩ | ⟨d, B⟩
    · exact absurd d hb
    · rw [f168_0] at B
      cases B
      rw [e1, e2]
      exact ⟨rfl, rfl, bad_ok p1 (by decide) (Or.inl rfl), Fr_158 _ _, Fr_168 _ _⟩
  rcases p1.2.2 with ⟨h1, h2⟩ | ⟨h1, h2⟩ | ⟨h1, h2, -⟩ | ⟨h1, h2, h3, h4, h5⟩ | ⟨h1, h2, -⟩
  · exact Or.inl (hno (by omega) (by omega))
  · exact Or.inl (hno (by omega) (by omega))
  · exact Or.inl (hno (by omega) (by omega))
  · rcases B with ⟨d, B⟩ | ⟨d, _⟩
    · have e209 : f209 b (b 148 8) lo hi = 0 ↔ ¬ (lo ≤ a 1 6 ∧ a 1 6 ≤ hi) := by
        unfold f209
        rw [← h3]
        by_cases q1 : a 1 6 < lo
        · rw [if_pos q1]; exact ⟨fun _ => by omega, fun _ => rfl⟩
        · rw [if_neg q1]
          by_cases q2 : hi < a 1 6
          · rw [if_pos q2]; exact ⟨fun _ => by omega, fun _ => rfl⟩
          · rw [if_neg q2]; exact ⟨fun q => absurd q (by decide), fun q => by omega⟩
      rcases B with ⟨d1, B⟩ | ⟨d1, m9, r9, B⟩
      · rw [f168_0] at B
        cases B
        have hq := e209.mp d1
        left
        have e1 : f156 a 1 lo hi = -1 := by
          unfold f156
          rw [if_pos h1]
          by_cases q1 : a 1 6 < lo
          · rw [if_pos q1]
          · rw [if_neg q1, if_neg (by omega)]
        have e2 : g156 a 1 lo hi = g158 a 1 2 := by
          unfold g156
          rw [if_pos h1]
          by_cases q1 : a 1 6 < lo
          · rw [if_pos q1]
          · rw [if_neg q1, if_neg (by omega)]
        rw [e1, e2]
        exact ⟨rfl, rfl, bad_ok p1 (by decide) (Or.inr (by omega)), Fr_158 _ _, Fr_168 _ _⟩
      · cases B
        have hq := Classical.not_not.mp (fun z => d1 (e209.mpr z))
        right
        have e1 : f156 a 1 lo hi = a 1 6 := by
          unfold f156
          rw [if_pos h1, if_neg (by omega), if_pos (by omega)]
        have e2 : g156 a 1 lo hi = a := by
          unfold g156
          rw [if_pos h1, if_neg (by omega), if_pos (by omega)]
        rw [← h3] at r9
        exact ⟨a 1 6, e1, by omega, by omega, by omega, e2, rfl, r9⟩
    · exact absurd h2 d
  · exact Or.inl (hno (by omega) (by omega))
