section
/-! A line; the beginning; an office's text. -/
set_option maxRecDepth 16384 in
theorem word_kind {X : KO} {a : MM} {s : Int} (h : ¬ f155 X a 1 s = 0) : a 1 4 = 1 := by
  unfold f155 at h
  by_cases c : a 1 4 = 1
  · exact c
  · rw [if_neg c] at h; exact absurd rfl h
set_option maxRecDepth 16384 in
theorem line_ok {X : KO} {ρ : Nat → Int32} {t : Int → Int} {L : Int} {a a' b b1 : MM} {rl rl' : List (Nat × Int)} (hX : XW X) (hS : XS X) (h : ST X t L 900 a b) (ha : Run X ρ 79 [(1, 9), (1, 1), (1, 22)] a rl a') (hb : Run X ρ 250 [(1, 148)] b rl' b1) : LE X ρ t L a a' b b1 rl rl' ∧ (rl' = [(1, 1)] → a 1 4 = 1) := by
  obtain ⟨N, ig, ha⟩ := Run_CR ha rfl
  obtain ⟨M, ig', hb⟩ := Run_CR hb rfl
  have ha : MR X ρ 3 0 0 qP79 N 0 [9, 1, 22] [] a (ig, rl, a') := ha
  have hb : MR X ρ 1 0 0 qP250 M 0 [148] [] b (ig', rl', b1) := hb
  have p1 := h.1.2
  have A := i79_0 ha
  have B := i250_0 hb
  have w0 : f155 X a 1 1000009 = f217 b 148 0 := word_ok hS p1 (s := 8) (by decide)
  have w2 : f155 X a 1 1000010 = f217 b 148 2 := word_ok hS p1 (s := 9) (by decide)
  have w3 : f155 X a 1 1000011 = f217 b 148 3 := word_ok hS p1 (s := 10) (by decide)
  have w4 : f155 X a 1 1000012 = f217 b 148 4 := word_ok hS p1 (s := 11) (by decide)
  have w5 : f155 X a 1 1000013 = f217 b 148 5 := word_ok hS p1 (s := 12) (by decide)
  rw [← w0, ← w2, ← w3, ← w4, ← w5, f168_0] at B
  rcases A with ⟨c0, A⟩ | ⟨c0, v, ma, ra, _, A⟩
  · rcases B with ⟨_, B⟩ | ⟨d, _⟩
    case inr => exact absurd c0 d
    rcases A with ⟨c2, A⟩ | ⟨c2, v, ma, ra, _, A⟩
    · rcases B with ⟨_, B⟩ | ⟨d, _⟩
      case inr => exact absurd c2 d
      rcases A with ⟨c3, A⟩ | ⟨c3, v, ma, ra, _, A⟩
      · rcases B with ⟨_, B⟩ | ⟨d, _⟩
        case inr => exact absurd c3 d
        rcases A with ⟨c4, A⟩ | ⟨c4, v, ma, ra, _, A⟩
        · rcases B with ⟨_, B⟩ | ⟨d, _⟩
          case inr => exact absurd c4 d
          rcases A with ⟨c5, A⟩ | ⟨c5, v, ma, ra, _, A⟩
          · rcases B with ⟨_, B⟩ | ⟨d, _⟩
            case inr => exact absurd c5 d
            cases A; cases B
            exact ⟨Or.inl ⟨rfl, rfl, bad_ok p1 (by decide) (Or.inl rfl), (Fr_158 _ _).va, (Fr_168 _ _).vb⟩, fun q => by cases q⟩
          · rcases B with ⟨d, _⟩ | ⟨_, w, mb, rb, _, B⟩
            · exact absurd d c5
            cases A; cases B
            have k := word_kind c5
            exact ⟨rule_line hX hS h (by omega) ra rb, fun _ => k⟩
        · rcases B with ⟨d, _⟩ | ⟨_, w, mb, rb, _, B⟩
          · exact absurd d c4
          cases A; cases B
          have k := word_kind c4
          exact ⟨form_line hX h (by omega) ra rb, fun _ => k⟩
      · rcases B with ⟨d, _⟩ | ⟨_, w, mb, rb, _, B⟩
        · exact absurd d c3
        cases A; cases B
        have k := word_kind c3
        exact ⟨shy_line hX h ra rb, fun _ => k⟩
    · rcases B with ⟨d, _⟩ | ⟨_, w, mb, rb, _, B⟩
      · exact absurd d c2
      cases A; cases B
      have k := word_kind c2
      exact ⟨grudge_line hX h ra rb, fun _ => k⟩
  · rcases B with ⟨d, _⟩ | ⟨_, w, mb, rb, _, B⟩
    · exact absurd d c0
    cases A; cases B
    have k := word_kind c0
    exact ⟨person_line hX hS h (by omega) ra rb, fun _ => k⟩
set_option maxRecDepth 16384 in
theorem mark_run {X : KO} {ρ : Nat → Int32} {a a' : MM} (ha : Run X ρ 160 [(1, 1), (1, 59)] a [(1, 1)] a') : a 1 4 = 3 ∧ Run X ρ 148 [(1, 1)] a [] a' := by
  obtain ⟨N, ig, ha⟩ := Run_CR ha rfl
  have ha : MR X ρ 2 0 0 qP160 N 0 [1, 59] [] a (ig, [(1, 1)], a') := ha
  rcases i160_0 ha with ⟨c, A⟩ | ⟨c, m8, r8, A⟩
  · have A := congrArg (fun z => z.2.1) A
    have A : [((1 : Nat), (1 : Int))] = [(1, 0)] := A
    cases A
  · cases A
    refine ⟨?_, r8⟩
    unfold f152 at c
    by_cases q : a 1 4 = 3
    · exact q
    · rw [if_neg q] at c; exact absurd rfl c
set_option maxRecDepth 16384 in
/-- how far the lines are at least -/
def Far (n : Nat) (a : MM) : Prop := ∃ q : Int, 2 * (n : Int) ≤ q ∧ q ≤ a 1 3 ∧ (a 1 4 ≠ 0 → a 1 4 ≠ 4 → q < a 1 3)
set_option maxRecDepth 16384 in
/-- the lines, one by one, on both sides -/
theorem lines_ok {X : KO} {ρ : Nat → Int32} {t : Int → Int} {L : Int} {a0 b0 : MM} {o o' : Instr × List (Nat × Int) × MM} (hX : XW X) (hS : XS X) : ∀ (N M : Nat) (n : Nat) (b2 : Int) (a b : MM), MR X ρ 4 0 0 qP83 N 17 [9, 1, 22, (n : Int)] [] a o → MR X ρ 3 0 0 qP230 M 35 [148, (n : Int), b2] [] b o' → ST X t L 900 a b → Far n a → Fr VA a0 a → Fr VB b0 b → (o.2.1 = [(1, -1)] ∧ FL o.2.2 o'.2.2 ∧ o'.2.1 = [(1, s32 ((-1) - (o'.2.2 148 11)))] ∧ Fr VA a0 o.2.2 ∧ Fr VB b0 o'.2.2) ∨ (∃ (k : Nat) (M' : Nat) (b' : MM), o.2.1 = [(1, (k : Int))] ∧ ST X t L 900 o.2.2 b' ∧ MR X ρ 3 0 0 qP230 M' 71 [148, (k : Int), 0] [] b' o' ∧ Fr VA a0 o.2.2 ∧ Fr VB b0 b') := by
  intro N
  induction N with
  | zero =>
    intro M n b2 a b ha hb hs hf hA hB
    obtain ⟨q, f1, f2, f3⟩ := hf
    have hL := hs.1.1.2.2.2.2.2.2
    have hL2 := hs.1.1.1.2.2.2.1
    rcases i83_17 ha with ⟨c, _⟩ | ⟨c, A⟩
    · omega
    rcases A with ⟨c2, A⟩ | ⟨c2, v, m4, r4, _, A⟩
    · rcases i230_35 hb with ⟨d, B⟩ | ⟨d, _⟩
      · cases A
        exact Or.inr ⟨n, M, b, rfl, hs, B, hA, hB⟩
      · exfalso
        apply d
        rcases hs.1.2.2.2 with h | h | h | h | h <;> omega
    · rcases i230_35 hb with ⟨d, _⟩ | ⟨_, w, m3, r3, _, B⟩
      · exfalso
        apply c2
        rcases hs.1.2.2.2 with h | h | h | h | h <;> omega
      · obtain ⟨le, hk⟩ := line_ok hX hS hs r4 r3
        rcases le with ⟨e1, e2, e3, g1, g2⟩ | ⟨e1, g2, a1, g1, pr, s1, r160⟩
        · cases e1; cases e2
          rcases A with ⟨_, A⟩ | ⟨d2, _⟩
          · rcases B with ⟨_, B⟩ | ⟨d3, _⟩
            · cases A; cases B
              exact Or.inl ⟨rfl, e3, rfl, hA.tr g1, hB.tr g2⟩
            · exact absurd rfl d3
          · exact absurd rfl d2
        · cases e1
          rcases B with ⟨d3, _⟩ | ⟨_, w8, m8, r8, _, B⟩
          · exact absurd d3 (by decide)
          obtain ⟨z1, z2, z3⟩ := mark_pair hX s1 r160 r8
          rcases z3 with ⟨e1, e2, e3⟩ | ⟨e1, e2, e3⟩
          · cases e1; cases e2
            rcases A with ⟨_, A⟩ | ⟨d2, _⟩
            · rcases B with ⟨_, B⟩ | ⟨d3, _⟩
              · cases A; cases B
                exact Or.inl ⟨rfl, e3, rfl, (hA.tr g1).tr z1.va, (hB.tr g2).tr z2.vb⟩
              · exact absurd rfl d3
            · exact absurd rfl d2
          · cases e1; cases e2
            rcases A with ⟨d2, _⟩ | ⟨_, N', e, _⟩
            · exact absurd d2 (by decide)
            · cases e
  | succ N ih =>
    intro M n b2 a b ha hb hs hf hA hB
    obtain ⟨q, f1, f2, f3⟩ := hf
    have hL := hs.1.1.2.2.2.2.2.2
    have hL2 := hs.1.1.1.2.2.2.1
    rcases i83_17 ha with ⟨c, _⟩ | ⟨c, A⟩
    · omega
    rcases A with ⟨c2, A⟩ | ⟨c2, v, m4, r4, _, A⟩
    · rcases i230_35 hb with ⟨d, B⟩ | ⟨d, _⟩
      · cases A
        exact Or.inr ⟨n, M, b, rfl, hs, B, hA, hB⟩
      · exfalso
        apply d
        rcases hs.1.2.2.2 with h | h | h | h | h <;> omega
    · rcases i230_35 hb with ⟨d, _⟩ | ⟨_, w, m3, r3, _, B⟩
      · exfalso
        apply c2
        rcases hs.1.2.2.2 with h | h | h | h | h <;> omega
      · obtain ⟨le, hk⟩ := line_ok hX hS hs r4 r3
        rcases le with ⟨e1, e2, e3, g1, g2⟩ | ⟨e1, g2, a1, g1, pr, s1, r160⟩
        · cases e1; cases e2
          rcases A with ⟨_, A⟩ | ⟨d2, _⟩
          · rcases B with ⟨_, B⟩ | ⟨d3, _⟩
            · cases A; cases B
              exact Or.inl ⟨rfl, e3, rfl, hA.tr g1, hB.tr g2⟩
            · exact absurd rfl d3
          · exact absurd rfl d2
        · cases e1
          have k1 := hk rfl
          rcases B with ⟨d3, _⟩ | ⟨_, w8, m8, r8, _, B⟩
          · exact absurd d3 (by decide)
          obtain ⟨z1, z2, z3⟩ := mark_pair hX s1 r160 r8
          rcases z3 with ⟨e1, e2, e3⟩ | ⟨e1, e2, e3⟩
          · cases e1; cases e2
            rcases A with ⟨_, A⟩ | ⟨d2, _⟩
            · rcases B with ⟨_, B⟩ | ⟨d3, _⟩
              · cases A; cases B
                exact Or.inl ⟨rfl, e3, rfl, (hA.tr g1).tr z1.va, (hB.tr g2).tr z2.vb⟩
              · exact absurd rfl d3
            · exact absurd rfl d2
          · cases e1; cases e2
            rcases A with ⟨d2, _⟩ | ⟨_, N', e, A⟩
            · exact absurd d2 (by decide)
            cases e
            rcases B with ⟨d3, _⟩ | ⟨_, M', e, B⟩
            · exact absurd d3 (by decide)
            cases e
            have en : s32 ((n : Int) + 1) = ((n + 1 : Nat) : Int) := by rw [s32_id (by omega) (by omega)]; rfl
            rw [en] at A B
            obtain ⟨k3, r148⟩ := mark_run r160
            have pm := mon_ok hX s1.1.1 r148
            have x1 := f3 (by omega) (by omega)
            have x2 := pr.2 (by omega) (by omega)
            exact ih M' (n + 1) b2 m4 m8 A B e3 ⟨a1 1 3, by omega, pm.1, pm.2⟩ ((hA.tr g1).tr z1.va) ((hB.tr g2).tr z2.vb)
set_option maxRecDepth 16384 in
theorem A297 {X : KO} {ρ : Nat → Int32} {m m' : MM} {rl : List (Nat × Int)} {r v n : Int} (hr : r ≠ 1000050) (hn : m r (-1) = n) (h0 : 0 ≤ n) (hn2 : n < 100000) (h : Run X ρ 297 [(1, r), (1, v)] m rl m') : rl = [] ∧ Fr (fun x k => x = r ∧ 0 ≤ k) m m' ∧ ∀ k, 0 ≤ k → k < n → m' r k = s32 v := by
  refine ⟨Run_v h rfl, ?_⟩
  obtain ⟨N, ig, h⟩ := Run_CR h rfl
  have h : MR X ρ 4 0 0 qP297 N 0 [r, v, 0, 0] [] m (ig, rl, m') := h
  have h := i297_0 h
  rw [if_neg hr, hn, s32_id (z := n) (by omega) (by omega)] at h
  have key : ∀ (N : Nat) (i : Int) (m1 : MM), MR X ρ 4 0 0 qP297 N 5 [r, v, i, n] [] m1 (ig, rl, m') → 0 ≤ i → i ≤ n → Fr (fun x k => x = r ∧ 0 ≤ k) m m1 → (∀ k, 0 ≤ k → k < i → m1 r k = s32 v) → Fr (fun x k => x = r ∧ 0 ≤ k) m m' ∧ ∀ k, 0 ≤ k → k < n → m' r k = s32 v := by
    intro N
    induction N with
    | zero =>
      intro i m1 h h1 h2 hF hk
      rcases i297_5 h with ⟨c, h⟩ | ⟨c, N', e, _⟩
      · cases h
        exact ⟨hF, fun k k1 k2 => hk k k1 (by omega)⟩
      · cases e
    | succ N ih =>
      intro i m1 h h1 h2 hF hk
      rcases i297_5 h with ⟨c, h⟩ | ⟨c, N', e, h⟩
      · cases h
        exact ⟨hF, fun k k1 k2 => hk k k1 (by omega)⟩
      · cases e
        rw [s32_id (z := i + 1) (by omega) (by omega)] at h
        refine ih (i + 1) _ h (by omega) (by omega) (hF.mu ⟨rfl, h1⟩) (fun k k1 k2 => ?_)
        by_cases d : k = i
        · rw [d, mu_s]
        · rw [mu_k d]; exact hk k k1 (by omega)
  exact key N 0 m h (Int.le_refl _) h0 (Fr.rf _ _) (fun k k1 k2 => by omega)
set_option maxRecDepth 16384 in
theorem A68 {X : KO} {ρ : Nat → Int32} {m m' : MM} {rl : List (Nat × Int)} (hl : m 9 4 = 14) (h : Run X ρ 68 [(1, 9)] m rl m') : Fr (fun x k => (x = 14 ∧ 0 ≤ k) ∨ (x = 9 ∧ 5 ≤ k)) m m' ∧ (∀ k, 0 ≤ k → k < 8 → m' 14 k = 0) ∧ m' 9 5 = 0 ∧ m' 9 6 = 0 ∧ m' 9 7 = 0 ∧ m' 9 8 = 0 := by
  obtain ⟨N, ig, h⟩ := Run_CR h rfl
  have h : MR X ρ 2 0 0 qP68 N 0 [9, 0] [] m (ig, rl, m') := h
  have h := i68_0 h
  have z0 : s32 0 = 0 := s32_id (by decide) (by decide)
  have key : ∀ (N : Nat) (i : Int) (m1 : MM), MR X ρ 2 0 0 qP68 N 2 [9, i] [] m1 (ig, rl, m') → 0 ≤ i → i ≤ 8 → Fr (fun x k => (x = 14 ∧ 0 ≤ k) ∨ (x = 9 ∧ 5 ≤ k)) m m1 → (∀ k, 0 ≤ k → k < i → m1 14 k = 0) → Fr (fun x k => (x = 14 ∧ 0 ≤ k) ∨ (x = 9 ∧ 5 ≤ k)) m m' ∧ (∀ k, 0 ≤ k → k < 8 → m' 14 k = 0) ∧ m' 9 5 = 0 ∧ m' 9 6 = 0 ∧ m' 9 7 = 0 ∧ m' 9 8 = 0 := by
    intro N
    have fin : ∀ (i : Int) (m1 : MM), 8 ≤ i → Fr (fun x k => (x = 14 ∧ 0 ≤ k) ∨ (x = 9 ∧ 5 ≤ k)) m m1 → (∀ k, 0 ≤ k → k < i → m1 14 k = 0) → m' = mu (mu (mu (mu m1 9 5 0) 9 6 0) 9 7 0) 9 8 0 → Fr (fun x k => (x = 14 ∧ 0 ≤ k) ∨ (x = 9 ∧ 5 ≤ k)) m m' ∧ (∀ k, 0 ≤ k → k < 8 → m' 14 k = 0) ∧ m' 9 5 = 0 ∧ m' 9 6 = 0 ∧ m' 9 7 = 0 ∧ m' 9 8 = 0 := by
      intro i m1 hi hF hk e
      subst e
      refine ⟨(((hF.mu (Or.inr ⟨rfl, by decide⟩)).mu (Or.inr ⟨rfl, by decide⟩)).mu (Or.inr ⟨rfl, by decide⟩)).mu (Or.inr ⟨rfl, by decide⟩), fun k k1 k2 => ?_, ?_, ?_, ?_, ?_⟩
      · rw [mu_a (by decide), mu_a (by decide), mu_a (by decide), mu_a (by decide)]; exact hk k k1 (by omega)
      · rw [mu_k (by decide), mu_k (by decide), mu_k (by decide), mu_s]
      · rw [mu_k (by decide), mu_k (by decide), mu_s]
      · rw [mu_k (by decide), mu_s]
      · rw [mu_s]
    induction N with
    | zero =>
      intro i m1 h h1 h2 hF hk
      rcases i68_2 h with ⟨c, h⟩ | ⟨c, N', e, _⟩
      · cases h
        exact fin i m1 c hF hk rfl
      · cases e
    | succ N ih =>
      intro i m1 h h1 h2 hF hk
      rcases i68_2 h with ⟨c, h⟩ | ⟨c, N', e, h⟩
      · cases h
        exact fin i m1 c hF hk rfl
      · cases e
        have e14 : m1 9 4 = 14 := by rw [hF 9 4 (by omega)]; exact hl
        rw [s32_id (z := i + 1) (by omega) (by omega), z0, e14] at h
        refine ih (i + 1) _ h (by omega) (by omega) (hF.mu (Or.inl ⟨rfl, h1⟩)) (fun k k1 k2 => ?_)
        by_cases d : k = i
        · rw [d, mu_s]
        · rw [mu_k d]; exact hk k k1 (by omega)
  exact key N 0 m h (Int.le_refl _) (by decide) (Fr.rf _ _) (fun k k1 k2 => by omega)
set_option maxRecDepth 16384 in
/-- the trial's rows -/
def LayT (m : MM) : Prop := m 22 1 = 23 ∧ m 22 2 = 24 ∧ m 22 3 = 25 ∧ m 22 4 = 26 ∧ m 22 5 = 27 ∧ m 22 6 = 28 ∧ m 23 (-1) = 64 ∧ m 24 (-1) = 8 ∧ m 25 (-1) = 8 ∧ m 26 (-1) = 8 ∧ m 27 (-1) = 8 ∧ m 28 (-1) = 24
set_option maxRecDepth 16384 in
def PC (x k : Int) : Prop := (23 ≤ x ∧ x ≤ 28 ∧ 0 ≤ k) ∨ (x = 22 ∧ 7 ≤ k ∧ k ≤ 8)
set_option maxRecDepth 16384 in
theorem A111 {X : KO} {ρ : Nat → Int32} {m m' : MM} {rl : List (Nat × Int)} (hl : LayT m) (h : Run X ρ 111 [(1, 22)] m rl m') : Fr PC m m' ∧ (∀ k, 0 ≤ k → k < 64 → m' 23 k = 0) ∧ (∀ k, 0 ≤ k → k < 8 → m' 24 k = -1 ∧ m' 25 k = 0 ∧ m' 26 k = 0 ∧ m' 27 k = 0) ∧ (∀ k, 0 ≤ k → k < 24 → m' 28 k = -1) ∧ m' 22 7 = 0 ∧ m' 22 8 = 0 := by
  obtain ⟨l1, l2, l3, l4, l5, l6, n1, n2, n3, n4, n5, n6⟩ := hl
  obtain ⟨N, ig, h⟩ := Run_CR h rfl
  have h : MR X ρ 1 0 0 qP111 N 0 [22] [] m (ig, rl, m') := h
  obtain ⟨m2, r2, e⟩ := i111_0 h
  have e := congrArg (fun z => z.2.2) e
  have e : m' = m2 := e
  subst e
  obtain ⟨N, ig, h⟩ := Run_CR r2 rfl
  have h : MR X ρ 1 0 0 qP140 N 0 [22] [] m (ig, [], m') := h
  obtain ⟨w1, r1, w2, r2, w3, r3, w4, r4, w5, r5, w6, r6, e⟩ := i140_0 h
  have e := congrArg (fun z => z.2.2) e
  have e : m' = mu (mu w6 22 7 0) 22 8 0 := e
  have z0 : s32 0 = 0 := s32_id (by decide) (by decide)
  have z1 : s32 (-1) = -1 := s32_id (by decide) (by decide)
  rw [l1] at r1
  obtain ⟨-, F1, v1⟩ := A297 (by decide) n1 (by decide) (by decide) r1
  rw [F1 22 2 (by omega), l2] at r2
  obtain ⟨-, F2, v2⟩ := A297 (n := 8) (by decide) (by rw [F1 24 _ (by omega)]; exact n2) (by decide) (by decide) r2
  rw [F2 22 3 (by omega), F1 22 3 (by omega), l3] at r3
  obtain ⟨-, F3, v3⟩ := A297 (n := 8) (by decide) (by rw [F2 25 _ (by omega), F1 25 _ (by omega)]; exact n3) (by decide) (by decide) r3
  rw [F3 22 4 (by omega), F2 22 4 (by omega), F1 22 4 (by omega), l4] at r4
  obtain ⟨-, F4, v4⟩ := A297 (n := 8) (by decide) (by rw [F3 26 _ (by omega), F2 26 _ (by omega), F1 26 _ (by omega)]; exact n4) (by decide) (by decide) r4
  rw [F4 22 5 (by omega), F3 22 5 (by omega), F2 22 5 (by omega), F1 22 5 (by omega), l5] at r5
  obtain ⟨-, F5, v5⟩ := A297 (n := 8) (by decide) (by rw [F4 27 _ (by omega), F3 27 _ (by omega), F2 27 _ (by omega), F1 27 _ (by omega)]; exact n5) (by decide) (by decide) r5
  rw [F5 22 6 (by omega), F4 22 6 (by omega), F3 22 6 (by omega), F2 22 6 (by omega), F1 22 6 (by omega), l6] at r6
  obtain ⟨-, F6, v6⟩ := A297 (n := 24) (by decide) (by rw [F5 28 _ (by omega), F4 28 _ (by omega), F3 28 _ (by omega), F2 28 _ (by omega), F1 28 _ (by omega)]; exact n6) (by decide) (by decide) r6
  have G : ∀ {x : Int} {m1 m2 : MM}, 23 ≤ x → x ≤ 28 → Fr (fun y k => y = x ∧ 0 ≤ k) m1 m2 → Fr PC m1 m2 := fun h1 h2 hF => hF.mo (fun y k q => Or.inl ⟨by omega, by omega, q.2⟩)
  subst e
  refine ⟨((((((((G (by decide) (by decide) F1).tr (G (by decide) (by decide) F2)).tr (G (by decide) (by decide) F3)).tr (G (by decide) (by decide) F4)).tr (G (by decide) (by decide) F5)).tr (G (by decide) (by decide) F6)).mu (Or.inr ⟨rfl, by decide, by decide⟩)).mu (Or.inr ⟨rfl, by decide, by decide⟩)), fun k k1 k2 => ?_, fun k k1 k2 => ⟨?_, ?_, ?_, ?_⟩, fun k k1 k2 => ?_, ?_, ?_⟩
  · rw [mu_a (by decide), mu_a (by decide), F6 23 _ (by omega), F5 23 _ (by omega), F4 23 _ (by omega), F3 23 _ (by omega), F2 23 _ (by omega), v1 k k1 k2, z0]
  · rw [mu_a (by decide), mu_a (by decide), F6 24 _ (by omega), F5 24 _ (by omega), F4 24 _ (by omega), F3 24 _ (by omega), v2 k k1 k2, z1]
  · rw [mu_a (by decide), mu_a (by decide), F6 25 _ (by omega), F5 25 _ (by omega), F4 25 _ (by omega), v3 k k1 k2, z0]
  · rw [mu_a (by decide), mu_a (by decide), F6 26 _ (by omega), F5 26 _ (by omega), v4 k k1 k2, z0]
  · rw [mu_a (by decide), mu_a (by decide), F6 27 _ (by omega), v5 k k1 k2, z0]
  · rw [mu_a (by decide), mu_a (by decide), v6 k k1 k2, z1]
  · rw [mu_k (by decide), mu_s]
  · rw [mu_s]
end
section
/-! office() answers alike. -/
set_option maxRecDepth 16384 in
def OffA (m : MM) : Prop := m 0 0 = 1 ∧ m 0 2 = 9 ∧ m 0 4 = 22 ∧ m 1 0 = 2 ∧ m 2 (-1) = 940 ∧ LayA m ∧ LayT m
set_option maxRecDepth 16384 in
def OffB (m : MM) : Prop := m 148 1 = 149 ∧ LayB m
set_option maxRecDepth 16384 in
/-- the same bytes were fed -/
def TapeR (a b : MM) (L : Int) : Prop := a 1 1 = L ∧ b 148 2 = L ∧ 0 ≤ L ∧ L ≤ 940 ∧ ∀ j, 0 ≤ j → j < L → jand (a 2 j) 255 = b 149 j
set_option maxRecDepth 16384 in
theorem B230_9 {X : KO} {ρ : Nat → Int32} {o : Instr × List (Nat × Int) × MM} {b2 : Int} {m0 : MM} (hl : m0 148 15 = 151) : ∀ (N : Nat) (i : Int) (m : MM), MR X ρ 3 0 0 qP230 N 9 [148, i, b2] [] m o → 0 ≤ i → i ≤ 92 → Fr (fun x k => x = 151 ∧ 0 ≤ k) m0 m → (∀ k, 0 ≤ k → k < i → m 151 k = 0) → ∃ (N' : Nat) (m1 : MM), MR X ρ 3 0 0 qP230 N' 35 [148, 0, b2] [] (mu m1 148 24 0) o ∧ Fr (fun x k => x = 151 ∧ 0 ≤ k) m0 m1 ∧ ∀ k, 0 ≤ k → k < 92 → m1 151 k = 0 := by
  intro N
  induction N with
  | zero =>
    intro i m h h1 h2 hF hk
    rcases i230_9 h with ⟨c, h⟩ | ⟨c, N', e, _⟩
    · exact ⟨0, m, h, hF, fun k k1 k2 => hk k k1 (by omega)⟩
    · cases e
  | succ N ih =>
    intro i m h h1 h2 hF hk
    rcases i230_9 h with ⟨c, h⟩ | ⟨c, N', e, h⟩
    · exact ⟨N + 1, m, h, hF, fun k k1 k2 => hk k k1 (by omega)⟩
    · cases e
      have e15 : m 148 15 = 151 := by rw [hF 148 15 (by omega)]; exact hl
      rw [s32_id (z := i + 1) (by omega) (by omega), s32_id (z := 0) (by decide) (by decide), e15] at h
      refine ih (i + 1) _ h (by omega) (by omega) (hF.mu ⟨rfl, h1⟩) (fun k k1 k2 => ?_)
      by_cases d : k = i
      · rw [d, mu_s]
      · rw [mu_k d]; exact hk k k1 (by omega)
set_option maxRecDepth 16384 in
theorem B230_end {X : KO} {ρ : Nat → Int32} {o : Instr × List (Nat × Int) × MM} {n : Int} : ∀ (N : Nat) (i : Int) (m : MM), MR X ρ 3 0 0 qP230 N 71 [148, n, i] [] m o → o.2.1 = [(1, n)] := by
  have k97 : ∀ (N : Nat) (i : Int) (m : MM), MR X ρ 3 0 0 qP230 N 97 [148, n, i] [] m o → o.2.1 = [(1, n)] := by
    intro N
    induction N with
    | zero =>
      intro i m h
      rcases i230_97 h with ⟨c, m3, _, h⟩ | ⟨c, N', e, _⟩
      · rw [h]
      · cases e
    | succ N ih =>
      intro i m h
      rcases i230_97 h with ⟨c, m3, _, h⟩ | ⟨c, N', e, h⟩
      · rw [h]
      · cases e
        exact ih _ _ h
  intro N
  induction N with
  | zero =>
    intro i m h
    rcases i230_71 h with ⟨c, h⟩ | ⟨c, N', e, _⟩
    · exact k97 _ _ _ h
    · cases e
  | succ N ih =>
    intro i m h
    rcases i230_71 h with ⟨c, h⟩ | ⟨c, N', e, h⟩
    · exact k97 _ _ _ h
    · cases e
      exact ih _ _ h
set_option maxRecDepth 16384 in
/-- what both have read, behind an office's text -/
theorem text_ok {X : KO} {ρ : Nat → Int32} {a a' b : MM} {rl : List (Nat × Int)} {L : Int} {o' : Instr × List (Nat × Int) × MM} {M : Nat} (hX : XW X) (hS : XS X) (hA : OffA a) (hB : OffB b) (hT : TapeR a b L) (ra : Run X ρ 83 [(1, 9), (1, 1), (1, 22)] a rl a') (rb : MR X ρ 3 0 0 qP230 M 0 [148, 0, 0] [] b o') : (rl = [(1, -1)] ∧ FL a' o'.2.2 ∧ o'.2.1 = [(1, s32 ((-1) - (o'.2.2 148 11)))] ∧ a' 0 0 = a 0 0) ∨ (∃ (k : Nat) (M' : Nat) (b' : MM), rl = [(1, (k : Int))] ∧ ST X (fun j => b 149 j) L 900 a' b' ∧ MR X ρ 3 0 0 qP230 M' 71 [148, (k : Int), 0] [] b' o' ∧ a' 0 0 = a 0 0) := by
  obtain ⟨-, -, -, t0, t1, hLA, hLT⟩ := hA
  obtain ⟨u1, u2, u3⟩ := hB
  obtain ⟨v1, v2, v3, v4, v5⟩ := hT
  obtain ⟨N, ig, ra⟩ := Run_CR ra rfl
  have ra : MR X ρ 4 0 0 qP83 N 0 [9, 1, 22, 0] [] a (ig, rl, a') := ra
  obtain ⟨m2, r2, m5, r5, m8, r8, ha⟩ := i83_0 ra
  obtain ⟨mb, rb1, hb⟩ := i230_0 rb
  have hLA' := hLA
  obtain ⟨l1, l2, l3, l4, l5, l6⟩ := hLA'
  obtain ⟨F1, s14, s95, s96, s97, s98⟩ := A68 l5 r2
  have hLT2 : LayT m2 := by
    obtain ⟨q1, q2, q3, q4, q5, q6, q7, q8, q9, qa, qb, qc⟩ := hLT
    exact ⟨by rw [F1 _ _ (by omega)]; exact q1, by rw [F1 _ _ (by omega)]; exact q2, by rw [F1 _ _ (by omega)]; exact q3, by rw [F1 _ _ (by omega)]; exact q4, by rw [F1 _ _ (by omega)]; exact q5, by rw [F1 _ _ (by omega)]; exact q6, by rw [F1 _ _ (by omega)]; exact q7, by rw [F1 _ _ (by omega)]; exact q8, by rw [F1 _ _ (by omega)]; exact q9, by rw [F1 _ _ (by omega)]; exact qa, by rw [F1 _ _ (by omega)]; exact qb, by rw [F1 _ _ (by omega)]; exact qc⟩
  obtain ⟨F2, g23, -, -, g7, -⟩ := A111 hLT2 r5
  -- the class begins
  obtain ⟨N8, ig8, r8⟩ := Run_CR r8 rfl
  have r8 : MR X ρ 2 0 0 qP149 N8 0 [1, 900] [] m5 (ig8, [], m8) := r8
  obtain ⟨m8', r8b, e⟩ := i149_0 r8
  have e := congrArg (fun z => z.2.2) e
  have e : m8 = m8' := e
  subst e
  clear r8
  -- the reference begins
  obtain ⟨Nb, igb, rb1⟩ := Run_CR rb1 rfl
  have rb1 : MR X ρ 2 0 0 qP169 Nb 0 [148, 900] [] b (igb, [], mb) := rb1
  obtain ⟨mb', rb2, e⟩ := i169_0 rb1
  have e := congrArg (fun z => z.2.2) e
  have e : mb = mb' := e
  subst e
  clear rb1
  have ef : f283 (mu b 148 0 0) 148 = L := by
    show (mu b 148 0 0) 148 2 = L
    rw [mu_k (by decide)]
    exact v2
  have eg : g283 (mu b 148 0 0) 148 = mu (mu b 148 0 0) 148 2 0 := rfl
  rw [ef, eg] at rb2
  have Fb : Fr (fun x k => x = 148 ∧ (k = 0 ∨ k = 2 ∨ k = 3 ∨ k = 4 ∨ k = 10 ∨ k = 5)) b (mu (mu (mu (mu (mu (mu b 148 0 0) 148 2 0) 148 3 L) 148 4 900) 148 10 0) 148 5 0) := ((((((Fr.rf _ _).mu ⟨rfl, by omega⟩).mu ⟨rfl, by omega⟩).mu ⟨rfl, by omega⟩).mu ⟨rfl, by omega⟩).mu ⟨rfl, by omega⟩).mu ⟨rfl, by omega⟩
  have y3 : (mu (mu (mu (mu (mu (mu b 148 0 0) 148 2 0) 148 3 L) 148 4 900) 148 10 0) 148 5 0) 148 3 = L := by rw [mu_k (by decide), mu_k (by decide), mu_k (by decide), mu_s]
  have y4 : (mu (mu (mu (mu (mu (mu b 148 0 0) 148 2 0) 148 3 L) 148 4 900) 148 10 0) 148 5 0) 148 4 = 900 := by rw [mu_k (by decide), mu_k (by decide), mu_s]
  have y10 : (mu (mu (mu (mu (mu (mu b 148 0 0) 148 2 0) 148 3 L) 148 4 900) 148 10 0) 148 5 0) 148 10 = 0 := by rw [mu_k (by decide), mu_s]
  have y5 : (mu (mu (mu (mu (mu (mu b 148 0 0) 148 2 0) 148 3 L) 148 4 900) 148 10 0) 148 5 0) 148 5 = 0 := mu_s _ _ _ _
  revert rb2 Fb y3 y4 y10 y5
  generalize (mu (mu (mu (mu (mu (mu b 148 0 0) 148 2 0) 148 3 L) 148 4 900) 148 10 0) 148 5 0) = b0
  intro rb2 Fb y3 y4 y10 y5
  have Fa : Fr (fun x k => x = 1 ∧ (k = 2 ∨ k = 3 ∨ k = 9 ∨ k = 10)) m5 (mu (mu (mu (mu m5 1 2 900) 1 3 0) 1 9 0) 1 10 0) := ((((Fr.rf _ _).mu ⟨rfl, by omega⟩).mu ⟨rfl, by omega⟩).mu ⟨rfl, by omega⟩).mu ⟨rfl, by omega⟩
  have x2 : (mu (mu (mu (mu m5 1 2 900) 1 3 0) 1 9 0) 1 10 0) 1 2 = 900 := by rw [mu_k (by decide), mu_k (by decide), mu_k (by decide), mu_s]
  have x3 : (mu (mu (mu (mu m5 1 2 900) 1 3 0) 1 9 0) 1 10 0) 1 3 = 0 := by rw [mu_k (by decide), mu_k (by decide), mu_s]
  have x9 : (mu (mu (mu (mu m5 1 2 900) 1 3 0) 1 9 0) 1 10 0) 1 9 = 0 := by rw [mu_k (by decide), mu_s]
  revert r8b Fa x2 x3 x9
  generalize (mu (mu (mu (mu m5 1 2 900) 1 3 0) 1 9 0) 1 10 0) = a0
  intro r8b Fa x2 x3 x9
  have E1 : ∀ k, (k = 0 ∨ k = 1) → a0 1 k = a 1 k := fun k hk => by rw [Fa 1 k (by omega), F2 1 k (by unfold PC; omega), F1 1 k (by omega)]
  have E2 : ∀ k, a0 2 k = a 2 k := fun k => by rw [Fa 2 k (by omega), F2 2 k (by unfold PC; omega), F1 2 k (by omega)]
  have p0 : PR0 (fun j => b 149 j) L 900 a0 b0 := by
    refine ⟨⟨by rw [E1 0 (Or.inl rfl)]; exact t0, by rw [E1 1 (Or.inr rfl)]; exact v1, v3, v4, by rw [E2]; exact t1, fun j j1 j2 => by rw [E2]; exact v5 j j1 j2⟩, ⟨by rw [Fb 148 1 (by omega)]; exact u1, y3, v3, v4, fun j j1 j2 => by rw [Fb 149 j (by omega)]⟩, x2, y4, by rw [x3, y5], by omega, by omega⟩
  have pm := mon_ok hX p0 r8b
  obtain ⟨⟨p1, p2⟩, f1, f2, -, -⟩ := next_ok hX p0 r8b rb2
  -- the reference wipes its rows
  have l15 : mb 148 15 = 151 := by rw [f2.PM 148 15 (fun q => by have := q.2.2; omega), Fb 148 15 (by omega)]; exact u2
  obtain ⟨N', m1, hb, Fz, z⟩ := B230_9 l15 _ 0 mb hb (Int.le_refl _) (by decide) (Fr.rf _ _) (fun k k1 k2 => by omega)
  have Fb2 : Fr (fun x k => (x = 151 ∧ 0 ≤ k) ∨ (x = 148 ∧ k = 24)) mb (mu m1 148 24 0) := (Fz.mo (fun x k q => Or.inl q)).mu (Or.inr ⟨rfl, rfl⟩)
  have zr : ∀ k, 0 ≤ k → k < 92 → (mu m1 148 24 0) 151 k = 0 := fun k k1 k2 => by rw [mu_a (by decide)]; exact z k k1 k2
  have z24 : (mu m1 148 24 0) 148 24 = 0 := mu_s _ _ _ _
  revert hb Fb2 zr z24
  generalize (mu m1 148 24 0) = b2
  intro hb Fb2 zr z24
  have ea : ∀ x k, x ≠ 1 → m8 x k = m5 x k := fun x k hx => by rw [f1.PT x k (fun q => hx q.1), Fa x k (fun q => hx q.1)]
  have e9 : ∀ k, k < 5 → m8 9 k = a 9 k := fun k hk => by rw [ea 9 k (by decide), F2 9 k (by unfold PC; omega), F1 9 k (by omega)]
  have e9' : ∀ k, m8 9 k = m2 9 k := fun k => by rw [ea 9 k (by decide), F2 9 k (by unfold PC; omega)]
  have hs : ST X (fun j => b 149 j) L 900 m8 b2 := by
    refine ⟨⟨PR0_fr p1 (Fr.rf (fun _ _ => False) _) Fb2 (fun _ q => q) (fun _ q => q) (fun k _ _ q => by omega) (fun k q => by omega), TKR_fr p2 (Fr.rf (fun _ _ => False) _) Fb2 (fun _ q => q) (fun k _ _ q => by omega)⟩, ⟨⟨?_, ?_, ?_, ?_, ?_, ?_⟩, ⟨?_, ?_⟩, ⟨?_, ?_, ?_, ?_, ?_, ?_⟩, ⟨fun k k1 k2 => ?_, fun k k1 k2 => ?_⟩, fun k k1 k2 => ?_, fun k k1 k2 => ?_, fun k k1 k2 => ?_, ⟨?_, ?_, ?_, ?_⟩⟩, ?_, ?_⟩
    · rw [e9 _ (by decide)]; exact l1
    · rw [e9 _ (by decide)]; exact l2
    · rw [e9 _ (by decide)]; exact l3
    · rw [e9 _ (by decide)]; exact l4
    · rw [e9 _ (by decide)]; exact l5
    · rw [ea 22 1 (by decide), F2 22 1 (by unfold PC; omega), F1 22 1 (by omega)]; exact l6
    · rw [Fb2 148 15 (by omega)]; exact l15
    · rw [Fb2 148 20 (by omega), f2.PM 148 20 (fun q => by have := q.2.2; omega), Fb 148 20 (by omega)]; exact u3
    · rw [e9', s96, zr 0 (by decide) (by decide)]
    · rw [e9', s96]; exact Int.le_refl _
    · rw [e9', s96]; decide
    · rw [e9', s97, zr 1 (by decide) (by decide)]
    · rw [e9', s97]; exact Int.le_refl _
    · rw [e9', s97]; decide
    · rw [e9', s96] at k2; omega
    · rw [e9', s97] at k2; omega
    · rw [ea 23 k (by decide), g23 k k1 k2, zr (12 + k) (by omega) (by omega)]
      exact ⟨rfl, by decide, by decide, fun _ => rfl⟩
    · rw [ea 14 k (by decide), F2 14 k (by unfold PC; omega), s14 k k1 k2, zr (4 + k) (by omega) (by omega)]
    · rw [e9', s97] at k2; omega
    · rw [e9', s95, z24]
    · rw [e9', s98, zr 2 (by decide) (by decide)]
    · rw [ea 22 7 (by decide), g7, zr 3 (by decide) (by decide)]
    · rw [e9', s95]; exact Or.inl rfl
    · rw [f1 1 9 (by unfold P148; omega)]; exact x9
    · rw [Fb2 148 10 (by omega), f2 148 10 (by unfold P195; omega)]; exact y10
  have hfar : Far 0 m8 := ⟨0, by omega, by have := pm.1; omega, fun q1 q2 => by have := pm.2 q1 q2; omega⟩
  have h00 : m8 0 0 = a 0 0 := by rw [ea 0 0 (by decide), F2 0 0 (by unfold PC; omega), F1 0 0 (by omega)]
  rcases lines_ok (a0 := m8) (b0 := b2) hX hS _ _ 0 0 m8 b2 ha hb hs hfar (Fr.rf _ _) (Fr.rf _ _) with ⟨q1, q2, q3, q4, q5⟩ | ⟨k, M', b', q1, q2, q3, q4, q5⟩
  · exact Or.inl ⟨q1, q2, q3, by rw [← h00]; exact q4 0 0 (by unfold VA; omega)⟩
  · exact Or.inr ⟨k, M', b', q1, q2, q3, by rw [← h00]; exact q4 0 0 (by unfold VA; omega)⟩
set_option maxRecDepth 16384 in
theorem office_ok {X : KO} {ρ : Nat → Int32} {a a' b b' : MM} {rl rl' : List (Nat × Int)} {L : Int} (hX : XW X) (hS : XS X) (hA : OffA a) (hB : OffB b) (hT : TapeR a b L) (ra : Run X ρ 25 [(1, 0)] a rl a') (rb : Run X ρ 230 [(1, 148)] b rl' b') : rl = rl' := by
  obtain ⟨N, ig, ra⟩ := Run_CR ra rfl
  have ra : MR X ρ 2 0 0 qP25 N 0 [0, 0] [] a (ig, rl, a') := ra
  obtain ⟨M, ig', rb⟩ := Run_CR rb rfl
  have rb : MR X ρ 3 0 0 qP230 M 0 [148, 0, 0] [] b (ig', rl', b') := rb
  obtain ⟨v4, m2, r83, A⟩ := i25_0 ra
  have hA' := hA
  obtain ⟨t0, t1, t2, -⟩ := hA'
  rw [t0, t1, t2] at r83
  have hC : m2 0 0 = 1 → (mu (mu m2 0 13 (m2 (m2 0 0) 9)) ((mu m2 0 13 (m2 (m2 0 0) 9)) 0 0) 1 0) 0 13 = m2 1 9 ∧ (mu (mu m2 0 13 (m2 (m2 0 0) 9)) ((mu m2 0 13 (m2 (m2 0 0) 9)) 0 0) 1 0) ((mu (mu m2 0 13 (m2 (m2 0 0) 9)) ((mu m2 0 13 (m2 (m2 0 0) 9)) 0 0) 1 0) 0 0) 10 = m2 1 10 := fun h => by
    have e0 : (mu m2 0 13 (m2 (m2 0 0) 9)) 0 0 = 1 := by rw [mu_k (by decide)]; exact h
    rw [e0, h]
    constructor
    · rw [mu_a (by decide), mu_s]
    · rw [mu_a (b := 0) (by decide), mu_k (b := 0) (j := 0) (by decide), h, mu_k (by decide), mu_a (by decide)]
  rcases text_ok hX hS hA hB hT r83 rb with ⟨q1, q2, q3, q4⟩ | ⟨k, M', b2, q1, q2, q3, q4⟩
  · cases q1
    obtain ⟨c1, c2⟩ := hC (by rw [q4]; exact t0)
    rw [c1, c2] at A
    obtain ⟨d1, d2, d3⟩ := q2
    rcases A with ⟨c, _⟩ | ⟨_, A⟩
    · exact absurd c d3
    · have A := congrArg (fun z => z.2.1) A
      have A : rl = [(1, s32 ((-1) - (m2 1 10)))] := A
      have q3 : rl' = [(1, s32 ((-1) - (b' 148 11)))] := q3
      rw [A, q3, d2]
  · cases q1
    obtain ⟨c1, c2⟩ := hC (by rw [q4]; exact t0)
    rw [c1, c2] at A
    rcases A with ⟨_, A⟩ | ⟨c, _⟩
    · have A := congrArg (fun z => z.2.1) A
      have A : rl = [(1, (k : Int))] := A
      have B := B230_end _ _ _ q3
      have B : rl' = [(1, (k : Int))] := B
      rw [A, B]
    · exact absurd q2.2.2.1 c
end
section
/-! feed() puts the same bytes down on both sides. -/
set_option maxRecDepth 16384 in
theorem b255 : ∀ i : Nat, i < 32 → (255#32).getLsbD i = decide (i < 8) := by decide
set_option maxRecDepth 16384 in
theorem byte_bv (y : BitVec 32) : ((y.signExtend 8).signExtend 32) &&& 255#32 = y &&& 255#32 := by
  apply BitVec.eq_of_getLsbD_eq
  intro i hi
  rw [BitVec.getLsbD_and, BitVec.getLsbD_and, b255 i hi]
  by_cases h : i < 8
  · rw [BitVec.getLsbD_signExtend, BitVec.getLsbD_signExtend]
    simp [h, hi]
  · simp [h]
set_option maxRecDepth 16384 in
theorem nar_b (x : Int32) : vp_nar .byte x = x.toInt8.toInt32 := rfl
set_option maxRecDepth 16384 in
theorem byte_ok (y : Int) : jand (jbst 2 (ji2b y)) 255 = jand y 255 := by
  rw [jand_eq, jand_eq, jbst_eq, ji2b_eq]
  show o32 (fun a b => a &&& b) ((vp_nar .byte (Int32.ofInt ((Int32.ofInt y).toInt8.toInt32).toInt)).toInt) 255 = _
  rw [Int32.ofInt_toInt, nar_b]
  unfold o32
  rw [Int32.ofInt_toInt]
  congr 1
  apply Int32.toBitVec_inj.mp
  rw [Int32.toBitVec_and, Int32.toBitVec_and]
  rw [show (Int32.ofInt 255).toBitVec = 255#32 by decide, Int8.toBitVec_toInt32, Int32.toBitVec_toInt8, Int8.toBitVec_toInt32, Int32.toBitVec_toInt8, byte_bv, byte_bv]
set_option maxRecDepth 16384 in
theorem s32_jand (a b : Int) : s32 (jand a b) = jand a b := by
  rw [jand_eq]
  unfold o32
  exact s32_id (Int32.le_toInt _) (Int32.toInt_lt _)
set_option maxRecDepth 16384 in
/-- the tapes, all over -/
def TJ (a b : MM) (L : Int) : Prop := a 1 0 = 2 ∧ a 2 (-1) = 940 ∧ a 2 (-2) = 2 ∧ b 148 1 = 149 ∧ a 1 1 = L ∧ b 148 2 = L ∧ 0 ≤ L ∧ ∀ j, 0 ≤ j → j < 940 → jand (a 2 j) 255 = b 149 j
set_option maxRecDepth 16384 in
theorem add_pair {X : KO} {ρ : Nat → Int32} {x : Int} {o o' : Instr × List (Nat × Int) × MM} : ∀ (k : Nat) (N M : Nat) (a b : MM) (L : Int), k ≤ 4 → MR X ρ 3 0 0 qP147 N 3 [1, x, 8 * (k : Int) - 8] [] a o → MR X ρ 3 0 0 qP176 M 3 [148, x, 8 * (k : Int) - 8] [] b o' → TJ a b L → L + k ≤ 940 → TJ o.2.2 o'.2.2 (L + k) ∧ o.2.2 0 0 = a 0 0 := by
  intro k
  induction k with
  | zero =>
    intro N M a b L _ ha hb h hL
    rcases i147_3 ha with ⟨_, ha⟩ | ⟨c, _⟩
    · rcases i176_3 hb with ⟨_, hb⟩ | ⟨c, _⟩
      · rw [ha, hb]
        show TJ a b (L + 0) ∧ a 0 0 = a 0 0
        rw [Int.add_zero]
        exact ⟨h, rfl⟩
      · omega
    · omega
  | succ k ih =>
    intro N M a b L hk ha hb h hL
    obtain ⟨h1, h2, h3, h4, h5, h6, h7, h8⟩ := h
    have es : s32 ((8 * ((k + 1 : Nat) : Int) - 8) + (-8)) = 8 * (k : Int) - 8 := by
      rw [s32_id (by omega) (by omega)]
      omega
    have hL1 : ((k + 1 : Nat) : Int) = (k : Int) + 1 := rfl
    have A := i147_3 ha
    have B := i176_3 hb
    rw [es] at A B
    rw [h1, h2, h3, h5] at A
    rw [h4, h6] at B
    have e30 : (if (2 : Int) = 1000050 then 30 else s32 940) = 940 := by
      rw [if_neg (by decide)]
      exact s32_id (by decide) (by decide)
    rw [e30] at A
    rcases A with ⟨c, _⟩ | ⟨_, A⟩
    · omega
    rcases B with ⟨c, _⟩ | ⟨_, M', e, B⟩
    · omega
    rcases A with ⟨c, _⟩ | ⟨_, A⟩
    · omega
    rcases A with ⟨c, _⟩ | ⟨_, N', e', A⟩
    · omega
    have w1 : (mu a 2 L (jbst 2 (ji2b (jushr x (8 * ((k + 1 : Nat) : Int) - 8))))) 1 1 = L := by rw [mu_a (by decide)]; exact h5
    have w2 : (mu b 149 L (s32 (jand (jushr x (8 * ((k + 1 : Nat) : Int) - 8)) 255))) 148 2 = L := by rw [mu_a (by decide)]; exact h6
    rw [w1, s32_id (z := L + 1) (by omega) (by omega)] at A
    rw [w2, s32_id (z := L + 1) (by omega) (by omega), s32_jand] at B
    have hn : TJ (mu (mu a 2 L (jbst 2 (ji2b (jushr x (8 * ((k + 1 : Nat) : Int) - 8))))) 1 1 (L + 1)) (mu (mu b 149 L (jand (jushr x (8 * ((k + 1 : Nat) : Int) - 8)) 255)) 148 2 (L + 1)) (L + 1) := by
      refine ⟨?_, ?_, ?_, ?_, mu_s _ _ _ _, mu_s _ _ _ _, by omega, fun j j1 j2 => ?_⟩
      · rw [mu_k (by decide), mu_a (by decide)]; exact h1
      · rw [mu_a (by decide), mu_k (by omega)]; exact h2
      · rw [mu_a (by decide), mu_k (by omega)]; exact h3
      · rw [mu_k (by decide), mu_a (by decide)]; exact h4
      · rw [mu_a (by decide), mu_a (b := 149) (by decide)]
        by_cases d : j = L
        · rw [d, mu_s, mu_s, byte_ok]
        · rw [mu_k d, mu_k d]; exact h8 j j1 j2
    obtain ⟨g1, g2⟩ := ih N' M' _ _ (L + 1) (by omega) A B hn (by omega)
    refine ⟨?_, ?_⟩
    · rw [show L + ((k + 1 : Nat) : Int) = L + 1 + (k : Int) by omega]
      exact g1
    · rw [g2, mu_a (by decide), mu_a (by decide)]
set_option maxRecDepth 16384 in
theorem byte4 {X : KO} {ρ : Nat → Int32} {x : Int} {a a' b b' : MM} {rl rl' : List (Nat × Int)} {L : Int} (h : TJ a b L) (hL : L + 4 ≤ 940) (ra : Run X ρ 147 [(1, 1), (1, x)] a rl a') (rb : Run X ρ 176 [(1, 148), (1, x)] b rl' b') : TJ a' b' (L + 4) ∧ a' 0 0 = a 0 0 := by
  obtain ⟨N, ig, ra⟩ := Run_CR ra rfl
  have ra : MR X ρ 3 0 0 qP147 N 0 [1, x, 0] [] a (ig, rl, a') := ra
  obtain ⟨M, ig', rb⟩ := Run_CR rb rfl
  have rb : MR X ρ 3 0 0 qP176 M 0 [148, x, 0] [] b (ig', rl', b') := rb
  exact add_pair 4 N M a b L (Nat.le_refl _) (i147_0 ra) (i176_0 rb) h hL
set_option maxRecDepth 16384 in
theorem feed_pair {X : KO} {ρ : Nat → Int32} {x1 x2 x3 x4 x5 : Int} {a a' b b' : MM} {rl rl' : List (Nat × Int)} {L : Int} (h0 : a 0 0 = 1) (h : TJ a b L) (hL : L ≤ 940) (ra : Run X ρ 15 [(1, 0), (1, x1), (1, x2), (1, x3), (1, x4), (1, x5)] a rl a') (rb : Run X ρ 189 [(1, 148), (1, x1), (1, x2), (1, x3), (1, x4), (1, x5)] b rl' b') : ∃ L', TJ a' b' L' ∧ rl = rl' := by
  obtain ⟨N, ig, ra⟩ := Run_CR ra rfl
  have ra : MR X ρ 6 0 0 qP15 N 0 [0, x1, x2, x3, x4, x5] [] a (ig, rl, a') := ra
  obtain ⟨M, ig', rb⟩ := Run_CR rb rfl
  have rb : MR X ρ 6 0 0 qP189 M 0 [148, x1, x2, x3, x4, x5] [] b (ig', rl', b') := rb
  obtain ⟨h1, h2, h3, h4, h5, h6, h7, h8⟩ := h
  have A := i15_0 ra
  have B := i189_0 rb
  have hb0 : TJ a (mu b 148 0 0) L := ⟨h1, h2, h3, by rw [mu_k (by decide)]; exact h4, h5, by rw [mu_k (by decide)]; exact h6, h7, fun j j1 j2 => by rw [mu_a (by decide)]; exact h8 j j1 j2⟩
  have eb : (mu b 148 0 0) 148 2 = L := hb0.2.2.2.2.2.1
  rw [eb, s32_id (z := L + 20) (by omega) (by omega)] at B
  rw [h0, h5, s32_id (z := L + 20) (by omega) (by omega)] at A
  rcases A with ⟨c, m3, r3, m6, r6, m9, r9, m12, r12, m15, r15, A⟩ | ⟨c, A⟩
  · rcases B with ⟨d, n3, q3, n6, q6, n9, q9, n12, q12, n15, q15, B⟩ | ⟨d, _⟩
    · obtain ⟨t1, e1⟩ := byte4 hb0 (by omega) r3 q3
      rw [e1, h0] at r6
      obtain ⟨t2, e2⟩ := byte4 t1 (by omega) r6 q6
      rw [e2, e1, h0] at r9
      obtain ⟨t3, e3⟩ := byte4 t2 (by omega) r9 q9
      rw [e3, e2, e1, h0] at r12
      obtain ⟨t4, e4⟩ := byte4 t3 (by omega) r12 q12
      rw [e4, e3, e2, e1, h0] at r15
      obtain ⟨t5, e5⟩ := byte4 t4 (by omega) r15 q15
      cases A; cases B
      refine ⟨_, t5, ?_⟩
      rw [e5, e4, e3, e2, e1, h0, t5.2.2.2.2.1, t5.2.2.2.2.2.1]
    · exact absurd c d
  · rcases B with ⟨d, _⟩ | ⟨d, B⟩
    · exact absurd d c
    · cases A; cases B
      exact ⟨_, hb0, rfl⟩
end
section
/-! A loop as one function: steps until one of them ends it. -/
set_option maxRecDepth 16384 in
def lrun {σ τ : Type} (f : σ → σ ⊕ τ) : Nat → σ → Option τ
  | 0, _ => none
  | n + 1, s => match f s with
    | .inl s' => lrun f n s'
    | .inr t => some t
set_option maxRecDepth 16384 in
theorem lrun_u {σ τ : Type} {f : σ → σ ⊕ τ} : ∀ (n m : Nat) (s : σ) (t t' : τ), lrun f n s = some t → lrun f m s = some t' → t = t' := by
  intro n
  induction n with
  | zero => intro m s t t' h; cases h
  | succ n ih =>
    intro m s t t' h h'
    cases m with
    | zero => cases h'
    | succ m =>
      unfold lrun at h h'
      split at h
      · rename_i s' e
        rw [e] at h'
        exact ih m s' t t' h h'
      · rename_i t1 e
        rw [e] at h'
        cases h; cases h'; rfl
set_option maxRecDepth 16384 in
noncomputable def Lp {σ τ : Type} [Inhabited τ] (f : σ → σ ⊕ τ) (s : σ) : τ := @dite τ (∃ t n, lrun f n s = some t) (Classical.propDecidable _) (fun h => Classical.choose h) (fun _ => default)
set_option maxRecDepth 16384 in
theorem Lp_of {σ τ : Type} [Inhabited τ] {f : σ → σ ⊕ τ} {s : σ} {t : τ} {n : Nat} (h : lrun f n s = some t) : Lp f s = t := by
  have hx : ∃ t n, lrun f n s = some t := ⟨t, n, h⟩
  unfold Lp
  rw [dif_pos hx]
  obtain ⟨m, hm⟩ := Classical.choose_spec hx
  exact lrun_u _ _ _ _ _ hm h
set_option maxRecDepth 16384 in
theorem Lp_inr {σ τ : Type} [Inhabited τ] {f : σ → σ ⊕ τ} {s : σ} {t : τ} (h : f s = .inr t) : Lp f s = t := by
  refine Lp_of (n := 1) ?_
  unfold lrun
  rw [h]
set_option maxRecDepth 16384 in
theorem Lp_inl {σ τ : Type} [Inhabited τ] {f : σ → σ ⊕ τ} {s s' : σ} (h : f s = .inl s') : Lp f s = Lp f s' := by
  by_cases hx : ∃ t n, lrun f n s' = some t
  · obtain ⟨t, n, hn⟩ := hx
    rw [Lp_of hn]
    refine Lp_of (n := n + 1) ?_
    unfold lrun
    rw [h]
    exact hn
  · have hy : ¬ ∃ t n, lrun f n s = some t := by
      rintro ⟨t, n, hn⟩
      cases n with
      | zero => cases hn
      | succ n =>
        unfold lrun at hn
        rw [h] at hn
        exact hx ⟨t, n, hn⟩
    unfold Lp
    rw [dif_neg hx, dif_neg hy]
set_option maxRecDepth 16384 in
/-- a loop whose measure falls ends as its steps say -/
theorem Lp_ind {σ τ : Type} [Inhabited τ] {f : σ → σ ⊕ τ} {P : σ → Prop} {Q : τ → Prop} (μ : σ → Nat) (h : ∀ s, P s → (∃ t, f s = .inl t ∧ P t ∧ μ t < μ s) ∨ (∃ t, f s = .inr t ∧ Q t)) : ∀ s, P s → Q (Lp f s) := by
  have key : ∀ n s, μ s < n → P s → Q (Lp f s) := by
    intro n
    induction n with
    | zero => intro s hs; omega
    | succ n ih =>
      intro s hs hp
      rcases h s hp with ⟨t, e, p, l⟩ | ⟨t, e, q⟩
      · rw [Lp_inl e]; exact ih t (by omega) p
      · rw [Lp_inr e]; exact q
  exact fun s hp => key _ s (Nat.lt_succ_self _) hp
set_option maxRecDepth 16384 in
/-- two loops in step -/
theorem Lp_sim {σ τ σ' τ' : Type} [Inhabited τ] [Inhabited τ'] {f : σ → σ ⊕ τ} {f' : σ' → σ' ⊕ τ'} {P : σ → σ' → Prop} {Q : τ → τ' → Prop} (μ : σ → Nat) (h : ∀ s s', P s s' → (∃ t t', f s = .inl t ∧ f' s' = .inl t' ∧ P t t' ∧ μ t < μ s) ∨ (∃ t t', f s = .inr t ∧ f' s' = .inr t' ∧ Q t t')) : ∀ s s', P s s' → Q (Lp f s) (Lp f' s') := by
  have key : ∀ n s s', μ s < n → P s s' → Q (Lp f s) (Lp f' s') := by
    intro n
    induction n with
    | zero => intro s s' hs; omega
    | succ n ih =>
      intro s s' hs hp
      rcases h s s' hp with ⟨t, t', e, e', p, l⟩ | ⟨t, t', e, e', q⟩
      · rw [Lp_inl e, Lp_inl e']; exact ih t t' (by omega) p
      · rw [Lp_inr e, Lp_inr e']; exact q
  exact fun s s' hp => key _ s s' (Nat.lt_succ_self _) hp
set_option maxRecDepth 16384 in
theorem CR_le {PC : CL → Prop} {X : KO} {ρ : Nat → Int32} {rg : List (Int × Int)} {L nL Rc Rs : Nat} {prog : List KEnt} {N K pc : Nat} {l : List Int} {S : List (Nat × Int)} {m : MM} {o : Instr × List (Nat × Int) × MM} (hK : N ≤ K) (h : CR PC X ρ rg L nL Rc Rs prog N pc l S m o) : CR PC X ρ rg L nL Rc Rs prog K pc l S m o := by
  obtain ⟨call, n, lo, st, w, c, s, k, h1, h2, h3⟩ := h
  exact ⟨call, n, lo, st, w, c, s, k, h1, Nat.le_trans h2 hK, h3⟩
set_option maxRecDepth 16384 in
theorem CR_end_id {α : Type} {x y : α} (h : x = y) : x = y := h
end
section
/-! Math.min, max and abs; a text's length and signs. -/
section LPM
variable {X : KO} {ρ : Nat → Int32} {nL Rc Rs : Nat} {prog : List KEnt} {N pc : Nat} {l : List Int} {S : List (Nat × Int)} {m : MM} {o : Instr × List (Nat × Int) × MM} {x : KX}
set_option maxRecDepth 16384 in
noncomputable def jmin (a b : Int) : Int := if b < a then b else a
set_option maxRecDepth 16384 in
noncomputable def jmax (a b : Int) : Int := if a < b then b else a
set_option maxRecDepth 16384 in
noncomputable def jabs (a : Int) : Int := if 0 ≤ a then a else s32 (0 - a)
set_option maxRecDepth 16384 in
def tlen (a : Int) : Int := match kstr a.toNat with
  | some l => (Int32.ofNat l.length).toInt
  | none => 0
set_option maxRecDepth 16384 in
def tchr (a i : Int) : Int := match kstr a.toNat with
  | some l => (l.getD i.toNat 0 &&& 255).toInt
  | none => 0
set_option maxRecDepth 16384 in
theorem MR_min {i t1 t2 : Nat} {a b : Int} (h : MR X ρ nL Rc Rs prog N pc l ((t2, b) :: (t1, a) :: S) m o) (hp : kat prog pc = some (.invokestatic i, x)) (hx : x.1 = 999998) : MR X ρ nL Rc Rs prog N (pc + 3) l ((1, jmin a b) :: S) m o := by
  obtain ⟨call, n, lo, st, w, c, s, k, h1, h2, h3, h4, h5, h6, h7, hc⟩ := CR_s h hp rfl
  have h7 : kdx (.invokestatic i) X call [] 0 nL Rc Rs x pc lo st w c s = some k := h7
  unfold kdx at h7
  dsimp only at h7
  rw [hx] at h7
  have h7 : kmin [] Rc Rs pc lo st w c s = some k := h7
  obtain ⟨v1, r, rfl, a1, b1, g1⟩ := kcc_cons h5
  obtain ⟨v2, r, rfl, a2, b2, g2⟩ := kcc_cons g1
  unfold kmin at h7
  dsimp only at h7
  obtain ⟨hb, h7⟩ := kcond_inv h7
  have hb := Bool.and_eq_true_iff.mp hb
  have hb2 := Bool.and_eq_true_iff.mp hb.2
  split at h7
  · rename_i bb hlt
    cases h7
    have hlt := klt_ok (rg := []) (ρ := ρ) kRg0 hlt
    rw [Int32.lt_iff_toInt_lt] at hlt
    have e1 := (kc_int (ρ := ρ) hb2.1)
    have e2 := (kc_int (ρ := ρ) hb.1)
    rw [← e1.1, ← e2.1, b1, b2] at hlt
    refine hc N l _ _ (by omega) h4 ?_ h6
    cases bb with
    | true =>
      have q : b < a := hlt.mp rfl
      show kcc ρ v1 :: List.map (kcc ρ) r = _
      unfold jmin
      rw [if_pos q, g2]
      unfold kcc
      rw [b1, e1.2]
    | false =>
      have q : ¬ b < a := fun z => Bool.false_ne_true (hlt.mpr z)
      show kcc ρ v2 :: List.map (kcc ρ) r = _
      unfold jmin
      rw [if_neg q, g2]
      unfold kcc
      rw [b2, e2.2]
  · cases h7
set_option maxRecDepth 16384 in
theorem MR_max {i t1 t2 : Nat} {a b : Int} (h : MR X ρ nL Rc Rs prog N pc l ((t2, b) :: (t1, a) :: S) m o) (hp : kat prog pc = some (.invokestatic i, x)) (hx : x.1 = 999996) : MR X ρ nL Rc Rs prog N (pc + 3) l ((1, jmax a b) :: S) m o := by
  obtain ⟨call, n, lo, st, w, c, s, k, h1, h2, h3, h4, h5, h6, h7, hc⟩ := CR_s h hp rfl
  have h7 : kdx (.invokestatic i) X call [] 0 nL Rc Rs x pc lo st w c s = some k := h7
  unfold kdx at h7
  dsimp only at h7
  rw [hx] at h7
  have h7 : kmax [] Rc Rs pc lo st w c s = some k := h7
  obtain ⟨v1, r, rfl, a1, b1, g1⟩ := kcc_cons h5
  obtain ⟨v2, r, rfl, a2, b2, g2⟩ := kcc_cons g1
  unfold kmax at h7
  split at h7
  · rename_i yy xx rest hst
    cases hst
    obtain ⟨hb, h7⟩ := kcond_inv h7
    cases h7
    refine hc N l _ _ (by omega) h4 ?_ h6
    have b1 : yy.toInt = b := b1
    have b2 : xx.toInt = a := b2
    show (1, (if xx < yy then yy else xx).toInt) :: List.map (kcc ρ) r = _
    rw [g2]
    unfold jmax
    by_cases q : xx < yy
    · rw [if_pos q, if_pos (by rw [Int32.lt_iff_toInt_lt] at q; omega), b1]
    · rw [if_neg q, if_neg (by rw [Int32.lt_iff_toInt_lt] at q; omega), b2]
  · cases h7
set_option maxRecDepth 16384 in
theorem MR_abs {i t1 : Nat} {a : Int} (h : MR X ρ nL Rc Rs prog N pc l ((t1, a) :: S) m o) (hp : kat prog pc = some (.invokestatic i, x)) (hx : x.1 = 999995) : MR X ρ nL Rc Rs prog N (pc + 3) l ((1, jabs a) :: S) m o := by
  obtain ⟨call, n, lo, st, w, c, s, k, h1, h2, h3, h4, h5, h6, h7, hc⟩ := CR_s h hp rfl
  have h7 : kdx (.invokestatic i) X call [] 0 nL Rc Rs x pc lo st w c s = some k := h7
  unfold kdx at h7
  dsimp only at h7
  rw [hx] at h7
  have h7 : kabs Rc Rs pc lo st w c s = some k := h7
  obtain ⟨v1, r, rfl, a1, b1, g1⟩ := kcc_cons h5
  unfold kabs at h7
  split at h7
  · rename_i xx rest hst
    cases hst
    obtain ⟨hb, h7⟩ := kcond_inv h7
    cases h7
    refine hc N l _ _ (by omega) h4 ?_ h6
    have b1 : xx.toInt = a := b1
    show (1, (if 0 ≤ xx then xx else 0 - xx).toInt) :: List.map (kcc ρ) r = _
    rw [g1]
    unfold jabs
    have z0 : (0 : Int32).toInt = 0 := by decide
    by_cases q : (0 : Int32) ≤ xx
    · rw [if_pos q, if_pos (by rw [Int32.le_iff_toInt_le] at q; omega), b1]
    · rw [if_neg q, if_neg (by rw [Int32.le_iff_toInt_le] at q; omega)]
      rw [s32_eq, ← b1]
      congr 2
      rw [Int32.ofInt_sub, Int32.ofInt_toInt]
      rfl
  · cases h7
set_option maxRecDepth 16384 in
theorem MR_slen {i t1 : Nat} {a : Int} (h : MR X ρ nL Rc Rs prog N pc l ((t1, a) :: S) m o) (hp : kat prog pc = some (.invokevirtual i, x)) (hx : x.1 = 999994) : MR X ρ nL Rc Rs prog N (pc + 3) l ((1, tlen a) :: S) m o := by
  obtain ⟨call, n, lo, st, w, c, s, k, h1, h2, h3, h4, h5, h6, h7, hc⟩ := CR_s h hp rfl
  have h7 : kdx (.invokevirtual i) X call [] 0 nL Rc Rs x pc lo st w c s = some k := h7
  unfold kdx at h7
  dsimp only at h7
  rw [hx] at h7
  have h7 : kslen Rc Rs pc lo st w c s = some k := h7
  obtain ⟨v1, r, rfl, a1, b1, g1⟩ := kcc_cons h5
  unfold kslen at h7
  split at h7
  · rename_i aa rest hst
    cases hst
    split at h7
    · rename_i tl htl
      obtain ⟨hb, h7⟩ := kcond_inv h7
      cases h7
      refine hc N l _ _ (by omega) h4 ?_ h6
      have b1 : (aa : Int) = a := b1
      show (1, (Int32.ofNat tl.length).toInt) :: List.map (kcc ρ) r = _
      rw [g1]
      unfold tlen
      rw [← b1, Int.toNat_natCast, htl]
    · cases h7
  · cases h7
set_option maxRecDepth 16384 in
theorem MR_schr {i t1 t2 : Nat} {a j : Int} (h : MR X ρ nL Rc Rs prog N pc l ((t2, j) :: (t1, a) :: S) m o) (hp : kat prog pc = some (.invokevirtual i, x)) (hx : x.1 = 999993) : MR X ρ nL Rc Rs prog N (pc + 3) l ((1, tchr a j) :: S) m o := by
  obtain ⟨call, n, lo, st, w, c, s, k, h1, h2, h3, h4, h5, h6, h7, hc⟩ := CR_s h hp rfl
  have h7 : kdx (.invokevirtual i) X call [] 0 nL Rc Rs x pc lo st w c s = some k := h7
  unfold kdx at h7
  dsimp only at h7
  rw [hx] at h7
  have h7 : kschr Rc Rs pc lo st w c s = some k := h7
  obtain ⟨v1, r, rfl, a1, b1, g1⟩ := kcc_cons h5
  obtain ⟨v2, r, rfl, a2, b2, g2⟩ := kcc_cons g1
  unfold kschr at h7
  split at h7
  · rename_i ii aa rest hst
    cases hst
    split at h7
    · rename_i tl htl
      obtain ⟨hb, h7⟩ := kcond_inv h7
      have hb := Bool.and_eq_true_iff.mp hb
      cases h7
      refine hc N l _ _ (by omega) h4 ?_ h6
      have b1 : ii.toInt = j := b1
      have b2 : (aa : Int) = a := b2
      show (1, (tl.getD ii.toNatClampNeg 0 &&& 255).toInt) :: List.map (kcc ρ) r = _
      rw [g2]
      unfold tchr
      rw [← b2, ← b1, Int.toNat_natCast, htl, Int32.toNat_toInt]
    · cases h7
  · cases h7
set_option maxRecDepth 16384 in
theorem MR_ifb {cnd : Jvm.ClassFile.Cond} {off : Int} {t t1 : Nat} {a : Int} (h : MR X ρ nL Rc Rs prog N pc l ((t1, a) :: S) m o) (hp : kat prog pc = some (.ifCond cnd off, x)) (ht : ktg pc off = some t) : (cdP cnd a 0 ∧ ∃ N', N = N' + 1 ∧ MR X ρ nL Rc Rs prog N' t l S m o) ∨ (¬ cdP cnd a 0 ∧ MR X ρ nL Rc Rs prog N (pc + 3) l S m o) := by
  obtain ⟨call, n, lo, st, w, c, s, k, h1, h2, h3, h4, h5, h6, h7, hc⟩ := CR_s h hp rfl
  obtain ⟨y, r, rfl, h8, h9, h10⟩ := kcc_cons h5
  have h7 : kif [] cnd off pc lo (y :: r) w c s = some k := h7
  obtain ⟨hb, h7⟩ := kcond_inv h7
  obtain ⟨b, hb2, rfl⟩ := kbr_inv h7 ht
  have e := kcondc_ok kRg0 (ρ := ρ) hb rfl hb2
  rw [h9] at e
  cases b with
  | true => exact Or.inl ⟨e.mp rfl, N - 1, by omega, hc (N - 1) l S m (by omega) h4 h10 h6⟩
  | false => exact Or.inr ⟨fun q => (nomatch e.mpr q), hc N l S m (by omega) h4 h10 h6⟩
set_option maxRecDepth 16384 in
theorem MR_icmpb {cnd : Jvm.ClassFile.Cond} {off : Int} {t t1 t2 : Nat} {a b : Int} (h : MR X ρ nL Rc Rs prog N pc l ((t2, b) :: (t1, a) :: S) m o) (hp : kat prog pc = some (.if_icmp cnd off, x)) (ht : ktg pc off = some t) : (cdP cnd a b ∧ ∃ N', N = N' + 1 ∧ MR X ρ nL Rc Rs prog N' t l S m o) ∨ (¬ cdP cnd a b ∧ MR X ρ nL Rc Rs prog N (pc + 3) l S m o) := by
  obtain ⟨call, n, lo, st, w, c, s, k, h1, h2, h3, h4, h5, h6, h7, hc⟩ := CR_s h hp rfl
  obtain ⟨y, r, rfl, h8, h9, h10⟩ := kcc_cons h5
  obtain ⟨u, r, rfl, h11, h12, h13⟩ := kcc_cons h10
  have h7 : kicmp [] cnd off pc lo (y :: u :: r) w c s = some k := h7
  obtain ⟨hb, h7⟩ := kcond_inv h7
  obtain ⟨b', hb2, rfl⟩ := kbr_inv h7 ht
  have hb := Bool.and_eq_true_iff.mp hb
  have e := kcondc_ok kRg0 (ρ := ρ) hb.1 hb.2 hb2
  rw [h9, h12] at e
  cases b' with
  | true => exact Or.inl ⟨e.mp rfl, N - 1, by omega, hc (N - 1) l S m (by omega) h4 h13 h6⟩
  | false => exact Or.inr ⟨fun q => (nomatch e.mpr q), hc N l S m (by omega) h4 h13 h6⟩
end LPM
end
