/-! A line; the beginning; an office's text. -/
set_option maxRecDepth 16384 in
theorem word_kind {X : KO} {a : MM} {s : Int} (h : ¬ f155 X a 1 s = 0) : a 1 4 = 1 := by
  unfold f155 at h
  by_cases c : a 1 4 = 1
  · exact c
  · rw [if_neg c] at h; exact absurd rfl h
set_option maxRecDepth 16384 in
theorem line_ok {X : KO} {ρ : Nat → Int32} {t : Int → Int} {L : Int} {a a' b b1 : MM} {rl rl' : List (Nat × Int)} (hX : XW X) (hS : XS X) (h : ST X t L 900 a b) (ha : Run X ρ 79 [(1, 9), (1, 1), (1, 22)] a rl a') (hb : Run X ρ 250 [(1, 148)] b rl' b1) : LE X ρ t L a a' b b1 rl rl' ∧ (rl' = [(1, 1)] → a 1 4 = 1) := by
  obtain ⟨N, ig, ha⟩ := Run_CR ha rfl
  obtain ⟨M, ig', hb⟩ := Run_CR hb rfl
  have ha : MR X ρ 3 0 0 qP79 N 0 [9, 1, 22] [] a (ig, rl, a') := ha
  have hb : MR X ρ 1 0 0 qP250 M 0 [148] [] b (ig', rl', b1) := hb
  have p1 := h.1.2
  have A := i79_0 ha
  have B := i250_0 hb
  have w0 : f155 X a 1 1000009 = f217 b 148 0 := word_ok hS p1 (s := 8) (by decide)
  have w2 : f155 X a 1 1000010 = f217 b 148 2 := word_ok hS p1 (s := 9) (by decide)
  have w3 : f155 X a 1 1000011 = f217 b 148 3 := word_ok hS p1 (s := 10) (by decide)
  have w4 : f155 X a 1 1000012 = f217 b 148 4 := word_ok hS p1 (s := 11) (by decide)
  have w5 : f155 X a 1 1000013 = f217 b 148 5 := word_ok hS p1 (s := 12) (by decide)
  rw [← w0, ← w2, ← w3, ← w4, ← w5, f168_0] at B
  rcases A with ⟨c0, A⟩ | ⟨c0, v, ma, ra, _, A⟩
  · rcases B with ⟨_, B⟩ | ⟨d, _⟩
    case inr => exact absurd c0 d
    rcases A with ⟨c2, A⟩ | ⟨c2, v, ma, ra, _, A⟩
    · rcases B with ⟨_, B⟩ | ⟨d, _⟩
      case inr => exact absurd c2 d
      rcases A with ⟨c3, A⟩ | ⟨c3, v, ma, ra, _, A⟩
      · rcases B with ⟨_, B⟩ | ⟨d, _⟩
        case inr => exact absurd c3 d
        rcases A with ⟨c4, A⟩ | ⟨c4, v, ma, ra, _, A⟩
        · rcases B with ⟨_, B⟩ | ⟨d, _⟩
          case inr => exact absurd c4 d
          rcases A with ⟨c5, A⟩ | ⟨c5, v, ma, ra, _, A⟩
          · rcases B with ⟨_, B⟩ | ⟨d, _⟩
            case inr => exact absurd c5 d
            cases A; cases B
            exact ⟨Or.inl ⟨rfl, rfl, bad_ok p1 (by decide) (Or.inl rfl), (Fr_158 _ _).va, (Fr_168 _ _).vb⟩, fun q => by cases q⟩
          · rcases B with ⟨d, _⟩ | ⟨_, w, mb, rb, _, B⟩
            · exact absurd d c5
            cases A; cases B
            have k := word_kind c5
            exact ⟨rule_line hX hS h (by omega) ra rb, fun _ => k⟩
        · rcases B with ⟨d, _⟩ | ⟨_, w, mb, rb, _, B⟩
          · exact absurd d c4
          cases A; cases B
          have k := word_kind c4
          exact ⟨form_line hX h (by omega) ra rb, fun _ => k⟩
      · rcases B with ⟨d, _⟩ | ⟨_, w, mb, rb, _, B⟩
        · exact absurd d c3
        cases A; cases B
        have k := word_kind c3
        exact ⟨shy_line hX h ra rb, fun _ => k⟩
    · rcases B with ⟨d, _⟩ | ⟨_, w, mb, rb, _, B⟩
      · exact absurd d c2
      cases A; cases B
      have k := word_kind c2
      exact ⟨grudge_line hX h ra rb, fun _ => k⟩
  · rcases B with ⟨d, _⟩ | ⟨_, w, mb, rb, _, B⟩
    · exact absurd d c0
    cases A; cases B
    have k := word_kind c0
    exact ⟨person_line hX hS h (by omega) ra rb, fun _ => k⟩
set_option maxRecDepth 16384 in
theorem mark_run {X : KO} {ρ : Nat → Int32} {a a' : MM} (ha : Run X ρ 160 [(1, 1), (1, 59)] a [(1, 1)] a') : a 1 4 = 3 ∧ Run X ρ 148 [(1, 1)] a [] a' := by
  obtain ⟨N, ig, ha⟩ := Run_CR ha rfl
  have ha : MR X ρ 2 0 0 qP160 N 0 [1, 59] [] a (ig, [(1, 1)], a') := ha
  rcases i160_0 ha with ⟨c, A⟩ | ⟨c, m8, r8, A⟩
  · have A := congrArg (fun z => z.2.1) A
    have A : [((1 : Nat), (1 : Int))] = [(1, 0)] := A
    cases A
  · cases A
    refine ⟨?_, r8⟩
    unfold f152 at c
    by_cases q : a 1 4 = 3
    · exact q
    · rw [if_neg q] at c; exact absurd rfl c
set_option maxRecDepth 16384 in
/-- how far the lines are at least -/
def Far (n : Nat) (a : MM) : Prop := ∃ q : Int, 2 * (n : Int) ≤ q ∧ q ≤ a 1 3 ∧ (a 1 4 ≠ 0 → a 1 4 ≠ 4 → q < a 1 3)
set_option maxRecDepth 16384 in
/-- the lines, one by one, on both sides -/
theorem lines_ok {X : KO} {ρ : Nat → Int32} {t : Int → Int} {L : Int} {a0 b0 : MM} {o o' : Instr × List (Nat × Int) × MM} (hX : XW X) (hS : XS X) : ∀ (N M : Nat) (n : Nat) (b2 : Int) (a b : MM), MR X ρ 4 0 0 qP83 N 17 [9, 1, 22, (n : Int)] [] a o → MR X ρ 3 0 0 qP230 M 35 [148, (n : Int), b2] [] b o' → ST X t L 900 a b → Far n a → Fr VA a0 a → Fr VB b0 b → (o.2.1 = [(1, -1)] ∧ FL o.2.2 o'.2.2 ∧ o'.2.1 = [(1, s32 ((-1) - (o'.2.2 148 11)))] ∧ Fr VA a0 o.2.2 ∧ Fr VB b0 o'.2.2) ∨ (∃ (k : Nat) (M' : Nat) (b' : MM), o.2.1 = [(1, (k : Int))] ∧ ST X t L 900 o.2.2 b' ∧ MR X ρ 3 0 0 qP230 M' 71 [148, (k : Int), 0] [] b' o' ∧ Fr VA a0 o.2.2 ∧ Fr VB b0 b') := by
  intro N
  induction N with
  | zero =>
    intro M n b2 a b ha hb hs hf hA hB
    obtain ⟨q, f1, f2, f3⟩ := hf
    have hL := hs.1.1.2.2.2.2.2.2
    have hL2 := hs.1.1.1.2.2.2.1
    rcases i83_17 ha with ⟨c, _⟩ | ⟨c, A⟩
    · omega
    rcases A with ⟨c2, A⟩ | ⟨c2, v, m4, r4, _, A⟩
    · rcases i230_35 hb with ⟨d, B⟩ | ⟨d, _⟩
      · cases A
        exact Or.inr ⟨n, M, b, rfl, hs, B, hA, hB⟩
      · exfalso
        apply d
        rcases hs.1.2.2.2 with h | h | h | h | h <;> omega
    · rcases i230_35 hb with ⟨d, _⟩ | ⟨_, w, m3, r3, _, B⟩
      · exfalso
        apply c2
        rcases hs.1.2.2.2 with h | h | h | h | h <;> omega
      · obtain ⟨le, hk⟩ := line_ok hX hS hs r4 r3
        rcases le with ⟨e1, e2, e3, g1, g2⟩ | ⟨e1, g2, a1, g1, pr, s1, r160⟩
        · cases e1; cases e2
          rcases A with ⟨_, A⟩ | ⟨d2, _⟩
          · rcases B with ⟨_, B⟩ | ⟨d3, _⟩
            · cases A; cases B
              exact Or.inl ⟨rfl, e3, rfl, hA.tr g1, hB.tr g2⟩
            · exact absurd rfl d3
          · exact absurd rfl d2
        · cases e1
          rcases B with ⟨d3, _⟩ | ⟨_, w8, m8, r8, _, B⟩
          · exact absurd d3 (by decide)
          obtain ⟨z1, z2, z3⟩ := mark_pair hX s1 r160 r8
          rcases z3 with ⟨e1, e2, e3⟩ | ⟨e1, e2, e3⟩
          · cases e1; cases e2
            rcases A with ⟨_, A⟩ | ⟨d2, _⟩
            · rcases B with ⟨_, B⟩ | ⟨d3, _⟩
              · cases A; cases B
                exact Or.inl ⟨rfl, e3, rfl, (hA.tr g1).tr z1.va, (hB.tr g2).tr z2.vb⟩
              · exact absurd rfl d3
            · exact absurd rfl d2
          · cases e1; cases e2
            rcases A with ⟨d2, _⟩ | ⟨_, N', e, _⟩
            · exact absurd d2 (by decide)
            · cases e
  | succ N ih =>
    intro M n b2 a b ha hb hs hf hA hB
    obtain ⟨q, f1, f2, f3⟩ := hf
    have hL := hs.1.1.2.2.2.2.2.2
    have hL2 := hs.1.1.1.2.2.2.1
    rcases i83_17 ha with ⟨c, _⟩ | ⟨c, A⟩
    · omega
    rcases A with ⟨c2, A⟩ | ⟨c2, v, m4, r4, _, A⟩
    · rcases i230_35 hb with ⟨d, B⟩ | ⟨d, _⟩
      · cases A
        exact Or.inr ⟨n, M, b, rfl, hs, B, hA, hB⟩
      · exfalso
        apply d
        rcases hs.1.2.2.2 with h | h | h | h | h <;> omega
    · rcases i230_35 hb with ⟨d, _⟩ | ⟨_, w, m3, r3, _, B⟩
      · exfalso
        apply c2
        rcases hs.1.2.2.2 with h | h | h | h | h <;> omega
      · obtain ⟨le, hk⟩ := line_ok hX hS hs r4 r3
        rcases le with ⟨e1, e2, e3, g1, g2⟩ | ⟨e1, g2, a1, g1, pr, s1, r160⟩
        · cases e1; cases e2
          rcases A with ⟨_, A⟩ | ⟨d2, _⟩
          · rcases B with ⟨_, B⟩ | ⟨d3, _⟩
            · cases A; cases B
              exact Or.inl ⟨rfl, e3, rfl, hA.tr g1, hB.tr g2⟩
            · exact absurd rfl d3
          · exact absurd rfl d2
        · cases e1
          have k1 := hk rfl
          rcases B with ⟨d3, _⟩ | ⟨_, w8, m8, r8, _, B⟩
          · exact absurd d3 (by decide)
          obtain ⟨z1, z2, z3⟩ := mark_pair hX s1 r160 r8
          rcases z3 with ⟨e1, e2, e3⟩ | ⟨e1, e2, e3⟩
          · cases e1; cases e2
            rcases A with ⟨_, A⟩ | ⟨d2, _⟩
            · rcases B with ⟨_, B⟩ | ⟨d3, _⟩
              · cases A; cases B
                exact Or.inl ⟨rfl, e3, rfl, (hA.tr g1).tr z1.va, (hB.tr g2).tr z2.vb⟩
              · exact absurd rfl d3
            · exact absurd rfl d2
          · cases e1; cases e2
            rcases A with ⟨d2, _⟩ | ⟨_, N', e, A⟩
            · exact absurd d2 (by decide)
            cases e
            rcases B with ⟨d3, _⟩ | ⟨_, M', e, B⟩
            · exact absurd d3 (by decide)
            cases e
            have en : s32 ((n : Int) + 1) = ((n + 1 : Nat) : Int) := by rw [s32_id (by omega) (by omega)]; rfl
            rw [en] at A B
            obtain ⟨k3, r148⟩ := mark_run r160
            have pm := mon_ok hX s1.1.1 r148
            have x1 := f3 (by omega) (by omega)
            have x2 := pr.2 (by omega) (by omega)
            exact ih M' (n + 1) b2 m4 m8 A B e3 ⟨a1 1 3, by omega, pm.1, pm.2⟩ ((hA.tr g1).tr z1.va) ((hB.tr g2).tr z2.vb)
set_option maxRecDepth 16384 in
theorem A297 {X : KO} {ρ : Nat → Int32} {m m' : MM} {rl : List (Nat × Int)} {r v n : Int} (hr : r ≠ 1000050) (hn : m r (-1) = n) (h0 : 0 ≤ n) (hn2 : n < 100000) (h : Run X ρ 297 [(1, r), (1, v)] m rl m') : rl = [] ∧ Fr (fun x k => x = r ∧ 0 ≤ k) m m' ∧ ∀ k, 0 ≤ k → k < n → m' r k = s32 v := by
  refine ⟨Run_v h rfl, ?_⟩
  obtain ⟨N, ig, h⟩ := Run_CR h rfl
  have h : MR X ρ 4 0 0 qP297 N 0 [r, v, 0, 0] [] m (ig, rl, m') := h
  have h := i297_0 h
  rw [if_neg hr, hn, s32_id (z := n) (by omega) (by omega)] at h
  have key : ∀ (N : Nat) (i : Int) (m1 : MM), MR X ρ 4 0 0 qP297 N 5 [r, v, i, n] [] m1 (ig, rl, m') → 0 ≤ i → i ≤ n → Fr (fun x k => x = r ∧ 0 ≤ k) m m1 → (∀ k, 0 ≤ k → k < i → m1 r k = s32 v) → Fr (fun x k => x = r ∧ 0 ≤ k) m m' ∧ ∀ k, 0 ≤ k → k < n → m' r k = s32 v := by
    intro N
    induction N with
    | zero =>
      intro i m1 h h1 h2 hF hk
      rcases i297_5 h with ⟨c, h⟩ | ⟨c, N', e, _⟩
      · cases h
        exact ⟨hF, fun k k1 k2 => hk k k1 (by omega)⟩
      · cases e
    | succ N ih =>
      intro i m1 h h1 h2 hF hk
      rcases i297_5 h with ⟨c, h⟩ | ⟨c, N', e, h⟩
      · cases h
        exact ⟨hF, fun k k1 k2 => hk k k1 (by omega)⟩
      · cases e
        rw [s32_id (z := i + 1) (by omega) (by omega)] at h
        refine ih (i + 1) _ h (by omega) (by omega) (hF.mu ⟨rfl, h1⟩) (fun k k1 k2 => ?_)
        by_cases d : k = i
        · rw [d, mu_s]
        · rw [mu_k d]; exact hk k k1 (by omega)
  exact key N 0 m h (Int.le_refl _) h0 (Fr.rf _ _) (fun k k1 k2 => by omega)
set_option maxRecDepth 16384 in
theorem A68 {X : KO} {ρ : Nat → Int32} {m m' : MM} {rl : List (Nat × Int)} (hl : m 9 4 = 14) (h : Run X ρ 68 [(1, 9)] m rl m') : Fr (fun x k => (x = 14 ∧ 0 ≤ k) ∨ (x = 9 ∧ 5 ≤ k)) m m' ∧ (∀ k, 0 ≤ k → k < 8 → m' 14 k = 0) ∧ m' 9 5 = 0 ∧ m' 9 6 = 0 ∧ m' 9 7 = 0 ∧ m' 9 8 = 0 := by
  obtain ⟨N, ig, h⟩ := Run_CR h rfl
  have h : MR X ρ 2 0 0 qP68 N 0 [9, 0] [] m (ig, rl, m') := h
  have h := i68_0 h
  have z0 : s32 0 = 0 := s32_id (by decide) (by decide)
  have key : ∀ (N : Nat) (i : Int) (m1 : MM), MR X ρ 2 0 0 qP68 N 2 [9, i] [] m1 (ig, rl, m') → 0 ≤ i → i ≤ 8 → Fr (fun x k => (x = 14 ∧ 0 ≤ k) ∨ (x = 9 ∧ 5 ≤ k)) m m1 → (∀ k, 0 ≤ k → k < i → m1 14 k = 0) → Fr (fun x k => (x = 14 ∧ 0 ≤ k) ∨ (x = 9 ∧ 5 ≤ k)) m m' ∧ (∀ k, 0 ≤ k → k < 8 → m' 14 k = 0) ∧ m' 9 5 = 0 ∧ m' 9 6 = 0 ∧ m' 9 7 = 0 ∧ m' 9 8 = 0 := by
    intro N
    have fin : ∀ (i : Int) (m1 : MM), 8 ≤ i → Fr (fun x k => (x = 14 ∧ 0 ≤ k) ∨ (x = 9 ∧ 5 ≤ k)) m m1 → (∀ k, 0 ≤ k → k < i → m1 14 k = 0) → m' = mu (mu (mu (mu m1 9 5 0) 9 6 0) 9 7 0) 9 8 0 → Fr (fun x k => (x = 14 ∧ 0 ≤ k) ∨ (x = 9 ∧ 5 ≤ k)) m m' ∧ (∀ k, 0 ≤ k → k < 8 → m' 14 k = 0) ∧ m' 9 5 = 0 ∧ m' 9 6 = 0 ∧ m' 9 7 = 0 ∧ m' 9 8 = 0 := by
      intro i m1 hi hF hk e
      subst e
      refine ⟨(((hF.mu (Or.inr ⟨rfl, by decide⟩)).mu (Or.inr ⟨rfl, by decide⟩)).mu (Or.inr ⟨rfl, by decide⟩)).mu (Or.inr ⟨rfl, by decide⟩), fun k k1 k2 => ?_, ?_, ?_, ?_, ?_⟩
      · rw [mu_a (by decide), mu_a (by decide), mu_a (by decide), mu_a (by decide)]; exact hk k k1 (by omega)
      · rw [mu_k (by decide), mu_k (by decide), mu_k (by decide), mu_s]
      · rw [mu_k (by decide), mu_k (by decide), mu_s]
      · rw [mu_k (by decide), mu_s]
      · rw [mu_s]
    induction N with
    | zero =>
      intro i m1 h h1 h2 hF hk
      rcases i68_2 h with ⟨c, h⟩ | ⟨c, N', e, _⟩
      · cases h
        exact fin i m1 c hF hk rfl
      · cases e
    | succ N ih =>
      intro i m1 h h1 h2 hF hk
      rcases i68_2 h with ⟨c, h⟩ | ⟨c, N', e, h⟩
      · cases h
        exact fin i m1 c hF hk rfl
      · cases e
        have e14 : m1 9 4 = 14 := by rw [hF 9 4 (by omega)]; exact hl
        rw [s32_id (z := i + 1) (by omega) (by omega), z0, e14] at h
        refine ih (i + 1) _ h (by omega) (by omega) (hF.mu (Or.inl ⟨rfl, h1⟩)) (fun k k1 k2 => ?_)
        by_cases d : k = i
        · rw [d, mu_s]
        · rw [mu_k d]; exact hk k k1 (by omega)
  exact key N 0 m h (Int.le_refl _) (by decide) (Fr.rf _ _) (fun k k1 k2 => by omega)
set_option maxRecDepth 16384 in
/-- the trial's rows -/
def LayT (m : MM) : Prop := m 22 1 = 23 ∧ m 22 2 = 24 ∧ m 22 3 = 25 ∧ m 22 4 = 26 ∧ m 22 5 = 27 ∧ m 22 6 = 28 ∧ m 23 (-1) = 64 ∧ m 24 (-1) = 8 ∧ m 25 (-1) = 8 ∧ m 26 (-1) = 8 ∧ m 27 (-1) = 8 ∧ m 28 (-1) = 24
set_option maxRecDepth 16384 in
def PC (x k : Int) : Prop := (23 ≤ x ∧ x ≤ 28 ∧ 0 ≤ k) ∨ (x = 22 ∧ 7 ≤ k ∧ k ≤ 8)
set_option maxRecDepth 16384 in
theorem A111 {X : KO} {ρ : Nat → Int32} {m m' : MM} {rl : List (Nat × Int)} (hl : LayT m) (h : Run X ρ 111 [(1, 22)] m rl m') : Fr PC m m' ∧ (∀ k, 0 ≤ k → k < 64 → m' 23 k = 0) ∧ (∀ k, 0 ≤ k → k < 8 → m' 24 k = -1 ∧ m' 25 k = 0 ∧ m' 26 k = 0 ∧ m' 27 k = 0) ∧ (∀ k, 0 ≤ k → k < 24 → m' 28 k = -1) ∧ m' 22 7 = 0 ∧ m' 22 8 = 0 := by
  obtain ⟨l1, l2, l3, l4, l5, l6, n1, n2, n3, n4, n5, n6⟩ := hl
  obtain ⟨N, ig, h⟩ := Run_CR h rfl
  have h : MR X ρ 1 0 0 qP111 N 0 [22] [] m (ig, rl, m') := h
  obtain ⟨m2, r2, e⟩ := i111_0 h
  have e := congrArg (fun z => z.2.2) e
  have e : m' = m2 := e
  subst e
  obtain ⟨N, ig, h⟩ := Run_CR r2 rfl
  have h : MR X ρ 1 0 0 qP140 N 0 [22] [] m (ig, [], m') := h
  obtain ⟨w1, r1, w2, r2, w3, r3, w4, r4, w5, r5, w6, r6, e⟩ := i140_0 h
  have e := congrArg (fun z => z.2.2) e
  have e : m' = mu (mu w6 22 7 0) 22 8 0 := e
  have z0 : s32 0 = 0 := s32_id (by decide) (by decide)
  have z1 : s32 (-1) = -1 := s32_id (by decide) (by decide)
  rw [l1] at r1
  obtain ⟨-, F1, v1⟩ := A297 (by decide) n1 (by decide) (by decide) r1
  rw [F1 22 2 (by omega), l2] at r2
  obtain ⟨-, F2, v2⟩ := A297 (n := 8) (by decide) (by rw [F1 24 _ (by omega)]; exact n2) (by decide) (by decide) r2
  rw [F2 22 3 (by omega), F1 22 3 (by omega), l3] at r3
  obtain ⟨-, F3, v3⟩ := A297 (n := 8) (by decide) (by rw [F2 25 _ (by omega), F1 25 _ (by omega)]; exact n3) (by decide) (by decide) r3
  rw [F3 22 4 (by omega), F2 22 4 (by omega), F1 22 4 (by omega), l4] at r4
  obtain ⟨-, F4, v4⟩ := A297 (n := 8) (by decide) (by rw [F3 26 _ (by omega), F2 26 _ (by omega), F1 26 _ (by omega)]; exact n4) (by decide) (by decide) r4
  rw [F4 22 5 (by omega), F3 22 5 (by omega), F2 22 5 (by omega), F1 22 5 (by omega), l5] at r5
  obtain ⟨-, F5, v5⟩ := A297 (n := 8) (by decide) (by rw [F4 27 _ (by omega), F3 27 _ (by omega), F2 27 _ (by omega), F1 27 _ (by omega)]; exact n5) (by decide) (by decide) r5
  rw [F5 22 6 (by omega), F4 22 6 (by omega), F3 22 6 (by omega), F2 22 6 (by omega), F1 22 6 (by omega), l6] at r6
  obtain ⟨-, F6, v6⟩ := A297 (n := 24) (by decide) (by rw [F5 28 _ (by omega), F4 28 _ (by omega), F3 28 _ (by omega), F2 28 _ (by omega), F1 28 _ (by omega)]; exact n6) (by decide) (by decide) r6
  have G : ∀ {x : Int} {m1 m2 : MM}, 23 ≤ x → x ≤ 28 → Fr (fun y k => y = x ∧ 0 ≤ k) m1 m2 → Fr PC m1 m2 := fun h1 h2 hF => hF.mo (fun y k q => Or.inl ⟨by omega, by omega, q.2⟩)
  subst e
  refine ⟨((((((((G (by decide) (by decide) F1).tr (G (by decide) (by decide) F2)).tr (G (by decide) (by decide) F3)).tr (G (by decide) (by decide) F4)).tr (G (by decide) (by decide) F5)).tr (G (by decide) (by decide) F6)).mu (Or.inr ⟨rfl, by decide, by decide⟩)).mu (Or.inr ⟨rfl, by decide, by decide⟩)), fun k k1 k2 => ?_, fun k k1 k2 => ⟨?_, ?_, ?_, ?_⟩, fun k k1 k2 => ?_, ?_, ?_⟩
  · rw [mu_a (by decide), mu_a (by decide), F6 23 _ (by omega), F5 23 _ (by omega), F4 23 _ (by omega), F3 23 _ (by omega), F2 23 _ (by omega), v1 k k1 k2, z0]
  · rw [mu_a (by decide), mu_a (by decide), F6 24 _ (by omega), F5 24 _ (by omega), F4 24 _ (by omega), F3 24 _ (by omega), v2 k k1 k2, z1]
  · rw [mu_a (by decide), mu_a (by decide), F6 25 _ (by omega), F5 25 _ (by omega), F4 25 _ (by omega), v3 k k1 k2, z0]
  · rw [mu_a (by decide), mu_a (by decide), F6 26 _ (by omega), F5 26 _ (by omega), v4 k k1 k2, z0]
  · rw [mu_a (by decide), mu_a (by decide), F6 27 _ (by omega), v5 k k1 k2, z0]
  · rw [mu_a (by decide), mu_a (by decide), v6 k k1 k2, z1]
  · rw [mu_k (by decide), mu_s]
  · rw [mu_s]
