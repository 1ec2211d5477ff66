/-! The rosters that both read. -/
set_option maxRecDepth 16384 in
def LayA (a : MM) : Prop := a 9 0 = 10 ∧ a 9 1 = 11 ∧ a 9 2 = 12 ∧ a 9 3 = 13 ∧ a 9 4 = 14 ∧ a 22 1 = 23
set_option maxRecDepth 16384 in
def LayB (b : MM) : Prop := b 148 15 = 151 ∧ b 148 20 = 156
set_option maxRecDepth 16384 in
def CntR (a b : MM) : Prop := a 9 6 = b 151 0 ∧ 0 ≤ a 9 6 ∧ a 9 6 ≤ 8 ∧ a 9 7 = b 151 1 ∧ 0 ≤ a 9 7 ∧ a 9 7 ≤ 8
set_option maxRecDepth 16384 in
def NamR (a b : MM) : Prop := (∀ k, 0 ≤ k → k < a 9 6 → NRel (a 10 k) (b 156 k)) ∧ (∀ k, 0 ≤ k → k < a 9 7 → NRel (a 11 k) (b 156 (8 + k)))
set_option maxRecDepth 16384 in
def GruR (a b : MM) : Prop := ∀ k, 0 ≤ k → k < 64 → a 23 k = b 151 (12 + k) ∧ 0 ≤ a 23 k ∧ a 23 k ≤ 9 ∧ (k % 9 = 0 → a 23 k = 0)
set_option maxRecDepth 16384 in
def ShyR (a b : MM) : Prop := ∀ k, 0 ≤ k → k < 8 → a 14 k = b 151 (4 + k)
set_option maxRecDepth 16384 in
def FrmR (a b : MM) : Prop := ∀ k, 0 ≤ k → k < a 9 7 → a 12 k = b 151 (76 + k) ∧ a 13 k = b 151 (84 + k) ∧ 0 ≤ a 12 k ∧ a 12 k < 8 ∧ 1 ≤ a 13 k ∧ a 13 k ≤ 9
set_option maxRecDepth 16384 in
def RulR (a b : MM) : Prop := a 9 5 = b 148 24 ∧ a 9 8 = b 151 2 ∧ a 22 7 = b 151 3 ∧ (a 9 5 = 0 ∨ a 9 5 = 1)
set_option maxRecDepth 16384 in
def RR (a b : MM) : Prop := LayA a ∧ LayB b ∧ CntR a b ∧ NamR a b ∧ GruR a b ∧ ShyR a b ∧ FrmR a b ∧ RulR a b
set_option maxRecDepth 16384 in
/-- the places that tokens and faults are kept in -/
def PT (a k : Int) : Prop := a = 1 ∧ 3 ≤ k
set_option maxRecDepth 16384 in
def PM (a k : Int) : Prop := a = 148 ∧ 5 ≤ k ∧ k ≤ 13
set_option maxRecDepth 16384 in
theorem P148_PT (a k : Int) (h : P148 a k) : PT a k := ⟨h.1, h.2.1⟩
set_option maxRecDepth 16384 in
theorem P195_PM (a k : Int) (h : P195 a k) : PM a k := ⟨h.1, by have := h.2; omega, by have := h.2; omega⟩
set_option maxRecDepth 16384 in
theorem RR_fr {a a' b b' : MM} (h : RR a b) (ha : Fr PT a a') (hb : Fr PM b b') : RR a' b' := by
  obtain ⟨⟨l1, l2, l3, l4, l5, l6⟩, ⟨l7, l8⟩, ⟨c1, c2, c3, c4, c5, c6⟩, ⟨n1, n2⟩, hg, hs, hf, ⟨r1, r2, r3, r4⟩⟩ := h
  have ea : ∀ x k, x ≠ 1 → a' x k = a x k := fun x k hx => ha x k (fun q => hx q.1)
  have eb : ∀ x k, x ≠ 148 → b' x k = b x k := fun x k hx => hb x k (fun q => hx q.1)
  have eb2 : ∀ k, 13 < k → b' 148 k = b 148 k := fun k hk => hb 148 k (fun q => by have := q.2.2; omega)
  have e96 := ea 9 6 (by decide)
  have e97 := ea 9 7 (by decide)
  refine ⟨⟨by rw [ea _ _ (by decide)]; exact l1, by rw [ea _ _ (by decide)]; exact l2, by rw [ea _ _ (by decide)]; exact l3, by rw [ea _ _ (by decide)]; exact l4, by rw [ea _ _ (by decide)]; exact l5, by rw [ea _ _ (by decide)]; exact l6⟩, ⟨by rw [eb2 _ (by decide)]; exact l7, by rw [eb2 _ (by decide)]; exact l8⟩, ⟨?_, ?_, ?_, ?_, ?_, ?_⟩, ⟨fun k k1 k2 => ?_, fun k k1 k2 => ?_⟩, fun k k1 k2 => ?_, fun k k1 k2 => ?_, fun k k1 k2 => ?_, ⟨?_, ?_, ?_, ?_⟩⟩
  · rw [e96, eb _ _ (by decide)]; exact c1
  · rw [e96]; exact c2
  · rw [e96]; exact c3
  · rw [e97, eb _ _ (by decide)]; exact c4
  · rw [e97]; exact c5
  · rw [e97]; exact c6
  · rw [e96] at k2; rw [ea _ _ (by decide), eb _ _ (by decide)]; exact n1 k k1 k2
  · rw [e97] at k2; rw [ea _ _ (by decide), eb _ _ (by decide)]; exact n2 k k1 k2
  · rw [ea _ _ (by decide), eb _ _ (by decide)]; exact hg k k1 k2
  · rw [ea _ _ (by decide), eb _ _ (by decide)]; exact hs k k1 k2
  · rw [e97] at k2; rw [ea _ _ (by decide), ea _ _ (by decide), eb _ _ (by decide), eb _ _ (by decide)]; exact hf k k1 k2
  · rw [ea _ _ (by decide), eb2 _ (by decide)]; exact r1
  · rw [ea _ _ (by decide), eb _ _ (by decide)]; exact r2
  · rw [ea _ _ (by decide), eb _ _ (by decide)]; exact r3
  · rw [ea _ _ (by decide)]; exact r4
set_option maxRecDepth 16384 in
/-- a name looked up in a row of the class: the first place, or -1 -/
def Fnd (u : Int → Int) (n : Int) (x v : Int) : Prop := (v = -1 ∧ ∀ k, 0 ≤ k → k < n → u k ≠ x) ∨ (0 ≤ v ∧ v < n ∧ u v = x ∧ ∀ k, 0 ≤ k → k < v → u k ≠ x)
set_option maxRecDepth 16384 in
theorem Fnd_u {u u' : Int → Int} {n x x' v v' : Int} (hr : ∀ k, 0 ≤ k → k < n → (u k = x ↔ u' k = x')) (h : Fnd u n x v) (h' : Fnd u' n x' v') : v = v' := by
  rcases h with ⟨h1, h2⟩ | ⟨h1, h2, h3, h4⟩
  · rcases h' with ⟨g1, g2⟩ | ⟨g1, g2, g3, g4⟩
    · omega
    · exact absurd ((hr v' g1 g2).mpr g3) (h2 v' g1 g2)
  · rcases h' with ⟨g1, g2⟩ | ⟨g1, g2, g3, g4⟩
    · exact absurd ((hr v h1 h2).mp h3) (g2 v h1 h2)
    · rcases Int.lt_trichotomy v v' with c | c | c
      · exact absurd ((hr v h1 h2).mp h3) (g4 v h1 c)
      · exact c
      · exact absurd ((hr v' g1 g2).mpr g3) (h4 v' g1 c)
set_option maxRecDepth 16384 in
theorem cmp0 {x y : Int} : (if y < x then (1 : Int) else if x = y then 0 else -1) = 0 ↔ x = y := by
  by_cases h : y < x
  · rw [if_pos h]
    constructor
    · intro q; exact absurd q (by decide)
    · intro q; omega
  · rw [if_neg h]
    by_cases h2 : x = y
    · rw [if_pos h2]; exact ⟨fun _ => h2, fun _ => rfl⟩
    · rw [if_neg h2]
      constructor
      · intro q; exact absurd q (by decide)
      · intro q; exact absurd q h2
set_option maxRecDepth 16384 in
theorem A75 {X : KO} {ρ : Nat → Int32} {m m' : MM} {rl : List (Nat × Int)} {a0 x : Int} (h0 : 0 ≤ m a0 6) (h8 : m a0 6 ≤ 8) (h : Run X ρ 75 [(1, a0), (2, x)] m rl m') : m' = m ∧ ∃ v, rl = [(1, v)] ∧ Fnd (fun k => m (m a0 0) k) (m a0 6) x v := by
  obtain ⟨N, ig, h⟩ := Run_CR h rfl
  have h : MR X ρ 4 0 0 qP75 N 0 [a0, x, 0, 0] [] m (ig, rl, m') := h
  have h := i75_0 h
  have key : ∀ (N : Nat) (i : Int), MR X ρ 4 0 0 qP75 N 2 [a0, x, 0, i] [] m (ig, rl, m') → 0 ≤ i → i ≤ m a0 6 → (∀ k, 0 ≤ k → k < i → m (m a0 0) k ≠ x) → m' = m ∧ ∃ v, rl = [(1, v)] ∧ Fnd (fun k => m (m a0 0) k) (m a0 6) x v := by
    intro N
    induction N with
    | zero =>
      intro i h hi hi2 hk
      rcases i75_2 h with ⟨c, h⟩ | ⟨c, h⟩
      · cases h
        exact ⟨rfl, -1, rfl, Or.inl ⟨rfl, fun k k1 k2 => hk k k1 (by omega)⟩⟩
      rcases h with ⟨c2, _⟩ | ⟨c2, h⟩
      · omega
      rcases h with ⟨c3, h⟩ | ⟨c3, N', e, _⟩
      · cases h
        exact ⟨rfl, i, rfl, Or.inr ⟨hi, by omega, cmp0.mp c3, hk⟩⟩
      · cases e
    | succ N ih =>
      intro i h hi hi2 hk
      rcases i75_2 h with ⟨c, h⟩ | ⟨c, h⟩
      · cases h
        exact ⟨rfl, -1, rfl, Or.inl ⟨rfl, fun k k1 k2 => hk k k1 (by omega)⟩⟩
      rcases h with ⟨c2, _⟩ | ⟨c2, h⟩
      · omega
      rcases h with ⟨c3, h⟩ | ⟨c3, N', e, h⟩
      · cases h
        exact ⟨rfl, i, rfl, Or.inr ⟨hi, by omega, cmp0.mp c3, hk⟩⟩
      · cases e
        rw [s32_id (z := i + 1) (by omega) (by omega)] at h
        refine ih (i + 1) h (by omega) (by omega) (fun k k1 k2 => ?_)
        by_cases d : k = i
        · rw [d]; exact fun q => c3 (cmp0.mpr q)
        · exact hk k k1 (by omega)
  exact key N 0 h (Int.le_refl _) h0 (fun k k1 k2 => by omega)
set_option maxRecDepth 16384 in
theorem A70 {X : KO} {ρ : Nat → Int32} {m m' : MM} {rl : List (Nat × Int)} {a0 x : Int} (h0 : 0 ≤ m a0 7) (h8 : m a0 7 ≤ 8) (h : Run X ρ 70 [(1, a0), (2, x)] m rl m') : m' = m ∧ ∃ v, rl = [(1, v)] ∧ Fnd (fun k => m (m a0 1) k) (m a0 7) x v := by
  obtain ⟨N, ig, h⟩ := Run_CR h rfl
  have h : MR X ρ 4 0 0 qP70 N 0 [a0, x, 0, 0] [] m (ig, rl, m') := h
  have h := i70_0 h
  have key : ∀ (N : Nat) (i : Int), MR X ρ 4 0 0 qP70 N 2 [a0, x, 0, i] [] m (ig, rl, m') → 0 ≤ i → i ≤ m a0 7 → (∀ k, 0 ≤ k → k < i → m (m a0 1) k ≠ x) → m' = m ∧ ∃ v, rl = [(1, v)] ∧ Fnd (fun k => m (m a0 1) k) (m a0 7) x v := by
    intro N
    induction N with
    | zero =>
      intro i h hi hi2 hk
      rcases i70_2 h with ⟨c, h⟩ | ⟨c, h⟩
      · cases h
        exact ⟨rfl, -1, rfl, Or.inl ⟨rfl, fun k k1 k2 => hk k k1 (by omega)⟩⟩
      rcases h with ⟨c2, _⟩ | ⟨c2, h⟩
      · omega
      rcases h with ⟨c3, h⟩ | ⟨c3, N', e, _⟩
      · cases h
        exact ⟨rfl, i, rfl, Or.inr ⟨hi, by omega, cmp0.mp c3, hk⟩⟩
      · cases e
    | succ N ih =>
      intro i h hi hi2 hk
      rcases i70_2 h with ⟨c, h⟩ | ⟨c, h⟩
      · cases h
        exact ⟨rfl, -1, rfl, Or.inl ⟨rfl, fun k k1 k2 => hk k k1 (by omega)⟩⟩
      rcases h with ⟨c2, _⟩ | ⟨c2, h⟩
      · omega
      rcases h with ⟨c3, h⟩ | ⟨c3, N', e, h⟩
      · cases h
        exact ⟨rfl, i, rfl, Or.inr ⟨hi, by omega, cmp0.mp c3, hk⟩⟩
      · cases e
        rw [s32_id (z := i + 1) (by omega) (by omega)] at h
        refine ih (i + 1) h (by omega) (by omega) (fun k k1 k2 => ?_)
        by_cases d : k = i
        · rw [d]; exact fun q => c3 (cmp0.mpr q)
        · exact hk k k1 (by omega)
  exact key N 0 h (Int.le_refl _) h0 (fun k k1 k2 => by omega)
set_option maxRecDepth 16384 in
theorem B190 {X : KO} {ρ : Nat → Int32} {m m' : MM} {rl : List (Nat × Int)} {r base n x : Int} (hb : 0 ≤ base) (hb2 : base ≤ 8) (h0 : 0 ≤ n) (h8 : n ≤ 8) (h : Run X ρ 190 [(1, r), (1, base), (1, n), (2, x)] m rl m') : m' = m ∧ ∃ v, rl = [(1, v)] ∧ Fnd (fun k => m r (base + k)) n x v := by
  obtain ⟨N, ig, h⟩ := Run_CR h rfl
  have h : MR X ρ 6 0 0 qP190 N 0 [r, base, n, x, 0, 0] [] m (ig, rl, m') := h
  have h := i190_0 h
  have key : ∀ (N : Nat) (i : Int), MR X ρ 6 0 0 qP190 N 3 [r, base, n, x, 0, i] [] m (ig, rl, m') → 0 ≤ i → i ≤ n → (∀ k, 0 ≤ k → k < i → m r (base + k) ≠ x) → m' = m ∧ ∃ v, rl = [(1, v)] ∧ Fnd (fun k => m r (base + k)) n x v := by
    intro N
    induction N with
    | zero =>
      intro i h hi hi2 hk
      rcases i190_3 h with ⟨c, h⟩ | ⟨c, h⟩
      · cases h
        exact ⟨rfl, -1, rfl, Or.inl ⟨rfl, fun k k1 k2 => hk k k1 (by omega)⟩⟩
      rw [s32_id (z := base + i) (by omega) (by omega)] at h
      rcases h with ⟨c3, h⟩ | ⟨c3, N', e, _⟩
      · cases h
        exact ⟨rfl, i, rfl, Or.inr ⟨hi, by omega, cmp0.mp c3, hk⟩⟩
      · cases e
    | succ N ih =>
      intro i h hi hi2 hk
      rcases i190_3 h with ⟨c, h⟩ | ⟨c, h⟩
      · cases h
        exact ⟨rfl, -1, rfl, Or.inl ⟨rfl, fun k k1 k2 => hk k k1 (by omega)⟩⟩
      rw [s32_id (z := base + i) (by omega) (by omega)] at h
      rcases h with ⟨c3, h⟩ | ⟨c3, N', e, h⟩
      · cases h
        exact ⟨rfl, i, rfl, Or.inr ⟨hi, by omega, cmp0.mp c3, hk⟩⟩
      · cases e
        rw [s32_id (z := i + 1) (by omega) (by omega)] at h
        refine ih (i + 1) h (by omega) (by omega) (fun k k1 k2 => ?_)
        by_cases d : k = i
        · rw [d]; exact fun q => c3 (cmp0.mpr q)
        · exact hk k k1 (by omega)
  exact key N 0 h (Int.le_refl _) h0 (fun k k1 k2 => by omega)
set_option maxRecDepth 16384 in
/-- a person's name looked up on both sides -/
theorem person_ok {a b : MM} (h : RR a b) {x y v v' : Int} (hN : NRel x y) (h1 : Fnd (fun k => a (a 9 0) k) (a 9 6) x v) (h2 : Fnd (fun k => b (b 148 20) (0 + k)) (b (b 148 15) 0) y v') : v = v' ∧ (v = -1 ∨ (0 ≤ v ∧ v < a 9 6)) := by
  obtain ⟨⟨l1, -⟩, ⟨l7, l8⟩, ⟨c1, -⟩, ⟨n1, -⟩, -⟩ := h
  rw [l7, l8] at h2
  rw [l1] at h1
  rw [← c1] at h2
  refine ⟨Fnd_u (fun k k1 k2 => ?_) h1 h2, ?_⟩
  · rw [Int.zero_add]
    exact NRel_iff (n1 k k1 k2) hN
  · rcases h1 with ⟨e, _⟩ | ⟨e1, e2, _⟩
    · exact Or.inl e
    · exact Or.inr ⟨e1, e2⟩
set_option maxRecDepth 16384 in
theorem form_ok {a b : MM} (h : RR a b) {x y v v' : Int} (hN : NRel x y) (h1 : Fnd (fun k => a (a 9 1) k) (a 9 7) x v) (h2 : Fnd (fun k => b (b 148 20) (8 + k)) (b (b 148 15) 1) y v') : v = v' ∧ (v = -1 ∨ (0 ≤ v ∧ v < a 9 7)) := by
  obtain ⟨⟨-, l1, -⟩, ⟨l7, l8⟩, ⟨-, -, -, c1, -⟩, ⟨-, n1⟩, -⟩ := h
  rw [l7, l8] at h2
  rw [l1] at h1
  rw [← c1] at h2
  refine ⟨Fnd_u (fun k k1 k2 => NRel_iff (n1 k k1 k2) hN) h1 h2, ?_⟩
  rcases h1 with ⟨e, _⟩ | ⟨e1, e2, _⟩
  · exact Or.inl e
  · exact Or.inr ⟨e1, e2⟩
set_option maxRecDepth 16384 in
/-- both stopped at the same fault -/
def FL (a b : MM) : Prop := a 1 9 = b 148 10 ∧ a 1 10 = b 148 11 ∧ a 1 9 ≠ 0
set_option maxRecDepth 16384 in
theorem bad_ok {X : KO} {a b : MM} (h : TKR X a b) {k : Int} (hk : k ≠ 0) (h4 : k = 1 ∨ a 1 4 ≠ 4) : FL (g158 a 1 k) (g168 b 148 k) := by
  obtain ⟨h1, h2, h3⟩ := h
  have e1 : (g158 a 1 k) 1 9 = k := by unfold g158; rw [mu_k (by decide), mu_s]
  have e2 : (g158 a 1 k) 1 10 = a 1 5 := by unfold g158; rw [mu_s, mu_k (by decide)]
  have e3 : (g168 b 148 k) 148 10 = k := by
    unfold g168
    by_cases c : b 148 7 = 1
    · rw [if_pos c, mu_k (by decide), mu_s]
      rcases h4 with e | e
      · exact e.symm
      · exfalso
        rcases h3 with q | q | q | q | q
        · exact e q.1
        · have := q.2; omega
        · have := q.2.1; omega
        · have := q.2.1; omega
        · have := q.2.1; omega
    · rw [if_neg c, mu_k (by decide), mu_s]
  have e4 : (g168 b 148 k) 148 11 = b 148 6 := by
    unfold g168
    by_cases c : b 148 7 = 1
    · rw [if_pos c, mu_s, mu_k (by decide)]
    · rw [if_neg c, mu_s, mu_k (by decide)]
  exact ⟨e1.trans e3.symm, by rw [e2, e4]; exact h1, by rw [e1]; exact hk⟩
set_option maxRecDepth 16384 in
theorem f168_0 (b : MM) (k : Int) : f168 b 148 k = 0 := by
  unfold f168
  split <;> rfl
set_option maxRecDepth 16384 in
theorem Fr_158 (a : MM) (k : Int) : Fr PT a (g158 a 1 k) := ((Fr.rf _ _).mu ⟨rfl, by decide⟩).mu ⟨rfl, by decide⟩
set_option maxRecDepth 16384 in
theorem Fr_168 (b : MM) (k : Int) : Fr PM b (g168 b 148 k) := by
  unfold g168
  split
  · exact ((Fr.rf _ _).mu ⟨rfl, by decide, by decide⟩).mu ⟨rfl, by decide, by decide⟩
  · exact ((Fr.rf _ _).mu ⟨rfl, by decide, by decide⟩).mu ⟨rfl, by decide, by decide⟩
