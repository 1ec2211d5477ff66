/-! Rows copied: rosters, standings, sentences; rows filled. -/
set_option maxRecDepth 16384 in
theorem mcp_k {m : MM} {d s n b j : Int} (h : ¬ (b = d ∧ 0 ≤ j ∧ j < n)) : mcp m d s n b j = m b j := if_neg h
set_option maxRecDepth 16384 in
theorem mcp_i {m : MM} {d s n j : Int} (h1 : 0 ≤ j) (h2 : j < n) : mcp m d s n d j = m s j := if_pos ⟨rfl, h1, h2⟩
set_option maxRecDepth 16384 in
theorem Fr.cp {P : Int → Int → Prop} {m m1 : MM} (h : Fr P m m1) {d s n : Int} (hp : ∀ j, 0 ≤ j → j < n → P d j) : Fr P m (mcp m1 d s n) := fun b j hn => by
  rw [mcp_k (fun q => hn (by rw [q.1]; exact hp j q.2.1 q.2.2))]
  exact h b j hn
set_option maxRecDepth 16384 in
/-- a roster's rows lie behind it -/
def LRo (m : MM) (x : Int) : Prop := m x 0 = x + 1 ∧ m x 1 = x + 2 ∧ m x 2 = x + 3 ∧ m x 3 = x + 4 ∧ m x 4 = x + 5
set_option maxRecDepth 16384 in
def PRo (x a k : Int) : Prop := (a = x ∧ 5 ≤ k ∧ k ≤ 8) ∨ (x < a ∧ a ≤ x + 5 ∧ 0 ≤ k ∧ k < 8)
set_option maxRecDepth 16384 in
theorem A67 {X : KO} {ρ : Nat → Int32} {m m' : MM} {rl : List (Nat × Int)} {x y : Int} (hx : LRo m x) (hy : LRo m y) (hd : x + 5 < y ∨ y + 5 < x) (h : Run X ρ 67 [(1, x), (1, y)] m rl m') : rl = [] ∧ Fr (PRo x) m m' ∧ (∀ k, 5 ≤ k → k ≤ 8 → m' x k = m y k) ∧ (∀ i k, 1 ≤ i → i ≤ 5 → 0 ≤ k → k < 8 → m' (x + i) k = m (y + i) k) := by
  obtain ⟨N, ig, h⟩ := Run_CR h rfl
  have h : MR X ρ 2 0 0 qP67 N 0 [x, y] [] m (ig, rl, m') := h
  obtain ⟨y1, e1, y2, e2, y3, e3, y4, e4, y5, e5, y6, e6, y7, e7, y8, e8, y9, e9, h⟩ := q67_0 h
  cases h
  obtain ⟨x0, x1, x2, x3, x4⟩ := hx
  obtain ⟨z0, z1, z2, z3, z4⟩ := hy
  rw [x0, z0] at e1
  have f1 : Fr (fun a k => a = x + 1 ∧ 0 ≤ k ∧ k < 8) m y1 := by rw [e1]; exact (Fr.rf _ _).cp (fun j h1 h2 => ⟨rfl, h1, h2⟩)
  rw [f1 x 1 (by omega), f1 y 1 (by omega), x1, z1] at e2
  have f2 : Fr (fun a k => (a = x + 1 ∨ a = x + 2) ∧ 0 ≤ k ∧ k < 8) m y2 := by rw [e2]; exact (f1.mo (fun a k q => ⟨Or.inl q.1, q.2⟩)).cp (fun j h1 h2 => ⟨Or.inr rfl, h1, h2⟩)
  rw [f2 x 2 (by omega), f2 y 2 (by omega), x2, z2] at e3
  have f3 : Fr (fun a k => (a = x + 1 ∨ a = x + 2 ∨ a = x + 3) ∧ 0 ≤ k ∧ k < 8) m y3 := by rw [e3]; exact (f2.mo (fun a k q => ⟨by omega, q.2⟩)).cp (fun j h1 h2 => ⟨by omega, h1, h2⟩)
  rw [f3 x 3 (by omega), f3 y 3 (by omega), x3, z3] at e4
  have f4 : Fr (fun a k => (a = x + 1 ∨ a = x + 2 ∨ a = x + 3 ∨ a = x + 4) ∧ 0 ≤ k ∧ k < 8) m y4 := by rw [e4]; exact (f3.mo (fun a k q => ⟨by omega, q.2⟩)).cp (fun j h1 h2 => ⟨by omega, h1, h2⟩)
  rw [f4 x 4 (by omega), f4 y 4 (by omega), x4, z4] at e5
  have f5 : Fr (fun a k => (x < a ∧ a ≤ x + 5) ∧ 0 ≤ k ∧ k < 8) m y5 := by rw [e5]; exact (f4.mo (fun a k q => ⟨by omega, q.2⟩)).cp (fun j h1 h2 => ⟨by omega, h1, h2⟩)
  have f9 : Fr (PRo x) m m' := by
    rw [e9, e8, e7, e6]
    exact ((((f5.mo (fun a k q => Or.inr ⟨q.1.1, q.1.2, q.2⟩)).mu (Or.inl ⟨rfl, by omega⟩)).mu (Or.inl ⟨rfl, by omega⟩)).mu (Or.inl ⟨rfl, by omega⟩)).mu (Or.inl ⟨rfl, by omega⟩)
  refine ⟨rfl, f9, fun k k1 k2 => ?_, fun i k i1 i2 k1 k2 => ?_⟩
  · have hyx : y ≠ x := by omega
    have t5 : ∀ j, 5 ≤ j → y5 y j = m y j := fun j hj => f5 y j (by omega)
    rcases (by omega : k = 5 ∨ k = 6 ∨ k = 7 ∨ k = 8) with rfl | rfl | rfl | rfl
    · rw [e9, mu_k (by decide), e8, mu_k (by decide), e7, mu_k (by decide), e6, mu_s]; exact t5 5 (by decide)
    · rw [e9, mu_k (by decide), e8, mu_k (by decide), e7, mu_s, e6, mu_a hyx]; exact t5 6 (by decide)
    · rw [e9, mu_k (by decide), e8, mu_s, e7, mu_a hyx, e6, mu_a hyx]; exact t5 7 (by decide)
    · rw [e9, mu_s, e8, mu_a hyx, e7, mu_a hyx, e6, mu_a hyx]; exact t5 8 (by decide)
  · have g : m' (x + i) k = y5 (x + i) k := by rw [e9, mu_a (by omega), e8, mu_a (by omega), e7, mu_a (by omega), e6, mu_a (by omega)]
    rw [g]
    rcases (by omega : i = 1 ∨ i = 2 ∨ i = 3 ∨ i = 4 ∨ i = 5) with rfl | rfl | rfl | rfl | rfl
    · rw [e5, mcp_k (by omega), e4, mcp_k (by omega), e3, mcp_k (by omega), e2, mcp_k (by omega), e1, mcp_i k1 k2]
    · rw [e5, mcp_k (by omega), e4, mcp_k (by omega), e3, mcp_k (by omega), e2, mcp_i k1 k2]; exact f1 _ _ (by omega)
    · rw [e5, mcp_k (by omega), e4, mcp_k (by omega), e3, mcp_i k1 k2]; exact f2 _ _ (by omega)
    · rw [e5, mcp_k (by omega), e4, mcp_i k1 k2]; exact f3 _ _ (by omega)
    · rw [e5, mcp_i k1 k2]; exact f4 _ _ (by omega)
set_option maxRecDepth 16384 in
/-- a standing's rows lie behind it -/
def LSt (m : MM) (x : Int) : Prop := m x 1 = x + 1 ∧ m x 2 = x + 2 ∧ m x 3 = x + 3 ∧ m x 4 = x + 4 ∧ m x 5 = x + 5 ∧ m x 6 = x + 6
set_option maxRecDepth 16384 in
def PSt (x a k : Int) : Prop := (a = x ∧ 7 ≤ k ∧ k ≤ 8) ∨ (x < a ∧ a ≤ x + 6 ∧ 0 ≤ k ∧ k < 64)
set_option maxRecDepth 16384 in
theorem A113 {X : KO} {ρ : Nat → Int32} {m m' : MM} {rl : List (Nat × Int)} {x y : Int} (hx : LSt m x) (hy : LSt m y) (hd : x + 6 < y ∨ y + 6 < x) (h : Run X ρ 113 [(1, x), (1, y)] m rl m') : rl = [] ∧ Fr (PSt x) m m' ∧ (m' x 7 = m y 7 ∧ m' x 8 = m y 8) ∧ (∀ k, 0 ≤ k → k < 64 → m' (x + 1) k = m (y + 1) k) ∧ (∀ i k, 2 ≤ i → i ≤ 5 → 0 ≤ k → k < 8 → m' (x + i) k = m (y + i) k) ∧ (∀ k, 0 ≤ k → k < 24 → m' (x + 6) k = m (y + 6) k) := by
  obtain ⟨N, ig, h⟩ := Run_CR h rfl
  have h : MR X ρ 2 0 0 qP113 N 0 [x, y] [] m (ig, rl, m') := h
  obtain ⟨y1, e1, y2, e2, y3, e3, y4, e4, y5, e5, y6, e6, y7, e7, y8, e8, h⟩ := q113_0 h
  cases h
  obtain ⟨x1, x2, x3, x4, x5, x6⟩ := hx
  obtain ⟨z1, z2, z3, z4, z5, z6⟩ := hy
  rw [x1, z1] at e1
  have f1 : Fr (fun a k => a = x + 1 ∧ 0 ≤ k ∧ k < 64) m y1 := by rw [e1]; exact (Fr.rf _ _).cp (fun j h1 h2 => ⟨rfl, h1, h2⟩)
  rw [f1 x 2 (by omega), f1 y 2 (by omega), x2, z2] at e2
  have f2 : Fr (fun a k => (a = x + 1 ∨ a = x + 2) ∧ 0 ≤ k ∧ k < 64) m y2 := by rw [e2]; exact (f1.mo (fun a k q => ⟨Or.inl q.1, q.2⟩)).cp (fun j h1 h2 => ⟨Or.inr rfl, h1, by omega⟩)
  rw [f2 x 3 (by omega), f2 y 3 (by omega), x3, z3] at e3
  have f3 : Fr (fun a k => (a = x + 1 ∨ a = x + 2 ∨ a = x + 3) ∧ 0 ≤ k ∧ k < 64) m y3 := by rw [e3]; exact (f2.mo (fun a k q => ⟨by omega, q.2⟩)).cp (fun j h1 h2 => ⟨by omega, h1, by omega⟩)
  rw [f3 x 4 (by omega), f3 y 4 (by omega), x4, z4] at e4
  have f4 : Fr (fun a k => (a = x + 1 ∨ a = x + 2 ∨ a = x + 3 ∨ a = x + 4) ∧ 0 ≤ k ∧ k < 64) m y4 := by rw [e4]; exact (f3.mo (fun a k q => ⟨by omega, q.2⟩)).cp (fun j h1 h2 => ⟨by omega, h1, by omega⟩)
  rw [f4 x 5 (by omega), f4 y 5 (by omega), x5, z5] at e5
  have f5 : Fr (fun a k => (x < a ∧ a ≤ x + 5) ∧ 0 ≤ k ∧ k < 64) m y5 := by rw [e5]; exact (f4.mo (fun a k q => ⟨by omega, q.2⟩)).cp (fun j h1 h2 => ⟨by omega, h1, by omega⟩)
  rw [f5 x 6 (by omega), f5 y 6 (by omega), x6, z6] at e6
  have f6 : Fr (fun a k => (x < a ∧ a ≤ x + 6) ∧ 0 ≤ k ∧ k < 64) m y6 := by rw [e6]; exact (f5.mo (fun a k q => ⟨by omega, q.2⟩)).cp (fun j h1 h2 => ⟨by omega, h1, by omega⟩)
  have f8 : Fr (PSt x) m m' := by
    rw [e8, e7]
    exact ((f6.mo (fun a k q => Or.inr ⟨q.1.1, q.1.2, q.2⟩)).mu (Or.inl ⟨rfl, by omega⟩)).mu (Or.inl ⟨rfl, by omega⟩)
  have hyx : y ≠ x := by omega
  have g : ∀ i k, 1 ≤ i → m' (x + i) k = y6 (x + i) k := fun i k hi => by rw [e8, mu_a (by omega), e7, mu_a (by omega)]
  refine ⟨rfl, f8, ⟨?_, ?_⟩, fun k k1 k2 => ?_, fun i k i1 i2 k1 k2 => ?_, fun k k1 k2 => ?_⟩
  · rw [e8, mu_k (by decide), e7, mu_s]; exact f6 y 7 (by omega)
  · rw [e8, mu_s, e7, mu_a hyx]; exact f6 y 8 (by omega)
  · rw [g 1 k (by omega), e6, mcp_k (by omega), e5, mcp_k (by omega), e4, mcp_k (by omega), e3, mcp_k (by omega), e2, mcp_k (by omega), e1, mcp_i k1 k2]
  · rw [g i k (by omega), e6, mcp_k (by omega)]
    rcases (by omega : i = 2 ∨ i = 3 ∨ i = 4 ∨ i = 5) with rfl | rfl | rfl | rfl
    · rw [e5, mcp_k (by omega), e4, mcp_k (by omega), e3, mcp_k (by omega), e2, mcp_i k1 k2]; exact f1 _ _ (by omega)
    · rw [e5, mcp_k (by omega), e4, mcp_k (by omega), e3, mcp_i k1 k2]; exact f2 _ _ (by omega)
    · rw [e5, mcp_k (by omega), e4, mcp_i k1 k2]; exact f3 _ _ (by omega)
    · rw [e5, mcp_i k1 k2]; exact f4 _ _ (by omega)
  · rw [g 6 k (by omega), e6, mcp_i k1 k2]; exact f5 _ _ (by omega)
set_option maxRecDepth 16384 in
/-- a sentence's rows lie behind it -/
def LSe (m : MM) (x : Int) : Prop := m x 0 = x + 1 ∧ m x 1 = x + 2 ∧ m x 2 = x + 3
set_option maxRecDepth 16384 in
def PSe (x a k : Int) : Prop := (a = x ∧ 4 ≤ k ∧ k ≤ 5) ∨ (x < a ∧ a ≤ x + 3 ∧ 0 ≤ k ∧ k < 40)
set_option maxRecDepth 16384 in
theorem A88 {X : KO} {ρ : Nat → Int32} {m m' : MM} {rl : List (Nat × Int)} {x y : Int} (hx : LSe m x) (hy : LSe m y) (hd : x + 3 < y ∨ y + 3 < x) (h : Run X ρ 88 [(1, x), (1, y)] m rl m') : rl = [] ∧ Fr (PSe x) m m' ∧ (m' x 4 = m y 4 ∧ m' x 5 = m y 5) ∧ (∀ i k, 1 ≤ i → i ≤ 3 → 0 ≤ k → k < 40 → m' (x + i) k = m (y + i) k) := by
  obtain ⟨N, ig, h⟩ := Run_CR h rfl
  have h : MR X ρ 2 0 0 qP88 N 0 [x, y] [] m (ig, rl, m') := h
  obtain ⟨y1, e1, y2, e2, y3, e3, y4, e4, y5, e5, h⟩ := q88_0 h
  cases h
  obtain ⟨x0, x1, x2⟩ := hx
  obtain ⟨z0, z1, z2⟩ := hy
  rw [x0, z0] at e1
  have f1 : Fr (fun a k => a = x + 1 ∧ 0 ≤ k ∧ k < 40) m y1 := by rw [e1]; exact (Fr.rf _ _).cp (fun j h1 h2 => ⟨rfl, h1, h2⟩)
  rw [f1 x 1 (by omega), f1 y 1 (by omega), x1, z1] at e2
  have f2 : Fr (fun a k => (a = x + 1 ∨ a = x + 2) ∧ 0 ≤ k ∧ k < 40) m y2 := by rw [e2]; exact (f1.mo (fun a k q => ⟨Or.inl q.1, q.2⟩)).cp (fun j h1 h2 => ⟨Or.inr rfl, h1, h2⟩)
  rw [f2 x 2 (by omega), f2 y 2 (by omega), x2, z2] at e3
  have f3 : Fr (fun a k => (x < a ∧ a ≤ x + 3) ∧ 0 ≤ k ∧ k < 40) m y3 := by rw [e3]; exact (f2.mo (fun a k q => ⟨by omega, q.2⟩)).cp (fun j h1 h2 => ⟨by omega, h1, h2⟩)
  have hyx : y ≠ x := by omega
  have g : ∀ i k, 1 ≤ i → m' (x + i) k = y3 (x + i) k := fun i k hi => by rw [e5, mu_a (by omega), e4, mu_a (by omega)]
  refine ⟨rfl, ?_, ⟨?_, ?_⟩, fun i k i1 i2 k1 k2 => ?_⟩
  · rw [e5, e4]
    exact ((f3.mo (fun a k q => Or.inr ⟨q.1.1, q.1.2, q.2⟩)).mu (Or.inl ⟨rfl, by omega⟩)).mu (Or.inl ⟨rfl, by omega⟩)
  · rw [e5, mu_k (by decide), e4, mu_s]; exact f3 y 4 (by omega)
  · rw [e5, mu_s, e4, mu_a hyx]; exact f3 y 5 (by omega)
  · rw [g i k (by omega)]
    rcases (by omega : i = 1 ∨ i = 2 ∨ i = 3) with rfl | rfl | rfl
    · rw [e3, mcp_k (by omega), e2, mcp_k (by omega), e1, mcp_i k1 k2]
    · rw [e3, mcp_k (by omega), e2, mcp_i k1 k2]; exact f1 _ _ (by omega)
    · rw [e3, mcp_i k1 k2]; exact f2 _ _ (by omega)
/-! a row filled by a loop -/
set_option maxRecDepth 16384 in
def fm (m : MM) (d lo hi : Int) (v : Int → Int) : MM := fun b j => if b = d ∧ lo ≤ j ∧ j < hi then v j else m b j
set_option maxRecDepth 16384 in
theorem fm_0 (m : MM) (d lo : Int) (v : Int → Int) : fm m d lo lo v = m := by
  funext b j
  exact if_neg (by omega)
set_option maxRecDepth 16384 in
theorem fm_n {m : MM} {d lo hi b j : Int} {v : Int → Int} (h : b ≠ d) : fm m d lo hi v b j = m b j := if_neg (fun q => h q.1)
set_option maxRecDepth 16384 in
theorem fm_i {m : MM} {d lo hi j : Int} {v : Int → Int} (h1 : lo ≤ j) (h2 : j < hi) : fm m d lo hi v d j = v j := if_pos ⟨rfl, h1, h2⟩
set_option maxRecDepth 16384 in
theorem fm_o {m : MM} {d lo hi b j : Int} {v : Int → Int} (h : j < lo ∨ hi ≤ j) : fm m d lo hi v b j = m b j := if_neg (by omega)
set_option maxRecDepth 16384 in
theorem fm_s {m : MM} {d lo hi : Int} {v : Int → Int} (h : lo ≤ hi) : mu (fm m d lo hi v) d hi (v hi) = fm m d lo (hi + 1) v := by
  funext b j
  by_cases c : b = d ∧ j = hi
  · rw [c.1, c.2, mu_s, fm_i h (by omega)]
  · have e : mu (fm m d lo hi v) d hi (v hi) b j = fm m d lo hi v b j := if_neg c
    rw [e]
    by_cases q : b = d ∧ lo ≤ j ∧ j < hi
    · rw [q.1, fm_i q.2.1 q.2.2, fm_i q.2.1 (by omega)]
    · have e1 : fm m d lo hi v b j = m b j := if_neg q
      have e2 : fm m d lo (hi + 1) v b j = m b j := if_neg (by omega)
      rw [e1, e2]
set_option maxRecDepth 16384 in
theorem Fr.fl {P : Int → Int → Prop} {m m1 : MM} (h : Fr P m m1) {d lo hi : Int} {v : Int → Int} (hp : ∀ j, lo ≤ j → j < hi → P d j) : Fr P m (fm m1 d lo hi v) := fun b j hn => by
  have : fm m1 d lo hi v b j = m1 b j := if_neg (fun q => hn (by rw [q.1]; exact hp j q.2.1 q.2.2))
  rw [this]
  exact h b j hn
set_option maxRecDepth 16384 in
theorem Lp_fill {f : Int × MM → (Int × MM) ⊕ (Nat × Int × (Int × MM))} {i0 n base d : Int} {m : MM} {v : Int → Int} {t : Nat} (h : i0 ≤ n) (step : ∀ i, i0 ≤ i → i < n → f (i, fm m d (base + i0) (base + i) v) = .inl (i + 1, mu (fm m d (base + i0) (base + i) v) d (base + i) (v (base + i)))) (stop : f (n, fm m d (base + i0) (base + n) v) = .inr (t, 0, (n, fm m d (base + i0) (base + n) v))) : Lp f (i0, m) = (t, 0, (n, fm m d (base + i0) (base + n) v)) := by
  have key := Lp_ind (f := f) (P := fun s => ∃ i, i0 ≤ i ∧ i ≤ n ∧ s = (i, fm m d (base + i0) (base + i) v)) (Q := fun z => z = (t, 0, (n, fm m d (base + i0) (base + n) v))) (fun s => (n - s.1).toNat) (fun s hs => by
    obtain ⟨i, h1, h2, rfl⟩ := hs
    by_cases c : i < n
    · refine Or.inl ⟨_, step i h1 c, ⟨i + 1, by omega, by omega, ?_⟩, ?_⟩
      · rw [fm_s (by omega), Int.add_assoc]
      · show (n - (i + 1)).toNat < (n - i).toNat
        omega
    · have : i = n := by omega
      subst this
      exact Or.inr ⟨_, stop, rfl⟩)
  refine key (i0, m) ⟨i0, Int.le_refl _, h, ?_⟩
  rw [fm_0]
