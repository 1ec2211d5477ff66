/-! Copies as functions; copies of what is so; acts to be undone. -/
set_option maxRecDepth 16384 in
theorem c67 {m : MM} {x y : Int} (hx : LRo m x) (hy : LRo m y) (hd : x + 5 < y ∨ y + 5 < x) : Fr (PRo x) m (g67 m x y) ∧ (∀ k, 5 ≤ k → k ≤ 8 → (g67 m x y) x k = m y k) ∧ (∀ i k, 1 ≤ i → i ≤ 5 → 0 ≤ k → k < 8 → (g67 m x y) (x + i) k = m (y + i) k) := by
  have h : (∃ y1, y1 = mcp m (m x 0) (m y 0) 8 ∧ (∃ y2, y2 = mcp y1 (y1 x 1) (y1 y 1) 8 ∧ (∃ y3, y3 = mcp y2 (y2 x 2) (y2 y 2) 8 ∧ (∃ y4, y4 = mcp y3 (y3 x 3) (y3 y 3) 8 ∧ (∃ y5, y5 = mcp y4 (y4 x 4) (y4 y 4) 8 ∧ (∃ y6, y6 = mu y5 x 5 (y5 y 5) ∧ (∃ y7, y7 = mu y6 x 6 (y6 y 6) ∧ (∃ y8, y8 = mu y7 x 7 (y7 y 7) ∧ (∃ y9, y9 = mu y8 x 8 (y8 y 8) ∧ (g67 m x y = y9)))))))))) := ⟨_, rfl, _, rfl, _, rfl, _, rfl, _, rfl, _, rfl, _, rfl, _, rfl, _, rfl, rfl⟩
  obtain ⟨y1, e1, y2, e2, y3, e3, y4, e4, y5, e5, y6, e6, y7, e7, y8, e8, m', e9, hm⟩ := h
  rw [hm]
  obtain ⟨x0, x1, x2, x3, x4⟩ := hx
  obtain ⟨z0, z1, z2, z3, z4⟩ := hy
  rw [x0, z0] at e1
  have f1 : Fr (fun a k => a = x + 1 ∧ 0 ≤ k ∧ k < 8) m y1 := by rw [e1]; exact (Fr.rf _ _).cp (fun j h1 h2 => ⟨rfl, h1, h2⟩)
  rw [f1 x 1 (by omega), f1 y 1 (by omega), x1, z1] at e2
  have f2 : Fr (fun a k => (a = x + 1 ∨ a = x + 2) ∧ 0 ≤ k ∧ k < 8) m y2 := by rw [e2]; exact (f1.mo (fun a k q => ⟨Or.inl q.1, q.2⟩)).cp (fun j h1 h2 => ⟨Or.inr rfl, h1, h2⟩)
  rw [f2 x 2 (by omega), f2 y 2 (by omega), x2, z2] at e3
  have f3 : Fr (fun a k => (a = x + 1 ∨ a = x + 2 ∨ a = x + 3) ∧ 0 ≤ k ∧ k < 8) m y3 := by rw [e3]; exact (f2.mo (fun a k q => ⟨by omega, q.2⟩)).cp (fun j h1 h2 => ⟨by omega, h1, h2⟩)
  rw [f3 x 3 (by omega), f3 y 3 (by omega), x3, z3] at e4
  have f4 : Fr (fun a k => (a = x + 1 ∨ a = x + 2 ∨ a = x + 3 ∨ a = x + 4) ∧ 0 ≤ k ∧ k < 8) m y4 := by rw [e4]; exact (f3.mo (fun a k q => ⟨by omega, q.2⟩)).cp (fun j h1 h2 => ⟨by omega, h1, h2⟩)
  rw [f4 x 4 (by omega), f4 y 4 (by omega), x4, z4] at e5
  have f5 : Fr (fun a k => (x < a ∧ a ≤ x + 5) ∧ 0 ≤ k ∧ k < 8) m y5 := by rw [e5]; exact (f4.mo (fun a k q => ⟨by omega, q.2⟩)).cp (fun j h1 h2 => ⟨by omega, h1, h2⟩)
  have f9 : Fr (PRo x) m m' := by
    rw [e9, e8, e7, e6]
    exact ((((f5.mo (fun a k q => Or.inr ⟨q.1.1, q.1.2, q.2⟩)).mu (Or.inl ⟨rfl, by omega⟩)).mu (Or.inl ⟨rfl, by omega⟩)).mu (Or.inl ⟨rfl, by omega⟩)).mu (Or.inl ⟨rfl, by omega⟩)
  refine ⟨f9, fun k k1 k2 => ?_, fun i k i1 i2 k1 k2 => ?_⟩
  · have hyx : y ≠ x := by omega
    have t5 : ∀ j, 5 ≤ j → y5 y j = m y j := fun j hj => f5 y j (by omega)
    rcases (by omega : k = 5 ∨ k = 6 ∨ k = 7 ∨ k = 8) with rfl | rfl | rfl | rfl
    · rw [e9, mu_k (by decide), e8, mu_k (by decide), e7, mu_k (by decide), e6, mu_s]; exact t5 5 (by decide)
    · rw [e9, mu_k (by decide), e8, mu_k (by decide), e7, mu_s, e6, mu_a hyx]; exact t5 6 (by decide)
    · rw [e9, mu_k (by decide), e8, mu_s, e7, mu_a hyx, e6, mu_a hyx]; exact t5 7 (by decide)
    · rw [e9, mu_s, e8, mu_a hyx, e7, mu_a hyx, e6, mu_a hyx]; exact t5 8 (by decide)
  · have g : m' (x + i) k = y5 (x + i) k := by rw [e9, mu_a (by omega), e8, mu_a (by omega), e7, mu_a (by omega), e6, mu_a (by omega)]
    rw [g]
    rcases (by omega : i = 1 ∨ i = 2 ∨ i = 3 ∨ i = 4 ∨ i = 5) with rfl | rfl | rfl | rfl | rfl
    · rw [e5, mcp_k (by omega), e4, mcp_k (by omega), e3, mcp_k (by omega), e2, mcp_k (by omega), e1, mcp_i k1 k2]
    · rw [e5, mcp_k (by omega), e4, mcp_k (by omega), e3, mcp_k (by omega), e2, mcp_i k1 k2]; exact f1 _ _ (by omega)
    · rw [e5, mcp_k (by omega), e4, mcp_k (by omega), e3, mcp_i k1 k2]; exact f2 _ _ (by omega)
    · rw [e5, mcp_k (by omega), e4, mcp_i k1 k2]; exact f3 _ _ (by omega)
    · rw [e5, mcp_i k1 k2]; exact f4 _ _ (by omega)
set_option maxRecDepth 16384 in
theorem c113 {m : MM} {x y : Int} (hx : LSt m x) (hy : LSt m y) (hd : x + 6 < y ∨ y + 6 < x) : Fr (PSt x) m (g113 m x y) ∧ ((g113 m x y) x 7 = m y 7 ∧ (g113 m x y) x 8 = m y 8) ∧ (∀ k, 0 ≤ k → k < 64 → (g113 m x y) (x + 1) k = m (y + 1) k) ∧ (∀ i k, 2 ≤ i → i ≤ 5 → 0 ≤ k → k < 8 → (g113 m x y) (x + i) k = m (y + i) k) ∧ (∀ k, 0 ≤ k → k < 24 → (g113 m x y) (x + 6) k = m (y + 6) k) := by
  have h : (∃ y1, y1 = mcp m (m x 1) (m y 1) 64 ∧ (∃ y2, y2 = mcp y1 (y1 x 2) (y1 y 2) 8 ∧ (∃ y3, y3 = mcp y2 (y2 x 3) (y2 y 3) 8 ∧ (∃ y4, y4 = mcp y3 (y3 x 4) (y3 y 4) 8 ∧ (∃ y5, y5 = mcp y4 (y4 x 5) (y4 y 5) 8 ∧ (∃ y6, y6 = mcp y5 (y5 x 6) (y5 y 6) 24 ∧ (∃ y7, y7 = mu y6 x 7 (y6 y 7) ∧ (∃ y8, y8 = mu y7 x 8 (y7 y 8) ∧ (g113 m x y = y8))))))))) := ⟨_, rfl, _, rfl, _, rfl, _, rfl, _, rfl, _, rfl, _, rfl, _, rfl, rfl⟩
  obtain ⟨y1, e1, y2, e2, y3, e3, y4, e4, y5, e5, y6, e6, y7, e7, m', e8, hm⟩ := h
  rw [hm]
  obtain ⟨x1, x2, x3, x4, x5, x6⟩ := hx
  obtain ⟨z1, z2, z3, z4, z5, z6⟩ := hy
  rw [x1, z1] at e1
  have f1 : Fr (fun a k => a = x + 1 ∧ 0 ≤ k ∧ k < 64) m y1 := by rw [e1]; exact (Fr.rf _ _).cp (fun j h1 h2 => ⟨rfl, h1, h2⟩)
  rw [f1 x 2 (by omega), f1 y 2 (by omega), x2, z2] at e2
  have f2 : Fr (fun a k => (a = x + 1 ∨ a = x + 2) ∧ 0 ≤ k ∧ k < 64) m y2 := by rw [e2]; exact (f1.mo (fun a k q => ⟨Or.inl q.1, q.2⟩)).cp (fun j h1 h2 => ⟨Or.inr rfl, h1, by omega⟩)
  rw [f2 x 3 (by omega), f2 y 3 (by omega), x3, z3] at e3
  have f3 : Fr (fun a k => (a = x + 1 ∨ a = x + 2 ∨ a = x + 3) ∧ 0 ≤ k ∧ k < 64) m y3 := by rw [e3]; exact (f2.mo (fun a k q => ⟨by omega, q.2⟩)).cp (fun j h1 h2 => ⟨by omega, h1, by omega⟩)
  rw [f3 x 4 (by omega), f3 y 4 (by omega), x4, z4] at e4
  have f4 : Fr (fun a k => (a = x + 1 ∨ a = x + 2 ∨ a = x + 3 ∨ a = x + 4) ∧ 0 ≤ k ∧ k < 64) m y4 := by rw [e4]; exact (f3.mo (fun a k q => ⟨by omega, q.2⟩)).cp (fun j h1 h2 => ⟨by omega, h1, by omega⟩)
  rw [f4 x 5 (by omega), f4 y 5 (by omega), x5, z5] at e5
  have f5 : Fr (fun a k => (x < a ∧ a ≤ x + 5) ∧ 0 ≤ k ∧ k < 64) m y5 := by rw [e5]; exact (f4.mo (fun a k q => ⟨by omega, q.2⟩)).cp (fun j h1 h2 => ⟨by omega, h1, by omega⟩)
  rw [f5 x 6 (by omega), f5 y 6 (by omega), x6, z6] at e6
  have f6 : Fr (fun a k => (x < a ∧ a ≤ x + 6) ∧ 0 ≤ k ∧ k < 64) m y6 := by rw [e6]; exact (f5.mo (fun a k q => ⟨by omega, q.2⟩)).cp (fun j h1 h2 => ⟨by omega, h1, by omega⟩)
  have f8 : Fr (PSt x) m m' := by
    rw [e8, e7]
    exact ((f6.mo (fun a k q => Or.inr ⟨q.1.1, q.1.2, q.2⟩)).mu (Or.inl ⟨rfl, by omega⟩)).mu (Or.inl ⟨rfl, by omega⟩)
  have hyx : y ≠ x := by omega
  have g : ∀ i k, 1 ≤ i → m' (x + i) k = y6 (x + i) k := fun i k hi => by rw [e8, mu_a (by omega), e7, mu_a (by omega)]
  refine ⟨f8, ⟨?_, ?_⟩, fun k k1 k2 => ?_, fun i k i1 i2 k1 k2 => ?_, fun k k1 k2 => ?_⟩
  · rw [e8, mu_k (by decide), e7, mu_s]; exact f6 y 7 (by omega)
  · rw [e8, mu_s, e7, mu_a hyx]; exact f6 y 8 (by omega)
  · rw [g 1 k (by omega), e6, mcp_k (by omega), e5, mcp_k (by omega), e4, mcp_k (by omega), e3, mcp_k (by omega), e2, mcp_k (by omega), e1, mcp_i k1 k2]
  · rw [g i k (by omega), e6, mcp_k (by omega)]
    rcases (by omega : i = 2 ∨ i = 3 ∨ i = 4 ∨ i = 5) with rfl | rfl | rfl | rfl
    · rw [e5, mcp_k (by omega), e4, mcp_k (by omega), e3, mcp_k (by omega), e2, mcp_i k1 k2]; exact f1 _ _ (by omega)
    · rw [e5, mcp_k (by omega), e4, mcp_k (by omega), e3, mcp_i k1 k2]; exact f2 _ _ (by omega)
    · rw [e5, mcp_k (by omega), e4, mcp_i k1 k2]; exact f3 _ _ (by omega)
    · rw [e5, mcp_i k1 k2]; exact f4 _ _ (by omega)
  · rw [g 6 k (by omega), e6, mcp_i k1 k2]; exact f5 _ _ (by omega)
set_option maxRecDepth 16384 in
theorem c88 {m : MM} {x y : Int} (hx : LSe m x) (hy : LSe m y) (hd : x + 3 < y ∨ y + 3 < x) : Fr (PSe x) m (g88 m x y) ∧ ((g88 m x y) x 4 = m y 4 ∧ (g88 m x y) x 5 = m y 5) ∧ (∀ i k, 1 ≤ i → i ≤ 3 → 0 ≤ k → k < 40 → (g88 m x y) (x + i) k = m (y + i) k) := by
  have h : (∃ y1, y1 = mcp m (m x 0) (m y 0) 40 ∧ (∃ y2, y2 = mcp y1 (y1 x 1) (y1 y 1) 40 ∧ (∃ y3, y3 = mcp y2 (y2 x 2) (y2 y 2) 40 ∧ (∃ y4, y4 = mu y3 x 4 (y3 y 4) ∧ (∃ y5, y5 = mu y4 x 5 (y4 y 5) ∧ (g88 m x y = y5)))))) := ⟨_, rfl, _, rfl, _, rfl, _, rfl, _, rfl, rfl⟩
  obtain ⟨y1, e1, y2, e2, y3, e3, y4, e4, m', e5, hm⟩ := h
  rw [hm]
  obtain ⟨x0, x1, x2⟩ := hx
  obtain ⟨z0, z1, z2⟩ := hy
  rw [x0, z0] at e1
  have f1 : Fr (fun a k => a = x + 1 ∧ 0 ≤ k ∧ k < 40) m y1 := by rw [e1]; exact (Fr.rf _ _).cp (fun j h1 h2 => ⟨rfl, h1, h2⟩)
  rw [f1 x 1 (by omega), f1 y 1 (by omega), x1, z1] at e2
  have f2 : Fr (fun a k => (a = x + 1 ∨ a = x + 2) ∧ 0 ≤ k ∧ k < 40) m y2 := by rw [e2]; exact (f1.mo (fun a k q => ⟨Or.inl q.1, q.2⟩)).cp (fun j h1 h2 => ⟨Or.inr rfl, h1, h2⟩)
  rw [f2 x 2 (by omega), f2 y 2 (by omega), x2, z2] at e3
  have f3 : Fr (fun a k => (x < a ∧ a ≤ x + 3) ∧ 0 ≤ k ∧ k < 40) m y3 := by rw [e3]; exact (f2.mo (fun a k q => ⟨by omega, q.2⟩)).cp (fun j h1 h2 => ⟨by omega, h1, h2⟩)
  have hyx : y ≠ x := by omega
  have g : ∀ i k, 1 ≤ i → m' (x + i) k = y3 (x + i) k := fun i k hi => by rw [e5, mu_a (by omega), e4, mu_a (by omega)]
  refine ⟨?_, ⟨?_, ?_⟩, fun i k i1 i2 k1 k2 => ?_⟩
  · rw [e5, e4]
    exact ((f3.mo (fun a k q => Or.inr ⟨q.1.1, q.1.2, q.2⟩)).mu (Or.inl ⟨rfl, by omega⟩)).mu (Or.inl ⟨rfl, by omega⟩)
  · rw [e5, mu_k (by decide), e4, mu_s]; exact f3 y 4 (by omega)
  · rw [e5, mu_s, e4, mu_a hyx]; exact f3 y 5 (by omega)
  · rw [g i k (by omega)]
    rcases (by omega : i = 1 ∨ i = 2 ∨ i = 3) with rfl | rfl | rfl
    · rw [e3, mcp_k (by omega), e2, mcp_k (by omega), e1, mcp_i k1 k2]
    · rw [e3, mcp_k (by omega), e2, mcp_i k1 k2]; exact f1 _ _ (by omega)
    · rw [e3, mcp_i k1 k2]; exact f2 _ _ (by omega)
set_option maxRecDepth 16384 in
theorem c88f {m : MM} {x y : Int} (hx : LSe m x) (hy : LSe m y) (hd : x + 3 < y ∨ y + 3 < x ∨ x = y) : Fr (PSe x) m (g88 m x y) := by
  have h : (∃ y1, y1 = mcp m (m x 0) (m y 0) 40 ∧ (∃ y2, y2 = mcp y1 (y1 x 1) (y1 y 1) 40 ∧ (∃ y3, y3 = mcp y2 (y2 x 2) (y2 y 2) 40 ∧ (∃ y4, y4 = mu y3 x 4 (y3 y 4) ∧ (∃ y5, y5 = mu y4 x 5 (y4 y 5) ∧ (g88 m x y = y5)))))) := ⟨_, rfl, _, rfl, _, rfl, _, rfl, _, rfl, rfl⟩
  obtain ⟨y1, e1, y2, e2, y3, e3, y4, e4, m', e5, hm⟩ := h
  rw [hm]
  obtain ⟨x0, x1, x2⟩ := hx
  obtain ⟨z0, z1, z2⟩ := hy
  rw [x0, z0] at e1
  have f1 : Fr (fun a k => a = x + 1 ∧ 0 ≤ k ∧ k < 40) m y1 := by rw [e1]; exact (Fr.rf _ _).cp (fun j h1 h2 => ⟨rfl, h1, h2⟩)
  rw [f1 x 1 (by omega), f1 y 1 (by omega), x1, z1] at e2
  have f2 : Fr (fun a k => (a = x + 1 ∨ a = x + 2) ∧ 0 ≤ k ∧ k < 40) m y2 := by rw [e2]; exact (f1.mo (fun a k q => ⟨Or.inl q.1, q.2⟩)).cp (fun j h1 h2 => ⟨Or.inr rfl, h1, h2⟩)
  rw [f2 x 2 (by omega), f2 y 2 (by omega), x2, z2] at e3
  have f3 : Fr (fun a k => (x < a ∧ a ≤ x + 3) ∧ 0 ≤ k ∧ k < 40) m y3 := by rw [e3]; exact (f2.mo (fun a k q => ⟨by omega, q.2⟩)).cp (fun j h1 h2 => ⟨by omega, h1, h2⟩)
  rw [e5, e4]
  exact ((f3.mo (fun a k q => Or.inr ⟨q.1.1, q.1.2, q.2⟩)).mu (Or.inl ⟨rfl, by omega⟩)).mu (Or.inl ⟨rfl, by omega⟩)
