/-! Whether one can: why not, the part that is his. -/
set_option maxRecDepth 16384 in
theorem L235_ok {b : MM} {p f : Int} : (L235_17 b 148 p f 0).1 = 1 ∧ f200 b 148 p f = 0 ∨ (L235_17 b 148 p f 0).1 ≠ 1 ∧ (L235_17 b 148 p f 0).2.1 = -1 ∧ f200 b 148 p f = 1 := by
  have st : ∀ k, k < 3 → 0 ≤ k → K235_17 b 148 p f 0 k = if f273 b 148 f k = p then .inr (2, -1, k) else .inl (k + 1) := fun k k1 k0 => by
    show S235_17 b 148 p f k = _
    unfold S235_17
    rw [if_neg (by omega), s32_id (by omega) (by omega)]
  have e3 : Lp (K235_17 b 148 p f 0) 3 = (1, 0, 3) := Lp_inr (by
    show S235_17 b 148 p f 3 = _
    unfold S235_17
    rw [if_pos (by decide)])
  unfold L235_17 f200
  have s0 := st 0 (by decide) (by decide)
  have s1 := st 1 (by decide) (by decide)
  have s2 := st 2 (by decide) (by decide)
  by_cases c0 : f273 b 148 f 0 = p
  · rw [if_pos c0] at s0
    rw [if_pos c0, Lp_inr s0]
    exact Or.inr ⟨by decide, rfl, rfl⟩
  · rw [if_neg c0] at s0
    rw [if_neg c0, Lp_inl s0]
    by_cases c1 : f273 b 148 f 1 = p
    · rw [if_pos c1] at s1
      rw [if_pos c1]
      have := Lp_inr s1
      rw [show (0 + 1 : Int) = 1 from rfl, this]
      exact Or.inr ⟨by decide, rfl, rfl⟩
    · rw [if_neg c1] at s1
      rw [if_neg c1]
      have t1 := Lp_inl s1
      rw [show (0 + 1 : Int) = 1 from rfl, t1]
      by_cases c2 : f273 b 148 f 2 = p
      · rw [if_pos c2] at s2
        rw [if_pos c2]
        have := Lp_inr s2
        rw [show (1 + 1 : Int) = 2 from rfl, this]
        exact Or.inr ⟨by decide, rfl, rfl⟩
      · rw [if_neg c2] at s2
        rw [if_neg c2]
        have t2 := Lp_inl s2
        rw [show (1 + 1 : Int) = 2 from rfl, t2, show (2 + 1 : Int) = 3 from rfl, e3]
        exact Or.inl ⟨rfl, rfl⟩
set_option maxRecDepth 16384 in
theorem q126 {a b : MM} {s : Int} (h : Sx a b s) (p : Int) {f : Int} (f0 : 0 ≤ f) (f1 : f < a 3 7) : f126 a s p f = f200 b 148 p f := by
  obtain ⟨x0, y0⟩ := q142 h f0 f1 (k := 0) (by decide) (by decide)
  obtain ⟨x1, y1⟩ := q142 h f0 f1 (k := 1) (by decide) (by decide)
  obtain ⟨x2, y2⟩ := q142 h f0 f1 (k := 2) (by decide) (by decide)
  unfold f126 f200
  rw [x0, x1, x2, y0, y1, y2]
set_option maxRecDepth 16384 in
theorem i126 (a : MM) (s p f : Int) : f126 a s p f = 0 ∨ f126 a s p f = 1 := by
  unfold f126
  split
  · exact Or.inr rfl
  · split
    · exact Or.inr rfl
    · split
      · exact Or.inr rfl
      · exact Or.inl rfl
set_option maxRecDepth 16384 in
/-- which parts there are -/
theorem i133 (a : MM) (s u p f : Int) : f133 a s u p f = -1 ∨ f133 a s u p f = 0 ∨ (f133 a s u p f = 1 ∧ p ≠ f66 a (a s 0) f) ∨ f133 a s u p f = 2 := by
  unfold f133
  split
  · exact Or.inl rfl
  · split
    · exact Or.inl rfl
    · split
      · exact Or.inr (Or.inl rfl)
      · rename_i c
        split
        · exact Or.inr (Or.inr (Or.inl ⟨rfl, c⟩))
        · split
          · split
            · split
              · exact Or.inl rfl
              · exact Or.inr (Or.inr (Or.inr rfl))
            · exact Or.inr (Or.inr (Or.inr rfl))
          · exact Or.inl rfl
set_option maxRecDepth 16384 in
theorem f142_n (a : MM) (s f : Int) : f142 a s f (-1) = -1 := by
  have : f137 a f (-1) = -1 := by
    unfold f137
    split
    · rfl
    · split
      · rfl
      · rw [if_pos (by decide)]
  unfold f142
  rw [this, if_pos (by decide)]
set_option maxRecDepth 16384 in
theorem q132 {a b : MM} {s : Int} (h : Sx a b s) {p f : Int} (p0 : 0 ≤ p) (p1 : p < a 3 6) (f0 : 0 ≤ f) (f1 : f < a 3 7) : f132 a s p f = f235 b 148 p f := by
  obtain ⟨e, e0, e8⟩ := h.f
  have h1 := q127 h f0 f1
  have h2 := q126 h p f0 f1
  have h3 := q128 h f0 f1
  have h4 := q133 h (u := f204 b 148 f) p0 p1 f0 f1
  have hb := h.bn
  unfold f132 f235
  rw [h1.1, hb, h1.2, h2, h3, h4]
  by_cases c : a (s + 4) f = 0
  · rw [if_pos c, if_pos c]
    rcases L235_ok (b := b) (p := p) (f := f) with ⟨d1, d2⟩ | ⟨d1, d2, d3⟩
    · rw [if_pos d1, d2, if_pos rfl]
      have hi := i133 a s (f204 b 148 f) p f
      rw [h4] at hi
      revert hi
      generalize f234 b 148 p f (f204 b 148 f) = z
      intro hi
      by_cases d : z = -1
      · rw [if_pos d, d, f142_n, if_pos rfl]
      · rw [if_neg d]
        have := q142 h f0 f1 (k := z) (by omega) (by omega)
        rw [this.1, this.2]
    · rw [if_neg d1, d3, if_neg (by decide), d2]
  · rw [if_neg c, if_neg c]
set_option maxRecDepth 16384 in
/-- what it says where it says a part -/
theorem i132 {a b : MM} {s : Int} (h : Sx a b s) {p f : Int} (f0 : 0 ≤ f) (f1 : f < a 3 7) (hn : f132 a s p f ≠ -1) : a (s + 4) f = 0 ∧ 0 ≤ f132 a s p f ∧ f132 a s p f < 3 ∧ (f132 a s p f = 1 → p ≠ a 6 f) ∧ a (s + 6) (3 * f + f132 a s p f) = -1 := by
  have h1 := q127 h f0 f1
  have h66 := q66 h f0 f1
  have hi := i133 a s (f128 a s f) p f
  rw [h.1.2.2.1, h66.1] at hi
  revert hn
  unfold f132
  rw [h1.1]
  by_cases c : a (s + 4) f = 0
  · rw [if_pos c]
    by_cases d : f126 a s p f = 0
    · rw [if_pos d]
      revert hi
      generalize f133 a s (f128 a s f) p f = z
      intro hi
      by_cases g : f142 a s f z = -1
      · rw [if_pos g]
        intro hz
        have := q142 h f0 f1 (k := z) (by omega) (by omega)
        rw [this.1] at g
        exact ⟨c, by omega, by omega, by omega, g⟩
      · rw [if_neg g]
        intro q; exact absurd rfl q
    · rw [if_neg d]
      intro q; exact absurd rfl q
  · rw [if_neg c]
    intro q; exact absurd rfl q
set_option maxRecDepth 16384 in
/-- the ones that an act names are there -/
def Is (a : MM) (act x y : Int) : Prop := (act = 0 ∧ 0 ≤ x ∧ x < a 3 6 ∧ 0 ≤ y ∧ y < a 3 7) ∨ ((act = 1 ∨ act = 2) ∧ 0 ≤ x ∧ x < a 3 6 ∧ 0 ≤ y ∧ y < a 3 6) ∨ ((act = 3 ∨ act = 4) ∧ 0 ≤ x ∧ x < a 3 6) ∨ ((act = 5 ∨ act = 6) ∧ 0 ≤ x ∧ x < a 3 7)
set_option maxRecDepth 16384 in
theorem f146_0 (m : MM) (s x y : Int) : f146 m s 0 x y = (if (f127 m s y) = 0 then (if (f141 m s x) = (-1) then (if (f132 m s x y) = (-1) then 3 else 0) else 2) else 1) := rfl
set_option maxRecDepth 16384 in
theorem f146_1 (m : MM) (s x y : Int) : f146 m s 1 x y = (if x = y then 1 else (if (f124 m s x y) = 0 then 1 else 0)) := rfl
set_option maxRecDepth 16384 in
theorem f146_2 (m : MM) (s x y : Int) : f146 m s 2 x y = (if x = y then 1 else (if (f124 m s x y) < 9 then 0 else 2)) := rfl
set_option maxRecDepth 16384 in
theorem f146_3 (m : MM) (s x y : Int) : f146 m s 3 x y = (if (f129 m s x) = 0 then 0 else 1) := rfl
set_option maxRecDepth 16384 in
theorem f146_4 (m : MM) (s x y : Int) : f146 m s 4 x y = (if (f129 m s x) = 0 then 1 else 0) := rfl
set_option maxRecDepth 16384 in
theorem f146_5 (m : MM) (s x y : Int) : f146 m s 5 x y = (if (f127 m s x) = 2 then 1 else (if (f127 m s x) = 3 then 1 else 0)) := rfl
set_option maxRecDepth 16384 in
theorem f146_6 (m : MM) (s x y : Int) : f146 m s 6 x y = (if (f127 m s x) = 3 then 0 else 1) := rfl
set_option maxRecDepth 16384 in
theorem f290_0 (m : MM) (x y : Int) : f290 m 148 0 x y = (if (m (m 148 14) (s32 (182 + y))) = 0 then (if (m (m 148 14) (s32 (198 + x))) = (-1) then (if (f235 m 148 x y) = (-1) then 3 else 0) else 2) else 1) := rfl
set_option maxRecDepth 16384 in
theorem f290_1 (m : MM) (x y : Int) : f290 m 148 1 x y = (if (f198 m 148 x y) = 0 then 1 else 0) := rfl
set_option maxRecDepth 16384 in
theorem f290_2 (m : MM) (x y : Int) : f290 m 148 2 x y = (if x = y then 1 else (if (f198 m 148 x y) = 9 then 2 else 0)) := rfl
set_option maxRecDepth 16384 in
theorem f290_3 (m : MM) (x y : Int) : f290 m 148 3 x y = (if (f214 m 148 x) = 0 then 0 else 1) := rfl
set_option maxRecDepth 16384 in
theorem f290_4 (m : MM) (x y : Int) : f290 m 148 4 x y = (if (f214 m 148 x) = 0 then 1 else 0) := rfl
set_option maxRecDepth 16384 in
theorem f290_5 (m : MM) (x y : Int) : f290 m 148 5 x y = (if (m (m 148 14) (s32 (182 + x))) < 2 then 0 else 1) := rfl
set_option maxRecDepth 16384 in
theorem f290_6 (m : MM) (x y : Int) : f290 m 148 6 x y = (if (m (m 148 14) (s32 (182 + x))) = 3 then 0 else 1) := rfl
set_option maxRecDepth 16384 in
theorem q146 {a b : MM} {s : Int} (h : Sx a b s) {act x y : Int} (hi : Is a act x y) : f146 a s act x y = f290 b 148 act x y := by
  obtain ⟨e, e0, e8⟩ := h.p
  obtain ⟨e', e0', e8'⟩ := h.f
  have hb := h.bn
  rcases hi with ⟨rfl, x0, x1, y0, y1⟩ | ⟨q, x0, x1, y0, y1⟩ | ⟨q, x0, x1⟩ | ⟨q, x0, x1⟩
  · have h1 := q127 h y0 y1
    have h2 := q141 h x0 x1
    rw [f146_0, f290_0, hb, h1.1, h1.2, h2.1, h2.2, q132 h x0 x1 y0 y1]
  · have h1 := q124 h (p := x) (q := y) x0 (by omega) y0 (by omega)
    have h2 := h.gr (k := 8 * x + y) (by omega) (by omega)
    rcases q with rfl | rfl
    · rw [f146_1, f290_1, h1.1, h1.2]
      by_cases c : x = y
      · rw [if_pos c, h2.2.2.2 (by omega), if_pos rfl]
      · rw [if_neg c]
    · rw [f146_2, f290_2, h1.1, h1.2]
      by_cases c : x = y
      · rw [if_pos c, if_pos c]
      · rw [if_neg c, if_neg c]
        by_cases d : a (s + 1) (8 * x + y) < 9
        · rw [if_pos d, if_neg (by omega)]
        · rw [if_neg d, if_pos (by omega)]
  · have h1 := q129 h x0 x1
    rcases q with rfl | rfl
    · rw [f146_3, f290_3, h1]
    · rw [f146_4, f290_4, h1]
  · have h1 := q127 h x0 x1
    have h2 := h.hw x0 x1
    rcases q with rfl | rfl
    · rw [f146_5, f290_5, hb, h1.1, h1.2]
      by_cases c : a (s + 4) x < 2
      · rw [if_pos c, if_neg (by omega), if_neg (by omega)]
      · rw [if_neg c]
        by_cases d : a (s + 4) x = 2
        · rw [if_pos d]
        · rw [if_neg d, if_pos (by omega)]
    · rw [f146_6, f290_6, hb, h1.1, h1.2]
set_option maxRecDepth 16384 in
theorem g135_0 (m : MM) (s x y : Int) : g135 m s 0 x y = g138 m s x y (f132 m s x y) := rfl
set_option maxRecDepth 16384 in
theorem g135_1 (m : MM) (s x y : Int) : g135 m s 1 x y = g108 m s x y (-1) := rfl
set_option maxRecDepth 16384 in
theorem g135_2 (m : MM) (s x y : Int) : g135 m s 2 x y = g108 m s x y 1 := rfl
set_option maxRecDepth 16384 in
theorem g135_3 (m : MM) (s x y : Int) : g135 m s 3 x y = mu m s 7 (jor (m s 7) (jshl 1 x)) := rfl
set_option maxRecDepth 16384 in
theorem g135_4 (m : MM) (s x y : Int) : g135 m s 4 x y = mu m s 7 (jand (m s 7) (jxor (jshl 1 x) (-1))) := rfl
set_option maxRecDepth 16384 in
theorem g135_5 (m : MM) (s x y : Int) : g135 m s 5 x y = g139 m s x 3 := rfl
set_option maxRecDepth 16384 in
theorem g135_6 (m : MM) (s x y : Int) : g135 m s 6 x y = g130 m s x := rfl
set_option maxRecDepth 16384 in
theorem g135_7 (m : MM) (s x y : Int) : g135 m s 7 x y = (L135_131 m s 7 x y 0).2.2.2 := rfl
set_option maxRecDepth 16384 in
theorem g222_0 (m : MM) (x y : Int) : g222 m 148 0 x y = g181 m 148 x y := rfl
set_option maxRecDepth 16384 in
theorem g222_1 (m : MM) (x y : Int) : g222 m 148 1 x y = mu m (m 148 14) (s32 ((s32 (94 + (s32 (8 * x)))) + y)) (s32 (s32 ((m (m 148 14) (s32 ((s32 (94 + (s32 (8 * x)))) + y))) + (-1)))) := rfl
set_option maxRecDepth 16384 in
theorem g222_2 (m : MM) (x y : Int) : g222 m 148 2 x y = mu m (m 148 14) (s32 ((s32 (94 + (s32 (8 * x)))) + y)) (s32 (s32 ((m (m 148 14) (s32 ((s32 (94 + (s32 (8 * x)))) + y))) + 1))) := rfl
set_option maxRecDepth 16384 in
theorem g222_3 (m : MM) (x y : Int) : g222 m 148 3 x y = mu m (m 148 14) 93 (s32 (jxor (m (m 148 14) 93) (jshl 1 x))) := rfl
set_option maxRecDepth 16384 in
theorem g222_4 (m : MM) (x y : Int) : g222 m 148 4 x y = mu m (m 148 14) 93 (s32 (jxor (m (m 148 14) 93) (jshl 1 x))) := rfl
set_option maxRecDepth 16384 in
theorem g222_5 (m : MM) (x y : Int) : g222 m 148 5 x y = mu (mu m (m 148 14) (s32 (182 + x)) (s32 3)) ((mu m (m 148 14) (s32 (182 + x)) (s32 3)) 148 14) (s32 (190 + x)) (s32 ((mu m (m 148 14) (s32 (182 + x)) (s32 3)) ((mu m (m 148 14) (s32 (182 + x)) (s32 3)) 148 14) (s32 (84 + x)))) := rfl
set_option maxRecDepth 16384 in
theorem g222_6 (m : MM) (x y : Int) : g222 m 148 6 x y = g232 m 148 x := rfl
