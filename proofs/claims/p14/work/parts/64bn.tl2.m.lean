section
/-! Whether one can: why not, the part that is his. -/
set_option maxRecDepth 16384 in
theorem L235_ok {b : MM} {p f : Int} : (L235_17 b 148 p f 0).1 = 1 ∧ f200 b 148 p f = 0 ∨ (L235_17 b 148 p f 0).1 ≠ 1 ∧ (L235_17 b 148 p f 0).2.1 = -1 ∧ f200 b 148 p f = 1 := by
  have st : ∀ k, k < 3 → 0 ≤ k → K235_17 b 148 p f 0 k = if f273 b 148 f k = p then .inr (2, -1, k) else .inl (k + 1) := fun k k1 k0 => by
    show S235_17 b 148 p f k = _
    unfold S235_17
    rw [if_neg (by omega), s32_id (by omega) (by omega)]
  have e3 : Lp (K235_17 b 148 p f 0) 3 = (1, 0, 3) := Lp_inr (by
    show S235_17 b 148 p f 3 = _
    unfold S235_17
    rw [if_pos (by decide)])
  unfold L235_17 f200
  have s0 := st 0 (by decide) (by decide)
  have s1 := st 1 (by decide) (by decide)
  have s2 := st 2 (by decide) (by decide)
  by_cases c0 : f273 b 148 f 0 = p
  · rw [if_pos c0] at s0
    rw [if_pos c0, Lp_inr s0]
    exact Or.inr ⟨by decide, rfl, rfl⟩
  · rw [if_neg c0] at s0
    rw [if_neg c0, Lp_inl s0]
    by_cases c1 : f273 b 148 f 1 = p
    · rw [if_pos c1] at s1
      rw [if_pos c1]
      have := Lp_inr s1
      rw [show (0 + 1 : Int) = 1 from rfl, this]
      exact Or.inr ⟨by decide, rfl, rfl⟩
    · rw [if_neg c1] at s1
      rw [if_neg c1]
      have t1 := Lp_inl s1
      rw [show (0 + 1 : Int) = 1 from rfl, t1]
      by_cases c2 : f273 b 148 f 2 = p
      · rw [if_pos c2] at s2
        rw [if_pos c2]
        have := Lp_inr s2
        rw [show (1 + 1 : Int) = 2 from rfl, this]
        exact Or.inr ⟨by decide, rfl, rfl⟩
      · rw [if_neg c2] at s2
        rw [if_neg c2]
        have t2 := Lp_inl s2
        rw [show (1 + 1 : Int) = 2 from rfl, t2, show (2 + 1 : Int) = 3 from rfl, e3]
        exact Or.inl ⟨rfl, rfl⟩
set_option maxRecDepth 16384 in
theorem q126 {a b : MM} {s : Int} (h : Sx a b s) (p : Int) {f : Int} (f0 : 0 ≤ f) (f1 : f < a 3 7) : f126 a s p f = f200 b 148 p f := by
  obtain ⟨x0, y0⟩ := q142 h f0 f1 (k := 0) (by decide) (by decide)
  obtain ⟨x1, y1⟩ := q142 h f0 f1 (k := 1) (by decide) (by decide)
  obtain ⟨x2, y2⟩ := q142 h f0 f1 (k := 2) (by decide) (by decide)
  unfold f126 f200
  rw [x0, x1, x2, y0, y1, y2]
set_option maxRecDepth 16384 in
theorem i126 (a : MM) (s p f : Int) : f126 a s p f = 0 ∨ f126 a s p f = 1 := by
  unfold f126
  split
  · exact Or.inr rfl
  · split
    · exact Or.inr rfl
    · split
      · exact Or.inr rfl
      · exact Or.inl rfl
set_option maxRecDepth 16384 in
/-- which parts there are -/
theorem i133 (a : MM) (s u p f : Int) : f133 a s u p f = -1 ∨ f133 a s u p f = 0 ∨ (f133 a s u p f = 1 ∧ p ≠ f66 a (a s 0) f) ∨ f133 a s u p f = 2 := by
  unfold f133
  split
  · exact Or.inl rfl
  · split
    · exact Or.inl rfl
    · split
      · exact Or.inr (Or.inl rfl)
      · rename_i c
        split
        · exact Or.inr (Or.inr (Or.inl ⟨rfl, c⟩))
        · split
          · split
            · split
              · exact Or.inl rfl
              · exact Or.inr (Or.inr (Or.inr rfl))
            · exact Or.inr (Or.inr (Or.inr rfl))
          · exact Or.inl rfl
set_option maxRecDepth 16384 in
theorem f142_n (a : MM) (s f : Int) : f142 a s f (-1) = -1 := by
  have : f137 a f (-1) = -1 := by
    unfold f137
    split
    · rfl
    · split
      · rfl
      · rw [if_pos (by decide)]
  unfold f142
  rw [this, if_pos (by decide)]
set_option maxRecDepth 16384 in
theorem q132 {a b : MM} {s : Int} (h : Sx a b s) {p f : Int} (p0 : 0 ≤ p) (p1 : p < a 3 6) (f0 : 0 ≤ f) (f1 : f < a 3 7) : f132 a s p f = f235 b 148 p f := by
  obtain ⟨e, e0, e8⟩ := h.f
  have h1 := q127 h f0 f1
  have h2 := q126 h p f0 f1
  have h3 := q128 h f0 f1
  have h4 := q133 h (u := f204 b 148 f) p0 p1 f0 f1
  have hb := h.bn
  unfold f132 f235
  rw [h1.1, hb, h1.2, h2, h3, h4]
  by_cases c : a (s + 4) f = 0
  · rw [if_pos c, if_pos c]
    rcases L235_ok (b := b) (p := p) (f := f) with ⟨d1, d2⟩ | ⟨d1, d2, d3⟩
    · rw [if_pos d1, d2, if_pos rfl]
      have hi := i133 a s (f204 b 148 f) p f
      rw [h4] at hi
      revert hi
      generalize f234 b 148 p f (f204 b 148 f) = z
      intro hi
      by_cases d : z = -1
      · rw [if_pos d, d, f142_n, if_pos rfl]
      · rw [if_neg d]
        have := q142 h f0 f1 (k := z) (by omega) (by omega)
        rw [this.1, this.2]
    · rw [if_neg d1, d3, if_neg (by decide), d2]
  · rw [if_neg c, if_neg c]
set_option maxRecDepth 16384 in
/-- what it says where it says a part -/
theorem i132 {a b : MM} {s : Int} (h : Sx a b s) {p f : Int} (f0 : 0 ≤ f) (f1 : f < a 3 7) (hn : f132 a s p f ≠ -1) : a (s + 4) f = 0 ∧ 0 ≤ f132 a s p f ∧ f132 a s p f < 3 ∧ (f132 a s p f = 1 → p ≠ a 6 f) ∧ a (s + 6) (3 * f + f132 a s p f) = -1 := by
  have h1 := q127 h f0 f1
  have h66 := q66 h f0 f1
  have hi := i133 a s (f128 a s f) p f
  rw [h.1.2.2.1, h66.1] at hi
  revert hn
  unfold f132
  rw [h1.1]
  by_cases c : a (s + 4) f = 0
  · rw [if_pos c]
    by_cases d : f126 a s p f = 0
    · rw [if_pos d]
      revert hi
      generalize f133 a s (f128 a s f) p f = z
      intro hi
      by_cases g : f142 a s f z = -1
      · rw [if_pos g]
        intro hz
        have := q142 h f0 f1 (k := z) (by omega) (by omega)
        rw [this.1] at g
        exact ⟨c, by omega, by omega, by omega, g⟩
      · rw [if_neg g]
        intro q; exact absurd rfl q
    · rw [if_neg d]
      intro q; exact absurd rfl q
  · rw [if_neg c]
    intro q; exact absurd rfl q
set_option maxRecDepth 16384 in
/-- the ones that an act names are there -/
def Is (a : MM) (act x y : Int) : Prop := (act = 0 ∧ 0 ≤ x ∧ x < a 3 6 ∧ 0 ≤ y ∧ y < a 3 7) ∨ ((act = 1 ∨ act = 2) ∧ 0 ≤ x ∧ x < a 3 6 ∧ 0 ≤ y ∧ y < a 3 6) ∨ ((act = 3 ∨ act = 4) ∧ 0 ≤ x ∧ x < a 3 6) ∨ ((act = 5 ∨ act = 6) ∧ 0 ≤ x ∧ x < a 3 7)
set_option maxRecDepth 16384 in
theorem f146_0 (m : MM) (s x y : Int) : f146 m s 0 x y = (if (f127 m s y) = 0 then (if (f141 m s x) = (-1) then (if (f132 m s x y) = (-1) then 3 else 0) else 2) else 1) := rfl
set_option maxRecDepth 16384 in
theorem f146_1 (m : MM) (s x y : Int) : f146 m s 1 x y = (if x = y then 1 else (if (f124 m s x y) = 0 then 1 else 0)) := rfl
set_option maxRecDepth 16384 in
theorem f146_2 (m : MM) (s x y : Int) : f146 m s 2 x y = (if x = y then 1 else (if (f124 m s x y) < 9 then 0 else 2)) := rfl
set_option maxRecDepth 16384 in
theorem f146_3 (m : MM) (s x y : Int) : f146 m s 3 x y = (if (f129 m s x) = 0 then 0 else 1) := rfl
set_option maxRecDepth 16384 in
theorem f146_4 (m : MM) (s x y : Int) : f146 m s 4 x y = (if (f129 m s x) = 0 then 1 else 0) := rfl
set_option maxRecDepth 16384 in
theorem f146_5 (m : MM) (s x y : Int) : f146 m s 5 x y = (if (f127 m s x) = 2 then 1 else (if (f127 m s x) = 3 then 1 else 0)) := rfl
set_option maxRecDepth 16384 in
theorem f146_6 (m : MM) (s x y : Int) : f146 m s 6 x y = (if (f127 m s x) = 3 then 0 else 1) := rfl
set_option maxRecDepth 16384 in
theorem f290_0 (m : MM) (x y : Int) : f290 m 148 0 x y = (if (m (m 148 14) (s32 (182 + y))) = 0 then (if (m (m 148 14) (s32 (198 + x))) = (-1) then (if (f235 m 148 x y) = (-1) then 3 else 0) else 2) else 1) := rfl
set_option maxRecDepth 16384 in
theorem f290_1 (m : MM) (x y : Int) : f290 m 148 1 x y = (if (f198 m 148 x y) = 0 then 1 else 0) := rfl
set_option maxRecDepth 16384 in
theorem f290_2 (m : MM) (x y : Int) : f290 m 148 2 x y = (if x = y then 1 else (if (f198 m 148 x y) = 9 then 2 else 0)) := rfl
set_option maxRecDepth 16384 in
theorem f290_3 (m : MM) (x y : Int) : f290 m 148 3 x y = (if (f214 m 148 x) = 0 then 0 else 1) := rfl
set_option maxRecDepth 16384 in
theorem f290_4 (m : MM) (x y : Int) : f290 m 148 4 x y = (if (f214 m 148 x) = 0 then 1 else 0) := rfl
set_option maxRecDepth 16384 in
theorem f290_5 (m : MM) (x y : Int) : f290 m 148 5 x y = (if (m (m 148 14) (s32 (182 + x))) < 2 then 0 else 1) := rfl
set_option maxRecDepth 16384 in
theorem f290_6 (m : MM) (x y : Int) : f290 m 148 6 x y = (if (m (m 148 14) (s32 (182 + x))) = 3 then 0 else 1) := rfl
set_option maxRecDepth 16384 in
theorem q146 {a b : MM} {s : Int} (h : Sx a b s) {act x y : Int} (hi : Is a act x y) : f146 a s act x y = f290 b 148 act x y := by
  obtain ⟨e, e0, e8⟩ := h.p
  obtain ⟨e', e0', e8'⟩ := h.f
  have hb := h.bn
  rcases hi with ⟨rfl, x0, x1, y0, y1⟩ | ⟨q, x0, x1, y0, y1⟩ | ⟨q, x0, x1⟩ | ⟨q, x0, x1⟩
  · have h1 := q127 h y0 y1
    have h2 := q141 h x0 x1
    rw [f146_0, f290_0, hb, h1.1, h1.2, h2.1, h2.2, q132 h x0 x1 y0 y1]
  · have h1 := q124 h (p := x) (q := y) x0 (by omega) y0 (by omega)
    have h2 := h.gr (k := 8 * x + y) (by omega) (by omega)
    rcases q with rfl | rfl
    · rw [f146_1, f290_1, h1.1, h1.2]
      by_cases c : x = y
      · rw [if_pos c, h2.2.2.2 (by omega), if_pos rfl]
      · rw [if_neg c]
    · rw [f146_2, f290_2, h1.1, h1.2]
      by_cases c : x = y
      · rw [if_pos c, if_pos c]
      · rw [if_neg c, if_neg c]
        by_cases d : a (s + 1) (8 * x + y) < 9
        · rw [if_pos d, if_neg (by omega)]
        · rw [if_neg d, if_pos (by omega)]
  · have h1 := q129 h x0 x1
    rcases q with rfl | rfl
    · rw [f146_3, f290_3, h1]
    · rw [f146_4, f290_4, h1]
  · have h1 := q127 h x0 x1
    have h2 := h.hw x0 x1
    rcases q with rfl | rfl
    · rw [f146_5, f290_5, hb, h1.1, h1.2]
      by_cases c : a (s + 4) x < 2
      · rw [if_pos c, if_neg (by omega), if_neg (by omega)]
      · rw [if_neg c]
        by_cases d : a (s + 4) x = 2
        · rw [if_pos d]
        · rw [if_neg d, if_pos (by omega)]
    · rw [f146_6, f290_6, hb, h1.1, h1.2]
set_option maxRecDepth 16384 in
theorem g135_0 (m : MM) (s x y : Int) : g135 m s 0 x y = g138 m s x y (f132 m s x y) := rfl
set_option maxRecDepth 16384 in
theorem g135_1 (m : MM) (s x y : Int) : g135 m s 1 x y = g108 m s x y (-1) := rfl
set_option maxRecDepth 16384 in
theorem g135_2 (m : MM) (s x y : Int) : g135 m s 2 x y = g108 m s x y 1 := rfl
set_option maxRecDepth 16384 in
theorem g135_3 (m : MM) (s x y : Int) : g135 m s 3 x y = mu m s 7 (jor (m s 7) (jshl 1 x)) := rfl
set_option maxRecDepth 16384 in
theorem g135_4 (m : MM) (s x y : Int) : g135 m s 4 x y = mu m s 7 (jand (m s 7) (jxor (jshl 1 x) (-1))) := rfl
set_option maxRecDepth 16384 in
theorem g135_5 (m : MM) (s x y : Int) : g135 m s 5 x y = g139 m s x 3 := rfl
set_option maxRecDepth 16384 in
theorem g135_6 (m : MM) (s x y : Int) : g135 m s 6 x y = g130 m s x := rfl
set_option maxRecDepth 16384 in
theorem g135_7 (m : MM) (s x y : Int) : g135 m s 7 x y = (L135_131 m s 7 x y 0).2.2.2 := rfl
set_option maxRecDepth 16384 in
theorem g222_0 (m : MM) (x y : Int) : g222 m 148 0 x y = g181 m 148 x y := rfl
set_option maxRecDepth 16384 in
theorem g222_1 (m : MM) (x y : Int) : g222 m 148 1 x y = mu m (m 148 14) (s32 ((s32 (94 + (s32 (8 * x)))) + y)) (s32 (s32 ((m (m 148 14) (s32 ((s32 (94 + (s32 (8 * x)))) + y))) + (-1)))) := rfl
set_option maxRecDepth 16384 in
theorem g222_2 (m : MM) (x y : Int) : g222 m 148 2 x y = mu m (m 148 14) (s32 ((s32 (94 + (s32 (8 * x)))) + y)) (s32 (s32 ((m (m 148 14) (s32 ((s32 (94 + (s32 (8 * x)))) + y))) + 1))) := rfl
set_option maxRecDepth 16384 in
theorem g222_3 (m : MM) (x y : Int) : g222 m 148 3 x y = mu m (m 148 14) 93 (s32 (jxor (m (m 148 14) 93) (jshl 1 x))) := rfl
set_option maxRecDepth 16384 in
theorem g222_4 (m : MM) (x y : Int) : g222 m 148 4 x y = mu m (m 148 14) 93 (s32 (jxor (m (m 148 14) 93) (jshl 1 x))) := rfl
set_option maxRecDepth 16384 in
theorem g222_5 (m : MM) (x y : Int) : g222 m 148 5 x y = mu (mu m (m 148 14) (s32 (182 + x)) (s32 3)) ((mu m (m 148 14) (s32 (182 + x)) (s32 3)) 148 14) (s32 (190 + x)) (s32 ((mu m (m 148 14) (s32 (182 + x)) (s32 3)) ((mu m (m 148 14) (s32 (182 + x)) (s32 3)) 148 14) (s32 (84 + x)))) := rfl
set_option maxRecDepth 16384 in
theorem g222_6 (m : MM) (x y : Int) : g222 m 148 6 x y = g232 m 148 x := rfl
end
section
/-! Acts: what is so stays alike. -/
set_option maxRecDepth 16384 in
/-- places that days and acts change -/
def Qa (s x k : Int) : Prop := (x = s ∧ (k = 7 ∨ k = 8)) ∨ (s < x ∧ x ≤ s + 6 ∧ 0 ≤ k)
set_option maxRecDepth 16384 in
def Qb (x k : Int) : Prop := x = 150 ∧ 92 ≤ k
set_option maxRecDepth 16384 in
def Gx (a b a' b' : MM) (s : Int) : Prop := Sx a' b' s ∧ Fr (Qa s) a a' ∧ Fr Qb b b'
set_option maxRecDepth 16384 in
def SFo (a a' b b' : MM) (s f : Int) : Prop := a' (s + 4) f = a (s + 4) f ∧ a' (s + 5) f = a (s + 5) f ∧ (∀ k, 0 ≤ k → k < 3 → a' (s + 6) (3 * f + k) = a (s + 6) (3 * f + k) ∧ b' 150 (158 + (3 * f + k)) = b 150 (158 + (3 * f + k))) ∧ b' 150 (182 + f) = b 150 (182 + f) ∧ b' 150 (190 + f) = b 150 (190 + f)
set_option maxRecDepth 16384 in
theorem Gx.tr {a b a1 b1 a2 b2 : MM} {s : Int} (h1 : Gx a b a1 b1 s) (h2 : Gx a1 b1 a2 b2 s) : Gx a b a2 b2 s := ⟨h2.1, h1.2.1.tr h2.2.1, h1.2.2.tr h2.2.2⟩
set_option maxRecDepth 16384 in
theorem Gx.rf {a b : MM} {s : Int} (h : Sx a b s) : Gx a b a b s := ⟨h, Fr.rf _ _, Fr.rf _ _⟩
set_option maxRecDepth 16384 in
theorem Gx_of {a b a' b' : MM} {s : Int} (h : Sx a b s) (fa : Fr (Qa s) a a') (fb : Fr Qb b b') (hd : (a' s 8 = a s 8 ∧ b' 150 92 = b 150 92) ∨ (a' s 8 = b' 150 92 ∧ 0 ≤ a' s 8 ∧ a' s 8 ≤ 400)) (hr : (a' s 7 = a s 7 ∧ b' 150 93 = b 150 93) ∨ (a' s 7 = b' 150 93 ∧ s32 (a' s 7) = a' s 7)) (hg : (∀ k, 0 ≤ k → k < 64 → a' (s + 1) k = a (s + 1) k ∧ b' 150 (94 + k) = b 150 (94 + k)) ∨ (∀ k, 0 ≤ k → k < 64 → a' (s + 1) k = b' 150 (94 + k) ∧ 0 ≤ a' (s + 1) k ∧ a' (s + 1) k ≤ 9 ∧ (k % 9 = 0 → a' (s + 1) k = 0))) (ht : (∀ p, 0 ≤ p → p < 8 → a' (s + 2) p = a (s + 2) p ∧ b' 150 (198 + p) = b 150 (198 + p)) ∨ (∀ p, 0 ≤ p → p < 8 → a' (s + 2) p = b' 150 (198 + p) ∧ -1 ≤ a' (s + 2) p ∧ a' (s + 2) p < 8)) (hu : (∀ p, 0 ≤ p → p < 8 → a' (s + 3) p = a (s + 3) p ∧ b' 150 (206 + p) = b 150 (206 + p)) ∨ (∀ p, 0 ≤ p → p < 8 → a' (s + 3) p = b' 150 (206 + p) ∧ s32 (a' (s + 3) p) = a' (s + 3) p)) (hf : ∀ f, 0 ≤ f → f < a 3 7 → SFo a a' b b' s f ∨ Fo a' b' 3 s 150 0 f) : Gx a b a' b' s := by
  refine ⟨?_, fa, fb⟩
  obtain ⟨⟨⟨x0, x1, x2, x3, x4⟩, ⟨y1, y2, y3, y4, y5, y6⟩, z, w, s9, s140, sl⟩, ⟨⟨c1, c2, c3⟩, ⟨c4, c5, c6⟩, ⟨c7, c8⟩, c9, c10⟩, ⟨d1, d2, d3, d4, d5⟩⟩ := h
  have ea : ∀ x k, x < 9 → a' x k = a x k := fun x k hx => fa x k (by unfold Qa; omega)
  have es : ∀ k, k < 7 → a' s k = a s k := fun k hk => fa s k (by unfold Qa; omega)
  have eb : ∀ k, k < 92 → b' 150 k = b 150 k := fun k hk => fb 150 k (by unfold Qb; omega)
  have e36 := ea 3 6 (by decide)
  have e37 := ea 3 7 (by decide)
  refine ⟨⟨⟨?_, ?_, ?_, ?_, ?_⟩, ⟨?_, ?_, ?_, ?_, ?_, ?_⟩, ?_, ?_, s9, s140, ?_⟩, ⟨⟨?_, ?_, ?_⟩, ⟨?_, ?_, ?_⟩, ⟨?_, ?_⟩, fun k k0 k1 => ?_, fun k k0 k1 => ?_⟩, ⟨?_, ?_, fun k k0 k1 => ?_, fun p p0 p1 => ⟨?_, ?_⟩, fun f f0 f1 => ?_⟩⟩
  · rw [ea _ _ (by decide)]; exact x0
  · rw [ea _ _ (by decide)]; exact x1
  · rw [ea _ _ (by decide)]; exact x2
  · rw [ea _ _ (by decide)]; exact x3
  · rw [ea _ _ (by decide)]; exact x4
  · rw [es _ (by decide)]; exact y1
  · rw [es _ (by decide)]; exact y2
  · rw [es _ (by decide)]; exact y3
  · rw [es _ (by decide)]; exact y4
  · rw [es _ (by decide)]; exact y5
  · rw [es _ (by decide)]; exact y6
  · rw [es _ (by decide)]; exact z
  · rw [fb 148 14 (by unfold Qb; omega)]; exact w
  · rw [fa (s + 2) (-1) (by unfold Qa; omega)]; exact sl
  · rw [e36, eb _ (by decide)]; exact c1
  · rw [e36]; exact c2
  · rw [e36]; exact c3
  · rw [e37, eb _ (by decide)]; exact c4
  · rw [e37]; exact c5
  · rw [e37]; exact c6
  · rw [ea _ _ (by decide), eb _ (by decide)]; exact c7
  · rw [ea _ _ (by decide)]; exact c8
  · rw [ea _ _ (by decide), eb _ (by omega)]; exact c9 k k0 k1
  · rw [e37] at k1
    rw [ea (3 + 3) _ (by decide), ea (3 + 4) _ (by decide), eb _ (by omega), eb _ (by omega)]
    exact c10 k k0 k1
  · rcases hd with ⟨q1, q2⟩ | q
    · have q2 : b' 150 (0 + 92) = b 150 (0 + 92) := q2
      rw [q1, q2]; exact d1
    · exact q
  · rcases hr with ⟨q1, q2⟩ | q
    · have q2 : b' 150 (0 + 93) = b 150 (0 + 93) := q2
      rw [q1, q2]; exact d2
    · exact q
  · rcases hg with q | q
    · obtain ⟨q1, q2⟩ := q k k0 k1
      have q2 : b' 150 (0 + 94 + k) = b 150 (0 + 94 + k) := q2
      rw [q1, q2]; exact d3 k k0 k1
    · exact q k k0 k1
  · rcases ht with q | q
    · obtain ⟨q1, q2⟩ := q p p0 p1
      have q2 : b' 150 (0 + 198 + p) = b 150 (0 + 198 + p) := q2
      rw [q1, q2]; exact (d4 p p0 p1).1
    · exact q p p0 p1
  · rcases hu with q | q
    · obtain ⟨q1, q2⟩ := q p p0 p1
      have q2 : b' 150 (0 + 206 + p) = b 150 (0 + 206 + p) := q2
      rw [q1, q2]; exact (d4 p p0 p1).2
    · exact q p p0 p1
  · rw [e37] at f1
    rcases hf f f0 f1 with ⟨q1, q2, q3, q4, q5⟩ | q
    · obtain ⟨⟨g1, g1', g1''⟩, g2, g3, g4, g5, g6⟩ := d5 f f0 f1
      have q4 : b' 150 (0 + 182 + f) = b 150 (0 + 182 + f) := q4
      have q5 : b' 150 (0 + 190 + f) = b 150 (0 + 190 + f) := q5
      refine ⟨⟨?_, ?_, ?_⟩, ?_, ?_, ?_, fun k k0 k1 => ?_, ?_⟩
      · rw [q1, q4]; exact g1
      · rw [q1]; exact g1'
      · rw [q1]; exact g1''
      · rw [q1, q2, q5]; exact g2
      · rw [q1, q5]; exact g3
      · rw [q1, q5, ea (3 + 4) _ (by decide)]; exact g4
      · obtain ⟨r1, r2⟩ := q3 k k0 k1
        have r2 : b' 150 (0 + 158 + (3 * f + k)) = b 150 (0 + 158 + (3 * f + k)) := r2
        rw [q1, r1, r2]; exact g5 k k0 k1
      · rw [(q3 1 (by decide) (by decide)).1, ea (3 + 3) _ (by decide)]; exact g6
    · exact q
set_option maxRecDepth 16384 in
theorem SFo_same {a a' b b' : MM} {s f : Int} (h4 : a' (s + 4) f = a (s + 4) f) (h5 : a' (s + 5) f = a (s + 5) f) (h6 : ∀ k, a' (s + 6) k = a (s + 6) k) (hb : ∀ k, 158 ≤ k → k < 198 → b' 150 k = b 150 k) (f0 : 0 ≤ f) (f8 : f < 8) : SFo a a' b b' s f := ⟨h4, h5, fun k k0 k1 => ⟨h6 _, hb _ (by omega) (by omega)⟩, hb _ (by omega) (by omega), hb _ (by omega) (by omega)⟩
set_option maxRecDepth 16384 in
/-- a grudge -/
theorem Gx_gr {a b : MM} {s : Int} (h : Sx a b s) {k v : Int} (k0 : 0 ≤ k) (k1 : k < 64) (v0 : 0 ≤ v) (v9 : v ≤ 9) (vd : k % 9 = 0 → v = 0) : Gx a b (mu a (s + 1) k v) (mu b 150 (94 + k) v) s := by
  obtain ⟨e, e0, e8⟩ := h.f
  refine Gx_of h ((Fr.rf _ _).mu (Or.inr ⟨by omega, by omega, k0⟩)) ((Fr.rf _ _).mu ⟨rfl, by omega⟩) (Or.inl ⟨mu_a (by omega), mu_k (by omega)⟩) (Or.inl ⟨mu_a (by omega), mu_k (by omega)⟩) (Or.inr fun j j0 j1 => ?_) (Or.inl fun p p0 p1 => ⟨mu_a (by omega), mu_k (by omega)⟩) (Or.inl fun p p0 p1 => ⟨mu_a (by omega), mu_k (by omega)⟩) (fun f f0 f1 => Or.inl (SFo_same (mu_a (by omega)) (mu_a (by omega)) (fun j => mu_a (by omega)) (fun j _ _ => mu_k (by omega)) f0 (by omega)))
  by_cases c : j = k
  · rw [c, mu_s, mu_s]; exact ⟨rfl, v0, v9, vd⟩
  · rw [mu_k c, mu_k (by omega)]; exact h.gr j0 j1
set_option maxRecDepth 16384 in
/-- the drawer -/
theorem Gx_ret {a b : MM} {s : Int} (h : Sx a b s) {v : Int} (hv : s32 v = v) : Gx a b (mu a s 7 v) (mu b 150 93 v) s := by
  obtain ⟨e, e0, e8⟩ := h.f
  refine Gx_of h ((Fr.rf _ _).mu (Or.inl ⟨rfl, Or.inl rfl⟩)) ((Fr.rf _ _).mu ⟨rfl, by omega⟩) (Or.inl ⟨mu_k (by omega), mu_k (by omega)⟩) (Or.inr ⟨?_, ?_⟩) (Or.inl fun p p0 p1 => ⟨mu_a (by omega), mu_k (by omega)⟩) (Or.inl fun p p0 p1 => ⟨mu_a (by omega), mu_k (by omega)⟩) (Or.inl fun p p0 p1 => ⟨mu_a (by omega), mu_k (by omega)⟩) (fun f f0 f1 => Or.inl (SFo_same (mu_a (by omega)) (mu_a (by omega)) (fun j => mu_a (by omega)) (fun j _ _ => mu_k (by omega)) f0 (by omega)))
  · rw [mu_s, mu_s]
  · rw [mu_s]; exact hv
set_option maxRecDepth 16384 in
/-- the day -/
theorem Gx_day {a b : MM} {s : Int} (h : Sx a b s) {v : Int} (v0 : 0 ≤ v) (v4 : v ≤ 400) : Gx a b (mu a s 8 v) (mu b 150 92 v) s := by
  obtain ⟨e, e0, e8⟩ := h.f
  refine Gx_of h ((Fr.rf _ _).mu (Or.inl ⟨rfl, Or.inr rfl⟩)) ((Fr.rf _ _).mu ⟨rfl, by omega⟩) (Or.inr ⟨?_, ?_, ?_⟩) (Or.inl ⟨mu_k (by omega), mu_k (by omega)⟩) (Or.inl fun p p0 p1 => ⟨mu_a (by omega), mu_k (by omega)⟩) (Or.inl fun p p0 p1 => ⟨mu_a (by omega), mu_k (by omega)⟩) (Or.inl fun p p0 p1 => ⟨mu_a (by omega), mu_k (by omega)⟩) (fun f f0 f1 => Or.inl (SFo_same (mu_a (by omega)) (mu_a (by omega)) (fun j => mu_a (by omega)) (fun j _ _ => mu_k (by omega)) f0 (by omega)))
  · rw [mu_s, mu_s]
  · rw [mu_s]; exact v0
  · rw [mu_s]; exact v4
set_option maxRecDepth 16384 in
/-- who signed today -/
theorem Gx_td {a b : MM} {s : Int} (h : Sx a b s) {p v : Int} (p0 : 0 ≤ p) (p8 : p < 8) (v0 : -1 ≤ v) (v8 : v < 8) : Gx a b (mu a (s + 2) p v) (mu b 150 (198 + p) v) s := by
  obtain ⟨e, e0, e8⟩ := h.f
  refine Gx_of h ((Fr.rf _ _).mu (Or.inr ⟨by omega, by omega, p0⟩)) ((Fr.rf _ _).mu ⟨rfl, by omega⟩) (Or.inl ⟨mu_a (by omega), mu_k (by omega)⟩) (Or.inl ⟨mu_a (by omega), mu_k (by omega)⟩) (Or.inl fun p p0 p1 => ⟨mu_a (by omega), mu_k (by omega)⟩) (Or.inr fun j j0 j1 => ?_) (Or.inl fun p p0 p1 => ⟨mu_a (by omega), mu_k (by omega)⟩) (fun f f0 f1 => Or.inl (SFo_same (mu_a (by omega)) (mu_a (by omega)) (fun j => mu_a (by omega)) (fun j _ _ => mu_k (by omega)) f0 (by omega)))
  by_cases c : j = p
  · rw [c, mu_s, mu_s]; exact ⟨rfl, v0, v8⟩
  · rw [mu_k c, mu_k (by omega)]; exact h.td j0 j1
set_option maxRecDepth 16384 in
/-- how often one signed -/
theorem Gx_ts {a b : MM} {s : Int} (h : Sx a b s) {p v : Int} (p0 : 0 ≤ p) (p8 : p < 8) (hv : s32 v = v) : Gx a b (mu a (s + 3) p v) (mu b 150 (206 + p) v) s := by
  obtain ⟨e, e0, e8⟩ := h.f
  refine Gx_of h ((Fr.rf _ _).mu (Or.inr ⟨by omega, by omega, p0⟩)) ((Fr.rf _ _).mu ⟨rfl, by omega⟩) (Or.inl ⟨mu_a (by omega), mu_k (by omega)⟩) (Or.inl ⟨mu_a (by omega), mu_k (by omega)⟩) (Or.inl fun p p0 p1 => ⟨mu_a (by omega), mu_k (by omega)⟩) (Or.inl fun p p0 p1 => ⟨mu_a (by omega), mu_k (by omega)⟩) (Or.inr fun j j0 j1 => ?_) (fun f f0 f1 => Or.inl (SFo_same (mu_a (by omega)) (mu_a (by omega)) (fun j => mu_a (by omega)) (fun j _ _ => mu_k (by omega)) f0 (by omega)))
  by_cases c : j = p
  · rw [c, mu_s, mu_s]; exact ⟨rfl, hv⟩
  · rw [mu_k c, mu_k (by omega)]; exact (h.2.2.2.2.2.1 j j0 j1).2
set_option maxRecDepth 16384 in
/-- a form's places -/
def Qfa (s f x k : Int) : Prop := ((x = s + 4 ∨ x = s + 5) ∧ k = f) ∨ (x = s + 6 ∧ 3 * f ≤ k ∧ k < 3 * f + 3)
set_option maxRecDepth 16384 in
def Qfb (f x k : Int) : Prop := x = 150 ∧ (k = 182 + f ∨ k = 190 + f ∨ (158 + 3 * f ≤ k ∧ k < 161 + 3 * f))
set_option maxRecDepth 16384 in
theorem Gx_fo {a b a' b' : MM} {s : Int} (h : Sx a b s) {f : Int} (f0 : 0 ≤ f) (f1 : f < a 3 7) (fa : Fr (Qfa s f) a a') (fb : Fr (Qfb f) b b') (hn : Fo a' b' 3 s 150 0 f) : Gx a b a' b' s := by
  obtain ⟨e, e0, e8⟩ := h.f
  have hs := h.1.2.2.2.2
  refine Gx_of h (fa.mo fun x k q => by unfold Qfa at q; unfold Qa; omega) (fb.mo fun x k q => by unfold Qfb at q; unfold Qb; omega) (Or.inl ⟨fa _ _ (by unfold Qfa; omega), fb _ _ (by unfold Qfb; omega)⟩) (Or.inl ⟨fa _ _ (by unfold Qfa; omega), fb _ _ (by unfold Qfb; omega)⟩) (Or.inl fun p p0 p1 => ⟨fa _ _ (by unfold Qfa; omega), fb _ _ (by unfold Qfb; omega)⟩) (Or.inl fun p p0 p1 => ⟨fa _ _ (by unfold Qfa; omega), fb _ _ (by unfold Qfb; omega)⟩) (Or.inl fun p p0 p1 => ⟨fa _ _ (by unfold Qfa; omega), fb _ _ (by unfold Qfb; omega)⟩) (fun j j0 j1 => ?_)
  by_cases c : j = f
  · rw [c]; exact Or.inr hn
  · exact Or.inl ⟨fa _ _ (by unfold Qfa; omega), fa _ _ (by unfold Qfa; omega), fun k k0 k1 => ⟨fa _ _ (by unfold Qfa; omega), fb _ _ (by unfold Qfb; omega)⟩, fb _ _ (by unfold Qfb; omega), fb _ _ (by unfold Qfb; omega)⟩
end
