/-! Questions: martyr, eased. -/
set_option maxRecDepth 16384 in
theorem q120 {a b : MM} {s : Int} (h : Sx a b s) (p z1 z2 : Int) : f120 a s p = (L224_27 b 148 z1 z2 p 0 0).2.2.1 := by
  obtain ⟨e, e0, e8⟩ := h.f
  have hb := h.bn
  have hs0 := h.le
  unfold f120 L120_4 L224_27
  refine Lp_sim (f := K120_4 a s p 0 0) (f' := K224_27 b 148 z1 z2 p 0 0) (P := fun x y => x = y ∧ 0 ≤ x.2 ∧ x.2 ≤ a 3 7) (Q := fun t t' => t.2.2.1 = t'.2.2.1) (fun x => (a 3 7 - x.2).toNat) ?_ (0, 0) (0, 0) ⟨rfl, Int.le_refl _, e0⟩
  rintro ⟨x, i⟩ ⟨y, j⟩ ⟨c1, c2, c3⟩
  cases c1
  dsimp only at c2 c3
  have eA : K120_4 a s p 0 0 (x, i) = S120_4 a s p x i := rfl
  have eB : K224_27 b 148 z1 z2 p 0 0 (x, i) = S224_27 b 148 z1 z2 p x i := rfl
  rw [eA, eB]
  unfold S120_4 S224_27
  rw [hs0, hb, ← e]
  by_cases c : a 3 7 ≤ i
  · rw [if_pos c, if_pos c]
    exact Or.inr ⟨_, _, rfl, rfl, rfl⟩
  · have q := q128 h (f := i) c2 (by omega)
    rw [if_neg c, if_neg c, q, s32_id (z := i + 1) (by omega) (by omega)]
    by_cases d : f204 b 148 i = p
    · simp only [if_pos d]
      exact Or.inl ⟨_, _, rfl, rfl, ⟨rfl, by dsimp only; omega, by dsimp only; omega⟩, by dsimp only; omega⟩
    · simp only [if_neg d]
      exact Or.inl ⟨_, _, rfl, rfl, ⟨rfl, by dsimp only; omega, by dsimp only; omega⟩, by dsimp only; omega⟩
set_option maxRecDepth 16384 in
theorem martyr_q {a b : MM} (h : C2 a b) : f20 a 0 = f224 b 148 := by
  have hT : C2 a (mu b 148 0 0) := C2_fr3 h (fun _ _ _ => rfl) (fun x k q _ => by
    by_cases c : x = 148
    · exact mu_k (by unfold PJs at q; omega)
    · exact mu_a c)
  unfold f20 f224
  generalize mu b 148 0 0 = c at hT
  have hS := hT.1.2.1
  have h1 : a 0 1 = 3 := hT.1.1.1
  have h3 : a 0 3 = 15 := hT.1.1.2.1
  obtain ⟨e, e0, e8⟩ := hS.p
  have hb := hS.bn
  unfold L20_6 L224_11
  refine Lp_sim (f := K20_6 a 0 (-1) 0 0 0) (f' := K224_11 c 148 (-1) 0 0 0 0) (P := fun x y => x.1 = y.1 ∧ x.2.1 = y.2.1 ∧ x.2.2.1 = y.2.2.1 ∧ 0 ≤ x.2.2.1 ∧ x.2.2.1 ≤ a 3 6) (Q := fun t t' => t.2.2.1 = t'.2.2.1) (fun x => (a 3 6 - x.2.2.1).toNat) ?_ (-1, 0, 0, 0) (-1, 0, 0, 0, 0) ⟨rfl, rfl, rfl, Int.le_refl _, e0⟩
  rintro ⟨x1, x2, i, x4⟩ ⟨y1, y2, j, y4, y5⟩ ⟨c1, c2, c3, c4, c5⟩
  dsimp only at c1 c2 c3 c4 c5
  subst c1 c2 c3
  have eA : K20_6 a 0 (-1) 0 0 0 (x1, x2, i, x4) = S20_6 a 0 x1 x2 i x4 := rfl
  have eB : K224_11 c 148 (-1) 0 0 0 0 (x1, x2, i, y4, y5) = S224_11 c 148 x1 x2 i y4 y5 := rfl
  rw [eA, eB]
  unfold S20_6 S224_11
  rw [h1, h3, hb, ← e]
  by_cases g : a 3 6 ≤ i
  · rw [if_pos g, if_pos g]
    exact Or.inr ⟨_, _, rfl, rfl, rfl⟩
  · have q := q120 hS i x1 x2
    rw [if_neg g, if_neg g, ← q, s32_id (z := i + 1) (by omega) (by omega)]
    by_cases d : f120 a 15 i ≤ x2
    · rw [if_pos d, if_neg (by omega)]
      exact Or.inl ⟨_, _, rfl, rfl, ⟨rfl, rfl, rfl, by dsimp only; omega, by dsimp only; omega⟩, by dsimp only; omega⟩
    · rw [if_neg d, if_pos (by omega)]
      exact Or.inl ⟨_, _, rfl, rfl, ⟨rfl, rfl, rfl, by dsimp only; omega, by dsimp only; omega⟩, by dsimp only; omega⟩
set_option maxRecDepth 16384 in
theorem q117 {a b : MM} {s : Int} (h : Sx a b s) {f p : Int} (f0 : 0 ≤ f) (f1 : f < a 3 7) (p0 : 0 ≤ p) (p1 : p < a 3 6) : f117 a s f p = (if f198 b 148 p (b 150 (s32 (76 + f))) = 0 then -1 else (L186_45 b 148 f p 0 0 0).2.2.1) := by
  obtain ⟨e, e0, e8⟩ := h.p
  have hb := h.bn
  have hs0 := h.le
  have hab := h.ab f0 f1
  have h66 := q66 h f0 f1
  have qp := q124 h (p := p) (q := a 6 f) p0 (by omega) hab.2.1 hab.2.2
  have gp := h.gr (k := 8 * p + a 6 f) (by omega) (by omega)
  unfold f117
  rw [hs0, h66.1, h66.2, qp.1, qp.2]
  by_cases c0 : a (s + 1) (8 * p + a 6 f) = 0
  · rw [if_pos c0, if_pos c0]
  · have np : ¬ p = a 6 f := fun q => c0 (gp.2.2.2 (by omega))
    rw [if_neg c0, if_neg c0, if_neg np]
    unfold L117_35 L186_45
    refine Lp_sim (f := K117_35 a s f p (a 6 f) (a (s + 1) (8 * p + a 6 f)) 0 0 0) (f' := K186_45 b 148 f p 0 0 0) (P := fun x y => x.1 = y.1 ∧ x.2.1 = y.2.1 ∧ 0 ≤ x.2.1 ∧ x.2.1 ≤ a 3 6 ∧ 0 ≤ x.1 ∧ x.1 ≤ 20 * x.2.1) (Q := fun t t' => t.2.2.1 = t'.2.2.1) (fun x => (a 3 6 - x.2.1).toNat) ?_ (0, 0, 0) (0, 0, 0) ⟨rfl, rfl, Int.le_refl _, e0, Int.le_refl _, Int.le_refl _⟩
    rintro ⟨x, i, x3⟩ ⟨y, j, y3⟩ ⟨c1, c2, c3, c4, c5, c6⟩
    dsimp only at c1 c2 c3 c4 c5 c6
    subst c1 c2
    have eA : K117_35 a s f p (a 6 f) (a (s + 1) (8 * p + a 6 f)) 0 0 0 (x, i, x3) = S117_35 a s f p (a 6 f) (a (s + 1) (8 * p + a 6 f)) x i x3 := rfl
    have eB : K186_45 b 148 f p 0 0 0 (x, i, y3) = S186_45 b 148 f p x i y3 := rfl
    rw [eA, eB]
    unfold S117_35 S186_45
    rw [hs0, hb, ← e, h66.2]
    by_cases c : a 3 6 ≤ i
    · rw [if_pos c, if_pos c]
      exact Or.inr ⟨_, _, rfl, rfl, rfl⟩
    · have qi := q124 h (p := i) (q := a 6 f) c3 (by omega) hab.2.1 hab.2.2
      have gi := h.gr (k := 8 * i + a 6 f) (by omega) (by omega)
      rw [if_neg c, if_neg c, qi.1, qi.2, qp.2, s32_id (z := i + 1) (by omega) (by omega)]
      generalize hG : a (s + 1) (8 * i + a 6 f) = G at gi
      generalize hP : a (s + 1) (8 * p + a 6 f) = Q at gp c0
      have b1 : 0 ≤ G ∧ G ≤ 9 := ⟨gi.2.1, gi.2.2.1⟩
      have b2 : 1 ≤ Q ∧ Q ≤ 9 := ⟨by have := gp.2.1; omega, gp.2.2.1⟩
      rw [s32_id (z := G - Q) (by omega) (by omega), s32_id (z := G - Q + 0) (by omega) (by omega), s32_id (z := G - Q + 1) (by omega) (by omega), s32_id (z := Q - 1) (by omega) (by omega), s32_id (z := G - (Q - 1)) (by omega) (by omega)]
      have go : ∀ {z z' y' : Int}, x + z = y' → 0 ≤ z → z ≤ 20 → ∀ w w' : Int, (∃ t t' : Int × Int × Int, (Sum.inl (x + z, i + 1, w) : (Int × Int × Int) ⊕ (Nat × Int × (Int × Int × Int))) = .inl t ∧ (Sum.inl (y', i + 1, w') : (Int × Int × Int) ⊕ (Nat × Int × (Int × Int × Int))) = .inl t' ∧ (t.1 = t'.1 ∧ t.2.1 = t'.2.1 ∧ 0 ≤ t.2.1 ∧ t.2.1 ≤ a 3 6 ∧ 0 ≤ t.1 ∧ t.1 ≤ 20 * t.2.1) ∧ (a 3 6 - t.2.1).toNat < (a 3 6 - i).toNat) := fun e1 z0 z1 w w' => ⟨_, _, rfl, rfl, ⟨e1, rfl, by dsimp only; omega, by dsimp only; omega, by dsimp only; omega, by dsimp only; omega⟩, by dsimp only; omega⟩
      left
      by_cases d1 : i = p
      · subst d1
        rw [if_pos rfl, if_pos (Int.le_refl _), if_pos rfl]
        have := go (z := 0) (z' := 0) (y' := x) (by omega) (by decide) (by decide)
        rw [Int.add_zero] at this
        exact this _ _
      · rw [if_neg d1]
        by_cases d2 : i = a 6 f
        · have z := gi.2.2.2 (by omega)
          rw [if_pos d2]
          have := go (z := 0) (z' := 0) (y' := x) (by omega) (by decide) (by decide)
          rw [Int.add_zero] at this
          by_cases d3 : p ≤ i
          · rw [if_pos d3, if_neg d1, if_pos (by omega)]
            exact this _ _
          · rw [if_neg d3, if_neg d1, if_pos (by omega)]
            exact this _ _
        · rw [if_neg d2]
          unfold jmax
          by_cases d3 : p ≤ i
          · rw [if_pos d3, if_pos d3, if_neg d1]
            by_cases d4 : G - Q + 0 ≤ 0
            · rw [if_pos d4, if_neg (by omega), s32_id (z := x + 0) (by omega) (by omega)]
              exact go (z := 0) (z' := 0) (by omega) (by decide) (by decide) _ _
            · rw [if_neg d4, if_pos (by omega), s32_id (z := x + (G - Q)) (by omega) (by omega), s32_id (z := x + (G - Q + 0)) (by omega) (by omega)]
              exact go (z' := 0) (by omega) (by omega) (by omega) _ _
          · rw [if_neg d3, if_neg d3, if_neg d1]
            by_cases d4 : G - Q + 1 ≤ 0
            · rw [if_pos d4, if_neg (by omega), s32_id (z := x + 0) (by omega) (by omega)]
              exact go (z := 0) (z' := 0) (by omega) (by decide) (by decide) _ _
            · rw [if_neg d4]
              by_cases d5 : 0 < G - (Q - 1)
              · rw [if_pos d5, s32_id (z := x + (G - (Q - 1))) (by omega) (by omega), s32_id (z := x + (G - Q + 1)) (by omega) (by omega)]
                exact go (z' := 0) (by omega) (by omega) (by omega) _ _
              · omega
set_option maxRecDepth 16384 in
theorem eased_q {a b : MM} (h : C2 a b) (f p : Int) : f12 a 0 f p = f186 b 148 f p := by
  have hT : C2 a (mu b 148 0 0) := C2_fr3 h (fun _ _ _ => rfl) (fun x k q _ => by
    by_cases c : x = 148
    · exact mu_k (by unfold PJs at q; omega)
    · exact mu_a c)
  unfold f12 f186
  generalize mu b 148 0 0 = c at hT
  have hS := hT.1.2.1
  have h1 : a 0 1 = 3 := hT.1.1.1
  have h3 : a 0 3 = 15 := hT.1.1.2.1
  rw [h1, h3, q72 hS f, q73 hS p, hS.bn]
  by_cases c0 : f208 c 148 f = 0
  · rw [if_pos c0, if_pos c0]
  · by_cases c1 : f213 c 148 p = 0
    · rw [if_neg c0, if_neg c0, if_pos c1, if_pos c1]
    · have cf : 0 ≤ f ∧ f < a 3 7 := by
        by_cases q : 0 ≤ f ∧ f < a 3 7
        · exact q
        · exact absurd ((q208i hS).mpr q) c0
      have cp : 0 ≤ p ∧ p < a 3 6 := by
        by_cases q : 0 ≤ p ∧ p < a 3 6
        · exact q
        · exact absurd ((q213i hS).mpr q) c1
      rw [if_neg c0, if_neg c0, if_neg c1, if_neg c1]
      exact q117 hS cf.1 cf.2 cp.1 cp.2
