/-! What may be said of a form, of a person. -/
set_option maxRecDepth 16384 in
theorem q125 {a b : MM} {s : Int} (h : Sx a b s) {p : Int} (p0 : 0 ≤ p) (p1 : p < 8) : f125 a s p = f282 b 148 (s32 (94 + (s32 (8 * p)))) 8 := by
  have hb := h.bn
  rw [s32_id (z := 8 * p) (by omega) (by omega), s32_id (z := 94 + 8 * p) (by omega) (by omega)]
  unfold f125 f282 L125_4 L282_5
  refine Lp_sim (f := K125_4 a s p 0 0) (f' := K282_5 b 148 (94 + 8 * p) 8 0 0) (P := fun x y => x = y ∧ 0 ≤ x.2 ∧ x.2 ≤ 8) (Q := fun t t' => t.2.2.1 = t'.2.2.1) (fun x => (8 - x.2).toNat) ?_ _ _ ⟨rfl, by decide, by decide⟩
  rintro ⟨x, i⟩ ⟨y, j⟩ ⟨c1, c2, c3⟩
  cases c1
  dsimp only at c2 c3
  have eA : K125_4 a s p 0 0 (x, i) = S125_4 a s p x i := rfl
  have eB : K282_5 b 148 (94 + 8 * p) 8 0 0 (x, i) = S282_5 b 148 (94 + 8 * p) 8 x i := rfl
  rw [eA, eB]
  unfold S125_4 S282_5
  by_cases c : 8 ≤ i
  · rw [if_pos c, if_pos c]
    exact Or.inr ⟨_, _, rfl, rfl, rfl⟩
  · have g := (q124 h p0 p1 c2 (by omega : i < 8)).1
    have g2 := (h.gr (k := 8 * p + i) (by omega) (by omega)).1
    rw [if_neg c, if_neg c, hb, s32_id (z := i + 1) (by omega) (by omega), s32_id (z := 94 + 8 * p + i) (by omega) (by omega), g, g2, show (94 : Int) + 8 * p + i = 94 + (8 * p + i) by omega]
    exact Or.inl ⟨_, _, rfl, rfl, ⟨rfl, by dsimp only; omega, by dsimp only; omega⟩, by dsimp only; omega⟩
set_option maxRecDepth 16384 in
theorem q114 {a b : MM} {s : Int} (h : Sx a b s) {f : Int} (f0 : 0 ≤ f) (f1 : f < a 3 7) : f114 a s f = b 150 (s32 (190 + f)) := by
  have hF := h.fo f0 f1
  obtain ⟨-, -, f8⟩ := h.f
  have h0 : a s 0 = 3 := h.1.2.2.1
  have h5 : a s 5 = s + 5 := h.1.2.1.2.2.2.2.1
  have h3 : a 3 3 = 7 := h.1.1.2.2.2.1
  rw [s32_id (z := 190 + f) (by omega) (by omega)]
  unfold f114 f85
  rw [(q127 h f0 f1).1, h0, h5, h3]
  rcases i72 h f with ⟨-, e⟩ | ⟨e, -, -⟩
  · omega
  rw [e, if_neg (show ¬ (1 : Int) = 0 by decide)]
  by_cases c1 : a (s + 4) f = 1
  · rw [if_pos c1]; exact (hF.2.1 c1).1.symm
  · rw [if_neg c1]
    by_cases c2 : a (s + 4) f = 2
    · rw [if_pos c2]; exact (hF.2.2.1 c2).symm
    · rw [if_neg c2]; exact (hF.2.2.2.1 c1 c2).symm
set_option maxRecDepth 16384 in
/-- the class's answer about a form -/
noncomputable def vF (a : MM) (f w : Int) : Int := if w = 0 then f66 a 3 f else if w = 1 then f128 a 15 f else if w = 5 then f127 a 15 f else if w = 6 then f114 a 15 f else f142 a 15 f (s32 (w - 2))
set_option maxRecDepth 16384 in
theorem formq_pair {a b : MM} (h : Sx a b 15) (h0 : Sx a (mu b 148 0 0) 15) (f w : Int) : ((f72 a 3 f = 0 ∨ w < 0 ∨ 6 < w) ∧ g194 b 148 f w 148 0 = 1) ∨ ((¬ (f72 a 3 f = 0) ∧ 0 ≤ w ∧ w ≤ 6) ∧ g194 b 148 f w 148 0 = 0 ∧ f194 b 148 f w = vF a f w) := by
  have hr : ∀ m : MM, g263 m 148 148 0 = 1 := fun m => mu_s _ _ _ _
  have hz : mu b 148 0 0 148 0 = 0 := mu_s _ _ _ _
  unfold g194 f194
  generalize mu b 148 0 0 = c at *
  rw [← q72 h0 f]
  rcases i72 h0 f with ⟨e, -⟩ | ⟨e, f0, f1⟩
  · rw [e, if_pos rfl]
    exact Or.inl ⟨Or.inl rfl, hr c⟩
  rw [e, if_neg (show ¬ (1 : Int) = 0 by decide), if_neg (show ¬ (1 : Int) = 0 by decide)]
  have hb := h0.bn
  unfold vF
  by_cases c0 : w = 0
  · subst c0
    obtain ⟨x, y⟩ := q66 h0 f0 f1
    refine Or.inr ⟨⟨by decide, by decide, by decide⟩, ?_⟩
    simp only [if_pos]
    rw [hb, y, x]
    exact ⟨hz, rfl⟩
  rw [if_neg c0, if_neg c0, if_neg c0]
  by_cases c1 : w = 1
  · subst c1
    refine Or.inr ⟨⟨by decide, by decide, by decide⟩, ?_⟩
    simp only [if_pos]
    exact ⟨hz, (q128 h0 f0 f1).symm⟩
  rw [if_neg c1, if_neg c1, if_neg c1]
  by_cases c2 : w = 2
  · subst c2
    refine Or.inr ⟨⟨by decide, by decide, by decide⟩, ?_⟩
    simp only [if_pos]
    rw [if_neg (by decide), if_neg (by decide), s32_id (by decide) (by decide)]
    obtain ⟨x, y⟩ := q142 (k := 2 - 2) h0 f0 f1 (by decide) (by decide)
    exact ⟨hz, by rw [x, y]⟩
  rw [if_neg c2, if_neg c2]
  by_cases c3 : w = 3
  · subst c3
    refine Or.inr ⟨⟨by decide, by decide, by decide⟩, ?_⟩
    simp only [if_pos]
    rw [if_neg (by decide), if_neg (by decide), s32_id (by decide) (by decide)]
    obtain ⟨x, y⟩ := q142 (k := 3 - 2) h0 f0 f1 (by decide) (by decide)
    exact ⟨hz, by rw [x, y]⟩
  rw [if_neg c3, if_neg c3]
  by_cases c4 : w = 4
  · subst c4
    refine Or.inr ⟨⟨by decide, by decide, by decide⟩, ?_⟩
    simp only [if_pos]
    rw [if_neg (by decide), if_neg (by decide), s32_id (by decide) (by decide)]
    obtain ⟨x, y⟩ := q142 (k := 4 - 2) h0 f0 f1 (by decide) (by decide)
    exact ⟨hz, by rw [x, y]⟩
  rw [if_neg c4, if_neg c4]
  by_cases c5 : w = 5
  · subst c5
    obtain ⟨x, y⟩ := q127 h0 f0 f1
    refine Or.inr ⟨⟨by decide, by decide, by decide⟩, ?_⟩
    simp only [if_pos]
    rw [hb, y, x]
    exact ⟨hz, rfl⟩
  rw [if_neg c5, if_neg c5, if_neg c5]
  by_cases c6 : w = 6
  · subst c6
    refine Or.inr ⟨⟨by decide, by decide, by decide⟩, ?_⟩
    simp only [if_pos]
    rw [hb, q114 h0 f0 f1]
    exact ⟨hz, rfl⟩
  rw [if_neg c6]
  exact Or.inl ⟨by omega, hr c⟩
set_option maxRecDepth 16384 in
/-- the class's answer about a person -/
noncomputable def vP (a : MM) (p w : Int) : Int := if w = 0 then (if f129 a 15 p = 0 then 0 else 1) else if w = 1 then f141 a 15 p else if w = 2 then f145 a 15 p else if w = 3 then f125 a 15 p else f84 a 3 p
set_option maxRecDepth 16384 in
theorem personq_pair {a b : MM} (h : Sx a b 15) (h0 : Sx a (mu b 148 0 0) 15) (p w : Int) : ((f73 a 3 p = 0 ∨ w < 0 ∨ 4 < w) ∧ g238 b 148 p w 148 0 = 1) ∨ ((¬ (f73 a 3 p = 0) ∧ 0 ≤ w ∧ w ≤ 4) ∧ g238 b 148 p w 148 0 = 0 ∧ f238 b 148 p w = vP a p w) := by
  have hr : ∀ m : MM, g263 m 148 148 0 = 1 := fun m => mu_s _ _ _ _
  have hz : mu b 148 0 0 148 0 = 0 := mu_s _ _ _ _
  unfold g238 f238
  generalize mu b 148 0 0 = c at *
  rw [← q73 h0 p]
  rcases i73 h0 p with ⟨e, -⟩ | ⟨e, p0, p1⟩
  · rw [e, if_pos rfl]
    exact Or.inl ⟨Or.inl rfl, hr c⟩
  rw [e, if_neg (show ¬ (1 : Int) = 0 by decide), if_neg (show ¬ (1 : Int) = 0 by decide)]
  have hb := h0.bn
  obtain ⟨-, -, p8⟩ := h0.p
  unfold vP
  by_cases c0 : w = 0
  · subst c0
    refine Or.inr ⟨⟨by decide, by decide, by decide⟩, ?_⟩
    simp only [if_pos]
    rw [q129 h0 p0 p1]
    refine ⟨?_, rfl⟩
    split <;> exact hz
  rw [if_neg c0, if_neg c0, if_neg c0]
  by_cases c1 : w = 1
  · subst c1
    obtain ⟨x, y⟩ := q141 h0 p0 p1
    refine Or.inr ⟨⟨by decide, by decide, by decide⟩, ?_⟩
    simp only [if_pos]
    rw [hb, y, x]
    exact ⟨hz, rfl⟩
  rw [if_neg c1, if_neg c1, if_neg c1]
  by_cases c2 : w = 2
  · subst c2
    refine Or.inr ⟨⟨by decide, by decide, by decide⟩, ?_⟩
    simp only [if_pos]
    have h00 : a 15 0 = 3 := h0.1.2.2.1
    have h3 : a 15 3 = 18 := h0.1.2.1.2.2.1
    unfold f145
    rw [h00, e, if_neg (by decide), h3, hb, s32_id (z := 206 + p) (by omega) (by omega)]
    exact ⟨hz, (h0.ts p0 (by omega)).symm⟩
  rw [if_neg c2, if_neg c2, if_neg c2]
  by_cases c3 : w = 3
  · subst c3
    refine Or.inr ⟨⟨by decide, by decide, by decide⟩, ?_⟩
    simp only [if_pos]
    exact ⟨hz, (q125 h0 p0 (by omega)).symm⟩
  rw [if_neg c3, if_neg c3, if_neg c3]
  by_cases c4 : w = 4
  · subst c4
    refine Or.inr ⟨⟨by decide, by decide, by decide⟩, ?_⟩
    simp only [if_pos]
    have h4 : a 3 4 = 8 := h0.1.1.2.2.2.2
    unfold f84
    rw [e, if_neg (by decide), h4, hb, s32_id (z := 4 + p) (by omega) (by omega)]
    exact ⟨hz, (h0.shy p0 (by omega)).symm⟩
  rw [if_neg c4]
  exact Or.inl ⟨by omega, hr c⟩
