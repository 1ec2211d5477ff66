section
/-! Questions: part, can, now. -/
set_option maxRecDepth 16384 in
theorem Sx.le {a b : MM} {s : Int} (h : Sx a b s) : a s 0 = 3 := h.1.2.2.1
set_option maxRecDepth 16384 in
theorem bad72 {a : MM} {s f : Int} (hs : a s 0 = 3) (c : ¬ (0 ≤ f ∧ f < a 3 7)) : f127 a s f = -1 := by
  unfold f127 f72
  rw [hs]
  by_cases c1 : f < 0
  · rw [if_pos c1, if_pos rfl]
  · rw [if_neg c1, if_pos (by omega : a 3 7 ≤ f), if_pos rfl]
set_option maxRecDepth 16384 in
theorem q208i {a b : MM} {s : Int} (h : Sx a b s) {f : Int} : (f208 b 148 f = 0) ↔ ¬ (0 ≤ f ∧ f < a 3 7) := by
  obtain ⟨e, e0, e8⟩ := h.f
  rw [← q72 h f]
  unfold f72
  by_cases c1 : f < 0
  · rw [if_pos c1]
    exact ⟨fun _ => by omega, fun _ => rfl⟩
  · rw [if_neg c1]
    by_cases c2 : a 3 7 ≤ f
    · rw [if_pos c2]
      exact ⟨fun _ => by omega, fun _ => rfl⟩
    · rw [if_neg c2, if_neg (by omega : ¬ 8 ≤ f)]
      exact ⟨fun q => absurd q (by decide), fun q => absurd ⟨by omega, by omega⟩ q⟩
set_option maxRecDepth 16384 in
theorem q213i {a b : MM} {s : Int} (h : Sx a b s) {p : Int} : (f213 b 148 p = 0) ↔ ¬ (0 ≤ p ∧ p < a 3 6) := by
  obtain ⟨e, e0, e8⟩ := h.p
  rw [← q73 h p]
  unfold f73
  by_cases c1 : p < 0
  · rw [if_pos c1]
    exact ⟨fun _ => by omega, fun _ => rfl⟩
  · rw [if_neg c1]
    by_cases c2 : a 3 6 ≤ p
    · rw [if_pos c2]
      exact ⟨fun _ => by omega, fun _ => rfl⟩
    · rw [if_neg c2, if_neg (by omega : ¬ 8 ≤ p)]
      exact ⟨fun q => absurd q (by decide), fun q => absurd ⟨by omega, by omega⟩ q⟩
set_option maxRecDepth 16384 in
/-- part, of any person and form -/
theorem part_eq {a b : MM} {s : Int} (h : Sx a b s) (p f : Int) : f132 a s p f = (if f213 b 148 p = 0 then -1 else (if f208 b 148 f = 0 then -1 else f235 b 148 p f)) := by
  by_cases cf : 0 ≤ f ∧ f < a 3 7
  · have n1 : ¬ f208 b 148 f = 0 := fun q => (q208i h).mp q cf
    rw [if_neg n1]
    by_cases cp : 0 ≤ p ∧ p < a 3 6
    · have n2 : ¬ f213 b 148 p = 0 := fun q => (q213i h).mp q cp
      rw [if_neg n2]
      exact q132 h cp.1 cp.2 cf.1 cf.2
    · rw [if_pos ((q213i h).mpr cp)]
      have e73 : f73 a 3 p = 0 := by rw [q73 h p]; exact (q213i h).mpr cp
      have e133 : ∀ u, f133 a s u p f = -1 := fun u => by
        unfold f133
        rw [h.le, if_pos e73]
      have e142 : f142 a s f (-1) = -1 := by
        have e137 : f137 a f (-1) = -1 := by
          unfold f137
          (repeat' split) <;> first | rfl | omega
        unfold f142
        first
          | rw [e137, if_pos (by decide)]
          | (simp only [e137]; rfl)
      unfold f132
      rw [e133, e142, if_pos rfl]
      split
      · split <;> rfl
      · rfl
  · rw [if_pos ((q208i h).mpr cf)]
    have e : f132 a s p f = -1 := by
      unfold f132
      rw [bad72 h.le cf, if_neg (by decide)]
    rw [e]
    split <;> rfl
set_option maxRecDepth 16384 in
theorem q143 {a b : MM} {s : Int} (h : Sx a b s) {f : Int} (f0 : 0 ≤ f) (f1 : f < a 3 7) : f143 a s f = f174 b 148 f := by
  obtain ⟨e, e0, e8⟩ := h.p
  have hb := h.bn
  have hs0 := h.le
  unfold f143 f174 L143_4 L174_4
  refine Lp_sim (f := K143_4 a s f 0 0) (f' := K174_4 b 148 f 0 0) (P := fun x y => x = y ∧ 0 ≤ x.2 ∧ x.2 ≤ a 3 6) (Q := fun t t' => t.2.2.1 = t'.2.2.1) (fun x => (a 3 6 - x.2).toNat) ?_ (0, 0) (0, 0) ⟨rfl, Int.le_refl _, e0⟩
  rintro ⟨x, i⟩ ⟨y, j⟩ ⟨c1, c2, c3⟩
  cases c1
  dsimp only at c2 c3
  have eA : K143_4 a s f 0 0 (x, i) = S143_4 a s f x i := rfl
  have eB : K174_4 b 148 f 0 0 (x, i) = S174_4 b 148 f x i := rfl
  rw [eA, eB]
  unfold S143_4 S174_4
  rw [hs0, hb, ← e]
  by_cases c : a 3 6 ≤ i
  · rw [if_pos c, if_pos c]
    exact Or.inr ⟨_, _, rfl, rfl, rfl⟩
  · have q := q132 h (p := i) (f := f) c2 (by omega) f0 f1
    rw [if_neg c, if_neg c, q, s32_id (z := i + 1) (by omega) (by omega)]
    by_cases d : f235 b 148 i f = -1
    · rw [if_pos d]
      exact Or.inl ⟨_, _, rfl, rfl, ⟨rfl, by dsimp only; omega, by dsimp only; omega⟩, by dsimp only; omega⟩
    · rw [if_neg d]
      exact Or.inl ⟨_, _, rfl, rfl, ⟨rfl, by dsimp only; omega, by dsimp only; omega⟩, by dsimp only; omega⟩
set_option maxRecDepth 16384 in
theorem q112 {a b : MM} {s : Int} (h : Sx a b s) (z : Int) : f112 a s = (L228_74 b 148 z 0 0).2.2.1 := by
  obtain ⟨e, e0, e8⟩ := h.f
  have hb := h.bn
  have hs0 := h.le
  unfold f112 L112_4 L228_74
  refine Lp_sim (f := K112_4 a s 0 0) (f' := K228_74 b 148 z 0 0) (P := fun x y => x = y ∧ 0 ≤ x.2 ∧ x.2 ≤ a 3 7) (Q := fun t t' => t.2.2.1 = t'.2.2.1) (fun x => (a 3 7 - x.2).toNat) ?_ (0, 0) (0, 0) ⟨rfl, Int.le_refl _, e0⟩
  rintro ⟨x, i⟩ ⟨y, j⟩ ⟨c1, c2, c3⟩
  cases c1
  dsimp only at c2 c3
  have eA : K112_4 a s 0 0 (x, i) = S112_4 a s x i := rfl
  have eB : K228_74 b 148 z 0 0 (x, i) = S228_74 b 148 z x i := rfl
  rw [eA, eB]
  unfold S112_4 S228_74 f206
  rw [hs0, hb, ← e]
  by_cases c : a 3 7 ≤ i
  · rw [if_pos c, if_pos c]
    exact Or.inr ⟨_, _, rfl, rfl, rfl⟩
  · have q := q128 h (f := i) c2 (by omega)
    rw [if_neg c, if_neg c, q, s32_id (z := i + 1) (by omega) (by omega)]
    by_cases d : f204 b 148 i = -1
    · simp only [if_pos d]
      rw [if_neg (by decide : ¬ (1 : Int) = 0)]
      exact Or.inl ⟨_, _, rfl, rfl, ⟨rfl, by dsimp only; omega, by dsimp only; omega⟩, by dsimp only; omega⟩
    · simp only [if_neg d]
      rw [if_pos trivial]
      exact Or.inl ⟨_, _, rfl, rfl, ⟨rfl, by dsimp only; omega, by dsimp only; omega⟩, by dsimp only; omega⟩
set_option maxRecDepth 16384 in
theorem q109 {a b : MM} {s : Int} (h : Sx a b s) (hl : a (s + 1) (-1) = 64) (h9 : s < 140) : f109 a s = f282 b 148 94 64 := by
  have hb := h.bn
  have h1 : a s 1 = s + 1 := h.1.2.1.1
  have hs := h.1.2.2.2.2
  unfold f109 f282 L109_4 L282_5
  refine Lp_sim (f := K109_4 a s 0 0) (f' := K282_5 b 148 94 64 0 0) (P := fun x y => x = y ∧ 0 ≤ x.2 ∧ x.2 ≤ 64) (Q := fun t t' => t.2.2.1 = t'.2.2.1) (fun x => (64 - x.2).toNat) ?_ (0, 0) (0, 0) ⟨rfl, Int.le_refl _, by decide⟩
  rintro ⟨x, i⟩ ⟨y, j⟩ ⟨c1, c2, c3⟩
  cases c1
  dsimp only at c2 c3
  have eA : K109_4 a s 0 0 (x, i) = S109_4 a s x i := rfl
  have eB : K282_5 b 148 94 64 0 0 (x, i) = S282_5 b 148 94 64 x i := rfl
  rw [eA, eB]
  unfold S109_4 S282_5
  rw [h1, hb, hl, if_neg (by omega : ¬ s + 1 = 1000050), s32_id (z := 64) (by decide) (by decide)]
  by_cases c : 64 ≤ i
  · rw [if_pos c, if_pos c]
    exact Or.inr ⟨_, _, rfl, rfl, rfl⟩
  · have g := (h.gr (k := i) c2 (by omega)).1
    rw [if_neg c, if_neg c, s32_id (z := i + 1) (by omega) (by omega), s32_id (z := 94 + i) (by omega) (by omega), g]
    exact Or.inl ⟨_, _, rfl, rfl, ⟨rfl, by dsimp only; omega, by dsimp only; omega⟩, by dsimp only; omega⟩
set_option maxRecDepth 16384 in
theorem now_eq {a b : MM} (h : C2 a b) (hl : a 16 (-1) = 64) (x : Int) : f23 a 0 x = f228 b 148 x := by
  have hT : C2 a (mu b 148 0 0) := C2_fr3 h (fun _ _ _ => rfl) (fun x k q _ => by
    by_cases c : x = 148
    · exact mu_k (by unfold PJs at q; omega)
    · exact mu_a c)
  unfold f23 f228
  generalize mu b 148 0 0 = c at hT
  have hS := hT.1.2.1
  have h3 : a 0 3 = 15 := hT.1.1.2.1
  rw [h3, hS.bn]
  by_cases c0 : x = 0
  · rw [if_pos c0, if_pos c0]
    exact hS.day.1
  · rw [if_neg c0, if_neg c0]
    by_cases c1 : x = 1
    · rw [if_pos c1, if_pos c1, c1]
      exact (q119 hS 0).trans (congrArg (f286 c 148) ((s32_id (z := 1 - 1) (by decide) (by decide)).trans (by decide : (1 : Int) - 1 = 0)).symm)
    · rw [if_neg c1, if_neg c1]
      by_cases c2 : x = 2
      · rw [if_pos c2, if_pos c2, c2]
        exact (q119 hS 1).trans (congrArg (f286 c 148) ((s32_id (z := 2 - 1) (by decide) (by decide)).trans (by decide : (2 : Int) - 1 = 1)).symm)
      · rw [if_neg c2, if_neg c2]
        by_cases c3 : x = 3
        · rw [if_pos c3, if_pos c3, c3]
          exact (q119 hS 2).trans (congrArg (f286 c 148) ((s32_id (z := 3 - 1) (by decide) (by decide)).trans (by decide : (3 : Int) - 1 = 2)).symm)
        · rw [if_neg c3, if_neg c3]
          by_cases c4 : x = 4
          · rw [if_pos c4, if_pos c4, c4]
            exact (q119 hS 3).trans (congrArg (f286 c 148) ((s32_id (z := 4 - 1) (by decide) (by decide)).trans (by decide : (4 : Int) - 1 = 3)).symm)
          · rw [if_neg c4, if_neg c4]
            by_cases c5 : x = 5
            · rw [if_pos c5, if_pos c5]
              exact q112 hS x
            · rw [if_neg c5, if_neg c5]
              by_cases c6 : x = 6
              · rw [if_pos c6, if_pos c6]
                exact hS.2.2.2.1.1
              · rw [if_neg c6, if_neg c6]
                by_cases c7 : x = 7
                · rw [if_pos c7, if_pos c7]
                  exact q109 hS hl (by decide)
                · rw [if_neg c7, if_neg c7]
set_option maxRecDepth 16384 in
theorem can_eq {a b : MM} (h : C2 a b) (f : Int) : f5 a 0 f = f173 b 148 f := by
  have hT : C2 a (mu b 148 0 0) := C2_fr3 h (fun _ _ _ => rfl) (fun x k q _ => by
    by_cases c : x = 148
    · exact mu_k (by unfold PJs at q; omega)
    · exact mu_a c)
  unfold f5 f173
  generalize mu b 148 0 0 = c at hT
  have hS := hT.1.2.1
  have h1 : a 0 1 = 3 := hT.1.1.1
  have h3 : a 0 3 = 15 := hT.1.1.2.1
  rw [h1, h3, q72 hS f]
  by_cases c0 : f208 c 148 f = 0
  · rw [if_pos c0, if_pos c0]
  · rw [if_neg c0, if_neg c0]
    have cf : 0 ≤ f ∧ f < a 3 7 := by
      by_cases q : 0 ≤ f ∧ f < a 3 7
      · exact q
      · exact absurd ((q208i hS).mpr q) c0
    exact q143 hS cf.1 cf.2
set_option maxRecDepth 16384 in
theorem part_q {a b : MM} (h : C2 a b) (p f : Int) : f26 a 0 p f = f233 b 148 p f := by
  have hT : C2 a (mu b 148 0 0) := C2_fr3 h (fun _ _ _ => rfl) (fun x k q _ => by
    by_cases c : x = 148
    · exact mu_k (by unfold PJs at q; omega)
    · exact mu_a c)
  unfold f26 f233
  generalize mu b 148 0 0 = c at hT
  have h3 : a 0 3 = 15 := hT.1.1.2.1
  rw [h3]
  exact part_eq hT.1.2.1 p f
end
section
/-! Questions: martyr, eased. -/
set_option maxRecDepth 16384 in
theorem q120 {a b : MM} {s : Int} (h : Sx a b s) (p z1 z2 : Int) : f120 a s p = (L224_27 b 148 z1 z2 p 0 0).2.2.1 := by
  obtain ⟨e, e0, e8⟩ := h.f
  have hb := h.bn
  have hs0 := h.le
  unfold f120 L120_4 L224_27
  refine Lp_sim (f := K120_4 a s p 0 0) (f' := K224_27 b 148 z1 z2 p 0 0) (P := fun x y => x = y ∧ 0 ≤ x.2 ∧ x.2 ≤ a 3 7) (Q := fun t t' => t.2.2.1 = t'.2.2.1) (fun x => (a 3 7 - x.2).toNat) ?_ (0, 0) (0, 0) ⟨rfl, Int.le_refl _, e0⟩
  rintro ⟨x, i⟩ ⟨y, j⟩ ⟨c1, c2, c3⟩
  cases c1
  dsimp only at c2 c3
  have eA : K120_4 a s p 0 0 (x, i) = S120_4 a s p x i := rfl
  have eB : K224_27 b 148 z1 z2 p 0 0 (x, i) = S224_27 b 148 z1 z2 p x i := rfl
  rw [eA, eB]
  unfold S120_4 S224_27
  rw [hs0, hb, ← e]
  by_cases c : a 3 7 ≤ i
  · rw [if_pos c, if_pos c]
    exact Or.inr ⟨_, _, rfl, rfl, rfl⟩
  · have q := q128 h (f := i) c2 (by omega)
    rw [if_neg c, if_neg c, q, s32_id (z := i + 1) (by omega) (by omega)]
    by_cases d : f204 b 148 i = p
    · simp only [if_pos d]
      exact Or.inl ⟨_, _, rfl, rfl, ⟨rfl, by dsimp only; omega, by dsimp only; omega⟩, by dsimp only; omega⟩
    · simp only [if_neg d]
      exact Or.inl ⟨_, _, rfl, rfl, ⟨rfl, by dsimp only; omega, by dsimp only; omega⟩, by dsimp only; omega⟩
set_option maxRecDepth 16384 in
theorem martyr_q {a b : MM} (h : C2 a b) : f20 a 0 = f224 b 148 := by
  have hT : C2 a (mu b 148 0 0) := C2_fr3 h (fun _ _ _ => rfl) (fun x k q _ => by
    by_cases c : x = 148
    · exact mu_k (by unfold PJs at q; omega)
    · exact mu_a c)
  unfold f20 f224
  generalize mu b 148 0 0 = c at hT
  have hS := hT.1.2.1
  have h1 : a 0 1 = 3 := hT.1.1.1
  have h3 : a 0 3 = 15 := hT.1.1.2.1
  obtain ⟨e, e0, e8⟩ := hS.p
  have hb := hS.bn
  unfold L20_6 L224_11
  refine Lp_sim (f := K20_6 a 0 (-1) 0 0 0) (f' := K224_11 c 148 (-1) 0 0 0 0) (P := fun x y => x.1 = y.1 ∧ x.2.1 = y.2.1 ∧ x.2.2.1 = y.2.2.1 ∧ 0 ≤ x.2.2.1 ∧ x.2.2.1 ≤ a 3 6) (Q := fun t t' => t.2.2.1 = t'.2.2.1) (fun x => (a 3 6 - x.2.2.1).toNat) ?_ (-1, 0, 0, 0) (-1, 0, 0, 0, 0) ⟨rfl, rfl, rfl, Int.le_refl _, e0⟩
  rintro ⟨x1, x2, i, x4⟩ ⟨y1, y2, j, y4, y5⟩ ⟨c1, c2, c3, c4, c5⟩
  dsimp only at c1 c2 c3 c4 c5
  subst c1 c2 c3
  have eA : K20_6 a 0 (-1) 0 0 0 (x1, x2, i, x4) = S20_6 a 0 x1 x2 i x4 := rfl
  have eB : K224_11 c 148 (-1) 0 0 0 0 (x1, x2, i, y4, y5) = S224_11 c 148 x1 x2 i y4 y5 := rfl
  rw [eA, eB]
  unfold S20_6 S224_11
  rw [h1, h3, hb, ← e]
  by_cases g : a 3 6 ≤ i
  · rw [if_pos g, if_pos g]
    exact Or.inr ⟨_, _, rfl, rfl, rfl⟩
  · have q := q120 hS i x1 x2
    rw [if_neg g, if_neg g, ← q, s32_id (z := i + 1) (by omega) (by omega)]
    by_cases d : f120 a 15 i ≤ x2
    · rw [if_pos d, if_neg (by omega)]
      exact Or.inl ⟨_, _, rfl, rfl, ⟨rfl, rfl, rfl, by dsimp only; omega, by dsimp only; omega⟩, by dsimp only; omega⟩
    · rw [if_neg d, if_pos (by omega)]
      exact Or.inl ⟨_, _, rfl, rfl, ⟨rfl, rfl, rfl, by dsimp only; omega, by dsimp only; omega⟩, by dsimp only; omega⟩
set_option maxRecDepth 16384 in
theorem q117 {a b : MM} {s : Int} (h : Sx a b s) {f p : Int} (f0 : 0 ≤ f) (f1 : f < a 3 7) (p0 : 0 ≤ p) (p1 : p < a 3 6) : f117 a s f p = (if f198 b 148 p (b 150 (s32 (76 + f))) = 0 then -1 else (L186_45 b 148 f p 0 0 0).2.2.1) := by
  obtain ⟨e, e0, e8⟩ := h.p
  have hb := h.bn
  have hs0 := h.le
  have hab := h.ab f0 f1
  have h66 := q66 h f0 f1
  have qp := q124 h (p := p) (q := a 6 f) p0 (by omega) hab.2.1 hab.2.2
  have gp := h.gr (k := 8 * p + a 6 f) (by omega) (by omega)
  unfold f117
  rw [hs0, h66.1, h66.2, qp.1, qp.2]
  by_cases c0 : a (s + 1) (8 * p + a 6 f) = 0
  · rw [if_pos c0, if_pos c0]
  · have np : ¬ p = a 6 f := fun q => c0 (gp.2.2.2 (by omega))
    rw [if_neg c0, if_neg c0, if_neg np]
    unfold L117_35 L186_45
    refine Lp_sim (f := K117_35 a s f p (a 6 f) (a (s + 1) (8 * p + a 6 f)) 0 0 0) (f' := K186_45 b 148 f p 0 0 0) (P := fun x y => x.1 = y.1 ∧ x.2.1 = y.2.1 ∧ 0 ≤ x.2.1 ∧ x.2.1 ≤ a 3 6 ∧ 0 ≤ x.1 ∧ x.1 ≤ 20 * x.2.1) (Q := fun t t' => t.2.2.1 = t'.2.2.1) (fun x => (a 3 6 - x.2.1).toNat) ?_ (0, 0, 0) (0, 0, 0) ⟨rfl, rfl, Int.le_refl _, e0, Int.le_refl _, Int.le_refl _⟩
    rintro ⟨x, i, x3⟩ ⟨y, j, y3⟩ ⟨c1, c2, c3, c4, c5, c6⟩
    dsimp only at c1 c2 c3 c4 c5 c6
    subst c1 c2
    have eA : K117_35 a s f p (a 6 f) (a (s + 1) (8 * p + a 6 f)) 0 0 0 (x, i, x3) = S117_35 a s f p (a 6 f) (a (s + 1) (8 * p + a 6 f)) x i x3 := rfl
    have eB : K186_45 b 148 f p 0 0 0 (x, i, y3) = S186_45 b 148 f p x i y3 := rfl
    rw [eA, eB]
    unfold S117_35 S186_45
    rw [hs0, hb, ← e, h66.2]
    by_cases c : a 3 6 ≤ i
    · rw [if_pos c, if_pos c]
      exact Or.inr ⟨_, _, rfl, rfl, rfl⟩
    · have qi := q124 h (p := i) (q := a 6 f) c3 (by omega) hab.2.1 hab.2.2
      have gi := h.gr (k := 8 * i + a 6 f) (by omega) (by omega)
      rw [if_neg c, if_neg c, qi.1, qi.2, qp.2, s32_id (z := i + 1) (by omega) (by omega)]
      generalize hG : a (s + 1) (8 * i + a 6 f) = G at gi
      generalize hP : a (s + 1) (8 * p + a 6 f) = Q at gp c0
      have b1 : 0 ≤ G ∧ G ≤ 9 := ⟨gi.2.1, gi.2.2.1⟩
      have b2 : 1 ≤ Q ∧ Q ≤ 9 := ⟨by have := gp.2.1; omega, gp.2.2.1⟩
      rw [s32_id (z := G - Q) (by omega) (by omega), s32_id (z := G - Q + 0) (by omega) (by omega), s32_id (z := G - Q + 1) (by omega) (by omega), s32_id (z := Q - 1) (by omega) (by omega), s32_id (z := G - (Q - 1)) (by omega) (by omega)]
      have go : ∀ {z z' y' : Int}, x + z = y' → 0 ≤ z → z ≤ 20 → ∀ w w' : Int, (∃ t t' : Int × Int × Int, (Sum.inl (x + z, i + 1, w) : (Int × Int × Int) ⊕ (Nat × Int × (Int × Int × Int))) = .inl t ∧ (Sum.inl (y', i + 1, w') : (Int × Int × Int) ⊕ (Nat × Int × (Int × Int × Int))) = .inl t' ∧ (t.1 = t'.1 ∧ t.2.1 = t'.2.1 ∧ 0 ≤ t.2.1 ∧ t.2.1 ≤ a 3 6 ∧ 0 ≤ t.1 ∧ t.1 ≤ 20 * t.2.1) ∧ (a 3 6 - t.2.1).toNat < (a 3 6 - i).toNat) := fun e1 z0 z1 w w' => ⟨_, _, rfl, rfl, ⟨e1, rfl, by dsimp only; omega, by dsimp only; omega, by dsimp only; omega, by dsimp only; omega⟩, by dsimp only; omega⟩
      left
      by_cases d1 : i = p
      · subst d1
        rw [if_pos rfl, if_pos (Int.le_refl _), if_pos rfl]
        have := go (z := 0) (z' := 0) (y' := x) (by omega) (by decide) (by decide)
        rw [Int.add_zero] at this
        exact this _ _
      · rw [if_neg d1]
        by_cases d2 : i = a 6 f
        · have z := gi.2.2.2 (by omega)
          rw [if_pos d2]
          have := go (z := 0) (z' := 0) (y' := x) (by omega) (by decide) (by decide)
          rw [Int.add_zero] at this
          by_cases d3 : p ≤ i
          · rw [if_pos d3, if_neg d1, if_pos (by omega)]
            exact this _ _
          · rw [if_neg d3, if_neg d1, if_pos (by omega)]
            exact this _ _
        · rw [if_neg d2]
          unfold jmax
          by_cases d3 : p ≤ i
          · rw [if_pos d3, if_pos d3, if_neg d1]
            by_cases d4 : G - Q + 0 ≤ 0
            · rw [if_pos d4, if_neg (by omega), s32_id (z := x + 0) (by omega) (by omega)]
              exact go (z := 0) (z' := 0) (by omega) (by decide) (by decide) _ _
            · rw [if_neg d4, if_pos (by omega), s32_id (z := x + (G - Q)) (by omega) (by omega), s32_id (z := x + (G - Q + 0)) (by omega) (by omega)]
              exact go (z' := 0) (by omega) (by omega) (by omega) _ _
          · rw [if_neg d3, if_neg d3, if_neg d1]
            by_cases d4 : G - Q + 1 ≤ 0
            · rw [if_pos d4, if_neg (by omega), s32_id (z := x + 0) (by omega) (by omega)]
              exact go (z := 0) (z' := 0) (by omega) (by decide) (by decide) _ _
            · rw [if_neg d4]
              by_cases d5 : 0 < G - (Q - 1)
              · rw [if_pos d5, s32_id (z := x + (G - (Q - 1))) (by omega) (by omega), s32_id (z := x + (G - Q + 1)) (by omega) (by omega)]
                exact go (z' := 0) (by omega) (by omega) (by omega) _ _
              · omega
set_option maxRecDepth 16384 in
theorem eased_q {a b : MM} (h : C2 a b) (f p : Int) : f12 a 0 f p = f186 b 148 f p := by
  have hT : C2 a (mu b 148 0 0) := C2_fr3 h (fun _ _ _ => rfl) (fun x k q _ => by
    by_cases c : x = 148
    · exact mu_k (by unfold PJs at q; omega)
    · exact mu_a c)
  unfold f12 f186
  generalize mu b 148 0 0 = c at hT
  have hS := hT.1.2.1
  have h1 : a 0 1 = 3 := hT.1.1.1
  have h3 : a 0 3 = 15 := hT.1.1.2.1
  rw [h1, h3, q72 hS f, q73 hS p, hS.bn]
  by_cases c0 : f208 c 148 f = 0
  · rw [if_pos c0, if_pos c0]
  · by_cases c1 : f213 c 148 p = 0
    · rw [if_neg c0, if_neg c0, if_pos c1, if_pos c1]
    · have cf : 0 ≤ f ∧ f < a 3 7 := by
        by_cases q : 0 ≤ f ∧ f < a 3 7
        · exact q
        · exact absurd ((q208i hS).mpr q) c0
      have cp : 0 ≤ p ∧ p < a 3 6 := by
        by_cases q : 0 ≤ p ∧ p < a 3 6
        · exact q
        · exact absurd ((q213i hS).mpr q) c1
      rw [if_neg c0, if_neg c0, if_neg c1, if_neg c1]
      exact q117 hS cf.1 cf.2 cp.1 cp.2
end
section
/-! Questions: served. -/
set_option maxRecDepth 16384 in
theorem jor_jand0 (x y M : Int) : jand (jor x y) M = 0 ↔ jand x M = 0 ∧ jand y M = 0 := by
  rw [jand_eq, jand_eq, jand_eq, jor_eq]
  unfold o32
  rw [i32_z, i32_z, i32_z, Int32.toBitVec_and, Int32.toBitVec_and, Int32.toBitVec_and, Int32.ofInt_toInt, Int32.toBitVec_or]
  generalize (Int32.ofInt x).toBitVec = A
  generalize (Int32.ofInt y).toBitVec = B
  generalize (Int32.ofInt M).toBitVec = C
  constructor
  · intro h
    constructor
    · ext i hi
      have := congrArg (fun z => z.getLsbD i) h
      simp only [BitVec.getLsbD_and, BitVec.getLsbD_or] at this
      simp only [BitVec.getElem_and, BitVec.getElem_zero, BitVec.getLsbD_zero, BitVec.getLsbD_eq_getElem hi] at this ⊢
      revert this
      cases A[i] <;> cases B[i] <;> cases C[i] <;> simp
    · ext i hi
      have := congrArg (fun z => z.getLsbD i) h
      simp only [BitVec.getLsbD_and, BitVec.getLsbD_or] at this
      simp only [BitVec.getElem_and, BitVec.getElem_zero, BitVec.getLsbD_zero, BitVec.getLsbD_eq_getElem hi] at this ⊢
      revert this
      cases A[i] <;> cases B[i] <;> cases C[i] <;> simp
  · rintro ⟨h1, h2⟩
    ext i hi
    have t1 := congrArg (fun z => z.getLsbD i) h1
    have t2 := congrArg (fun z => z.getLsbD i) h2
    simp only [BitVec.getLsbD_and] at t1 t2
    simp only [BitVec.getElem_and, BitVec.getElem_or, BitVec.getElem_zero, BitVec.getLsbD_zero, BitVec.getLsbD_eq_getElem hi] at t1 t2 ⊢
    revert t1 t2
    cases A[i] <;> cases B[i] <;> cases C[i] <;> simp
set_option maxRecDepth 16384 in
theorem jand_c (x y : Int) : jand x y = jand y x := by
  rw [jand_eq, jand_eq]
  show (Int32.ofInt x &&& Int32.ofInt y).toInt = (Int32.ofInt y &&& Int32.ofInt x).toInt
  rw [Int32.and_comm]
set_option maxRecDepth 16384 in
theorem jand_0 (M : Int) : jand 0 M = 0 := by
  rw [jand_eq]
  unfold o32
  rw [i32_z, Int32.toBitVec_and]
  simp
set_option maxRecDepth 16384 in
/-- who is wanted for a hurt -/
def Hc (a : MM) (s f j : Int) : Prop := j ≠ a 6 f ∧ j ≠ f128 a s f ∧ jand (a 8 j) (jshl 1 (a 6 f)) = 0
set_option maxRecDepth 16384 in
theorem f84_8 {a b : MM} {s : Int} (h : Sx a b s) {j : Int} (j0 : 0 ≤ j) (j1 : j < a 3 6) : f84 a 3 j = a 8 j := by
  have e73 : ¬ f73 a 3 j = 0 := fun q => by
    rw [q73 h j] at q
    exact (q213i h).mp q ⟨j0, j1⟩
  obtain ⟨-, -, -, -, r4⟩ := h.1.1
  unfold f84
  rw [if_neg e73]
  first
    | rw [r4]; rfl
    | (have : a 3 4 = 8 := by first | exact r4 | omega
       rw [this])
set_option maxRecDepth 16384 in
theorem q144 {a b : MM} {s : Int} (h : Sx a b s) {f M : Int} (f0 : 0 ≤ f) (f1 : f < a 3 7) : jand (f144 a s f) M = 0 ↔ ∀ j, 0 ≤ j → j < a 3 6 → Hc a s f j → jand (jshl 1 j) M = 0 := by
  obtain ⟨e, e0, e8⟩ := h.p
  have hs0 := h.le
  have h66 := q66 h f0 f1
  unfold f144
  rw [hs0, h66.1]
  unfold L144_21
  refine Lp_ind (f := K144_21 a s f (a 6 f) (f128 a s f) 0 0) (P := fun x => 0 ≤ x.2 ∧ x.2 ≤ a 3 6 ∧ (jand x.1 M = 0 ↔ ∀ j, 0 ≤ j → j < x.2 → Hc a s f j → jand (jshl 1 j) M = 0)) (Q := fun t => jand t.2.2.1 M = 0 ↔ ∀ j, 0 ≤ j → j < a 3 6 → Hc a s f j → jand (jshl 1 j) M = 0) (fun x => (a 3 6 - x.2).toNat) ?_ (0, 0) ⟨Int.le_refl _, e0, ⟨fun _ j j0 j1 => by dsimp only at j1; omega, fun _ => jand_0 M⟩⟩
  rintro ⟨x, i⟩ ⟨c2, c3, c4⟩
  dsimp only at c2 c3 c4
  have eA : K144_21 a s f (a 6 f) (f128 a s f) 0 0 (x, i) = S144_21 a s f (a 6 f) (f128 a s f) x i := rfl
  rw [eA]
  unfold S144_21
  rw [hs0]
  by_cases c : a 3 6 ≤ i
  · rw [if_pos c]
    refine Or.inr ⟨_, rfl, ?_⟩
    have : i = a 3 6 := by omega
    rw [this] at c4
    exact c4
  · rw [if_neg c, s32_id (z := i + 1) (by omega) (by omega), f84_8 h c2 (by omega)]
    left
    have skip : ¬ Hc a s f i → (jand x M = 0 ↔ ∀ j, 0 ≤ j → j < i + 1 → Hc a s f j → jand (jshl 1 j) M = 0) := fun n => by
      rw [c4]
      exact ⟨fun q j j0 j1 hj => by
        by_cases d : j = i
        · rw [d] at hj
          exact absurd hj n
        · exact q j j0 (by omega) hj, fun q j j0 j1 => q j j0 (by omega)⟩
    by_cases d1 : i = a 6 f
    · rw [if_pos d1]
      exact ⟨_, rfl, ⟨by dsimp only; omega, by dsimp only; omega, skip (fun q => q.1 d1)⟩, by dsimp only; omega⟩
    · rw [if_neg d1]
      by_cases d2 : i = f128 a s f
      · rw [if_pos d2]
        exact ⟨_, rfl, ⟨by dsimp only; omega, by dsimp only; omega, skip (fun q => q.2.1 d2)⟩, by dsimp only; omega⟩
      · rw [if_neg d2]
        by_cases d3 : jand (a 8 i) (jshl 1 (a 6 f)) = 0
        · rw [if_pos d3]
          refine ⟨_, rfl, ⟨by dsimp only; omega, by dsimp only; omega, ?_⟩, by dsimp only; omega⟩
          dsimp only
          rw [jor_jand0, c4]
          exact ⟨fun q j j0 j1 hj => by
            by_cases d : j = i
            · rw [d]; exact q.2
            · exact q.1 j j0 (by omega) hj, fun q => ⟨fun j j0 j1 => q j j0 (by omega), q i c2 (by omega) ⟨d1, d2, d3⟩⟩⟩
        · rw [if_neg d3]
          exact ⟨_, rfl, ⟨by dsimp only; omega, by dsimp only; omega, skip (fun q => d3 q.2.2)⟩, by dsimp only; omega⟩
set_option maxRecDepth 16384 in
theorem q216 {a b : MM} {s : Int} (h : Sx a b s) {f j : Int} (f0 : 0 ≤ f) (f1 : f < a 3 7) (j0 : 0 ≤ j) (j1 : j < a 3 6) : f216 b 148 j f (f204 b 148 f) = 0 ↔ ¬ Hc a s f j := by
  obtain ⟨e, e0, e8⟩ := h.p
  have hab := h.ab f0 f1
  have h66 := q66 h f0 f1
  have hac : a 8 j = b 150 (4 + j) := (h.2.1.2.2.2.1 j j0 (by omega)).1.trans (by rw [Int.zero_add])
  unfold f216 Hc
  rw [h.bn, h66.2, ← q128 h f0 f1, s32_id (z := 4 + j) (by omega) (by omega), ← hac]
  have hk := has_ok b (a 8 j) (a 6 f) hab.2.1 hab.2.2
  by_cases d1 : j = a 6 f
  · rw [if_pos d1]
    exact ⟨fun _ q => q.1 d1, fun _ => rfl⟩
  · rw [if_neg d1]
    by_cases d2 : j = f128 a s f
    · rw [if_pos d2]
      exact ⟨fun _ q => q.2.1 d2, fun _ => rfl⟩
    · rw [if_neg d2]
      by_cases d3 : f199 b (a 8 j) (a 6 f) = 0
      · rw [if_pos d3]
        exact ⟨fun q => absurd q (by decide), fun q => absurd ⟨d1, d2, hk.mp d3⟩ q⟩
      · rw [if_neg d3]
        exact ⟨fun _ q => d3 (hk.mpr q.2.2), fun _ => rfl⟩
set_option maxRecDepth 16384 in
theorem q201 {a b : MM} {s : Int} (h : Sx a b s) {f M : Int} (f0 : 0 ≤ f) (f1 : f < a 3 7) : f201 b 148 f M = 0 ↔ ∀ j, 0 ≤ j → j < a 3 6 → Hc a s f j → f199 b M j = 0 := by
  obtain ⟨e, e0, e8⟩ := h.p
  have hb := h.bn
  unfold f201
  have key : ∀ t : Nat × Int × Int, ((t.1 = 1 ∧ ∀ j, 0 ≤ j → j < a 3 6 → Hc a s f j → f199 b M j = 0) ∨ (t.1 = 2 ∧ t.2.1 = 1 ∧ ∃ j, 0 ≤ j ∧ j < a 3 6 ∧ Hc a s f j ∧ ¬ f199 b M j = 0)) → ((if t.1 = 1 then (0 : Int) else t.2.1) = 0 ↔ ∀ j, 0 ≤ j → j < a 3 6 → Hc a s f j → f199 b M j = 0) := by
    rintro t (⟨t1, t2⟩ | ⟨t1, t2, j, j0, j1, j2, j3⟩)
    · rw [if_pos t1]
      exact ⟨fun _ => t2, fun _ => rfl⟩
    · rw [if_neg (by omega), t2]
      exact ⟨fun q => absurd q (by decide), fun q => absurd (q j j0 j1 j2) j3⟩
  refine key _ ?_
  unfold L201_2
  refine Lp_ind (f := K201_2 b 148 f M 0) (P := fun x => 0 ≤ x ∧ x ≤ a 3 6 ∧ ∀ j, 0 ≤ j → j < x → Hc a s f j → f199 b M j = 0) (Q := fun t => (t.1 = 1 ∧ ∀ j, 0 ≤ j → j < a 3 6 → Hc a s f j → f199 b M j = 0) ∨ (t.1 = 2 ∧ t.2.1 = 1 ∧ ∃ j, 0 ≤ j ∧ j < a 3 6 ∧ Hc a s f j ∧ ¬ f199 b M j = 0)) (fun x => (a 3 6 - x).toNat) ?_ 0 ⟨Int.le_refl _, e0, fun j j0 j1 => by omega⟩
  rintro i ⟨c2, c3, c4⟩
  have eA : K201_2 b 148 f M 0 i = S201_2 b 148 f M i := rfl
  rw [eA]
  unfold S201_2
  rw [hb, ← e]
  by_cases c : a 3 6 ≤ i
  · rw [if_pos c]
    have : i = a 3 6 := by omega
    rw [this] at c4
    exact Or.inr ⟨_, rfl, Or.inl ⟨rfl, c4⟩⟩
  · have q := q216 h (f := f) (j := i) f0 f1 c2 (by omega)
    rw [if_neg c, s32_id (z := i + 1) (by omega) (by omega)]
    have ext1 : (Hc a s f i → f199 b M i = 0) → ∀ j, 0 ≤ j → j < i + 1 → Hc a s f j → f199 b M j = 0 := fun n j j0 j1 hj => by
      by_cases d : j = i
      · rw [d] at hj ⊢
        exact n hj
      · exact c4 j j0 (by omega) hj
    by_cases d1 : f199 b M i = 0
    · rw [if_pos d1]
      exact Or.inl ⟨_, rfl, ⟨by omega, by omega, ext1 (fun _ => d1)⟩, by omega⟩
    · rw [if_neg d1]
      by_cases d2 : f216 b 148 i f (f204 b 148 f) = 0
      · rw [if_pos d2]
        exact Or.inl ⟨_, rfl, ⟨by omega, by omega, ext1 (fun z => absurd z (q.mp d2))⟩, by omega⟩
      · rw [if_neg d2]
        refine Or.inr ⟨_, rfl, Or.inr ⟨rfl, rfl, i, c2, by omega, ?_, d1⟩⟩
        by_cases z : Hc a s f i
        · exact z
        · exact absurd (q.mpr z) d2
set_option maxRecDepth 16384 in
/-- served: counted alike -/
theorem served_eq {a b : MM} {s : Int} (h : Sx a b s) {M M' : Int} (hM : ∀ j, 0 ≤ j → j < a 3 6 → (jand (jshl 1 j) M = 0 ↔ f199 b M' j = 0)) {f : Int} (f0 : 0 ≤ f) (f1 : f < a 3 7) : jand (f144 a s f) M = 0 ↔ f201 b 148 f M' = 0 := by
  rw [q144 h f0 f1, q201 h f0 f1]
  exact ⟨fun q j j0 j1 hj => (hM j j0 j1).mp (q j j0 j1 hj), fun q j j0 j1 hj => (hM j j0 j1).mpr (q j j0 j1 hj)⟩
set_option maxRecDepth 16384 in
theorem jand_m1 (x : Int) (h : s32 x = x) : jand x (-1) = x := by
  rw [jand_eq]
  show (Int32.ofInt x &&& Int32.ofInt (-1)).toInt = x
  have : Int32.ofInt x &&& Int32.ofInt (-1) = Int32.ofInt x := by
    rw [← Int32.toBitVec_inj, Int32.toBitVec_and]
    have : (Int32.ofInt (-1)).toBitVec = BitVec.allOnes 32 := by decide
    rw [this, BitVec.and_allOnes]
  rw [this, ← s32_eq]
  exact h
set_option maxRecDepth 16384 in
theorem full_bit (m : MM) (n : Nat) (hn : n < 9) (j : Nat) (hj : j < n) : ¬ f199 m (s32 (jshl 1 (n : Int) - 1)) (j : Int) = 0 := by
  have key : ∀ n : Nat, n < 9 → ∀ j : Nat, j < n → ¬ (if o32 (fun a b => a &&& b) (o32 (fun a b => a >>> (b &&& 31)) (Int32.ofInt (o32 (fun a b => a <<< (b &&& 31)) 1 (n : Int) - 1)).toInt (j : Int)) 1 = 1 then (1 : Int) else 0) = 0 := by decide
  unfold f199
  rw [jand_eq, jshr_eq, s32_eq, jshl_eq]
  exact key n hn j hj
end
section
/-! Served, counted. -/
set_option maxRecDepth 16384 in
theorem f144_s {a b : MM} {s : Int} (h : Sx a b s) {f : Int} : s32 (f144 a s f) = f144 a s f := by
  obtain ⟨e, e0, e8⟩ := h.p
  have hs0 := h.le
  unfold f144 L144_21
  rw [hs0]
  refine Lp_ind (f := K144_21 a s f (f66 a 3 f) (f128 a s f) 0 0) (P := fun x => 0 ≤ x.2 ∧ x.2 ≤ a 3 6 ∧ s32 x.1 = x.1) (Q := fun t => s32 t.2.2.1 = t.2.2.1) (fun x => (a 3 6 - x.2).toNat) ?_ (0, 0) ⟨Int.le_refl _, e0, s32_0⟩
  rintro ⟨x, i⟩ ⟨c2, c3, c4⟩
  dsimp only at c2 c3 c4
  have eA : K144_21 a s f (f66 a 3 f) (f128 a s f) 0 0 (x, i) = S144_21 a s f (f66 a 3 f) (f128 a s f) x i := rfl
  rw [eA]
  unfold S144_21
  rw [hs0]
  by_cases c : a 3 6 ≤ i
  · rw [if_pos c]
    exact Or.inr ⟨_, rfl, c4⟩
  · rw [if_neg c, s32_id (z := i + 1) (by omega) (by omega)]
    left
    split
    · exact ⟨_, rfl, ⟨by dsimp only; omega, by dsimp only; omega, c4⟩, by dsimp only; omega⟩
    · split
      · exact ⟨_, rfl, ⟨by dsimp only; omega, by dsimp only; omega, c4⟩, by dsimp only; omega⟩
      · split
        · exact ⟨_, rfl, ⟨by dsimp only; omega, by dsimp only; omega, s32_jor _ _⟩, by dsimp only; omega⟩
        · exact ⟨_, rfl, ⟨by dsimp only; omega, by dsimp only; omega, c4⟩, by dsimp only; omega⟩
set_option maxRecDepth 16384 in
theorem served_l {a b : MM} (h : Sx a b 15) (h1 : a 0 1 = 3) (h3 : a 0 3 = 15) (x M' : Int) (hc : ∀ f, 0 ≤ f → f < a 3 7 → ((if x = 0 then jand (f144 a 15 f) (a 15 7) else f144 a 15 f) = 0 ↔ f201 b 148 f M' = 0)) : (L32_15 a 0 x 0 0 0).2.2.1 = f271 b 148 M' := by
  obtain ⟨e, e0, e8⟩ := h.f
  have hb := h.bn
  unfold f271 L271_4 L32_15
  refine Lp_sim (f := K32_15 a 0 x 0 0 0) (f' := K271_4 b 148 M' 0 0) (P := fun y z => y.1 = z.1 ∧ y.2.1 = z.2 ∧ 0 ≤ z.2 ∧ z.2 ≤ a 3 7) (Q := fun t t' => t.2.2.1 = t'.2.2.1) (fun y => (a 3 7 - y.2.1).toNat) ?_ (0, 0, 0) (0, 0) ⟨rfl, rfl, Int.le_refl _, e0⟩
  rintro ⟨y, i, y3⟩ ⟨z, j⟩ ⟨c1, c2, c3, c4⟩
  dsimp only at c1 c2 c3 c4
  subst c1 c2
  have eA : K32_15 a 0 x 0 0 0 (y, i, y3) = S32_15 a 0 x y i y3 := rfl
  have eB : K271_4 b 148 M' 0 0 (y, i) = S271_4 b 148 M' y i := rfl
  rw [eA, eB]
  unfold S32_15 S271_4 f206
  rw [h1, h3, hb, ← e]
  by_cases c : a 3 7 ≤ i
  · rw [if_pos c, if_pos c]
    exact Or.inr ⟨_, _, rfl, rfl, rfl⟩
  · have q := q128 h (f := i) c3 (by omega)
    have hi := hc i c3 (by omega)
    rw [if_neg c, if_neg c, q, s32_id (z := i + 1) (by omega) (by omega)]
    left
    by_cases d : f204 b 148 i = -1
    · simp only [if_pos d]
      rw [if_neg (by decide : ¬ (1 : Int) = 0)]
      by_cases x0 : x = 0
      · rw [if_pos x0]
        exact ⟨_, _, rfl, rfl, ⟨rfl, rfl, by dsimp only; omega, by dsimp only; omega⟩, by dsimp only; omega⟩
      · rw [if_neg x0]
        exact ⟨_, _, rfl, rfl, ⟨rfl, rfl, by dsimp only; omega, by dsimp only; omega⟩, by dsimp only; omega⟩
    · simp only [if_neg d]
      rw [if_pos trivial]
      by_cases x0 : x = 0
      · rw [if_pos x0] at hi ⊢
        by_cases k : f201 b 148 i M' = 0
        · rw [if_pos k, if_pos (hi.mpr k)]
          exact ⟨_, _, rfl, rfl, ⟨rfl, rfl, by dsimp only; omega, by dsimp only; omega⟩, by dsimp only; omega⟩
        · rw [if_neg k, if_neg (fun z => k (hi.mp z))]
          exact ⟨_, _, rfl, rfl, ⟨rfl, rfl, by dsimp only; omega, by dsimp only; omega⟩, by dsimp only; omega⟩
      · rw [if_neg x0] at hi ⊢
        by_cases k : f201 b 148 i M' = 0
        · rw [if_pos k, if_pos (hi.mpr k)]
          exact ⟨_, _, rfl, rfl, ⟨rfl, rfl, by dsimp only; omega, by dsimp only; omega⟩, by dsimp only; omega⟩
        · rw [if_neg k, if_neg (fun z => k (hi.mp z))]
          exact ⟨_, _, rfl, rfl, ⟨rfl, rfl, by dsimp only; omega, by dsimp only; omega⟩, by dsimp only; omega⟩
set_option maxRecDepth 16384 in
theorem jshl_nz (j : Nat) (hj : j < 8) : ¬ jshl 1 (j : Int) = 0 := by
  have key : ∀ j : Nat, j < 8 → ¬ o32 (fun a b => a <<< (b &&& 31)) 1 (j : Int) = 0 := by decide
  rw [jshl_eq]
  exact key j hj
set_option maxRecDepth 16384 in
theorem jshl_s (j : Int) : s32 (jshl 1 j) = jshl 1 j := by
  rw [jshl_eq]
  unfold o32
  exact s32_id (Int32.le_toInt _) (Int32.toInt_lt _)
set_option maxRecDepth 16384 in
theorem served_q {a b : MM} (h : C2 a b) (x : Int) : f32 a 0 x = f270 b 148 x := by
  have hT : C2 a (mu b 148 0 0) := C2_fr3 h (fun _ _ _ => rfl) (fun x k q _ => by
    by_cases c : x = 148
    · exact mu_k (by unfold PJs at q; omega)
    · exact mu_a c)
  unfold f32 f270
  generalize mu b 148 0 0 = c at hT
  have hS := hT.1.2.1
  have h1 : a 0 1 = 3 := hT.1.1.1
  have h3 : a 0 3 = 15 := hT.1.1.2.1
  obtain ⟨e, e0, e8⟩ := hS.p
  rw [hS.bn]
  by_cases c0 : x = 0
  · rw [if_pos c0, if_pos c0]
    refine served_l hS h1 h3 x _ (fun f f0 f1 => ?_)
    rw [if_pos c0]
    refine served_eq hS (fun j j0 j1 => ?_) f0 f1
    rw [← hS.ret, jand_c]
    exact (has_ok c (a 15 7) j j0 (by omega)).symm
  · rw [if_neg c0, if_neg c0]
    by_cases c1 : x = 1
    · rw [if_pos c1, if_pos c1]
      refine served_l hS h1 h3 x _ (fun f f0 f1 => ?_)
      rw [if_neg c0, ← e]
      have := served_eq hS (M := -1) (M' := s32 (jshl 1 (a 3 6) - 1)) (fun j j0 j1 => by
        obtain ⟨n, hn⟩ : ∃ n : Nat, a 3 6 = (n : Int) := ⟨(a 3 6).toNat, by omega⟩
        obtain ⟨k, rfl⟩ : ∃ k : Nat, j = (k : Int) := ⟨j.toNat, by omega⟩
        rw [hn] at j1 e8 ⊢
        rw [jand_m1 _ (jshl_s _)]
        exact ⟨fun q => absurd q (jshl_nz k (by omega)), fun q => absurd q (full_bit c n (by omega) k (by omega))⟩) f0 f1
      rw [jand_m1 _ (f144_s hS)] at this
      exact this
    · rw [if_neg c1, if_neg c1]
end
section
/-! Questions: when. -/
set_option maxRecDepth 16384 in
/-- three bits -/
def B3 (u v w : Bool) : Int := (if u then 1 else 0) + (if v then 2 else 0) + (if w then 4 else 0)
set_option maxRecDepth 16384 in
theorem B3_inj {u v w u' v' w' : Bool} (h : B3 u v w = B3 u' v' w') : u = u' ∧ v = v' ∧ w = w' := by
  revert h
  cases u <;> cases v <;> cases w <;> cases u' <;> cases v' <;> cases w' <;> decide
set_option maxRecDepth 16384 in
theorem B3_or (u v w : Bool) {k : Int} (k0 : 0 ≤ k) (k3 : k < 3) : jor (B3 u v w) (jshl 1 k) = B3 (u || decide (k = 0)) (v || decide (k = 1)) (w || decide (k = 2)) := by
  have key : ∀ u v w : Bool, ∀ k : Nat, k < 3 → o32 (fun a b => a ||| b) (B3 u v w) (o32 (fun a b => a <<< (b &&& 31)) 1 (k : Int)) = B3 (u || decide ((k : Int) = 0)) (v || decide ((k : Int) = 1)) (w || decide ((k : Int) = 2)) := by decide
  obtain ⟨n, rfl⟩ : ∃ n : Nat, k = (n : Int) := ⟨k.toNat, by omega⟩
  rw [jor_eq, jshl_eq]
  exact key u v w n (by omega)
set_option maxRecDepth 16384 in
theorem B3_or0 (u v w : Bool) : jor (B3 u v w) 0 = B3 u v w := by
  have key : ∀ u v w : Bool, o32 (fun a b => a ||| b) (B3 u v w) 0 = B3 u v w := by decide
  rw [jor_eq]
  exact key u v w
set_option maxRecDepth 16384 in
noncomputable def dB (p : Prop) : Bool := @decide p (Classical.propDecidable p)
set_option maxRecDepth 16384 in
theorem dB_t {p : Prop} : dB p = true ↔ p := by
  unfold dB
  exact @decide_eq_true_iff p (Classical.propDecidable p)
set_option maxRecDepth 16384 in
theorem dB_c {p q : Prop} (h : p ↔ q) : dB p = dB q := by
  have : p = q := propext h
  rw [this]
set_option maxRecDepth 16384 in
theorem dB_or {p : Prop} {x : Bool} {q : Prop} (h : q ↔ (p ∨ x = true)) : (dB p || x) = dB q := by
  rw [dB_c h]
  by_cases c : p
  · rw [dB_t.mpr c, dB_t.mpr (Or.inl c)]
    rfl
  · cases x with
    | true =>
      rw [dB_t.mpr (Or.inr rfl)]
      exact Bool.or_true _
    | false =>
      rw [Bool.or_false]
      exact dB_c ⟨Or.inl, fun z => z.elim id (fun q => absurd q Bool.false_ne_true)⟩
set_option maxRecDepth 16384 in
theorem f133_r {a : MM} {s u p f : Int} : f133 a s u p f = -1 ∨ f133 a s u p f = 0 ∨ f133 a s u p f = 1 ∨ f133 a s u p f = 2 := by
  unfold f133
  (repeat' split) <;> simp
set_option maxRecDepth 16384 in
/-- a part that can be signed: which, and its slot is empty -/
theorem f132_r {a : MM} {s p f : Int} : f132 a s p f = -1 ∨ ((f132 a s p f = 0 ∨ f132 a s p f = 1 ∨ f132 a s p f = 2) ∧ f142 a s f (f132 a s p f) = -1) := by
  by_cases c : f127 a s f = 0 ∧ f126 a s p f = 0 ∧ f142 a s f (f133 a s (f128 a s f) p f) = -1
  · have e : f132 a s p f = f133 a s (f128 a s f) p f := by
      unfold f132
      rw [if_pos c.1, if_pos c.2.1, if_pos c.2.2]
    rw [e]
    rcases f133_r (a := a) (s := s) (u := f128 a s f) (p := p) (f := f) with h | h | h | h
    · exact Or.inl h
    · exact Or.inr ⟨Or.inl h, c.2.2⟩
    · exact Or.inr ⟨Or.inr (Or.inl h), c.2.2⟩
    · exact Or.inr ⟨Or.inr (Or.inr h), c.2.2⟩
  · left
    unfold f132
    split
    · split
      · split
        · exact absurd ⟨by assumption, by assumption, by assumption⟩ c
        · rfl
      · rfl
    · rfl
set_option maxRecDepth 16384 in
/-- someone ahead of i can sign at k; today too -/
def Cs (a : MM) (s f i k : Int) : Prop := ∃ j, 0 ≤ j ∧ j < i ∧ f132 a s j f = k
set_option maxRecDepth 16384 in
def Ct (a : MM) (s f i k : Int) : Prop := ∃ j, 0 ≤ j ∧ j < i ∧ f132 a s j f = k ∧ f141 a s j = -1
set_option maxRecDepth 16384 in
theorem Cs_s {a : MM} {s f i k : Int} (i0 : 0 ≤ i) : Cs a s f (i + 1) k ↔ (Cs a s f i k ∨ f132 a s i f = k) := ⟨fun ⟨j, j0, j1, j2⟩ => by
  by_cases d : j = i
  · rw [d] at j2; exact Or.inr j2
  · exact Or.inl ⟨j, j0, by omega, j2⟩, fun h => by
  rcases h with ⟨j, j0, j1, j2⟩ | h
  · exact ⟨j, j0, by omega, j2⟩
  · exact ⟨i, i0, by omega, h⟩⟩
set_option maxRecDepth 16384 in
theorem Ct_s {a : MM} {s f i k : Int} (i0 : 0 ≤ i) : Ct a s f (i + 1) k ↔ (Ct a s f i k ∨ (f132 a s i f = k ∧ f141 a s i = -1)) := ⟨fun ⟨j, j0, j1, j2⟩ => by
  by_cases d : j = i
  · rw [d] at j2; exact Or.inr j2
  · exact Or.inl ⟨j, j0, by omega, j2⟩, fun h => by
  rcases h with ⟨j, j0, j1, j2⟩ | h
  · exact ⟨j, j0, by omega, j2⟩
  · exact ⟨i, i0, by omega, h⟩⟩
set_option maxRecDepth 16384 in
theorem q115a {a b : MM} {s : Int} (h : Sx a b s) (f : Int) : (L115_7 a s f 0 0 0 0).2.2.1 = B3 (dB (Cs a s f (a 3 6) 0)) (dB (Cs a s f (a 3 6) 1)) (dB (Cs a s f (a 3 6) 2)) ∧ (L115_7 a s f 0 0 0 0).2.2.2.1 = B3 (dB (Ct a s f (a 3 6) 0)) (dB (Ct a s f (a 3 6) 1)) (dB (Ct a s f (a 3 6) 2)) := by
  obtain ⟨e, e0, e8⟩ := h.p
  have hs0 := h.le
  have z1 : ∀ k, dB (Cs a s f 0 k) = false := fun k => by
    cases q : dB (Cs a s f 0 k) with
    | false => rfl
    | true => obtain ⟨j, j0, j1, -⟩ := dB_t.mp q; omega
  have z2 : ∀ k, dB (Ct a s f 0 k) = false := fun k => by
    cases q : dB (Ct a s f 0 k) with
    | false => rfl
    | true => obtain ⟨j, j0, j1, -⟩ := dB_t.mp q; omega
  unfold L115_7
  refine Lp_ind (f := K115_7 a s f 0 0 0 0) (P := fun x => 0 ≤ x.2.2.1 ∧ x.2.2.1 ≤ a 3 6 ∧ x.1 = B3 (dB (Cs a s f x.2.2.1 0)) (dB (Cs a s f x.2.2.1 1)) (dB (Cs a s f x.2.2.1 2)) ∧ x.2.1 = B3 (dB (Ct a s f x.2.2.1 0)) (dB (Ct a s f x.2.2.1 1)) (dB (Ct a s f x.2.2.1 2))) (Q := fun t => t.2.2.1 = B3 (dB (Cs a s f (a 3 6) 0)) (dB (Cs a s f (a 3 6) 1)) (dB (Cs a s f (a 3 6) 2)) ∧ t.2.2.2.1 = B3 (dB (Ct a s f (a 3 6) 0)) (dB (Ct a s f (a 3 6) 1)) (dB (Ct a s f (a 3 6) 2))) (fun x => (a 3 6 - x.2.2.1).toNat) ?_ (0, 0, 0, 0) ⟨Int.le_refl _, e0, by dsimp only; rw [z1, z1, z1]; rfl, by dsimp only; rw [z2, z2, z2]; rfl⟩
  rintro ⟨x, y, i, w⟩ ⟨c2, c3, c4, c5⟩
  dsimp only at c2 c3 c4 c5
  have eA : K115_7 a s f 0 0 0 0 (x, y, i, w) = S115_7 a s f x y i w := rfl
  rw [eA]
  unfold S115_7
  rw [hs0]
  by_cases c : a 3 6 ≤ i
  · rw [if_pos c]
    have : i = a 3 6 := by omega
    rw [this] at c4 c5
    exact Or.inr ⟨_, rfl, c4, c5⟩
  · rw [if_neg c, s32_id (z := i + 1) (by omega) (by omega)]
    left
    rcases f132_r (a := a) (s := s) (p := i) (f := f) with d | ⟨d, -⟩
    · rw [if_pos d]
      have k1 : ∀ k, 0 ≤ k → dB (Cs a s f (i + 1) k) = dB (Cs a s f i k) := fun k k0 => dB_c ((Cs_s c2).trans ⟨fun q => q.elim id (fun q => by omega), Or.inl⟩)
      have k2 : ∀ k, 0 ≤ k → dB (Ct a s f (i + 1) k) = dB (Ct a s f i k) := fun k k0 => dB_c ((Ct_s c2).trans ⟨fun q => q.elim id (fun q => by omega), Or.inl⟩)
      refine ⟨_, rfl, ⟨by dsimp only; omega, by dsimp only; omega, ?_, ?_⟩, by dsimp only; omega⟩
      · dsimp only
        rw [k1 0 (by decide), k1 1 (by decide), k1 2 (by decide)]
        exact c4
      · dsimp only
        rw [k2 0 (by decide), k2 1 (by decide), k2 2 (by decide)]
        exact c5
    · rw [if_neg (by omega)]
      have k1 : ∀ k, (dB (Cs a s f i k) || decide (f132 a s i f = k)) = dB (Cs a s f (i + 1) k) := fun k => dB_or ((Cs_s c2).trans ⟨fun q => q.imp id (fun q => decide_eq_true q), fun q => q.imp id (fun q => of_decide_eq_true q)⟩)
      have m1 : jor x (jshl 1 (f132 a s i f)) = B3 (dB (Cs a s f (i + 1) 0)) (dB (Cs a s f (i + 1) 1)) (dB (Cs a s f (i + 1) 2)) := by
        rw [c4, B3_or _ _ _ (by omega) (by omega), k1, k1, k1]
      by_cases t : f141 a s i = -1
      · rw [if_pos t]
        have k2 : ∀ k, (dB (Ct a s f i k) || decide (f132 a s i f = k)) = dB (Ct a s f (i + 1) k) := fun k => dB_or ((Ct_s c2).trans ⟨fun q => q.imp id (fun q => decide_eq_true q.1), fun q => q.imp id (fun q => ⟨of_decide_eq_true q, t⟩)⟩)
        refine ⟨_, rfl, ⟨by dsimp only; omega, by dsimp only; omega, m1, ?_⟩, by dsimp only; omega⟩
        dsimp only
        rw [c5, B3_or _ _ _ (by omega) (by omega), k2, k2, k2]
      · rw [if_neg t]
        have k2 : ∀ k, dB (Ct a s f (i + 1) k) = dB (Ct a s f i k) := fun k => dB_c ((Ct_s c2).trans ⟨fun q => q.elim id (fun q => absurd q.2 t), Or.inl⟩)
        refine ⟨_, rfl, ⟨by dsimp only; omega, by dsimp only; omega, m1, ?_⟩, by dsimp only; omega⟩
        dsimp only
        rw [c5, B3_or0, k2, k2, k2]
set_option maxRecDepth 16384 in
theorem q115b {a : MM} {s f x y : Int} : (L115_74 a s f x y 0 0).2.2.1 = B3 (dB (f142 a s f 0 = -1)) (dB (f142 a s f 1 = -1)) (dB (f142 a s f 2 = -1)) := by
  unfold L115_74
  have st : ∀ (u v w : Bool) (k : Int), 0 ≤ k → k < 3 → Lp (K115_74 a s f x y 0 0) (B3 u v w, k) = Lp (K115_74 a s f x y 0 0) (B3 (u || (dB (f142 a s f k = -1) && decide (k = 0))) (v || (dB (f142 a s f k = -1) && decide (k = 1))) (w || (dB (f142 a s f k = -1) && decide (k = 2))), k + 1) := fun u v w k k0 k3 => by
    refine Lp_inl ?_
    show S115_74 a s f x y (B3 u v w) k = _
    unfold S115_74
    rw [if_neg (by omega), s32_id (z := k + 1) (by omega) (by omega)]
    by_cases d : f142 a s f k = -1
    · rw [if_pos d, B3_or _ _ _ k0 k3, dB_t.mpr d]
      rfl
    · have : dB (f142 a s f k = -1) = false := by
        cases q : dB (f142 a s f k = -1) with
        | false => rfl
        | true => exact absurd (dB_t.mp q) d
      rw [if_neg d, B3_or0, this]
      simp
  have e : ((0 : Int), (0 : Int)) = (B3 false false false, 0) := rfl
  rw [e, st _ _ _ 0 (by decide) (by decide), st _ _ _ (0 + 1) (by decide) (by decide), st _ _ _ (0 + 1 + 1) (by decide) (by decide)]
  rw [Lp_inr (f := K115_74 a s f x y 0 0) (t := (1, 0, (_, 0 + 1 + 1 + 1))) (by
    show S115_74 a s f x y _ (0 + 1 + 1 + 1) = _
    unfold S115_74
    rw [if_pos (by decide)])]
  show B3 _ _ _ = B3 _ _ _
  simp
end
section
/-! Cover. -/
set_option maxRecDepth 16384 in
theorem C2_93 {m b : MM} (h : C2 m b) (k v : Int) : C2 (mu m 93 k v) b := C2_fr3 h (fun x j q => mu_a (by unfold PCs at q; omega)) (fun _ _ _ _ => rfl)
set_option maxRecDepth 16384 in
theorem shl2 {i j : Int} (i0 : 0 ≤ i) (i8 : i < 8) (j0 : 0 ≤ j) (j8 : j < 8) : jand (jshl 1 i) (jshl 1 j) = 0 ↔ ¬ i = j := by
  have key : ∀ i : Nat, i < 8 → ∀ j : Nat, j < 8 → (o32 (fun a b => a &&& b) (o32 (fun a b => a <<< (b &&& 31)) 1 (i : Int)) (o32 (fun a b => a <<< (b &&& 31)) 1 (j : Int)) = 0 ↔ ¬ (i : Int) = (j : Int)) := by decide
  obtain ⟨n, rfl⟩ : ∃ n : Nat, i = (n : Int) := ⟨i.toNat, by omega⟩
  obtain ⟨k, rfl⟩ : ∃ k : Nat, j = (k : Int) := ⟨j.toNat, by omega⟩
  rw [jand_eq, jshl_eq, jshl_eq]
  exact key n (by omega) k (by omega)
set_option maxRecDepth 16384 in
/-- what is wanted for whom, listed -/
theorem q43 {a b : MM} (h : C2 a b) (hA : a 92 0 = 93) : (C2 (g43 a 92 15) b ∧ (g43 a 92 15) 92 0 = 93) ∧ (∀ j, 0 ≤ j → j < b 150 1 → ∀ M, jand ((g43 a 92 15) 93 j) M = 0 ↔ f201 b 148 j M = 0) ∧ (∀ j, 0 ≤ j → j < 8 → (jand (f43 a 92 15) (jshl 1 j) = 0 ↔ ¬ (j < b 150 1 ∧ ¬ f204 b 148 j = -1))) := by
  have hf := h.1.2.1.f
  unfold f43 g43 L43_4
  refine Lp_ind (f := K43_4 a 92 15 0 0) (P := fun x => 0 ≤ x.2.1 ∧ x.2.1 ≤ b 150 1 ∧ (C2 x.2.2 b ∧ x.2.2 92 0 = 93) ∧ (∀ j, 0 ≤ j → j < x.2.1 → ∀ M, jand (x.2.2 93 j) M = 0 ↔ f201 b 148 j M = 0) ∧ (∀ j, 0 ≤ j → j < 8 → (jand x.1 (jshl 1 j) = 0 ↔ ¬ (j < x.2.1 ∧ ¬ f204 b 148 j = -1)))) (Q := fun t => (C2 t.2.2.2.2 b ∧ t.2.2.2.2 92 0 = 93) ∧ (∀ j, 0 ≤ j → j < b 150 1 → ∀ M, jand (t.2.2.2.2 93 j) M = 0 ↔ f201 b 148 j M = 0) ∧ (∀ j, 0 ≤ j → j < 8 → (jand t.2.2.1 (jshl 1 j) = 0 ↔ ¬ (j < b 150 1 ∧ ¬ f204 b 148 j = -1)))) (fun x => (b 150 1 - x.2.1).toNat) ?_ (0, 0, a) ⟨Int.le_refl _, by dsimp only; omega, ⟨h, hA⟩, fun j j0 j1 => by dsimp only at j1; omega, fun j j0 j8 => ⟨fun _ q => by have := q.1; dsimp only at this; omega, fun _ => jand_0 _⟩⟩
  rintro ⟨x, i, m⟩ ⟨c2, c3, ⟨c4, c5⟩, c6, c7⟩
  dsimp only at c2 c3 c4 c5 c6 c7
  have hS := c4.1.2.1
  have hfm := hS.f
  have eA : K43_4 a 92 15 0 0 (x, i, m) = S43_4 m 92 15 x i := rfl
  rw [eA]
  unfold S43_4
  rw [hS.le, c5]
  by_cases c : m 3 7 ≤ i
  · rw [if_pos c]
    have : i = b 150 1 := by omega
    rw [this] at c6 c7
    exact Or.inr ⟨_, rfl, ⟨c4, c5⟩, c6, c7⟩
  · rw [if_neg c, if_neg (by omega : ¬ 8 ≤ i), s32_id (z := i + 1) (by omega) (by omega), f144_s hS]
    have d4 : C2 (mu m 93 i (f144 m 15 i)) b := C2_93 c4 _ _
    have d5 : (mu m 93 i (f144 m 15 i)) 92 0 = 93 := (mu_a (by decide)).trans c5
    have d6 : ∀ j, 0 ≤ j → j < i + 1 → ∀ M, jand ((mu m 93 i (f144 m 15 i)) 93 j) M = 0 ↔ f201 b 148 j M = 0 := fun j j0 j1 M => by
      by_cases d : j = i
      · rw [d, mu_s]
        exact served_eq hS (fun p p0 p1 => by
          rw [jand_c]
          exact (has_ok b M p p0 (by have := hS.p; omega)).symm) c2 (by omega)
      · rw [mu_k d]
        exact c6 j j0 (by omega) M
    have q := q128 d4.1.2.1 (f := i) c2 (by have := d4.1.2.1.f; omega)
    rw [q]
    left
    by_cases d : f204 b 148 i = -1
    · rw [if_pos d]
      refine ⟨_, rfl, ⟨by dsimp only; omega, by dsimp only; omega, ⟨d4, d5⟩, d6, fun j j0 j8 => ?_⟩, by dsimp only; omega⟩
      dsimp only
      rw [c7 j j0 j8]
      exact ⟨fun w v => w ⟨by
        by_cases z : j = i
        · exact absurd d (z ▸ v.2)
        · omega, v.2⟩, fun w v => w ⟨by omega, v.2⟩⟩
    · rw [if_neg d]
      refine ⟨_, rfl, ⟨by dsimp only; omega, by dsimp only; omega, ⟨d4, d5⟩, d6, fun j j0 j8 => ?_⟩, by dsimp only; omega⟩
      dsimp only
      rw [jor_jand0, c7 j j0 j8, shl2 c2 (by omega) j0 j8]
      constructor
      · rintro ⟨w1, w2⟩ ⟨v1, v2⟩
        exact w1 ⟨by omega, v2⟩
      · intro w
        exact ⟨fun v => w ⟨by omega, v.2⟩, fun z => w ⟨by omega, z ▸ d⟩⟩
set_option maxRecDepth 16384 in
/-- all that wait are served by these -/
def Al (b : MM) (k : Int) : Prop := ∀ j, 0 ≤ j → j < b 150 1 → ¬ f204 b 148 j = -1 → ¬ f201 b 148 j k = 0
set_option maxRecDepth 16384 in
theorem q40 {m b : MM} (hC : C2 m b) (hA : m 92 0 = 93) {x k : Int} (h1 : ∀ j, 0 ≤ j → j < b 150 1 → ∀ M, jand (m 93 j) M = 0 ↔ f201 b 148 j M = 0) (h2 : ∀ j, 0 ≤ j → j < 8 → (jand x (jshl 1 j) = 0 ↔ ¬ (j < b 150 1 ∧ ¬ f204 b 148 j = -1))) : f40 m 92 k x = 0 ↔ ¬ Al b k := by
  have hf := hC.1.2.1.f
  unfold f40
  have key : ∀ t : Nat × Int × Int, ((t.1 = 1 ∧ Al b k) ∨ (t.1 = 2 ∧ t.2.1 = 0 ∧ ¬ Al b k)) → ((if t.1 = 1 then (1 : Int) else t.2.1) = 0 ↔ ¬ Al b k) := by
    rintro t (⟨t1, t2⟩ | ⟨t1, t2, t3⟩)
    · rw [if_pos t1]
      exact ⟨fun q => absurd q (by decide), fun q => absurd t2 q⟩
    · rw [if_neg (by omega), t2]
      exact ⟨fun _ => t3, fun _ => rfl⟩
  refine key _ ?_
  unfold L40_2
  refine Lp_ind (f := K40_2 m 92 k x 0) (P := fun i => 0 ≤ i ∧ i ≤ 8 ∧ ∀ j, 0 ≤ j → j < i → j < b 150 1 → ¬ f204 b 148 j = -1 → ¬ f201 b 148 j k = 0) (Q := fun t => (t.1 = 1 ∧ Al b k) ∨ (t.1 = 2 ∧ t.2.1 = 0 ∧ ¬ Al b k)) (fun i => (8 - i).toNat) ?_ 0 ⟨Int.le_refl _, by decide, fun j j0 j1 => by omega⟩
  rintro i ⟨c2, c3, c4⟩
  have eA : K40_2 m 92 k x 0 i = S40_2 m 92 k x i := rfl
  rw [eA]
  unfold S40_2
  rw [hA]
  by_cases c : 8 ≤ i
  · rw [if_pos c]
    exact Or.inr ⟨_, rfl, Or.inl ⟨rfl, fun j j0 j1 j2 => c4 j j0 (by omega) j1 j2⟩⟩
  · rw [if_neg c, s32_id (z := i + 1) (by omega) (by omega)]
    have g := h2 i c2 (by omega)
    by_cases d : jand x (jshl 1 i) = 0
    · rw [if_pos d]
      have g := g.mp d
      exact Or.inl ⟨_, rfl, ⟨by omega, by omega, fun j j0 j1 j2 j3 => by
        by_cases z : j = i
        · exact absurd ⟨z ▸ j2, z ▸ j3⟩ g
        · exact c4 j j0 (by omega) j2 j3⟩, by omega⟩
    · rw [if_neg d]
      have g : i < b 150 1 ∧ ¬ f204 b 148 i = -1 := by
        by_cases z : i < b 150 1 ∧ ¬ f204 b 148 i = -1
        · exact z
        · exact absurd (g.mpr z) d
      by_cases e : jand (m 93 i) k = 0
      · rw [if_pos e]
        exact Or.inr ⟨_, rfl, Or.inr ⟨rfl, rfl, fun w => w i c2 g.1 g.2 ((h1 i c2 g.1 k).mp e)⟩⟩
      · rw [if_neg e]
        exact Or.inl ⟨_, rfl, ⟨by omega, by omega, fun j j0 j1 j2 j3 => by
          by_cases z : j = i
          · rw [z]
            exact fun w => e ((h1 i c2 g.1 k).mpr w)
          · exact c4 j j0 (by omega) j2 j3⟩, by omega⟩
set_option maxRecDepth 16384 in
theorem q271 {b : MM} (hb : b 148 14 = 150) (h0 : 0 ≤ b 150 1) (h8 : b 150 1 ≤ 8) (k z : Int) : f271 b 148 k = (L178_9 b 148 0 0 z).2.2.1 ↔ Al b k := by
  unfold f271 L271_4 L178_9
  refine Lp_sim (f := K271_4 b 148 k 0 0) (f' := K178_9 b 148 0 0 z) (P := fun x y => x.2 = y.2 ∧ 0 ≤ x.2 ∧ x.2 ≤ b 150 1 ∧ 0 ≤ x.1 ∧ x.1 ≤ y.1 ∧ y.1 ≤ x.2 ∧ (x.1 = y.1 ↔ ∀ j, 0 ≤ j → j < x.2 → ¬ f204 b 148 j = -1 → ¬ f201 b 148 j k = 0)) (Q := fun t t' => t.2.2.1 = t'.2.2.1 ↔ Al b k) (fun x => (b 150 1 - x.2).toNat) ?_ (0, 0) (0, 0) ⟨rfl, Int.le_refl _, h0, Int.le_refl _, Int.le_refl _, Int.le_refl _, ⟨fun _ j j0 j1 => by dsimp only at j1; omega, fun _ => rfl⟩⟩
  rintro ⟨x, i⟩ ⟨y, j⟩ ⟨c1, c2, c3, c4, c5, c6, c7⟩
  dsimp only at c1 c2 c3 c4 c5 c6 c7
  subst c1
  have eA : K271_4 b 148 k 0 0 (x, i) = S271_4 b 148 k x i := rfl
  have eB : K178_9 b 148 0 0 z (y, i) = S178_9 b 148 y i z := rfl
  rw [eA, eB]
  unfold S271_4 S178_9 f206
  rw [hb]
  by_cases c : b 150 1 ≤ i
  · rw [if_pos c, if_pos c]
    have : i = b 150 1 := by omega
    rw [this] at c7
    exact Or.inr ⟨_, _, rfl, rfl, c7⟩
  · rw [if_neg c, if_neg c, s32_id (z := i + 1) (by omega) (by omega), s32_id (z := x + 1) (by omega) (by omega), s32_id (z := y + 1) (by omega) (by omega)]
    left
    by_cases d : f204 b 148 i = -1
    · simp only [if_pos d]
      rw [if_neg (by decide : ¬ (1 : Int) = 0), if_neg (by decide : ¬ (1 : Int) = 0)]
      refine ⟨_, _, rfl, rfl, ⟨rfl, by dsimp only; omega, by dsimp only; omega, c4, c5, by dsimp only; omega, ?_⟩, by dsimp only; omega⟩
      dsimp only
      rw [c7]
      exact ⟨fun w j j0 j1 j2 => w j j0 (by
        by_cases q : j = i
        · exact absurd d (q ▸ j2)
        · omega) j2, fun w j j0 j1 => w j j0 (by omega)⟩
    · simp only [if_neg d]
      rw [if_pos trivial, if_pos trivial]
      by_cases g : f201 b 148 i k = 0
      · rw [if_pos g]
        refine ⟨_, _, rfl, rfl, ⟨rfl, by dsimp only; omega, by dsimp only; omega, c4, by dsimp only; omega, by dsimp only; omega, ?_⟩, by dsimp only; omega⟩
        dsimp only
        exact ⟨fun w => by omega, fun w => absurd g (w i c2 (by omega) d)⟩
      · rw [if_neg g]
        refine ⟨_, _, rfl, rfl, ⟨rfl, by dsimp only; omega, by dsimp only; omega, by dsimp only; omega, by dsimp only; omega, by dsimp only; omega, ?_⟩, by dsimp only; omega⟩
        dsimp only
        have r : x + 1 = y + 1 ↔ x = y := by omega
        rw [r, c7]
        exact ⟨fun w j j0 j1 j2 => by
          by_cases q : j = i
          · rw [q]; exact g
          · exact w j j0 (by omega) j2, fun w j j0 j1 => w j j0 (by omega)⟩
end
section
/-! Fits: forms that some could sign together. -/
set_option maxRecDepth 16384 in
theorem B3_and (u v w : Bool) {k : Int} (k0 : 0 ≤ k) (k3 : k < 3) : jand (B3 u v w) (jshl 1 k) = 0 ↔ (if k = 0 then u else if k = 1 then v else w) = false := by
  have key : ∀ u v w : Bool, ∀ k : Nat, k < 3 → (o32 (fun a b => a &&& b) (B3 u v w) (o32 (fun a b => a <<< (b &&& 31)) 1 (k : Int)) = 0 ↔ (if (k : Int) = 0 then u else if (k : Int) = 1 then v else w) = false) := by decide
  obtain ⟨n, rfl⟩ : ∃ n : Nat, k = (n : Int) := ⟨k.toNat, by omega⟩
  rw [jand_eq, jshl_eq]
  exact key u v w n (by omega)
set_option maxRecDepth 16384 in
theorem dB_f {p : Prop} : dB p = false ↔ ¬ p := ⟨fun h q => by rw [dB_t.mpr q] at h; exact absurd h (by decide), fun h => by
  cases q : dB p with
  | false => rfl
  | true => exact absurd (dB_t.mp q) h⟩
set_option maxRecDepth 16384 in
/-- the mask of some numbers below 3 -/
noncomputable def Mk (W : Int → Prop) : Int := B3 (dB (W 0)) (dB (W 1)) (dB (W 2))
set_option maxRecDepth 16384 in
theorem Mk_and {W : Int → Prop} {k : Int} (k0 : 0 ≤ k) (k3 : k < 3) : jand (Mk W) (jshl 1 k) = 0 ↔ ¬ W k := by
  unfold Mk
  rw [B3_and _ _ _ k0 k3]
  have : k = 0 ∨ k = 1 ∨ k = 2 := by omega
  rcases this with rfl | rfl | rfl
  · exact dB_f
  · exact dB_f
  · exact dB_f
set_option maxRecDepth 16384 in
theorem Mk_or {W V : Int → Prop} {k : Int} (k0 : 0 ≤ k) (k3 : k < 3) (h : ∀ j, 0 ≤ j → j < 3 → (V j ↔ (W j ∨ k = j))) : jor (Mk W) (jshl 1 k) = Mk V := by
  have e : ∀ j, 0 ≤ j → j < 3 → (dB (W j) || decide (k = j)) = dB (V j) := fun j j0 j3 => dB_or ((h j j0 j3).trans ⟨fun q => q.imp id (fun q => decide_eq_true q), fun q => q.imp id (fun q => of_decide_eq_true q)⟩)
  unfold Mk
  rw [B3_or _ _ _ k0 k3, e 0 (by decide) (by decide), e 1 (by decide) (by decide), e 2 (by decide) (by decide)]
set_option maxRecDepth 16384 in
theorem Mk_c {W V : Int → Prop} (h : ∀ j, 0 ≤ j → j < 3 → (V j ↔ W j)) : Mk W = Mk V := by
  unfold Mk
  rw [dB_c (h 0 (by decide) (by decide)), dB_c (h 1 (by decide) (by decide)), dB_c (h 2 (by decide) (by decide))]
set_option maxRecDepth 16384 in
theorem Mk_0 {W : Int → Prop} (h : ∀ j, ¬ W j) : 0 = Mk W := by
  unfold Mk
  rw [dB_f.mpr (h 0), dB_f.mpr (h 1), dB_f.mpr (h 2)]
  rfl
set_option maxRecDepth 16384 in
/-- a list of parts: all there, no two the same -/
def Ok (P : Int → Int) (S : Int → Prop) (n : Int) : Prop := (∀ p, 0 ≤ p → p < n → S p → ¬ P p = -1) ∧ (∀ p q, 0 ≤ p → p < q → q < n → S p → S q → ¬ P p = P q)
set_option maxRecDepth 16384 in
def Wk (P : Int → Int) (S : Int → Prop) (i k : Int) : Prop := ∃ p, 0 ≤ p ∧ p < i ∧ S p ∧ P p = k
set_option maxRecDepth 16384 in
theorem Ok_no {P : Int → Int} {S : Int → Prop} {i : Int} (h : ¬ S i) : Ok P S (i + 1) ↔ Ok P S i := ⟨fun ⟨q1, q2⟩ => ⟨fun p p0 p1 => q1 p p0 (by omega), fun p q p0 p1 p2 => q2 p q p0 p1 (by omega)⟩, fun ⟨q1, q2⟩ => ⟨fun p p0 p1 hp => by
  by_cases d : p = i
  · exact absurd (d ▸ hp) h
  · exact q1 p p0 (by omega) hp, fun p q p0 p1 p2 hp hq => by
  by_cases d : q = i
  · exact absurd (d ▸ hq) h
  · exact q2 p q p0 p1 (by omega) hp hq⟩⟩
set_option maxRecDepth 16384 in
theorem Ok_yes {P : Int → Int} {S : Int → Prop} {i : Int} (i0 : 0 ≤ i) (h : S i) : Ok P S (i + 1) ↔ (Ok P S i ∧ ¬ P i = -1 ∧ ¬ Wk P S i (P i)) := ⟨fun ⟨q1, q2⟩ => ⟨⟨fun p p0 p1 => q1 p p0 (by omega), fun p q p0 p1 p2 => q2 p q p0 p1 (by omega)⟩, q1 i i0 (by omega) h, fun ⟨p, p0, p1, p2, p3⟩ => q2 p i p0 p1 (by omega) p2 h p3⟩, fun ⟨⟨q1, q2⟩, q3, q4⟩ => ⟨fun p p0 p1 hp => by
  by_cases d : p = i
  · rw [d]; exact q3
  · exact q1 p p0 (by omega) hp, fun p q p0 p1 p2 hp hq => by
  by_cases d : q = i
  · rw [d]
    exact fun e => q4 ⟨p, p0, by omega, hp, e⟩
  · exact q2 p q p0 p1 (by omega) hp hq⟩⟩
set_option maxRecDepth 16384 in
theorem Ok_le {P : Int → Int} {S : Int → Prop} {i n : Int} (hi : i ≤ n) (h : Ok P S n) : Ok P S i := ⟨fun p p0 p1 => h.1 p p0 (by omega), fun p q p0 p1 p2 => h.2 p q p0 p1 (by omega)⟩
set_option maxRecDepth 16384 in
theorem q39 {a b : MM} {s f x : Int} {S : Int → Prop} (hS : ∀ p, 0 ≤ p → p < 8 → (jand x (jshl 1 p) = 0 ↔ ¬ S p)) : f39 a x f s = 0 ↔ ¬ Ok (fun p => f131 a s p f) S 8 := by
  have r : ∀ p, f131 a s p f = -1 ∨ (0 ≤ f131 a s p f ∧ f131 a s p f < 3) := fun p => by
    unfold f131
    rcases f133_r (a := a) (s := s) (u := f110 a s f) (p := p) (f := f) with h | h | h | h
    · exact Or.inl h
    · exact Or.inr (by omega)
    · exact Or.inr (by omega)
    · exact Or.inr (by omega)
  unfold f39
  generalize hP : (fun p => f131 a s p f) = P
  have hP' : ∀ p, f131 a s p f = P p := fun p => congrFun hP p
  have key : ∀ t : Nat × Int × (Int × Int × Int), ((t.1 = 1 ∧ Ok P S 8) ∨ (t.1 = 2 ∧ t.2.1 = 0 ∧ ¬ Ok P S 8)) → ((if t.1 = 1 then (1 : Int) else t.2.1) = 0 ↔ ¬ Ok P S 8) := by
    rintro t (⟨t1, t2⟩ | ⟨t1, t2, t3⟩)
    · rw [if_pos t1]
      exact ⟨fun q => absurd q (by decide), fun q => absurd t2 q⟩
    · rw [if_neg (by omega), t2]
      exact ⟨fun _ => t3, fun _ => rfl⟩
  refine key _ ?_
  unfold L39_5
  refine Lp_ind (f := K39_5 a x f s 0 0 0) (P := fun y => 0 ≤ y.2.1 ∧ y.2.1 ≤ 8 ∧ y.1 = Mk (Wk P S y.2.1) ∧ Ok P S y.2.1) (Q := fun t => (t.1 = 1 ∧ Ok P S 8) ∨ (t.1 = 2 ∧ t.2.1 = 0 ∧ ¬ Ok P S 8)) (fun y => (8 - y.2.1).toNat) ?_ (0, 0, 0) ⟨Int.le_refl _, by decide, Mk_0 (fun j ⟨p, p0, p1, _⟩ => by dsimp only at p1; omega), ⟨fun p p0 p1 => by dsimp only at p1; omega, fun p q p0 p1 p2 => by dsimp only at p2; omega⟩⟩
  rintro ⟨y, i, z⟩ ⟨c2, c3, c4, c5⟩
  dsimp only at c2 c3 c4 c5
  have eA : K39_5 a x f s 0 0 0 (y, i, z) = S39_5 a x f s y i z := rfl
  rw [eA]
  unfold S39_5
  by_cases c : 8 ≤ i
  · rw [if_pos c]
    have : i = 8 := by omega
    rw [this] at c5
    exact Or.inr ⟨_, rfl, Or.inl ⟨rfl, c5⟩⟩
  · rw [if_neg c, s32_id (z := i + 1) (by omega) (by omega), hP']
    have g := hS i c2 (by omega)
    have hr := r i
    rw [hP'] at hr
    by_cases d : jand x (jshl 1 i) = 0
    · rw [if_pos d]
      have n := g.mp d
      refine Or.inl ⟨_, rfl, ⟨by dsimp only; omega, by dsimp only; omega, ?_, (Ok_no n).mpr c5⟩, by dsimp only; omega⟩
      dsimp only
      rw [c4]
      exact Mk_c (fun k _ _ => ⟨fun ⟨p, p0, p1, p2, p3⟩ => ⟨p, p0, by
        by_cases e : p = i
        · exact absurd (e ▸ p2) n
        · omega, p2, p3⟩, fun ⟨p, p0, p1, p2⟩ => ⟨p, p0, by omega, p2⟩⟩)
    · rw [if_neg d]
      have n : S i := by
        by_cases e : S i
        · exact e
        · exact absurd (g.mpr e) d
      by_cases e1 : P i = -1
      · rw [if_pos e1]
        exact Or.inr ⟨_, rfl, Or.inr ⟨rfl, rfl, fun w => w.1 i c2 (by omega) n e1⟩⟩
      · rw [if_neg e1]
        have hr : 0 ≤ P i ∧ P i < 3 := hr.elim (fun q => absurd q e1) id
        by_cases e2 : jand y (jshl 1 (P i)) = 0
        · rw [if_pos e2]
          have w := e2
          rw [c4, Mk_and hr.1 hr.2] at w
          refine Or.inl ⟨_, rfl, ⟨by dsimp only; omega, by dsimp only; omega, ?_, (Ok_yes c2 n).mpr ⟨c5, e1, w⟩⟩, by dsimp only; omega⟩
          dsimp only
          rw [c4]
          exact Mk_or hr.1 hr.2 (fun k _ _ => ⟨fun ⟨p, p0, p1, p2, p3⟩ => by
            by_cases e : p = i
            · exact Or.inr (e ▸ p3)
            · exact Or.inl ⟨p, p0, by omega, p2, p3⟩, fun q => by
            rcases q with ⟨p, p0, p1, p2⟩ | q
            · exact ⟨p, p0, by omega, p2⟩
            · exact ⟨i, c2, by omega, n, q⟩⟩)
        · rw [if_neg e2]
          have w := e2
          rw [c4, Mk_and hr.1 hr.2] at w
          exact Or.inr ⟨_, rfl, Or.inr ⟨rfl, rfl, fun v => w (fun q => ((Ok_yes c2 n).mp (Ok_le (by omega) v)).2.2 q)⟩⟩
end
section
/-! Fits, the reference's side. -/
set_option maxRecDepth 16384 in
theorem q193 {b : MM} {f n : Int} {P : Int → Int} (n8 : n ≤ 8) (n0 : 0 ≤ n) (hP : ∀ j, 0 ≤ j → j < n → f234 b 148 ((b (b 148 1)) j) f (f203 b 148 f) = P j) (hr : ∀ j, 0 ≤ j → j < n → P j = -1 ∨ (0 ≤ P j ∧ P j < 3)) : f193 b 148 f n = 0 ↔ ¬ Ok P (fun _ => True) n := by
  unfold f193
  have key : ∀ t : Nat × Int × (Int × Int × Int), ((t.1 = 1 ∧ Ok P (fun _ => True) n) ∨ (t.1 = 2 ∧ t.2.1 = 0 ∧ ¬ Ok P (fun _ => True) n)) → ((if t.1 = 1 then (1 : Int) else t.2.1) = 0 ↔ ¬ Ok P (fun _ => True) n) := by
    rintro t (⟨t1, t2⟩ | ⟨t1, t2, t3⟩)
    · rw [if_pos t1]
      exact ⟨fun q => absurd q (by decide), fun q => absurd t2 q⟩
    · rw [if_neg (by omega), t2]
      exact ⟨fun _ => t3, fun _ => rfl⟩
  refine key _ ?_
  unfold L193_5
  refine Lp_ind (f := K193_5 b 148 f n 0 0 0) (P := fun y => 0 ≤ y.2.1 ∧ y.2.1 ≤ n ∧ y.1 = Mk (Wk P (fun _ => True) y.2.1) ∧ Ok P (fun _ => True) y.2.1) (Q := fun t => (t.1 = 1 ∧ Ok P (fun _ => True) n) ∨ (t.1 = 2 ∧ t.2.1 = 0 ∧ ¬ Ok P (fun _ => True) n)) (fun y => (n - y.2.1).toNat) ?_ (0, 0, 0) ⟨Int.le_refl _, n0, Mk_0 (fun j ⟨p, p0, p1, _⟩ => by dsimp only at p1; omega), ⟨fun p p0 p1 => by dsimp only at p1; omega, fun p q p0 p1 p2 => by dsimp only at p2; omega⟩⟩
  rintro ⟨y, i, z⟩ ⟨c2, c3, c4, c5⟩
  dsimp only at c2 c3 c4 c5
  have eB : K193_5 b 148 f n 0 0 0 (y, i, z) = S193_5 b 148 f n y i z := rfl
  rw [eB]
  unfold S193_5
  by_cases c : n ≤ i
  · rw [if_pos c]
    have : i = n := by omega
    rw [this] at c5
    exact Or.inr ⟨_, rfl, Or.inl ⟨rfl, c5⟩⟩
  · rw [if_neg c, s32_id (z := i + 1) (by omega) (by omega), hP i c2 (by omega)]
    by_cases e1 : P i = -1
    · rw [if_pos e1]
      exact Or.inr ⟨_, rfl, Or.inr ⟨rfl, rfl, fun w => w.1 i c2 (by omega) trivial e1⟩⟩
    · rw [if_neg e1]
      have r : 0 ≤ P i ∧ P i < 3 := (hr i c2 (by omega)).elim (fun q => absurd q e1) id
      have hk := has_ok b y (P i) r.1 (by omega)
      by_cases e2 : f199 b y (P i) = 0
      · rw [if_pos e2]
        have w := hk.mp e2
        rw [c4, Mk_and r.1 r.2] at w
        refine Or.inl ⟨_, rfl, ⟨by dsimp only; omega, by dsimp only; omega, ?_, (Ok_yes c2 trivial).mpr ⟨c5, e1, w⟩⟩, by dsimp only; omega⟩
        dsimp only
        rw [c4]
        exact Mk_or r.1 r.2 (fun k _ _ => ⟨fun ⟨p, p0, p1, p2, p3⟩ => by
          by_cases e : p = i
          · exact Or.inr (e ▸ p3)
          · exact Or.inl ⟨p, p0, by omega, p2, p3⟩, fun q => by
          rcases q with ⟨p, p0, p1, p2⟩ | q
          · exact ⟨p, p0, by omega, p2⟩
          · exact ⟨i, c2, by omega, trivial, q⟩⟩)
      · rw [if_neg e2]
        have w : ¬ jand y (jshl 1 (P i)) = 0 := fun q => e2 (hk.mpr q)
        rw [c4, Mk_and r.1 r.2] at w
        exact Or.inr ⟨_, rfl, Or.inr ⟨rfl, rfl, fun v => w (fun q => ((Ok_yes c2 trivial).mp (Ok_le (by omega) v)).2.2 q)⟩⟩
set_option maxRecDepth 16384 in
/-- a set as a list without repeats -/
theorem Ok_T {P : Int → Int} {S : Int → Prop} {T : Int → Int} {n : Int} (h1 : ∀ j, 0 ≤ j → j < n → 0 ≤ T j ∧ T j < 8) (h2 : ∀ i j, 0 ≤ i → i < j → j < n → ¬ T i = T j) (h3 : ∀ p, 0 ≤ p → p < 8 → (S p ↔ ∃ j, 0 ≤ j ∧ j < n ∧ T j = p)) : Ok P S 8 ↔ Ok (fun j => P (T j)) (fun _ => True) n := by
  constructor
  · rintro ⟨q1, q2⟩
    have inS : ∀ j, 0 ≤ j → j < n → S (T j) := fun j j0 j1 => (h3 _ (h1 j j0 j1).1 (h1 j j0 j1).2).mpr ⟨j, j0, j1, rfl⟩
    refine ⟨fun j j0 j1 _ => q1 _ (h1 j j0 j1).1 (h1 j j0 j1).2 (inS j j0 j1), fun i j i0 i1 j1 _ _ => ?_⟩
    have ne := h2 i j i0 i1 j1
    have a1 := h1 i i0 (by omega)
    have a2 := h1 j (by omega) j1
    have s1 := inS i i0 (by omega)
    have s2 := inS j (by omega) j1
    dsimp only
    by_cases d : T i < T j
    · exact q2 _ _ a1.1 d a2.2 s1 s2
    · exact fun e => q2 (T j) (T i) a2.1 (by omega) a1.2 s2 s1 e.symm
  · rintro ⟨q1, q2⟩
    refine ⟨fun p p0 p1 hp => ?_, fun p q p0 p1 p2 hp hq => ?_⟩
    · obtain ⟨j, j0, j1, rfl⟩ := (h3 p p0 p1).mp hp
      exact q1 j j0 j1 trivial
    · obtain ⟨i, i0, i1, rfl⟩ := (h3 p p0 (by omega)).mp hp
      obtain ⟨j, j0, j1, rfl⟩ := (h3 q (by omega) p2).mp hq
      by_cases d : i < j
      · exact q2 i j i0 d j1 trivial trivial
      · by_cases e : i = j
        · subst e
          omega
        · exact fun w => q2 j i j0 (by omega) i1 trivial trivial w.symm
end
section
/-! Fits, both. -/
set_option maxRecDepth 16384 in
theorem q192i (c : MM) (n k : Int) (k0 : 0 ≤ k) (k3 : k ≤ 940) : ((L192_45 c 148 n k 0 0 0 0).1 = 1 ∧ ∀ i, 0 ≤ i → i < k → ¬ (c (c 148 1)) i = (c (c 148 1)) k) ∨ ((L192_45 c 148 n k 0 0 0 0).1 = 2 ∧ (L192_45 c 148 n k 0 0 0 0).2.1 = -1 ∧ ∃ i, 0 ≤ i ∧ i < k ∧ (c (c 148 1)) i = (c (c 148 1)) k) := by
  unfold L192_45
  refine Lp_ind (f := K192_45 c 148 n k 0 0 0 0) (P := fun x => 0 ≤ x ∧ x ≤ k ∧ ∀ i, 0 ≤ i → i < x → ¬ (c (c 148 1)) i = (c (c 148 1)) k) (Q := fun t => (t.1 = 1 ∧ ∀ i, 0 ≤ i → i < k → ¬ (c (c 148 1)) i = (c (c 148 1)) k) ∨ (t.1 = 2 ∧ t.2.1 = -1 ∧ ∃ i, 0 ≤ i ∧ i < k ∧ (c (c 148 1)) i = (c (c 148 1)) k)) (fun x => (k - x).toNat) ?_ 0 ⟨Int.le_refl _, k0, fun i i0 i1 => by omega⟩
  rintro i ⟨c2, c3, c4⟩
  have eB : K192_45 c 148 n k 0 0 0 0 i = S192_45 c 148 n k i 0 0 0 := rfl
  rw [eB]
  unfold S192_45
  by_cases d : k ≤ i
  · rw [if_pos d]
    exact Or.inr ⟨_, rfl, Or.inl ⟨rfl, fun j j0 j1 => c4 j j0 (by omega)⟩⟩
  · rw [if_neg d, s32_id (z := i + 1) (by omega) (by omega)]
    by_cases e : (c (c 148 1)) i = (c (c 148 1)) k
    · rw [if_pos e]
      exact Or.inr ⟨_, rfl, Or.inr ⟨rfl, rfl, i, c2, by omega, e⟩⟩
    · rw [if_neg e]
      exact Or.inl ⟨_, rfl, ⟨by omega, by omega, fun j j0 j1 => by
        by_cases z : j = i
        · rw [z]; exact e
        · exact c4 j j0 (by omega)⟩, by omega⟩
set_option maxRecDepth 16384 in
/-- those on the tape, checked -/
def Tv (a c : MM) (n : Int) : Prop := (∀ j, 0 ≤ j → j < n → 0 ≤ c 149 j ∧ c 149 j < a 3 6) ∧ (∀ i j, 0 ≤ i → i < j → j < n → ¬ c 149 i = c 149 j)
set_option maxRecDepth 16384 in
theorem q42 {a c : MM} (h : Sx a c 15) {n : Int} (hn : a 1 1 = n) (n0 : 0 ≤ n) (n9 : n ≤ 940) (h10 : a 1 0 = 2) (hl : a 2 (-1) = 940) (h149 : c 148 1 = 149) (hT : ∀ j, 0 ≤ j → j < n → jand (a 2 j) 255 = c 149 j) : ((L42_23 a 92 1 15 0 0 0).1 = 1 ∧ (L192_23 c 148 n 0 0 0 0 0).1 = 1 ∧ (∀ p, 0 ≤ p → p < 8 → (jand ((L42_23 a 92 1 15 0 0 0).2.2.1) (jshl 1 p) = 0 ↔ ¬ ∃ j, 0 ≤ j ∧ j < n ∧ c 149 j = p)) ∧ Tv a c n) ∨ (¬ (L42_23 a 92 1 15 0 0 0).1 = 1 ∧ ¬ (L192_23 c 148 n 0 0 0 0 0).1 = 1 ∧ (L42_23 a 92 1 15 0 0 0).2.1 = -1 ∧ (L192_23 c 148 n 0 0 0 0 0).2.1 = -1) := by
  have hp := h.p
  have e159 : ∀ i, 0 ≤ i → i < n → f159 a 1 i = c 149 i := fun i i0 i1 => by
    unfold f159
    rw [if_neg (by omega), hn, if_neg (by omega), h10, hl, if_neg (by decide : ¬ (2 : Int) = 1000050), s32_id (z := 940) (by decide) (by decide), if_neg (by omega)]
    exact hT i i0 i1
  unfold L42_23 L192_23
  refine Lp_sim (f := K42_23 a 92 1 15 0 0 0) (f' := K192_23 c 148 n 0 0 0 0 0) (P := fun u v => u.2.1 = v.1 ∧ 0 ≤ v.1 ∧ v.1 ≤ n ∧ (∀ p, 0 ≤ p → p < 8 → (jand u.1 (jshl 1 p) = 0 ↔ ¬ ∃ j, 0 ≤ j ∧ j < v.1 ∧ c 149 j = p)) ∧ Tv a c v.1) (Q := fun t t' => (t.1 = 1 ∧ t'.1 = 1 ∧ (∀ p, 0 ≤ p → p < 8 → (jand t.2.2.1 (jshl 1 p) = 0 ↔ ¬ ∃ j, 0 ≤ j ∧ j < n ∧ c 149 j = p)) ∧ Tv a c n) ∨ (¬ t.1 = 1 ∧ ¬ t'.1 = 1 ∧ t.2.1 = -1 ∧ t'.2.1 = -1)) (fun u => (n - u.2.1).toNat) ?_ (0, 0, 0) (0, 0) ⟨rfl, Int.le_refl _, n0, fun p _ _ => ⟨fun _ ⟨j, j0, j1, _⟩ => by dsimp only at j1; omega, fun _ => jand_0 _⟩, ⟨fun j j0 j1 => by dsimp only at j1; omega, fun i j i0 i1 j1 => by dsimp only at j1; omega⟩⟩
  rintro ⟨y, i, z⟩ ⟨v1, v2⟩ ⟨c1, c2, c3, c4, c5⟩
  dsimp only at c1 c2 c3 c4 c5
  subst c1
  have eA : K42_23 a 92 1 15 0 0 0 (y, i, z) = S42_23 a 92 1 15 y i z := rfl
  have eB : K192_23 c 148 n 0 0 0 0 0 (i, v2) = S192_23 c 148 n i v2 0 0 0 := rfl
  rw [eA, eB]
  unfold S42_23 S192_23
  rw [hn, h.le, h149]
  by_cases d : n ≤ i
  · rw [if_pos d, if_pos d]
    have : i = n := by omega
    rw [this] at c4 c5
    exact Or.inr ⟨_, _, rfl, rfl, Or.inl ⟨rfl, rfl, c4, c5⟩⟩
  · rw [if_neg d, if_neg d, e159 i c2 (by omega), q73 h, s32_id (z := i + 1) (by omega) (by omega)]
    by_cases e : f213 c 148 (c 149 i) = 0
    · rw [if_pos e, if_pos e]
      exact Or.inr ⟨_, _, rfl, rfl, Or.inr ⟨(fun q => absurd q (by decide : ¬ (2 : Nat) = 1)), (fun q => absurd q (by decide : ¬ (2 : Nat) = 1)), rfl, rfl⟩⟩
    · have hv : 0 ≤ c 149 i ∧ c 149 i < a 3 6 := by
        by_cases q : 0 ≤ c 149 i ∧ c 149 i < a 3 6
        · exact q
        · exact absurd ((q213i h).mpr q) e
      rw [if_neg e, if_neg e]
      have g := c4 (c 149 i) hv.1 (by omega)
      rcases q192i c n i c2 (by omega) with ⟨w1, w2⟩ | ⟨w1, w2, w3⟩
      · rw [h149] at w2
        have free : jand y (jshl 1 (c 149 i)) = 0 := g.mpr (fun ⟨j, j0, j1, j2⟩ => w2 j j0 j1 j2)
        rw [if_pos free, if_pos w1]
        refine Or.inl ⟨_, _, rfl, rfl, ⟨rfl, by dsimp only; omega, by dsimp only; omega, fun p p0 p8 => ?_, ⟨fun j j0 j1 => ?_, fun k j k0 k1 j1 => ?_⟩⟩, by dsimp only; omega⟩
        · dsimp only
          rw [jor_jand0, c4 p p0 p8, shl2 hv.1 (by omega) p0 p8]
          constructor
          · rintro ⟨x1, x2⟩ ⟨j, j0, j1, j2⟩
            by_cases z : j = i
            · exact x2 (z ▸ j2)
            · exact x1 ⟨j, j0, by omega, j2⟩
          · intro x
            exact ⟨fun ⟨j, j0, j1, j2⟩ => x ⟨j, j0, by omega, j2⟩, fun q => x ⟨i, c2, by omega, q⟩⟩
        · dsimp only at j1
          by_cases z : j = i
          · rw [z]; exact hv
          · exact c5.1 j j0 (by omega)
        · dsimp only at j1
          by_cases z : j = i
          · rw [z]; exact w2 k k0 (by omega)
          · exact c5.2 k j k0 k1 (by omega)
      · rw [h149] at w3
        have held : ¬ jand y (jshl 1 (c 149 i)) = 0 := fun q => g.mp q w3
        rw [if_neg held, if_neg (by omega), w2]
        exact Or.inr ⟨_, _, rfl, rfl, Or.inr ⟨(fun q => absurd q (by decide : ¬ (2 : Nat) = 1)), (fun q => absurd q (by decide : ¬ (2 : Nat) = 1)), rfl, rfl⟩⟩
set_option maxRecDepth 16384 in
theorem f131_234 {a c : MM} (h : Sx a c 15) {p f : Int} (p0 : 0 ≤ p) (p1 : p < a 3 6) (f0 : 0 ≤ f) (f1 : f < a 3 7) : f234 c 148 p f (f203 c 148 f) = f131 a 15 p f := by
  unfold f131
  rw [q133 h p0 p1 f0 f1, q110 h f0 f1]
set_option maxRecDepth 16384 in
theorem fits_l {a c : MM} (h : Sx a c 15) {n x : Int} (n0 : 0 ≤ n) (n3 : n ≤ 3) (h149 : c 148 1 = 149) (hx : ∀ p, 0 ≤ p → p < 8 → (jand x (jshl 1 p) = 0 ↔ ¬ ∃ j, 0 ≤ j ∧ j < n ∧ c 149 j = p)) (hv : Tv a c n) : (L42_82 a 92 1 15 x 0 0).2.2.1 = (L192_83 c 148 n 0 0 0 0 0).2.2.1 := by
  obtain ⟨e, e0, e8⟩ := h.f
  have hp := h.p
  unfold L42_82 L192_83
  refine Lp_sim (f := K42_82 a 92 1 15 x 0 0) (f' := K192_83 c 148 n 0 0 0 0 0) (P := fun u v => u = v ∧ 0 ≤ u.2 ∧ u.2 ≤ a 3 7) (Q := fun t t' => t.2.2.1 = t'.2.2.1) (fun u => (a 3 7 - u.2).toNat) ?_ (0, 0) (0, 0) ⟨rfl, Int.le_refl _, e0⟩
  rintro ⟨y, i⟩ ⟨z, j⟩ ⟨c1, c2, c3⟩
  cases c1
  dsimp only at c2 c3
  have eA : K42_82 a 92 1 15 x 0 0 (y, i) = S42_82 a 92 1 15 x y i := rfl
  have eB : K192_83 c 148 n 0 0 0 0 0 (y, i) = S192_83 c 148 n y i 0 0 0 := rfl
  rw [eA, eB]
  unfold S42_82 S192_83
  rw [h.le, h.bn, ← e]
  by_cases d : a 3 7 ≤ i
  · rw [if_pos d, if_pos d]
    exact Or.inr ⟨_, _, rfl, rfl, rfl⟩
  · rw [if_neg d, if_neg d, s32_id (z := i + 1) (by omega) (by omega)]
    have k1 := q39 (b := c) (a := a) (s := 15) (f := i) (x := x) (S := fun p => ∃ j, 0 ≤ j ∧ j < n ∧ c 149 j = p) hx
    have k2 := q193 (b := c) (f := i) (n := n) (P := fun j => f131 a 15 (c 149 j) i) (by omega) n0 (fun j j0 j1 => by
      rw [h149]
      exact f131_234 h (hv.1 j j0 j1).1 (hv.1 j j0 j1).2 c2 (by omega)) (fun j j0 j1 => by
      unfold f131
      rcases f133_r (a := a) (s := 15) (u := f110 a 15 i) (p := c 149 j) (f := i) with q | q | q | q
      · exact Or.inl q
      · exact Or.inr (by omega)
      · exact Or.inr (by omega)
      · exact Or.inr (by omega))
    have k3 := Ok_T (P := fun p => f131 a 15 p i) (S := fun p => ∃ j, 0 ≤ j ∧ j < n ∧ c 149 j = p) (T := fun j => c 149 j) (n := n) (fun j j0 j1 => ⟨(hv.1 j j0 j1).1, by have := (hv.1 j j0 j1).2; omega⟩) hv.2 (fun p _ _ => Iff.rfl)
    have k4 : f39 a x i 15 = 0 ↔ f193 c 148 i n = 0 := k1.trans ((not_congr k3).trans k2.symm)
    left
    by_cases g : f193 c 148 i n = 0
    · rw [if_pos g, if_pos (k4.mpr g)]
      exact ⟨_, _, rfl, rfl, ⟨rfl, by dsimp only; omega, by dsimp only; omega⟩, by dsimp only; omega⟩
    · rw [if_neg g, if_neg (fun q => g (k4.mp q))]
      exact ⟨_, _, rfl, rfl, ⟨rfl, by dsimp only; omega, by dsimp only; omega⟩, by dsimp only; omega⟩
set_option maxRecDepth 16384 in
theorem fits_q {a b : MM} (h : C2 a b) (h8 : a 0 8 = 92) (h0 : a 0 0 = 1) (h10 : a 1 0 = 2) (hl : a 2 (-1) = 940) (hb1 : b 148 1 = 149) {u : Int} (hT : TapeR a b u) : f16 a 0 = f192 b 148 := by
  obtain ⟨t1, t2, t3, t4, t5⟩ := hT
  have hC : C2 a (g283 (mu b 148 0 0) 148) := C2_fr3 h (fun _ _ _ => rfl) (fun x k q _ => by
    unfold g283
    by_cases c : x = 148
    · rw [mu_k (by unfold PJs at q; omega), mu_k (by unfold PJs at q; omega)]
    · rw [mu_a c, mu_a c])
  have e283 : f283 (mu b 148 0 0) 148 = u := by
    unfold f283
    exact (mu_k (by decide)).trans t2
  have hc1 : (g283 (mu b 148 0 0) 148) 148 1 = 149 := by
    unfold g283
    exact (mu_k (by decide)).trans ((mu_k (by decide)).trans hb1)
  have hcT : ∀ j, 0 ≤ j → j < u → jand (a 2 j) 255 = (g283 (mu b 148 0 0) 148) 149 j := fun j j0 j1 => (t5 j j0 j1).trans (by
    unfold g283
    exact ((mu_a (by decide)).trans (mu_a (by decide))).symm)
  have h3 : a 0 3 = 15 := h.1.1.2.1
  unfold f16 f192
  rw [e283, h8, h0, h3]
  generalize g283 (mu b 148 0 0) 148 = c at hC hc1 hcT
  have hS := hC.1.2.1
  unfold f42 f209
  rw [t1]
  by_cases d1 : u < 1
  · rw [if_pos d1, if_pos d1, if_pos rfl]
  · by_cases d2 : u ≤ 3
    · rw [if_neg d1, if_pos d2, if_neg d1, if_neg (by omega : ¬ 3 < u), if_neg (by decide : ¬ (1 : Int) = 0)]
      rcases q42 hS t1 t3 t4 h10 hl hc1 hcT with ⟨k1, k2, k3, k4⟩ | ⟨k1, k2, k3, k4⟩
      · rw [if_pos k1, if_pos k2, fits_l hS t3 d2 hc1 k3 k4]
        split <;> first
          | assumption
          | rfl
      · rw [if_neg k1, if_neg k2, k3, k4]
    · rw [if_neg d1, if_neg d2, if_neg d1, if_pos (by omega : 3 < u), if_pos rfl]
end
section
/-! What may be said of a form, of a person. -/
set_option maxRecDepth 16384 in
theorem q125 {a b : MM} {s : Int} (h : Sx a b s) {p : Int} (p0 : 0 ≤ p) (p1 : p < 8) : f125 a s p = f282 b 148 (s32 (94 + (s32 (8 * p)))) 8 := by
  have hb := h.bn
  rw [s32_id (z := 8 * p) (by omega) (by omega), s32_id (z := 94 + 8 * p) (by omega) (by omega)]
  unfold f125 f282 L125_4 L282_5
  refine Lp_sim (f := K125_4 a s p 0 0) (f' := K282_5 b 148 (94 + 8 * p) 8 0 0) (P := fun x y => x = y ∧ 0 ≤ x.2 ∧ x.2 ≤ 8) (Q := fun t t' => t.2.2.1 = t'.2.2.1) (fun x => (8 - x.2).toNat) ?_ _ _ ⟨rfl, by decide, by decide⟩
  rintro ⟨x, i⟩ ⟨y, j⟩ ⟨c1, c2, c3⟩
  cases c1
  dsimp only at c2 c3
  have eA : K125_4 a s p 0 0 (x, i) = S125_4 a s p x i := rfl
  have eB : K282_5 b 148 (94 + 8 * p) 8 0 0 (x, i) = S282_5 b 148 (94 + 8 * p) 8 x i := rfl
  rw [eA, eB]
  unfold S125_4 S282_5
  by_cases c : 8 ≤ i
  · rw [if_pos c, if_pos c]
    exact Or.inr ⟨_, _, rfl, rfl, rfl⟩
  · have g := (q124 h p0 p1 c2 (by omega : i < 8)).1
    have g2 := (h.gr (k := 8 * p + i) (by omega) (by omega)).1
    rw [if_neg c, if_neg c, hb, s32_id (z := i + 1) (by omega) (by omega), s32_id (z := 94 + 8 * p + i) (by omega) (by omega), g, g2, show (94 : Int) + 8 * p + i = 94 + (8 * p + i) by omega]
    exact Or.inl ⟨_, _, rfl, rfl, ⟨rfl, by dsimp only; omega, by dsimp only; omega⟩, by dsimp only; omega⟩
set_option maxRecDepth 16384 in
theorem q114 {a b : MM} {s : Int} (h : Sx a b s) {f : Int} (f0 : 0 ≤ f) (f1 : f < a 3 7) : f114 a s f = b 150 (s32 (190 + f)) := by
  have hF := h.fo f0 f1
  obtain ⟨-, -, f8⟩ := h.f
  have h0 : a s 0 = 3 := h.1.2.2.1
  have h5 : a s 5 = s + 5 := h.1.2.1.2.2.2.2.1
  have h3 : a 3 3 = 7 := h.1.1.2.2.2.1
  rw [s32_id (z := 190 + f) (by omega) (by omega)]
  unfold f114 f85
  rw [(q127 h f0 f1).1, h0, h5, h3]
  rcases i72 h f with ⟨-, e⟩ | ⟨e, -, -⟩
  · omega
  rw [e, if_neg (show ¬ (1 : Int) = 0 by decide)]
  by_cases c1 : a (s + 4) f = 1
  · rw [if_pos c1]; exact (hF.2.1 c1).1.symm
  · rw [if_neg c1]
    by_cases c2 : a (s + 4) f = 2
    · rw [if_pos c2]; exact (hF.2.2.1 c2).symm
    · rw [if_neg c2]; exact (hF.2.2.2.1 c1 c2).symm
set_option maxRecDepth 16384 in
/-- the class's answer about a form -/
noncomputable def vF (a : MM) (f w : Int) : Int := if w = 0 then f66 a 3 f else if w = 1 then f128 a 15 f else if w = 5 then f127 a 15 f else if w = 6 then f114 a 15 f else f142 a 15 f (s32 (w - 2))
set_option maxRecDepth 16384 in
theorem formq_pair {a b : MM} (h : Sx a b 15) (h0 : Sx a (mu b 148 0 0) 15) (f w : Int) : ((f72 a 3 f = 0 ∨ w < 0 ∨ 6 < w) ∧ g194 b 148 f w 148 0 = 1) ∨ ((¬ (f72 a 3 f = 0) ∧ 0 ≤ w ∧ w ≤ 6) ∧ g194 b 148 f w 148 0 = 0 ∧ f194 b 148 f w = vF a f w) := by
  have hr : ∀ m : MM, g263 m 148 148 0 = 1 := fun m => mu_s _ _ _ _
  have hz : mu b 148 0 0 148 0 = 0 := mu_s _ _ _ _
  unfold g194 f194
  generalize mu b 148 0 0 = c at *
  rw [← q72 h0 f]
  rcases i72 h0 f with ⟨e, -⟩ | ⟨e, f0, f1⟩
  · rw [e, if_pos rfl]
    exact Or.inl ⟨Or.inl rfl, hr c⟩
  rw [e, if_neg (show ¬ (1 : Int) = 0 by decide), if_neg (show ¬ (1 : Int) = 0 by decide)]
  have hb := h0.bn
  unfold vF
  by_cases c0 : w = 0
  · subst c0
    obtain ⟨x, y⟩ := q66 h0 f0 f1
    refine Or.inr ⟨⟨by decide, by decide, by decide⟩, ?_⟩
    simp only [if_pos]
    rw [hb, y, x]
    exact ⟨hz, rfl⟩
  rw [if_neg c0, if_neg c0, if_neg c0]
  by_cases c1 : w = 1
  · subst c1
    refine Or.inr ⟨⟨by decide, by decide, by decide⟩, ?_⟩
    simp only [if_pos]
    exact ⟨hz, (q128 h0 f0 f1).symm⟩
  rw [if_neg c1, if_neg c1, if_neg c1]
  by_cases c2 : w = 2
  · subst c2
    refine Or.inr ⟨⟨by decide, by decide, by decide⟩, ?_⟩
    simp only [if_pos]
    rw [if_neg (by decide), if_neg (by decide), s32_id (by decide) (by decide)]
    obtain ⟨x, y⟩ := q142 (k := 2 - 2) h0 f0 f1 (by decide) (by decide)
    exact ⟨hz, by rw [x, y]⟩
  rw [if_neg c2, if_neg c2]
  by_cases c3 : w = 3
  · subst c3
    refine Or.inr ⟨⟨by decide, by decide, by decide⟩, ?_⟩
    simp only [if_pos]
    rw [if_neg (by decide), if_neg (by decide), s32_id (by decide) (by decide)]
    obtain ⟨x, y⟩ := q142 (k := 3 - 2) h0 f0 f1 (by decide) (by decide)
    exact ⟨hz, by rw [x, y]⟩
  rw [if_neg c3, if_neg c3]
  by_cases c4 : w = 4
  · subst c4
    refine Or.inr ⟨⟨by decide, by decide, by decide⟩, ?_⟩
    simp only [if_pos]
    rw [if_neg (by decide), if_neg (by decide), s32_id (by decide) (by decide)]
    obtain ⟨x, y⟩ := q142 (k := 4 - 2) h0 f0 f1 (by decide) (by decide)
    exact ⟨hz, by rw [x, y]⟩
  rw [if_neg c4, if_neg c4]
  by_cases c5 : w = 5
  · subst c5
    obtain ⟨x, y⟩ := q127 h0 f0 f1
    refine Or.inr ⟨⟨by decide, by decide, by decide⟩, ?_⟩
    simp only [if_pos]
    rw [hb, y, x]
    exact ⟨hz, rfl⟩
  rw [if_neg c5, if_neg c5, if_neg c5]
  by_cases c6 : w = 6
  · subst c6
    refine Or.inr ⟨⟨by decide, by decide, by decide⟩, ?_⟩
    simp only [if_pos]
    rw [hb, q114 h0 f0 f1]
    exact ⟨hz, rfl⟩
  rw [if_neg c6]
  exact Or.inl ⟨by omega, hr c⟩
set_option maxRecDepth 16384 in
/-- the class's answer about a person -/
noncomputable def vP (a : MM) (p w : Int) : Int := if w = 0 then (if f129 a 15 p = 0 then 0 else 1) else if w = 1 then f141 a 15 p else if w = 2 then f145 a 15 p else if w = 3 then f125 a 15 p else f84 a 3 p
set_option maxRecDepth 16384 in
theorem personq_pair {a b : MM} (h : Sx a b 15) (h0 : Sx a (mu b 148 0 0) 15) (p w : Int) : ((f73 a 3 p = 0 ∨ w < 0 ∨ 4 < w) ∧ g238 b 148 p w 148 0 = 1) ∨ ((¬ (f73 a 3 p = 0) ∧ 0 ≤ w ∧ w ≤ 4) ∧ g238 b 148 p w 148 0 = 0 ∧ f238 b 148 p w = vP a p w) := by
  have hr : ∀ m : MM, g263 m 148 148 0 = 1 := fun m => mu_s _ _ _ _
  have hz : mu b 148 0 0 148 0 = 0 := mu_s _ _ _ _
  unfold g238 f238
  generalize mu b 148 0 0 = c at *
  rw [← q73 h0 p]
  rcases i73 h0 p with ⟨e, -⟩ | ⟨e, p0, p1⟩
  · rw [e, if_pos rfl]
    exact Or.inl ⟨Or.inl rfl, hr c⟩
  rw [e, if_neg (show ¬ (1 : Int) = 0 by decide), if_neg (show ¬ (1 : Int) = 0 by decide)]
  have hb := h0.bn
  obtain ⟨-, -, p8⟩ := h0.p
  unfold vP
  by_cases c0 : w = 0
  · subst c0
    refine Or.inr ⟨⟨by decide, by decide, by decide⟩, ?_⟩
    simp only [if_pos]
    rw [q129 h0 p0 p1]
    refine ⟨?_, rfl⟩
    split <;> exact hz
  rw [if_neg c0, if_neg c0, if_neg c0]
  by_cases c1 : w = 1
  · subst c1
    obtain ⟨x, y⟩ := q141 h0 p0 p1
    refine Or.inr ⟨⟨by decide, by decide, by decide⟩, ?_⟩
    simp only [if_pos]
    rw [hb, y, x]
    exact ⟨hz, rfl⟩
  rw [if_neg c1, if_neg c1, if_neg c1]
  by_cases c2 : w = 2
  · subst c2
    refine Or.inr ⟨⟨by decide, by decide, by decide⟩, ?_⟩
    simp only [if_pos]
    have h00 : a 15 0 = 3 := h0.1.2.2.1
    have h3 : a 15 3 = 18 := h0.1.2.1.2.2.1
    unfold f145
    rw [h00, e, if_neg (by decide), h3, hb, s32_id (z := 206 + p) (by omega) (by omega)]
    exact ⟨hz, (h0.ts p0 (by omega)).symm⟩
  rw [if_neg c2, if_neg c2, if_neg c2]
  by_cases c3 : w = 3
  · subst c3
    refine Or.inr ⟨⟨by decide, by decide, by decide⟩, ?_⟩
    simp only [if_pos]
    exact ⟨hz, (q125 h0 p0 (by omega)).symm⟩
  rw [if_neg c3, if_neg c3, if_neg c3]
  by_cases c4 : w = 4
  · subst c4
    refine Or.inr ⟨⟨by decide, by decide, by decide⟩, ?_⟩
    simp only [if_pos]
    have h4 : a 3 4 = 8 := h0.1.1.2.2.2.2
    unfold f84
    rw [e, if_neg (by decide), h4, hb, s32_id (z := 4 + p) (by omega) (by omega)]
    exact ⟨hz, (h0.shy p0 (by omega)).symm⟩
  rw [if_neg c4]
  exact Or.inl ⟨by omega, hr c⟩
end
