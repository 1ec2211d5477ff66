/-! Questions: part, can, now. -/
set_option maxRecDepth 16384 in
theorem Sx.le {a b : MM} {s : Int} (h : Sx a b s) : a s 0 = 3 := h.1.2.2.1
set_option maxRecDepth 16384 in
theorem bad72 {a : MM} {s f : Int} (hs : a s 0 = 3) (c : ¬ (0 ≤ f ∧ f < a 3 7)) : f127 a s f = -1 := by
  unfold f127 f72
  rw [hs]
  by_cases c1 : f < 0
  · rw [if_pos c1, if_pos rfl]
  · rw [if_neg c1, if_pos (by omega : a 3 7 ≤ f), if_pos rfl]
set_option maxRecDepth 16384 in
theorem q208i {a b : MM} {s : Int} (h : Sx a b s) {f : Int} : (f208 b 148 f = 0) ↔ ¬ (0 ≤ f ∧ f < a 3 7) := by
  obtain ⟨e, e0, e8⟩ := h.f
  rw [← q72 h f]
  unfold f72
  by_cases c1 : f < 0
  · rw [if_pos c1]
    exact ⟨fun _ => by omega, fun _ => rfl⟩
  · rw [if_neg c1]
    by_cases c2 : a 3 7 ≤ f
    · rw [if_pos c2]
      exact ⟨fun _ => by omega, fun _ => rfl⟩
    · rw [if_neg c2, if_neg (by omega : ¬ 8 ≤ f)]
      exact ⟨fun q => absurd q (by decide), fun q => absurd ⟨by omega, by omega⟩ q⟩
set_option maxRecDepth 16384 in
theorem q213i {a b : MM} {s : Int} (h : Sx a b s) {p : Int} : (f213 b 148 p = 0) ↔ ¬ (0 ≤ p ∧ p < a 3 6) := by
  obtain ⟨e, e0, e8⟩ := h.p
  rw [← q73 h p]
  unfold f73
  by_cases c1 : p < 0
  · rw [if_pos c1]
    exact ⟨fun _ => by omega, fun _ => rfl⟩
  · rw [if_neg c1]
    by_cases c2 : a 3 6 ≤ p
    · rw [if_pos c2]
      exact ⟨fun _ => by omega, fun _ => rfl⟩
    · rw [if_neg c2, if_neg (by omega : ¬ 8 ≤ p)]
      exact ⟨fun q => absurd q (by decide), fun q => absurd ⟨by omega, by omega⟩ q⟩
set_option maxRecDepth 16384 in
/-- part, of any person and form -/
theorem part_eq {a b : MM} {s : Int} (h : Sx a b s) (p f : Int) : f132 a s p f = (if f213 b 148 p = 0 then -1 else (if f208 b 148 f = 0 then -1 else f235 b 148 p f)) := by
  by_cases cf : 0 ≤ f ∧ f < a 3 7
  · have n1 : ¬ f208 b 148 f = 0 := fun q => (q208i h).mp q cf
    rw [if_neg n1]
    by_cases cp : 0 ≤ p ∧ p < a 3 6
    · have n2 : ¬ f213 b 148 p = 0 := fun q => (q213i h).mp q cp
      rw [if_neg n2]
      exact q132 h cp.1 cp.2 cf.1 cf.2
    · rw [if_pos ((q213i h).mpr cp)]
      have e73 : f73 a 3 p = 0 := by rw [q73 h p]; exact (q213i h).mpr cp
      have e133 : ∀ u, f133 a s u p f = -1 := fun u => by
        unfold f133
        rw [h.le, if_pos e73]
      have e142 : f142 a s f (-1) = -1 := by
        have e137 : f137 a f (-1) = -1 := by
          unfold f137
          (repeat' split) <;> first | rfl | omega
        unfold f142
        first
          | rw [e137, if_pos (by decide)]
          | (simp only [e137]; rfl)
      unfold f132
      rw [e133, e142, if_pos rfl]
      split
      · split <;> rfl
      · rfl
  · rw [if_pos ((q208i h).mpr cf)]
    have e : f132 a s p f = -1 := by
      unfold f132
      rw [bad72 h.le cf, if_neg (by decide)]
    rw [e]
    split <;> rfl
set_option maxRecDepth 16384 in
theorem q143 {a b : MM} {s : Int} (h : Sx a b s) {f : Int} (f0 : 0 ≤ f) (f1 : f < a 3 7) : f143 a s f = f174 b 148 f := by
  obtain ⟨e, e0, e8⟩ := h.p
  have hb := h.bn
  have hs0 := h.le
  unfold f143 f174 L143_4 L174_4
  refine Lp_sim (f := K143_4 a s f 0 0) (f' := K174_4 b 148 f 0 0) (P := fun x y => x = y ∧ 0 ≤ x.2 ∧ x.2 ≤ a 3 6) (Q := fun t t' => t.2.2.1 = t'.2.2.1) (fun x => (a 3 6 - x.2).toNat) ?_ (0, 0) (0, 0) ⟨rfl, Int.le_refl _, e0⟩
  rintro ⟨x, i⟩ ⟨y, j⟩ ⟨c1, c2, c3⟩
  cases c1
  dsimp only at c2 c3
  have eA : K143_4 a s f 0 0 (x, i) = S143_4 a s f x i := rfl
  have eB : K174_4 b 148 f 0 0 (x, i) = S174_4 b 148 f x i := rfl
  rw [eA, eB]
  unfold S143_4 S174_4
  rw [hs0, hb, ← e]
  by_cases c : a 3 6 ≤ i
  · rw [if_pos c, if_pos c]
    exact Or.inr ⟨_, _, rfl, rfl, rfl⟩
  · have q := q132 h (p := i) (f := f) c2 (by omega) f0 f1
    rw [if_neg c, if_neg c, q, s32_id (z := i + 1) (by omega) (by omega)]
    by_cases d : f235 b 148 i f = -1
    · rw [if_pos d]
      exact Or.inl ⟨_, _, rfl, rfl, ⟨rfl, by dsimp only; omega, by dsimp only; omega⟩, by dsimp only; omega⟩
    · rw [if_neg d]
      exact Or.inl ⟨_, _, rfl, rfl, ⟨rfl, by dsimp only; omega, by dsimp only; omega⟩, by dsimp only; omega⟩
set_option maxRecDepth 16384 in
theorem q112 {a b : MM} {s : Int} (h : Sx a b s) (z : Int) : f112 a s = (L228_74 b 148 z 0 0).2.2.1 := by
  obtain ⟨e, e0, e8⟩ := h.f
  have hb := h.bn
  have hs0 := h.le
  unfold f112 L112_4 L228_74
  refine Lp_sim (f := K112_4 a s 0 0) (f' := K228_74 b 148 z 0 0) (P := fun x y => x = y ∧ 0 ≤ x.2 ∧ x.2 ≤ a 3 7) (Q := fun t t' => t.2.2.1 = t'.2.2.1) (fun x => (a 3 7 - x.2).toNat) ?_ (0, 0) (0, 0) ⟨rfl, Int.le_refl _, e0⟩
  rintro ⟨x, i⟩ ⟨y, j⟩ ⟨c1, c2, c3⟩
  cases c1
  dsimp only at c2 c3
  have eA : K112_4 a s 0 0 (x, i) = S112_4 a s x i := rfl
  have eB : K228_74 b 148 z 0 0 (x, i) = S228_74 b 148 z x i := rfl
  rw [eA, eB]
  unfold S112_4 S228_74 f206
  rw [hs0, hb, ← e]
  by_cases c : a 3 7 ≤ i
  · rw [if_pos c, if_pos c]
    exact Or.inr ⟨_, _, rfl, rfl, rfl⟩
  · have q := q128 h (f := i) c2 (by omega)
    rw [if_neg c, if_neg c, q, s32_id (z := i + 1) (by omega) (by omega)]
    by_cases d : f204 b 148 i = -1
    · simp only [if_pos d]
      rw [if_neg (by decide : ¬ (1 : Int) = 0)]
      exact Or.inl ⟨_, _, rfl, rfl, ⟨rfl, by dsimp only; omega, by dsimp only; omega⟩, by dsimp only; omega⟩
    · simp only [if_neg d]
      rw [if_pos trivial]
      exact Or.inl ⟨_, _, rfl, rfl, ⟨rfl, by dsimp only; omega, by dsimp only; omega⟩, by dsimp only; omega⟩
set_option maxRecDepth 16384 in
theorem q109 {a b : MM} {s : Int} (h : Sx a b s) (hl : a (s + 1) (-1) = 64) (h9 : s < 140) : f109 a s = f282 b 148 94 64 := by
  have hb := h.bn
  have h1 : a s 1 = s + 1 := h.1.2.1.1
  have hs := h.1.2.2.2.2
  unfold f109 f282 L109_4 L282_5
  refine Lp_sim (f := K109_4 a s 0 0) (f' := K282_5 b 148 94 64 0 0) (P := fun x y => x = y ∧ 0 ≤ x.2 ∧ x.2 ≤ 64) (Q := fun t t' => t.2.2.1 = t'.2.2.1) (fun x => (64 - x.2).toNat) ?_ (0, 0) (0, 0) ⟨rfl, Int.le_refl _, by decide⟩
  rintro ⟨x, i⟩ ⟨y, j⟩ ⟨c1, c2, c3⟩
  cases c1
  dsimp only at c2 c3
  have eA : K109_4 a s 0 0 (x, i) = S109_4 a s x i := rfl
  have eB : K282_5 b 148 94 64 0 0 (x, i) = S282_5 b 148 94 64 x i := rfl
  rw [eA, eB]
  unfold S109_4 S282_5
  rw [h1, hb, hl, if_neg (by omega : ¬ s + 1 = 1000050), s32_id (z := 64) (by decide) (by decide)]
  by_cases c : 64 ≤ i
  · rw [if_pos c, if_pos c]
    exact Or.inr ⟨_, _, rfl, rfl, rfl⟩
  · have g := (h.gr (k := i) c2 (by omega)).1
    rw [if_neg c, if_neg c, s32_id (z := i + 1) (by omega) (by omega), s32_id (z := 94 + i) (by omega) (by omega), g]
    exact Or.inl ⟨_, _, rfl, rfl, ⟨rfl, by dsimp only; omega, by dsimp only; omega⟩, by dsimp only; omega⟩
set_option maxRecDepth 16384 in
theorem now_eq {a b : MM} (h : C2 a b) (hl : a 16 (-1) = 64) (x : Int) : f23 a 0 x = f228 b 148 x := by
  have hT : C2 a (mu b 148 0 0) := C2_fr3 h (fun _ _ _ => rfl) (fun x k q _ => by
    by_cases c : x = 148
    · exact mu_k (by unfold PJs at q; omega)
    · exact mu_a c)
  unfold f23 f228
  generalize mu b 148 0 0 = c at hT
  have hS := hT.1.2.1
  have h3 : a 0 3 = 15 := hT.1.1.2.1
  rw [h3, hS.bn]
  by_cases c0 : x = 0
  · rw [if_pos c0, if_pos c0]
    exact hS.day.1
  · rw [if_neg c0, if_neg c0]
    by_cases c1 : x = 1
    · rw [if_pos c1, if_pos c1, c1]
      exact (q119 hS 0).trans (congrArg (f286 c 148) ((s32_id (z := 1 - 1) (by decide) (by decide)).trans (by decide : (1 : Int) - 1 = 0)).symm)
    · rw [if_neg c1, if_neg c1]
      by_cases c2 : x = 2
      · rw [if_pos c2, if_pos c2, c2]
        exact (q119 hS 1).trans (congrArg (f286 c 148) ((s32_id (z := 2 - 1) (by decide) (by decide)).trans (by decide : (2 : Int) - 1 = 1)).symm)
      · rw [if_neg c2, if_neg c2]
        by_cases c3 : x = 3
        · rw [if_pos c3, if_pos c3, c3]
          exact (q119 hS 2).trans (congrArg (f286 c 148) ((s32_id (z := 3 - 1) (by decide) (by decide)).trans (by decide : (3 : Int) - 1 = 2)).symm)
        · rw [if_neg c3, if_neg c3]
          by_cases c4 : x = 4
          · rw [if_pos c4, if_pos c4, c4]
            exact (q119 hS 3).trans (congrArg (f286 c 148) ((s32_id (z := 4 - 1) (by decide) (by decide)).trans (by decide : (4 : Int) - 1 = 3)).symm)
          · rw [if_neg c4, if_neg c4]
            by_cases c5 : x = 5
            · rw [if_pos c5, if_pos c5]
              exact q112 hS x
            · rw [if_neg c5, if_neg c5]
              by_cases c6 : x = 6
              · rw [if_pos c6, if_pos c6]
                exact hS.2.2.2.1.1
              · rw [if_neg c6, if_neg c6]
                by_cases c7 : x = 7
                · rw [if_pos c7, if_pos c7]
                  exact q109 hS hl (by decide)
                · rw [if_neg c7, if_neg c7]
set_option maxRecDepth 16384 in
theorem can_eq {a b : MM} (h : C2 a b) (f : Int) : f5 a 0 f = f173 b 148 f := by
  have hT : C2 a (mu b 148 0 0) := C2_fr3 h (fun _ _ _ => rfl) (fun x k q _ => by
    by_cases c : x = 148
    · exact mu_k (by unfold PJs at q; omega)
    · exact mu_a c)
  unfold f5 f173
  generalize mu b 148 0 0 = c at hT
  have hS := hT.1.2.1
  have h1 : a 0 1 = 3 := hT.1.1.1
  have h3 : a 0 3 = 15 := hT.1.1.2.1
  rw [h1, h3, q72 hS f]
  by_cases c0 : f208 c 148 f = 0
  · rw [if_pos c0, if_pos c0]
  · rw [if_neg c0, if_neg c0]
    have cf : 0 ≤ f ∧ f < a 3 7 := by
      by_cases q : 0 ≤ f ∧ f < a 3 7
      · exact q
      · exact absurd ((q208i hS).mpr q) c0
    exact q143 hS cf.1 cf.2
set_option maxRecDepth 16384 in
theorem part_q {a b : MM} (h : C2 a b) (p f : Int) : f26 a 0 p f = f233 b 148 p f := by
  have hT : C2 a (mu b 148 0 0) := C2_fr3 h (fun _ _ _ => rfl) (fun x k q _ => by
    by_cases c : x = 148
    · exact mu_k (by unfold PJs at q; omega)
    · exact mu_a c)
  unfold f26 f233
  generalize mu b 148 0 0 = c at hT
  have h3 : a 0 3 = 15 := hT.1.1.2.1
  rw [h3]
  exact part_eq hT.1.2.1 p f
