/-! Cover: who. -/
set_option maxRecDepth 16384 in
theorem cover_b {a b m : MM} {x : Int} (hC : C2 m b) (hA : m 92 0 = 93) (h1 : ∀ j, 0 ≤ j → j < b 150 1 → ∀ M, jand (m 93 j) M = 0 ↔ f201 b 148 j M = 0) (h2 : ∀ j, 0 ≤ j → j < 8 → (jand x (jshl 1 j) = 0 ↔ ¬ (j < b 150 1 ∧ ¬ f204 b 148 j = -1))) : (L41_14 m 92 15 x (-1) (-1) 0 0).2.2.1 = (L178_40 b 148 ((L178_9 b 148 0 0 0).2.2.1) (-1) 0).2.2.1 ∧ ((L41_14 m 92 15 x (-1) (-1) 0 0).2.2.2.1 = -1 ↔ (L178_40 b 148 ((L178_9 b 148 0 0 0).2.2.1) (-1) 0).2.2.1 = -1) := by
  have hS := hC.1.2.1
  have hp := hS.p
  have hf := hS.f
  have hs8 := shl8 hp.2.1 hp.2.2
  have al : ∀ k, f40 m 92 k x = 0 ↔ ¬ f271 b 148 k = (L178_9 b 148 0 0 0).2.2.1 := fun k => by
    rw [q40 hC hA h1 h2, q271 hS.bn (by omega) (by omega) k 0]
  generalize hT : (L178_9 b 148 0 0 0).2.2.1 = T at al
  unfold L41_14 L178_40
  refine Lp_sim (f := K41_14 m 92 15 x (-1) (-1) 0 0) (f' := K178_40 b 148 T (-1) 0) (P := fun u v => u.1 = v.1 ∧ u.2.2.1 = v.2 ∧ 0 ≤ v.2 ∧ v.2 ≤ jshl 1 (m 3 6) ∧ ((u.2.1 = -1 ∧ v.1 = -1) ∨ (0 ≤ v.1 ∧ v.1 < 256 ∧ u.2.1 = cpop v.1))) (Q := fun t t' => t.2.2.1 = t'.2.2.1 ∧ (t.2.2.2.1 = -1 ↔ t'.2.2.1 = -1)) (fun u => (jshl 1 (m 3 6) - u.2.2.1).toNat) ?_ (-1, -1, 0, 0) (-1, 0) ⟨rfl, rfl, Int.le_refl _, by dsimp only; omega, Or.inl ⟨rfl, rfl⟩⟩
  rintro ⟨u1, u2, i, u4⟩ ⟨v, j⟩ ⟨c0, c1, c2, c3, c4⟩
  dsimp only at c0 c1 c2 c3 c4
  subst c0 c1
  have eA : K41_14 m 92 15 x (-1) (-1) 0 0 (u1, u2, i, u4) = S41_14 m 92 15 x u1 u2 i u4 := rfl
  have eB : K178_40 b 148 T (-1) 0 (u1, i) = S178_40 b 148 T u1 i := rfl
  rw [eA, eB]
  unfold S41_14 S178_40
  rw [hS.le, hS.bn, ← hp.1]
  by_cases c : jshl 1 (m 3 6) ≤ i
  · rw [if_pos c, if_pos c]
    refine Or.inr ⟨_, _, rfl, rfl, ?_⟩
    dsimp only
    rcases c4 with ⟨d1, d2⟩ | ⟨d1, d2, d3⟩
    · exact ⟨rfl, ⟨fun _ => d2, fun _ => d1⟩⟩
    · have := (f170_k b d1 d2).2
      exact ⟨rfl, ⟨fun _ => by omega, fun _ => by omega⟩⟩
  · have hi := f170_k b (k := i) c2 (by omega)
    rw [if_neg c, if_neg c, s32_id (z := i + 1) (by omega) (by omega), f296_k, hi.1]
    left
    rcases c4 with ⟨d1, d2⟩ | ⟨d1, d2, d3⟩
    · rw [if_pos d1, if_pos d2]
      by_cases g : f271 b 148 i = T
      · rw [if_pos g, if_neg (fun w => (al i).mp w g)]
        exact ⟨_, _, rfl, rfl, ⟨rfl, rfl, by dsimp only; omega, by dsimp only; omega, Or.inr ⟨c2, by dsimp only; omega, rfl⟩⟩, by dsimp only; omega⟩
      · rw [if_neg g, if_pos ((al i).mpr g)]
        exact ⟨_, _, rfl, rfl, ⟨rfl, rfl, by dsimp only; omega, by dsimp only; omega, Or.inl ⟨d1, d2⟩⟩, by dsimp only; omega⟩
    · have hv := f170_k b d1 d2
      rw [if_neg (by omega : ¬ u2 = -1), if_neg (by omega : ¬ u1 = -1), hv.1, d3]
      by_cases w : cpop u1 ≤ cpop i
      · rw [if_pos w, if_pos w]
        exact ⟨_, _, rfl, rfl, ⟨rfl, rfl, by dsimp only; omega, by dsimp only; omega, Or.inr ⟨d1, d2, rfl⟩⟩, by dsimp only; omega⟩
      · rw [if_neg w, if_neg w]
        by_cases g : f271 b 148 i = T
        · rw [if_pos g, if_neg (fun w => (al i).mp w g)]
          exact ⟨_, _, rfl, rfl, ⟨rfl, rfl, by dsimp only; omega, by dsimp only; omega, Or.inr ⟨c2, by dsimp only; omega, rfl⟩⟩, by dsimp only; omega⟩
        · rw [if_neg g, if_pos ((al i).mpr g)]
          exact ⟨_, _, rfl, rfl, ⟨rfl, rfl, by dsimp only; omega, by dsimp only; omega, Or.inr ⟨d1, d2, rfl⟩⟩, by dsimp only; omega⟩
set_option maxRecDepth 16384 in
theorem g43_2 {a b : MM} (h : C2 a b) (hA : a 92 0 = 93) : (g43 a 92 15) 92 2 = a 92 2 := by
  unfold g43 L43_4
  refine Lp_ind (f := K43_4 a 92 15 0 0) (P := fun x => 0 ≤ x.2.1 ∧ x.2.1 ≤ b 150 1 ∧ (C2 x.2.2 b ∧ x.2.2 92 0 = 93) ∧ x.2.2 92 2 = a 92 2) (Q := fun t => t.2.2.2.2 92 2 = a 92 2) (fun x => (b 150 1 - x.2.1).toNat) ?_ (0, 0, a) ⟨Int.le_refl _, by have := h.1.2.1.f; dsimp only; omega, ⟨h, hA⟩, rfl⟩
  rintro ⟨x, i, m⟩ ⟨c2, c3, ⟨c4, c5⟩, c6⟩
  dsimp only at c2 c3 c4 c5 c6
  have hS := c4.1.2.1
  have hfm := hS.f
  have eA : K43_4 a 92 15 0 0 (x, i, m) = S43_4 m 92 15 x i := rfl
  rw [eA]
  unfold S43_4
  rw [hS.le, c5]
  by_cases c : m 3 7 ≤ i
  · rw [if_pos c]
    exact Or.inr ⟨_, rfl, c6⟩
  · rw [if_neg c, if_neg (by omega : ¬ 8 ≤ i), s32_id (z := i + 1) (by omega) (by omega)]
    left
    have d4 : ∀ v, C2 (mu m 93 i v) b := fun v => C2_93 c4 _ _
    have d5 : ∀ v, (mu m 93 i v) 92 0 = 93 := fun v => (mu_a (by decide)).trans c5
    have d6 : ∀ v, (mu m 93 i v) 92 2 = a 92 2 := fun v => (mu_a (by decide)).trans c6
    split
    · exact ⟨_, rfl, ⟨by dsimp only; omega, by dsimp only; omega, ⟨d4 (s32 (f144 m 15 i)), d5 (s32 (f144 m 15 i))⟩, d6 (s32 (f144 m 15 i))⟩, by dsimp only; omega⟩
    · exact ⟨_, rfl, ⟨by dsimp only; omega, by dsimp only; omega, ⟨d4 (s32 (f144 m 15 i)), d5 (s32 (f144 m 15 i))⟩, d6 (s32 (f144 m 15 i))⟩, by dsimp only; omega⟩
set_option maxRecDepth 16384 in
theorem cover_x {a b : MM} (h : C2 a b) (h8 : a 0 8 = 92) (hA : a 92 0 = 93) (hx : a 92 2 = b 148 32) : (g8 a 0) 92 2 = (g178 b 148) 148 32 := by
  have hT : C2 a (mu b 148 0 0) := C2_fr3 h (fun _ _ _ => rfl) (fun x k q _ => by
    by_cases c : x = 148
    · exact mu_k (by unfold PJs at q; omega)
    · exact mu_a c)
  have hx2 : a 92 2 = (mu b 148 0 0) 148 32 := hx.trans (mu_k (by decide)).symm
  unfold g8 g178
  generalize mu b 148 0 0 = c at hT hx2
  have h3 : a 0 3 = 15 := hT.1.1.2.1
  obtain ⟨⟨g1, g2⟩, g3, g4⟩ := q43 hT hA
  obtain ⟨k1, k2⟩ := cover_b (a := a) g1 g2 g3 g4
  have e2 := g43_2 hT hA
  rw [h8, h3]
  unfold g41
  by_cases d : (L178_40 c 148 ((L178_9 c 148 0 0 0).2.2.1) (-1) 0).2.2.1 = -1
  · rw [if_pos (k2.mpr d), if_pos d, e2]
    exact hx2
  · rw [if_neg (fun w => d (k2.mp w)), if_neg d, k1, mu_s, mu_s]
