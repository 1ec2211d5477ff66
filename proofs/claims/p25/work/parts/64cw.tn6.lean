/-! When, both sides. -/
set_option maxRecDepth 16384 in
def Cz (a : MM) (s f z i k : Int) : Prop := ∃ j, 0 ≤ j ∧ j < i ∧ f132 a s j f = k ∧ (z = 0 ∨ f141 a s j = -1)
set_option maxRecDepth 16384 in
theorem q165i {a b : MM} {s : Int} (h : Sx a b s) {f : Int} (f0 : 0 ≤ f) (f1 : f < a 3 7) (z k : Int) : ((L165_26 b 148 f z k 0 0).2.2.1 = 0 ∧ ¬ Cz a s f z (a 3 6) k) ∨ (¬ (L165_26 b 148 f z k 0 0).2.2.1 = 0 ∧ Cz a s f z (a 3 6) k) := by
  obtain ⟨e, e0, e8⟩ := h.p
  have hb := h.bn
  unfold L165_26
  refine Lp_ind (f := K165_26 b 148 f z k 0 0) (P := fun x => 0 ≤ x.2 ∧ x.2 ≤ a 3 6 ∧ ((x.1 = 0 ∧ ¬ Cz a s f z x.2 k) ∨ (x.1 = 1 ∧ Cz a s f z x.2 k))) (Q := fun t => (t.2.2.1 = 0 ∧ ¬ Cz a s f z (a 3 6) k) ∨ (¬ t.2.2.1 = 0 ∧ Cz a s f z (a 3 6) k)) (fun x => (a 3 6 - x.2).toNat) ?_ (0, 0) ⟨Int.le_refl _, e0, Or.inl ⟨rfl, fun ⟨j, j0, j1, _⟩ => by dsimp only at j1; omega⟩⟩
  rintro ⟨x, i⟩ ⟨c2, c3, c4⟩
  dsimp only at c2 c3 c4
  have eB : K165_26 b 148 f z k 0 0 (x, i) = S165_26 b 148 f z k x i := rfl
  rw [eB]
  unfold S165_26
  rw [hb, ← e]
  by_cases c : a 3 6 ≤ i
  · rw [if_pos c]
    have : i = a 3 6 := by omega
    rw [this] at c4
    refine Or.inr ⟨_, rfl, ?_⟩
    rcases c4 with ⟨q1, q2⟩ | ⟨q1, q2⟩
    · exact Or.inl ⟨q1, q2⟩
    · exact Or.inr ⟨by dsimp only; omega, q2⟩
  · have q := q132 h (p := i) (f := f) c2 (by omega) f0 f1
    have t := q141 h (p := i) c2 (by omega)
    rw [if_neg c, s32_id (z := i + 1) (by omega) (by omega), ← q, t.2, ← t.1]
    left
    have same : ¬ (f132 a s i f = k ∧ (z = 0 ∨ f141 a s i = -1)) → ((x = 0 ∧ ¬ Cz a s f z (i + 1) k) ∨ (x = 1 ∧ Cz a s f z (i + 1) k)) := fun n => by
      have r : Cz a s f z (i + 1) k ↔ Cz a s f z i k := ⟨fun ⟨j, j0, j1, j2⟩ => by
        by_cases d : j = i
        · rw [d] at j2; exact absurd j2 n
        · exact ⟨j, j0, by omega, j2⟩, fun ⟨j, j0, j1, j2⟩ => ⟨j, j0, by omega, j2⟩⟩
      rw [r]
      exact c4
    by_cases d1 : f132 a s i f = k
    · rw [if_pos d1]
      by_cases d2 : z = 0
      · rw [if_pos d2]
        exact ⟨_, rfl, ⟨by dsimp only; omega, by dsimp only; omega, Or.inr ⟨rfl, i, c2, by dsimp only; omega, d1, Or.inl d2⟩⟩, by dsimp only; omega⟩
      · rw [if_neg d2]
        by_cases d3 : f141 a s i = -1
        · rw [if_pos d3]
          exact ⟨_, rfl, ⟨by dsimp only; omega, by dsimp only; omega, Or.inr ⟨rfl, i, c2, by dsimp only; omega, d1, Or.inr d3⟩⟩, by dsimp only; omega⟩
        · rw [if_neg d3]
          exact ⟨_, rfl, ⟨by dsimp only; omega, by dsimp only; omega, same (fun w => w.2.elim d2 d3)⟩, by dsimp only; omega⟩
    · rw [if_neg d1]
      exact ⟨_, rfl, ⟨by dsimp only; omega, by dsimp only; omega, same (fun w => d1 w.1)⟩, by dsimp only; omega⟩
set_option maxRecDepth 16384 in
theorem q165 {a b : MM} {s : Int} (h : Sx a b s) {f : Int} (f0 : 0 ≤ f) (f1 : f < a 3 7) (z : Int) : f165 b 148 f z = 0 ↔ ¬ ∀ k, 0 ≤ k → k < 3 → f142 a s f k = -1 → Cz a s f z (a 3 6) k := by
  unfold f165
  have key : ∀ t : Nat × Int × (Int × Int × Int), ((t.1 = 1 ∧ ∀ k, 0 ≤ k → k < 3 → f142 a s f k = -1 → Cz a s f z (a 3 6) k) ∨ (t.1 = 2 ∧ t.2.1 = 0 ∧ ¬ ∀ k, 0 ≤ k → k < 3 → f142 a s f k = -1 → Cz a s f z (a 3 6) k)) → ((if t.1 = 1 then (1 : Int) else t.2.1) = 0 ↔ ¬ ∀ k, 0 ≤ k → k < 3 → f142 a s f k = -1 → Cz a s f z (a 3 6) k) := by
    rintro t (⟨t1, t2⟩ | ⟨t1, t2, t3⟩)
    · rw [if_pos t1]
      exact ⟨fun q => absurd q (by decide), fun q => absurd t2 q⟩
    · rw [if_neg (by omega), t2]
      exact ⟨fun _ => t3, fun _ => rfl⟩
  refine key _ ?_
  unfold L165_2
  refine Lp_ind (f := K165_2 b 148 f z 0 0 0) (P := fun x => 0 ≤ x.1 ∧ x.1 ≤ 3 ∧ ∀ k, 0 ≤ k → k < x.1 → f142 a s f k = -1 → Cz a s f z (a 3 6) k) (Q := fun t => (t.1 = 1 ∧ ∀ k, 0 ≤ k → k < 3 → f142 a s f k = -1 → Cz a s f z (a 3 6) k) ∨ (t.1 = 2 ∧ t.2.1 = 0 ∧ ¬ ∀ k, 0 ≤ k → k < 3 → f142 a s f k = -1 → Cz a s f z (a 3 6) k)) (fun x => (3 - x.1).toNat) ?_ (0, 0, 0) ⟨Int.le_refl _, by decide, fun k k0 k1 => by dsimp only at k1; omega⟩
  rintro ⟨k, x, y⟩ ⟨c2, c3, c4⟩
  dsimp only at c2 c3 c4
  have eB : K165_2 b 148 f z 0 0 0 (k, x, y) = S165_2 b 148 f z k x y := rfl
  rw [eB]
  unfold S165_2
  by_cases c : 3 ≤ k
  · rw [if_pos c]
    have : k = 3 := by omega
    rw [this] at c4
    exact Or.inr ⟨_, rfl, Or.inl ⟨rfl, c4⟩⟩
  · have q := q142 h f0 f1 (k := k) c2 (by omega)
    rw [if_neg c, s32_id (z := k + 1) (by omega) (by omega), q.2, ← q.1]
    have ext1 : (f142 a s f k = -1 → Cz a s f z (a 3 6) k) → ∀ j, 0 ≤ j → j < k + 1 → f142 a s f j = -1 → Cz a s f z (a 3 6) j := fun n j j0 j1 hj => by
      by_cases d : j = k
      · rw [d] at hj ⊢
        exact n hj
      · exact c4 j j0 (by omega) hj
    by_cases d : f142 a s f k = -1
    · rw [if_pos d]
      rcases q165i h f0 f1 z k with ⟨g1, g2⟩ | ⟨g1, g2⟩
      · rw [if_pos g1]
        exact Or.inr ⟨_, rfl, Or.inr ⟨rfl, rfl, fun w => g2 (w k c2 (by omega) d)⟩⟩
      · rw [if_neg g1]
        exact Or.inl ⟨_, rfl, ⟨by dsimp only; omega, by dsimp only; omega, ext1 (fun _ => g2)⟩, by dsimp only; omega⟩
    · rw [if_neg d]
      exact Or.inl ⟨_, rfl, ⟨by dsimp only; omega, by dsimp only; omega, ext1 (fun w => absurd w d)⟩, by dsimp only; omega⟩
set_option maxRecDepth 16384 in
theorem dB_i {p q : Prop} : dB p = dB q ↔ (p ↔ q) := ⟨fun h => ⟨fun x => dB_t.mp (h ▸ dB_t.mpr x), fun x => dB_t.mp (h.symm ▸ dB_t.mpr x)⟩, dB_c⟩
set_option maxRecDepth 16384 in
theorem B3_need {C N : Int → Prop} (hi : ∀ k, 0 ≤ k → k < 3 → C k → N k) : B3 (dB (C 0)) (dB (C 1)) (dB (C 2)) = B3 (dB (N 0)) (dB (N 1)) (dB (N 2)) ↔ ∀ k, 0 ≤ k → k < 3 → N k → C k := by
  constructor
  · intro h k k0 k1
    obtain ⟨h0, h1, h2⟩ := B3_inj h
    have : k = 0 ∨ k = 1 ∨ k = 2 := by omega
    rcases this with rfl | rfl | rfl
    · exact (dB_i.mp h0).mpr
    · exact (dB_i.mp h1).mpr
    · exact (dB_i.mp h2).mpr
  · intro h
    rw [dB_c ⟨hi 0 (by decide) (by decide), h 0 (by decide) (by decide)⟩, dB_c ⟨hi 1 (by decide) (by decide), h 1 (by decide) (by decide)⟩, dB_c ⟨hi 2 (by decide) (by decide), h 2 (by decide) (by decide)⟩]
set_option maxRecDepth 16384 in
/-- how long till it can be filed -/
theorem q115 {a b : MM} {s : Int} (h : Sx a b s) {f : Int} (f0 : 0 ≤ f) (f1 : f < a 3 7) : f115 a s f = (if f165 b 148 f 1 = 0 then (if f165 b 148 f 0 = 0 then -1 else 1) else 0) := by
  have hs1 : ∀ k, 0 ≤ k → k < 3 → Cs a s f (a 3 6) k → f142 a s f k = -1 := fun k k0 k1 ⟨j, j0, j1, j2⟩ => by
    rcases f132_r (a := a) (s := s) (p := j) (f := f) with d | ⟨-, d⟩
    · omega
    · rw [j2] at d; exact d
  have hs2 : ∀ k, 0 ≤ k → k < 3 → Ct a s f (a 3 6) k → f142 a s f k = -1 := fun k k0 k1 ⟨j, j0, j1, j2, _⟩ => hs1 k k0 k1 ⟨j, j0, j1, j2⟩
  have m1 := B3_need (C := fun k => Cs a s f (a 3 6) k) (N := fun k => f142 a s f k = -1) hs1
  have m2 := B3_need (C := fun k => Ct a s f (a 3 6) k) (N := fun k => f142 a s f k = -1) hs2
  have r1 : f165 b 148 f 1 = 0 ↔ ¬ ∀ k, 0 ≤ k → k < 3 → f142 a s f k = -1 → Ct a s f (a 3 6) k := by
    rw [q165 h f0 f1 1]
    exact not_congr ⟨fun q k k0 k1 hk => by
      obtain ⟨j, j0, j1, j2, j3⟩ := q k k0 k1 hk
      exact ⟨j, j0, j1, j2, j3.elim (fun w => absurd w (by decide)) id⟩, fun q k k0 k1 hk => by
      obtain ⟨j, j0, j1, j2, j3⟩ := q k k0 k1 hk
      exact ⟨j, j0, j1, j2, Or.inr j3⟩⟩
  have r0 : f165 b 148 f 0 = 0 ↔ ¬ ∀ k, 0 ≤ k → k < 3 → f142 a s f k = -1 → Cs a s f (a 3 6) k := by
    rw [q165 h f0 f1 0]
    exact not_congr ⟨fun q k k0 k1 hk => by
      obtain ⟨j, j0, j1, j2, -⟩ := q k k0 k1 hk
      exact ⟨j, j0, j1, j2⟩, fun q k k0 k1 hk => by
      obtain ⟨j, j0, j1, j2⟩ := q k k0 k1 hk
      exact ⟨j, j0, j1, j2, Or.inl rfl⟩⟩
  have imp : (∀ k, 0 ≤ k → k < 3 → f142 a s f k = -1 → Ct a s f (a 3 6) k) → ∀ k, 0 ≤ k → k < 3 → f142 a s f k = -1 → Cs a s f (a 3 6) k := fun q k k0 k1 hk => by
    obtain ⟨j, j0, j1, j2, -⟩ := q k k0 k1 hk
    exact ⟨j, j0, j1, j2⟩
  unfold f115
  rw [q115b, (q115a h f).1, (q115a h f).2]
  by_cases c2 : ∀ k, 0 ≤ k → k < 3 → f142 a s f k = -1 → Ct a s f (a 3 6) k
  · rw [if_pos (m1.mpr (imp c2)), if_pos (m2.mpr c2), if_neg (fun q => r1.mp q c2)]
  · rw [if_pos (r1.mpr c2)]
    by_cases c1 : ∀ k, 0 ≤ k → k < 3 → f142 a s f k = -1 → Cs a s f (a 3 6) k
    · rw [if_pos (m1.mpr c1), if_neg (fun q => c2 (m2.mp q)), if_neg (fun q => r0.mp q c1)]
    · rw [if_neg (fun q => c1 (m1.mp q)), if_pos (r0.mpr c1)]
