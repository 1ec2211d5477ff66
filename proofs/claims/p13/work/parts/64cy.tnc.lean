/-! Fits, the reference's side. -/
set_option maxRecDepth 16384 in
theorem q193 {b : MM} {f n : Int} {P : Int → Int} (n8 : n ≤ 8) (n0 : 0 ≤ n) (hP : ∀ j, 0 ≤ j → j < n → f234 b 148 ((b (b 148 1)) j) f (f203 b 148 f) = P j) (hr : ∀ j, 0 ≤ j → j < n → P j = -1 ∨ (0 ≤ P j ∧ P j < 3)) : f193 b 148 f n = 0 ↔ ¬ Ok P (fun _ => True) n := by
  unfold f193
  have key : ∀ t : Nat × Int × (Int × Int × Int), ((t.1 = 1 ∧ Ok P (fun _ => True) n) ∨ (t.1 = 2 ∧ t.2.1 = 0 ∧ ¬ Ok P (fun _ => True) n)) → ((if t.1 = 1 then (1 : Int) else t.2.1) = 0 ↔ ¬ Ok P (fun _ => True) n) := by
    rintro t (⟨t1, t2⟩ | ⟨t1, t2, t3⟩)
    · rw [if_pos t1]
      exact ⟨fun q => absurd q (by decide), fun q => absurd t2 q⟩
    · rw [if_neg (by omega), t2]
      exact ⟨fun _ => t3, fun _ => rfl⟩
  refine key _ ?_
  unfold L193_5
  refine Lp_ind (f := K193_5 b 148 f n 0 0 0) (P := fun y => 0 ≤ y.2.1 ∧ y.2.1 ≤ n ∧ y.1 = Mk (Wk P (fun _ => True) y.2.1) ∧ Ok P (fun _ => True) y.2.1) (Q := fun t => (t.1 = 1 ∧ Ok P (fun _ => True) n) ∨ (t.1 = 2 ∧ t.2.1 = 0 ∧ ¬ Ok P (fun _ => True) n)) (fun y => (n - y.2.1).toNat) ?_ (0, 0, 0) ⟨Int.le_refl _, n0, Mk_0 (fun j ⟨p, p0, p1, _⟩ => by dsimp only at p1; omega), ⟨fun p p0 p1 => by dsimp only at p1; omega, fun p q p0 p1 p2 => by dsimp only at p2; omega⟩⟩
  rintro ⟨y, i, z⟩ ⟨c2, c3, c4, c5⟩
  dsimp only at c2 c3 c4 c5
  have eB : K193_5 b 148 f n 0 0 0 (y, i, z) = S193_5 b 148 f n y i z := rfl
  rw [eB]
  unfold S193_5
  by_cases c : n ≤ i
  · rw [if_pos c]
    have : i = n := by omega
    rw [this] at c5
    exact Or.inr ⟨_, rfl, Or.inl ⟨rfl, c5⟩⟩
  · rw [if_neg c, s32_id (z := i + 1) (by omega) (by omega), hP i c2 (by omega)]
    by_cases e1 : P i = -1
    · rw [if_pos e1]
      exact Or.inr ⟨_, rfl, Or.inr ⟨rfl, rfl, fun w => w.1 i c2 (by omega) trivial e1⟩⟩
    · rw [if_neg e1]
      have r : 0 ≤ P i ∧ P i < 3 := (hr i c2 (by omega)).elim (fun q => absurd q e1) id
      have hk := has_ok b y (P i) r.1 (by omega)
      by_cases e2 : f199 b y (P i) = 0
      · rw [if_pos e2]
        have w := hk.mp e2
        rw [c4, Mk_and r.1 r.2] at w
        refine Or.inl ⟨_, rfl, ⟨by dsimp only; omega, by dsimp only; omega, ?_, (Ok_yes c2 trivial).mpr ⟨c5, e1, w⟩⟩, by dsimp only; omega⟩
        dsimp only
        rw [c4]
        exact Mk_or r.1 r.2 (fun k _ _ => ⟨fun ⟨p, p0, p1, p2, p3⟩ => by
          by_cases e : p = i
          · exact Or.inr (e ▸ p3)
          · exact Or.inl ⟨p, p0, by omega, p2, p3⟩, fun q => by
          rcases q with ⟨p, p0, p1, p2⟩ | q
          · exact ⟨p, p0, by omega, p2⟩
          · exact ⟨i, c2, by omega, trivial, q⟩⟩)
      · rw [if_neg e2]
        have w : ¬ jand y (jshl 1 (P i)) = 0 := fun q => e2 (hk.mpr q)
        rw [c4, Mk_and r.1 r.2] at w
        exact Or.inr ⟨_, rfl, Or.inr ⟨rfl, rfl, fun v => w (fun q => ((Ok_yes c2 trivial).mp (Ok_le (by omega) v)).2.2 q)⟩⟩
set_option maxRecDepth 16384 in
/-- a set as a list without repeats -/
theorem Ok_T {P : Int → Int} {S : Int → Prop} {T : Int → Int} {n : Int} (h1 : ∀ j, 0 ≤ j → j < n → 0 ≤ T j ∧ T j < 8) (h2 : ∀ i j, 0 ≤ i → i < j → j < n → ¬ T i = T j) (h3 : ∀ p, 0 ≤ p → p < 8 → (S p ↔ ∃ j, 0 ≤ j ∧ j < n ∧ T j = p)) : Ok P S 8 ↔ Ok (fun j => P (T j)) (fun _ => True) n := by
  constructor
  · rintro ⟨q1, q2⟩
    have inS : ∀ j, 0 ≤ j → j < n → S (T j) := fun j j0 j1 => (h3 _ (h1 j j0 j1).1 (h1 j j0 j1).2).mpr ⟨j, j0, j1, rfl⟩
    refine ⟨fun j j0 j1 _ => q1 _ (h1 j j0 j1).1 (h1 j j0 j1).2 (inS j j0 j1), fun i j i0 i1 j1 _ _ => ?_⟩
    have ne := h2 i j i0 i1 j1
    have a1 := h1 i i0 (by omega)
    have a2 := h1 j (by omega) j1
    have s1 := inS i i0 (by omega)
    have s2 := inS j (by omega) j1
    dsimp only
    by_cases d : T i < T j
    · exact q2 _ _ a1.1 d a2.2 s1 s2
    · exact fun e => q2 (T j) (T i) a2.1 (by omega) a1.2 s2 s1 e.symm
  · rintro ⟨q1, q2⟩
    refine ⟨fun p p0 p1 hp => ?_, fun p q p0 p1 p2 hp hq => ?_⟩
    · obtain ⟨j, j0, j1, rfl⟩ := (h3 p p0 p1).mp hp
      exact q1 j j0 j1 trivial
    · obtain ⟨i, i0, i1, rfl⟩ := (h3 p p0 (by omega)).mp hp
      obtain ⟨j, j0, j1, rfl⟩ := (h3 q (by omega) p2).mp hq
      by_cases d : i < j
      · exact q2 i j i0 d j1 trivial trivial
      · by_cases e : i = j
        · subst e
          omega
        · exact fun w => q2 j i j0 (by omega) i1 trivial trivial w.symm
