/-! Whom to ask, the reference's side; both. -/
set_option maxRecDepth 16384 in
theorem q142i (c : MM) (n x z p : Int) : (L192_142 c 148 n x z p 0 0).2.2.1 = sm (gB (fun f => f234 c 148 p f (f203 c 148 f)) x) 8 := by
  unfold L192_142
  refine Lp_ind (f := K192_142 c 148 n x z p 0 0) (P := fun y => 0 ≤ y.2 ∧ y.2 ≤ 8 ∧ y.1 = sm (gB (fun f => f234 c 148 p f (f203 c 148 f)) x) y.2.toNat) (Q := fun t => t.2.2.1 = sm (gB (fun f => f234 c 148 p f (f203 c 148 f)) x) 8) (fun y => (8 - y.2).toNat) ?_ (0, 0) ⟨Int.le_refl _, by decide, rfl⟩
  rintro ⟨y, i⟩ ⟨c2, c3, c4⟩
  dsimp only at c2 c3 c4
  have eB : K192_142 c 148 n x z p 0 0 (y, i) = S192_142 c 148 n x z p y i := rfl
  rw [eB]
  unfold S192_142
  by_cases d0 : 8 ≤ i
  · rw [if_pos d0]
    have : i = 8 := by omega
    rw [this] at c4
    exact Or.inr ⟨_, rfl, c4⟩
  · have hb := sm_b (g := gB (fun f => f234 c 148 p f (f203 c 148 f)) x) i.toNat (fun j _ _ => by
      unfold gB
      split
      · omega
      · split <;> omega)
    rw [← c4] at hb
    rw [if_neg d0, s32_id (z := i + 1) (by omega) (by omega), s32_id (z := y + 1) (by omega) (by omega)]
    left
    have hk := has_ok c x i c2 (by omega)
    have st : ∀ v, gB (fun f => f234 c 148 p f (f203 c 148 f)) x i = v → y + v = sm (gB (fun f => f234 c 148 p f (f203 c 148 f)) x) (i + 1).toNat := fun v hv => by
      have e1 : (i + 1).toNat = i.toNat + 1 := by omega
      rw [e1]
      show y + v = sm _ i.toNat + gB (fun f => f234 c 148 p f (f203 c 148 f)) x ((i.toNat : Nat) : Int)
      rw [Int.toNat_of_nonneg c2, hv, ← c4]
    by_cases d : f199 c x i = 0
    · rw [if_pos d]
      refine ⟨_, rfl, ⟨by dsimp only; omega, by dsimp only; omega, ?_⟩, by dsimp only; omega⟩
      have := st 0 (by unfold gB; rw [if_pos (hk.mp d)])
      rw [Int.add_zero] at this
      exact this
    · have d' : ¬ jand x (jshl 1 i) = 0 := fun q => d (hk.mpr q)
      rw [if_neg d]
      by_cases g : f234 c 148 p i (f203 c 148 i) = -1
      · rw [if_pos g]
        refine ⟨_, rfl, ⟨by dsimp only; omega, by dsimp only; omega, ?_⟩, by dsimp only; omega⟩
        have := st 0 (by unfold gB; rw [if_neg d', if_pos g])
        rw [Int.add_zero] at this
        exact this
      · rw [if_neg g]
        exact ⟨_, rfl, ⟨by dsimp only; omega, by dsimp only; omega, st 1 (by unfold gB; rw [if_neg d', if_neg g])⟩, by dsimp only; omega⟩
set_option maxRecDepth 16384 in
/-- how far off -/
theorem off_eq {a c : MM} (h : Sx a c 15) {x p : Int} (x0 : 0 ≤ x) (x1 : x < 256) (hx : ∀ j, a 3 7 ≤ j → j < 8 → jand x (jshl 1 j) = 0) (p0 : 0 ≤ p) (p1 : p < a 3 6) (n z z1 z2 : Int) : jabs ((L44_26 a x 15 z1 z2 p 0 0).2.2.1) = f274 c (s32 (s32 (2 * (L192_142 c 148 n x z p 0 0).2.2.1) - f170 c x)) ∧ 0 ≤ jabs ((L44_26 a x 15 z1 z2 p 0 0).2.2.1) ∧ jabs ((L44_26 a x 15 z1 z2 p 0 0).2.2.1) ≤ 8 := by
  obtain ⟨e, e0, e8⟩ := h.f
  rw [q44i h, q142i]
  have e1 : sm (gA (fun f => f131 a 15 p f) x) 8 = sm (gA (fun f => f131 a 15 p f) x) (a 3 7).toNat := sm_z _ _ (by omega) (fun j j0 j1 => by
    unfold gA
    rw [if_pos (hx j (by omega) (by omega))])
  have e2 : sm (gB (fun f => f234 c 148 p f (f203 c 148 f)) x) 8 = sm (gB (fun f => f131 a 15 p f) x) 8 := sm_c 8 (fun j j0 j1 => by
    unfold gB
    by_cases d : jand x (jshl 1 j) = 0
    · rw [if_pos d, if_pos d]
    · have : j < a 3 7 := by
        by_cases q : j < a 3 7
        · exact q
        · exact absurd (hx j (by omega) (by omega)) d
      have e5 : (fun f => f234 c 148 p f (f203 c 148 f)) j = (fun f => f131 a 15 p f) j := f131_234 h p0 p1 j0 this
      rw [if_neg d, if_neg d]
      simp only [f131_234 h p0 p1 j0 this])
  have e3 := sm_l (g := gA (fun f => f131 a 15 p f) x) (h := gB (fun f => f131 a 15 p f) x) (k := gC x) 8 (fun j _ _ => g_l _ _ _)
  have b1 := sm_b (g := gA (fun f => f131 a 15 p f) x) 8 (fun j _ _ => by
    unfold gA
    split
    · omega
    · split <;> omega)
  have b2 := sm_b (g := gB (fun f => f131 a 15 p f) x) 8 (fun j _ _ => by
    unfold gB
    split
    · omega
    · split <;> omega)
  rw [← e1, e2, (f170_k c x0 x1).1, ← gC_pop x0 x1]
  generalize sm (gA (fun f => f131 a 15 p f) x) 8 = D at e3 b1
  generalize sm (gB (fun f => f131 a 15 p f) x) 8 = B at e3 b2
  generalize sm (gC x) 8 = C at e3
  have b1 : -8 ≤ D ∧ D ≤ 8 := b1
  have b2 : -8 ≤ B ∧ B ≤ 8 := b2
  have e4 : s32 (s32 (2 * B) - C) = D := by
    rw [s32_id (z := 2 * B) (by omega) (by omega), s32_id (z := 2 * B - C) (by omega) (by omega)]
    omega
  rw [e4]
  unfold jabs f274
  by_cases d : 0 ≤ D
  · rw [if_pos d, if_pos d]
    exact ⟨rfl, d, b1.2⟩
  · rw [if_neg d, if_neg d, jneg_eq, s32_id (z := 0 - D) (by omega) (by omega)]
    refine ⟨?_, by omega, by omega⟩
    have : (-(Int32.ofInt D)).toInt = 0 - D := by
      rw [Int32.toInt_neg, Int32.toInt_ofInt_of_le (by omega) (by omega)]
      have hb : Int.bmod (-D) (2 ^ 32) = -D := Int.bmod_eq_of_le (by omega) (by omega)
      rw [hb]
      omega
    exact this.symm
