/-! Served, counted. -/
set_option maxRecDepth 16384 in
theorem f144_s {a b : MM} {s : Int} (h : Sx a b s) {f : Int} : s32 (f144 a s f) = f144 a s f := by
  obtain ⟨e, e0, e8⟩ := h.p
  have hs0 := h.le
  unfold f144 L144_21
  rw [hs0]
  refine Lp_ind (f := K144_21 a s f (f66 a 3 f) (f128 a s f) 0 0) (P := fun x => 0 ≤ x.2 ∧ x.2 ≤ a 3 6 ∧ s32 x.1 = x.1) (Q := fun t => s32 t.2.2.1 = t.2.2.1) (fun x => (a 3 6 - x.2).toNat) ?_ (0, 0) ⟨Int.le_refl _, e0, s32_0⟩
  rintro ⟨x, i⟩ ⟨c2, c3, c4⟩
  dsimp only at c2 c3 c4
  have eA : K144_21 a s f (f66 a 3 f) (f128 a s f) 0 0 (x, i) = S144_21 a s f (f66 a 3 f) (f128 a s f) x i := rfl
  rw [eA]
  unfold S144_21
  rw [hs0]
  by_cases c : a 3 6 ≤ i
  · rw [if_pos c]
    exact Or.inr ⟨_, rfl, c4⟩
  · rw [if_neg c, s32_id (z := i + 1) (by omega) (by omega)]
    left
    split
    · exact ⟨_, rfl, ⟨by dsimp only; omega, by dsimp only; omega, c4⟩, by dsimp only; omega⟩
    · split
      · exact ⟨_, rfl, ⟨by dsimp only; omega, by dsimp only; omega, c4⟩, by dsimp only; omega⟩
      · split
        · exact ⟨_, rfl, ⟨by dsimp only; omega, by dsimp only; omega, s32_jor _ _⟩, by dsimp only; omega⟩
        · exact ⟨_, rfl, ⟨by dsimp only; omega, by dsimp only; omega, c4⟩, by dsimp only; omega⟩
set_option maxRecDepth 16384 in
theorem served_l {a b : MM} (h : Sx a b 15) (h1 : a 0 1 = 3) (h3 : a 0 3 = 15) (x M' : Int) (hc : ∀ f, 0 ≤ f → f < a 3 7 → ((if x = 0 then jand (f144 a 15 f) (a 15 7) else f144 a 15 f) = 0 ↔ f201 b 148 f M' = 0)) : (L32_15 a 0 x 0 0 0).2.2.1 = f271 b 148 M' := by
  obtain ⟨e, e0, e8⟩ := h.f
  have hb := h.bn
  unfold f271 L271_4 L32_15
  refine Lp_sim (f := K32_15 a 0 x 0 0 0) (f' := K271_4 b 148 M' 0 0) (P := fun y z => y.1 = z.1 ∧ y.2.1 = z.2 ∧ 0 ≤ z.2 ∧ z.2 ≤ a 3 7) (Q := fun t t' => t.2.2.1 = t'.2.2.1) (fun y => (a 3 7 - y.2.1).toNat) ?_ (0, 0, 0) (0, 0) ⟨rfl, rfl, Int.le_refl _, e0⟩
  rintro ⟨y, i, y3⟩ ⟨z, j⟩ ⟨c1, c2, c3, c4⟩
  dsimp only at c1 c2 c3 c4
  subst c1 c2
  have eA : K32_15 a 0 x 0 0 0 (y, i, y3) = S32_15 a 0 x y i y3 := rfl
  have eB : K271_4 b 148 M' 0 0 (y, i) = S271_4 b 148 M' y i := rfl
  rw [eA, eB]
  unfold S32_15 S271_4 f206
  rw [h1, h3, hb, ← e]
  by_cases c : a 3 7 ≤ i
  · rw [if_pos c, if_pos c]
    exact Or.inr ⟨_, _, rfl, rfl, rfl⟩
  · have q := q128 h (f := i) c3 (by omega)
    have hi := hc i c3 (by omega)
    rw [if_neg c, if_neg c, q, s32_id (z := i + 1) (by omega) (by omega)]
    left
    by_cases d : f204 b 148 i = -1
    · simp only [if_pos d]
      rw [if_neg (by decide : ¬ (1 : Int) = 0)]
      by_cases x0 : x = 0
      · rw [if_pos x0]
        exact ⟨_, _, rfl, rfl, ⟨rfl, rfl, by dsimp only; omega, by dsimp only; omega⟩, by dsimp only; omega⟩
      · rw [if_neg x0]
        exact ⟨_, _, rfl, rfl, ⟨rfl, rfl, by dsimp only; omega, by dsimp only; omega⟩, by dsimp only; omega⟩
    · simp only [if_neg d]
      rw [if_pos trivial]
      by_cases x0 : x = 0
      · rw [if_pos x0] at hi ⊢
        by_cases k : f201 b 148 i M' = 0
        · rw [if_pos k, if_pos (hi.mpr k)]
          exact ⟨_, _, rfl, rfl, ⟨rfl, rfl, by dsimp only; omega, by dsimp only; omega⟩, by dsimp only; omega⟩
        · rw [if_neg k, if_neg (fun z => k (hi.mp z))]
          exact ⟨_, _, rfl, rfl, ⟨rfl, rfl, by dsimp only; omega, by dsimp only; omega⟩, by dsimp only; omega⟩
      · rw [if_neg x0] at hi ⊢
        by_cases k : f201 b 148 i M' = 0
        · rw [if_pos k, if_pos (hi.mpr k)]
          exact ⟨_, _, rfl, rfl, ⟨rfl, rfl, by dsimp only; omega, by dsimp only; omega⟩, by dsimp only; omega⟩
        · rw [if_neg k, if_neg (fun z => k (hi.mp z))]
          exact ⟨_, _, rfl, rfl, ⟨rfl, rfl, by dsimp only; omega, by dsimp only; omega⟩, by dsimp only; omega⟩
set_option maxRecDepth 16384 in
theorem jshl_nz (j : Nat) (hj : j < 8) : ¬ jshl 1 (j : Int) = 0 := by
  have key : ∀ j : Nat, j < 8 → ¬ o32 (fun a b => a <<< (b &&& 31)) 1 (j : Int) = 0 := by decide
  rw [jshl_eq]
  exact key j hj
set_option maxRecDepth 16384 in
theorem jshl_s (j : Int) : s32 (jshl 1 j) = jshl 1 j := by
  rw [jshl_eq]
  unfold o32
  exact s32_id (Int32.le_toInt _) (Int32.toInt_lt _)
set_option maxRecDepth 16384 in
theorem served_q {a b : MM} (h : C2 a b) (x : Int) : f32 a 0 x = f270 b 148 x := by
  have hT : C2 a (mu b 148 0 0) := C2_fr3 h (fun _ _ _ => rfl) (fun x k q _ => by
    by_cases c : x = 148
    · exact mu_k (by unfold PJs at q; omega)
    · exact mu_a c)
  unfold f32 f270
  generalize mu b 148 0 0 = c at hT
  have hS := hT.1.2.1
  have h1 : a 0 1 = 3 := hT.1.1.1
  have h3 : a 0 3 = 15 := hT.1.1.2.1
  obtain ⟨e, e0, e8⟩ := hS.p
  rw [hS.bn]
  by_cases c0 : x = 0
  · rw [if_pos c0, if_pos c0]
    refine served_l hS h1 h3 x _ (fun f f0 f1 => ?_)
    rw [if_pos c0]
    refine served_eq hS (fun j j0 j1 => ?_) f0 f1
    rw [← hS.ret, jand_c]
    exact (has_ok c (a 15 7) j j0 (by omega)).symm
  · rw [if_neg c0, if_neg c0]
    by_cases c1 : x = 1
    · rw [if_pos c1, if_pos c1]
      refine served_l hS h1 h3 x _ (fun f f0 f1 => ?_)
      rw [if_neg c0, ← e]
      have := served_eq hS (M := -1) (M' := s32 (jshl 1 (a 3 6) - 1)) (fun j j0 j1 => by
        obtain ⟨n, hn⟩ : ∃ n : Nat, a 3 6 = (n : Int) := ⟨(a 3 6).toNat, by omega⟩
        obtain ⟨k, rfl⟩ : ∃ k : Nat, j = (k : Int) := ⟨j.toNat, by omega⟩
        rw [hn] at j1 e8 ⊢
        rw [jand_m1 _ (jshl_s _)]
        exact ⟨fun q => absurd q (jshl_nz k (by omega)), fun q => absurd q (full_bit c n (by omega) k (by omega))⟩) f0 f1
      rw [jand_m1 _ (f144_s hS)] at this
      exact this
    · rw [if_neg c1, if_neg c1]
