/-! An office read: all that is so begins anew, alike. -/
set_option maxRecDepth 16384 in
def Pof (x k : Int) : Prop := PRo 3 x k ∨ PSt 15 x k ∨ ((x = 100 ∨ x = 105 ∨ x = 117 ∨ x = 136) ∧ (k = 4 ∨ k = 5)) ∨ (x = 29 ∧ k = 2)
set_option maxRecDepth 16384 in
theorem off_cls {X : KO} {ρ : Nat → Int32} {y m9 m12 m15 a' : MM} (h1 : y 0 1 = 3) (h2 : y 0 2 = 9) (h3 : y 0 3 = 15) (h4 : y 0 4 = 22) (h5 : y 0 5 = 29) (h11 : S11 y) (l3 : LRo y 3) (l9 : LRo y 9) (s15 : LSt y 15) (s22 : LSt y 22) (r9 : Run X ρ 67 [(1, y 0 1), (1, y 0 2)] y [] m9) (r12 : Run X ρ 113 [(1, m9 0 3), (1, m9 0 4)] m9 [] m12) (r15 : Run X ρ 89 [(1, m12 0 11)] m12 [] m15) (r18 : Run X ρ 161 [(1, m15 0 5)] m15 [] a') : Fr Pof y a' ∧ (∀ k, 5 ≤ k → k ≤ 8 → a' 3 k = y 9 k) ∧ (∀ i k, 1 ≤ i → i ≤ 5 → 0 ≤ k → k < 8 → a' (3 + i) k = y (9 + i) k) ∧ (a' 15 7 = y 22 7 ∧ a' 15 8 = y 22 8) ∧ (∀ k, 0 ≤ k → k < 64 → a' 16 k = y 23 k) ∧ (∀ i k, 2 ≤ i → i ≤ 5 → 0 ≤ k → k < 8 → a' (15 + i) k = y (22 + i) k) ∧ (∀ k, 0 ≤ k → k < 24 → a' 21 k = y 28 k) ∧ a' 29 2 = 0 := by
  rw [h1, h2] at r9
  obtain ⟨-, F9, w9, v9⟩ := A67 l3 l9 (by decide) r9
  have e9 : ∀ x k, x < 3 ∨ 8 < x ∨ (x = 3 ∧ k < 5) → m9 x k = y x k := fun x k q => F9 x k (by unfold PRo; omega)
  rw [e9 0 3 (by omega), e9 0 4 (by omega), h3, h4] at r12
  have t15 : LSt m9 15 := LSt_fr s15 fun k _ _ => e9 _ _ (by omega)
  have t22 : LSt m9 22 := LSt_fr s22 fun k _ _ => e9 _ _ (by omega)
  obtain ⟨-, F12, ⟨w12, w12'⟩, v1, v2, v6⟩ := A113 t15 t22 (by decide) r12
  have e12 : ∀ x k, x < 15 ∨ 21 < x ∨ (x = 15 ∧ k < 7) → m12 x k = m9 x k := fun x k q => F12 x k (by unfold PSt; omega)
  rw [e12 0 11 (by omega), e9 0 11 (by omega)] at r15
  obtain ⟨-, q15⟩ := d89 r15
  have h11 : y 0 11 = 100 ∨ y 0 11 = 105 ∨ y 0 11 = 117 ∨ y 0 11 = 136 := h11
  have e15 : ∀ x k, (x ≠ 100 ∧ x ≠ 105 ∧ x ≠ 117 ∧ x ≠ 136) ∨ (k ≠ 4 ∧ k ≠ 5) → m15 x k = m12 x k := fun x k q => by
    rw [q15]
    unfold g89
    by_cases c : x = y 0 11
    · rw [mu_k (by omega), mu_k (by omega)]
    · rw [mu_a c, mu_a c]
  rw [e15 0 5 (by omega), e12 0 5 (by omega), e9 0 5 (by omega), h5] at r18
  obtain ⟨-, q18⟩ := d161 r18
  have q18 : a' = mu m15 29 2 0 := q18
  have e18 : ∀ x k, ¬ (x = 29 ∧ k = 2) → a' x k = m15 x k := fun x k q => by
    rw [q18]
    exact if_neg q
  refine ⟨fun x k hn => ?_, fun k k0 k1 => ?_, fun i k i0 i1 k0 k1 => ?_, ⟨?_, ?_⟩, fun k k0 k1 => ?_, fun i k i0 i1 k0 k1 => ?_, fun k k0 k1 => ?_, ?_⟩
  · unfold Pof at hn
    rw [e18 x k (by omega), e15 x k (by omega), F12 x k (fun q => hn (Or.inr (Or.inl q))), F9 x k (fun q => hn (Or.inl q))]
  · rw [e18 _ _ (by omega), e15 _ _ (by omega), e12 _ _ (by omega)]; exact w9 k k0 k1
  · rw [e18 _ _ (by omega), e15 _ _ (by omega), e12 _ _ (by omega)]; exact v9 i k i0 i1 k0 k1
  · rw [e18 _ _ (by omega), e15 _ _ (by omega), w12]; exact e9 _ _ (by omega)
  · rw [e18 _ _ (by omega), e15 _ _ (by omega), w12']; exact e9 _ _ (by omega)
  · rw [e18 _ _ (by omega), e15 _ _ (by omega)]; exact (v1 k k0 k1).trans (e9 _ _ (by omega))
  · rw [e18 _ _ (by omega), e15 _ _ (by omega)]; exact (v2 i k i0 i1 k0 k1).trans (e9 _ _ (by omega))
  · rw [e18 _ _ (by omega), e15 _ _ (by omega)]; exact (v6 k k0 k1).trans (e9 _ _ (by omega))
  · rw [q18, mu_s]
set_option maxRecDepth 16384 in
/-- the reference's office, read -/
theorem off_mod {m1 b2 : MM} (h14 : m1 148 14 = 150) (F1 : Fr (fun b k => (b = 150 ∧ 0 ≤ k ∧ k < 92) ∨ (b = 155 ∧ 0 ≤ k ∧ k < 16)) b2 m1) (v1 : ∀ k, 0 ≤ k → k < 92 → m1 150 k = s32 (b2 151 k)) (v2 : ∀ k, 0 ≤ k → k < 16 → m1 155 k = b2 156 k) : Fr (fun x k => (x = 150 ∧ 0 ≤ k) ∨ (x = 155 ∧ 0 ≤ k ∧ k < 16) ∨ (x = 148 ∧ k = 23)) b2 (mu (g280 m1 148) 148 23 0) ∧ (∀ k, 0 ≤ k → k < 92 → (mu (g280 m1 148) 148 23 0) 150 k = s32 (b2 151 k)) ∧ (∀ k, 0 ≤ k → k < 16 → (mu (g280 m1 148) 148 23 0) 155 k = b2 156 k) ∧ (mu (g280 m1 148) 148 23 0) 150 92 = 0 ∧ (mu (g280 m1 148) 148 23 0) 150 93 = s32 (b2 151 3) ∧ (∀ k, 0 ≤ k → k < 64 → (mu (g280 m1 148) 148 23 0) 150 (94 + k) = s32 (b2 151 (12 + k))) ∧ (∀ k, 0 ≤ k → k < 24 → (mu (g280 m1 148) 148 23 0) 150 (158 + k) = -1) ∧ (∀ f, 0 ≤ f → f < 8 → (mu (g280 m1 148) 148 23 0) 150 (182 + f) = 0 ∧ (mu (g280 m1 148) 148 23 0) 150 (190 + f) = s32 (b2 151 (84 + f)) ∧ (mu (g280 m1 148) 148 23 0) 150 (198 + f) = -1 ∧ (mu (g280 m1 148) 148 23 0) 150 (206 + f) = 0) ∧ (mu (g280 m1 148) 148 23 0) 148 23 = 0 := by
  obtain ⟨f, x92, x93, xg, xs, xf, -⟩ := g280_ok h14
  have e : ∀ x k, x ≠ 148 → (mu (g280 m1 148) 148 23 0) x k = (g280 m1 148) x k := fun x k q => mu_a q
  refine ⟨fun x k hn => ?_, fun k k0 k1 => ?_, fun k k0 k1 => ?_, ?_, ?_, fun k k0 k1 => ?_, fun k k0 k1 => ?_, fun g g0 g1 => ⟨?_, ?_, ?_, ?_⟩, mu_s _ _ _ _⟩
  · by_cases c : x = 148
    · rw [c] at hn ⊢
      rw [mu_k (by omega), f _ _ (by omega), F1 _ _ (by omega)]
    · rw [e x k c, f _ _ (by omega), F1 _ _ (by omega)]
  · rw [e _ _ (by decide), f _ _ (by omega)]; exact v1 k k0 k1
  · rw [e _ _ (by decide), f _ _ (by omega)]; exact v2 k k0 k1
  · rw [e _ _ (by decide)]; exact x92
  · rw [e _ _ (by decide), x93, v1 3 (by decide) (by decide), s32_s32]
  · rw [e _ _ (by decide), xg k k0 k1, v1 (12 + k) (by omega) (by omega), s32_s32]
  · rw [e _ _ (by decide)]; exact xs k k0 k1
  · rw [e _ _ (by decide)]; exact (xf g g0 g1).1
  · rw [e _ _ (by decide), (xf g g0 g1).2.1, v1 (84 + g) (by omega) (by omega), s32_s32]
  · rw [e _ _ (by decide)]; exact (xf g g0 g1).2.2.1
  · rw [e _ _ (by decide)]; exact (xf g g0 g1).2.2.2
