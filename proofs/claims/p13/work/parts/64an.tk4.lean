/-! The reference's tape read: a token. -/
set_option maxRecDepth 16384 in
theorem f210_i (m : MM) (c : Int) : f210 m c = 0 ↔ ¬ isLt c := f154_i m c
set_option maxRecDepth 16384 in
theorem f207_i (m : MM) (c : Int) : f207 m c = 0 ↔ ¬ isDg c := f151_i m c
set_option maxRecDepth 16384 in
theorem f210_01 (m : MM) (c : Int) : f210 m c = 0 ∨ f210 m c = 1 := by
  unfold f210
  split
  · exact Or.inl rfl
  · split
    · exact Or.inl rfl
    · exact Or.inr rfl
set_option maxRecDepth 16384 in
/-- the reference's tape holds t, so long -/
def TB (m : MM) (t : Int → Int) (L : Int) : Prop := m 148 1 = 149 ∧ m 148 3 = L ∧ 0 ≤ L ∧ L ≤ 940 ∧ ∀ j, 0 ≤ j → j < L → m 149 j = t j
set_option maxRecDepth 16384 in
theorem TB_mu {m : MM} {t : Int → Int} {L k v : Int} (h : TB m t L) (h0 : k ≠ 1) (h1 : k ≠ 3) : TB (mu m 148 k v) t L := by
  obtain ⟨a1, a2, a3, a4, a6⟩ := h
  exact ⟨by rw [mu_k (fun e => h0 e.symm)]; exact a1, by rw [mu_k (fun e => h1 e.symm)]; exact a2, a3, a4, fun j hj hl => by rw [mu_a (by decide)]; exact a6 j hj hl⟩
set_option maxRecDepth 16384 in
theorem TB_fr {P : Int → Int → Prop} {m m' : MM} {t : Int → Int} {L : Int} (h : TB m t L) (hf : Fr P m m') (h0 : ¬ P 148 1) (h1 : ¬ P 148 3) (h2 : ∀ j, ¬ P 149 j) : TB m' t L := by
  obtain ⟨a1, a2, a3, a4, a6⟩ := h
  exact ⟨by rw [hf _ _ h0]; exact a1, by rw [hf _ _ h1]; exact a2, a3, a4, fun j hj hl => by rw [hf _ _ (h2 _)]; exact a6 j hj hl⟩
set_option maxRecDepth 16384 in
def P195 (a k : Int) : Prop := a = 148 ∧ (k = 5 ∨ k = 6 ∨ k = 7 ∨ k = 8 ∨ k = 9 ∨ k = 12)
set_option maxRecDepth 16384 in
theorem B195_loop {X : KO} {ρ : Nat → Int32} {t : Int → Int} {L i : Int} {m0 : MM} {o : Instr × List (Nat × Int) × MM} (hL : L ≤ 940) (hi : 0 ≤ i) : ∀ (N : Nat) (m : MM) (b1 b2 b3 b4 j : Int), MR X ρ 5 0 0 qP195 N 0 [148, b1, b2, b3, b4] [] m o → TB m t L → Fr P195 m0 m → m 148 5 = j → i ≤ j → j ≤ L → (∀ k, i ≤ k → k < j → isWs (t k)) → ∃ (N2 : Nat) (m2 : MM) (j2 : Int), MR X ρ 5 0 0 qP195 N2 52 [148, b1, b2, b3, b4] [] m2 o ∧ TB m2 t L ∧ Fr P195 m0 m2 ∧ m2 148 5 = j2 ∧ SEnd t L i j2 := by
  intro N
  induction N with
  | zero =>
    intro m b1 b2 b3 b4 j h hT hF h3 hj hjL hw
    rcases i195_0 h with ⟨c, h⟩ | ⟨c, h⟩
    · exact ⟨0, m, j, h, hT, hF, h3, hj, hjL, hw, fun q => by rw [hT.2.1, h3] at c; omega⟩
    · rw [hT.2.1, h3] at c
      have e4 : m 149 j = t j := hT.2.2.2.2 j (by omega) (by omega)
      rw [hT.1, h3, e4] at h
      rcases h with ⟨c2, N', e, _⟩ | ⟨c2, h⟩
      · cases e
      · rcases h with ⟨c3, N', e, _⟩ | ⟨c3, h⟩
        · cases e
        · exact ⟨0, m, j, h, hT, hF, h3, hj, hjL, hw, fun q hq => by
            rcases hq with hq | hq
            · exact c2 hq
            · exact c3 hq⟩
  | succ N ih =>
    intro m b1 b2 b3 b4 j h hT hF h3 hj hjL hw
    have hgo : j < L → isWs (t j) → MR X ρ 5 0 0 qP195 N 0 [148, b1, b2, b3, b4] [] (mu m 148 5 (s32 (j + 1))) o → ∃ (N2 : Nat) (m2 : MM) (j2 : Int), MR X ρ 5 0 0 qP195 N2 52 [148, b1, b2, b3, b4] [] m2 o ∧ TB m2 t L ∧ Fr P195 m0 m2 ∧ m2 148 5 = j2 ∧ SEnd t L i j2 := fun hlt hc h => by
      rw [s32_id (z := j + 1) (by omega) (by omega)] at h
      refine ih _ _ _ _ _ (j + 1) h (TB_mu hT (by decide) (by decide)) (hF.mu ⟨rfl, by omega⟩) (mu_s _ _ _ _) (by omega) (by omega) (fun k k1 k2 => ?_)
      by_cases d : k = j
      · rw [d]; exact hc
      · exact hw k k1 (by omega)
    rcases i195_0 h with ⟨c, h⟩ | ⟨c, h⟩
    · exact ⟨N + 1, m, j, h, hT, hF, h3, hj, hjL, hw, fun q => by rw [hT.2.1, h3] at c; omega⟩
    · rw [hT.2.1, h3] at c
      have e4 : m 149 j = t j := hT.2.2.2.2 j (by omega) (by omega)
      rw [hT.1, h3, e4] at h
      rcases h with ⟨c2, N', e, h⟩ | ⟨c2, h⟩
      · cases e
        exact hgo (by omega) (Or.inl c2) h
      · rcases h with ⟨c3, N', e, h⟩ | ⟨c3, h⟩
        · cases e
          exact hgo (by omega) (Or.inr c3) h
        · exact ⟨N + 1, m, j, h, hT, hF, h3, hj, hjL, hw, fun q hq => by
            rcases hq with hq | hq
            · exact c2 hq
            · exact c3 hq⟩
set_option maxRecDepth 16384 in
/-- whether all is of the first one's sort -/
def good (b2 : Int) (cs : List Int) : Prop := (b2 = 1 ∧ allL cs) ∨ (b2 = 0 ∧ allD cs)
set_option maxRecDepth 16384 in
theorem B195_run {X : KO} {ρ : Nat → Int32} {t : Int → Int} {L s : Int} {m0 : MM} {o : Instr × List (Nat × Int) × MM} {b1 b2 : Int} (hL : L ≤ 940) (hs : 0 ≤ s) (hb2 : b2 = 0 ∨ b2 = 1) : ∀ (N : Nat) (m : MM) (b3 b4 : Int) (n : Nat), MR X ρ 5 0 0 qP195 N 215 [148, b1, b2, b3, b4] [] m o → TB m t L → Fr P195 m0 m → m 148 5 = s + n → m 148 6 = s → s + n ≤ L → (b3 = 0 ∨ b3 = 1) → (b3 = 1 ↔ good b2 (sg t s n)) → (∀ k : Nat, k < n → anA (t (s + k))) → (n ≤ 7 → allL (sg t s n) → m 148 12 = p27 (sg t s n)) → (n ≤ 3 → allD (sg t s n) → m 148 8 = p10 (sg t s n)) → ∃ (N2 : Nat) (m2 : MM) (n2 : Nat) (b3 b4 : Int), MR X ρ 5 0 0 qP195 N2 350 [148, b1, b2, b3, b4] [] m2 o ∧ TB m2 t L ∧ Fr P195 m0 m2 ∧ m2 148 5 = s + n2 ∧ m2 148 6 = s ∧ REnd t L s n2 ∧ (b3 = 1 ↔ good b2 (sg t s n2)) ∧ (b3 = 0 ∨ b3 = 1) ∧ (n2 ≤ 7 → allL (sg t s n2) → m2 148 12 = p27 (sg t s n2)) ∧ (n2 ≤ 3 → allD (sg t s n2) → m2 148 8 = p10 (sg t s n2)) := by
  intro N
  induction N with
  | zero =>
    intro m b3 b4 n h hT hF h5 h6 hn hb3 hg ha h12 h8
    have hno : MR X ρ 5 0 0 qP195 0 243 [148, b1, b2, b3, b4] [] m o → False := fun h => by
      have h273 : ∀ b3 b4 m, MR X ρ 5 0 0 qP195 0 273 [148, b1, b2, b3, b4] [] m o → False := fun b3 b4 m h => by
        have h337 : ∀ m, MR X ρ 5 0 0 qP195 0 337 [148, b1, b2, b3, b4] [] m o → False := fun m h => by
          obtain ⟨N', e, _⟩ := i195_337 h; cases e
        have h307 : ∀ m, MR X ρ 5 0 0 qP195 0 307 [148, b1, b2, b3, b4] [] m o → False := fun m h => by
          rcases i195_307 h with ⟨_, h⟩ | ⟨_, h⟩ <;> exact h337 _ h
        rcases i195_273 h with ⟨_, h⟩ | ⟨_, h⟩ <;> exact h307 _ h
      rcases i195_243 h with ⟨_, h⟩ | ⟨_, h⟩
      · exact h273 _ _ _ h
      · rcases h with ⟨_, h⟩ | ⟨_, h⟩ <;> exact h273 _ _ _ h
    have hend : (s + n < L → ¬ anA (t (s + n))) → MR X ρ 5 0 0 qP195 0 350 [148, b1, b2, b3, b4] [] m o → ∃ (N2 : Nat) (m2 : MM) (n2 : Nat) (b3 b4 : Int), MR X ρ 5 0 0 qP195 N2 350 [148, b1, b2, b3, b4] [] m2 o ∧ TB m2 t L ∧ Fr P195 m0 m2 ∧ m2 148 5 = s + n2 ∧ m2 148 6 = s ∧ REnd t L s n2 ∧ (b3 = 1 ↔ good b2 (sg t s n2)) ∧ (b3 = 0 ∨ b3 = 1) ∧ (n2 ≤ 7 → allL (sg t s n2) → m2 148 12 = p27 (sg t s n2)) ∧ (n2 ≤ 3 → allD (sg t s n2) → m2 148 8 = p10 (sg t s n2)) := fun hq h => ⟨0, m, n, b3, b4, h, hT, hF, h5, h6, ⟨hn, ha, hq⟩, hg, hb3, h12, h8⟩
    have e4 : s + n < L → f285 m 148 (m 148 5) = t (s + n) := fun q => by
      unfold f285
      rw [h5, hT.2.1, if_neg (by omega), hT.1]
      exact hT.2.2.2.2 _ (by omega) q
    rcases i195_215 h with ⟨c, h⟩ | ⟨c, h⟩
    · rcases h with ⟨c2, h⟩ | ⟨c2, h⟩
      · refine hend (fun q hq => ?_) h
        rw [f210_i, e4 q] at c; rw [f207_i, e4 q] at c2
        exact hq.elim c c2
      · exact (hno h).elim
    · exact (hno h).elim
  | succ N ih =>
    intro m b3 b4 n h hT hF h5 h6 hn hb3 hg ha h12 h8
    have hlen : (sg t s n).length = n := sg_len t s n
    have hend : (s + n < L → ¬ anA (t (s + n))) → MR X ρ 5 0 0 qP195 (N + 1) 350 [148, b1, b2, b3, b4] [] m o → ∃ (N2 : Nat) (m2 : MM) (n2 : Nat) (b3 b4 : Int), MR X ρ 5 0 0 qP195 N2 350 [148, b1, b2, b3, b4] [] m2 o ∧ TB m2 t L ∧ Fr P195 m0 m2 ∧ m2 148 5 = s + n2 ∧ m2 148 6 = s ∧ REnd t L s n2 ∧ (b3 = 1 ↔ good b2 (sg t s n2)) ∧ (b3 = 0 ∨ b3 = 1) ∧ (n2 ≤ 7 → allL (sg t s n2) → m2 148 12 = p27 (sg t s n2)) ∧ (n2 ≤ 3 → allD (sg t s n2) → m2 148 8 = p10 (sg t s n2)) := fun hq h => ⟨N + 1, m, n, b3, b4, h, hT, hF, h5, h6, ⟨hn, ha, hq⟩, hg, hb3, h12, h8⟩
    have e4 : s + n < L → f285 m 148 (m 148 5) = t (s + n) := fun q => by
      unfold f285
      rw [h5, hT.2.1, if_neg (by omega), hT.1]
      exact hT.2.2.2.2 _ (by omega) q
    have hout : ¬ s + n < L → f285 m 148 (m 148 5) = 0 := fun q => by
      unfold f285
      rw [h5, hT.2.1, if_pos (by omega)]
    have hgo : s + n < L → anA (t (s + n)) → MR X ρ 5 0 0 qP195 (N + 1) 243 [148, b1, b2, b3, b4] [] m o → ∃ (N2 : Nat) (m2 : MM) (n2 : Nat) (b3 b4 : Int), MR X ρ 5 0 0 qP195 N2 350 [148, b1, b2, b3, b4] [] m2 o ∧ TB m2 t L ∧ Fr P195 m0 m2 ∧ m2 148 5 = s + n2 ∧ m2 148 6 = s ∧ REnd t L s n2 ∧ (b3 = 1 ↔ good b2 (sg t s n2)) ∧ (b3 = 0 ∨ b3 = 1) ∧ (n2 ≤ 7 → allL (sg t s n2) → m2 148 12 = p27 (sg t s n2)) ∧ (n2 ≤ 3 → allD (sg t s n2) → m2 148 8 = p10 (sg t s n2)) := fun hlt hc h => by
      have ec : m 149 (s + n) = t (s + n) := hT.2.2.2.2 _ (by omega) hlt
      have en : s + ((n + 1 : Nat) : Int) = s + (n : Int) + 1 := by omega
      have ha' : ∀ k : Nat, k < n + 1 → anA (t (s + k)) := fun k hk => by
        by_cases d : k = n
        · rw [d]; exact hc
        · exact ha k (by omega)
      have hb : 0 ≤ t (s + n) ∧ t (s + n) ≤ 122 := by
        unfold anA isLt isDg at hc
        omega
      -- the new flag
      have hnext : ∀ b3' : Int, (b3' = 0 ∨ b3' = 1) → (b3' = 1 ↔ good b2 (sg t s (n + 1))) → MR X ρ 5 0 0 qP195 (N + 1) 273 [148, b1, b2, b3', t (s + n)] [] m o → ∃ (N2 : Nat) (m2 : MM) (n2 : Nat) (b3 b4 : Int), MR X ρ 5 0 0 qP195 N2 350 [148, b1, b2, b3, b4] [] m2 o ∧ TB m2 t L ∧ Fr P195 m0 m2 ∧ m2 148 5 = s + n2 ∧ m2 148 6 = s ∧ REnd t L s n2 ∧ (b3 = 1 ↔ good b2 (sg t s n2)) ∧ (b3 = 0 ∨ b3 = 1) ∧ (n2 ≤ 7 → allL (sg t s n2) → m2 148 12 = p27 (sg t s n2)) ∧ (n2 ≤ 3 → allD (sg t s n2) → m2 148 8 = p10 (sg t s n2)) := fun b3' hb3' hg' h => by
        have hlast : ∀ m1 : MM, MR X ρ 5 0 0 qP195 (N + 1) 337 [148, b1, b2, b3', t (s + n)] [] m1 o → TB m1 t L → Fr P195 m0 m1 → m1 148 5 = s + n → m1 148 6 = s → (n + 1 ≤ 7 → allL (sg t s (n + 1)) → m1 148 12 = p27 (sg t s (n + 1))) → (n + 1 ≤ 3 → allD (sg t s (n + 1)) → m1 148 8 = p10 (sg t s (n + 1))) → ∃ (N2 : Nat) (m2 : MM) (n2 : Nat) (b3 b4 : Int), MR X ρ 5 0 0 qP195 N2 350 [148, b1, b2, b3, b4] [] m2 o ∧ TB m2 t L ∧ Fr P195 m0 m2 ∧ m2 148 5 = s + n2 ∧ m2 148 6 = s ∧ REnd t L s n2 ∧ (b3 = 1 ↔ good b2 (sg t s n2)) ∧ (b3 = 0 ∨ b3 = 1) ∧ (n2 ≤ 7 → allL (sg t s n2) → m2 148 12 = p27 (sg t s n2)) ∧ (n2 ≤ 3 → allD (sg t s n2) → m2 148 8 = p10 (sg t s n2)) := fun m1 h hT1 hF1 g5 g6 g12 g8 => by
          obtain ⟨N', e, h⟩ := i195_337 h
          cases e
          rw [g5, s32_id (z := s + n + 1) (by omega) (by omega), ← en] at h
          exact ih _ _ _ (n + 1) h (TB_mu hT1 (by decide) (by decide)) (hF1.mu ⟨rfl, by omega⟩) (mu_s _ _ _ _) (by rw [mu_k (by decide)]; exact g6) (by omega) hb3' hg' ha' (fun q1 q2 => by rw [mu_k (by decide)]; exact g12 q1 q2) (fun q1 q2 => by rw [mu_k (by decide)]; exact g8 q1 q2)
        have hmid : ∀ m1 : MM, MR X ρ 5 0 0 qP195 (N + 1) 307 [148, b1, b2, b3', t (s + n)] [] m1 o → TB m1 t L → Fr P195 m0 m1 → m1 148 5 = s + n → m1 148 6 = s → m1 148 8 = m 148 8 → (n + 1 ≤ 7 → allL (sg t s (n + 1)) → m1 148 12 = p27 (sg t s (n + 1))) → ∃ (N2 : Nat) (m2 : MM) (n2 : Nat) (b3 b4 : Int), MR X ρ 5 0 0 qP195 N2 350 [148, b1, b2, b3, b4] [] m2 o ∧ TB m2 t L ∧ Fr P195 m0 m2 ∧ m2 148 5 = s + n2 ∧ m2 148 6 = s ∧ REnd t L s n2 ∧ (b3 = 1 ↔ good b2 (sg t s n2)) ∧ (b3 = 0 ∨ b3 = 1) ∧ (n2 ≤ 7 → allL (sg t s n2) → m2 148 12 = p27 (sg t s n2)) ∧ (n2 ≤ 3 → allD (sg t s n2) → m2 148 8 = p10 (sg t s n2)) := fun m1 h hT1 hF1 g5 g6 g8 g12 => by
          have h3 := i195_307 h
          rw [g5, g6, s32_id (z := s + n - s) (by omega) (by omega)] at h3
          rcases h3 with ⟨c, h⟩ | ⟨c, h⟩
          · exact hlast m1 h hT1 hF1 g5 g6 g12 (fun q => absurd q (by omega))
          · refine hlast _ h (TB_mu hT1 (by decide) (by decide)) (hF1.mu ⟨rfl, by omega⟩) (by rw [mu_k (by decide)]; exact g5) (by rw [mu_k (by decide)]; exact g6) (fun q1 q2 => by rw [mu_k (by decide)]; exact g12 q1 q2) (fun q1 q2 => ?_)
            rw [sg_s] at q2 ⊢
            obtain ⟨A1, A2⟩ := allD_s.mp q2
            have A2 : 48 ≤ t (s + n) ∧ t (s + n) ≤ 57 := A2
            have e8 := h8 (by omega) A1
            have b8 := p10_3 A1 (by rw [hlen]; omega)
            rw [mu_s, g8, e8, p10_s, s32_id (z := 10 * p10 (sg t s n)) (by omega) (by omega), s32_id (z := 10 * p10 (sg t s n) + t (s + n)) (by omega) (by omega), s32_id (by omega) (by omega)]
            omega
        have h2 := i195_273 h
        rw [h5, h6, s32_id (z := s + n - s) (by omega) (by omega)] at h2
        rcases h2 with ⟨c, h⟩ | ⟨c, h⟩
        · exact hmid m h hT hF h5 h6 rfl (fun q => absurd q (by omega))
        · refine hmid _ h (TB_mu hT (by decide) (by decide)) (hF.mu ⟨rfl, by omega⟩) (by rw [mu_k (by decide)]; exact h5) (by rw [mu_k (by decide)]; exact h6) (by rw [mu_k (by decide)]) (fun q1 q2 => ?_)
          rw [sg_s] at q2 ⊢
          obtain ⟨A1, A2⟩ := allL_s.mp q2
          have A2 : 97 ≤ t (s + n) ∧ t (s + n) ≤ 122 := A2
          have e12 := h12 (by omega) A1
          have b12 := p27_7 A1 (by rw [hlen]; omega)
          rw [mu_s, e12, p27_s, s64_id (z := 27 * p27 (sg t s n)) (by omega) (by omega), s64_id (z := 27 * p27 (sg t s n) + t (s + n)) (by omega) (by omega), s64_id (by omega) (by omega)]
          omega
      have hgs : good b2 (sg t s (n + 1)) ↔ good b2 (sg t s n) ∧ ((b2 = 1 ∧ isLt (t (s + n))) ∨ (b2 = 0 ∧ isDg (t (s + n)))) := by
        unfold good
        rw [sg_s, allL_s, allD_s]
        constructor
        · rintro (⟨q1, q2, q3⟩ | ⟨q1, q2, q3⟩)
          · exact ⟨Or.inl ⟨q1, q2⟩, Or.inl ⟨q1, q3⟩⟩
          · exact ⟨Or.inr ⟨q1, q2⟩, Or.inr ⟨q1, q3⟩⟩
        · rintro ⟨q1 | q1, q2 | q2⟩
          · exact Or.inl ⟨q1.1, q1.2, q2.2⟩
          · exact absurd (q1.1.symm.trans q2.1) (by decide)
          · exact absurd (q1.1.symm.trans q2.1) (by decide)
          · exact Or.inr ⟨q1.1, q1.2, q2.2⟩
      have h1 := i195_243 h
      rw [hT.1, h5, ec] at h1
      rcases h1 with ⟨c, h⟩ | ⟨c, h⟩
      · refine hnext 0 (Or.inl rfl) ⟨fun q => absurd q (by decide), fun q => ?_⟩ h
        have := hg.mpr (hgs.mp q).1
        omega
      · have hb1 : b3 = 1 := by omega
        have hf := f210_i m (t (s + n))
        have hf2 := f210_01 m (t (s + n))
        rcases h with ⟨c2, h⟩ | ⟨c2, h⟩
        · refine hnext 1 (Or.inr rfl) ⟨fun _ => hgs.mpr ⟨hg.mp hb1, ?_⟩, fun _ => rfl⟩ h
          rcases hb2 with e | e
          · exact Or.inr ⟨e, hc.resolve_left (hf.mp (c2.trans e))⟩
          · exact Or.inl ⟨e, Classical.not_not.mp (fun q => by have := hf.mpr q; omega)⟩
        · refine hnext 0 (Or.inl rfl) ⟨fun q => absurd q (by decide), fun q => ?_⟩ h
          rcases (hgs.mp q).2 with ⟨q1, q2⟩ | ⟨q1, q2⟩
          · exfalso
            have : f210 m (t (s + n)) ≠ 0 := fun z => hf.mp z q2
            omega
          · exfalso
            have hnl : ¬ isLt (t (s + n)) := by unfold isLt; unfold isDg at q2; omega
            have := hf.mpr hnl
            omega
    rcases i195_215 h with ⟨c, h⟩ | ⟨c, h⟩
    · rcases h with ⟨c2, h⟩ | ⟨c2, h⟩
      · refine hend (fun q hq => ?_) h
        rw [f210_i, e4 q] at c; rw [f207_i, e4 q] at c2
        exact hq.elim c c2
      · have q : s + n < L := by
          by_cases q : s + n < L
          · exact q
          · rw [hout q] at c2; exact absurd (f207_i m 0 |>.mpr (by unfold isDg; omega)) c2
        rw [f207_i, e4 q] at c2
        exact hgo q (Or.inr (Classical.not_not.mp c2)) h
    · have q : s + n < L := by
        by_cases q : s + n < L
        · exact q
        · rw [hout q] at c; exact absurd (f210_i m 0 |>.mpr (by unfold isLt; omega)) c
      rw [f210_i, e4 q] at c
      exact hgo q (Or.inl (Classical.not_not.mp c)) h
set_option maxRecDepth 16384 in
def RunB (m' : MM) (cs : List Int) : Prop := (allL cs ∧ cs.length ≤ 7 ∧ m' 148 7 = 2 ∧ m' 148 12 = p27 cs) ∨ (allD cs ∧ cs ≠ [] ∧ cs.length ≤ 3 ∧ m' 148 7 = 3 ∧ m' 148 8 = p10 cs) ∨ (¬ (allL cs ∧ cs.length ≤ 7) ∧ ¬ (allD cs ∧ cs.length ≤ 3) ∧ m' 148 7 = 1)
set_option maxRecDepth 16384 in
/-- the token at a place: what the reference's tape says of it -/
def TokB (m : MM) (t : Int → Int) (L most j : Int) : Prop :=
  (most < L ∧ most ≤ j ∧ m 148 7 = 1 ∧ m 148 6 = most ∧ m 148 5 = j) ∨
  (¬ (most < L ∧ most ≤ j) ∧ j = L ∧ m 148 7 = 0 ∧ m 148 6 = j ∧ m 148 5 = j) ∨
  (¬ (most < L ∧ most ≤ j) ∧ j < L ∧ anA (t j) ∧ m 148 6 = j ∧ ∃ n : Nat, 0 < n ∧ m 148 5 = j + n ∧ REnd t L j n ∧ RunB m (sg t j n)) ∨
  (¬ (most < L ∧ most ≤ j) ∧ j < L ∧ ¬ anA (t j) ∧ isMk (t j) ∧ m 148 7 = 4 ∧ m 148 9 = t j ∧ m 148 6 = j ∧ m 148 5 = j + 1) ∨
  (¬ (most < L ∧ most ≤ j) ∧ j < L ∧ ¬ anA (t j) ∧ ¬ isMk (t j) ∧ m 148 7 = 1 ∧ m 148 6 = j ∧ m 148 5 = j + 1)
set_option maxRecDepth 16384 in
theorem B195 {X : KO} {ρ : Nat → Int32} {t : Int → Int} {L i most : Int} {m m' : MM} {rl : List (Nat × Int)} (hT : TB m t L) (h3 : m 148 5 = i) (hm : m 148 4 = most) (hi : 0 ≤ i) (hiL : i ≤ L) (h : Run X ρ 195 [(1, 148)] m rl m') : rl = [] ∧ Fr P195 m m' ∧ ∃ j, SEnd t L i j ∧ TokB m' t L most j := by
  refine ⟨Run_v h rfl, ?_⟩
  obtain ⟨N, ig, h⟩ := Run_CR h rfl
  have h : MR X ρ 5 0 0 qP195 N 0 [148, 0, 0, 0, 0] [] m (ig, rl, m') := h
  have hL := hT.2.2.2.1
  obtain ⟨N2, m2, j, h, hT2, hF, g3, hS⟩ := B195_loop (m0 := m) (t := t) (L := L) (i := i) hL hi N m _ _ _ _ i h hT (Fr.rf _ _) h3 (Int.le_refl _) hiL (fun k k1 k2 => by omega)
  have gm : m2 148 4 = most := by rw [hF 148 4 (by unfold P195; omega)]; exact hm
  obtain ⟨s1, s2, s3, s4⟩ := hS
  have hF1 : Fr P195 m (mu m2 148 6 (m2 148 5)) := hF.mu ⟨rfl, by omega⟩
  have hT1 : TB (mu m2 148 6 (m2 148 5)) t L := TB_mu hT2 (by decide) (by decide)
  have k1 : (mu m2 148 6 (m2 148 5)) 148 3 = L := hT1.2.1
  have k2 : (mu m2 148 6 (m2 148 5)) 148 4 = most := by rw [mu_k (by decide)]; exact gm
  have k3 : (mu m2 148 6 (m2 148 5)) 148 5 = j := by rw [mu_k (by decide)]; exact g3
  have k5 : (mu m2 148 6 (m2 148 5)) 148 6 = j := by rw [mu_s]; exact g3
  have h52 := i195_52 h
  generalize (mu m2 148 6 (m2 148 5)) = m1 at *
  rw [k1, k2, k3, k5] at h52
  have h113 : ¬ (most < L ∧ most ≤ j) → j < L → MR X ρ 5 0 0 qP195 N2 113 [148, 0, 0, 0, 0] [] m1 (ig, rl, m') → Fr P195 m m' ∧ ∃ j, SEnd t L i j ∧ TokB m' t L most j := fun hmo hj h => by
    have e4 : m1 149 j = t j := hT1.2.2.2.2 _ (by omega) hj
    have h := i195_113 h
    rw [hT1.1, k3, e4] at h
    have hrun : anA (t j) → MR X ρ 5 0 0 qP195 N2 198 [148, t j, 0, 0, 0] [] m1 (ig, rl, m') → Fr P195 m m' ∧ ∃ j, SEnd t L i j ∧ TokB m' t L most j := fun hc h => by
      have h := i195_198 h
      have hb2 := f210_01 m1 (t j)
      obtain ⟨N3, m3, n, b3, b4, h, hT3, hF3, g5, g6, hR, hg, hb3, g12, g8⟩ := B195_run (m0 := m) (t := t) (L := L) (s := j) hL (by omega) hb2 N2 _ 1 0 0 h (TB_mu (TB_mu hT1 (by decide) (by decide)) (by decide) (by decide)) ((hF1.mu ⟨rfl, by omega⟩).mu ⟨rfl, by omega⟩) (by rw [mu_k (by decide), mu_k (by decide), k3]; omega) (by rw [mu_k (by decide), mu_k (by decide), k5]) (by omega) (Or.inr rfl) ⟨fun _ => hb2.elim (fun e => Or.inr ⟨e, fun c hc => by cases hc⟩) (fun e => Or.inl ⟨e, fun c hc => by cases hc⟩), fun _ => rfl⟩ (fun k hk => absurd hk (by omega)) (fun _ _ => by rw [mu_k (by decide), mu_s]; rfl) (fun _ _ => by rw [mu_s]; rfl)
      have hn : 0 < n := by
        rcases Nat.eq_zero_or_pos n with e | e
        · subst e
          have := hR.2.2 (by omega)
          rw [show j + ((0 : Nat) : Int) = j by omega] at this
          exact absurd hc this
        · exact e
      have hlen : (sg t j n).length = n := sg_len t j n
      have hne : sg t j n ≠ [] := fun e => by rw [e] at hlen; simp at hlen; omega
      have hhd : t j ∈ sg t j n := by
        have := sg_at (t := t) (i := j) hn
        rw [show j + ((0 : Nat) : Int) = j by omega] at this
        exact this
      have nLD : allL (sg t j n) → allD (sg t j n) → False := fun p q => by
        have := p _ hhd
        have := q _ hhd
        unfold isLt isDg at *
        omega
      have hfin : ∀ v : Int, m' = mu m3 148 7 v → RunB (mu m3 148 7 v) (sg t j n) → Fr P195 m m' ∧ ∃ j, SEnd t L i j ∧ TokB m' t L most j := fun v e hB => by
        subst e
        refine ⟨hF3.mu ⟨rfl, by omega⟩, j, ⟨s1, s2, s3, s4⟩, Or.inr (Or.inr (Or.inl ⟨hmo, hj, hc, ?_, n, hn, ?_, hR, hB⟩))⟩
        · rw [mu_k (by decide)]; exact g6
        · rw [mu_k (by decide)]; exact g5
      have hgood : good (f210 m1 (t j)) (sg t j n) ↔ allL (sg t j n) ∨ allD (sg t j n) := by
        unfold good
        have hfi := f210_i m1 (t j)
        constructor
        · rintro (⟨_, q⟩ | ⟨_, q⟩)
          · exact Or.inl q
          · exact Or.inr q
        · rintro (q | q)
          · refine Or.inl ⟨hb2.resolve_left (fun z => hfi.mp z (q _ hhd)), q⟩
          · refine Or.inr ⟨hfi.mpr (fun z => ?_), q⟩
            have := q _ hhd
            unfold isLt isDg at *
            omega
      have h350 := i195_350 h
      rw [g5, g6, s32_id (z := j + n - j) (by have := hR.1; omega) (by have := hR.1; omega)] at h350
      rcases h350 with ⟨c, h⟩ | ⟨c, h⟩
      · cases h
        refine hfin 1 rfl (Or.inr (Or.inr ⟨fun q => ?_, fun q => ?_, mu_s _ _ _ _⟩))
        · have := hg.mpr (hgood.mpr (Or.inl q.1)); omega
        · have := hg.mpr (hgood.mpr (Or.inr q.1)); omega
      · have hgd := hg.mp (by omega)
        rcases h with ⟨c2, h⟩ | ⟨c2, h⟩
        · have hD : allD (sg t j n) := by
            rcases hgd with q | q
            · omega
            · exact q.2
          rcases h with ⟨c3, h⟩ | ⟨c3, h⟩
          · cases h
            exact hfin 3 rfl (Or.inr (Or.inl ⟨hD, hne, by omega, mu_s _ _ _ _, by rw [mu_k (by decide)]; exact g8 (by omega) hD⟩))
          · cases h
            exact hfin 1 rfl (Or.inr (Or.inr ⟨fun q => nLD q.1 hD, fun q => by have := q.2; omega, mu_s _ _ _ _⟩))
        · have hA : allL (sg t j n) := by
            rcases hgd with q | q
            · exact q.2
            · omega
          rcases h with ⟨c3, h⟩ | ⟨c3, h⟩
          · cases h
            exact hfin 2 rfl (Or.inl ⟨hA, by omega, mu_s _ _ _ _, by rw [mu_k (by decide)]; exact g12 (by omega) hA⟩)
          · cases h
            exact hfin 1 rfl (Or.inr (Or.inr ⟨fun q => by have := q.2; omega, fun q => nLD hA q.1, mu_s _ _ _ _⟩))
    rcases h with ⟨c, h⟩ | ⟨c, h⟩
    · rw [f210_i] at c
      rcases h with ⟨c2, h⟩ | ⟨c2, h⟩
      · rw [f207_i] at c2
        have hna : ¬ anA (t j) := fun q => q.elim c c2
        have hmk : isMk (t j) → m' = mu (mu (mu m1 148 7 4) 148 9 (t j)) 148 5 (s32 (((mu (mu m1 148 7 4) 148 9 (t j)) 148 5) + 1)) → Fr P195 m m' ∧ ∃ j, SEnd t L i j ∧ TokB m' t L most j := fun hk e => by
          subst e
          refine ⟨((hF1.mu ⟨rfl, by omega⟩).mu ⟨rfl, by omega⟩).mu ⟨rfl, by omega⟩, j, ⟨s1, s2, s3, s4⟩, Or.inr (Or.inr (Or.inr (Or.inl ⟨hmo, hj, hna, hk, ?_, ?_, ?_, ?_⟩)))⟩
          · rw [mu_k (by decide), mu_k (by decide), mu_s]
          · rw [mu_k (by decide), mu_s]
          · rw [mu_k (by decide), mu_k (by decide), mu_k (by decide)]; exact k5
          · rw [mu_s, mu_k (by decide), mu_k (by decide), k3, s32_id (by omega) (by omega)]
        rcases i195_137 h with ⟨d, h⟩ | ⟨d1, h⟩
        · cases h; exact hmk (by unfold isMk; omega) rfl
        rcases h with ⟨d, h⟩ | ⟨d2, h⟩
        · cases h; exact hmk (by unfold isMk; omega) rfl
        rcases h with ⟨d, h⟩ | ⟨d3, h⟩
        · cases h; exact hmk (by unfold isMk; omega) rfl
        rcases h with ⟨d, h⟩ | ⟨d4, h⟩
        · cases h; exact hmk (by unfold isMk; omega) rfl
        rcases h with ⟨d, h⟩ | ⟨d5, h⟩
        · cases h; exact hmk (by unfold isMk; omega) rfl
        rcases h with ⟨d, h⟩ | ⟨d6, h⟩
        · cases h; exact hmk (by unfold isMk; omega) rfl
        cases h
        refine ⟨((hF1.mu ⟨rfl, by omega⟩).mu ⟨rfl, by omega⟩).mu ⟨rfl, by omega⟩, j, ⟨s1, s2, s3, s4⟩, Or.inr (Or.inr (Or.inr (Or.inr ⟨hmo, hj, hna, by unfold isMk; omega, ?_, ?_, ?_⟩)))⟩
        · rw [mu_k (by decide), mu_k (by decide), mu_s]
        · rw [mu_k (by decide), mu_k (by decide), mu_k (by decide)]; exact k5
        · rw [mu_s, mu_k (by decide), mu_k (by decide), k3, s32_id (by omega) (by omega)]
      · rw [f207_i] at c2
        exact hrun (Or.inr (Classical.not_not.mp c2)) h
    · rw [f210_i] at c
      exact hrun (Or.inl (Classical.not_not.mp c)) h
  have hend : ¬ (most < L ∧ most ≤ j) → ¬ j < L → m' = mu m1 148 7 0 → Fr P195 m m' ∧ ∃ j, SEnd t L i j ∧ TokB m' t L most j := fun hmo hj e => by
    subst e
    refine ⟨hF1.mu ⟨rfl, by omega⟩, j, ⟨s1, s2, s3, s4⟩, Or.inr (Or.inl ⟨hmo, by omega, mu_s _ _ _ _, ?_, ?_⟩)⟩
    · rw [mu_k (by decide)]; exact k5
    · rw [mu_k (by decide)]; exact k3
  rcases h52 with ⟨c, h⟩ | ⟨c, h⟩
  · rcases h with ⟨c2, h⟩ | ⟨c2, h⟩
    · exact h113 (by omega) c2 h
    · cases h
      exact hend (by omega) c2 rfl
  · rcases h with ⟨c2, h⟩ | ⟨c2, h⟩
    · rcases h with ⟨c3, h⟩ | ⟨c3, h⟩
      · exact h113 (by omega) c3 h
      · cases h
        exact hend (by omega) c3 rfl
    · cases h
      refine ⟨(hF1.mu ⟨rfl, by omega⟩).mu ⟨rfl, by omega⟩, j, ⟨s1, s2, s3, s4⟩, Or.inl ⟨by omega, by omega, mu_s _ _ _ _, ?_, ?_⟩⟩
      · rw [mu_k (by decide), mu_s]
      · rw [mu_k (by decide), mu_k (by decide)]; exact k3
