/-! The class's tape read: a run, a token. -/
set_option maxRecDepth 16384 in
/-- where a run of letters and digits ends -/
def REnd (t : Int → Int) (L s : Int) (n : Nat) : Prop := s + n ≤ L ∧ (∀ k : Nat, k < n → anA (t (s + k))) ∧ (s + n < L → ¬ anA (t (s + n)))
set_option maxRecDepth 16384 in
theorem REnd_u {t : Int → Int} {L s : Int} {n m : Nat} (h : REnd t L s n) (h' : REnd t L s m) : n = m := by
  obtain ⟨h1, h2, h3⟩ := h
  obtain ⟨g1, g2, g3⟩ := h'
  rcases Nat.lt_trichotomy n m with c | c | c
  · exact absurd (g2 n c) (h3 (by omega))
  · exact c
  · exact absurd (h2 m c) (g3 (by omega))
set_option maxRecDepth 16384 in
theorem mem_sg {t : Int → Int} {s : Int} {n : Nat} (h : ∀ k : Nat, k < n → anA (t (s + k))) : ∀ c ∈ sg t s n, anA c := fun c hc => by
  obtain ⟨k, hk, rfl⟩ := sg_mem hc
  exact h k hk
set_option maxRecDepth 16384 in
def P157 (a k : Int) : Prop := a = 1 ∧ (k = 3 ∨ k = 4 ∨ k = 6 ∨ k = 7 ∨ k = 8)
set_option maxRecDepth 16384 in
theorem A157_loop {X : KO} {ρ : Nat → Int32} {t : Int → Int} {L s : Int} {m0 : MM} {o : Instr × List (Nat × Int) × MM} (hL : L ≤ 940) (hs : 0 ≤ s) : ∀ (N : Nat) (m : MM) (b1 b2 b3 : Int) (n : Nat), MR X ρ 4 0 0 qP157 N 23 [1, b1, b2, b3] [] m o → TA m t L → Fr P157 m0 m → m 1 3 = s + n → s + n ≤ L → b1 = (cL (sg t s n) : Int) → b2 = (cD (sg t s n) : Int) → b3 = f159 m 1 (s + n) → (∀ k : Nat, k < n → anA (t (s + k))) → (n ≤ 7 → allL (sg t s n) → m 1 7 = p32 (sg t s n)) → (n ≤ 3 → allD (sg t s n) → m 1 6 = p10 (sg t s n)) → ∃ (N2 : Nat) (m2 : MM) (n2 : Nat) (b3 : Int), MR X ρ 4 0 0 qP157 N2 122 [1, (cL (sg t s n2) : Int), (cD (sg t s n2) : Int), b3] [] m2 o ∧ TA m2 t L ∧ Fr P157 m0 m2 ∧ m2 1 3 = s + n2 ∧ m2 1 8 = m 1 8 ∧ REnd t L s n2 ∧ (n2 ≤ 7 → allL (sg t s n2) → m2 1 7 = p32 (sg t s n2)) ∧ (n2 ≤ 3 → allD (sg t s n2) → m2 1 6 = p10 (sg t s n2)) := by
  intro N
  induction N with
  | zero =>
    intro m b1 b2 b3 n h hT hF h3 hn e1 e2 e3 ha h7 h6
    subst e1; subst e2
    have hend : ∀ (hq : s + n < L → ¬ anA (t (s + n))), MR X ρ 4 0 0 qP157 0 122 [1, (cL (sg t s n) : Int), (cD (sg t s n) : Int), b3] [] m o → ∃ (N2 : Nat) (m2 : MM) (n2 : Nat) (b3 : Int), MR X ρ 4 0 0 qP157 N2 122 [1, (cL (sg t s n2) : Int), (cD (sg t s n2) : Int), b3] [] m2 o ∧ TA m2 t L ∧ Fr P157 m0 m2 ∧ m2 1 3 = s + n2 ∧ m2 1 8 = m 1 8 ∧ REnd t L s n2 ∧ (n2 ≤ 7 → allL (sg t s n2) → m2 1 7 = p32 (sg t s n2)) ∧ (n2 ≤ 3 → allD (sg t s n2) → m2 1 6 = p10 (sg t s n2)) := fun hq h => ⟨0, m, n, b3, h, hT, hF, h3, rfl, ⟨hn, ha, hq⟩, h7, h6⟩
    have hgo : MR X ρ 4 0 0 qP157 0 48 [1, (cL (sg t s n) : Int), (cD (sg t s n) : Int), b3] [] m o → False := fun h => by
      rcases i157_48 h with ⟨_, h⟩ | ⟨_, h⟩
      · obtain ⟨N', e, _⟩ := i157_100 h; cases e
      · obtain ⟨N', e, _⟩ := i157_100 h; cases e
    rcases i157_23 h with ⟨c, h⟩ | ⟨c, h⟩
    · exact hend (fun q => by rw [hT.2.1, h3] at c; omega) h
    · rw [hT.2.1, h3] at c
      have e4 : b3 = t (s + n) := by rw [e3]; exact signAt_in hT (by omega) (by omega)
      rcases h with ⟨c2, h⟩ | ⟨c2, h⟩
      · rcases h with ⟨c3, h⟩ | ⟨c3, h⟩
        · refine hend (fun q hq => ?_) h
          rw [f154_i] at c2; rw [f151_i] at c3
          rw [e4] at c2 c3
          rcases hq with hq | hq
          · exact c2 hq
          · exact c3 hq
        · exact (hgo h).elim
      · exact (hgo h).elim
  | succ N ih =>
    intro m b1 b2 b3 n h hT hF h3 hn e1 e2 e3 ha h7 h6
    subst e1; subst e2
    have hend : ∀ (hq : s + n < L → ¬ anA (t (s + n))), MR X ρ 4 0 0 qP157 (N + 1) 122 [1, (cL (sg t s n) : Int), (cD (sg t s n) : Int), b3] [] m o → ∃ (N2 : Nat) (m2 : MM) (n2 : Nat) (b3 : Int), MR X ρ 4 0 0 qP157 N2 122 [1, (cL (sg t s n2) : Int), (cD (sg t s n2) : Int), b3] [] m2 o ∧ TA m2 t L ∧ Fr P157 m0 m2 ∧ m2 1 3 = s + n2 ∧ m2 1 8 = m 1 8 ∧ REnd t L s n2 ∧ (n2 ≤ 7 → allL (sg t s n2) → m2 1 7 = p32 (sg t s n2)) ∧ (n2 ≤ 3 → allD (sg t s n2) → m2 1 6 = p10 (sg t s n2)) := fun hq h => ⟨N + 1, m, n, b3, h, hT, hF, h3, rfl, ⟨hn, ha, hq⟩, h7, h6⟩
    have hlen : (sg t s n).length = n := sg_len t s n
    have hcnt := allL_c (sg t s n) (mem_sg ha)
    have hgo : s + n < L → b3 = t (s + n) → anA (t (s + n)) → MR X ρ 4 0 0 qP157 (N + 1) 48 [1, (cL (sg t s n) : Int), (cD (sg t s n) : Int), b3] [] m o → ∃ (N2 : Nat) (m2 : MM) (n2 : Nat) (b3 : Int), MR X ρ 4 0 0 qP157 N2 122 [1, (cL (sg t s n2) : Int), (cD (sg t s n2) : Int), b3] [] m2 o ∧ TA m2 t L ∧ Fr P157 m0 m2 ∧ m2 1 3 = s + n2 ∧ m2 1 8 = m 1 8 ∧ REnd t L s n2 ∧ (n2 ≤ 7 → allL (sg t s n2) → m2 1 7 = p32 (sg t s n2)) ∧ (n2 ≤ 3 → allD (sg t s n2) → m2 1 6 = p10 (sg t s n2)) := fun hlt e4 hc h => by
      have ha' : ∀ k : Nat, k < n + 1 → anA (t (s + k)) := fun k hk => by
        by_cases d : k = n
        · rw [d]; exact hc
        · exact ha k (by omega)
      have en : s + ((n + 1 : Nat) : Int) = s + (n : Int) + 1 := by omega
      rcases i157_48 h with ⟨c4, h⟩ | ⟨c4, h⟩
      · obtain ⟨N', e, h⟩ := i157_100 h
        cases e
        rw [f151_i, e4] at c4
        have hl : isLt (t (s + n)) := hc.resolve_right c4
        have hd0 : ¬ (48 ≤ t (s + n) ∧ t (s + n) ≤ 57) := c4
        have hl0 : 97 ≤ t (s + n) ∧ t (s + n) ≤ 122 := hl
        have k3 : (mu m 1 7 (s64 ((s64 ((m 1 7) * 32)) + (s32 ((s32 (b3 - 97)) + 1))))) 1 3 = s + n := by rw [mu_k (by decide)]; exact h3
        rw [k3, s32_id (z := s + n + 1) (by omega) (by omega), mu_s, ← en, s32_id (z := ((cL (sg t s n) : Nat) : Int) + 1) (by omega) (by omega)] at h
        refine (ih _ _ _ _ (n + 1) h (TA_mu (TA_mu hT (by decide) (by decide)) (by decide) (by decide)) ((hF.mu ⟨rfl, by omega⟩).mu ⟨rfl, by omega⟩) (mu_s _ _ _ _) (by omega) ?_ ?_ rfl ha' ?_ ?_).imp fun N2 q => q.imp fun m2 q => q.imp fun n2 q => q.imp fun b q => ⟨q.1, q.2.1, q.2.2.1, q.2.2.2.1, ?_, q.2.2.2.2.2⟩
        · rw [sg_s, cL_s, if_pos hl0]; rfl
        · rw [sg_s, cD_s, if_neg hd0]; rfl
        · intro hn7 hA
          rw [sg_s] at hA ⊢
          obtain ⟨A1, A2⟩ := allL_s.mp hA
          have e7 := h7 (by omega) A1
          have b7 := p32_7 A1 (by rw [hlen]; omega)
          rw [mu_k (by decide), mu_s, e7, e4, p32_s, s32_id (z := t (s + n) - 97) (by omega) (by omega), s32_id (z := t (s + n) - 97 + 1) (by omega) (by omega), s64_id (z := p32 (sg t s n) * 32) (by omega) (by omega), s64_id (by omega) (by omega)]
          omega
        · intro hn3 hA
          rw [sg_s] at hA
          exact absurd (allD_s.mp hA).2 c4
        · rw [q.2.2.2.2.1, mu_k (by decide), mu_k (by decide)]
      · obtain ⟨N', e, h⟩ := i157_100 h
        cases e
        rw [f151_i, e4] at c4
        have hd : isDg (t (s + n)) := Classical.not_not.mp c4
        have hd0 : 48 ≤ t (s + n) ∧ t (s + n) ≤ 57 := hd
        have hl0 : ¬ (97 ≤ t (s + n) ∧ t (s + n) ≤ 122) := by omega
        have k3 : (mu m 1 6 (s32 ((s32 ((m 1 6) * 10)) + (s32 (b3 - 48))))) 1 3 = s + n := by rw [mu_k (by decide)]; exact h3
        rw [k3, s32_id (z := s + n + 1) (by omega) (by omega), mu_s, ← en, s32_id (z := ((cD (sg t s n) : Nat) : Int) + 1) (by omega) (by omega)] at h
        refine (ih _ _ _ _ (n + 1) h (TA_mu (TA_mu hT (by decide) (by decide)) (by decide) (by decide)) ((hF.mu ⟨rfl, by omega⟩).mu ⟨rfl, by omega⟩) (mu_s _ _ _ _) (by omega) ?_ ?_ rfl ha' ?_ ?_).imp fun N2 q => q.imp fun m2 q => q.imp fun n2 q => q.imp fun b q => ⟨q.1, q.2.1, q.2.2.1, q.2.2.2.1, ?_, q.2.2.2.2.2⟩
        · rw [sg_s, cL_s, if_neg hl0]; rfl
        · rw [sg_s, cD_s, if_pos hd0]; rfl
        · intro hn7 hA
          rw [sg_s] at hA
          exact absurd (allL_s.mp hA).2 hl0
        · intro hn3 hA
          rw [sg_s] at hA ⊢
          obtain ⟨A1, A2⟩ := allD_s.mp hA
          have e6 := h6 (by omega) A1
          have b6 := p10_3 A1 (by rw [hlen]; omega)
          rw [mu_k (by decide), mu_s, e6, e4, p10_s, s32_id (z := t (s + n) - 48) (by omega) (by omega), s32_id (z := p10 (sg t s n) * 10) (by omega) (by omega), s32_id (by omega) (by omega)]
        · rw [q.2.2.2.2.1, mu_k (by decide), mu_k (by decide)]
    rcases i157_23 h with ⟨c, h⟩ | ⟨c, h⟩
    · exact hend (fun q => by rw [hT.2.1, h3] at c; omega) h
    · rw [hT.2.1, h3] at c
      have e4 : b3 = t (s + n) := by rw [e3]; exact signAt_in hT (by omega) (by omega)
      rcases h with ⟨c2, h⟩ | ⟨c2, h⟩
      · rw [f154_i, e4] at c2
        rcases h with ⟨c3, h⟩ | ⟨c3, h⟩
        · rw [f151_i, e4] at c3
          refine hend (fun q hq => ?_) h
          rcases hq with hq | hq
          · exact c2 hq
          · exact c3 hq
        · rw [f151_i, e4] at c3
          exact hgo (by omega) e4 (Or.inr (Classical.not_not.mp c3)) h
      · rw [f154_i, e4] at c2
        exact hgo (by omega) e4 (Or.inl (Classical.not_not.mp c2)) h
set_option maxRecDepth 16384 in
/-- what a run is, by what it has -/
def RunK (X : KO) (m' : MM) (cs : List Int) : Prop := (allL cs ∧ cs.length ≤ 7 ∧ m' 1 4 = 1 ∧ m' 1 7 = p32 cs ∧ Mean (m' 1 8) (p32 cs)) ∨ (allD cs ∧ cs ≠ [] ∧ cs.length ≤ 3 ∧ m' 1 4 = 2 ∧ m' 1 6 = p10 cs) ∨ (¬ (allL cs ∧ cs.length ≤ 7) ∧ ¬ (allD cs ∧ cs.length ≤ 3) ∧ m' 1 4 = 4)
set_option maxRecDepth 16384 in
theorem A157 {X : KO} {ρ : Nat → Int32} {t : Int → Int} {L s : Int} {m m' : MM} {rl : List (Nat × Int)} (hX : XW X) (h8 : m 1 8 = -1) (hT : TA m t L) (h3 : m 1 3 = s) (hs : 0 ≤ s) (hsL : s < L) (hc : anA (t s)) (h : Run X ρ 157 [(1, 1)] m rl m') : rl = [] ∧ Fr P157 m m' ∧ ∃ n : Nat, 0 < n ∧ m' 1 3 = s + n ∧ REnd t L s n ∧ RunK X m' (sg t s n) := by
  refine ⟨Run_v h rfl, ?_⟩
  obtain ⟨N, ig, h⟩ := Run_CR h rfl
  have h : MR X ρ 4 0 0 qP157 N 0 [1, 0, 0, 0] [] m (ig, rl, m') := h
  have h := i157_0 h
  have hT0 : TA (mu (mu m 1 7 0) 1 6 0) t L := TA_mu (TA_mu hT (by decide) (by decide)) (by decide) (by decide)
  have k3 : (mu (mu m 1 7 0) 1 6 0) 1 3 = s := by rw [mu_k (by decide), mu_k (by decide)]; exact h3
  have hL := hT.2.2.2.1
  obtain ⟨N2, m2, n, b3, h, hT2, hF, g3, g8, hR, g7, g6⟩ := A157_loop (m0 := m) (t := t) (L := L) (s := s) hL hs N _ _ _ _ 0 h hT0 (((Fr.rf _ _).mu ⟨rfl, by omega⟩).mu ⟨rfl, by omega⟩) (by rw [k3]; omega) (by omega) rfl rfl (by rw [k3]; congr 1; omega) (fun k hk => absurd hk (by omega)) (fun _ _ => by rw [mu_k (by decide), mu_s]; rfl) (fun _ _ => by rw [mu_s]; rfl)
  rw [mu_k (by decide), mu_k (by decide), h8] at g8
  have hn : 0 < n := by
    rcases Nat.eq_zero_or_pos n with e | e
    · subst e
      have := hR.2.2 (by omega)
      rw [show s + ((0 : Nat) : Int) = s by omega] at this
      exact absurd hc this
    · exact e
  have hlen : (sg t s n).length = n := sg_len t s n
  have hne : sg t s n ≠ [] := fun e => by rw [e] at hlen; simp at hlen; omega
  obtain ⟨q1, q2, q3⟩ := allL_c (sg t s n) (mem_sg hR.2.1)
  have h144 : ¬ (allL (sg t s n) ∧ (sg t s n).length ≤ 7) → MR X ρ 4 0 0 qP157 N2 144 [1, (cL (sg t s n) : Int), (cD (sg t s n) : Int), b3] [] m2 (ig, rl, m') → Fr P157 m m' ∧ ∃ n : Nat, 0 < n ∧ m' 1 3 = s + n ∧ REnd t L s n ∧ RunK X m' (sg t s n) := fun hno h => by
    rcases i157_144 h with ⟨c, h⟩ | ⟨c, h⟩
    · have hA : allD (sg t s n) := q3.mpr (by omega)
      rcases h with ⟨c2, h⟩ | ⟨c2, h⟩
      · cases h
        refine ⟨hF.mu ⟨rfl, by omega⟩, n, hn, by rw [mu_k (by decide)]; exact g3, hR, Or.inr (Or.inr ⟨hno, fun q => ?_, mu_s _ _ _ _⟩)⟩
        have := q.2
        omega
      · cases h
        refine ⟨hF.mu ⟨rfl, by omega⟩, n, hn, by rw [mu_k (by decide)]; exact g3, hR, Or.inr (Or.inl ⟨hA, hne, by omega, mu_s _ _ _ _, ?_⟩)⟩
        rw [mu_k (by decide)]
        exact g6 (by omega) hA
    · cases h
      refine ⟨hF.mu ⟨rfl, by omega⟩, n, hn, by rw [mu_k (by decide)]; exact g3, hR, Or.inr (Or.inr ⟨hno, fun q => ?_, mu_s _ _ _ _⟩)⟩
      have := q3.mp q.1
      omega
  rcases i157_122 h with ⟨c, h⟩ | ⟨c, h⟩
  · have hA : allL (sg t s n) := q2.mpr (by omega)
    rcases h with ⟨c2, h⟩ | ⟨c2, h⟩
    · exact h144 (fun q => by have := q.2; omega) h
    · obtain ⟨m4, hr, h⟩ := h
      cases h
      obtain ⟨-, f1, f2⟩ := A150 hX (by rw [mu_k (by decide)]; exact g8) hr
      have e7 := g7 (by omega) hA
      rw [mu_k (by decide), e7] at f2
      refine ⟨(hF.mu ⟨rfl, by omega⟩).tr (f1.mo (fun a k q => ⟨q.1, by omega⟩)), n, hn, ?_, hR, Or.inl ⟨hA, by omega, ?_, ?_, f2⟩⟩
      · rw [f1 1 3 (by omega), mu_k (by decide)]; exact g3
      · rw [f1 1 4 (by omega), mu_s]
      · rw [f1 1 7 (by omega), mu_k (by decide)]; exact e7
  · exact h144 (fun q => c (by have := q2.mp q.1; omega)) h
/-! the next token -/
set_option maxRecDepth 16384 in
def isWs (c : Int) : Prop := c = 32 ∨ c = 10
set_option maxRecDepth 16384 in
def isMk (c : Int) : Prop := c = 59 ∨ c = 60 ∨ c = 61 ∨ c = 62 ∨ c = 40 ∨ c = 41
set_option maxRecDepth 16384 in
/-- where the white ends -/
def SEnd (t : Int → Int) (L i j : Int) : Prop := i ≤ j ∧ j ≤ L ∧ (∀ k, i ≤ k → k < j → isWs (t k)) ∧ (j < L → ¬ isWs (t j))
set_option maxRecDepth 16384 in
theorem SEnd_u {t : Int → Int} {L i j j' : Int} (h : SEnd t L i j) (h' : SEnd t L i j') : j = j' := by
  obtain ⟨h1, h2, h3, h4⟩ := h
  obtain ⟨g1, g2, g3, g4⟩ := h'
  rcases Int.lt_trichotomy j j' with c | c | c
  · exact absurd (g3 j h1 c) (h4 (by omega))
  · exact c
  · exact absurd (h3 j' g1 c) (g4 (by omega))
set_option maxRecDepth 16384 in
def P148 (a k : Int) : Prop := a = 1 ∧ 3 ≤ k ∧ k ≤ 8
set_option maxRecDepth 16384 in
theorem A148_loop {X : KO} {ρ : Nat → Int32} {t : Int → Int} {L i : Int} {m0 : MM} {o : Instr × List (Nat × Int) × MM} (hL : L ≤ 940) (hi : 0 ≤ i) : ∀ (N : Nat) (m : MM) (b1 b2 j : Int), MR X ρ 3 0 0 qP148 N 9 [1, b1, b2] [] m o → TA m t L → Fr P148 m0 m → m 1 3 = j → i ≤ j → j ≤ L → b1 = f159 m 1 j → (∀ k, i ≤ k → k < j → isWs (t k)) → ∃ (N2 : Nat) (m2 : MM) (j2 : Int), MR X ρ 3 0 0 qP148 N2 54 [1, f159 m2 1 j2, b2] [] m2 o ∧ TA m2 t L ∧ Fr P148 m0 m2 ∧ m2 1 3 = j2 ∧ SEnd t L i j2 := by
  intro N
  induction N with
  | zero =>
    intro m b1 b2 j h hT hF h3 hj hjL e1 hw
    subst e1
    rcases i148_9 h with ⟨c, h⟩ | ⟨c, h⟩
    · exact ⟨0, m, j, h, hT, hF, h3, hj, hjL, hw, fun q => by rw [hT.2.1, h3] at c; omega⟩
    · rw [hT.2.1, h3] at c
      have e4 : f159 m 1 j = t j := signAt_in hT (by omega) (by omega)
      rcases h with ⟨c2, N', e, _⟩ | ⟨c2, h⟩
      · cases e
      · rcases h with ⟨c3, N', e, _⟩ | ⟨c3, h⟩
        · cases e
        · exact ⟨0, m, j, h, hT, hF, h3, hj, hjL, hw, fun q hq => by
            rw [e4] at c2 c3
            rcases hq with hq | hq
            · exact c2 hq
            · exact c3 hq⟩
  | succ N ih =>
    intro m b1 b2 j h hT hF h3 hj hjL e1 hw
    subst e1
    have hgo : j < L → isWs (t j) → MR X ρ 3 0 0 qP148 N 9 [1, f159 (mu m 1 3 (s32 ((m 1 3) + 1))) 1 ((mu m 1 3 (s32 ((m 1 3) + 1))) 1 3), b2] [] (mu m 1 3 (s32 ((m 1 3) + 1))) o → ∃ (N2 : Nat) (m2 : MM) (j2 : Int), MR X ρ 3 0 0 qP148 N2 54 [1, f159 m2 1 j2, b2] [] m2 o ∧ TA m2 t L ∧ Fr P148 m0 m2 ∧ m2 1 3 = j2 ∧ SEnd t L i j2 := fun hlt hc h => by
      rw [h3, s32_id (z := j + 1) (by omega) (by omega), mu_s] at h
      refine ih _ _ _ (j + 1) h (TA_mu hT (by decide) (by decide)) (hF.mu ⟨rfl, by omega⟩) (mu_s _ _ _ _) (by omega) (by omega) rfl (fun k k1 k2 => ?_)
      by_cases d : k = j
      · rw [d]; exact hc
      · exact hw k k1 (by omega)
    rcases i148_9 h with ⟨c, h⟩ | ⟨c, h⟩
    · exact ⟨N + 1, m, j, h, hT, hF, h3, hj, hjL, hw, fun q => by rw [hT.2.1, h3] at c; omega⟩
    · rw [hT.2.1, h3] at c
      have e4 : f159 m 1 j = t j := signAt_in hT (by omega) (by omega)
      rcases h with ⟨c2, N', e, h⟩ | ⟨c2, h⟩
      · cases e
        exact hgo (by omega) (Or.inl (by rw [← e4]; exact c2)) h
      · rcases h with ⟨c3, N', e, h⟩ | ⟨c3, h⟩
        · cases e
          exact hgo (by omega) (Or.inr (by rw [← e4]; exact c3)) h
        · exact ⟨N + 1, m, j, h, hT, hF, h3, hj, hjL, hw, fun q hq => by
            rw [e4] at c2 c3
            rcases hq with hq | hq
            · exact c2 hq
            · exact c3 hq⟩
set_option maxRecDepth 16384 in
/-- the token at a place: what the class's tape says of it -/
def TokA (X : KO) (m : MM) (t : Int → Int) (L most j : Int) : Prop :=
  (most < L ∧ most ≤ j ∧ m 1 4 = 4 ∧ m 1 5 = most ∧ m 1 3 = j) ∨
  (¬ (most < L ∧ most ≤ j) ∧ j = L ∧ m 1 4 = 0 ∧ m 1 5 = j ∧ m 1 3 = j) ∨
  (¬ (most < L ∧ most ≤ j) ∧ j < L ∧ anA (t j) ∧ m 1 5 = j ∧ ∃ n : Nat, 0 < n ∧ m 1 3 = j + n ∧ REnd t L j n ∧ RunK X m (sg t j n)) ∨
  (¬ (most < L ∧ most ≤ j) ∧ j < L ∧ ¬ anA (t j) ∧ isMk (t j) ∧ m 1 4 = 3 ∧ m 1 6 = t j ∧ m 1 5 = j ∧ m 1 3 = j + 1) ∨
  (¬ (most < L ∧ most ≤ j) ∧ j < L ∧ ¬ anA (t j) ∧ ¬ isMk (t j) ∧ m 1 4 = 4 ∧ m 1 5 = j ∧ m 1 3 = j + 1)
set_option maxRecDepth 16384 in
theorem A148 {X : KO} {ρ : Nat → Int32} {t : Int → Int} {L i most : Int} {m m' : MM} {rl : List (Nat × Int)} (hX : XW X) (hT : TA m t L) (h3 : m 1 3 = i) (hm : m 1 2 = most) (hi : 0 ≤ i) (hiL : i ≤ L) (h : Run X ρ 148 [(1, 1)] m rl m') : rl = [] ∧ Fr P148 m m' ∧ ∃ j, SEnd t L i j ∧ TokA X m' t L most j := by
  refine ⟨Run_v h rfl, ?_⟩
  obtain ⟨N, ig, h⟩ := Run_CR h rfl
  have h : MR X ρ 3 0 0 qP148 N 0 [1, 0, 0] [] m (ig, rl, m') := h
  have h := i148_0 h
  rw [h3] at h
  have hL := hT.2.2.2.1
  obtain ⟨N2, m2, j, h, hT2, hF, g3, hS⟩ := A148_loop (m0 := m) (t := t) (L := L) (i := i) hL hi N m _ 0 i h hT (Fr.rf _ _) h3 (Int.le_refl _) hiL rfl (fun k k1 k2 => by omega)
  have gm : m2 1 2 = most := by rw [hF 1 2 (by unfold P148; omega)]; exact hm
  obtain ⟨s1, s2, s3, s4⟩ := hS
  have hF1 : Fr P148 m (mu (mu m2 1 5 (m2 1 3)) 1 8 (-1)) := (hF.mu ⟨rfl, by omega, by omega⟩).mu ⟨rfl, by omega, by omega⟩
  have hT1 : TA (mu (mu m2 1 5 (m2 1 3)) 1 8 (-1)) t L := TA_mu (TA_mu hT2 (by decide) (by decide)) (by decide) (by decide)
  have k1 : (mu (mu m2 1 5 (m2 1 3)) 1 8 (-1)) 1 1 = L := hT1.2.1
  have k2 : (mu (mu m2 1 5 (m2 1 3)) 1 8 (-1)) 1 2 = most := by rw [mu_k (by decide), mu_k (by decide)]; exact gm
  have k3 : (mu (mu m2 1 5 (m2 1 3)) 1 8 (-1)) 1 3 = j := by rw [mu_k (by decide), mu_k (by decide)]; exact g3
  have k5 : (mu (mu m2 1 5 (m2 1 3)) 1 8 (-1)) 1 5 = j := by rw [mu_k (by decide), mu_s]; exact g3
  have k8 : (mu (mu m2 1 5 (m2 1 3)) 1 8 (-1)) 1 8 = -1 := mu_s _ _ _ _
  have h54 := i148_54 h
  generalize (mu (mu m2 1 5 (m2 1 3)) 1 8 (-1)) = m1 at *
  rw [k1, k2, k3] at h54
  have h124 : ¬ (most < L ∧ most ≤ j) → j < L → MR X ρ 3 0 0 qP148 N2 124 [1, f159 m2 1 j, 0] [] m1 (ig, rl, m') → Fr P148 m m' ∧ ∃ j, SEnd t L i j ∧ TokA X m' t L most j := fun hmo hj h => by
    have e4 : f159 m2 1 j = t j := signAt_in hT2 (by omega) hj
    rw [e4] at h
    have hrun : anA (t j) → ∀ mr, Run X ρ 157 [(1, 1)] m1 [] mr → m' = mr → Fr P148 m m' ∧ ∃ j, SEnd t L i j ∧ TokA X m' t L most j := fun hc mr hr e => by
      subst e
      obtain ⟨-, f1, n, n0, n1, n2, n3⟩ := A157 hX k8 hT1 k3 (by omega) hj hc hr
      refine ⟨hF1.tr (f1.mo (fun a k q => ⟨q.1, by have := q.2; omega, by have := q.2; omega⟩)), j, ⟨s1, s2, s3, s4⟩, Or.inr (Or.inr (Or.inl ⟨hmo, hj, hc, ?_, n, n0, n1, n2, n3⟩))⟩
      rw [f1 1 5 (by unfold P157; omega)]; exact k5
    rcases i148_124 h with ⟨c, h⟩ | ⟨c, h⟩
    · rw [f154_i] at c
      rcases h with ⟨c2, h⟩ | ⟨c2, mr, hr, h⟩
      · rw [f151_i] at c2
        have hna : ¬ anA (t j) := fun q => q.elim c c2
        have hmk : isMk (t j) → MR X ρ 3 0 0 qP148 N2 187 [1, t j, 1] [] m1 (ig, rl, m') → Fr P148 m m' ∧ ∃ j, SEnd t L i j ∧ TokA X m' t L most j := fun hk h => by
          rcases i148_187 h with ⟨c, h⟩ | ⟨c, h⟩
          · exact absurd c (by decide)
          · cases h
            refine ⟨((hF1.mu ⟨rfl, by omega, by omega⟩).mu ⟨rfl, by omega, by omega⟩).mu ⟨rfl, by omega, by omega⟩, j, ⟨s1, s2, s3, s4⟩, Or.inr (Or.inr (Or.inr (Or.inl ⟨hmo, hj, hna, hk, ?_, ?_, ?_, ?_⟩)))⟩
            · rw [mu_k (by decide), mu_k (by decide), mu_s]
            · rw [mu_k (by decide), mu_s]
            · rw [mu_k (by decide), mu_k (by decide), mu_k (by decide)]; exact k5
            · rw [mu_s, mu_k (by decide), mu_k (by decide), k3, s32_id (by omega) (by omega)]
        rcases i148_145 h with ⟨d, h⟩ | ⟨d1, h⟩
        · exact hmk (by unfold isMk; omega) h
        rcases h with ⟨d, h⟩ | ⟨d2, h⟩
        · exact hmk (by unfold isMk; omega) h
        rcases h with ⟨d, h⟩ | ⟨d3, h⟩
        · exact hmk (by unfold isMk; omega) h
        rcases h with ⟨d, h⟩ | ⟨d4, h⟩
        · exact hmk (by unfold isMk; omega) h
        rcases h with ⟨d, h⟩ | ⟨d5, h⟩
        · exact hmk (by unfold isMk; omega) h
        rcases h with ⟨d, h⟩ | ⟨d6, h⟩
        · exact hmk (by unfold isMk; omega) h
        rcases i148_187 h with ⟨c, h⟩ | ⟨c, h⟩
        · cases h
          refine ⟨((hF1.mu ⟨rfl, by omega, by omega⟩).mu ⟨rfl, by omega, by omega⟩).mu ⟨rfl, by omega, by omega⟩, j, ⟨s1, s2, s3, s4⟩, Or.inr (Or.inr (Or.inr (Or.inr ⟨hmo, hj, hna, by unfold isMk; omega, ?_, ?_, ?_⟩)))⟩
          · rw [mu_k (by decide), mu_k (by decide), mu_s]
          · rw [mu_k (by decide), mu_k (by decide), mu_k (by decide)]; exact k5
          · rw [mu_s, mu_k (by decide), mu_k (by decide), k3, s32_id (by omega) (by omega)]
        · exact absurd rfl c
      · rw [f151_i] at c2
        cases h
        exact hrun (Or.inr (Classical.not_not.mp c2)) _ hr rfl
    · rw [f154_i] at c
      obtain ⟨mr, hr, h⟩ := h
      cases h
      exact hrun (Or.inl (Classical.not_not.mp c)) _ hr rfl
  have hend : ¬ (most < L ∧ most ≤ j) → ¬ j < L → m' = mu m1 1 4 0 → Fr P148 m m' ∧ ∃ j, SEnd t L i j ∧ TokA X m' t L most j := fun hmo hj e => by
    subst e
    refine ⟨hF1.mu ⟨rfl, by omega, by omega⟩, j, ⟨s1, s2, s3, s4⟩, Or.inr (Or.inl ⟨hmo, by omega, mu_s _ _ _ _, ?_, ?_⟩)⟩
    · rw [mu_k (by decide)]; exact k5
    · rw [mu_k (by decide)]; exact k3
  rcases h54 with ⟨c, h⟩ | ⟨c, h⟩
  · rcases h with ⟨c2, h⟩ | ⟨c2, h⟩
    · exact h124 (by omega) c2 h
    · cases h
      exact hend (by omega) c2 rfl
  · rcases h with ⟨c2, h⟩ | ⟨c2, h⟩
    · rcases h with ⟨c3, h⟩ | ⟨c3, h⟩
      · exact h124 (by omega) c3 h
      · cases h
        exact hend (by omega) c3 rfl
    · cases h
      refine ⟨(hF1.mu ⟨rfl, by omega, by omega⟩).mu ⟨rfl, by omega, by omega⟩, j, ⟨s1, s2, s3, s4⟩, Or.inl ⟨by omega, by omega, ?_, ?_, ?_⟩⟩
      · rw [mu_k (by decide), mu_s]
      · rw [mu_s, mu_k (by decide)]; exact k2
      · rw [mu_k (by decide), mu_k (by decide)]; exact k3
