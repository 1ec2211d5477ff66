/-! Class and reference read a name, a number, a mark. -/
set_option maxRecDepth 16384 in
def ST (X : KO) (t : Int → Int) (L most : Int) (a b : MM) : Prop := PR X t L most a b ∧ RR a b ∧ a 1 9 = 0 ∧ b 148 10 = 0
set_option maxRecDepth 16384 in
theorem Fr.PT {a a' : MM} (h : Fr P148 a a') : Fr PT a a' := h.mo P148_PT
set_option maxRecDepth 16384 in
theorem Fr.PM {b b' : MM} (h : Fr P195 b b') : Fr PM b b' := h.mo P195_PM
set_option maxRecDepth 16384 in
/-- what a token rests on stays, where nothing of it is touched -/
theorem PR0_fr {P Q : Int → Int → Prop} {t : Int → Int} {L most : Int} {a a' b b' : MM} (h : PR0 t L most a b) (ha : Fr P a a') (hb : Fr Q b b') (hP : ∀ k, ¬ P 1 k) (hP2 : ∀ k, ¬ P 2 k) (hQ : ∀ k, 0 ≤ k → k ≤ 12 → ¬ Q 148 k) (hQ2 : ∀ k, ¬ Q 149 k) : PR0 t L most a' b' := by
  obtain ⟨h1, h2, h3, h4, h5, h6, h7⟩ := h
  have e := ha 1 3 (hP 3)
  exact ⟨TA_fr h1 ha (hP 0) (hP 1) hP2, TB_fr h2 hb (hQ 1 (by decide) (by decide)) (hQ 3 (by decide) (by decide)) hQ2, by rw [ha 1 2 (hP 2)]; exact h3, by rw [hb 148 4 (hQ 4 (by decide) (by decide))]; exact h4, by rw [e, hb 148 5 (hQ 5 (by decide) (by decide))]; exact h5, by rw [e]; exact h6, by rw [e]; exact h7⟩
set_option maxRecDepth 16384 in
theorem TKR_fr {X : KO} {P Q : Int → Int → Prop} {a a' b b' : MM} (h : TKR X a b) (ha : Fr P a a') (hb : Fr Q b b') (hP : ∀ k, ¬ P 1 k) (hQ : ∀ k, 0 ≤ k → k ≤ 12 → ¬ Q 148 k) : TKR X a' b' := by
  have ea : ∀ k, a' 1 k = a 1 k := fun k => ha 1 k (hP k)
  have eb : ∀ k, 0 ≤ k → k ≤ 12 → b' 148 k = b 148 k := fun k h1 h2 => hb 148 k (hQ k h1 h2)
  unfold TKR
  rw [ea, ea, ea, ea, ea, ea, eb 6 (by decide) (by decide), eb 5 (by decide) (by decide), eb 7 (by decide) (by decide), eb 12 (by decide) (by decide), eb 8 (by decide) (by decide), eb 9 (by decide) (by decide)]
  exact h
set_option maxRecDepth 16384 in
/-- the next token, from where only the texts need be alike -/
theorem nextST {X : KO} {ρ : Nat → Int32} {t : Int → Int} {L most : Int} {a a' b b' : MM} {rl rl' : List (Nat × Int)} (hX : XW X) (h : PR0 t L most a b) (hR : RR a b) (h9 : a 1 9 = 0) (h10 : b 148 10 = 0) (ha : Run X ρ 148 [(1, 1)] a rl a') (hb : Run X ρ 195 [(1, 148)] b rl' b') : ST X t L most a' b' ∧ Fr PT a a' ∧ Fr PM b b' := by
  obtain ⟨p1, f1, f2, -, -⟩ := next_ok hX h ha hb
  exact ⟨⟨p1, RR_fr hR f1.PT f2.PM, by rw [f1 1 9 (by unfold P148; omega)]; exact h9, by rw [f2 148 10 (by unfold P195; omega)]; exact h10⟩, f1.PT, f2.PM⟩
set_option maxRecDepth 16384 in
theorem mark_pair {X : KO} {ρ : Nat → Int32} {t : Int → Int} {L most : Int} {a a' b b' : MM} {rl rl' : List (Nat × Int)} (hX : XW X) (h : ST X t L most a b) (ha : Run X ρ 160 [(1, 1), (1, 59)] a rl a') (hb : Run X ρ 245 [(1, 148)] b rl' b') : Fr PT a a' ∧ Fr PM b b' ∧ ((rl = [(1, 0)] ∧ rl' = [(1, 0)] ∧ FL a' b') ∨ (rl = [(1, 1)] ∧ rl' = [(1, 1)] ∧ ST X t L most a' b')) := by
  obtain ⟨N, ig, ha⟩ := Run_CR ha rfl
  obtain ⟨M, ig', hb⟩ := Run_CR hb rfl
  have ha : MR X ρ 2 0 0 qP160 N 0 [1, 59] [] a (ig, rl, a') := ha
  have hb : MR X ρ 1 0 0 qP245 M 0 [148] [] b (ig', rl', b') := hb
  obtain ⟨⟨p0, p1⟩, hR, h9, h10⟩ := h
  have e := mark_ok p1 59
  have A := i160_0 ha
  have B := i245_0 hb
  rw [f168_0] at B
  rw [← e] at B
  rcases A with ⟨c, A⟩ | ⟨c, m8, r8, A⟩
  · rcases B with ⟨d, B⟩ | ⟨d, B⟩
    · cases A; cases B
      exact ⟨Fr_158 _ _, Fr_168 _ _, Or.inl ⟨rfl, rfl, bad_ok p1 (by decide) (Or.inl rfl)⟩⟩
    · exact absurd c d
  · rcases B with ⟨d, B⟩ | ⟨d, m9, r9, B⟩
    · exact absurd d c
    · cases A; cases B
      obtain ⟨s, f1, f2⟩ := nextST hX p0 hR h9 h10 r8 r9
      exact ⟨f1, f2, Or.inr ⟨rfl, rfl, s⟩⟩
set_option maxRecDepth 16384 in
theorem name_kind {a : MM} (h : f153 a 1 = 1) : a 1 4 ≠ 4 := by
  unfold f153 at h
  intro e
  rw [e, if_neg (by decide)] at h
  exact absurd h (by decide)
set_option maxRecDepth 16384 in
theorem person_pair {X : KO} {ρ : Nat → Int32} {t : Int → Int} {L most : Int} {a a' b b' : MM} {rl rl' : List (Nat × Int)} (h : ST X t L most a b) (ha : Run X ρ 76 [(1, 9), (1, 1)] a rl a') (hb : Run X ρ 212 [(1, 148)] b rl' b') : Fr PT a a' ∧ Fr PM b b' ∧ ((rl = [(1, -1)] ∧ rl' = [(1, 0)] ∧ FL a' b') ∨ ∃ v, rl = [(1, v)] ∧ rl' = [(1, 1)] ∧ 0 ≤ v ∧ v < a 9 6 ∧ a' = a ∧ b' = mu b 148 13 v) := by
  obtain ⟨N, ig, ha⟩ := Run_CR ha rfl
  obtain ⟨M, ig', hb⟩ := Run_CR hb rfl
  have ha : MR X ρ 3 0 0 qP76 N 0 [9, 1, 0] [] a (ig, rl, a') := ha
  have hb : MR X ρ 1 0 0 qP212 M 0 [148] [] b (ig', rl', b') := hb
  obtain ⟨⟨p0, p1⟩, hR, h9, h10⟩ := h
  have A := i76_0 ha
  obtain ⟨v4, m2, r2, -, B⟩ := i212_0 hb
  obtain ⟨e1, e2, e3, e4⟩ := name_ok p1 r2
  cases e1; have e2 := e2.symm; subst e2
  obtain ⟨hC1, hC2, hC3, hC4, hC5, hC6⟩ := hR.2.2.1
  rcases A with ⟨c, A⟩ | ⟨c, v, m20, r20, A⟩
  · rcases B with ⟨d, B⟩ | ⟨d, B⟩
    · rw [f168_0] at B
      cases A; cases B
      exact ⟨Fr_158 _ _, Fr_168 _ _, Or.inl ⟨rfl, rfl, bad_ok p1 (by decide) (Or.inl rfl)⟩⟩
    · exact absurd c d
  · rcases B with ⟨d, B⟩ | ⟨d, v9, m7, r7, B⟩
    · exact absurd d c
    · have hn : f153 a 1 = 1 := e3.resolve_right c
      obtain ⟨g1, w, g2, g3⟩ := A75 (by omega) (by omega) r20
      cases g2; have g1 := g1.symm; subst g1
      have hrd : b (b 148 15) 0 = a 9 6 := by rw [hR.2.1.1]; exact hC1.symm
      obtain ⟨g4, w', g5, g6⟩ := B190 (by decide) (by decide) (by rw [hrd]; omega) (by rw [hrd]; omega) r7
      cases g5; have g4 := g4.symm; subst g4
      obtain ⟨q1, q2⟩ := person_ok hR (e4 hn) g3 g6
      subst q1
      rw [mu_s] at B
      rcases A with ⟨c1, A⟩ | ⟨c1, A⟩
      · subst c1
        rcases A with ⟨c2, A⟩ | ⟨c2, A⟩
        · exact absurd c2 c
        · cases A
          rcases B with ⟨_, B⟩ | ⟨d1, _⟩
          · rcases B with ⟨_, B⟩ | ⟨d2, _⟩
            · cases B
              have hT : TKR X a (mu b 148 13 (-1)) := TKR_fr p1 (Fr.rf (fun _ _ => False) _) ((Fr.rf (fun x k => x = 148 ∧ k = 13) _).mu ⟨rfl, rfl⟩) (fun _ q => q) (fun k _ _ q => by omega)
              exact ⟨Fr_158 _ _, ((Fr.rf _ _).mu ⟨rfl, by decide, by decide⟩).tr (Fr_168 _ _), Or.inl ⟨rfl, rfl, bad_ok hT (by decide) (Or.inr (name_kind hn))⟩⟩
            · exact absurd (f168_0 _ _) d2
          · exact absurd rfl d1
      · cases A
        rcases B with ⟨d1, _⟩ | ⟨_, B⟩
        · exact absurd d1 c1
        · cases B
          exact ⟨Fr.rf _ _, (Fr.rf _ _).mu ⟨rfl, by decide, by decide⟩, Or.inr ⟨_, rfl, rfl, by omega, by omega, rfl, rfl⟩⟩
set_option maxRecDepth 16384 in
theorem new_pair {X : KO} {ρ : Nat → Int32} {t : Int → Int} {L most : Int} {a a' b b' : MM} {rl rl' : List (Nat × Int)} {slot : Int} (h : ST X t L most a b) (ha : Run X ρ 74 [(1, 9), (1, 1)] a rl a') (hb : Run X ρ 252 [(1, 148), (1, slot)] b rl' b') : (rl = [(1, 0)] ∧ rl' = [(1, 0)] ∧ FL a' b' ∧ Fr PT a a' ∧ Fr PM b b') ∨ (rl = [(1, 1)] ∧ rl' = [(1, 1)] ∧ a' = a ∧ NRel (a 1 7) (b 148 12) ∧ Run X ρ 195 [(1, 148)] (mu b 156 slot (b 148 12)) [] b') := by
  obtain ⟨N, ig, ha⟩ := Run_CR ha rfl
  obtain ⟨M, ig', hb⟩ := Run_CR hb rfl
  have ha : MR X ρ 2 0 0 qP74 N 0 [9, 1] [] a (ig, rl, a') := ha
  have hb : MR X ρ 2 0 0 qP252 M 0 [148, slot] [] b (ig', rl', b') := hb
  obtain ⟨⟨p0, p1⟩, hR, h9, h10⟩ := h
  have A := i74_0 ha
  obtain ⟨v4, m2, r2, -, B⟩ := i252_0 hb
  obtain ⟨e1, e2, e3, e4⟩ := name_ok p1 r2
  cases e1; have e2 := e2.symm; subst e2
  obtain ⟨hC1, hC2, hC3, hC4, hC5, hC6⟩ := hR.2.2.1
  rcases A with ⟨c, A⟩ | ⟨c, v, m8, r8, A⟩
  · rcases B with ⟨d, B⟩ | ⟨d, B⟩
    · rw [f168_0] at B
      cases A; cases B
      exact Or.inl ⟨rfl, rfl, bad_ok p1 (by decide) (Or.inl rfl), Fr_158 _ _, Fr_168 _ _⟩
    · exact absurd c d
  · rcases B with ⟨d, B⟩ | ⟨d, v9, m7, r7, B⟩
    · exact absurd d c
    · have hn : f153 a 1 = 1 := e3.resolve_right c
      obtain ⟨g1, w, g2, g3⟩ := A75 (by omega) (by omega) r8
      cases g2; have g1 := g1.symm; subst g1
      have hrd : b (b 148 15) 0 = a 9 6 := by rw [hR.2.1.1]; exact hC1.symm
      obtain ⟨g4, w', g5, g6⟩ := B190 (by decide) (by decide) (by rw [hrd]; omega) (by rw [hrd]; omega) r7
      cases g5; have g4 := g4.symm; subst g4
      obtain ⟨q1, -⟩ := person_ok hR (e4 hn) g3 g6
      subst q1
      rcases A with ⟨c1, v20, m18, r18, A⟩ | ⟨c1, A⟩
      · rcases B with ⟨d1, v19, m17, r17, B⟩ | ⟨d1, _⟩
        · obtain ⟨g1, w2, g2, g3⟩ := A70 (by omega) (by omega) r18
          cases g2; have g1 := g1.symm; subst g1
          have hrd2 : b (b 148 15) 1 = a 9 7 := by rw [hR.2.1.1]; exact hC4.symm
          obtain ⟨g4, w2', g5, g6⟩ := B190 (by decide) (by decide) (by rw [hrd2]; omega) (by rw [hrd2]; omega) r17
          cases g5; have g4 := g4.symm; subst g4
          obtain ⟨q1, -⟩ := form_ok hR (e4 hn) g3 g6
          subst q1
          rcases A with ⟨c2, A⟩ | ⟨c2, A⟩
          · rcases B with ⟨d2, m22, r22, B⟩ | ⟨d2, _⟩
            · cases A; cases B
              rw [hR.2.1.2] at r22
              exact Or.inr ⟨rfl, rfl, rfl, e4 hn, r22⟩
            · exact absurd c2 d2
          · rcases B with ⟨d2, _⟩ | ⟨d2, B⟩
            · exact absurd d2 c2
            · rw [f168_0] at B
              cases A; cases B
              exact Or.inl ⟨rfl, rfl, bad_ok p1 (by decide) (Or.inr (name_kind hn)), Fr_158 _ _, Fr_168 _ _⟩
        · exact absurd c1 d1
      · rcases B with ⟨d1, _⟩ | ⟨d1, B⟩
        · exact absurd d1 c1
        · rw [f168_0] at B
          cases A; cases B
          exact Or.inl ⟨rfl, rfl, bad_ok p1 (by decide) (Or.inr (name_kind hn)), Fr_158 _ _, Fr_168 _ _⟩
set_option maxRecDepth 16384 in
/-- a number between two: the class looks alone, the reference goes on -/
theorem num_pair {X : KO} {ρ : Nat → Int32} {t : Int → Int} {L most : Int} {a b b' : MM} {rl' : List (Nat × Int)} {lo hi : Int} (hlo : 0 ≤ lo) (h : ST X t L most a b) (hb : Run X ρ 254 [(1, 148), (1, lo), (1, hi)] b rl' b') : (f156 a 1 lo hi = -1 ∧ rl' = [(1, 0)] ∧ FL (g156 a 1 lo hi) b' ∧ Fr PT a (g156 a 1 lo hi) ∧ Fr PM b b') ∨ (∃ v, f156 a 1 lo hi = v ∧ lo ≤ v ∧ v ≤ hi ∧ v < 1000 ∧ g156 a 1 lo hi = a ∧ rl' = [(1, 1)] ∧ Run X ρ 195 [(1, 148)] (mu b 148 13 v) [] b') := by
  obtain ⟨M, ig', hb⟩ := Run_CR hb rfl
  have hb : MR X ρ 3 0 0 qP254 M 0 [148, lo, hi] [] b (ig', rl', b') := hb
  obtain ⟨⟨p0, p1⟩, hR, h9, h10⟩ := h
  have B := i254_0 hb
  have hno : ¬ a 1 4 = 2 → ¬ b 148 7 = 3 → (f156 a 1 lo hi = -1 ∧ rl' = [(1, 0)] ∧ FL (g156 a 1 lo hi) b' ∧ Fr PT a (g156 a 1 lo hi) ∧ Fr PM b b') := fun ha hb => by
    have e1 : f156 a 1 lo hi = -1 := by unfold f156; rw [if_neg ha]
    have e2 : g156 a 1 lo hi = g158 a 1 1 := by unfold g156; rw [if_neg ha]
    rcases B with ⟨d, _⟩ | ⟨d, B⟩
    · exact absurd d hb
    · rw [f168_0] at B
      cases B
      rw [e1, e2]
      exact ⟨rfl, rfl, bad_ok p1 (by decide) (Or.inl rfl), Fr_158 _ _, Fr_168 _ _⟩
  rcases p1.2.2 with ⟨h1, h2⟩ | ⟨h1, h2⟩ | ⟨h1, h2, -⟩ | ⟨h1, h2, h3, h4, h5⟩ | ⟨h1, h2, -⟩
  · exact Or.inl (hno (by omega) (by omega))
  · exact Or.inl (hno (by omega) (by omega))
  · exact Or.inl (hno (by omega) (by omega))
  · rcases B with ⟨d, B⟩ | ⟨d, _⟩
    · have e209 : f209 b (b 148 8) lo hi = 0 ↔ ¬ (lo ≤ a 1 6 ∧ a 1 6 ≤ hi) := by
        unfold f209
        rw [← h3]
        by_cases q1 : a 1 6 < lo
        · rw [if_pos q1]; exact ⟨fun _ => by omega, fun _ => rfl⟩
        · rw [if_neg q1]
          by_cases q2 : hi < a 1 6
          · rw [if_pos q2]; exact ⟨fun _ => by omega, fun _ => rfl⟩
          · rw [if_neg q2]; exact ⟨fun q => absurd q (by decide), fun q => by omega⟩
      rcases B with ⟨d1, B⟩ | ⟨d1, m9, r9, B⟩
      · rw [f168_0] at B
        cases B
        have hq := e209.mp d1
        left
        have e1 : f156 a 1 lo hi = -1 := by
          unfold f156
          rw [if_pos h1]
          by_cases q1 : a 1 6 < lo
          · rw [if_pos q1]
          · rw [if_neg q1, if_neg (by omega)]
        have e2 : g156 a 1 lo hi = g158 a 1 2 := by
          unfold g156
          rw [if_pos h1]
          by_cases q1 : a 1 6 < lo
          · rw [if_pos q1]
          · rw [if_neg q1, if_neg (by omega)]
        rw [e1, e2]
        exact ⟨rfl, rfl, bad_ok p1 (by decide) (Or.inr (by omega)), Fr_158 _ _, Fr_168 _ _⟩
      · cases B
        have hq := Classical.not_not.mp (fun z => d1 (e209.mpr z))
        right
        have e1 : f156 a 1 lo hi = a 1 6 := by
          unfold f156
          rw [if_pos h1, if_neg (by omega), if_pos (by omega)]
        have e2 : g156 a 1 lo hi = a := by
          unfold g156
          rw [if_pos h1, if_neg (by omega), if_pos (by omega)]
        rw [← h3] at r9
        exact ⟨a 1 6, e1, by omega, by omega, by omega, e2, rfl, r9⟩
    · exact absurd h2 d
  · exact Or.inl (hno (by omega) (by omega))
