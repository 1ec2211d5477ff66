section
/-! A person's line. -/
set_option maxRecDepth 16384 in
theorem first_ok {X : KO} {ρ : Nat → Int32} {b b' : MM} {rl : List (Nat × Int)} {many most : Int} (h : Run X ρ 246 [(1, 148), (1, many), (1, most)] b rl b') (h15 : b 148 15 = 151) : (b 151 many = most ∧ rl = [(1, 0)] ∧ b' = g168 b 148 4) ∨ (b 151 many ≠ most ∧ rl = [(1, 1)] ∧ Run X ρ 195 [(1, 148)] b [] b') := by
  obtain ⟨N, ig, h⟩ := Run_CR h rfl
  have h : MR X ρ 3 0 0 qP246 N 0 [148, many, most] [] b (ig, rl, b') := h
  have B := i246_0 h
  rw [h15, f168_0] at B
  rcases B with ⟨c, B⟩ | ⟨c, m3, r3, B⟩
  · cases B
    exact Or.inl ⟨c, rfl, rfl⟩
  · cases B
    exact Or.inr ⟨c, rfl, r3⟩
set_option maxRecDepth 16384 in
/-- rosters alike, where what is not written stays -/
theorem RR_of {a a' b b' : MM} (h : RR a b) (hl : LayA a') (hm : LayB b') (hc : CntR a' b') (hn : NamR a' b') (h1 : (∀ k, 0 ≤ k → k < 64 → a' 23 k = a 23 k ∧ b' 151 (12 + k) = b 151 (12 + k)) ∨ GruR a' b') (h2 : (∀ k, 0 ≤ k → k < 8 → a' 14 k = a 14 k ∧ b' 151 (4 + k) = b 151 (4 + k)) ∨ ShyR a' b') (h3 : ((a' 9 7 = a 9 7) ∧ ∀ k, 0 ≤ k → k < 8 → a' 12 k = a 12 k ∧ a' 13 k = a 13 k ∧ b' 151 (76 + k) = b 151 (76 + k) ∧ b' 151 (84 + k) = b 151 (84 + k)) ∨ FrmR a' b') (h4 : RulR a' b') : RR a' b' := by
  obtain ⟨-, -, ⟨-, -, -, -, -, c6⟩, -, hg, hs, hf, -⟩ := h
  refine ⟨hl, hm, hc, hn, ?_, ?_, ?_, h4⟩
  · rcases h1 with h1 | h1
    · intro k k1 k2
      rw [(h1 k k1 k2).1, (h1 k k1 k2).2]
      exact hg k k1 k2
    · exact h1
  · rcases h2 with h2 | h2
    · intro k k1 k2
      rw [(h2 k k1 k2).1, (h2 k k1 k2).2]
      exact hs k k1 k2
    · exact h2
  · rcases h3 with ⟨h0, h3⟩ | h3
    · intro k k1 k2
      rw [h0] at k2
      obtain ⟨e1, e2, e3, e4⟩ := h3 k k1 (by omega)
      rw [e1, e2, e3, e4]
      exact hf k k1 k2
    · exact h3
set_option maxRecDepth 16384 in
theorem person_line {X : KO} {ρ : Nat → Int32} {t : Int → Int} {L : Int} {a a' b b1 : MM} {rl rl' : List (Nat × Int)} (hX : XW X) (hS : XS X) (h : ST X t L 900 a b) (h4 : a 1 4 ≠ 4) (ha : Run X ρ 80 [(1, 9), (1, 1), (1, 22)] a rl a') (hb : Run X ρ 258 [(1, 148)] b rl' b1) : LE X ρ t L a a' b b1 rl rl' := by
  obtain ⟨N, ig, ha⟩ := Run_CR ha rfl
  obtain ⟨M, ig', hb⟩ := Run_CR hb rfl
  have ha : MR X ρ 3 0 0 qP80 N 0 [9, 1, 22] [] a (ig, rl, a') := ha
  have hb : MR X ρ 1 0 0 qP258 M 0 [148] [] b (ig', rl', b1) := hb
  have h0 := h
  obtain ⟨⟨p0, p1⟩, hR, h9, h10⟩ := h0
  obtain ⟨v4, m2, r2, -, B⟩ := i258_0 hb
  have A := i80_0 ha
  obtain ⟨c1, c2, c3, c4, c5, c6⟩ := hR.2.2.1
  rcases A with ⟨c, _⟩ | ⟨c, A⟩
  · omega
  rcases first_ok r2 hR.2.1.1 with ⟨d, e1, e2⟩ | ⟨d, e1, r2'⟩
  · cases e1; subst e2
    rcases A with ⟨c', _⟩ | ⟨_, A⟩
    · omega
    rcases B with ⟨_, B⟩ | ⟨d', _⟩
    · cases A; cases B
      exact Or.inl ⟨rfl, rfl, bad_ok p1 (by decide) (Or.inr h4), (Fr_158 _ _).va, (Fr_168 _ _).vb⟩
    · exact absurd rfl d'
  cases e1
  rcases B with ⟨d', _⟩ | ⟨_, B⟩
  · exact absurd d' (by decide)
  rcases A with ⟨c', m9, r9, v14, m12, r12, _, A⟩ | ⟨c', _⟩
  case inr => omega
  obtain ⟨s1, f1, f2⟩ := nextST hX p0 hR h9 h10 r9 r2'
  obtain ⟨v9, m7, r7, -, B⟩ := B
  have hR1 := s1.2.1
  have n96 : m9 9 6 = a 9 6 := f1 9 6 (fun q => by have := q.1; omega)
  have n151 : m2 (m2 148 15) 0 = a 9 6 := by rw [hR1.2.1.1, ← hR1.2.2.1.1]; exact n96
  rw [n151] at r7
  rcases new_pair s1 r12 r7 with ⟨e1, e2, e3, g1, g2⟩ | ⟨e1, e2, e3, hN, r7'⟩
  · cases e1; cases e2
    rcases A with ⟨_, A⟩ | ⟨c2', _⟩
    · rcases B with ⟨_, B⟩ | ⟨d2', _⟩
      · cases A; cases B
        exact Or.inl ⟨rfl, rfl, e3, (f1.tr g1).va, (f2.tr g2).vb⟩
      · exact absurd rfl d2'
    · exact absurd rfl c2'
  cases e1; cases e2
  have e3 := e3.symm
  subst e3
  rcases A with ⟨c2', _⟩ | ⟨_, m17, r17, A⟩
  · exact absurd c2' (by decide)
  rcases B with ⟨d2', _⟩ | ⟨_, B⟩
  · exact absurd d2' (by decide)
  have hR1' := hR1
  obtain ⟨⟨l1, l2, l3, l4, l5, l6⟩, ⟨l7, l8⟩, ⟨k1, k2, k3, k4, k5, k6⟩, ⟨n1, n2⟩, hg, hs, hf, ⟨u1, u2, u3, u4⟩⟩ := hR1'
  rw [l1, n96] at r17
  -- the name is written, the next token read
  have fa : Fr (fun x k => x = 10 ∧ k = a 9 6) m9 (mu m9 10 (a 9 6) (m9 1 7)) := (Fr.rf _ _).mu ⟨rfl, rfl⟩
  have fb : Fr (fun x k => x = 156 ∧ k = a 9 6) m2 (mu m2 156 (a 9 6) (m2 148 12)) := (Fr.rf _ _).mu ⟨rfl, rfl⟩
  have p0' : PR0 t L 900 (mu m9 10 (a 9 6) (m9 1 7)) (mu m2 156 (a 9 6) (m2 148 12)) := PR0_fr s1.1.1 fa fb (fun k q => by omega) (fun k q => by omega) (fun k _ _ q => by omega) (fun k q => by omega)
  have hR' : RR (mu m9 10 (a 9 6) (m9 1 7)) (mu m2 156 (a 9 6) (m2 148 12)) := by
    have ea : ∀ x k, x ≠ 10 → (mu m9 10 (a 9 6) (m9 1 7)) x k = m9 x k := fun x k hx => mu_a hx
    have eb : ∀ x k, x ≠ 156 → (mu m2 156 (a 9 6) (m2 148 12)) x k = m2 x k := fun x k hx => mu_a hx
    refine RR_of hR1 ⟨?_, ?_, ?_, ?_, ?_, ?_⟩ ⟨?_, ?_⟩ ⟨?_, ?_, ?_, ?_, ?_, ?_⟩ ⟨fun k q1 q2 => ?_, fun k q1 q2 => ?_⟩ (Or.inl fun k _ _ => ⟨ea _ _ (by decide), eb _ _ (by decide)⟩) (Or.inl fun k _ _ => ⟨ea _ _ (by decide), eb _ _ (by decide)⟩) (Or.inl ⟨ea _ _ (by decide), fun k _ _ => ⟨ea _ _ (by decide), ea _ _ (by decide), eb _ _ (by decide), eb _ _ (by decide)⟩⟩) ⟨?_, ?_, ?_, ?_⟩
    · rw [ea _ _ (by decide)]; exact l1
    · rw [ea _ _ (by decide)]; exact l2
    · rw [ea _ _ (by decide)]; exact l3
    · rw [ea _ _ (by decide)]; exact l4
    · rw [ea _ _ (by decide)]; exact l5
    · rw [ea _ _ (by decide)]; exact l6
    · rw [eb _ _ (by decide)]; exact l7
    · rw [eb _ _ (by decide)]; exact l8
    · rw [ea _ _ (by decide), eb _ _ (by decide)]; exact k1
    · rw [ea _ _ (by decide)]; exact k2
    · rw [ea _ _ (by decide)]; exact k3
    · rw [ea _ _ (by decide), eb _ _ (by decide)]; exact k4
    · rw [ea _ _ (by decide)]; exact k5
    · rw [ea _ _ (by decide)]; exact k6
    · rw [ea _ _ (by decide)] at q2
      rw [mu_k (by omega), mu_k (by omega)]
      exact n1 k q1 q2
    · rw [ea _ _ (by decide)] at q2
      rw [ea _ _ (by decide), mu_k (by omega)]
      exact n2 k q1 q2
    · rw [ea _ _ (by decide), eb _ _ (by decide)]; exact u1
    · rw [ea _ _ (by decide), eb _ _ (by decide)]; exact u2
    · rw [ea _ _ (by decide), eb _ _ (by decide)]; exact u3
    · rw [ea _ _ (by decide)]; exact u4
  have hP2 : Prog a m17 := by
    have z1 := mon_ok hX p0 r9
    have z2 := mon_ok hX p0' r17
    unfold Prog at *
    rw [mu_a (by decide)] at z2
    exact ⟨by omega, fun y1 y2 => by have := z2.2 y1 y2; omega⟩
  obtain ⟨s2, f3, f4⟩ := nextST hX p0' hR' (by rw [mu_a (by decide)]; exact s1.2.2.1) (by rw [mu_a (by decide)]; exact s1.2.2.2) r17 r7'
  have FA : Fr VA a m17 := (f1.va.tr (fa.mo (fun x k q => Or.inr (Or.inr (Or.inl ⟨by omega, by omega, by omega⟩))))).tr f3.va
  have FB : Fr VB b m7 := (f2.vb.tr (fb.mo (fun x k q => Or.inr (Or.inr (Or.inr ⟨q.1, by omega⟩))))).tr f4.vb
  have w96 : m17 9 6 = a 9 6 := by rw [f3 9 6 (fun q => by have := q.1; omega), mu_a (by decide)]; exact n96
  have hNn : NRel (m17 10 (a 9 6)) (m7 156 (a 9 6)) := by
    rw [f3 10 _ (fun q => by have := q.1; omega), f4 156 _ (fun q => by have := q.1; omega), mu_s, mu_s]
    exact hN
  -- one person more on both sides
  have hfin : ∀ ma mb : MM, ST X t L 900 ma mb → Prog a ma → Fr VA a ma → Fr VB b mb → ma 9 6 = a 9 6 → NRel (ma 10 (a 9 6)) (mb 156 (a 9 6)) → Run X ρ 160 [(1, 1), (1, 59)] (mu ma 9 6 (s32 ((ma 9 6) + 1))) rl a' → b1 = mu mb (mb 148 15) 0 (s32 (s32 ((mb (mb 148 15) 0) + 1))) → rl' = [(1, 1)] → LE X ρ t L a a' b b1 rl rl' := by
    intro ma mb s hP FA FB e96 hNn rm e1 e2
    obtain ⟨⟨q0, q1⟩, hRm, g9, g10⟩ := s
    have hRm' := hRm
    obtain ⟨⟨l1, l2, l3, l4, l5, l6⟩, ⟨l7, l8⟩, ⟨k1, k2, k3, k4, k5, k6⟩, ⟨n1, n2⟩, hg, hs, hf, ⟨u1, u2, u3, u4⟩⟩ := hRm'
    rw [l7, ← k1, e96, s32_id (z := a 9 6 + 1) (by omega) (by omega), s32_id (z := a 9 6 + 1) (by omega) (by omega)] at e1
    rw [e96, s32_id (z := a 9 6 + 1) (by omega) (by omega)] at rm
    subst e1
    have fa : Fr (fun x k => x = 9 ∧ k = 6) ma (mu ma 9 6 (a 9 6 + 1)) := (Fr.rf _ _).mu ⟨rfl, rfl⟩
    have fb : Fr (fun x k => x = 151 ∧ k = 0) mb (mu mb 151 0 (a 9 6 + 1)) := (Fr.rf _ _).mu ⟨rfl, rfl⟩
    have p0' : PR0 t L 900 (mu ma 9 6 (a 9 6 + 1)) (mu mb 151 0 (a 9 6 + 1)) := PR0_fr q0 fa fb (fun k q => by omega) (fun k q => by omega) (fun k _ _ q => by omega) (fun k q => by omega)
    have q1' : TKR X (mu ma 9 6 (a 9 6 + 1)) (mu mb 151 0 (a 9 6 + 1)) := TKR_fr q1 fa fb (fun k q => by omega) (fun k _ _ q => by omega)
    have ea : ∀ x k, ¬ (x = 9 ∧ k = 6) → (mu ma 9 6 (a 9 6 + 1)) x k = ma x k := fun x k hx => fa x k hx
    have eb : ∀ x k, ¬ (x = 151 ∧ k = 0) → (mu mb 151 0 (a 9 6 + 1)) x k = mb x k := fun x k hx => fb x k hx
    have hR'' : RR (mu ma 9 6 (a 9 6 + 1)) (mu mb 151 0 (a 9 6 + 1)) := by
      refine RR_of hRm ⟨?_, ?_, ?_, ?_, ?_, ?_⟩ ⟨?_, ?_⟩ ⟨?_, ?_, ?_, ?_, ?_, ?_⟩ ⟨fun k z1 z2 => ?_, fun k z1 z2 => ?_⟩ (Or.inl fun k _ _ => ⟨ea _ _ (by omega), eb _ _ (by omega)⟩) (Or.inl fun k _ _ => ⟨ea _ _ (by omega), eb _ _ (by omega)⟩) (Or.inl ⟨ea _ _ (by omega), fun k _ _ => ⟨ea _ _ (by omega), ea _ _ (by omega), eb _ _ (by omega), eb _ _ (by omega)⟩⟩) ⟨?_, ?_, ?_, ?_⟩
      · rw [ea _ _ (by omega)]; exact l1
      · rw [ea _ _ (by omega)]; exact l2
      · rw [ea _ _ (by omega)]; exact l3
      · rw [ea _ _ (by omega)]; exact l4
      · rw [ea _ _ (by omega)]; exact l5
      · rw [ea _ _ (by omega)]; exact l6
      · rw [eb _ _ (by omega)]; exact l7
      · rw [eb _ _ (by omega)]; exact l8
      · rw [mu_s, mu_s]
      · rw [mu_s]; omega
      · rw [mu_s]; omega
      · rw [ea _ _ (by omega), eb _ _ (by omega)]; exact k4
      · rw [ea _ _ (by omega)]; exact k5
      · rw [ea _ _ (by omega)]; exact k6
      · rw [mu_s] at z2
        rw [ea _ _ (by omega), eb _ _ (by omega)]
        by_cases e : k = a 9 6
        · rw [e]; exact hNn
        · exact n1 k z1 (by omega)
      · rw [ea _ _ (by omega)] at z2
        rw [ea _ _ (by omega), eb _ _ (by omega)]
        exact n2 k z1 z2
      · rw [ea _ _ (by omega), eb _ _ (by omega)]; exact u1
      · rw [ea _ _ (by omega), eb _ _ (by omega)]; exact u2
      · rw [ea _ _ (by omega), eb _ _ (by omega)]; exact u3
      · rw [ea _ _ (by omega)]; exact u4
    exact Or.inr ⟨e2, FB.tr (fb.mo (fun x k q => Or.inr (Or.inr (Or.inl ⟨q.1, by omega⟩)))), _, FA.tr (fa.mo (fun x k q => Or.inr (Or.inl ⟨q.1, by omega⟩))), (by unfold Prog at *; rw [ea _ _ (by omega), ea _ _ (by omega)]; exact hP), ⟨⟨p0', q1'⟩, hR'', by rw [ea _ _ (by omega)]; exact g9, by rw [eb _ _ (by omega)]; exact g10⟩, rm⟩
  have w1 : f155 X m17 1 1000014 = f217 m7 148 1 := word_ok hS s2.1.2 (s := 13) (by decide)
  rw [← w1] at B
  rcases A with ⟨c3', v28, m26, r26, _, A⟩ | ⟨c3', m30, r30, v35, m33, r33, _, A⟩
  · rcases B with ⟨d3', B⟩ | ⟨d3', _⟩
    · cases A; cases B
      exact hfin m17 m7 s2 hP2 FA FB w96 hNn r26 rfl rfl
    · exact absurd c3' d3'
  · rcases B with ⟨d3', _⟩ | ⟨d3', m18, r18, B⟩
    · exact absurd d3' c3'
    · cases A; cases B
      have hR2 := s2.2.1
      have hR2' := hR2
      obtain ⟨⟨l1, l2, l3, l4, l5, l6⟩, ⟨l7, l8⟩, ⟨k1, k2, k3, k4, k5, k6⟩, ⟨n1, n2⟩, hg, hs, hf, ⟨u1, u2, u3, u4⟩⟩ := hR2'
      rw [l7, ← k1, ← u3, s32_jor] at r18
      have fa2 : Fr (fun x k => x = 22 ∧ k = 7) m17 (mu m17 22 7 (jor (m17 22 7) (jshl 1 (m17 9 6)))) := (Fr.rf _ _).mu ⟨rfl, rfl⟩
      have fb2 : Fr (fun x k => x = 151 ∧ k = 3) m7 (mu m7 151 3 (jor (m17 22 7) (jshl 1 (m17 9 6)))) := (Fr.rf _ _).mu ⟨rfl, rfl⟩
      have p0'' : PR0 t L 900 (mu m17 22 7 (jor (m17 22 7) (jshl 1 (m17 9 6)))) (mu m7 151 3 (jor (m17 22 7) (jshl 1 (m17 9 6)))) := PR0_fr s2.1.1 fa2 fb2 (fun k q => by omega) (fun k q => by omega) (fun k _ _ q => by omega) (fun k q => by omega)
      have ea : ∀ x k, ¬ (x = 22 ∧ k = 7) → (mu m17 22 7 (jor (m17 22 7) (jshl 1 (m17 9 6)))) x k = m17 x k := fun x k hx => fa2 x k hx
      have eb : ∀ x k, ¬ (x = 151 ∧ k = 3) → (mu m7 151 3 (jor (m17 22 7) (jshl 1 (m17 9 6)))) x k = m7 x k := fun x k hx => fb2 x k hx
      have hR'' : RR (mu m17 22 7 (jor (m17 22 7) (jshl 1 (m17 9 6)))) (mu m7 151 3 (jor (m17 22 7) (jshl 1 (m17 9 6)))) := by
        refine RR_of hR2 ⟨?_, ?_, ?_, ?_, ?_, ?_⟩ ⟨?_, ?_⟩ ⟨?_, ?_, ?_, ?_, ?_, ?_⟩ ⟨fun k z1 z2 => ?_, fun k z1 z2 => ?_⟩ (Or.inl fun k _ _ => ⟨ea _ _ (by omega), eb _ _ (by omega)⟩) (Or.inl fun k _ _ => ⟨ea _ _ (by omega), eb _ _ (by omega)⟩) (Or.inl ⟨ea _ _ (by omega), fun k _ _ => ⟨ea _ _ (by omega), ea _ _ (by omega), eb _ _ (by omega), eb _ _ (by omega)⟩⟩) ⟨?_, ?_, ?_, ?_⟩
        · rw [ea _ _ (by omega)]; exact l1
        · rw [ea _ _ (by omega)]; exact l2
        · rw [ea _ _ (by omega)]; exact l3
        · rw [ea _ _ (by omega)]; exact l4
        · rw [ea _ _ (by omega)]; exact l5
        · rw [ea _ _ (by omega)]; exact l6
        · rw [eb _ _ (by omega)]; exact l7
        · rw [eb _ _ (by omega)]; exact l8
        · rw [ea _ _ (by omega), eb _ _ (by omega)]; exact k1
        · rw [ea _ _ (by omega)]; exact k2
        · rw [ea _ _ (by omega)]; exact k3
        · rw [ea _ _ (by omega), eb _ _ (by omega)]; exact k4
        · rw [ea _ _ (by omega)]; exact k5
        · rw [ea _ _ (by omega)]; exact k6
        · rw [ea _ _ (by omega)] at z2
          rw [ea _ _ (by omega), eb _ _ (by omega)]
          exact n1 k z1 z2
        · rw [ea _ _ (by omega)] at z2
          rw [ea _ _ (by omega), eb _ _ (by omega)]
          exact n2 k z1 z2
        · rw [ea _ _ (by omega), eb _ _ (by omega)]; exact u1
        · rw [ea _ _ (by omega), eb _ _ (by omega)]; exact u2
        · rw [mu_s, mu_s]
        · rw [ea _ _ (by omega)]; exact u4
      obtain ⟨s3, f5, f6⟩ := nextST hX p0'' hR'' (by rw [ea _ _ (by omega)]; exact s2.2.2.1) (by rw [eb _ _ (by omega)]; exact s2.2.2.2) r30 r18
      have FA2 : Fr VA a m30 := (FA.tr (fa2.mo (fun x k q => Or.inr (Or.inr (Or.inr (Or.inl q)))))).tr f5.va
      have FB2 : Fr VB b m18 := (FB.tr (fb2.mo (fun x k q => Or.inr (Or.inr (Or.inl ⟨q.1, by omega⟩))))).tr f6.vb
      refine hfin m30 m18 s3 ?_ FA2 FB2 ?_ ?_ r33 rfl rfl
      · have z2 := mon_ok hX p0'' r30
        unfold Prog at *
        rw [ea _ _ (by omega)] at z2
        exact ⟨by omega, fun y1 y2 => by have := z2.2 y1 y2; omega⟩
      · rw [f5 9 6 (fun q => by have := q.1; omega), ea _ _ (by omega)]; exact w96
      · rw [f5 10 _ (fun q => by have := q.1; omega), f6 156 _ (fun q => by have := q.1; omega), ea _ _ (by omega), eb _ _ (by omega)]
        exact hNn
end
section
/-! A grudge's line, a shy one's. -/
set_option maxRecDepth 16384 in
theorem RR_told {a b : MM} (h : RR a b) (v : Int) : RR a (mu b 148 13 v) := RR_fr h (Fr.rf _ _) ((Fr.rf _ _).mu ⟨rfl, by decide, by decide⟩)
set_option maxRecDepth 16384 in
theorem ST_told {X : KO} {t : Int → Int} {L most : Int} {a b : MM} (h : ST X t L most a b) (v : Int) : ST X t L most a (mu b 148 13 v) := by
  obtain ⟨⟨p0, p1⟩, hR, h9, h10⟩ := h
  have fb : Fr (fun x k => x = 148 ∧ k = 13) b (mu b 148 13 v) := (Fr.rf _ _).mu ⟨rfl, rfl⟩
  exact ⟨⟨PR0_fr p0 (Fr.rf (fun _ _ => False) _) fb (fun _ q => q) (fun _ q => q) (fun k _ _ q => by omega) (fun k q => by omega), TKR_fr p1 (Fr.rf (fun _ _ => False) _) fb (fun _ q => q) (fun k _ _ q => by omega)⟩, RR_told hR v, h9, by rw [mu_k (by decide)]; exact h10⟩
set_option maxRecDepth 16384 in
theorem pair_ok {X : KO} {ρ : Nat → Int32} {t : Int → Int} {L : Int} {a m2 m5 b b1 : MM} {rl' : List (Nat × Int)} {v : Int} (hX : XW X) (h : ST X t L 900 a b) (r2 : Run X ρ 148 [(1, 1)] a [] m2) (r5 : Run X ρ 76 [(1, 9), (1, 1)] m2 [(1, v)] m5) (hb : Run X ρ 257 [(1, 148)] b rl' b1) : (v = -1 ∧ rl' = [(1, -1)] ∧ FL m5 b1 ∧ Fr PT a m5 ∧ Fr PM b b1) ∨ (0 ≤ v ∧ v < a 9 6 ∧ ∀ m10 w m13, Run X ρ 148 [(1, 1)] m5 [] m10 → Run X ρ 76 [(1, 9), (1, 1)] m10 [(1, w)] m13 → (w = -1 ∧ rl' = [(1, -1)] ∧ FL m13 b1 ∧ Fr PT a m13 ∧ Fr PM b b1) ∨ (0 ≤ w ∧ w < a 9 6 ∧ ((v = w ∧ rl' = [(1, -1)] ∧ FL (g158 m13 1 3) b1 ∧ Fr PT a (g158 m13 1 3) ∧ Fr PM b b1) ∨ (v ≠ w ∧ rl' = [(1, v)] ∧ b1 148 13 = w ∧ ST X t L 900 m13 b1 ∧ m13 1 4 ≠ 4 ∧ a 1 3 ≤ m13 1 3 ∧ Fr PT a m13 ∧ Fr PM b b1)))) := by
  obtain ⟨M, ig', hb⟩ := Run_CR hb rfl
  have hb : MR X ρ 2 0 0 qP257 M 0 [148, 0] [] b (ig', rl', b1) := hb
  obtain ⟨⟨p0, p1⟩, hR, h9, h10⟩ := h
  obtain ⟨m2', r2', v7, m5', r5', _, B⟩ := i257_0 hb
  obtain ⟨s1, f1, f2⟩ := nextST hX p0 hR h9 h10 r2 r2'
  have n96 : m2 9 6 = a 9 6 := f1 9 6 (fun q => by have := q.1; omega)
  obtain ⟨g1, g2, hp⟩ := person_pair s1 r5 r5'
  rcases hp with ⟨e1, e2, e3⟩ | ⟨w0, e1, e2, e3, e4, e5, e6⟩
  · cases e1; cases e2
    rcases B with ⟨_, B⟩ | ⟨d, _⟩
    · cases B
      exact Or.inl ⟨rfl, rfl, e3, f1.tr g1, f2.tr g2⟩
    · exact absurd rfl d
  · cases e1; cases e2
    rw [n96] at e4
    rcases B with ⟨d, _⟩ | ⟨_, m10', r10', v15, m13', r13', _, B⟩
    · exact absurd d (by decide)
    have e5 := e5.symm; subst e5
    have e6 := e6.symm; subst e6
    refine Or.inr ⟨e3, e4, fun m10 w m13 r10 r13 => ?_⟩
    have s1' := ST_told s1 v
    obtain ⟨s2, f3, f4⟩ := nextST hX s1'.1.1 s1'.2.1 s1'.2.2.1 s1'.2.2.2 r10 r10'
    have n96' : m10 9 6 = a 9 6 := by rw [f3 9 6 (fun q => by have := q.1; omega)]; exact n96
    have F1 : Fr PT a m10 := (f1.tr g1).tr f3
    have F2 : Fr PM b m10' := (f2.tr g2).tr f4
    obtain ⟨g3, g4, hp⟩ := person_pair s2 r13 r13'
    rcases hp with ⟨e1, e2, e3'⟩ | ⟨w1, e1, e2, e3', e4', e5, e6⟩
    · cases e1; cases e2
      rcases B with ⟨_, B⟩ | ⟨d, _⟩
      · cases B
        exact Or.inl ⟨rfl, rfl, e3', F1.tr g3, F2.tr g4⟩
      · exact absurd rfl d
    · cases e1; cases e2
      rw [n96'] at e4'
      rcases B with ⟨d, _⟩ | ⟨_, B⟩
      · exact absurd d (by decide)
      have e5 := e5.symm; subst e5
      have e6 := e6.symm; subst e6
      rw [mu_s, mu_s] at B
      refine Or.inr ⟨e3', e4', ?_⟩
      have s3 := ST_told s2 w
      have hk4 : m10 1 4 ≠ 4 := by
        obtain ⟨N, ig, h76⟩ := Run_CR r13 rfl
        have h76 : MR X ρ 3 0 0 qP76 N 0 [9, 1, 0] [] m10 (ig, [(1, w)], m10) := h76
        rcases i76_0 h76 with ⟨c, e⟩ | ⟨c, -⟩
        · exfalso
          have e := congrArg (fun z => z.2.1) e
          simp at e
          omega
        · intro q
          unfold f153 at c
          rw [q, if_neg (by decide)] at c
          exact c rfl
      rcases B with ⟨d, B⟩ | ⟨d, B⟩
      · cases B
        exact Or.inl ⟨d.symm, rfl, bad_ok s3.1.2 (by decide) (Or.inr hk4), F1.tr (Fr_158 _ _), (F2.tr g4).tr (Fr_168 _ _)⟩
      · cases B
        exact Or.inr ⟨fun q => d q.symm, rfl, mu_s _ _ _ _, s3, hk4, (by
          have z1 := mon_ok hX p0 r2
          have z2 := mon_ok hX s1'.1.1 r10
          unfold Prog at *
          omega), F1, F2.tr g4⟩
set_option maxRecDepth 16384 in
theorem shy_line {X : KO} {ρ : Nat → Int32} {t : Int → Int} {L : Int} {a a' b b1 : MM} {rl rl' : List (Nat × Int)} (hX : XW X) (h : ST X t L 900 a b) (ha : Run X ρ 82 [(1, 9), (1, 1)] a rl a') (hb : Run X ρ 262 [(1, 148)] b rl' b1) : LE X ρ t L a a' b b1 rl rl' := by
  obtain ⟨N, ig, ha⟩ := Run_CR ha rfl
  obtain ⟨M, ig', hb⟩ := Run_CR hb rfl
  have ha : MR X ρ 4 0 0 qP82 N 0 [9, 1, 0, 0] [] a (ig, rl, a') := ha
  have hb : MR X ρ 2 0 0 qP262 M 0 [148, 0] [] b (ig', rl', b1) := hb
  obtain ⟨m2, r2, v, m5, r5, A⟩ := i82_0 ha
  obtain ⟨v4, mb, rb, B⟩ := i262_0 hb
  have hC := h.2.1.2.2.1
  rcases pair_ok hX h r2 r5 rb with ⟨e1, e2, e3, g1, g2⟩ | ⟨e1, e2, hp⟩
  · cases e2
    rcases B with ⟨_, B⟩ | ⟨d, _⟩
    · rcases A with ⟨_, A⟩ | ⟨c, _⟩
      · cases A; cases B
        exact Or.inl ⟨rfl, rfl, e3, g1.va, g2.vb⟩
      · exfalso
        apply c
        unfold f73
        rw [if_pos (by omega)]
    · exact absurd rfl d
  · obtain ⟨c1, c2, c3, c4, c5, c6⟩ := hC
    have e96 : m5 9 6 = a 9 6 := by
      -- nothing but the tape has changed
      obtain ⟨N2, ig2, h76⟩ := Run_CR r5 rfl
      have f148 : Fr P148 a m2 := (A148 hX h.1.1.1 rfl h.1.1.2.2.1 h.1.1.2.2.2.2.2.1 h.1.1.2.2.2.2.2.2 r2).2.1
      have h76 : MR X ρ 3 0 0 qP76 N2 0 [9, 1, 0] [] m2 (ig2, [(1, v)], m5) := h76
      have k96 : m2 9 6 = a 9 6 := f148 9 6 (fun q => by have := q.1; omega)
      rcases i76_0 h76 with ⟨c, e⟩ | ⟨c, w, m20, r20, e⟩
      · have e := congrArg (fun z => z.2.2) e
        dsimp only at e
        rw [e, Fr_158 m2 1 9 6 (fun q => by have := q.1; omega)]
        exact k96
      · have e20 : m20 = m2 := (A75 (by omega) (by omega) r20).1
        rw [e20] at e
        rcases e with ⟨_, e⟩ | ⟨_, e⟩
        · rcases e with ⟨_, e⟩ | ⟨_, e⟩
          · have e := congrArg (fun z => z.2.2) e
            dsimp only at e
            rw [e, Fr_158 m2 1 9 6 (fun q => by have := q.1; omega)]
            exact k96
          · have e := congrArg (fun z => z.2.2) e
            dsimp only at e
            rw [e, Fr_158 m2 3 9 6 (fun q => by have := q.1; omega)]
            exact k96
        · have e := congrArg (fun z => z.2.2) e
          dsimp only at e
          rw [e]
          exact k96
    rcases A with ⟨c, _⟩ | ⟨_, m15, r15, w, m18, r18, A⟩
    · exfalso
      unfold f73 at c
      rw [if_neg (by omega), if_neg (by omega), if_neg (by omega)] at c
      exact absurd c (by decide)
    rcases hp m15 w m18 r15 r18 with ⟨q1, q2, q3, g1, g2⟩ | ⟨q1, q2, q3⟩
    · cases q2
      rcases B with ⟨_, B⟩ | ⟨d, _⟩
      · rcases A with ⟨_, A⟩ | ⟨c, _⟩
        · cases A; cases B
          exact Or.inl ⟨rfl, rfl, q3, g1.va, g2.vb⟩
        · exact absurd q1 c
      · exact absurd rfl d
    · rcases A with ⟨c, _⟩ | ⟨_, A⟩
      · omega
      rcases q3 with ⟨z1, z2, z3, g1, g2⟩ | ⟨z1, z2, z3, s, k4, hm, g1, g2⟩
      · cases z2
        rcases B with ⟨_, B⟩ | ⟨d, _⟩
        · rcases A with ⟨_, A⟩ | ⟨c, _⟩
          · cases A; cases B
            exact Or.inl ⟨rfl, rfl, z3, g1.va, g2.vb⟩
          · exact absurd z1 c
        · exact absurd rfl d
      · cases z2
        rcases B with ⟨d, _⟩ | ⟨_, B⟩
        · omega
        rcases A with ⟨c, _⟩ | ⟨_, A⟩
        · exact absurd c z1
        have hRm := s.2.1
        have hRm' := hRm
        obtain ⟨⟨l1, l2, l3, l4, l5, l6⟩, ⟨l7, l8⟩, ⟨k1, k2, k3, k4', k5, k6⟩, ⟨n1, n2⟩, hg, hs, hf, ⟨u1, u2, u3, u4⟩⟩ := hRm'
        have hsv := hs v e1 (by omega)
        rw [l7, z3, s32_id (z := 4 + v) (by omega) (by omega), ← hsv] at B
        rw [l5] at A
        have hh := has_ok mb (m18 14 v) w q1 (by omega)
        rcases A with ⟨c, m30, r30, v35, m33, r33, _, A⟩ | ⟨c, A⟩
        · rcases B with ⟨d, m13, r13, B⟩ | ⟨d, _⟩
          · cases A; cases B
            rw [s32_jor] at r30 r13
            have fa : Fr (fun x k => x = 14 ∧ k = v) m18 (mu m18 14 v (jor (m18 14 v) (jshl 1 w))) := (Fr.rf _ _).mu ⟨rfl, rfl⟩
            have fb : Fr (fun x k => x = 151 ∧ k = 4 + v) mb (mu mb 151 (4 + v) (jor (m18 14 v) (jshl 1 w))) := (Fr.rf _ _).mu ⟨rfl, rfl⟩
            have ea : ∀ x k, ¬ (x = 14 ∧ k = v) → (mu m18 14 v (jor (m18 14 v) (jshl 1 w))) x k = m18 x k := fun x k hx => fa x k hx
            have eb : ∀ x k, ¬ (x = 151 ∧ k = 4 + v) → (mu mb 151 (4 + v) (jor (m18 14 v) (jshl 1 w))) x k = mb x k := fun x k hx => fb x k hx
            have p0' : PR0 t L 900 (mu m18 14 v (jor (m18 14 v) (jshl 1 w))) (mu mb 151 (4 + v) (jor (m18 14 v) (jshl 1 w))) := PR0_fr s.1.1 fa fb (fun k q => by omega) (fun k q => by omega) (fun k _ _ q => by omega) (fun k q => by omega)
            have hR' : RR (mu m18 14 v (jor (m18 14 v) (jshl 1 w))) (mu mb 151 (4 + v) (jor (m18 14 v) (jshl 1 w))) := by
              refine RR_of hRm ⟨?_, ?_, ?_, ?_, ?_, ?_⟩ ⟨?_, ?_⟩ ⟨?_, ?_, ?_, ?_, ?_, ?_⟩ ⟨fun k z1 z2 => ?_, fun k z1 z2 => ?_⟩ (Or.inl fun k _ _ => ⟨ea _ _ (by omega), eb _ _ (by omega)⟩) (Or.inr fun k y1 y2 => ?_) (Or.inl ⟨ea _ _ (by omega), fun k _ _ => ⟨ea _ _ (by omega), ea _ _ (by omega), eb _ _ (by omega), eb _ _ (by omega)⟩⟩) ⟨?_, ?_, ?_, ?_⟩
              · rw [ea _ _ (by omega)]; exact l1
              · rw [ea _ _ (by omega)]; exact l2
              · rw [ea _ _ (by omega)]; exact l3
              · rw [ea _ _ (by omega)]; exact l4
              · rw [ea _ _ (by omega)]; exact l5
              · rw [ea _ _ (by omega)]; exact l6
              · rw [eb _ _ (by omega)]; exact l7
              · rw [eb _ _ (by omega)]; exact l8
              · rw [ea _ _ (by omega), eb _ _ (by omega)]; exact k1
              · rw [ea _ _ (by omega)]; exact k2
              · rw [ea _ _ (by omega)]; exact k3
              · rw [ea _ _ (by omega), eb _ _ (by omega)]; exact k4'
              · rw [ea _ _ (by omega)]; exact k5
              · rw [ea _ _ (by omega)]; exact k6
              · rw [ea _ _ (by omega)] at z2
                rw [ea _ _ (by omega), eb _ _ (by omega)]
                exact n1 k z1 z2
              · rw [ea _ _ (by omega)] at z2
                rw [ea _ _ (by omega), eb _ _ (by omega)]
                exact n2 k z1 z2
              · by_cases e : k = v
                · rw [e, mu_s, mu_s]
                · rw [ea _ _ (by omega), eb _ _ (by omega)]
                  exact hs k y1 y2
              · rw [ea _ _ (by omega), eb _ _ (by omega)]; exact u1
              · rw [ea _ _ (by omega), eb _ _ (by omega)]; exact u2
              · rw [ea _ _ (by omega), eb _ _ (by omega)]; exact u3
              · rw [ea _ _ (by omega)]; exact u4
            obtain ⟨s2, f5, f6⟩ := nextST hX p0' hR' (by rw [ea _ _ (by omega)]; exact s.2.2.1) (by rw [eb _ _ (by omega)]; exact s.2.2.2) r30 r13
            exact Or.inr ⟨rfl, (g2.vb.tr (fb.mo (fun x k q => Or.inr (Or.inr (Or.inl ⟨q.1, by omega⟩))))).tr f6.vb, m30, (g1.va.tr (fa.mo (fun x k q => Or.inr (Or.inr (Or.inl ⟨by omega, by omega, by omega⟩))))).tr f5.va, (by
              have z2 := mon_ok hX p0' r30
              unfold Prog at *
              rw [ea _ _ (by omega)] at z2
              exact ⟨by omega, fun y1 y2 => by have := z2.2 y1 y2; omega⟩), s2, r33⟩
          · exact absurd (hh.mpr c) d
        · rcases B with ⟨d, _⟩ | ⟨d, B⟩
          · exact absurd (hh.mp d) c
          · rw [f168_0] at B
            cases A; cases B
            exact Or.inl ⟨rfl, rfl, bad_ok s.1.2 (by decide) (Or.inr k4), (g1.tr (Fr_158 _ _)).va, (g2.tr (Fr_168 _ _)).vb⟩
set_option maxRecDepth 16384 in
theorem grudge_line {X : KO} {ρ : Nat → Int32} {t : Int → Int} {L : Int} {a a' b b1 : MM} {rl rl' : List (Nat × Int)} (hX : XW X) (h : ST X t L 900 a b) (ha : Run X ρ 78 [(1, 9), (1, 1), (1, 22)] a rl a') (hb : Run X ρ 249 [(1, 148)] b rl' b1) : LE X ρ t L a a' b b1 rl rl' := by
  obtain ⟨N, ig, ha⟩ := Run_CR ha rfl
  obtain ⟨M, ig', hb⟩ := Run_CR hb rfl
  have ha : MR X ρ 6 0 0 qP78 N 0 [9, 1, 22, 0, 0, 0] [] a (ig, rl, a') := ha
  have hb : MR X ρ 3 0 0 qP249 M 0 [148, 0, 0] [] b (ig', rl', b1) := hb
  obtain ⟨m2, r2, v, m5, r5, A⟩ := i78_0 ha
  obtain ⟨v4, mb, rb, B⟩ := i249_0 hb
  obtain ⟨c1, c2, c3, c4, c5, c6⟩ := h.2.1.2.2.1
  rcases pair_ok hX h r2 r5 rb with ⟨e1, e2, e3, g1, g2⟩ | ⟨e1, e2, hp⟩
  · cases e2
    rcases B with ⟨_, B⟩ | ⟨d, _⟩
    · rcases A with ⟨_, A⟩ | ⟨c, _⟩
      · cases A; cases B
        exact Or.inl ⟨rfl, rfl, e3, g1.va, g2.vb⟩
      · exact absurd e1 c
    · exact absurd rfl d
  · rcases A with ⟨c, _⟩ | ⟨_, m10, r10, w, m13, r13, A⟩
    · omega
    rcases hp m10 w m13 r10 r13 with ⟨q1, q2, q3, g1, g2⟩ | ⟨q1, q2, q3⟩
    · cases q2
      rcases B with ⟨_, B⟩ | ⟨d, _⟩
      · rcases A with ⟨_, A⟩ | ⟨c, _⟩
        · cases A; cases B
          exact Or.inl ⟨rfl, rfl, q3, g1.va, g2.vb⟩
        · exact absurd q1 c
      · exact absurd rfl d
    · rcases A with ⟨c, _⟩ | ⟨_, A⟩
      · omega
      rcases q3 with ⟨z1, z2, z3, g1, g2⟩ | ⟨z1, z2, z3, s, k4, hm, g1, g2⟩
      · cases z2
        rcases B with ⟨_, B⟩ | ⟨d, _⟩
        · rcases A with ⟨_, A⟩ | ⟨c, _⟩
          · cases A; cases B
            exact Or.inl ⟨rfl, rfl, z3, g1.va, g2.vb⟩
          · exact absurd z1 c
        · exact absurd rfl d
      · cases z2
        rcases B with ⟨d, _⟩ | ⟨_, B⟩
        · omega
        rcases A with ⟨c, _⟩ | ⟨_, A⟩
        · exact absurd c z1
        have hRm := s.2.1
        have hRm' := hRm
        obtain ⟨⟨l1, l2, l3, l4, l5, l6⟩, ⟨l7, l8⟩, ⟨k1, k2, k3, k4', k5, k6⟩, ⟨n1, n2⟩, hg, hs, hf, ⟨u1, u2, u3, u4⟩⟩ := hRm'
        have hgv := hg (8 * v + w) (by omega) (by omega)
        have ei : s32 ((s32 (12 + (s32 (8 * v)))) + w) = 12 + (8 * v + w) := by
          rw [s32_id (z := 8 * v) (by omega) (by omega), s32_id (z := 12 + 8 * v) (by omega) (by omega), s32_id (by omega) (by omega)]
          omega
        have ej : s32 ((s32 (v * 8)) + w) = 8 * v + w := by
          rw [s32_id (z := v * 8) (by omega) (by omega), s32_id (by omega) (by omega)]
          omega
        rw [l7, z3, ei, ← hgv.1] at B
        have e124 : f124 m13 22 v w = m13 23 (8 * v + w) := by
          unfold f124
          rw [if_neg (by omega), if_neg (by omega), if_neg (by omega), if_neg (by omega), l6, ej]
        rw [e124] at A
        rcases A with ⟨c, m30, r30, A⟩ | ⟨c, A⟩
        · rcases B with ⟨d, m8, r8, v13, m11, r11, _, B⟩ | ⟨d, _⟩
          · obtain ⟨s2, f3, f4⟩ := nextST hX s.1.1 hRm s.2.2.1 s.2.2.2 r30 r8
            rcases num_pair (by decide) s2 r11 with ⟨x1, x2, x3, x4, x5⟩ | ⟨n, x1, x2, x3, x3', x4, x5, x6⟩
            · cases x2
              rcases A with ⟨_, A⟩ | ⟨c', _⟩
              · cases A; cases B
                exact Or.inl ⟨rfl, rfl, x3, ((g1.tr f3).tr x4).va, ((g2.tr f4).tr x5).vb⟩
              · exact absurd x1 c'
            · cases x5
              rcases A with ⟨c', _⟩ | ⟨_, m44, r44, v49, m47, r47, _, A⟩
              · omega
              cases A; cases B
              rw [x1, x4] at r44
              have k23 : m30 22 1 = 23 := by rw [f3 22 1 (fun q => by have := q.1; omega)]; exact l6
              have kold : m30 23 (8 * v + w) = 0 := by rw [f3 23 _ (fun q => by have := q.1; omega)]; exact c
              have e108 : g108 m30 22 v w n = mu m30 23 (8 * v + w) n := by
                unfold g108
                rw [if_neg (by omega), if_neg (by omega), if_neg (by omega), if_neg (by omega), k23, ej, kold, Int.zero_add, s32_id (z := n) (by omega) (by omega), s32_id (z := n) (by omega) (by omega)]
              rw [e108] at r44
              have fa : Fr (fun x k => x = 23 ∧ k = 8 * v + w) m30 (mu m30 23 (8 * v + w) n) := (Fr.rf _ _).mu ⟨rfl, rfl⟩
              have s2' := ST_told s2 n
              have p0' : PR0 t L 900 (mu m30 23 (8 * v + w) n) (mu m8 148 13 n) := PR0_fr s2'.1.1 fa (Fr.rf (fun _ _ => False) _) (fun k q => by omega) (fun k q => by omega) (fun k _ _ q => q) (fun k q => q)
              obtain ⟨⟨y0, y1⟩, f5, f6, -, -⟩ := next_ok hX p0' r44 x6
              have ex : g239 m11 148 (12 + (8 * v + w)) 1 = mu m11 151 (12 + (8 * v + w)) n := by
                unfold g239
                rw [if_neg (by decide), f6.PM 148 15 (fun q => by have := q.2.2; omega), mu_k (by decide), f4 148 15 (fun q => by have := q.2.2; omega), l7, f6 148 13 (by unfold P195; omega), mu_s, s32_id (by omega) (by omega)]
              rw [ex]
              have fb : Fr (fun x k => x = 151 ∧ k = 12 + (8 * v + w)) m11 (mu m11 151 (12 + (8 * v + w)) n) := (Fr.rf _ _).mu ⟨rfl, rfl⟩
              have ea : ∀ x k, x ≠ 1 → ¬ (x = 23 ∧ k = 8 * v + w) → m44 x k = m30 x k := fun x k hx hy => by rw [f5.PT x k (fun q => hx q.1), fa x k hy]
              have eb : ∀ x k, x ≠ 148 → ¬ (x = 151 ∧ k = 12 + (8 * v + w)) → (mu m11 151 (12 + (8 * v + w)) n) x k = m8 x k := fun x k hx hy => by rw [fb x k hy, f6.PM x k (fun q => hx q.1), mu_a hx]
              have eb2 : ∀ k, 13 < k → (mu m11 151 (12 + (8 * v + w)) n) 148 k = m8 148 k := fun k hk => by rw [mu_a (by decide), f6.PM 148 k (fun q => by have := q.2.2; omega), mu_k (by omega)]
              have hR2 := s2.2.1
              have hR2' := hR2
              obtain ⟨⟨l1, l2, l3, l4, l5, l6⟩, ⟨l7, l8⟩, ⟨k1, k2, k3, k4', k5, k6⟩, ⟨n1, n2⟩, hg, hs, hf, ⟨u1, u2, u3, u4⟩⟩ := hR2'
              have hR' : RR m44 (mu m11 151 (12 + (8 * v + w)) n) := by
                refine RR_of hR2 ⟨?_, ?_, ?_, ?_, ?_, ?_⟩ ⟨?_, ?_⟩ ⟨?_, ?_, ?_, ?_, ?_, ?_⟩ ⟨fun k z1 z2 => ?_, fun k z1 z2 => ?_⟩ (Or.inr fun k y1 y2 => ?_) (Or.inl fun k _ _ => ⟨ea _ _ (by decide) (by omega), eb _ _ (by decide) (by omega)⟩) (Or.inl ⟨ea _ _ (by decide) (by omega), fun k _ _ => ⟨ea _ _ (by decide) (by omega), ea _ _ (by decide) (by omega), eb _ _ (by decide) (by omega), eb _ _ (by decide) (by omega)⟩⟩) ⟨?_, ?_, ?_, ?_⟩
                · rw [ea _ _ (by decide) (by omega)]; exact l1
                · rw [ea _ _ (by decide) (by omega)]; exact l2
                · rw [ea _ _ (by decide) (by omega)]; exact l3
                · rw [ea _ _ (by decide) (by omega)]; exact l4
                · rw [ea _ _ (by decide) (by omega)]; exact l5
                · rw [ea _ _ (by decide) (by omega)]; exact l6
                · rw [eb2 _ (by decide)]; exact l7
                · rw [eb2 _ (by decide)]; exact l8
                · rw [ea _ _ (by decide) (by omega), eb _ _ (by decide) (by omega)]; exact k1
                · rw [ea _ _ (by decide) (by omega)]; exact k2
                · rw [ea _ _ (by decide) (by omega)]; exact k3
                · rw [ea _ _ (by decide) (by omega), eb _ _ (by decide) (by omega)]; exact k4'
                · rw [ea _ _ (by decide) (by omega)]; exact k5
                · rw [ea _ _ (by decide) (by omega)]; exact k6
                · rw [ea _ _ (by decide) (by omega)] at z2
                  rw [ea _ _ (by decide) (by omega), eb _ _ (by decide) (by omega)]
                  exact n1 k z1 z2
                · rw [ea _ _ (by decide) (by omega)] at z2
                  rw [ea _ _ (by decide) (by omega), eb _ _ (by decide) (by omega)]
                  exact n2 k z1 z2
                · by_cases e : k = 8 * v + w
                  · rw [e, f5.PT 23 _ (fun q => by have := q.1; omega), mu_s, mu_s]
                    exact ⟨rfl, by omega, by omega, fun q => by omega⟩
                  · rw [ea _ _ (by decide) (by omega), eb _ _ (by decide) (by omega)]
                    exact hg k y1 y2
                · rw [ea _ _ (by decide) (by omega), eb2 _ (by decide)]; exact u1
                · rw [ea _ _ (by decide) (by omega), eb _ _ (by decide) (by omega)]; exact u2
                · rw [ea _ _ (by decide) (by omega), eb _ _ (by decide) (by omega)]; exact u3
                · rw [ea _ _ (by decide) (by omega)]; exact u4
              have y0' : PR0 t L 900 m44 (mu m11 151 (12 + (8 * v + w)) n) := PR0_fr y0 (Fr.rf (fun _ _ => False) _) fb (fun _ q => q) (fun _ q => q) (fun k _ _ q => by omega) (fun k q => by omega)
              have y1' : TKR X m44 (mu m11 151 (12 + (8 * v + w)) n) := TKR_fr y1 (Fr.rf (fun _ _ => False) _) fb (fun _ q => q) (fun k _ _ q => by omega)
              refine Or.inr ⟨?_, ((g2.tr f4).vb.tr (((Fr.rf VB m8).mu (v := n) (Or.inl ⟨rfl, by decide, by decide⟩)).tr (f6.PM).vb)).tr (fb.mo (fun x k q => Or.inr (Or.inr (Or.inl ⟨q.1, by omega⟩)))), m44, ((g1.tr f3).va.tr (fa.mo (fun x k q => Or.inr (Or.inr (Or.inr (Or.inr ⟨q.1, by omega⟩)))))).tr f5.PT.va, (by
                have z1 := mon_ok hX s.1.1 r30
                have z2 := mon_ok hX p0' r44
                unfold Prog at *
                rw [mu_a (by decide)] at z2
                exact ⟨by omega, fun y1 y2 => by have := z2.2 y1 y2; omega⟩), ⟨⟨y0', y1'⟩, hR', ?_, ?_⟩, r47⟩
              · unfold f239; rw [if_neg (by decide)]
              · rw [f5 1 9 (by unfold P148; omega), mu_a (by decide)]; exact s2.2.2.1
              · rw [mu_a (by decide), f6 148 10 (by unfold P195; omega), mu_k (by decide)]; exact s2.2.2.2
          · exact absurd c d
        · rcases B with ⟨d, _⟩ | ⟨d, B⟩
          · exact absurd d c
          · rw [f168_0] at B
            cases A; cases B
            exact Or.inl ⟨rfl, rfl, bad_ok s.1.2 (by decide) (Or.inr k4), (g1.tr (Fr_158 _ _)).va, (g2.tr (Fr_168 _ _)).vb⟩
end
