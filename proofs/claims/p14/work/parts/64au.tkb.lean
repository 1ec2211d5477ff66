/-! A form's line. -/
set_option maxRecDepth 16384 in
theorem form_fin {X : KO} {ρ : Nat → Int32} {t : Int → Int} {L F p n x : Int} {m25 m22 m34 mc : MM} (hX : XW X) (s3 : ST X t L 900 m25 m22) (x97 : m25 9 7 = F) (hF : F < 8) (hp : 0 ≤ p) (hp8 : p < 8) (hn : 1 ≤ n) (hn9 : n ≤ 9) (hN : NRel x (m22 156 (8 + F))) (t76 : m22 151 (76 + F) = p) (r34 : Run X ρ 148 [(1, 1)] (mu (mu (mu (mu m25 11 F x) 12 F p) 13 F n) 9 7 (F + 1)) [] m34) (x6 : Run X ρ 195 [(1, 148)] (mu m22 148 13 n) [] mc) : ST X t L 900 m34 (mu (mu mc 151 (84 + F) n) 151 1 (F + 1)) ∧ Fr VA m25 m34 ∧ Fr VB m22 (mu (mu mc 151 (84 + F) n) 151 1 (F + 1)) ∧ Prog m25 m34 ∧ mc 148 15 = 151 ∧ mc 148 13 = n ∧ mc 151 1 = F := by
  have hR3 := s3.2.1
  have hR3' := hR3
  obtain ⟨⟨l1, l2, l3, l4, l5, l6⟩, ⟨l7, l8⟩, ⟨k1, k2, k3, k4, k5, k6⟩, ⟨n1, n2⟩, hg, hs, hf, ⟨u1, u2, u3, u4⟩⟩ := hR3'
  have fa : Fr (fun x k => (x = 11 ∧ k = F) ∨ (x = 12 ∧ k = F) ∨ (x = 13 ∧ k = F) ∨ (x = 9 ∧ k = 7)) m25 (mu (mu (mu (mu m25 11 F x) 12 F p) 13 F n) 9 7 (F + 1)) := ((((Fr.rf _ _).mu (Or.inl ⟨rfl, rfl⟩)).mu (Or.inr (Or.inl ⟨rfl, rfl⟩))).mu (Or.inr (Or.inr (Or.inl ⟨rfl, rfl⟩)))).mu (Or.inr (Or.inr (Or.inr ⟨rfl, rfl⟩)))
  have v97 : (mu (mu (mu (mu m25 11 F x) 12 F p) 13 F n) 9 7 (F + 1)) 9 7 = F + 1 := mu_s _ _ _ _
  have v11 : (mu (mu (mu (mu m25 11 F x) 12 F p) 13 F n) 9 7 (F + 1)) 11 F = x := by rw [mu_a (by decide), mu_a (by decide), mu_a (by decide), mu_s]
  have v12 : (mu (mu (mu (mu m25 11 F x) 12 F p) 13 F n) 9 7 (F + 1)) 12 F = p := by rw [mu_a (by decide), mu_a (by decide), mu_s]
  have v13 : (mu (mu (mu (mu m25 11 F x) 12 F p) 13 F n) 9 7 (F + 1)) 13 F = n := by rw [mu_a (by decide), mu_s]
  revert r34 fa v97 v11 v12 v13
  generalize (mu (mu (mu (mu m25 11 F x) 12 F p) 13 F n) 9 7 (F + 1)) = m26
  intro r34 fa v97 v11 v12 v13
  have s3' := ST_told s3 n
  have p03 : PR0 t L 900 m26 (mu m22 148 13 n) := PR0_fr s3'.1.1 fa (Fr.rf (fun _ _ => False) _) (fun k q => by omega) (fun k q => by omega) (fun k _ _ q => q) (fun k q => q)
  have q4 := mon_ok hX p03 r34
  obtain ⟨⟨y0, y1⟩, f7, f8, -, -⟩ := next_ok hX p03 r34 x6
  have l15 : mc 148 15 = 151 := by rw [f8.PM 148 15 (fun q => by have := q.2.2; omega), mu_k (by decide)]; exact l7
  have l13 : mc 148 13 = n := by rw [f8 148 13 (by unfold P195; omega), mu_s]
  have l1' : mc 151 1 = F := by
    rw [f8.PM 151 1 (fun q => by have := q.1; omega), mu_a (by decide), ← k4]
    exact x97
  have fb : Fr (fun x k => x = 151 ∧ (k = 84 + F ∨ k = 1)) mc (mu (mu mc 151 (84 + F) n) 151 1 (F + 1)) := ((Fr.rf _ _).mu ⟨rfl, Or.inl rfl⟩).mu ⟨rfl, Or.inr rfl⟩
  have w84 : (mu (mu mc 151 (84 + F) n) 151 1 (F + 1)) 151 (84 + F) = n := by rw [mu_k (by omega), mu_s]
  have w1 : (mu (mu mc 151 (84 + F) n) 151 1 (F + 1)) 151 1 = F + 1 := mu_s _ _ _ _
  revert fb w84 w1
  generalize (mu (mu mc 151 (84 + F) n) 151 1 (F + 1)) = md
  intro fb w84 w1
  have ea : ∀ x k, x ≠ 1 → ¬ ((x = 11 ∧ k = F) ∨ (x = 12 ∧ k = F) ∨ (x = 13 ∧ k = F) ∨ (x = 9 ∧ k = 7)) → m34 x k = m25 x k := fun x k hx hy => by rw [f7.PT x k (fun q => hx q.1), fa x k hy]
  have eb : ∀ x k, x ≠ 148 → ¬ (x = 151 ∧ (k = 84 + F ∨ k = 1)) → md x k = m22 x k := fun x k hx hy => by rw [fb x k hy, f8.PM x k (fun q => hx q.1), mu_a hx]
  have eb2 : ∀ k, 13 < k → md 148 k = m22 148 k := fun k hk => by rw [fb 148 k (fun q => by have := q.1; omega), f8.PM 148 k (fun q => by have := q.2.2; omega), mu_k (by omega)]
  have e97 : m34 9 7 = F + 1 := by rw [f7.PT 9 7 (fun q => by have := q.1; omega)]; exact v97
  have e11 : m34 11 F = x := by rw [f7.PT 11 _ (fun q => by have := q.1; omega)]; exact v11
  have e12 : m34 12 F = p := by rw [f7.PT 12 _ (fun q => by have := q.1; omega)]; exact v12
  have e13 : m34 13 F = n := by rw [f7.PT 13 _ (fun q => by have := q.1; omega)]; exact v13
  have hR' : RR m34 md := by
    clear s3 s3' p03 y0 y1 r34 x6 f7 f8 fa fb q4 v97 v11 v12 v13 hX l13 l15 l1'
    refine RR_of hR3 ⟨?_, ?_, ?_, ?_, ?_, ?_⟩ ⟨?_, ?_⟩ ⟨?_, ?_, ?_, ?_, ?_, ?_⟩ ⟨fun k z1 z2 => ?_, fun k z1 z2 => ?_⟩ (Or.inl fun k _ _ => ⟨ea _ _ (by decide) (by omega), eb _ _ (by decide) (by omega)⟩) (Or.inl fun k _ _ => ⟨ea _ _ (by decide) (by omega), eb _ _ (by decide) (by omega)⟩) (Or.inr fun k z1 z2 => ?_) ⟨?_, ?_, ?_, ?_⟩
    · rw [ea _ _ (by decide) (by omega)]; exact l1
    · rw [ea _ _ (by decide) (by omega)]; exact l2
    · rw [ea _ _ (by decide) (by omega)]; exact l3
    · rw [ea _ _ (by decide) (by omega)]; exact l4
    · rw [ea _ _ (by decide) (by omega)]; exact l5
    · rw [ea _ _ (by decide) (by omega)]; exact l6
    · rw [eb2 _ (by decide)]; exact l7
    · rw [eb2 _ (by decide)]; exact l8
    · rw [ea _ _ (by decide) (by omega), eb _ _ (by decide) (by omega)]; exact k1
    · rw [ea _ _ (by decide) (by omega)]; exact k2
    · rw [ea _ _ (by decide) (by omega)]; exact k3
    · rw [e97, w1]
    · rw [e97]; omega
    · rw [e97]; omega
    · rw [ea _ _ (by decide) (by omega)] at z2
      rw [ea _ _ (by decide) (by omega), eb _ _ (by decide) (by omega)]
      exact n1 k z1 z2
    · rw [e97] at z2
      by_cases e : k = F
      · rw [e, e11, eb _ _ (by decide) (by omega)]
        exact hN
      · rw [ea _ _ (by decide) (by omega), eb _ _ (by decide) (by omega)]
        exact n2 k z1 (by omega)
    · rw [e97] at z2
      by_cases e : k = F
      · rw [e, e12, e13, eb _ _ (by decide) (by omega), t76, w84]
        exact ⟨rfl, rfl, hp, hp8, hn, hn9⟩
      · rw [ea _ _ (by decide) (by omega), ea _ _ (by decide) (by omega), eb _ _ (by decide) (by omega), eb _ _ (by decide) (by omega)]
        exact hf k z1 (by omega)
    · rw [ea _ _ (by decide) (by omega), eb2 _ (by decide)]; exact u1
    · rw [ea _ _ (by decide) (by omega), eb _ _ (by decide) (by omega)]; exact u2
    · rw [ea _ _ (by decide) (by omega), eb _ _ (by decide) (by omega)]; exact u3
    · rw [ea _ _ (by decide) (by omega)]; exact u4
  have y0' : PR0 t L 900 m34 md := PR0_fr y0 (Fr.rf (fun _ _ => False) _) fb (fun _ q => q) (fun _ q => q) (fun k _ _ q => by omega) (fun k q => by omega)
  have y1' : TKR X m34 md := TKR_fr y1 (Fr.rf (fun _ _ => False) _) fb (fun _ q => q) (fun k _ _ q => by omega)
  refine ⟨⟨⟨y0', y1'⟩, hR', ?_, ?_⟩, (fa.mo (fun x k q => ?_)).tr f7.PT.va, (((Fr.rf VB m22).mu (v := n) (Or.inl ⟨rfl, by decide, by decide⟩)).tr f8.PM.vb).tr (fb.mo (fun x k q => Or.inr (Or.inr (Or.inl ⟨q.1, by omega⟩)))), ?_, l15, l13, l1'⟩
  · rw [f7 1 9 (by unfold P148; omega), fa 1 9 (by omega)]; exact s3.2.2.1
  · rw [fb 148 10 (by omega), f8 148 10 (by unfold P195; omega), mu_k (by decide)]; exact s3.2.2.2
  · rcases q with q | q | q | q
    · exact Or.inr (Or.inr (Or.inl ⟨by omega, by omega, by omega⟩))
    · exact Or.inr (Or.inr (Or.inl ⟨by omega, by omega, by omega⟩))
    · exact Or.inr (Or.inr (Or.inl ⟨by omega, by omega, by omega⟩))
    · exact Or.inr (Or.inl ⟨q.1, by omega⟩)
  · unfold Prog at *
    rw [fa 1 3 (by omega)] at q4
    exact q4
set_option maxRecDepth 16384 in
theorem form_line {X : KO} {ρ : Nat → Int32} {t : Int → Int} {L : Int} {a a' b b1 : MM} {rl rl' : List (Nat × Int)} (hX : XW X) (h : ST X t L 900 a b) (h4 : a 1 4 ≠ 4) (ha : Run X ρ 77 [(1, 9), (1, 1)] a rl a') (hb : Run X ρ 247 [(1, 148)] b rl' b1) : LE X ρ t L a a' b b1 rl rl' := by
  obtain ⟨N, ig, ha⟩ := Run_CR ha rfl
  obtain ⟨M, ig', hb⟩ := Run_CR hb rfl
  have ha : MR X ρ 6 0 0 qP77 N 0 [9, 1, 0, 0, 0, 0] [] a (ig, rl, a') := ha
  have hb : MR X ρ 2 0 0 qP247 M 0 [148, 0] [] b (ig', rl', b1) := hb
  obtain ⟨⟨p0, p1⟩, hR, h9, h10⟩ := h
  obtain ⟨v4, m2, r2, -, B⟩ := i247_0 hb
  have A := i77_0 ha
  obtain ⟨c1, c2, c3, c4, c5, c6⟩ := hR.2.2.1
  rcases A with ⟨c, _⟩ | ⟨c, A⟩
  · omega
  rcases first_ok r2 hR.2.1.1 with ⟨d, e1, e2⟩ | ⟨d, e1, r2'⟩
  · cases e1; subst e2
    rcases A with ⟨c', _⟩ | ⟨_, A⟩
    · omega
    rcases B with ⟨_, B⟩ | ⟨d', _⟩
    · cases A; cases B
      exact Or.inl ⟨rfl, rfl, bad_ok p1 (by decide) (Or.inr h4), (Fr_158 _ _).va, (Fr_168 _ _).vb⟩
    · exact absurd rfl d'
  cases e1
  rcases B with ⟨d', _⟩ | ⟨_, v9, m7, r7, -, B⟩
  · exact absurd d' (by decide)
  rcases A with ⟨c', m9, r9, v14, m12, r12, _, A⟩ | ⟨c', _⟩
  case inr => omega
  have q1 := mon_ok hX p0 r9
  obtain ⟨s1, f1, f2⟩ := nextST hX p0 hR h9 h10 r9 r2'
  have hR1 := s1.2.1
  have n97 : m9 9 7 = a 9 7 := f1 9 7 (fun q => by have := q.1; omega)
  have n151 : m2 151 1 = a 9 7 := by rw [← hR1.2.2.1.2.2.2.1]; exact n97
  have e8 : s32 (8 + (m2 (m2 148 15) 1)) = 8 + a 9 7 := by rw [hR1.2.1.1, n151, s32_id (by omega) (by omega)]
  have e76 : s32 (76 + (m2 (m2 148 15) 1)) = 76 + a 9 7 := by rw [hR1.2.1.1, n151, s32_id (by omega) (by omega)]
  have e84 : s32 (84 + (m2 (m2 148 15) 1)) = 84 + a 9 7 := by rw [hR1.2.1.1, n151, s32_id (by omega) (by omega)]
  rw [e8] at r7
  rw [e76, e84] at B
  rcases new_pair s1 r12 r7 with ⟨e1, e2, e3, g1, g2⟩ | ⟨e1, e2, e3, hN, r7'⟩
  · cases e1; cases e2
    rcases A with ⟨_, A⟩ | ⟨c2', _⟩
    · rcases B with ⟨_, B⟩ | ⟨d2', _⟩
      · cases A; cases B
        exact Or.inl ⟨rfl, rfl, e3, (f1.tr g1).va, (f2.tr g2).vb⟩
      · exact absurd rfl d2'
    · exact absurd rfl c2'
  cases e1; cases e2
  have e3 := e3.symm
  subst e3
  rcases A with ⟨c2', _⟩ | ⟨_, m17, r17, v22, m20, r20, A⟩
  · exact absurd c2' (by decide)
  rcases B with ⟨d2', _⟩ | ⟨_, v14', m12', r12', _, B⟩
  · exact absurd d2' (by decide)
  -- the reference has the name noted
  have fb1 : Fr (fun x k => x = 156 ∧ k = 8 + a 9 7) m2 (mu m2 156 (8 + a 9 7) (m2 148 12)) := (Fr.rf _ _).mu ⟨rfl, rfl⟩
  have p01 : PR0 t L 900 m9 (mu m2 156 (8 + a 9 7) (m2 148 12)) := PR0_fr s1.1.1 (Fr.rf (fun _ _ => False) _) fb1 (fun _ q => q) (fun _ q => q) (fun k _ _ q => by omega) (fun k q => by omega)
  have hR01 : RR m9 (mu m2 156 (8 + a 9 7) (m2 148 12)) := by
    have hR1' := hR1
    obtain ⟨⟨l1, l2, l3, l4, l5, l6⟩, ⟨l7, l8⟩, ⟨k1, k2, k3, k4, k5, k6⟩, ⟨n1, n2⟩, hg, hs, hf, ⟨u1, u2, u3, u4⟩⟩ := hR1'
    have eb : ∀ x k, x ≠ 156 → (mu m2 156 (8 + a 9 7) (m2 148 12)) x k = m2 x k := fun x k hx => mu_a hx
    refine RR_of hR1 ⟨l1, l2, l3, l4, l5, l6⟩ ⟨?_, ?_⟩ ⟨?_, k2, k3, ?_, k5, k6⟩ ⟨fun k z1 z2 => ?_, fun k z1 z2 => ?_⟩ (Or.inl fun k _ _ => ⟨rfl, eb _ _ (by decide)⟩) (Or.inl fun k _ _ => ⟨rfl, eb _ _ (by decide)⟩) (Or.inl ⟨rfl, fun k _ _ => ⟨rfl, rfl, eb _ _ (by decide), eb _ _ (by decide)⟩⟩) ⟨?_, ?_, ?_, u4⟩
    · rw [eb _ _ (by decide)]; exact l7
    · rw [eb _ _ (by decide)]; exact l8
    · rw [eb _ _ (by decide)]; exact k1
    · rw [eb _ _ (by decide)]; exact k4
    · rw [mu_k (by omega)]; exact n1 k z1 z2
    · rw [mu_k (by omega)]; exact n2 k z1 z2
    · rw [eb _ _ (by decide)]; exact u1
    · rw [eb _ _ (by decide)]; exact u2
    · rw [eb _ _ (by decide)]; exact u3
  have q2 := mon_ok hX p01 r17
  obtain ⟨s2, f3, f4⟩ := nextST hX p01 hR01 s1.2.2.1 (by rw [mu_a (by decide)]; exact s1.2.2.2) r17 r7'
  have FA2 : Fr VA a m17 := (f1.tr f3).va
  have FB2 : Fr VB b m7 := (f2.vb.tr (fb1.mo (fun x k q => Or.inr (Or.inr (Or.inr ⟨q.1, by omega⟩))))).tr f4.vb
  have w97 : m17 9 7 = a 9 7 := by rw [f3 9 7 (fun q => by have := q.1; omega)]; exact n97
  have w96 : m17 9 6 = a 9 6 := by rw [f3 9 6 (fun q => by have := q.1; omega)]; exact f1 9 6 (fun q => by have := q.1; omega)
  obtain ⟨g3, g4, hp⟩ := person_pair s2 r20 r12'
  rcases hp with ⟨e1, e2, e3⟩ | ⟨p, e1, e2, e3, e4, e5, e6⟩
  · cases e1; cases e2
    rcases A with ⟨_, A⟩ | ⟨c3', _⟩
    · rcases B with ⟨_, B⟩ | ⟨d3', _⟩
      · cases A; cases B
        exact Or.inl ⟨rfl, rfl, e3, FA2.tr g3.va, FB2.tr g4.vb⟩
      · exact absurd (show f239 m12' 148 (76 + a 9 7) 0 = 0 from rfl) d3'
    · exact absurd rfl c3'
  cases e1; cases e2
  have e5 := e5.symm; subst e5
  have e6 := e6.symm; subst e6
  rw [w96] at e4
  rcases A with ⟨c3', _⟩ | ⟨_, m25, r25, A⟩
  · omega
  rcases B with ⟨d3', _⟩ | ⟨_, m22, r22, v27, m25', r25', _, B⟩
  · exfalso
    unfold f239 at d3'
    rw [if_neg (by decide)] at d3'
    exact absurd d3' (by decide)
  have l715 : m7 148 15 = 151 := s2.2.1.2.1.1
  have eg : g239 (mu m7 148 13 v22) 148 (76 + a 9 7) 1 = mu (mu m7 148 13 v22) 151 (76 + a 9 7) v22 := by
    unfold g239
    rw [if_neg (by decide), mu_k (by decide), l715, mu_s, s32_id (z := v22) (by omega) (by omega)]
  rw [eg] at r22
  have s2' := ST_told s2 v22
  have fb2 : Fr (fun x k => x = 151 ∧ k = 76 + a 9 7) (mu m7 148 13 v22) (mu (mu m7 148 13 v22) 151 (76 + a 9 7) v22) := (Fr.rf _ _).mu ⟨rfl, rfl⟩
  have p02 : PR0 t L 900 m17 (mu (mu m7 148 13 v22) 151 (76 + a 9 7) v22) := PR0_fr s2'.1.1 (Fr.rf (fun _ _ => False) _) fb2 (fun _ q => q) (fun _ q => q) (fun k _ _ q => by omega) (fun k q => by omega)
  have hR02 : RR m17 (mu (mu m7 148 13 v22) 151 (76 + a 9 7) v22) := by
    have hR1' := s2'.2.1
    obtain ⟨⟨l1, l2, l3, l4, l5, l6⟩, ⟨l7, l8⟩, ⟨k1, k2, k3, k4, k5, k6⟩, ⟨n1, n2⟩, hg, hs, hf, ⟨u1, u2, u3, u4⟩⟩ := hR1'
    have eb : ∀ x k, ¬ (x = 151 ∧ k = 76 + a 9 7) → (mu (mu m7 148 13 v22) 151 (76 + a 9 7) v22) x k = (mu m7 148 13 v22) x k := fun x k hx => fb2 x k hx
    refine RR_of s2'.2.1 ⟨l1, l2, l3, l4, l5, l6⟩ ⟨?_, ?_⟩ ⟨?_, k2, k3, ?_, k5, k6⟩ ⟨fun k z1 z2 => ?_, fun k z1 z2 => ?_⟩ (Or.inl fun k _ _ => ⟨rfl, eb _ _ (by omega)⟩) (Or.inl fun k _ _ => ⟨rfl, eb _ _ (by omega)⟩) (Or.inr fun k z1 z2 => ?_) ⟨?_, ?_, ?_, u4⟩
    · rw [eb _ _ (by omega)]; exact l7
    · rw [eb _ _ (by omega)]; exact l8
    · rw [eb _ _ (by omega)]; exact k1
    · rw [eb _ _ (by omega)]; exact k4
    · rw [eb _ _ (by omega)]; exact n1 k z1 z2
    · rw [eb _ _ (by omega)]; exact n2 k z1 z2
    · rw [eb _ _ (by omega), eb _ _ (by omega)]; exact hf k z1 z2
    · rw [eb _ _ (by omega)]; exact u1
    · rw [eb _ _ (by omega)]; exact u2
    · rw [eb _ _ (by omega)]; exact u3
  have q3 := mon_ok hX p02 r25
  obtain ⟨s3, f5, f6⟩ := nextST hX p02 hR02 s2'.2.2.1 (by rw [mu_a (by decide)]; exact s2'.2.2.2) r25 r22
  have FA3 : Fr VA a m25 := FA2.tr f5.va
  have FB3 : Fr VB b m22 := ((FB2.tr ((Fr.rf VB m7).mu (v := v22) (Or.inl ⟨rfl, by decide, by decide⟩))).tr (fb2.mo (fun x k q => Or.inr (Or.inr (Or.inl ⟨q.1, by omega⟩))))).tr f6.vb
  have x97 : m25 9 7 = a 9 7 := by rw [f5 9 7 (fun q => by have := q.1; omega)]; exact w97
  rcases num_pair (by decide) s3 r25' with ⟨x1, x2, x3, x4, x5⟩ | ⟨n, x1, x2, x3, x3', x4, x5, x6⟩
  · cases x2
    rcases A with ⟨_, A⟩ | ⟨c4', _⟩
    · rcases B with ⟨_, B⟩ | ⟨d4', _⟩
      · cases A; cases B
        exact Or.inl ⟨rfl, rfl, x3, FA3.tr x4.va, FB3.tr x5.vb⟩
      · exact absurd (show f239 m25' 148 (84 + a 9 7) 0 = 0 from rfl) d4'
    · exact absurd x1 c4'
  cases x5
  rcases A with ⟨c4', _⟩ | ⟨_, m34, r34, v39, m37, r37, _, A⟩
  · omega
  rcases B with ⟨d4', _⟩ | ⟨_, B⟩
  · exfalso
    unfold f239 at d4'
    rw [if_neg (by decide)] at d4'
    exact absurd d4' (by decide)
  cases A; cases B
  have l2 := s3.2.1.1
  obtain ⟨-, l2, l3, l4, -⟩ := l2
  rw [x4, x1] at r34
  have ea0 : (mu m25 11 (a 9 7) (m9 1 7)) 9 2 = 12 ∧ (mu m25 11 (a 9 7) (m9 1 7)) 9 7 = a 9 7 := ⟨by rw [mu_a (by decide)]; exact l3, by rw [mu_a (by decide)]; exact x97⟩
  have ea1 : (mu (mu m25 11 (a 9 7) (m9 1 7)) 12 (a 9 7) v22) 9 3 = 13 ∧ (mu (mu m25 11 (a 9 7) (m9 1 7)) 12 (a 9 7) v22) 9 7 = a 9 7 := ⟨by rw [mu_a (by decide), mu_a (by decide)]; exact l4, by rw [mu_a (by decide)]; exact ea0.2⟩
  have ea2 : (mu (mu (mu m25 11 (a 9 7) (m9 1 7)) 12 (a 9 7) v22) 13 (a 9 7) n) 9 7 = a 9 7 := by rw [mu_a (by decide)]; exact ea1.2
  have zv : s32 v22 = v22 := s32_id (by omega) (by omega)
  have zn : s32 n = n := s32_id (by omega) (by omega)
  have zF : s32 (a 9 7 + 1) = a 9 7 + 1 := s32_id (by omega) (by omega)
  rw [l2, x97, ea0.1, ea0.2, zv, ea1.1, ea1.2, zn, ea2, zF] at r34
  have t156 : m22 156 (8 + a 9 7) = m2 148 12 := by
    rw [f6 156 _ (fun q => by have := q.1; omega), mu_a (by decide), mu_a (by decide), f4 156 _ (fun q => by have := q.1; omega), mu_s]
  have t76 : m22 151 (76 + a 9 7) = v22 := by
    rw [f6 151 _ (fun q => by have := q.1; omega), mu_s]
  have hpp : 0 ≤ v22 ∧ v22 < 8 := ⟨e3, by omega⟩
  have hFF : a 9 7 < 8 := c'
  obtain ⟨S, FA4, FB4, P4, l15, l13, l1'⟩ := form_fin hX s3 x97 hFF hpp.1 hpp.2 x2 x3 (by rw [t156]; exact hN) t76 r34 x6
  have ex : g239 m25' 148 (84 + a 9 7) 1 = mu m25' 151 (84 + a 9 7) n := by
    unfold g239
    rw [if_neg (by decide), l15, l13, zn]
  have l15' : (mu m25' 151 (84 + a 9 7) n) 148 15 = 151 := by rw [mu_a (by decide)]; exact l15
  have l1'' : (mu m25' 151 (84 + a 9 7) n) 151 1 = a 9 7 := by rw [mu_k (by omega)]; exact l1'
  rw [ex, l15', l1'', zF, zF]
  refine Or.inr ⟨rfl, FB3.tr FB4, m34, FA3.tr FA4, ?_, S, r37⟩
  clear ea0 ea1 ea2 S
  unfold Prog at *
  exact ⟨by omega, fun y1 y2 => by have := P4.2 y1 y2; omega⟩
