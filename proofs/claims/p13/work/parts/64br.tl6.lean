/-! A day goes by. -/
set_option maxRecDepth 16384 in
theorem mu_id (m : MM) (a k : Int) : mu m a k (m a k) = m := by
  funext b j
  by_cases c : b = a ∧ j = k
  · rw [c.1, c.2, mu_s]
  · exact if_neg c
set_option maxRecDepth 16384 in
theorem f220_ok (m : MM) (x : Int) : f220 m 9 x = if 9 < x then 9 else x := by
  unfold f220
  split <;> split <;> omega
set_option maxRecDepth 16384 in
/-- a form's day -/
theorem p_day1 {a b : MM} {s : Int} (h : Sx a b s) {f : Int} (f0 : 0 ≤ f) (f1 : f < a 3 7) (u : Int) : ∃ a' b' u', S122_2 a s f = .inl (f + 1, a') ∧ S231_2 b 148 f u = .inl (f + 1, u', b') ∧ Gx a b a' b' s ∧ a' s 8 = a s 8 := by
  obtain ⟨e', e0', e8'⟩ := h.f
  have hs := h.1.2.2.2.2
  have hb := h.bn
  have hw := h.hw f0 f1
  obtain ⟨l1, l2, l3, l4, l5, l6⟩ := h.1.2.1
  obtain ⟨⟨g1, g1', g1''⟩, g2, g3, g4, g5, g6⟩ := h.fo f0 f1
  have x1 : s32 (182 + f) = 182 + f := s32_id (by omega) (by omega)
  have x2 : s32 (190 + f) = 190 + f := s32_id (by omega) (by omega)
  have x3 : s32 (f + 1) = f + 1 := s32_id (by omega) (by omega)
  unfold S122_2 S231_2
  have n1 : ¬ a 3 7 ≤ f := by omega
  have n2 : ¬ 8 ≤ f := by omega
  have n3 : ¬ b 150 1 ≤ f := by omega
  rw [h.1.2.2.1, if_neg n1, if_neg n2, hb, if_neg n3, x1, x2, x3, l4, l5, ← hw.1]
  by_cases c : a (s + 4) f = 1
  · rw [if_pos c, if_pos c]
    obtain ⟨d1, d2, d3⟩ := g2 c
    have d1 : b 150 (190 + f) = a (s + 5) f := d1
    rw [d1]
    have x4 : s32 (a (s + 5) f - 1) = a (s + 5) f - 1 := s32_id (by omega) (by omega)
    rw [x4, x4, mu_a (m := a) (a := s + 5) (b := s) (by omega), l5, mu_s, mu_a (m := b) (a := 150) (b := 148) (by decide), hb, mu_s]
    by_cases d : 0 < a (s + 5) f - 1
    · rw [if_pos d, if_neg (by omega)]
      refine ⟨_, _, _, rfl, rfl, Gx_fo h f0 f1 ((Fr.rf _ _).mu (Or.inl ⟨Or.inr rfl, rfl⟩)) ((Fr.rf _ _).mu ⟨rfl, Or.inr (Or.inl rfl)⟩) ?_, mu_a (by omega)⟩
      refine ⟨⟨?_, ?_, ?_⟩, fun q => ⟨?_, ?_, ?_⟩, fun q => ?_, fun q _ => ?_, fun k k0 k1 => ?_, ?_⟩
      · rw [mu_a (by omega), mu_k (by omega)]; exact g1
      · rw [mu_a (by omega)]; exact g1'
      · rw [mu_a (by omega)]; exact g1''
      · show mu b 150 (190 + f) (a (s + 5) f - 1) 150 (190 + f) = _
        rw [mu_s, mu_s]
      · rw [mu_s]; omega
      · rw [mu_s]; omega
      · rw [mu_a (by omega)] at q; omega
      · rw [mu_a (by omega)] at q; exact absurd c q
      · rw [mu_a (a := s + 5) (b := s + 6) (by omega), mu_a (a := s + 5) (b := s + 4) (by omega), mu_k (by omega)]; exact g5 k k0 k1
      · rw [mu_a (by omega), mu_a (by omega)]; exact g6
    · rw [if_neg d, if_pos (by omega)]
      have hz : a (s + 5) f - 1 = 0 := by omega
      rw [hz]
      have hs2 : s32 2 = 2 := s32_id (by decide) (by decide)
      rw [hs2]
      -- granted
      have c72 : f72 (mu a (s + 5) f 0) ((mu a (s + 5) f 0) s 0) f = 1 := by
        rw [mu_a (by omega), h.1.2.2.1]
        unfold f72
        rw [mu_a (by omega), if_neg (by omega), if_neg (by omega), if_neg (by omega)]
      have e139 : g139 (mu a (s + 5) f 0) s f 2 = mu (mu a (s + 5) f 0) (s + 4) f 2 := by
        unfold g139
        rw [c72, if_neg (by decide), mu_a (a := s + 5) (b := s) (by omega), l4, hs2]
      have r1 := g5 1 (by decide) (by decide)
      have r14 := r1.2.2.2 c
      have hab := h.ab f0 f1
      have G1 : Gx a b (mu (mu a (s + 5) f 0) (s + 4) f 2) (mu (mu b 150 (190 + f) 0) 150 (182 + f) 2) s := by
        refine Gx_fo h f0 f1 (((Fr.rf _ _).mu (Or.inl ⟨Or.inr rfl, rfl⟩)).mu (Or.inl ⟨Or.inl rfl, rfl⟩)) (((Fr.rf _ _).mu ⟨rfl, Or.inr (Or.inl rfl)⟩).mu ⟨rfl, Or.inl rfl⟩) ?_
        refine ⟨⟨?_, ?_, ?_⟩, fun q => ?_, fun q => ?_, fun _ q => ?_, fun k k0 k1 => ?_, ?_⟩
        · show _ = mu (mu b 150 (190 + f) 0) 150 (182 + f) 2 150 (182 + f)
          rw [mu_s, mu_s]
        · rw [mu_s]; decide
        · rw [mu_s]; decide
        · rw [mu_s] at q; exact absurd q (by decide)
        · show mu (mu b 150 (190 + f) 0) 150 (182 + f) 2 150 (190 + f) = 0
          rw [mu_k (by omega), mu_s]
        · rw [mu_s] at q; exact absurd rfl q
        · rw [mu_s, mu_a (a := s + 4) (b := s + 6) (by omega), mu_a (a := s + 5) (b := s + 6) (by omega), mu_k (by omega), mu_k (by omega)]
          obtain ⟨t1, t2, t3, t4⟩ := g5 k k0 k1
          exact ⟨t1, t2, t3, fun q => absurd q (by decide)⟩
        · rw [mu_a (by omega), mu_a (by omega), mu_a (by omega), mu_a (by omega)]; exact g6
      have t37 : (mu (mu a (s + 5) f 0) (s + 4) f 2) 3 7 = a 3 7 := by rw [mu_a (by omega), mu_a (by omega)]
      have t31 : (mu (mu a (s + 5) f 0) (s + 4) f 2) (s + 6) (3 * f + 1) = a (s + 6) (3 * f + 1) := by rw [mu_a (by omega), mu_a (by omega)]
      have t6 : (mu (mu a (s + 5) f 0) (s + 4) f 2) 6 f = a 6 f := by rw [mu_a (by omega), mu_a (by omega)]
      have t8 : (mu (mu a (s + 5) f 0) (s + 4) f 2) s 8 = a s 8 := by rw [mu_a (by omega), mu_a (by omega)]
      unfold g123
      rw [e139]
      revert G1 t37 t31 t6 t8
      generalize (mu (mu a (s + 5) f 0) (s + 4) f 2) = m2
      generalize (mu (mu b 150 (190 + f) 0) 150 (182 + f) 2) = n2
      intro G1 t37 t31 t6 t8
      have k1 := q142 G1.1 (f := f) f0 (by omega) (k := 1) (by decide) (by decide)
      have k2 := q66 G1.1 (f := f) f0 (by omega)
      rw [k1.1, k1.2, G1.1.1.2.2.1, k2.1, t31, t6, G1.1.bn]
      have x5 : s32 (76 + f) = 76 + f := s32_id (by omega) (by omega)
      rw [x5] at k2
      rw [x5, k2.2, t6]
      revert r1 r14
      generalize a (s + 6) (3 * f + 1) = u1 at g6 ⊢
      intro r1 r14
      have g6 : u1 ≠ a 6 f := g6
      have k3 := q124 G1.1 (p := u1) (q := a 6 f) (by omega) (by omega) hab.2.1 hab.2.2
      have k4 := G1.1.gr (k := 8 * u1 + a 6 f) (by omega) (by omega)
      have x6 : s32 (s32 (94 + s32 (8 * u1)) + a 6 f) = 94 + (8 * u1 + a 6 f) := ad_g (by omega) (by omega) (by omega) (by omega)
      rw [k3.1, x6, ← k4.1, s32_id (z := m2 (s + 1) (8 * u1 + a 6 f) + 1) (by omega) (by omega), f220_ok]
      by_cases d : 9 ≤ m2 (s + 1) (8 * u1 + a 6 f)
      · have x7 : s32 9 = n2 150 (94 + (8 * u1 + a 6 f)) := by rw [s32_id (by decide) (by decide), ← k4.1]; omega
        rw [if_pos d, if_pos (by omega), x7, mu_id]
        exact ⟨_, _, _, rfl, rfl, G1, t8⟩
      · rw [if_neg d, if_neg (by omega)]
        have G2 := p_gr (x := u1) (y := a 6 f) (d := 1) G1.1 (by omega) (by omega) hab.2.1 hab.2.2 (by omega) (by omega) (fun q => absurd q g6)
        have x8 : s32 (m2 (s + 1) (8 * u1 + a 6 f) + 1) = m2 (s + 1) (8 * u1 + a 6 f) + 1 := s32_id (by omega) (by omega)
        rw [G1.1.bn, x6, ← k4.1, x8, x8] at G2
        rw [x8]
        refine ⟨_, _, _, rfl, rfl, G1.tr G2, ?_⟩
        rw [← t8]
        unfold g108
        rw [if_neg (by omega), if_neg (by omega), if_neg (by omega), if_neg (by omega), G1.1.1.2.1.1, mu_a (by omega)]
  · rw [if_neg c, if_neg c]
    exact ⟨_, _, _, rfl, rfl, Gx.rf h, rfl⟩
set_option maxRecDepth 16384 in
theorem p_day2 {a b : MM} {s : Int} (h : Sx a b s) : Gx a b (L122_2 a s 0).2.2.2 (L231_2 b 148 0 0).2.2.2.2 s ∧ (L122_2 a s 0).2.2.2 s 8 = a s 8 := by
  obtain ⟨e', e0', e8'⟩ := h.f
  unfold L122_2 L231_2
  refine Lp_sim (f := K122_2 a s 0) (f' := K231_2 b 148 0 0) (P := fun x y => x.1 = y.1 ∧ 0 ≤ x.1 ∧ x.1 ≤ a 3 7 ∧ Gx a b x.2 y.2.2 s ∧ x.2 s 8 = a s 8) (Q := fun t t' => Gx a b t.2.2.2 t'.2.2.2.2 s ∧ t.2.2.2 s 8 = a s 8) (fun x => (a 3 7 - x.1).toNat) ?_ (0, a) (0, 0, b) ⟨rfl, Int.le_refl _, e0', Gx.rf h, rfl⟩
  rintro ⟨i, m⟩ ⟨j, u, n⟩ ⟨c1, c2, c3, c4, c5⟩
  dsimp only at c1 c2 c3 c4 c5
  subst c1
  have t37 : m 3 7 = a 3 7 := c4.2.1 3 7 (by have := h.1.2.2.2.2; unfold Qa; omega)
  obtain ⟨z1, z2, z3⟩ := c4.1.f
  by_cases c : a 3 7 ≤ i
  · refine Or.inr ⟨(1, 0, (i, m)), (1, 0, (i, u, n)), ?_, ?_, c4, c5⟩
    · show S122_2 m s i = _
      unfold S122_2
      rw [c4.1.1.2.2.1, if_pos (by omega)]
    · show S231_2 n 148 i u = _
      unfold S231_2
      rw [c4.1.bn, if_pos (by omega)]
  · obtain ⟨a', b', u', q1, q2, q3, q4⟩ := p_day1 c4.1 (f := i) c2 (by omega) u
    refine Or.inl ⟨(i + 1, a'), (i + 1, u', b'), q1, q2, ⟨rfl, by dsimp only; omega, by dsimp only; omega, c4.tr q3, by dsimp only; rw [q4]; exact c5⟩, by dsimp only; omega⟩
set_option maxRecDepth 16384 in
/-- rows of who signed today -/
theorem p_day3 {a b : MM} {s : Int} (h : Sx a b s) : Gx a b (g297 a (s + 2) (-1)) (L231_120 b 148 0 0).2.2.2 s ∧ (g297 a (s + 2) (-1)) s 8 = a s 8 := by
  obtain ⟨e', e0', e8'⟩ := h.f
  have hs := h.1.2.2.2.2
  have hb := h.bn
  have m1 : s32 (-1) = -1 := s32_id (by decide) (by decide)
  have eA : g297 a (s + 2) (-1) = fm a (s + 2) (0 + 0) (0 + 8) (fun _ => -1) := by
    have hl : L297_5 a (s + 2) (-1) 0 8 = (1, 0, (8, fm a (s + 2) (0 + 0) (0 + 8) (fun _ => -1))) := by
      unfold L297_5
      refine Lp_fill (f := K297_5 a (s + 2) (-1) 0 8) (i0 := 0) (n := 8) (base := 0) (d := s + 2) (by decide) (fun i i0 i1 => ?_) ?_
      · show S297_5 (fm a (s + 2) (0 + 0) (0 + i) (fun _ => -1)) (s + 2) (-1) i 8 = _
        unfold S297_5
        rw [if_neg (by omega), s32_id (z := i + 1) (by omega) (by omega), m1, Int.zero_add i]
      · show S297_5 (fm a (s + 2) (0 + 0) (0 + 8) (fun _ => -1)) (s + 2) (-1) 8 8 = _
        unfold S297_5
        rw [if_pos (by decide)]
    unfold g297
    rw [if_neg (by omega), hs.2.2, s32_id (by decide) (by decide), hl]
  have eB : (L231_120 b 148 0 0).2.2.2 = fm b 150 (198 + 0) (198 + 8) (fun _ => -1) := by
    have hl : L231_120 b 148 0 0 = (1, 0, (8, fm b 150 (198 + 0) (198 + 8) (fun _ => -1))) := by
      unfold L231_120
      refine Lp_fill (f := K231_120 b 148 0 0) (i0 := 0) (n := 8) (base := 198) (d := 150) (by decide) (fun i i0 i1 => ?_) ?_
      · show S231_120 (fm b 150 (198 + 0) (198 + i) (fun _ => -1)) 148 i 0 = _
        unfold S231_120
        rw [if_neg (by omega), fm_n (b := 148) (by decide), hb, s32_id (z := i + 1) (by omega) (by omega), s32_id (z := 198 + i) (by omega) (by omega), m1]
      · show S231_120 (fm b 150 (198 + 0) (198 + 8) (fun _ => -1)) 148 8 0 = _
        unfold S231_120
        rw [if_pos (by decide)]
    rw [hl]
  rw [eA, eB]
  refine ⟨Gx_of h ((Fr.rf _ _).fl fun j j0 j1 => Or.inr ⟨by omega, by omega, by omega⟩) ((Fr.rf _ _).fl fun j j0 j1 => ⟨rfl, by omega⟩) (Or.inl ⟨fm_n (by omega), fm_o (by omega)⟩) (Or.inl ⟨fm_n (by omega), fm_o (by omega)⟩) (Or.inl fun p p0 p1 => ⟨fm_n (by omega), fm_o (by omega)⟩) (Or.inr fun p p0 p1 => ?_) (Or.inl fun p p0 p1 => ⟨fm_n (by omega), fm_o (by omega)⟩) (fun f f0 f1 => Or.inl (SFo_same (fm_n (by omega)) (fm_n (by omega)) (fun j => fm_n (by omega)) (fun j _ _ => fm_o (by omega)) f0 (by omega))), fm_n (by omega)⟩
  rw [fm_i (by omega) (by omega), fm_i (by omega) (by omega)]
  exact ⟨rfl, by decide, by decide⟩
set_option maxRecDepth 16384 in
/-- a day alike -/
theorem p_day {a b : MM} {s : Int} (h : Sx a b s) (hd : a s 8 < 400) : Gx a b (g122 a s) (g231 b 148) s ∧ (g122 a s) s 8 = a s 8 + 1 := by
  unfold g122 g231
  obtain ⟨G1, d1⟩ := p_day2 h
  rw [G1.1.1.2.1.2.1]
  have G2 := p_day3 G1.1
  have hk : (L231_120 (L231_2 b 148 0 0).2.2.2.2 148 0 (L231_2 b 148 0 0).2.2.2.1).2.2.2 = (L231_120 (L231_2 b 148 0 0).2.2.2.2 148 0 0).2.2.2 := rfl
  rw [hk]
  revert G1 d1 G2
  generalize (L122_2 a s 0).2.2.2 = m1
  generalize (L231_2 b 148 0 0).2.2.2.2 = n1
  intro G1 d1 ⟨G2, d2⟩
  revert G2 d2
  generalize g297 m1 (s + 2) (-1) = m2
  generalize (L231_120 n1 148 0 0).2.2.2 = n2
  intro G2 d2
  have hday := G2.1.day
  rw [G2.1.bn, ← hday.1, s32_id (z := m2 s 8 + 1) (by omega) (by omega), s32_id (z := m2 s 8 + 1) (by omega) (by omega)]
  refine ⟨G1.tr (G2.tr (Gx_day G2.1 (by omega) (by omega))), ?_⟩
  rw [mu_s]
  omega
