/-! Signing. -/
set_option maxRecDepth 16384 in
theorem f134_ok {m : MM} {s f : Int} : f134 m s f = 3 ↔ (f142 m s f 0 ≠ -1 ∧ f142 m s f 1 ≠ -1 ∧ f142 m s f 2 ≠ -1) := by
  have st : ∀ n k, 0 ≤ n → n < 4 → 0 ≤ k → k < 3 → Lp (K134_4 m s f 0 0) (n, k) = Lp (K134_4 m s f 0 0) ((if f142 m s f k = -1 then n else n + 1), k + 1) := fun n k n0 n4 k0 k3 => by
    refine Lp_inl ?_
    show S134_4 m s f n k = _
    unfold S134_4
    rw [if_neg (by omega), s32_id (z := k + 1) (by omega) (by omega), s32_id (z := n + 1) (by omega) (by omega)]
    split <;> rfl
  have en : ∀ n, Lp (K134_4 m s f 0 0) (n, 3) = (1, 0, (n, 3)) := fun n => Lp_inr (by
    show S134_4 m s f n 3 = _
    unfold S134_4
    rw [if_pos (by decide)])
  unfold f134 L134_4
  have s0 := st 0 0 (by decide) (by decide) (by decide) (by decide)
  rw [s0]
  by_cases c0 : f142 m s f 0 = -1
  · rw [if_pos c0]
    have s1 := st 0 1 (by decide) (by decide) (by decide) (by decide)
    rw [show (0 + 1 : Int) = 1 from rfl, s1]
    by_cases c1 : f142 m s f 1 = -1
    · rw [if_pos c1]
      have s2 := st 0 2 (by decide) (by decide) (by decide) (by decide)
      rw [show (1 + 1 : Int) = 2 from rfl, s2, show (2 + 1 : Int) = 3 from rfl, en]
      dsimp only
      constructor
      · intro q; split at q <;> exact absurd q (by decide)
      · intro q; exact absurd c0 q.1
    · rw [if_neg c1]
      have s2 := st 1 2 (by decide) (by decide) (by decide) (by decide)
      rw [show (0 + 1 : Int) = 1 from rfl, show (1 + 1 : Int) = 2 from rfl, s2, show (2 + 1 : Int) = 3 from rfl, en]
      dsimp only
      constructor
      · intro q; split at q <;> exact absurd q (by decide)
      · intro q; exact absurd c0 q.1
  · rw [if_neg c0]
    have s1 := st 1 1 (by decide) (by decide) (by decide) (by decide)
    rw [show (0 + 1 : Int) = 1 from rfl, s1]
    by_cases c1 : f142 m s f 1 = -1
    · rw [if_pos c1]
      have s2 := st 1 2 (by decide) (by decide) (by decide) (by decide)
      rw [show (1 + 1 : Int) = 2 from rfl, s2, show (2 + 1 : Int) = 3 from rfl, en]
      dsimp only
      constructor
      · intro q; split at q <;> exact absurd q (by decide)
      · intro q; exact absurd c1 q.2.1
    · rw [if_neg c1]
      have s2 := st 2 2 (by decide) (by decide) (by decide) (by decide)
      rw [show (1 + 1 : Int) = 2 from rfl, s2, show (2 + 1 : Int) = 3 from rfl, en]
      dsimp only
      constructor
      · intro q
        split at q
        · exact absurd q (by decide)
        · rename_i c2
          exact ⟨c0, c1, c2⟩
      · intro q; rw [if_neg q.2.2]
set_option maxRecDepth 16384 in
theorem L181_ok {m : MM} {p f : Int} : (L181_47 m 148 p f 0).1 = 1 ↔ (f273 m 148 f 0 ≠ -1 ∧ f273 m 148 f 1 ≠ -1 ∧ f273 m 148 f 2 ≠ -1) := by
  have st : ∀ k, 0 ≤ k → k < 3 → K181_47 m 148 p f 0 k = if f273 m 148 f k = -1 then .inr (2, 0, k) else .inl (k + 1) := fun k k0 k3 => by
    show S181_47 m 148 p f k = _
    unfold S181_47
    rw [if_neg (by omega), s32_id (z := k + 1) (by omega) (by omega)]
  have e3 : Lp (K181_47 m 148 p f 0) 3 = (1, 0, 3) := Lp_inr (by
    show S181_47 m 148 p f 3 = _
    unfold S181_47
    rw [if_pos (by decide)])
  have s0 := st 0 (by decide) (by decide)
  have s1 := st 1 (by decide) (by decide)
  have s2 := st 2 (by decide) (by decide)
  unfold L181_47
  by_cases c0 : f273 m 148 f 0 = -1
  · rw [if_pos c0] at s0
    rw [Lp_inr s0]
    exact ⟨fun q => absurd q (by decide), fun q => absurd c0 q.1⟩
  · rw [if_neg c0] at s0
    rw [Lp_inl s0, show (0 + 1 : Int) = 1 from rfl]
    by_cases c1 : f273 m 148 f 1 = -1
    · rw [if_pos c1] at s1
      rw [Lp_inr s1]
      exact ⟨fun q => absurd q (by decide), fun q => absurd c1 q.2.1⟩
    · rw [if_neg c1] at s1
      rw [Lp_inl s1, show (1 + 1 : Int) = 2 from rfl]
      by_cases c2 : f273 m 148 f 2 = -1
      · rw [if_pos c2] at s2
        rw [Lp_inr s2]
        exact ⟨fun q => absurd q (by decide), fun q => absurd c2 q.2.2⟩
      · rw [if_neg c2] at s2
        rw [Lp_inl s2, show (2 + 1 : Int) = 3 from rfl, e3]
        exact ⟨fun _ => ⟨c0, c1, c2⟩, fun _ => rfl⟩
set_option maxRecDepth 16384 in
theorem s32_s32 (x : Int) : s32 (s32 x) = s32 x := by
  have h : -2147483648 ≤ s32 x ∧ s32 x < 2147483648 := by
    rw [s32_eq]
    have h1 := Int32.le_toInt (Int32.ofInt x)
    have h2 := Int32.toInt_lt (Int32.ofInt x)
    exact ⟨h1, h2⟩
  exact s32_id h.1 h.2
set_option maxRecDepth 16384 in
/-- a signature alike -/
theorem p_sign {a b : MM} {s : Int} (h : Sx a b s) {p f : Int} (p0 : 0 ≤ p) (p1 : p < a 3 6) (f0 : 0 ≤ f) (f1 : f < a 3 7) (hn : f132 a s p f ≠ -1) : Gx a b (g138 a s p f (f132 a s p f)) (g181 b 148 p f) s := by
  obtain ⟨e, e0, e8⟩ := h.p
  obtain ⟨e', e0', e8'⟩ := h.f
  have hs := h.1.2.2.2.2
  have hb := h.bn
  obtain ⟨z0, z1, z2, z3, z4⟩ := i132 h f0 f1 hn
  have eq := q132 h p0 p1 f0 f1
  unfold g181
  rw [← eq]
  revert z1 z2 z3 z4
  generalize f132 a s p f = z
  intro z1 z2 z3 z4
  have ez : f137 a f z = 3 * f + z := by
    unfold f137
    rw [if_neg (by omega), if_neg (by omega), if_neg (by omega), if_neg (by omega), ad_t (by omega) (by omega) (by omega) (by omega)]
  have c73 : f73 a (a s 0) p = 1 := by
    rw [h.1.2.2.1]
    rcases i73 h p with ⟨c, d⟩ | ⟨c, -⟩
    · omega
    · exact c
  have c72 : f72 a (a s 0) f = 1 := by
    rw [h.1.2.2.1]
    rcases i72 h f with ⟨c, d⟩ | ⟨c, -⟩
    · omega
    · exact c
  obtain ⟨l1, l2, l3, l4, l5, l6⟩ := h.1.2.1
  unfold g138
  rw [ez, if_neg (by omega), c73, if_neg (by decide), c72, if_neg (by decide), l6, s32_id (z := p) (by omega) (by omega), s32_id (z := f) (by omega) (by omega), hb, ad_s (by omega) (by omega) (by omega) (by omega), s32_id (z := 198 + p) (by omega) (by omega), s32_id (z := 206 + p) (by omega) (by omega), s32_id (z := 182 + f) (by omega) (by omega)]
  -- the part
  have G1 : Gx a b (mu a (s + 6) (3 * f + z) p) (mu b 150 (158 + (3 * f + z)) p) s := by
    refine Gx_fo h f0 f1 ((Fr.rf _ _).mu (Or.inr ⟨rfl, by omega, by omega⟩)) ((Fr.rf _ _).mu ⟨rfl, by omega⟩) ?_
    obtain ⟨⟨g1, g1', g1''⟩, g2, g3, g4, g5, g6⟩ := h.fo f0 f1
    refine ⟨⟨?_, ?_, ?_⟩, ?_, ?_, ?_, fun k k0 k1 => ?_, ?_⟩
    · rw [mu_a (by omega), mu_k (by omega)]; exact g1
    · rw [mu_a (by omega)]; exact g1'
    · rw [mu_a (by omega)]; exact g1''
    · rw [mu_a (by omega), mu_k (by omega), mu_a (by omega)]; exact g2
    · rw [mu_a (by omega), mu_k (by omega)]; exact g3
    · rw [mu_a (by omega), mu_k (by omega), mu_a (by omega)]; exact g4
    · rw [mu_a (a := s + 6) (b := s + 4) (by omega), z0]
      by_cases c : k = z
      · rw [c, mu_s]
        refine ⟨?_, by omega, by omega, fun q => by omega⟩
        show p = mu b 150 (158 + (3 * f + z)) p 150 (158 + (3 * f + z))
        rw [mu_s]
      · rw [mu_k (by omega), mu_k (by omega)]
        obtain ⟨r1, r2, r3, r4⟩ := g5 k k0 k1
        exact ⟨r1, r2, r3, fun q => absurd q (by decide)⟩
    · rw [mu_a (a := s + 6) (b := 3 + 3) (by omega)]
      by_cases c : z = 1
      · rw [c, mu_s]; exact z3 c
      · rw [mu_k (by omega)]; exact g6
  have b1 : (mu b 150 (158 + (3 * f + z)) p) 148 14 = 150 := G1.1.bn
  have a12 : (mu a (s + 6) (3 * f + z) p) s 2 = s + 2 := G1.1.1.2.1.2.1
  have a16 : (mu a (s + 6) (3 * f + z) p) s 6 = s + 6 := G1.1.1.2.1.2.2.2.2.2
  have h4 : (mu a (s + 6) (3 * f + z) p) (s + 4) f = 0 := by rw [mu_a (by omega)]; exact z0
  have h37 : (mu a (s + 6) (3 * f + z) p) 3 7 = a 3 7 := mu_a (by omega)
  revert G1 b1 a12 a16 h4 h37
  generalize mu a (s + 6) (3 * f + z) p = m1
  generalize mu b 150 (158 + (3 * f + z)) p = n1
  intro G1 b1 a12 a16 h4 h37
  rw [b1, a12]
  have G2 := Gx_td (p := p) (v := f) G1.1 p0 (by omega) (by omega) (by omega)
  have b2 : (mu n1 150 (198 + p) f) 148 14 = 150 := G2.1.bn
  have a23 : (mu m1 (s + 2) p f) s 3 = s + 3 := G2.1.1.2.1.2.2.1
  have h4 : (mu m1 (s + 2) p f) (s + 4) f = 0 := by rw [mu_a (by omega)]; exact h4
  have h37 : (mu m1 (s + 2) p f) 3 7 = a 3 7 := by rw [mu_a (by omega)]; exact h37
  revert G2 b2 a23 h4 h37
  generalize mu m1 (s + 2) p f = m2
  generalize mu n1 150 (198 + p) f = n2
  intro G2 b2 a23 h4 h37
  rw [b2, a23, s32_s32, s32_s32]
  have ets := G2.1.ts p0 (by omega)
  have G3 := Gx_ts (p := p) (v := s32 (m2 (s + 3) p + 1)) G2.1 p0 (by omega) (s32_s32 _)
  rw [ets] at G3
  rw [ets]
  have b3 : (mu n2 150 (206 + p) (s32 (n2 150 (206 + p) + 1))) 148 14 = 150 := G3.1.bn
  have a34 : (mu m2 (s + 3) p (s32 (n2 150 (206 + p) + 1))) s 4 = s + 4 := G3.1.1.2.1.2.2.2.1
  have h4 : (mu m2 (s + 3) p (s32 (n2 150 (206 + p) + 1))) (s + 4) f = 0 := by rw [mu_a (by omega)]; exact h4
  have h37 : (mu m2 (s + 3) p (s32 (n2 150 (206 + p) + 1))) 3 7 = a 3 7 := by rw [mu_a (by omega)]; exact h37
  revert G3 b3 a34 h4 h37
  generalize mu m2 (s + 3) p (s32 (n2 150 (206 + p) + 1)) = m3
  generalize mu n2 150 (206 + p) (s32 (n2 150 (206 + p) + 1)) = n3
  intro G3 b3 a34 h4 h37
  have GG := G1.tr (G2.tr G3)
  rw [b3, a34]
  have x0 := q142 G3.1 f0 (by omega) (k := 0) (by decide) (by decide)
  have x1 := q142 G3.1 f0 (by omega) (k := 1) (by decide) (by decide)
  have x2 := q142 G3.1 f0 (by omega) (k := 2) (by decide) (by decide)
  have hh : f134 m3 s f = 3 ↔ (L181_47 n3 148 p f 0).1 = 1 := by
    rw [f134_ok, L181_ok, x0.1, x0.2, x1.1, x1.2, x2.1, x2.2]
  by_cases c : f134 m3 s f = 3
  · rw [if_pos c, if_pos (hh.mp c)]
    obtain ⟨y0, y1, y2⟩ := f134_ok.mp c
    rw [x0.1] at y0
    rw [x1.1] at y1
    rw [x2.1] at y2
    have hs1 : s32 1 = 1 := s32_id (by decide) (by decide)
    rw [hs1]
    have a40 : (mu m3 (s + 4) f 1) s 0 = 3 := by rw [mu_a (by omega)]; exact G3.1.1.2.2.1
    have a45 : (mu m3 (s + 4) f 1) s 5 = s + 5 := by rw [mu_a (by omega)]; exact G3.1.1.2.1.2.2.2.2.1
    have hsp := G3.1.sp (f := f) f0 (by omega)
    have e85 : f85 (mu m3 (s + 4) f 1) 3 f = m3 7 f := by
      have t7 : (mu m3 (s + 4) f 1) 3 7 = m3 3 7 := mu_a (by omega)
      have t3 : (mu m3 (s + 4) f 1) 3 3 = 7 := by rw [mu_a (by omega)]; exact G3.1.1.1.2.2.2.1
      have t8 : (mu m3 (s + 4) f 1) 7 f = m3 7 f := mu_a (by omega)
      have t72 : f72 (mu m3 (s + 4) f 1) 3 f = 1 := by
        unfold f72
        rw [t7, if_neg (by omega), if_neg (by omega), if_neg (by omega)]
      unfold f85
      rw [t72, if_neg (by decide), t3, t8]
    rw [a40, a45, e85, s32_id (z := m3 7 f) (by omega) (by omega)]
    refine GG.tr (Gx_fo G3.1 f0 (by omega) (((Fr.rf _ _).mu (Or.inl ⟨Or.inl rfl, rfl⟩)).mu (Or.inl ⟨Or.inr rfl, rfl⟩)) ((Fr.rf _ _).mu ⟨rfl, Or.inl rfl⟩) ?_)
    obtain ⟨⟨g1, g1', g1''⟩, g2, g3, g4, g5, g6⟩ := G3.1.fo f0 (by omega)
    have e4 : (mu (mu m3 (s + 4) f 1) (s + 5) f (m3 7 f)) (s + 4) f = 1 := by rw [mu_a (by omega), mu_s]
    refine ⟨⟨?_, ?_, ?_⟩, fun _ => ⟨?_, ?_, ?_⟩, fun q => ?_, fun q => ?_, fun k k0 k1 => ?_, ?_⟩
    · show _ = mu n3 150 (182 + f) 1 150 (182 + f)
      rw [e4, mu_s]
    · rw [e4]; decide
    · rw [e4]; decide
    · rw [mu_s, mu_k (by omega)]
      exact g4 (by omega) (by omega)
    · rw [mu_s]; exact hsp.2.1
    · rw [mu_s]; exact hsp.2.2
    · rw [e4] at q; exact absurd q (by decide)
    · rw [e4] at q; exact absurd rfl q
    · rw [e4]
      obtain ⟨r1, r2, r3, r4⟩ := g5 k k0 k1
      rw [mu_a (a := s + 5) (b := s + 6) (by omega), mu_a (a := s + 4) (b := s + 6) (by omega), mu_k (by omega)]
      refine ⟨r1, r2, r3, fun _ => ?_⟩
      rcases (by omega : k = 0 ∨ k = 1 ∨ k = 2) with rfl | rfl | rfl
      · exact y0
      · exact y1
      · exact y2
    · rw [mu_a (by omega), mu_a (by omega), mu_a (by omega), mu_a (by omega)]; exact g6
  · rw [if_neg c, if_neg (fun q => c (hh.mpr q))]
    exact GG
