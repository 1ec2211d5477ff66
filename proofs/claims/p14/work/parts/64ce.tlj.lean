/-! What the future may bring, asked alike: all is as it was behind it. -/
set_option maxRecDepth 16384 in
theorem C2_sn {a a' b b' : MM} (h : C2 a b) (ha : ∀ x k, PCs x k → a' x k = a x k) (hb : ∀ x k, PJs x k → ¬ (x = 150 ∧ 92 ≤ k) → b' x k = b x k) (hn : Sn a' b' 3 15 150 0) : C2 a' b' := by
  obtain ⟨⟨⟨d1, d2, d3, d4⟩, hS, hU⟩, h2, h3, h4, h5⟩ := h
  refine ⟨⟨⟨?_, ?_, ?_, ?_⟩, Sx_mk hS (fun x k q0 q1 k0 => ha x k (by unfold PCs; omega)) (fun k k0 k1 => ha _ _ (by unfold PCs; omega)) (ha _ _ (by unfold PCs; omega)) (hb _ _ (by unfold PJs; omega) (by omega)) (fun k k0 k1 => hb _ _ (by unfold PJs; omega) (by omega)) hn, Un_fr hU (fun x k q => ha x k (by unfold PCs; omega)) (fun k => hb _ _ (by unfold PJs; omega) (by omega)) (hb _ _ (by unfold PJs; omega) (by omega)) (hb _ _ (by unfold PJs; omega) (by omega))⟩, Nm_fr h2 (fun x k x0 x1 k0 => ha x k (by unfold PCs; omega)) (fun k => hb _ _ (by unfold PJs; omega) (by omega)), LayI_fr h3 (fun x k q => ha x k (by unfold PCs; omega)), LayJ_fr h4 (fun k k0 k1 => hb _ _ (by unfold PJs; omega) (by omega)), fun k k0 k1 => Ik_fr (h5 k k0 k1) (fun x j x0 x1 x2 j0 => ha x j (by unfold PCs; omega)) (fun j _ _ => hb _ _ (by unfold PJs; omega) (by omega)) (fun j _ _ => hb _ _ (by unfold PJs; omega) (by omega)) (hb _ _ (by unfold PJs; omega) (by omega))⟩
  · rw [ha _ _ (by unfold PCs; omega)]; exact d1
  · rw [ha _ _ (by unfold PCs; omega)]; exact d2
  · rw [ha _ _ (by unfold PCs; omega)]; exact d3
  · rw [ha _ _ (by unfold PCs; omega)]; exact d4
set_option maxRecDepth 16384 in
theorem L219_ok {b : MM} (h18 : b 148 18 = 154) (h14 : b 148 14 = 150) : g219 b 148 = fm b 154 (0 + 0) (0 + 122) (fun j => s32 (b 150 (92 + j))) := by
  unfold g219 L219_2
  have hl : Lp (K219_2 b 148 0) (0, b) = (1, 0, (122, fm b 154 (0 + 0) (0 + 122) (fun j => s32 (b 150 (92 + j))))) := by
    refine Lp_fill (f := K219_2 b 148 0) (i0 := 0) (n := 122) (base := 0) (d := 154) (by decide) (fun i i0 i1 => ?_) ?_
    · show S219_2 (fm b 154 (0 + 0) (0 + i) (fun j => s32 (b 150 (92 + j)))) 148 i = _
      unfold S219_2
      rw [if_neg (by omega), fm_n (b := 148) (by decide), fm_n (b := 148) (by decide), h14, h18, s32_id (z := 92 + i) (by omega) (by omega), s32_id (z := i + 1) (by omega) (by omega), fm_n (b := 150) (by decide), Int.zero_add i]
    · show S219_2 (fm b 154 (0 + 0) (0 + 122) (fun j => s32 (b 150 (92 + j)))) 148 122 = _
      unfold S219_2
      rw [if_pos (by decide)]
  rw [hl]
set_option maxRecDepth 16384 in
theorem L284_ok {b : MM} (h18 : b 148 18 = 154) (h14 : b 148 14 = 150) : g284 b 148 = fm b 150 (92 + 0) (92 + 122) (fun j => s32 (b 154 (j - 92))) := by
  unfold g284 L284_2
  have hl : Lp (K284_2 b 148 0) (0, b) = (1, 0, (122, fm b 150 (92 + 0) (92 + 122) (fun j => s32 (b 154 (j - 92))))) := by
    refine Lp_fill (f := K284_2 b 148 0) (i0 := 0) (n := 122) (base := 92) (d := 150) (by decide) (fun i i0 i1 => ?_) ?_
    · show S284_2 (fm b 150 (92 + 0) (92 + i) (fun j => s32 (b 154 (j - 92)))) 148 i = _
      unfold S284_2
      rw [if_neg (by omega), fm_n (b := 148) (by decide), fm_n (b := 148) (by decide), h14, h18, s32_id (z := 92 + i) (by omega) (by omega), s32_id (z := i + 1) (by omega) (by omega), fm_n (b := 154) (by decide)]
      have e : b 154 i = b 154 (92 + i - 92) := by congr 1; omega
      rw [e]
    · show S284_2 (fm b 150 (92 + 0) (92 + 122) (fun j => s32 (b 154 (j - 92)))) 148 122 = _
      unfold S284_2
      rw [if_pos (by decide)]
  rw [hl]
set_option maxRecDepth 16384 in
/-- the standing beside is made like the one that is so -/
theorem trial_ok {a b : MM} (h : C2 a b) : Sx (g113 a 22 15) b 22 ∧ Fr (PSt 22) a (g113 a 22 15) := by
  obtain ⟨⟨-, hS, -⟩, -, hI, -, -⟩ := h
  obtain ⟨i7, i8, i9⟩ := hI.2.2.2.2
  obtain ⟨⟨y1, y2, y3, y4, y5, y6, y7⟩, r, n⟩ := hS
  obtain ⟨f1, ⟨f2, f3⟩, f4, f5, f6⟩ := c113 (m := a) (x := 22) (y := 15) i7 y2 (by decide)
  have e : ∀ x k, x < 22 ∨ (x = 22 ∧ k < 7) ∨ k < 0 → (g113 a 22 15) x k = a x k := fun x k q => f1 x k (by unfold PSt; omega)
  have hS : Sx a b 15 := ⟨⟨y1, y2, y3, y4, y5, y6, y7⟩, r, n⟩
  refine ⟨⟨⟨LRo_fr y1 fun k _ _ => e _ _ (by omega), LSt_fr i7 fun k _ _ => e _ _ (by omega), ?_, y4, by decide, by decide, ?_⟩, Ro_fr r (fun x k _ _ _ => e _ _ (by omega)) (fun _ => rfl), ?_⟩, f1⟩
  · rw [e _ _ (by omega)]; exact i8
  · rw [e _ _ (by omega)]; exact i9
  · have nb : ∀ k, 92 ≤ k → k < 214 → b 150 (0 + k) = b 150 (0 + k) ∨ b 150 (0 + k) = s32 (b 150 (0 + k)) := fun k _ _ => Or.inl rfl
    exact Sn_cp n (e _ _ (by omega)) hS.f.2.2 (fun f f0 f1 => (hS.sp f0 f1).2) (fun f f0 f1 => ⟨e _ _ (by omega), e _ _ (by omega)⟩) ⟨f2, f3⟩ f4 f5 f6 nb
set_option maxRecDepth 16384 in
theorem odds_pair {a b : MM} (h : C2 a b) (h18 : b 148 18 = 154) (f n x : Int) : f24 a 0 f n x = f229 b 148 f n x ∧ C2 (g24 a 0 f n x) (g229 b 148 f n x) := by
  have h0 : C2 a (mu b 148 0 0) := C2_fr h (fun _ _ _ => rfl) (fun x j q => by
    by_cases c : x = 148
    · rw [c, mu_k (by unfold PJs at q; omega)]
    · rw [mu_a c])
  have h18' : (mu b 148 0 0) 148 18 = 154 := by rw [mu_k (by decide)]; exact h18
  unfold f24 g24 f229 g229
  rw [h.1.1.1, q72 h0.1.2.1]
  have i1 := i72 h.1.2.1 f
  rw [q72 h0.1.2.1] at i1
  have e9 : f209 (mu b 148 0 0) n 1 30 = if n < 1 then 0 else if 30 < n then 0 else 1 := rfl
  rw [e9]
  clear e9
  revert h0 i1 h18'
  generalize mu b 148 0 0 = b1
  intro h0 h18' i1
  rcases i1 with ⟨c, d⟩ | ⟨c, f0, f1⟩
  · rw [c]; simp only [if_pos z00]
    exact ⟨by simp, by simpa using h0⟩
  · rw [c]; simp only [if_neg n10]
    by_cases c1 : n < 1
    · simp only [if_pos c1, if_pos z00]
      exact ⟨by simp, by simpa using h0⟩
    · simp only [if_neg c1]
      by_cases c2 : n ≤ 30
      · have c2' : ¬ 30 < n := by omega
        simp only [if_pos c2, if_neg c2', if_neg n10]
        obtain ⟨⟨⟨d1, d2, d3, d4⟩, hS, hU⟩, hN, hI, hJ, hK⟩ := h0
        rw [L219_ok h18' hS.bn]
        have G1 : Fr (fun x k => x = 154) b1 (fm b1 154 (0 + 0) (0 + 122) (fun j => s32 (b1 150 (92 + j)))) := (Fr.rf _ _).fl fun _ _ _ => rfl
        have v1 : ∀ j, 0 ≤ j → j < 122 → (fm b1 154 (0 + 0) (0 + 122) (fun j => s32 (b1 150 (92 + j)))) 154 j = s32 (b1 150 (92 + j)) := fun j j0 j1 => fm_i (by omega) (by omega)
        revert G1 v1
        generalize fm b1 154 (0 + 0) (0 + 122) (fun j => s32 (b1 150 (92 + j))) = n1
        intro G1 v1
        have hC : C2 a n1 := C2_fr ⟨⟨⟨d1, d2, d3, d4⟩, hS, hU⟩, hN, hI, hJ, hK⟩ (fun _ _ _ => rfl) (fun x j q => G1 x j (by unfold PJs at q; omega))
        have hA : Sn a n1 3 15 154 (-92) := by
          refine Sn_cp hS.2.2 rfl hS.f.2.2 (fun f f0 f1 => (hS.sp f0 f1).2) (fun f f0 f1 => ⟨rfl, rfl⟩) ⟨rfl, rfl⟩ (fun j q1 q2 => rfl) (fun i j q1 q2 q3 q4 => rfl) (fun j q1 q2 => rfl) (fun j q1 q2 => Or.inr ?_)
          rw [show (-92 : Int) + j = j - 92 by omega, v1 (j - 92) (by omega) (by omega)]
          congr 2
          omega
        have w18 : n1 148 18 = 154 := by rw [G1 _ _ (by omega)]; exact h18'
        unfold L24_30 L229_35
        refine Lp_sim (f := K24_30 a 0 f n x 0 0) (f' := K229_35 n1 148 f n x 0 0) (P := fun s s' => s.1 = s'.1 ∧ s.2.1 = s'.2.1 ∧ 0 ≤ s.2.1 ∧ s.2.1 ≤ n ∧ C2 s.2.2 s'.2.2 ∧ Sn s.2.2 s'.2.2 3 15 154 (-92) ∧ s'.2.2 148 18 = 154 ∧ s.2.2 3 7 = a 3 7) (Q := fun t t' => t.2.2.1 = t'.2.2.1 ∧ C2 t.2.2.2.2 t'.2.2.2.2) (fun s => (n - s.2.1).toNat) ?_ (0, 0, a) (0, 0, n1) ⟨rfl, rfl, Int.le_refl _, by dsimp only; omega, hC, hA, w18, rfl⟩
        rintro ⟨g, i, m⟩ ⟨g', i', m'⟩ ⟨k1, k2, k3, k4, k5, k6, k7, k8⟩
        dsimp only at k1 k2 k3 k4 k5 k6 k7 k8
        subst k1 k2
        by_cases e : n ≤ i
        · refine Or.inr ⟨(1, 0, (g, i, m)), (1, 0, (g, i, m')), ?_, ?_, rfl, k5⟩
          · show S24_30 m 0 f n x g i = _
            unfold S24_30
            rw [if_pos e]
          · show S229_35 m' 148 f n x g i = _
            unfold S229_35
            rw [if_pos e]
        · obtain ⟨T1, T2⟩ := trial_ok k5
          have k5' := k5
          obtain ⟨⟨⟨d1, d2, d3, d4⟩, hS, hU⟩, hN, hI, hJ, hK⟩ := k5
          have eA : K24_30 a 0 f n x 0 0 (g, i, m) = S24_30 m 0 f n x g i := rfl
          have eB : K229_35 n1 148 f n x 0 0 (g, i, m') = S229_35 m' 148 f n x g i := rfl
          rw [eA, eB]
          unfold S24_30 S229_35
          rw [if_neg e, if_neg e, d4, d2]
          have t4 : (g113 m 22 15) 0 4 = 22 := by rw [T2 _ _ (by unfold PSt; omega)]; exact d4
          rw [t4]
          have t37 : (g113 m 22 15) 3 7 = m 3 7 := T2 _ _ (by unfold PSt; omega)
          obtain ⟨-, D⟩ := p_draws T1 (n := 20) (x := s32 (x + i)) (by decide) (by decide)
          revert T1 T2 t4 t37 D
          generalize g113 m 22 15 = m1
          intro T1 T2 t4 t37 D
          have t4' : (g121 m1 22 20 (s32 (x + i))) 0 4 = 22 := by rw [D.2.1 _ _ (by unfold Qd Qa; omega)]; exact t4
          have t37' : (g121 m1 22 20 (s32 (x + i))) 3 7 = m1 3 7 := D.2.1 _ _ (by unfold Qd Qa; omega)
          have q := q127 D.1.1 (f := f) f0 (by omega)
          rw [t4', q.1, D.1.1.bn, q.2]
          have w18' : (g183 m' 148 20 (s32 (x + i))) 148 18 = 154 := by rw [D.2.2 _ _ (by unfold Qc Qb; omega)]; exact k7
          rw [L284_ok w18' D.1.1.bn]
          have Fx : ∀ y k, (y < 22 ∨ 28 < y ∨ (y = 22 ∧ k < 7) ∨ k < 0) → (g121 m1 22 20 (s32 (x + i))) y k = m y k := fun y k q => by rw [D.2.1 y k (by unfold Qd Qa; omega), T2 y k (by unfold PSt; omega)]
          have Gx' : ∀ y k, ¬ (y = 150 ∧ 92 ≤ k) → ¬ (y = 148 ∧ k = 35) → (fm (g183 m' 148 20 (s32 (x + i))) 150 (92 + 0) (92 + 122) (fun j => s32 ((g183 m' 148 20 (s32 (x + i))) 154 (j - 92)))) y k = m' y k := fun y k q1 q2 => by
            by_cases c : y = 150
            · rw [c, fm_o (by omega), D.2.2 _ _ (by unfold Qc Qb; omega)]
            · rw [fm_n c, D.2.2 _ _ (by unfold Qc Qb; omega)]
          have Vx : ∀ k, 92 ≤ k → k < 214 → (fm (g183 m' 148 20 (s32 (x + i))) 150 (92 + 0) (92 + 122) (fun j => s32 ((g183 m' 148 20 (s32 (x + i))) 154 (j - 92)))) 150 k = s32 (m' 154 (k - 92)) := fun k q1 q2 => by
            rw [fm_i (by omega) (by omega), D.2.2 _ _ (by unfold Qc Qb; omega)]
          revert Fx Gx' Vx
          generalize (fm (g183 m' 148 20 (s32 (x + i))) 150 (92 + 0) (92 + 122) (fun j => s32 ((g183 m' 148 20 (s32 (x + i))) 154 (j - 92)))) = n3
          intro Fx Gx' Vx
          have hn : Sn (g121 m1 22 20 (s32 (x + i))) n3 3 15 150 0 := by
            refine Sn_cp k6 (Fx _ _ (by omega)) hS.f.2.2 (fun f f0 f1 => (hS.sp f0 f1).2) (fun f f0 f1 => ⟨Fx _ _ (by omega), Fx _ _ (by omega)⟩) ⟨Fx _ _ (by omega), Fx _ _ (by omega)⟩ (fun j q1 q2 => Fx _ _ (by omega)) (fun i j q1 q2 q3 q4 => Fx _ _ (by omega)) (fun j q1 q2 => Fx _ _ (by omega)) (fun j q1 q2 => Or.inr ?_)
            rw [Int.zero_add, Vx j q1 q2]
            congr 2
            omega
          have hA' : Sn (g121 m1 22 20 (s32 (x + i))) n3 3 15 154 (-92) := Sn_fr k6 (fun y k _ _ _ => Fx _ _ (by omega)) (fun y k _ _ _ => Fx _ _ (by omega)) (fun k => Gx' _ _ (by omega) (by omega))
          have hC' : C2 (g121 m1 22 20 (s32 (x + i))) n3 := C2_sn k5' (fun y k q => Fx y k (by unfold PCs at q; omega)) (fun y k q q2 => Gx' y k q2 (by unfold PJs at q; omega)) hn
          have z1 : s32 (i + 1) = i + 1 := s32_id (by omega) (by omega)
          have p37 : (g121 m1 22 20 (s32 (x + i))) 3 7 = a 3 7 := by rw [t37', t37]; exact k8
          by_cases cc : (g121 m1 22 20 (s32 (x + i))) (22 + 4) f = 2
          · rw [if_pos cc, if_pos cc, z1]
            exact Or.inl ⟨_, _, rfl, rfl, ⟨rfl, rfl, by dsimp only; omega, by dsimp only; omega, hC', hA', by dsimp only; rw [Gx' _ _ (by omega) (by omega)]; exact k7, p37⟩, by dsimp only; omega⟩
          · rw [if_neg cc, if_neg cc, z1]
            exact Or.inl ⟨_, _, rfl, rfl, ⟨rfl, rfl, by dsimp only; omega, by dsimp only; omega, hC', hA', by dsimp only; rw [Gx' _ _ (by omega) (by omega)]; exact k7, p37⟩, by dsimp only; omega⟩
      · have c2' : 30 < n := by omega
        simp only [if_neg c2, if_pos c2', if_pos z00]
        exact ⟨by simp, by simpa using h0⟩
