/-! Days drawn, days that go by. -/
set_option maxRecDepth 16384 in
theorem g138_8 {a : MM} {s p f z : Int} (hl : LSt a s) : (g138 a s p f z) s 8 = a s 8 := by
  obtain ⟨l1, l2, l3, l4, l5, l6⟩ := hl
  have e2 : ∀ j v, mu a (s + 6) j v s 2 = s + 2 := fun j v => by rw [mu_a (by omega)]; exact l2
  have e3 : ∀ j v j' v', mu (mu a (s + 6) j v) (s + 2) j' v' s 3 = s + 3 := fun j v j' v' => by rw [mu_a (by omega), mu_a (by omega)]; exact l3
  have e4 : ∀ j v j' v' j'' v'', mu (mu (mu a (s + 6) j v) (s + 2) j' v') (s + 3) j'' v'' s 4 = s + 4 := fun j v j' v' j'' v'' => by rw [mu_a (by omega), mu_a (by omega), mu_a (by omega)]; exact l4
  have e5 : ∀ j v j' v' j'' v'' k w, mu (mu (mu (mu a (s + 6) j v) (s + 2) j' v') (s + 3) j'' v'') (s + 4) k w s 5 = s + 5 := fun j v j' v' j'' v'' k w => by rw [mu_a (by omega), mu_a (by omega), mu_a (by omega), mu_a (by omega)]; exact l5
  unfold g138
  simp only [l6, e2, e3, e4, e5]
  split
  · rfl
  · split
    · rfl
    · split
      · rfl
      · split
        · rw [mu_a (by omega), mu_a (by omega), mu_a (by omega), mu_a (by omega), mu_a (by omega)]
        · rw [mu_a (by omega), mu_a (by omega), mu_a (by omega)]
set_option maxRecDepth 16384 in
theorem g108_8 {a : MM} {s x y d : Int} (hl : LSt a s) : (g108 a s x y d) s 8 = a s 8 := by
  obtain ⟨l1, -⟩ := hl
  unfold g108
  rw [l1]
  split
  · rfl
  · split
    · rfl
    · split
      · rfl
      · split
        · rfl
        · rw [mu_a (by omega)]
set_option maxRecDepth 16384 in
theorem g139_8 {a : MM} {s x v : Int} (hl : LSt a s) : (g139 a s x v) s 8 = a s 8 ∧ (g139 a s x v) s 6 = a s 6 := by
  obtain ⟨-, -, -, l4, -⟩ := hl
  unfold g139
  rw [l4]
  split
  · exact ⟨rfl, rfl⟩
  · rw [mu_a (by omega), mu_a (by omega)]
    exact ⟨rfl, rfl⟩
set_option maxRecDepth 16384 in
theorem g130_8 {a : MM} {s x : Int} (hl : LSt a s) : (g130 a s x) s 8 = a s 8 := by
  obtain ⟨q1, q2⟩ := g139_8 (x := x) (v := 0) hl
  obtain ⟨-, -, -, -, -, l6⟩ := hl
  unfold g130 L130_8
  refine Lp_ind (f := K130_8 (g139 a s x 0) s x 0 0) (P := fun t => t.2.2 s 8 = a s 8 ∧ t.2.2 s 6 = s + 6 ∧ 0 ≤ t.1 ∧ t.1 ≤ 3) (Q := fun t => t.2.2.2.2 s 8 = a s 8) (fun t => (3 - t.1).toNat) ?_ (0, 0, g139 a s x 0) ⟨q1, q2.trans l6, Int.le_refl _, by dsimp only; decide⟩
  rintro ⟨k, v, m⟩ ⟨p1, p2, p3, p4⟩
  dsimp only at p1 p2 p3 p4
  have e : K130_8 (g139 a s x 0) s x 0 0 (k, v, m) = S130_8 m s x k v := rfl
  rw [e]
  unfold S130_8
  by_cases c : 3 ≤ k
  · rw [if_pos c]; exact Or.inr ⟨_, rfl, p1⟩
  · rw [if_neg c, s32_id (z := k + 1) (by omega) (by omega)]
    by_cases d : f137 m x k < 0
    · rw [if_pos d]; exact Or.inl ⟨_, rfl, ⟨p1, p2, by dsimp only; omega, by dsimp only; omega⟩, by dsimp only; omega⟩
    · rw [if_neg d, p2]
      refine Or.inl ⟨_, rfl, ⟨?_, ?_, by dsimp only; omega, by dsimp only; omega⟩, by dsimp only; omega⟩
      · dsimp only; rw [mu_a (by omega)]; exact p1
      · dsimp only; rw [mu_a (by omega)]; exact p2
set_option maxRecDepth 16384 in
theorem p_act8 {a b : MM} {s : Int} (h : Sx a b s) {act x y : Int} (hi : Is a act x y) : (g135 a s act x y) s 8 = a s 8 := by
  have hl := h.1.2.1
  rcases hi with ⟨rfl, -⟩ | ⟨rfl | rfl, -⟩ | ⟨rfl | rfl, -⟩ | ⟨rfl | rfl, -⟩
  · rw [g135_0]; exact g138_8 hl
  · rw [g135_1]; exact g108_8 hl
  · rw [g135_2]; exact g108_8 hl
  · rw [g135_3, mu_k (by decide)]
  · rw [g135_4, mu_k (by decide)]
  · rw [g135_5]; exact (g139_8 hl).1
  · rw [g135_6]; exact g130_8 hl
set_option maxRecDepth 16384 in
theorem p_try8 {a b : MM} {s : Int} (h : Dx a b s) {act x y : Int} (hi : Is a act x y) : (g136 a s act x y) s 8 = a s 8 := by
  unfold g136
  split
  · exact p_act8 h.1 hi
  · rfl
set_option maxRecDepth 16384 in
theorem p_dr18 {a b : MM} {s : Int} (h : Dx a b s) {i : Int} (i0 : 0 ≤ i) (i1 : i < a 3 6) : (cA1 a s i) s 8 = a s 8 := by
  obtain ⟨e, e0, e8⟩ := h.1.f
  have hs := h.1.1.2.2.2.2
  unfold cA1
  rw [h.1.1.2.2.1]
  by_cases c : a 3 7 ≤ 0
  · rw [if_pos c]
  · rw [if_neg c]
    have G := p_dr h (a 3 7) (a 3 7)
    obtain ⟨d1, d2, d3⟩ := p_dv h (n := a 3 7) (by omega) e8
    have t6 : (g116 a s (a 3 7)) 3 6 = a 3 6 := G.2.1 3 6 (by unfold Qd Qa; omega)
    have t7 : (g116 a s (a 3 7)) 3 7 = a 3 7 := G.2.1 3 7 (by unfold Qd Qa; omega)
    rw [p_try8 G.1 (Or.inl ⟨rfl, i0, by omega, by omega, by omega⟩), g116_ok, mu_k (by decide)]
set_option maxRecDepth 16384 in
theorem p_dr28 {a b : MM} {s : Int} (h : Dx a b s) {i : Int} (i0 : 0 ≤ i) (i1 : i < a 3 6) : (cA2 a s i) s 8 = a s 8 := by
  have hs := h.1.1.2.2.2.2
  unfold cA2
  have G := p_dr h 6 6
  have t6 : (g116 a s 6) 3 6 = a 3 6 := G.2.1 3 6 (by unfold Qd Qa; omega)
  have t6' := G.1.1.p
  have G2 := p_dr G.1 ((g116 a s 6) 3 6) ((g116 a s 6) 3 6)
  obtain ⟨k1, k2, k3⟩ := p_dv G.1 (n := (g116 a s 6) 3 6) (by omega) (by omega)
  have t66 : (g116 (g116 a s 6) s ((g116 a s 6) 3 6)) 3 6 = (g116 a s 6) 3 6 := G2.2.1 3 6 (by unfold Qd Qa; omega)
  have t8 : (g116 a s 6) s 8 = a s 8 := by rw [g116_ok, mu_k (by decide)]
  have t88 : (g116 (g116 a s 6) s ((g116 a s 6) 3 6)) s 8 = a s 8 := by rw [g116_ok, mu_k (by decide)]; exact t8
  rw [G.1.1.1.2.2.1]
  by_cases c : 1 < f116 a s 6
  · rw [if_pos c]; exact t8
  · rw [if_neg c]
    by_cases c0 : f116 a s 6 = 0
    · rw [if_pos c0, p_try8 G2.1 (Or.inr (Or.inl ⟨Or.inr rfl, i0, by omega, by omega, by omega⟩))]
      exact t88
    · rw [if_neg c0, p_try8 G2.1 (Or.inr (Or.inl ⟨Or.inl rfl, i0, by omega, by omega, by omega⟩))]
      exact t88
set_option maxRecDepth 16384 in
theorem p_dr4 {a b : MM} {s : Int} (h : Dx a b s) (b1 b2 b3 u c1 c2 c3 c4 : Int) : Gd a b (L121_25 a s b1 b2 b3 0 u).2.2.2.2 (L183_33 b 148 c1 c2 c3 c4 0).2.2.2 s ∧ (L121_25 a s b1 b2 b3 0 u).2.2.2.2 s 8 = a s 8 := by
  obtain ⟨e, e0, e8⟩ := h.1.p
  have hs := h.1.1.2.2.2.2
  unfold L121_25 L183_33
  refine Lp_sim (f := K121_25 a s b1 b2 b3 0 u) (f' := K183_33 b 148 c1 c2 c3 c4 0) (P := fun x y => x.1 = y.1 ∧ 0 ≤ x.1 ∧ x.1 ≤ a 3 6 ∧ Gd a b x.2.2 y.2 s ∧ x.2.2 s 8 = a s 8) (Q := fun t t' => Gd a b t.2.2.2.2 t'.2.2.2 s ∧ t.2.2.2.2 s 8 = a s 8) (fun x => (a 3 6 - x.1).toNat) ?_ (0, u, a) (0, b) ⟨rfl, Int.le_refl _, e0, Gd.rf h, rfl⟩
  rintro ⟨i, v, m⟩ ⟨j, n⟩ ⟨q1, q2, q3, q4, q5⟩
  dsimp only at q1 q2 q3 q4 q5
  subst q1
  have t6 : m 3 6 = a 3 6 := q4.2.1 3 6 (by unfold Qd Qa; omega)
  obtain ⟨z1, z2, z3⟩ := q4.1.1.p
  by_cases c : a 3 6 ≤ i
  · refine Or.inr ⟨(1, 0, (i, v, m)), (1, 0, (i, n)), ?_, ?_, q4, q5⟩
    · show S121_25 m s b1 b2 b3 i v = _
      unfold S121_25
      rw [q4.1.1.1.2.2.1, if_pos (by omega)]
    · show S183_33 n 148 c1 c2 c3 c4 i = _
      unfold S183_33
      rw [q4.1.1.bn, if_pos (by omega)]
  · obtain ⟨v', e1⟩ := S121_ok m s b1 b2 b3 i v (by rw [q4.1.1.1.2.2.1]; omega)
    have e2 : S183_33 n 148 c1 c2 c3 c4 i = .inl (s32 (i + 1), g185 n 148 i) := by
      unfold S183_33
      rw [q4.1.1.bn, if_neg (by omega)]
    rw [g185_ok] at e2
    have x3 : s32 (i + 1) = i + 1 := s32_id (by omega) (by omega)
    rw [x3] at e1 e2
    have G1 := p_dr1 q4.1 (i := i) q2 (by omega)
    have t61 : (cA1 m s i) 3 6 = m 3 6 := G1.2.1 3 6 (by unfold Qd Qa; omega)
    have G2 := p_dr2 G1.1 (i := i) q2 (by omega)
    refine Or.inl ⟨_, _, e1, e2, ⟨rfl, by dsimp only; omega, by dsimp only; omega, q4.tr (G1.tr G2), ?_⟩, by dsimp only; omega⟩
    dsimp only
    rw [p_dr28 G1.1 (i := i) q2 (by omega), p_dr18 q4.1 (i := i) q2 (by omega)]
    exact q5
set_option maxRecDepth 16384 in
/-- days drawn alike -/
theorem p_draws {a b : MM} {s : Int} (h : Sx a b s) {n x : Int} (n1 : 1 ≤ n) (n60 : n ≤ 60) : f121 a s n x = f183 b 148 n x ∧ Gd a b (g121 a s n x) (g183 b 148 n x) s := by
  have hs := h.1.2.2.2.2
  have hday := h.day
  have D0 : Gd a b (mu a s 9 x) (mu b 148 35 x) s := by
    refine ⟨⟨Sx_b (Sx_a9 h _) (fun k => mu_a (by decide)) (mu_k (by decide)), ?_⟩, (Fr.rf _ _).mu (Or.inr ⟨rfl, rfl⟩), (Fr.rf _ _).mu (Or.inr ⟨rfl, rfl⟩)⟩
    rw [mu_s, mu_s]
  have d8 : (mu a s 9 x) s 8 = a s 8 := mu_k (by decide)
  unfold f121 g121 f183 g183
  rw [D0.1.1.bn, mu_a (a := 148) (b := 150) (by decide), ← hday.1, s32_id (z := 400 - a s 8) (by omega) (by omega)]
  revert D0 d8
  generalize mu a s 9 x = a1
  generalize mu b 148 35 x = b1
  intro D0 d8
  have hk : f220 b1 n (400 - a s 8) = if 400 - a s 8 ≤ n then 400 - a s 8 else n := rfl
  revert hk
  generalize f220 b1 n (400 - a s 8) = k
  intro hk
  have hk2 : k ≤ n ∧ k ≤ 400 - a s 8 ∧ 0 ≤ k ∧ (k = n ∨ k = 400 - a s 8) := by
    rw [hk]; split <;> omega
  clear hk
  unfold L121_7 L183_24
  refine Lp_sim (f := K121_7 a1 s n x 0 0 0) (f' := K183_24 b1 148 n x k 0 0) (P := fun t t' => t.1 = t'.1 ∧ 0 ≤ t.1 ∧ t.1 ≤ k ∧ Gd a b t.2.2.2 t'.2.2 s ∧ t.2.2.2 s 8 = a s 8 + t.1) (Q := fun t t' => t.2.2.1 = k ∧ Gd a b t.2.2.2.2.2 t'.2.2.2.2 s) (fun t => (k - t.1).toNat) ?_ (0, 0, 0, a1) (0, 0, b1) ⟨rfl, Int.le_refl _, by dsimp only; omega, D0, by dsimp only; omega⟩
  rintro ⟨i, u, v, m⟩ ⟨j, w, n'⟩ ⟨q1, q2, q3, q4, q5⟩
  dsimp only at q1 q2 q3 q4 q5
  subst q1
  by_cases c : k ≤ i
  · refine Or.inr ⟨(1, 0, (i, u, v, m)), (1, 0, (i, w, n')), ?_, ?_, ?_, q4⟩
    · show S121_7 m s n x i u v = _
      unfold S121_7
      by_cases d : n ≤ i
      · rw [if_pos d]
      · rw [if_neg d, if_pos (by omega)]
    · show S183_24 n' 148 n x k i w = _
      unfold S183_24
      rw [if_pos c]
    · dsimp only; omega
  · have e1 : S121_7 m s n x i u v = .inl (s32 (i + 1), (L121_25 m s n x i 0 v).2.2.1, (L121_25 m s n x i 0 v).2.2.2.1, g122 ((L121_25 m s n x i 0 v).2.2.2.2) s) := by
      unfold S121_7
      rw [if_neg (by omega), if_neg (by omega)]
    have e2 : S183_24 n' 148 n x k i w = .inl (s32 (i + 1), (L183_33 n' 148 n x k i 0).2.2.1, g231 ((L183_33 n' 148 n x k i 0).2.2.2) 148) := by
      unfold S183_24
      rw [if_neg c]
    have x3 : s32 (i + 1) = i + 1 := s32_id (by omega) (by omega)
    rw [x3] at e1 e2
    obtain ⟨G1, t8⟩ := p_dr4 q4.1 n x i v n x k i
    obtain ⟨G2, t9⟩ := p_day G1.1.1 (by omega)
    refine Or.inl ⟨_, _, e1, e2, ⟨rfl, by dsimp only; omega, by dsimp only; omega, q4.tr (G1.tr (Gd_of G1.1 G2)), ?_⟩, by dsimp only; omega⟩
    dsimp only
    rw [t9, t8, q5]
    omega
set_option maxRecDepth 16384 in
/-- days that go by alike -/
theorem p_days {a b : MM} {s : Int} (h : Sx a b s) {k y u w : Int} (k0 : 0 ≤ k) (hk : k ≤ 400 - a s 8) : Gx a b (L135_131 a s y k u 0).2.2.2 (L237_18 b 148 w k 0).2.2.2 s := by
  have hs := h.1.2.2.2.2
  have hday := h.day
  unfold L135_131 L237_18
  refine Lp_sim (f := K135_131 a s y k u 0) (f' := K237_18 b 148 w k 0) (P := fun t t' => t.1 = t'.1 ∧ 0 ≤ t.1 ∧ t.1 ≤ k ∧ Gx a b t.2 t'.2 s ∧ t.2 s 8 = a s 8 + t.1) (Q := fun t t' => Gx a b t.2.2.2 t'.2.2.2 s) (fun t => (k - t.1).toNat) ?_ (0, a) (0, b) ⟨rfl, Int.le_refl _, k0, Gx.rf h, by dsimp only; omega⟩
  rintro ⟨i, m⟩ ⟨j, n⟩ ⟨q1, q2, q3, q4, q5⟩
  dsimp only at q1 q2 q3 q4 q5
  subst q1
  by_cases c : k ≤ i
  · refine Or.inr ⟨(1, 0, (i, m)), (1, 0, (i, n)), ?_, ?_, q4⟩
    · show S135_131 m s y k u i = _
      unfold S135_131
      rw [if_pos c]
    · show S237_18 n 148 w k i = _
      unfold S237_18
      rw [if_pos c]
  · have e1 : S135_131 m s y k u i = .inl (s32 (i + 1), g122 m s) := by
      unfold S135_131
      rw [if_neg c]
    have e2 : S237_18 n 148 w k i = .inl (s32 (i + 1), g231 n 148) := by
      unfold S237_18
      rw [if_neg c]
    have x3 : s32 (i + 1) = i + 1 := s32_id (by omega) (by omega)
    rw [x3] at e1 e2
    obtain ⟨G2, t9⟩ := p_day q4.1 (by omega)
    refine Or.inl ⟨_, _, e1, e2, ⟨rfl, by dsimp only; omega, by dsimp only; omega, q4.tr G2, ?_⟩, by dsimp only; omega⟩
    dsimp only
    rw [t9, q5]
    omega
