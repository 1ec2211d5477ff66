/-! Days drawn. -/
set_option maxRecDepth 16384 in
theorem ushr_rng (a : Int32) : 0 ≤ ((a.toUInt32 >>> ((Int32.ofInt 8).toUInt32 &&& Int32.toUInt32 31)).toInt32).toInt ∧ ((a.toUInt32 >>> ((Int32.ofInt 8).toUInt32 &&& Int32.toUInt32 31)).toInt32).toInt < 16777216 := by
  have h8 : (Int32.ofInt 8).toUInt32 &&& Int32.toUInt32 31 = 8 := by decide
  rw [h8]
  generalize a.toUInt32 = u
  have hn : (u >>> 8).toNat < 16777216 := by
    rw [UInt32.toNat_shiftRight]
    have h1 : (8 : UInt32).toNat % 32 = 8 := by decide
    rw [h1, Nat.shiftRight_eq_div_pow]
    have := u.toNat_lt
    omega
  have e : ((u >>> 8).toInt32).toInt = ((u >>> 8).toNat : Int) := by
    show BitVec.toInt (u >>> 8).toBitVec = _
    rw [BitVec.toInt_eq_toNat_of_lt]
    · rfl
    · show 2 * (u >>> 8).toNat < _
      omega
  rw [e]
  omega
set_option maxRecDepth 16384 in
theorem rem_rng (X Y : Int32) (n : Int) (hX : 0 ≤ X.toInt) (hY : Y.toInt = n) (h0 : 0 < n) : 0 ≤ (X - X / Y * Y).toInt ∧ (X - X / Y * Y).toInt < n := by
  have bm : ∀ z : Int, -2147483648 ≤ z → z < 2147483648 → z.bmod (2 ^ 32) = z := fun z h1 h2 => by
    rw [← Int32.toInt_ofInt, Int32.toInt_ofInt_of_le h1 h2]
  have hx := X.toInt_lt
  have hy := Y.toInt_lt
  have q0 : 0 ≤ X.toInt / n := Int.ediv_nonneg hX (by omega)
  have q1 : X.toInt / n * n ≤ X.toInt := Int.ediv_mul_le _ (by omega)
  have q2 : X.toInt < (X.toInt / n + 1) * n := Int.lt_ediv_add_one_mul_self _ h0
  have q3 : X.toInt / n ≤ X.toInt := Int.ediv_le_self _ hX
  have q4 : (X.toInt / n + 1) * n = X.toInt / n * n + n := by rw [Int.add_mul, Int.one_mul]
  have hd : (X / Y).toInt = X.toInt / n := by
    rw [Int32.toInt_div, hY, Int.tdiv_eq_ediv_of_nonneg hX, bm _ (by omega) (by omega)]
  have q5 : 0 ≤ X.toInt / n * n := Int.mul_nonneg q0 (by omega)
  have hm : (X / Y * Y).toInt = X.toInt / n * n := by
    rw [Int32.toInt_mul, hd, hY, bm _ (by omega) (by omega)]
  have hs : (X - X / Y * Y).toInt = X.toInt - X.toInt / n * n := by
    rw [Int32.toInt_sub, hm, bm _ (by omega) (by omega)]
  rw [hs]
  omega
set_option maxRecDepth 16384 in
theorem jr_rng (x n : Int) (h0 : 0 < n) (h8 : n ≤ 8) : 0 ≤ jrem (jushr x 8) n ∧ jrem (jushr x 8) n < n := by
  rw [jrem_eq, jushr_eq]
  unfold o32
  rw [Int32.ofInt_toInt]
  exact rem_rng _ _ n (ushr_rng _).1 (Int32.toInt_ofInt_of_le (by omega) (by omega)) h0
set_option maxRecDepth 16384 in
/-- the next of what is drawn from -/
noncomputable def Dw (x : Int) : Int := s32 (s32 (x * 1103515245) + 12345)
set_option maxRecDepth 16384 in
noncomputable def Dd (x n : Int) : Int := jrem (jushr x 8) n
set_option maxRecDepth 16384 in
theorem g116_ok (m : MM) (s n : Int) : g116 m s n = mu m s 9 (Dw (m s 9)) := by
  unfold g116 Dw
  split <;> rfl
set_option maxRecDepth 16384 in
theorem f116_ok (m : MM) (s n : Int) (h : 0 < n) : f116 m s n = Dd (Dw (m s 9)) n := by
  unfold f116 Dd Dw
  rw [if_neg (by omega), mu_s]
set_option maxRecDepth 16384 in
theorem g182_ok (m : MM) (n : Int) : g182 m 148 n = mu m 148 35 (Dw (m 148 35)) := rfl
set_option maxRecDepth 16384 in
theorem f182_ok (m : MM) (n : Int) : f182 m 148 n = Dd (Dw (m 148 35)) n := by
  unfold f182 Dd Dw
  rw [mu_s]
set_option maxRecDepth 16384 in
def Qd (s x k : Int) : Prop := Qa s x k ∨ (x = s ∧ k = 9)
set_option maxRecDepth 16384 in
def Qc (x k : Int) : Prop := Qb x k ∨ (x = 148 ∧ k = 35)
set_option maxRecDepth 16384 in
/-- alike, what is drawn from too -/
def Dx (a b : MM) (s : Int) : Prop := Sx a b s ∧ a s 9 = b 148 35
set_option maxRecDepth 16384 in
def Gd (a b a' b' : MM) (s : Int) : Prop := Dx a' b' s ∧ Fr (Qd s) a a' ∧ Fr Qc b b'
set_option maxRecDepth 16384 in
theorem Gd.tr {a b a1 b1 a2 b2 : MM} {s : Int} (h1 : Gd a b a1 b1 s) (h2 : Gd a1 b1 a2 b2 s) : Gd a b a2 b2 s := ⟨h2.1, h1.2.1.tr h2.2.1, h1.2.2.tr h2.2.2⟩
set_option maxRecDepth 16384 in
theorem Gd.rf {a b : MM} {s : Int} (h : Dx a b s) : Gd a b a b s := ⟨h, Fr.rf _ _, Fr.rf _ _⟩
set_option maxRecDepth 16384 in
theorem Gd_of {a b a' b' : MM} {s : Int} (h : Dx a b s) (g : Gx a b a' b' s) : Gd a b a' b' s := by
  have hs := h.1.1.2.2.2.2
  refine ⟨⟨g.1, ?_⟩, g.2.1.mo fun x k q => Or.inl q, g.2.2.mo fun x k q => Or.inl q⟩
  rw [g.2.1 s 9 (by unfold Qa; omega), g.2.2 148 35 (by unfold Qb; omega)]
  exact h.2
set_option maxRecDepth 16384 in
theorem Sx_b {a b b' : MM} {s : Int} (h : Sx a b s) (e : ∀ k, b' 150 k = b 150 k) (e' : b' 148 14 = b 148 14) : Sx a b' s := by
  have e1 : b' 150 = b 150 := funext e
  unfold Sx Ro Sn Fo at *
  rw [e1, e']
  exact h
set_option maxRecDepth 16384 in
theorem Sx_a9 {a b : MM} {s : Int} (h : Sx a b s) (v : Int) : Sx (mu a s 9 v) b s := by
  have hs := h.1.2.2.2.2
  obtain ⟨⟨⟨x0, x1, x2, x3, x4⟩, ⟨y1, y2, y3, y4, y5, y6⟩, z, w, s9, s140, sl⟩, ⟨⟨c1, c2, c3⟩, ⟨c4, c5, c6⟩, ⟨c7, c8⟩, c9, c10⟩, ⟨d1, d2, d3, d4, d5⟩⟩ := h
  have e3 : ∀ k, mu a s 9 v 3 k = a 3 k := fun k => mu_a (by omega)
  have e6 : ∀ k, mu a s 9 v 6 k = a 6 k := fun k => mu_a (by omega)
  have e7 : ∀ k, mu a s 9 v 7 k = a 7 k := fun k => mu_a (by omega)
  have e8 : ∀ k, mu a s 9 v 8 k = a 8 k := fun k => mu_a (by omega)
  have es : ∀ k, k < 9 → mu a s 9 v s k = a s k := fun k hk => mu_k (by omega)
  have ei : ∀ i k, 1 ≤ i → mu a s 9 v (s + i) k = a (s + i) k := fun i k hi => mu_a (by omega)
  have i3 : ∀ k, mu a s 9 v (3 + 3) k = a (3 + 3) k := e6
  have i4 : ∀ k, mu a s 9 v (3 + 4) k = a (3 + 4) k := e7
  have i5 : ∀ k, mu a s 9 v (3 + 5) k = a (3 + 5) k := e8
  refine ⟨⟨⟨?_, ?_, ?_, ?_, ?_⟩, ⟨?_, ?_, ?_, ?_, ?_, ?_⟩, ?_, w, s9, s140, ?_⟩, ⟨⟨?_, ?_, ?_⟩, ⟨?_, ?_, ?_⟩, ⟨?_, ?_⟩, fun k k0 k1 => ?_, fun k k0 k1 => ?_⟩, ⟨?_, ?_, fun k k0 k1 => ?_, fun p p0 p1 => ?_, fun f f0 f1 => ?_⟩⟩
  · rw [e3]; exact x0
  · rw [e3]; exact x1
  · rw [e3]; exact x2
  · rw [e3]; exact x3
  · rw [e3]; exact x4
  · rw [es _ (by decide)]; exact y1
  · rw [es _ (by decide)]; exact y2
  · rw [es _ (by decide)]; exact y3
  · rw [es _ (by decide)]; exact y4
  · rw [es _ (by decide)]; exact y5
  · rw [es _ (by decide)]; exact y6
  · rw [es _ (by decide)]; exact z
  · rw [ei _ _ (by decide)]; exact sl
  · rw [e3]; exact c1
  · rw [e3]; exact c2
  · rw [e3]; exact c3
  · rw [e3]; exact c4
  · rw [e3]; exact c5
  · rw [e3]; exact c6
  · rw [e3]; exact c7
  · rw [e3]; exact c8
  · rw [i5]; exact c9 k k0 k1
  · rw [e3] at k1
    rw [i3, i4]; exact c10 k k0 k1
  · rw [es _ (by decide)]; exact d1
  · rw [es _ (by decide)]; exact d2
  · rw [ei _ _ (by decide)]; exact d3 k k0 k1
  · rw [ei _ _ (by decide), ei _ _ (by decide)]; exact d4 p p0 p1
  · rw [e3] at f1
    have := d5 f f0 f1
    unfold Fo at *
    rw [ei 4 _ (by decide), ei 5 _ (by decide), i3, i4, ei 6 (3 * f + 1) (by decide)]
    refine ⟨this.1, this.2.1, this.2.2.1, this.2.2.2.1, fun k k0 k1 => ?_, this.2.2.2.2.2⟩
    rw [ei 6 _ (by decide)]
    exact this.2.2.2.2.1 k k0 k1
set_option maxRecDepth 16384 in
/-- a draw alike -/
theorem p_dr {a b : MM} {s : Int} (h : Dx a b s) (n n' : Int) : Gd a b (g116 a s n) (g182 b 148 n') s := by
  rw [g116_ok, g182_ok, h.2]
  refine ⟨⟨Sx_b (Sx_a9 h.1 _) (fun k => mu_a (by decide)) (mu_k (by decide)), ?_⟩, (Fr.rf _ _).mu (Or.inr ⟨rfl, rfl⟩), (Fr.rf _ _).mu (Or.inr ⟨rfl, rfl⟩)⟩
  rw [mu_s, mu_s]
set_option maxRecDepth 16384 in
theorem p_dv {a b : MM} {s : Int} (h : Dx a b s) {n : Int} (h0 : 0 < n) (h8 : n ≤ 8) : f116 a s n = f182 b 148 n ∧ 0 ≤ f182 b 148 n ∧ f182 b 148 n < n := by
  rw [f116_ok a s n h0, f182_ok, h.2]
  exact ⟨rfl, (jr_rng _ n h0 h8).1, (jr_rng _ n h0 h8).2⟩
set_option maxRecDepth 16384 in
/-- an act tried -/
noncomputable def tB (n : MM) (act x y : Int) : MM := if f290 n 148 act x y = 0 then g222 n 148 act x y else n
set_option maxRecDepth 16384 in
theorem p_try {a b : MM} {s : Int} (h : Dx a b s) {act x y : Int} (hi : Is a act x y) : Gd a b (g136 a s act x y) (tB b act x y) s := by
  unfold g136 tB
  rw [← q146 h.1 hi]
  by_cases c : f146 a s act x y = 0
  · rw [if_pos c, if_pos c]; exact Gd_of h (p_act h.1 hi c)
  · rw [if_neg c, if_neg c]; exact Gd.rf h
set_option maxRecDepth 16384 in
noncomputable def cA1 (m : MM) (s i : Int) : MM := if m (m s 0) 7 ≤ 0 then m else g136 (g116 m s (m (m s 0) 7)) s 0 i (f116 m s (m (m s 0) 7))
set_option maxRecDepth 16384 in
noncomputable def cA2 (m : MM) (s i : Int) : MM := if 1 < f116 m s 6 then g116 m s 6 else if f116 m s 6 = 0 then g136 (g116 (g116 m s 6) s ((g116 m s 6) ((g116 m s 6) s 0) 6)) s 2 i (f116 (g116 m s 6) s ((g116 m s 6) ((g116 m s 6) s 0) 6)) else g136 (g116 (g116 m s 6) s ((g116 m s 6) ((g116 m s 6) s 0) 6)) s 1 i (f116 (g116 m s 6) s ((g116 m s 6) ((g116 m s 6) s 0) 6))
set_option maxRecDepth 16384 in
noncomputable def cB1 (n : MM) (i : Int) : MM := if n (n 148 14) 1 ≤ 0 then n else tB (g182 n 148 (n (n 148 14) 1)) 0 i (f182 n 148 (n (n 148 14) 1))
set_option maxRecDepth 16384 in
noncomputable def cB2 (n : MM) (i : Int) : MM := if f182 n 148 6 ≤ 1 then (if f182 n 148 6 = 0 then tB (g182 (g182 n 148 6) 148 ((g182 n 148 6) ((g182 n 148 6) 148 14) 0)) 2 i (f182 (g182 n 148 6) 148 ((g182 n 148 6) ((g182 n 148 6) 148 14) 0)) else tB (g182 (g182 n 148 6) 148 ((g182 n 148 6) ((g182 n 148 6) 148 14) 0)) 1 i (f182 (g182 n 148 6) 148 ((g182 n 148 6) ((g182 n 148 6) 148 14) 0))) else g182 n 148 6
set_option maxRecDepth 16384 in
theorem S121_ok (m : MM) (s b1 b2 b3 i u : Int) (h : ¬ m (m s 0) 6 ≤ i) : ∃ v, S121_25 m s b1 b2 b3 i u = .inl (s32 (i + 1), v, cA2 (cA1 m s i) s i) := by
  unfold S121_25 cA2 cA1
  rw [if_neg h]
  by_cases c : m (m s 0) 7 ≤ 0
  · rw [if_pos c, if_pos c]
    split
    · exact ⟨_, rfl⟩
    · split <;> exact ⟨_, rfl⟩
  · rw [if_neg c, if_neg c]
    split
    · exact ⟨_, rfl⟩
    · split <;> exact ⟨_, rfl⟩
set_option maxRecDepth 16384 in
theorem g185_ok (n : MM) (i : Int) : g185 n 148 i = cB2 (cB1 n i) i := by
  unfold g185 cB2 cB1 tB
  by_cases c : n (n 148 14) 1 ≤ 0
  · rw [if_pos c, if_pos c]
  · rw [if_neg c, if_neg c]
    by_cases d : f290 (g182 n 148 (n (n 148 14) 1)) 148 0 i (f182 n 148 (n (n 148 14) 1)) = 0
    · rw [if_pos d, if_pos d]
    · rw [if_neg d, if_neg d]
set_option maxRecDepth 16384 in
theorem p_dr1 {a b : MM} {s : Int} (h : Dx a b s) {i : Int} (i0 : 0 ≤ i) (i1 : i < a 3 6) : Gd a b (cA1 a s i) (cB1 b i) s := by
  obtain ⟨e, e0, e8⟩ := h.1.f
  have hs := h.1.1.2.2.2.2
  unfold cA1 cB1
  rw [h.1.1.2.2.1, h.1.bn, ← e]
  by_cases c : a 3 7 ≤ 0
  · rw [if_pos c, if_pos c]; exact Gd.rf h
  · rw [if_neg c, if_neg c]
    have G := p_dr h (a 3 7) (a 3 7)
    obtain ⟨d1, d2, d3⟩ := p_dv h (n := a 3 7) (by omega) e8
    rw [d1]
    have t6 : (g116 a s (a 3 7)) 3 6 = a 3 6 := G.2.1 3 6 (by unfold Qd Qa; omega)
    have t7 : (g116 a s (a 3 7)) 3 7 = a 3 7 := G.2.1 3 7 (by unfold Qd Qa; omega)
    exact G.tr (p_try G.1 (Or.inl ⟨rfl, i0, by omega, d2, by omega⟩))
set_option maxRecDepth 16384 in
theorem p_dr2 {a b : MM} {s : Int} (h : Dx a b s) {i : Int} (i0 : 0 ≤ i) (i1 : i < a 3 6) : Gd a b (cA2 a s i) (cB2 b i) s := by
  have hs := h.1.1.2.2.2.2
  unfold cA2 cB2
  have G := p_dr h 6 6
  obtain ⟨d1, d2, d3⟩ := p_dv h (n := 6) (by decide) (by decide)
  rw [d1]
  have t6 : (g116 a s 6) 3 6 = a 3 6 := G.2.1 3 6 (by unfold Qd Qa; omega)
  have t6' := G.1.1.p
  have G2 := p_dr G.1 ((g116 a s 6) 3 6) ((g116 a s 6) 3 6)
  obtain ⟨k1, k2, k3⟩ := p_dv G.1 (n := (g116 a s 6) 3 6) (by omega) (by omega)
  have t66 : (g116 (g116 a s 6) s ((g116 a s 6) 3 6)) 3 6 = (g116 a s 6) 3 6 := G2.2.1 3 6 (by unfold Qd Qa; omega)
  rw [G.1.1.1.2.2.1, G.1.1.bn, ← t6'.1, k1]
  by_cases c : 1 < f182 b 148 6
  · rw [if_pos c, if_neg (by omega)]; exact G
  · rw [if_neg c, if_pos (show f182 b 148 6 ≤ 1 by omega)]
    by_cases c0 : f182 b 148 6 = 0
    · rw [if_pos c0, if_pos c0]
      exact G.tr (G2.tr (p_try G2.1 (Or.inr (Or.inl ⟨Or.inr rfl, i0, by omega, k2, by omega⟩))))
    · rw [if_neg c0, if_neg c0]
      exact G.tr (G2.tr (p_try G2.1 (Or.inr (Or.inl ⟨Or.inl rfl, i0, by omega, k2, by omega⟩))))
set_option maxRecDepth 16384 in
/-- all persons of a day -/
theorem p_dr3 {a b : MM} {s : Int} (h : Dx a b s) (b1 b2 b3 u c1 c2 c3 c4 : Int) : Gd a b (L121_25 a s b1 b2 b3 0 u).2.2.2.2 (L183_33 b 148 c1 c2 c3 c4 0).2.2.2 s := by
  obtain ⟨e, e0, e8⟩ := h.1.p
  have hs := h.1.1.2.2.2.2
  unfold L121_25 L183_33
  refine Lp_sim (f := K121_25 a s b1 b2 b3 0 u) (f' := K183_33 b 148 c1 c2 c3 c4 0) (P := fun x y => x.1 = y.1 ∧ 0 ≤ x.1 ∧ x.1 ≤ a 3 6 ∧ Gd a b x.2.2 y.2 s) (Q := fun t t' => Gd a b t.2.2.2.2 t'.2.2.2 s) (fun x => (a 3 6 - x.1).toNat) ?_ (0, u, a) (0, b) ⟨rfl, Int.le_refl _, e0, Gd.rf h⟩
  rintro ⟨i, v, m⟩ ⟨j, n⟩ ⟨q1, q2, q3, q4⟩
  dsimp only at q1 q2 q3 q4
  subst q1
  have t6 : m 3 6 = a 3 6 := q4.2.1 3 6 (by unfold Qd Qa; omega)
  obtain ⟨z1, z2, z3⟩ := q4.1.1.p
  by_cases c : a 3 6 ≤ i
  · refine Or.inr ⟨(1, 0, (i, v, m)), (1, 0, (i, n)), ?_, ?_, q4⟩
    · show S121_25 m s b1 b2 b3 i v = _
      unfold S121_25
      rw [q4.1.1.1.2.2.1, if_pos (by omega)]
    · show S183_33 n 148 c1 c2 c3 c4 i = _
      unfold S183_33
      rw [q4.1.1.bn, if_pos (by omega)]
  · obtain ⟨v', e1⟩ := S121_ok m s b1 b2 b3 i v (by rw [q4.1.1.1.2.2.1]; omega)
    have e2 : S183_33 n 148 c1 c2 c3 c4 i = .inl (s32 (i + 1), g185 n 148 i) := by
      unfold S183_33
      rw [q4.1.1.bn, if_neg (by omega)]
    rw [g185_ok] at e2
    have x3 : s32 (i + 1) = i + 1 := s32_id (by omega) (by omega)
    rw [x3] at e1 e2
    have G1 := p_dr1 q4.1 (i := i) q2 (by omega)
    have t61 : (cA1 m s i) 3 6 = m 3 6 := G1.2.1 3 6 (by unfold Qd Qa; omega)
    have G2 := p_dr2 G1.1 (i := i) q2 (by omega)
    exact Or.inl ⟨_, _, e1, e2, ⟨rfl, by dsimp only; omega, by dsimp only; omega, q4.tr (G1.tr G2)⟩, by dsimp only; omega⟩
