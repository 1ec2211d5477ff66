section
/-! Acts: grudges, the drawer, forms voided and lodged. -/
set_option maxRecDepth 16384 in
theorem bv_or (x y : BitVec 32) (h : x &&& y = 0#32) : x ||| y = x ^^^ y := by
  apply BitVec.eq_of_getLsbD_eq
  intro i hi
  have := congrArg (fun z => z.getLsbD i) h
  simp only [BitVec.getLsbD_and, BitVec.getLsbD_zero] at this
  simp only [BitVec.getLsbD_or, BitVec.getLsbD_xor]
  revert this
  cases x.getLsbD i <;> cases y.getLsbD i <;> decide
set_option maxRecDepth 16384 in
theorem bv_bk (x : BitVec 32) (i : Nat) (h : x &&& BitVec.twoPow 32 i ≠ 0#32) : x &&& (BitVec.twoPow 32 i ^^^ BitVec.allOnes 32) = x ^^^ BitVec.twoPow 32 i := by
  have hx : x.getLsbD i = true := by
    cases c : x.getLsbD i with
    | true => rfl
    | false =>
      exfalso; apply h
      rw [BitVec.and_twoPow, c]
      rfl
  apply BitVec.eq_of_getLsbD_eq
  intro j hj
  rw [BitVec.getLsbD_and, BitVec.getLsbD_xor, BitVec.getLsbD_xor, BitVec.getLsbD_twoPow, BitVec.getLsbD_allOnes]
  by_cases c : i = j
  · subst c
    rw [hx]
    simp [hj]
  · simp [c, hj]
set_option maxRecDepth 16384 in
theorem jor_x (r t : Int) (h : jand r t = 0) : jor r t = jxor r t := by
  rw [jand_eq] at h
  rw [jor_eq, jxor_eq]
  unfold o32 at *
  have h2 := i32_z.mp h
  rw [Int32.toBitVec_and] at h2
  have h3 := bv_or _ _ h2
  congr 1
  rw [← Int32.toBitVec_inj, Int32.toBitVec_or, Int32.toBitVec_xor]
  exact h3
set_option maxRecDepth 16384 in
theorem jbk_i (r : Int) (T : Int32) (i : Nat) (hT : T.toBitVec = BitVec.twoPow 32 i) (h : (Int32.ofInt r &&& T).toInt ≠ 0) : (Int32.ofInt r &&& (T ^^^ Int32.ofInt (-1))) = (Int32.ofInt r ^^^ T) := by
  have h2 : (Int32.ofInt r).toBitVec &&& BitVec.twoPow 32 i ≠ 0#32 := by
    intro q
    apply h
    rw [i32_z, Int32.toBitVec_and, hT]
    exact q
  have h3 := bv_bk _ i h2
  rw [← Int32.toBitVec_inj, Int32.toBitVec_and, Int32.toBitVec_xor, Int32.toBitVec_xor, hT]
  exact h3
set_option maxRecDepth 16384 in
theorem jbk (r q : Int) (q0 : 0 ≤ q) (q8 : q < 8) (h : jand r (jshl 1 q) ≠ 0) : jand r (jxor (jshl 1 q) (-1)) = jxor r (jshl 1 q) := by
  rw [jand_eq, jshl_eq] at h
  rw [jand_eq, jxor_eq, jxor_eq, jshl_eq]
  unfold o32 at *
  rw [Int32.ofInt_toInt] at h
  rw [Int32.ofInt_toInt, Int32.ofInt_toInt]
  congr 1
  obtain ⟨i, rfl⟩ : ∃ i : Nat, q = (i : Int) := ⟨q.toNat, by omega⟩
  have hi : i < 8 := by omega
  match i, hi with
  | 0, _ => exact jbk_i _ _ 0 (by decide) h
  | 1, _ => exact jbk_i _ _ 1 (by decide) h
  | 2, _ => exact jbk_i _ _ 2 (by decide) h
  | 3, _ => exact jbk_i _ _ 3 (by decide) h
  | 4, _ => exact jbk_i _ _ 4 (by decide) h
  | 5, _ => exact jbk_i _ _ 5 (by decide) h
  | 6, _ => exact jbk_i _ _ 6 (by decide) h
  | 7, _ => exact jbk_i _ _ 7 (by decide) h
  | n + 8, h => omega
set_option maxRecDepth 16384 in
theorem s32_jxor (a b : Int) : s32 (jxor a b) = jxor a b := by
  rw [jxor_eq]
  unfold o32
  rw [s32_eq, Int32.ofInt_toInt]
set_option maxRecDepth 16384 in
theorem p_gr {a b : MM} {s : Int} (h : Sx a b s) {x y d : Int} (x0 : 0 ≤ x) (x8 : x < 8) (y0 : 0 ≤ y) (y8 : y < 8) (v0 : 0 ≤ a (s + 1) (8 * x + y) + d) (v9 : a (s + 1) (8 * x + y) + d ≤ 9) (vd : x = y → a (s + 1) (8 * x + y) + d = 0) : Gx a b (g108 a s x y d) (mu b (b 148 14) (s32 (s32 (94 + s32 (8 * x)) + y)) (s32 (s32 (b (b 148 14) (s32 (s32 (94 + s32 (8 * x)) + y)) + d)))) s := by
  have hg := h.gr (k := 8 * x + y) (by omega) (by omega)
  obtain ⟨l1, -⟩ := h.1.2.1
  unfold g108
  rw [if_neg (by omega), if_neg (by omega), if_neg (by omega), if_neg (by omega), ad_c (by omega) (by omega) (by omega) (by omega), ad_g (by omega) (by omega) (by omega) (by omega), l1, h.bn, ← hg.1, s32_id (z := a (s + 1) (8 * x + y) + d) (by omega) (by omega), s32_id (z := a (s + 1) (8 * x + y) + d) (by omega) (by omega)]
  exact Gx_gr h (by omega) (by omega) v0 v9 (fun q => vd (by omega))
set_option maxRecDepth 16384 in
theorem p_lodge {a b : MM} {s : Int} (h : Sx a b s) {f : Int} (f0 : 0 ≤ f) (f1 : f < a 3 7) : Gx a b (g130 a s f) (g232 b 148 f) s := by
  obtain ⟨e', e0', e8'⟩ := h.f
  have hs := h.1.2.2.2.2
  have hsp := h.sp f0 f1
  obtain ⟨w1, w2, w3, w4⟩ := g232_ok h.bn f0 (by omega)
  obtain ⟨l1, l2, l3, l4, l5, l6⟩ := h.1.2.1
  have c72 : f72 a (a s 0) f = 1 := by
    rw [h.1.2.2.1]
    rcases i72 h f with ⟨c, d⟩ | ⟨c, -⟩
    · omega
    · exact c
  have e139 : g139 a s f 0 = mu a (s + 4) f 0 := by
    unfold g139
    rw [c72, if_neg (by decide), l4, s32_id (by decide) (by decide)]
  have ez : ∀ (m : MM) k, 0 ≤ k → k < 3 → f137 m f k = 3 * f + k := fun m k k0 k3 => by
    unfold f137
    rw [if_neg (by omega), if_neg (by omega), if_neg (by omega), if_neg (by omega), ad_t (by omega) (by omega) (by omega) (by omega)]
  have st : ∀ (m0 : MM) (c0 : Int) (k v : Int) (m : MM), m s 6 = s + 6 → 0 ≤ k → k < 3 → Lp (K130_8 m0 s f 0 0) (k, v, m) = Lp (K130_8 m0 s f 0 0) (k + 1, 3 * f + k, mu m (s + 6) (3 * f + k) (-1)) := fun m0 c0 k v m hm k0 k3 => by
    refine Lp_inl ?_
    show S130_8 m s f k v = _
    unfold S130_8
    rw [ez m k k0 k3, if_neg (by omega), if_neg (by omega), hm, s32_id (z := k + 1) (by omega) (by omega), s32_id (z := -1) (by decide) (by decide)]
  have en : ∀ (m0 : MM) (v : Int) (m : MM), Lp (K130_8 m0 s f 0 0) (3, v, m) = (1, 0, (3, v, m)) := fun m0 v m => Lp_inr (by
    show S130_8 m s f 3 v = _
    unfold S130_8
    rw [if_pos (by decide)])
  have eg : g130 a s f = mu (mu (mu (mu a (s + 4) f 0) (s + 6) (3 * f + 0) (-1)) (s + 6) (3 * f + 1) (-1)) (s + 6) (3 * f + 2) (-1) := by
    unfold g130 L130_8
    rw [e139, st _ 0 0 0 _ (by rw [mu_a (by omega)]; exact l6) (by decide) (by decide), show (0 + 1 : Int) = 1 from rfl, st _ 0 1 _ _ (by rw [mu_a (by omega), mu_a (by omega)]; exact l6) (by decide) (by decide), show (1 + 1 : Int) = 2 from rfl, st _ 0 2 _ _ (by rw [mu_a (by omega), mu_a (by omega), mu_a (by omega)]; exact l6) (by decide) (by decide), show (2 + 1 : Int) = 3 from rfl, en]
  rw [eg]
  refine Gx_fo h f0 f1 (((((Fr.rf _ _).mu (Or.inl ⟨Or.inl rfl, rfl⟩)).mu (Or.inr ⟨rfl, by omega, by omega⟩)).mu (Or.inr ⟨rfl, by omega, by omega⟩)).mu (Or.inr ⟨rfl, by omega, by omega⟩)) (w1.mo fun x k q => ⟨q.1, by omega⟩) ?_
  have e4 : (mu (mu (mu (mu a (s + 4) f 0) (s + 6) (3 * f + 0) (-1)) (s + 6) (3 * f + 1) (-1)) (s + 6) (3 * f + 2) (-1)) (s + 4) f = 0 := by
    rw [mu_a (by omega), mu_a (by omega), mu_a (by omega), mu_s]
  have e6 : ∀ k, 0 ≤ k → k < 3 → (mu (mu (mu (mu a (s + 4) f 0) (s + 6) (3 * f + 0) (-1)) (s + 6) (3 * f + 1) (-1)) (s + 6) (3 * f + 2) (-1)) (s + 6) (3 * f + k) = -1 := fun k k0 k3 => by
    rcases (by omega : k = 0 ∨ k = 1 ∨ k = 2) with rfl | rfl | rfl
    · rw [mu_k (by omega), mu_k (by omega), mu_s]
    · rw [mu_k (by omega), mu_s]
    · rw [mu_s]
  have e7 : ∀ x k, x < 9 → (mu (mu (mu (mu a (s + 4) f 0) (s + 6) (3 * f + 0) (-1)) (s + 6) (3 * f + 1) (-1)) (s + 6) (3 * f + 2) (-1)) x k = a x k := fun x k hx => by
    rw [mu_a (by omega), mu_a (by omega), mu_a (by omega), mu_a (by omega)]
  revert e4 e6 e7
  generalize (mu (mu (mu (mu a (s + 4) f 0) (s + 6) (3 * f + 0) (-1)) (s + 6) (3 * f + 1) (-1)) (s + 6) (3 * f + 2) (-1)) = m4
  intro e4 e6 e7
  refine ⟨⟨?_, ?_, ?_⟩, fun q => ?_, fun q => ?_, fun _ _ => ?_, fun k k0 k1 => ?_, ?_⟩
  · show _ = g232 b 148 f 150 (182 + f)
    rw [e4, w3]
  · rw [e4]; decide
  · rw [e4]; decide
  · rw [e4] at q; exact absurd q (by decide)
  · rw [e4] at q; exact absurd q (by decide)
  · show g232 b 148 f 150 (190 + f) = _
    rw [w4, e7 (3 + 4) f (by decide)]
    show _ = a 7 f
    rw [← hsp.1]
    exact s32_id (by omega) (by omega)
  · rw [e6 k k0 k1, e4]
    refine ⟨?_, by decide, by decide, fun q => absurd q (by decide)⟩
    show -1 = g232 b 148 f 150 (158 + (3 * f + k))
    rw [w2 _ (by omega) (by omega)]
  · have := (h.ab f0 f1).2.1
    rw [e6 1 (by decide) (by decide), e7 (3 + 3) f (by decide)]
    show -1 ≠ a 6 f
    omega
set_option maxRecDepth 16384 in
/-- each act alike, where it is done -/
theorem p_act {a b : MM} {s : Int} (h : Sx a b s) {act x y : Int} (hi : Is a act x y) (hw : f146 a s act x y = 0) : Gx a b (g135 a s act x y) (g222 b 148 act x y) s := by
  obtain ⟨e, e0, e8⟩ := h.p
  obtain ⟨e', e0', e8'⟩ := h.f
  have hb := h.bn
  rcases hi with ⟨rfl, x0, x1, y0, y1⟩ | ⟨q, x0, x1, y0, y1⟩ | ⟨q, x0, x1⟩ | ⟨q, x0, x1⟩
  · rw [g135_0, g222_0]
    refine p_sign h x0 x1 y0 y1 (fun q => ?_)
    rw [f146_0, q, if_pos rfl] at hw
    split at hw
    · split at hw
      · exact absurd hw (by decide)
      · exact absurd hw (by decide)
    · exact absurd hw (by decide)
  · have h1 := q124 h (p := x) (q := y) x0 (by omega) y0 (by omega)
    have h2 := h.gr (k := 8 * x + y) (by omega) (by omega)
    rcases q with rfl | rfl
    · rw [f146_1, h1.1] at hw
      rw [g135_1, g222_1]
      by_cases c : x = y
      · rw [if_pos c] at hw; exact absurd hw (by decide)
      · rw [if_neg c] at hw
        by_cases d : a (s + 1) (8 * x + y) = 0
        · rw [if_pos d] at hw; exact absurd hw (by decide)
        · exact p_gr h x0 (by omega) y0 (by omega) (by omega) (by omega) (fun q => absurd q c)
    · rw [f146_2, h1.1] at hw
      rw [g135_2, g222_2]
      by_cases c : x = y
      · rw [if_pos c] at hw; exact absurd hw (by decide)
      · rw [if_neg c] at hw
        by_cases d : a (s + 1) (8 * x + y) < 9
        · exact p_gr h x0 (by omega) y0 (by omega) (by omega) (by omega) (fun q => absurd q c)
        · rw [if_neg d] at hw; exact absurd hw (by decide)
  · have hr := h.ret
    have e129 : f129 a s x = if jand (a s 7) (jshl 1 x) = 0 then 0 else 1 := by
      unfold f129
      rw [h.1.2.2.1]
      rcases i73 h x with ⟨c, d⟩ | ⟨c, -⟩
      · omega
      · rw [c, if_neg (by decide)]
    rcases q with rfl | rfl
    · rw [f146_3, e129] at hw
      rw [g135_3, g222_3, hb, ← hr]
      by_cases c : jand (a s 7) (jshl 1 x) = 0
      · rw [jor_x _ _ c, s32_jxor]
        exact Gx_ret h (s32_jxor _ _)
      · rw [if_neg c, if_neg (by decide)] at hw; exact absurd hw (by decide)
    · rw [f146_4, e129] at hw
      rw [g135_4, g222_4, hb, ← hr]
      by_cases c : jand (a s 7) (jshl 1 x) = 0
      · rw [if_pos c, if_pos rfl] at hw; exact absurd hw (by decide)
      · rw [jbk _ _ x0 (by omega) c, s32_jxor]
        exact Gx_ret h (s32_jxor _ _)
  · have h1 := q127 h x0 x1
    have h2 := h.hw x0 x1
    have hsp := h.sp x0 x1
    rcases q with rfl | rfl
    · rw [g135_5, g222_5]
      have c72 : f72 a (a s 0) x = 1 := by
        rw [h.1.2.2.1]
        rcases i72 h x with ⟨c, d⟩ | ⟨c, -⟩
        · omega
        · exact c
      obtain ⟨l1, l2, l3, l4, l5, l6⟩ := h.1.2.1
      have e139 : g139 a s x 3 = mu a (s + 4) x 3 := by
        unfold g139
        rw [c72, if_neg (by decide), l4, s32_id (by decide) (by decide)]
      have e1 : s32 (182 + x) = 182 + x := s32_id (by omega) (by omega)
      have e2 : s32 (190 + x) = 190 + x := s32_id (by omega) (by omega)
      have e3 : s32 (84 + x) = 84 + x := s32_id (by omega) (by omega)
      have e4 : s32 3 = 3 := s32_id (by decide) (by decide)
      rw [e139, hb, e1, e2, e3, e4, mu_a (a := 150) (b := 148) (by decide), hb, mu_k (by omega), ← hsp.1, s32_id (z := a 7 x) (by omega) (by omega)]
      have hs := h.1.2.2.2.2
      refine Gx_fo h x0 x1 ((Fr.rf _ _).mu (Or.inl ⟨Or.inl rfl, rfl⟩)) (((Fr.rf _ _).mu ⟨rfl, Or.inl rfl⟩).mu ⟨rfl, Or.inr (Or.inl rfl)⟩) ?_
      obtain ⟨⟨g1, g1', g1''⟩, g2, g3, g4, g5, g6⟩ := h.fo x0 x1
      refine ⟨⟨?_, ?_, ?_⟩, fun q => ?_, fun q => ?_, fun _ _ => ?_, fun k k0 k1 => ?_, ?_⟩
      · show _ = mu (mu b 150 (182 + x) 3) 150 (190 + x) (a 7 x) 150 (182 + x)
        rw [mu_s, mu_k (by omega), mu_s]
      · rw [mu_s]; decide
      · rw [mu_s]; decide
      · rw [mu_s] at q; exact absurd q (by decide)
      · rw [mu_s] at q; exact absurd q (by decide)
      · show mu (mu b 150 (182 + x) 3) 150 (190 + x) (a 7 x) 150 (190 + x) = _
        rw [mu_s, mu_a (by omega)]
        rfl
      · rw [mu_s, mu_a (by omega), mu_k (by omega), mu_k (by omega)]
        obtain ⟨r1, r2, r3, r4⟩ := g5 k k0 k1
        exact ⟨r1, r2, r3, fun q => absurd q (by decide)⟩
      · rw [mu_a (by omega), mu_a (by omega)]; exact g6
    · rw [g135_6, g222_6]
      exact p_lodge h x0 x1
end
section
/-! A day goes by. -/
set_option maxRecDepth 16384 in
theorem mu_id (m : MM) (a k : Int) : mu m a k (m a k) = m := by
  funext b j
  by_cases c : b = a ∧ j = k
  · rw [c.1, c.2, mu_s]
  · exact if_neg c
set_option maxRecDepth 16384 in
theorem f220_ok (m : MM) (x : Int) : f220 m 9 x = if 9 < x then 9 else x := by
  unfold f220
  split <;> split <;> omega
set_option maxRecDepth 16384 in
/-- a form's day -/
theorem p_day1 {a b : MM} {s : Int} (h : Sx a b s) {f : Int} (f0 : 0 ≤ f) (f1 : f < a 3 7) (u : Int) : ∃ a' b' u', S122_2 a s f = .inl (f + 1, a') ∧ S231_2 b 148 f u = .inl (f + 1, u', b') ∧ Gx a b a' b' s ∧ a' s 8 = a s 8 := by
  obtain ⟨e', e0', e8'⟩ := h.f
  have hs := h.1.2.2.2.2
  have hb := h.bn
  have hw := h.hw f0 f1
  obtain ⟨l1, l2, l3, l4, l5, l6⟩ := h.1.2.1
  obtain ⟨⟨g1, g1', g1''⟩, g2, g3, g4, g5, g6⟩ := h.fo f0 f1
  have x1 : s32 (182 + f) = 182 + f := s32_id (by omega) (by omega)
  have x2 : s32 (190 + f) = 190 + f := s32_id (by omega) (by omega)
  have x3 : s32 (f + 1) = f + 1 := s32_id (by omega) (by omega)
  unfold S122_2 S231_2
  have n1 : ¬ a 3 7 ≤ f := by omega
  have n2 : ¬ 8 ≤ f := by omega
  have n3 : ¬ b 150 1 ≤ f := by omega
  rw [h.1.2.2.1, if_neg n1, if_neg n2, hb, if_neg n3, x1, x2, x3, l4, l5, ← hw.1]
  by_cases c : a (s + 4) f = 1
  · rw [if_pos c, if_pos c]
    obtain ⟨d1, d2, d3⟩ := g2 c
    have d1 : b 150 (190 + f) = a (s + 5) f := d1
    rw [d1]
    have x4 : s32 (a (s + 5) f - 1) = a (s + 5) f - 1 := s32_id (by omega) (by omega)
    rw [x4, x4, mu_a (m := a) (a := s + 5) (b := s) (by omega), l5, mu_s, mu_a (m := b) (a := 150) (b := 148) (by decide), hb, mu_s]
    by_cases d : 0 < a (s + 5) f - 1
    · rw [if_pos d, if_neg (by omega)]
      refine ⟨_, _, _, rfl, rfl, Gx_fo h f0 f1 ((Fr.rf _ _).mu (Or.inl ⟨Or.inr rfl, rfl⟩)) ((Fr.rf _ _).mu ⟨rfl, Or.inr (Or.inl rfl)⟩) ?_, mu_a (by omega)⟩
      refine ⟨⟨?_, ?_, ?_⟩, fun q => ⟨?_, ?_, ?_⟩, fun q => ?_, fun q _ => ?_, fun k k0 k1 => ?_, ?_⟩
      · rw [mu_a (by omega), mu_k (by omega)]; exact g1
      · rw [mu_a (by omega)]; exact g1'
      · rw [mu_a (by omega)]; exact g1''
      · show mu b 150 (190 + f) (a (s + 5) f - 1) 150 (190 + f) = _
        rw [mu_s, mu_s]
      · rw [mu_s]; omega
      · rw [mu_s]; omega
      · rw [mu_a (by omega)] at q; omega
      · rw [mu_a (by omega)] at q; exact absurd c q
      · rw [mu_a (a := s + 5) (b := s + 6) (by omega), mu_a (a := s + 5) (b := s + 4) (by omega), mu_k (by omega)]; exact g5 k k0 k1
      · rw [mu_a (by omega), mu_a (by omega)]; exact g6
    · rw [if_neg d, if_pos (by omega)]
      have hz : a (s + 5) f - 1 = 0 := by omega
      rw [hz]
      have hs2 : s32 2 = 2 := s32_id (by decide) (by decide)
      rw [hs2]
      -- granted
      have c72 : f72 (mu a (s + 5) f 0) ((mu a (s + 5) f 0) s 0) f = 1 := by
        rw [mu_a (by omega), h.1.2.2.1]
        unfold f72
        rw [mu_a (by omega), if_neg (by omega), if_neg (by omega), if_neg (by omega)]
      have e139 : g139 (mu a (s + 5) f 0) s f 2 = mu (mu a (s + 5) f 0) (s + 4) f 2 := by
        unfold g139
        rw [c72, if_neg (by decide), mu_a (a := s + 5) (b := s) (by omega), l4, hs2]
      have r1 := g5 1 (by decide) (by decide)
      have r14 := r1.2.2.2 c
      have hab := h.ab f0 f1
      have G1 : Gx a b (mu (mu a (s + 5) f 0) (s + 4) f 2) (mu (mu b 150 (190 + f) 0) 150 (182 + f) 2) s := by
        refine Gx_fo h f0 f1 (((Fr.rf _ _).mu (Or.inl ⟨Or.inr rfl, rfl⟩)).mu (Or.inl ⟨Or.inl rfl, rfl⟩)) (((Fr.rf _ _).mu ⟨rfl, Or.inr (Or.inl rfl)⟩).mu ⟨rfl, Or.inl rfl⟩) ?_
        refine ⟨⟨?_, ?_, ?_⟩, fun q => ?_, fun q => ?_, fun _ q => ?_, fun k k0 k1 => ?_, ?_⟩
        · show _ = mu (mu b 150 (190 + f) 0) 150 (182 + f) 2 150 (182 + f)
          rw [mu_s, mu_s]
        · rw [mu_s]; decide
        · rw [mu_s]; decide
        · rw [mu_s] at q; exact absurd q (by decide)
        · show mu (mu b 150 (190 + f) 0) 150 (182 + f) 2 150 (190 + f) = 0
          rw [mu_k (by omega), mu_s]
        · rw [mu_s] at q; exact absurd rfl q
        · rw [mu_s, mu_a (a := s + 4) (b := s + 6) (by omega), mu_a (a := s + 5) (b := s + 6) (by omega), mu_k (by omega), mu_k (by omega)]
          obtain ⟨t1, t2, t3, t4⟩ := g5 k k0 k1
          exact ⟨t1, t2, t3, fun q => absurd q (by decide)⟩
        · rw [mu_a (by omega), mu_a (by omega), mu_a (by omega), mu_a (by omega)]; exact g6
      have t37 : (mu (mu a (s + 5) f 0) (s + 4) f 2) 3 7 = a 3 7 := by rw [mu_a (by omega), mu_a (by omega)]
      have t31 : (mu (mu a (s + 5) f 0) (s + 4) f 2) (s + 6) (3 * f + 1) = a (s + 6) (3 * f + 1) := by rw [mu_a (by omega), mu_a (by omega)]
      have t6 : (mu (mu a (s + 5) f 0) (s + 4) f 2) 6 f = a 6 f := by rw [mu_a (by omega), mu_a (by omega)]
      have t8 : (mu (mu a (s + 5) f 0) (s + 4) f 2) s 8 = a s 8 := by rw [mu_a (by omega), mu_a (by omega)]
      unfold g123
      rw [e139]
      revert G1 t37 t31 t6 t8
      generalize (mu (mu a (s + 5) f 0) (s + 4) f 2) = m2
      generalize (mu (mu b 150 (190 + f) 0) 150 (182 + f) 2) = n2
      intro G1 t37 t31 t6 t8
      have k1 := q142 G1.1 (f := f) f0 (by omega) (k := 1) (by decide) (by decide)
      have k2 := q66 G1.1 (f := f) f0 (by omega)
      rw [k1.1, k1.2, G1.1.1.2.2.1, k2.1, t31, t6, G1.1.bn]
      have x5 : s32 (76 + f) = 76 + f := s32_id (by omega) (by omega)
      rw [x5] at k2
      rw [x5, k2.2, t6]
      revert r1 r14
      generalize a (s + 6) (3 * f + 1) = u1 at g6 ⊢
      intro r1 r14
      have g6 : u1 ≠ a 6 f := g6
      have k3 := q124 G1.1 (p := u1) (q := a 6 f) (by omega) (by omega) hab.2.1 hab.2.2
      have k4 := G1.1.gr (k := 8 * u1 + a 6 f) (by omega) (by omega)
      have x6 : s32 (s32 (94 + s32 (8 * u1)) + a 6 f) = 94 + (8 * u1 + a 6 f) := ad_g (by omega) (by omega) (by omega) (by omega)
      rw [k3.1, x6, ← k4.1, s32_id (z := m2 (s + 1) (8 * u1 + a 6 f) + 1) (by omega) (by omega), f220_ok]
      by_cases d : 9 ≤ m2 (s + 1) (8 * u1 + a 6 f)
      · have x7 : s32 9 = n2 150 (94 + (8 * u1 + a 6 f)) := by rw [s32_id (by decide) (by decide), ← k4.1]; omega
        rw [if_pos d, if_pos (by omega), x7, mu_id]
        exact ⟨_, _, _, rfl, rfl, G1, t8⟩
      · rw [if_neg d, if_neg (by omega)]
        have G2 := p_gr (x := u1) (y := a 6 f) (d := 1) G1.1 (by omega) (by omega) hab.2.1 hab.2.2 (by omega) (by omega) (fun q => absurd q g6)
        have x8 : s32 (m2 (s + 1) (8 * u1 + a 6 f) + 1) = m2 (s + 1) (8 * u1 + a 6 f) + 1 := s32_id (by omega) (by omega)
        rw [G1.1.bn, x6, ← k4.1, x8, x8] at G2
        rw [x8]
        refine ⟨_, _, _, rfl, rfl, G1.tr G2, ?_⟩
        rw [← t8]
        unfold g108
        rw [if_neg (by omega), if_neg (by omega), if_neg (by omega), if_neg (by omega), G1.1.1.2.1.1, mu_a (by omega)]
  · rw [if_neg c, if_neg c]
    exact ⟨_, _, _, rfl, rfl, Gx.rf h, rfl⟩
set_option maxRecDepth 16384 in
theorem p_day2 {a b : MM} {s : Int} (h : Sx a b s) : Gx a b (L122_2 a s 0).2.2.2 (L231_2 b 148 0 0).2.2.2.2 s ∧ (L122_2 a s 0).2.2.2 s 8 = a s 8 := by
  obtain ⟨e', e0', e8'⟩ := h.f
  unfold L122_2 L231_2
  refine Lp_sim (f := K122_2 a s 0) (f' := K231_2 b 148 0 0) (P := fun x y => x.1 = y.1 ∧ 0 ≤ x.1 ∧ x.1 ≤ a 3 7 ∧ Gx a b x.2 y.2.2 s ∧ x.2 s 8 = a s 8) (Q := fun t t' => Gx a b t.2.2.2 t'.2.2.2.2 s ∧ t.2.2.2 s 8 = a s 8) (fun x => (a 3 7 - x.1).toNat) ?_ (0, a) (0, 0, b) ⟨rfl, Int.le_refl _, e0', Gx.rf h, rfl⟩
  rintro ⟨i, m⟩ ⟨j, u, n⟩ ⟨c1, c2, c3, c4, c5⟩
  dsimp only at c1 c2 c3 c4 c5
  subst c1
  have t37 : m 3 7 = a 3 7 := c4.2.1 3 7 (by have := h.1.2.2.2.2; unfold Qa; omega)
  obtain ⟨z1, z2, z3⟩ := c4.1.f
  by_cases c : a 3 7 ≤ i
  · refine Or.inr ⟨(1, 0, (i, m)), (1, 0, (i, u, n)), ?_, ?_, c4, c5⟩
    · show S122_2 m s i = _
      unfold S122_2
      rw [c4.1.1.2.2.1, if_pos (by omega)]
    · show S231_2 n 148 i u = _
      unfold S231_2
      rw [c4.1.bn, if_pos (by omega)]
  · obtain ⟨a', b', u', q1, q2, q3, q4⟩ := p_day1 c4.1 (f := i) c2 (by omega) u
    refine Or.inl ⟨(i + 1, a'), (i + 1, u', b'), q1, q2, ⟨rfl, by dsimp only; omega, by dsimp only; omega, c4.tr q3, by dsimp only; rw [q4]; exact c5⟩, by dsimp only; omega⟩
set_option maxRecDepth 16384 in
/-- rows of who signed today -/
theorem p_day3 {a b : MM} {s : Int} (h : Sx a b s) : Gx a b (g297 a (s + 2) (-1)) (L231_120 b 148 0 0).2.2.2 s ∧ (g297 a (s + 2) (-1)) s 8 = a s 8 := by
  obtain ⟨e', e0', e8'⟩ := h.f
  have hs := h.1.2.2.2.2
  have hb := h.bn
  have m1 : s32 (-1) = -1 := s32_id (by decide) (by decide)
  have eA : g297 a (s + 2) (-1) = fm a (s + 2) (0 + 0) (0 + 8) (fun _ => -1) := by
    have hl : L297_5 a (s + 2) (-1) 0 8 = (1, 0, (8, fm a (s + 2) (0 + 0) (0 + 8) (fun _ => -1))) := by
      unfold L297_5
      refine Lp_fill (f := K297_5 a (s + 2) (-1) 0 8) (i0 := 0) (n := 8) (base := 0) (d := s + 2) (by decide) (fun i i0 i1 => ?_) ?_
      · show S297_5 (fm a (s + 2) (0 + 0) (0 + i) (fun _ => -1)) (s + 2) (-1) i 8 = _
        unfold S297_5
        rw [if_neg (by omega), s32_id (z := i + 1) (by omega) (by omega), m1, Int.zero_add i]
      · show S297_5 (fm a (s + 2) (0 + 0) (0 + 8) (fun _ => -1)) (s + 2) (-1) 8 8 = _
        unfold S297_5
        rw [if_pos (by decide)]
    unfold g297
    rw [if_neg (by omega), hs.2.2, s32_id (by decide) (by decide), hl]
  have eB : (L231_120 b 148 0 0).2.2.2 = fm b 150 (198 + 0) (198 + 8) (fun _ => -1) := by
    have hl : L231_120 b 148 0 0 = (1, 0, (8, fm b 150 (198 + 0) (198 + 8) (fun _ => -1))) := by
      unfold L231_120
      refine Lp_fill (f := K231_120 b 148 0 0) (i0 := 0) (n := 8) (base := 198) (d := 150) (by decide) (fun i i0 i1 => ?_) ?_
      · show S231_120 (fm b 150 (198 + 0) (198 + i) (fun _ => -1)) 148 i 0 = _
        unfold S231_120
        rw [if_neg (by omega), fm_n (b := 148) (by decide), hb, s32_id (z := i + 1) (by omega) (by omega), s32_id (z := 198 + i) (by omega) (by omega), m1]
      · show S231_120 (fm b 150 (198 + 0) (198 + 8) (fun _ => -1)) 148 8 0 = _
        unfold S231_120
        rw [if_pos (by decide)]
    rw [hl]
  rw [eA, eB]
  refine ⟨Gx_of h ((Fr.rf _ _).fl fun j j0 j1 => Or.inr ⟨by omega, by omega, by omega⟩) ((Fr.rf _ _).fl fun j j0 j1 => ⟨rfl, by omega⟩) (Or.inl ⟨fm_n (by omega), fm_o (by omega)⟩) (Or.inl ⟨fm_n (by omega), fm_o (by omega)⟩) (Or.inl fun p p0 p1 => ⟨fm_n (by omega), fm_o (by omega)⟩) (Or.inr fun p p0 p1 => ?_) (Or.inl fun p p0 p1 => ⟨fm_n (by omega), fm_o (by omega)⟩) (fun f f0 f1 => Or.inl (SFo_same (fm_n (by omega)) (fm_n (by omega)) (fun j => fm_n (by omega)) (fun j _ _ => fm_o (by omega)) f0 (by omega))), fm_n (by omega)⟩
  rw [fm_i (by omega) (by omega), fm_i (by omega) (by omega)]
  exact ⟨rfl, by decide, by decide⟩
set_option maxRecDepth 16384 in
/-- a day alike -/
theorem p_day {a b : MM} {s : Int} (h : Sx a b s) (hd : a s 8 < 400) : Gx a b (g122 a s) (g231 b 148) s ∧ (g122 a s) s 8 = a s 8 + 1 := by
  unfold g122 g231
  obtain ⟨G1, d1⟩ := p_day2 h
  rw [G1.1.1.2.1.2.1]
  have G2 := p_day3 G1.1
  have hk : (L231_120 (L231_2 b 148 0 0).2.2.2.2 148 0 (L231_2 b 148 0 0).2.2.2.1).2.2.2 = (L231_120 (L231_2 b 148 0 0).2.2.2.2 148 0 0).2.2.2 := rfl
  rw [hk]
  revert G1 d1 G2
  generalize (L122_2 a s 0).2.2.2 = m1
  generalize (L231_2 b 148 0 0).2.2.2.2 = n1
  intro G1 d1 ⟨G2, d2⟩
  revert G2 d2
  generalize g297 m1 (s + 2) (-1) = m2
  generalize (L231_120 n1 148 0 0).2.2.2 = n2
  intro G2 d2
  have hday := G2.1.day
  rw [G2.1.bn, ← hday.1, s32_id (z := m2 s 8 + 1) (by omega) (by omega), s32_id (z := m2 s 8 + 1) (by omega) (by omega)]
  refine ⟨G1.tr (G2.tr (Gx_day G2.1 (by omega) (by omega))), ?_⟩
  rw [mu_s]
  omega
end
section
/-! Days drawn. -/
set_option maxRecDepth 16384 in
theorem ushr_rng (a : Int32) : 0 ≤ ((a.toUInt32 >>> ((Int32.ofInt 8).toUInt32 &&& Int32.toUInt32 31)).toInt32).toInt ∧ ((a.toUInt32 >>> ((Int32.ofInt 8).toUInt32 &&& Int32.toUInt32 31)).toInt32).toInt < 16777216 := by
  have h8 : (Int32.ofInt 8).toUInt32 &&& Int32.toUInt32 31 = 8 := by decide
  rw [h8]
  generalize a.toUInt32 = u
  have hn : (u >>> 8).toNat < 16777216 := by
    rw [UInt32.toNat_shiftRight]
    have h1 : (8 : UInt32).toNat % 32 = 8 := by decide
    rw [h1, Nat.shiftRight_eq_div_pow]
    have := u.toNat_lt
    omega
  have e : ((u >>> 8).toInt32).toInt = ((u >>> 8).toNat : Int) := by
    show BitVec.toInt (u >>> 8).toBitVec = _
    rw [BitVec.toInt_eq_toNat_of_lt]
    · rfl
    · show 2 * (u >>> 8).toNat < _
      omega
  rw [e]
  omega
set_option maxRecDepth 16384 in
theorem rem_rng (X Y : Int32) (n : Int) (hX : 0 ≤ X.toInt) (hY : Y.toInt = n) (h0 : 0 < n) : 0 ≤ (X - X / Y * Y).toInt ∧ (X - X / Y * Y).toInt < n := by
  have bm : ∀ z : Int, -2147483648 ≤ z → z < 2147483648 → z.bmod (2 ^ 32) = z := fun z h1 h2 => by
    rw [← Int32.toInt_ofInt, Int32.toInt_ofInt_of_le h1 h2]
  have hx := X.toInt_lt
  have hy := Y.toInt_lt
  have q0 : 0 ≤ X.toInt / n := Int.ediv_nonneg hX (by omega)
  have q1 : X.toInt / n * n ≤ X.toInt := Int.ediv_mul_le _ (by omega)
  have q2 : X.toInt < (X.toInt / n + 1) * n := Int.lt_ediv_add_one_mul_self _ h0
  have q3 : X.toInt / n ≤ X.toInt := Int.ediv_le_self _ hX
  have q4 : (X.toInt / n + 1) * n = X.toInt / n * n + n := by rw [Int.add_mul, Int.one_mul]
  have hd : (X / Y).toInt = X.toInt / n := by
    rw [Int32.toInt_div, hY, Int.tdiv_eq_ediv_of_nonneg hX, bm _ (by omega) (by omega)]
  have q5 : 0 ≤ X.toInt / n * n := Int.mul_nonneg q0 (by omega)
  have hm : (X / Y * Y).toInt = X.toInt / n * n := by
    rw [Int32.toInt_mul, hd, hY, bm _ (by omega) (by omega)]
  have hs : (X - X / Y * Y).toInt = X.toInt - X.toInt / n * n := by
    rw [Int32.toInt_sub, hm, bm _ (by omega) (by omega)]
  rw [hs]
  omega
set_option maxRecDepth 16384 in
theorem jr_rng (x n : Int) (h0 : 0 < n) (h8 : n ≤ 8) : 0 ≤ jrem (jushr x 8) n ∧ jrem (jushr x 8) n < n := by
  rw [jrem_eq, jushr_eq]
  unfold o32
  rw [Int32.ofInt_toInt]
  exact rem_rng _ _ n (ushr_rng _).1 (Int32.toInt_ofInt_of_le (by omega) (by omega)) h0
set_option maxRecDepth 16384 in
/-- the next of what is drawn from -/
noncomputable def Dw (x : Int) : Int := s32 (s32 (x * 1103515245) + 12345)
set_option maxRecDepth 16384 in
noncomputable def Dd (x n : Int) : Int := jrem (jushr x 8) n
set_option maxRecDepth 16384 in
theorem g116_ok (m : MM) (s n : Int) : g116 m s n = mu m s 9 (Dw (m s 9)) := by
  unfold g116 Dw
  split <;> rfl
set_option maxRecDepth 16384 in
theorem f116_ok (m : MM) (s n : Int) (h : 0 < n) : f116 m s n = Dd (Dw (m s 9)) n := by
  unfold f116 Dd Dw
  rw [if_neg (by omega), mu_s]
set_option maxRecDepth 16384 in
theorem g182_ok (m : MM) (n : Int) : g182 m 148 n = mu m 148 35 (Dw (m 148 35)) := rfl
set_option maxRecDepth 16384 in
theorem f182_ok (m : MM) (n : Int) : f182 m 148 n = Dd (Dw (m 148 35)) n := by
  unfold f182 Dd Dw
  rw [mu_s]
set_option maxRecDepth 16384 in
def Qd (s x k : Int) : Prop := Qa s x k ∨ (x = s ∧ k = 9)
set_option maxRecDepth 16384 in
def Qc (x k : Int) : Prop := Qb x k ∨ (x = 148 ∧ k = 35)
set_option maxRecDepth 16384 in
/-- alike, what is drawn from too -/
def Dx (a b : MM) (s : Int) : Prop := Sx a b s ∧ a s 9 = b 148 35
set_option maxRecDepth 16384 in
def Gd (a b a' b' : MM) (s : Int) : Prop := Dx a' b' s ∧ Fr (Qd s) a a' ∧ Fr Qc b b'
set_option maxRecDepth 16384 in
theorem Gd.tr {a b a1 b1 a2 b2 : MM} {s : Int} (h1 : Gd a b a1 b1 s) (h2 : Gd a1 b1 a2 b2 s) : Gd a b a2 b2 s := ⟨h2.1, h1.2.1.tr h2.2.1, h1.2.2.tr h2.2.2⟩
set_option maxRecDepth 16384 in
theorem Gd.rf {a b : MM} {s : Int} (h : Dx a b s) : Gd a b a b s := ⟨h, Fr.rf _ _, Fr.rf _ _⟩
set_option maxRecDepth 16384 in
theorem Gd_of {a b a' b' : MM} {s : Int} (h : Dx a b s) (g : Gx a b a' b' s) : Gd a b a' b' s := by
  have hs := h.1.1.2.2.2.2
  refine ⟨⟨g.1, ?_⟩, g.2.1.mo fun x k q => Or.inl q, g.2.2.mo fun x k q => Or.inl q⟩
  rw [g.2.1 s 9 (by unfold Qa; omega), g.2.2 148 35 (by unfold Qb; omega)]
  exact h.2
set_option maxRecDepth 16384 in
theorem Sx_b {a b b' : MM} {s : Int} (h : Sx a b s) (e : ∀ k, b' 150 k = b 150 k) (e' : b' 148 14 = b 148 14) : Sx a b' s := by
  have e1 : b' 150 = b 150 := funext e
  unfold Sx Ro Sn Fo at *
  rw [e1, e']
  exact h
set_option maxRecDepth 16384 in
theorem Sx_a9 {a b : MM} {s : Int} (h : Sx a b s) (v : Int) : Sx (mu a s 9 v) b s := by
  have hs := h.1.2.2.2.2
  obtain ⟨⟨⟨x0, x1, x2, x3, x4⟩, ⟨y1, y2, y3, y4, y5, y6⟩, z, w, s9, s140, sl⟩, ⟨⟨c1, c2, c3⟩, ⟨c4, c5, c6⟩, ⟨c7, c8⟩, c9, c10⟩, ⟨d1, d2, d3, d4, d5⟩⟩ := h
  have e3 : ∀ k, mu a s 9 v 3 k = a 3 k := fun k => mu_a (by omega)
  have e6 : ∀ k, mu a s 9 v 6 k = a 6 k := fun k => mu_a (by omega)
  have e7 : ∀ k, mu a s 9 v 7 k = a 7 k := fun k => mu_a (by omega)
  have e8 : ∀ k, mu a s 9 v 8 k = a 8 k := fun k => mu_a (by omega)
  have es : ∀ k, k < 9 → mu a s 9 v s k = a s k := fun k hk => mu_k (by omega)
  have ei : ∀ i k, 1 ≤ i → mu a s 9 v (s + i) k = a (s + i) k := fun i k hi => mu_a (by omega)
  have i3 : ∀ k, mu a s 9 v (3 + 3) k = a (3 + 3) k := e6
  have i4 : ∀ k, mu a s 9 v (3 + 4) k = a (3 + 4) k := e7
  have i5 : ∀ k, mu a s 9 v (3 + 5) k = a (3 + 5) k := e8
  refine ⟨⟨⟨?_, ?_, ?_, ?_, ?_⟩, ⟨?_, ?_, ?_, ?_, ?_, ?_⟩, ?_, w, s9, s140, ?_⟩, ⟨⟨?_, ?_, ?_⟩, ⟨?_, ?_, ?_⟩, ⟨?_, ?_⟩, fun k k0 k1 => ?_, fun k k0 k1 => ?_⟩, ⟨?_, ?_, fun k k0 k1 => ?_, fun p p0 p1 => ?_, fun f f0 f1 => ?_⟩⟩
  · rw [e3]; exact x0
  · rw [e3]; exact x1
  · rw [e3]; exact x2
  · rw [e3]; exact x3
  · rw [e3]; exact x4
  · rw [es _ (by decide)]; exact y1
  · rw [es _ (by decide)]; exact y2
  · rw [es _ (by decide)]; exact y3
  · rw [es _ (by decide)]; exact y4
  · rw [es _ (by decide)]; exact y5
  · rw [es _ (by decide)]; exact y6
  · rw [es _ (by decide)]; exact z
  · rw [ei _ _ (by decide)]; exact sl
  · rw [e3]; exact c1
  · rw [e3]; exact c2
  · rw [e3]; exact c3
  · rw [e3]; exact c4
  · rw [e3]; exact c5
  · rw [e3]; exact c6
  · rw [e3]; exact c7
  · rw [e3]; exact c8
  · rw [i5]; exact c9 k k0 k1
  · rw [e3] at k1
    rw [i3, i4]; exact c10 k k0 k1
  · rw [es _ (by decide)]; exact d1
  · rw [es _ (by decide)]; exact d2
  · rw [ei _ _ (by decide)]; exact d3 k k0 k1
  · rw [ei _ _ (by decide), ei _ _ (by decide)]; exact d4 p p0 p1
  · rw [e3] at f1
    have := d5 f f0 f1
    unfold Fo at *
    rw [ei 4 _ (by decide), ei 5 _ (by decide), i3, i4, ei 6 (3 * f + 1) (by decide)]
    refine ⟨this.1, this.2.1, this.2.2.1, this.2.2.2.1, fun k k0 k1 => ?_, this.2.2.2.2.2⟩
    rw [ei 6 _ (by decide)]
    exact this.2.2.2.2.1 k k0 k1
set_option maxRecDepth 16384 in
/-- a draw alike -/
theorem p_dr {a b : MM} {s : Int} (h : Dx a b s) (n n' : Int) : Gd a b (g116 a s n) (g182 b 148 n') s := by
  rw [g116_ok, g182_ok, h.2]
  refine ⟨⟨Sx_b (Sx_a9 h.1 _) (fun k => mu_a (by decide)) (mu_k (by decide)), ?_⟩, (Fr.rf _ _).mu (Or.inr ⟨rfl, rfl⟩), (Fr.rf _ _).mu (Or.inr ⟨rfl, rfl⟩)⟩
  rw [mu_s, mu_s]
set_option maxRecDepth 16384 in
theorem p_dv {a b : MM} {s : Int} (h : Dx a b s) {n : Int} (h0 : 0 < n) (h8 : n ≤ 8) : f116 a s n = f182 b 148 n ∧ 0 ≤ f182 b 148 n ∧ f182 b 148 n < n := by
  rw [f116_ok a s n h0, f182_ok, h.2]
  exact ⟨rfl, (jr_rng _ n h0 h8).1, (jr_rng _ n h0 h8).2⟩
set_option maxRecDepth 16384 in
/-- an act tried -/
noncomputable def tB (n : MM) (act x y : Int) : MM := if f290 n 148 act x y = 0 then g222 n 148 act x y else n
set_option maxRecDepth 16384 in
theorem p_try {a b : MM} {s : Int} (h : Dx a b s) {act x y : Int} (hi : Is a act x y) : Gd a b (g136 a s act x y) (tB b act x y) s := by
  unfold g136 tB
  rw [← q146 h.1 hi]
  by_cases c : f146 a s act x y = 0
  · rw [if_pos c, if_pos c]; exact Gd_of h (p_act h.1 hi c)
  · rw [if_neg c, if_neg c]; exact Gd.rf h
set_option maxRecDepth 16384 in
noncomputable def cA1 (m : MM) (s i : Int) : MM := if m (m s 0) 7 ≤ 0 then m else g136 (g116 m s (m (m s 0) 7)) s 0 i (f116 m s (m (m s 0) 7))
set_option maxRecDepth 16384 in
noncomputable def cA2 (m : MM) (s i : Int) : MM := if 1 < f116 m s 6 then g116 m s 6 else if f116 m s 6 = 0 then g136 (g116 (g116 m s 6) s ((g116 m s 6) ((g116 m s 6) s 0) 6)) s 2 i (f116 (g116 m s 6) s ((g116 m s 6) ((g116 m s 6) s 0) 6)) else g136 (g116 (g116 m s 6) s ((g116 m s 6) ((g116 m s 6) s 0) 6)) s 1 i (f116 (g116 m s 6) s ((g116 m s 6) ((g116 m s 6) s 0) 6))
set_option maxRecDepth 16384 in
noncomputable def cB1 (n : MM) (i : Int) : MM := if n (n 148 14) 1 ≤ 0 then n else tB (g182 n 148 (n (n 148 14) 1)) 0 i (f182 n 148 (n (n 148 14) 1))
set_option maxRecDepth 16384 in
noncomputable def cB2 (n : MM) (i : Int) : MM := if f182 n 148 6 ≤ 1 then (if f182 n 148 6 = 0 then tB (g182 (g182 n 148 6) 148 ((g182 n 148 6) ((g182 n 148 6) 148 14) 0)) 2 i (f182 (g182 n 148 6) 148 ((g182 n 148 6) ((g182 n 148 6) 148 14) 0)) else tB (g182 (g182 n 148 6) 148 ((g182 n 148 6) ((g182 n 148 6) 148 14) 0)) 1 i (f182 (g182 n 148 6) 148 ((g182 n 148 6) ((g182 n 148 6) 148 14) 0))) else g182 n 148 6
set_option maxRecDepth 16384 in
theorem S121_ok (m : MM) (s b1 b2 b3 i u : Int) (h : ¬ m (m s 0) 6 ≤ i) : ∃ v, S121_25 m s b1 b2 b3 i u = .inl (s32 (i + 1), v, cA2 (cA1 m s i) s i) := by
  unfold S121_25 cA2 cA1
  rw [if_neg h]
  by_cases c : m (m s 0) 7 ≤ 0
  · rw [if_pos c, if_pos c]
    split
    · exact ⟨_, rfl⟩
    · split <;> exact ⟨_, rfl⟩
  · rw [if_neg c, if_neg c]
    split
    · exact ⟨_, rfl⟩
    · split <;> exact ⟨_, rfl⟩
set_option maxRecDepth 16384 in
theorem g185_ok (n : MM) (i : Int) : g185 n 148 i = cB2 (cB1 n i) i := by
  unfold g185 cB2 cB1 tB
  by_cases c : n (n 148 14) 1 ≤ 0
  · rw [if_pos c, if_pos c]
  · rw [if_neg c, if_neg c]
    by_cases d : f290 (g182 n 148 (n (n 148 14) 1)) 148 0 i (f182 n 148 (n (n 148 14) 1)) = 0
    · rw [if_pos d, if_pos d]
    · rw [if_neg d, if_neg d]
set_option maxRecDepth 16384 in
theorem p_dr1 {a b : MM} {s : Int} (h : Dx a b s) {i : Int} (i0 : 0 ≤ i) (i1 : i < a 3 6) : Gd a b (cA1 a s i) (cB1 b i) s := by
  obtain ⟨e, e0, e8⟩ := h.1.f
  have hs := h.1.1.2.2.2.2
  unfold cA1 cB1
  rw [h.1.1.2.2.1, h.1.bn, ← e]
  by_cases c : a 3 7 ≤ 0
  · rw [if_pos c, if_pos c]; exact Gd.rf h
  · rw [if_neg c, if_neg c]
    have G := p_dr h (a 3 7) (a 3 7)
    obtain ⟨d1, d2, d3⟩ := p_dv h (n := a 3 7) (by omega) e8
    rw [d1]
    have t6 : (g116 a s (a 3 7)) 3 6 = a 3 6 := G.2.1 3 6 (by unfold Qd Qa; omega)
    have t7 : (g116 a s (a 3 7)) 3 7 = a 3 7 := G.2.1 3 7 (by unfold Qd Qa; omega)
    exact G.tr (p_try G.1 (Or.inl ⟨rfl, i0, by omega, d2, by omega⟩))
set_option maxRecDepth 16384 in
theorem p_dr2 {a b : MM} {s : Int} (h : Dx a b s) {i : Int} (i0 : 0 ≤ i) (i1 : i < a 3 6) : Gd a b (cA2 a s i) (cB2 b i) s := by
  have hs := h.1.1.2.2.2.2
  unfold cA2 cB2
  have G := p_dr h 6 6
  obtain ⟨d1, d2, d3⟩ := p_dv h (n := 6) (by decide) (by decide)
  rw [d1]
  have t6 : (g116 a s 6) 3 6 = a 3 6 := G.2.1 3 6 (by unfold Qd Qa; omega)
  have t6' := G.1.1.p
  have G2 := p_dr G.1 ((g116 a s 6) 3 6) ((g116 a s 6) 3 6)
  obtain ⟨k1, k2, k3⟩ := p_dv G.1 (n := (g116 a s 6) 3 6) (by omega) (by omega)
  have t66 : (g116 (g116 a s 6) s ((g116 a s 6) 3 6)) 3 6 = (g116 a s 6) 3 6 := G2.2.1 3 6 (by unfold Qd Qa; omega)
  rw [G.1.1.1.2.2.1, G.1.1.bn, ← t6'.1, k1]
  by_cases c : 1 < f182 b 148 6
  · rw [if_pos c, if_neg (by omega)]; exact G
  · rw [if_neg c, if_pos (show f182 b 148 6 ≤ 1 by omega)]
    by_cases c0 : f182 b 148 6 = 0
    · rw [if_pos c0, if_pos c0]
      exact G.tr (G2.tr (p_try G2.1 (Or.inr (Or.inl ⟨Or.inr rfl, i0, by omega, k2, by omega⟩))))
    · rw [if_neg c0, if_neg c0]
      exact G.tr (G2.tr (p_try G2.1 (Or.inr (Or.inl ⟨Or.inl rfl, i0, by omega, k2, by omega⟩))))
set_option maxRecDepth 16384 in
/-- all persons of a day -/
theorem p_dr3 {a b : MM} {s : Int} (h : Dx a b s) (b1 b2 b3 u c1 c2 c3 c4 : Int) : Gd a b (L121_25 a s b1 b2 b3 0 u).2.2.2.2 (L183_33 b 148 c1 c2 c3 c4 0).2.2.2 s := by
  obtain ⟨e, e0, e8⟩ := h.1.p
  have hs := h.1.1.2.2.2.2
  unfold L121_25 L183_33
  refine Lp_sim (f := K121_25 a s b1 b2 b3 0 u) (f' := K183_33 b 148 c1 c2 c3 c4 0) (P := fun x y => x.1 = y.1 ∧ 0 ≤ x.1 ∧ x.1 ≤ a 3 6 ∧ Gd a b x.2.2 y.2 s) (Q := fun t t' => Gd a b t.2.2.2.2 t'.2.2.2 s) (fun x => (a 3 6 - x.1).toNat) ?_ (0, u, a) (0, b) ⟨rfl, Int.le_refl _, e0, Gd.rf h⟩
  rintro ⟨i, v, m⟩ ⟨j, n⟩ ⟨q1, q2, q3, q4⟩
  dsimp only at q1 q2 q3 q4
  subst q1
  have t6 : m 3 6 = a 3 6 := q4.2.1 3 6 (by unfold Qd Qa; omega)
  obtain ⟨z1, z2, z3⟩ := q4.1.1.p
  by_cases c : a 3 6 ≤ i
  · refine Or.inr ⟨(1, 0, (i, v, m)), (1, 0, (i, n)), ?_, ?_, q4⟩
    · show S121_25 m s b1 b2 b3 i v = _
      unfold S121_25
      rw [q4.1.1.1.2.2.1, if_pos (by omega)]
    · show S183_33 n 148 c1 c2 c3 c4 i = _
      unfold S183_33
      rw [q4.1.1.bn, if_pos (by omega)]
  · obtain ⟨v', e1⟩ := S121_ok m s b1 b2 b3 i v (by rw [q4.1.1.1.2.2.1]; omega)
    have e2 : S183_33 n 148 c1 c2 c3 c4 i = .inl (s32 (i + 1), g185 n 148 i) := by
      unfold S183_33
      rw [q4.1.1.bn, if_neg (by omega)]
    rw [g185_ok] at e2
    have x3 : s32 (i + 1) = i + 1 := s32_id (by omega) (by omega)
    rw [x3] at e1 e2
    have G1 := p_dr1 q4.1 (i := i) q2 (by omega)
    have t61 : (cA1 m s i) 3 6 = m 3 6 := G1.2.1 3 6 (by unfold Qd Qa; omega)
    have G2 := p_dr2 G1.1 (i := i) q2 (by omega)
    exact Or.inl ⟨_, _, e1, e2, ⟨rfl, by dsimp only; omega, by dsimp only; omega, q4.tr (G1.tr G2)⟩, by dsimp only; omega⟩
end
section
/-! Days drawn, days that go by. -/
set_option maxRecDepth 16384 in
theorem g138_8 {a : MM} {s p f z : Int} (hl : LSt a s) : (g138 a s p f z) s 8 = a s 8 := by
  obtain ⟨l1, l2, l3, l4, l5, l6⟩ := hl
  have e2 : ∀ j v, mu a (s + 6) j v s 2 = s + 2 := fun j v => by rw [mu_a (by omega)]; exact l2
  have e3 : ∀ j v j' v', mu (mu a (s + 6) j v) (s + 2) j' v' s 3 = s + 3 := fun j v j' v' => by rw [mu_a (by omega), mu_a (by omega)]; exact l3
  have e4 : ∀ j v j' v' j'' v'', mu (mu (mu a (s + 6) j v) (s + 2) j' v') (s + 3) j'' v'' s 4 = s + 4 := fun j v j' v' j'' v'' => by rw [mu_a (by omega), mu_a (by omega), mu_a (by omega)]; exact l4
  have e5 : ∀ j v j' v' j'' v'' k w, mu (mu (mu (mu a (s + 6) j v) (s + 2) j' v') (s + 3) j'' v'') (s + 4) k w s 5 = s + 5 := fun j v j' v' j'' v'' k w => by rw [mu_a (by omega), mu_a (by omega), mu_a (by omega), mu_a (by omega)]; exact l5
  unfold g138
  simp only [l6, e2, e3, e4, e5]
  split
  · rfl
  · split
    · rfl
    · split
      · rfl
      · split
        · rw [mu_a (by omega), mu_a (by omega), mu_a (by omega), mu_a (by omega), mu_a (by omega)]
        · rw [mu_a (by omega), mu_a (by omega), mu_a (by omega)]
set_option maxRecDepth 16384 in
theorem g108_8 {a : MM} {s x y d : Int} (hl : LSt a s) : (g108 a s x y d) s 8 = a s 8 := by
  obtain ⟨l1, -⟩ := hl
  unfold g108
  rw [l1]
  split
  · rfl
  · split
    · rfl
    · split
      · rfl
      · split
        · rfl
        · rw [mu_a (by omega)]
set_option maxRecDepth 16384 in
theorem g139_8 {a : MM} {s x v : Int} (hl : LSt a s) : (g139 a s x v) s 8 = a s 8 ∧ (g139 a s x v) s 6 = a s 6 := by
  obtain ⟨-, -, -, l4, -⟩ := hl
  unfold g139
  rw [l4]
  split
  · exact ⟨rfl, rfl⟩
  · rw [mu_a (by omega), mu_a (by omega)]
    exact ⟨rfl, rfl⟩
set_option maxRecDepth 16384 in
theorem g130_8 {a : MM} {s x : Int} (hl : LSt a s) : (g130 a s x) s 8 = a s 8 := by
  obtain ⟨q1, q2⟩ := g139_8 (x := x) (v := 0) hl
  obtain ⟨-, -, -, -, -, l6⟩ := hl
  unfold g130 L130_8
  refine Lp_ind (f := K130_8 (g139 a s x 0) s x 0 0) (P := fun t => t.2.2 s 8 = a s 8 ∧ t.2.2 s 6 = s + 6 ∧ 0 ≤ t.1 ∧ t.1 ≤ 3) (Q := fun t => t.2.2.2.2 s 8 = a s 8) (fun t => (3 - t.1).toNat) ?_ (0, 0, g139 a s x 0) ⟨q1, q2.trans l6, Int.le_refl _, by dsimp only; decide⟩
  rintro ⟨k, v, m⟩ ⟨p1, p2, p3, p4⟩
  dsimp only at p1 p2 p3 p4
  have e : K130_8 (g139 a s x 0) s x 0 0 (k, v, m) = S130_8 m s x k v := rfl
  rw [e]
  unfold S130_8
  by_cases c : 3 ≤ k
  · rw [if_pos c]; exact Or.inr ⟨_, rfl, p1⟩
  · rw [if_neg c, s32_id (z := k + 1) (by omega) (by omega)]
    by_cases d : f137 m x k < 0
    · rw [if_pos d]; exact Or.inl ⟨_, rfl, ⟨p1, p2, by dsimp only; omega, by dsimp only; omega⟩, by dsimp only; omega⟩
    · rw [if_neg d, p2]
      refine Or.inl ⟨_, rfl, ⟨?_, ?_, by dsimp only; omega, by dsimp only; omega⟩, by dsimp only; omega⟩
      · dsimp only; rw [mu_a (by omega)]; exact p1
      · dsimp only; rw [mu_a (by omega)]; exact p2
set_option maxRecDepth 16384 in
theorem p_act8 {a b : MM} {s : Int} (h : Sx a b s) {act x y : Int} (hi : Is a act x y) : (g135 a s act x y) s 8 = a s 8 := by
  have hl := h.1.2.1
  rcases hi with ⟨rfl, -⟩ | ⟨rfl | rfl, -⟩ | ⟨rfl | rfl, -⟩ | ⟨rfl | rfl, -⟩
  · rw [g135_0]; exact g138_8 hl
  · rw [g135_1]; exact g108_8 hl
  · rw [g135_2]; exact g108_8 hl
  · rw [g135_3, mu_k (by decide)]
  · rw [g135_4, mu_k (by decide)]
  · rw [g135_5]; exact (g139_8 hl).1
  · rw [g135_6]; exact g130_8 hl
set_option maxRecDepth 16384 in
theorem p_try8 {a b : MM} {s : Int} (h : Dx a b s) {act x y : Int} (hi : Is a act x y) : (g136 a s act x y) s 8 = a s 8 := by
  unfold g136
  split
  · exact p_act8 h.1 hi
  · rfl
set_option maxRecDepth 16384 in
theorem p_dr18 {a b : MM} {s : Int} (h : Dx a b s) {i : Int} (i0 : 0 ≤ i) (i1 : i < a 3 6) : (cA1 a s i) s 8 = a s 8 := by
  obtain ⟨e, e0, e8⟩ := h.1.f
  have hs := h.1.1.2.2.2.2
  unfold cA1
  rw [h.1.1.2.2.1]
  by_cases c : a 3 7 ≤ 0
  · rw [if_pos c]
  · rw [if_neg c]
    have G := p_dr h (a 3 7) (a 3 7)
    obtain ⟨d1, d2, d3⟩ := p_dv h (n := a 3 7) (by omega) e8
    have t6 : (g116 a s (a 3 7)) 3 6 = a 3 6 := G.2.1 3 6 (by unfold Qd Qa; omega)
    have t7 : (g116 a s (a 3 7)) 3 7 = a 3 7 := G.2.1 3 7 (by unfold Qd Qa; omega)
    rw [p_try8 G.1 (Or.inl ⟨rfl, i0, by omega, by omega, by omega⟩), g116_ok, mu_k (by decide)]
set_option maxRecDepth 16384 in
theorem p_dr28 {a b : MM} {s : Int} (h : Dx a b s) {i : Int} (i0 : 0 ≤ i) (i1 : i < a 3 6) : (cA2 a s i) s 8 = a s 8 := by
  have hs := h.1.1.2.2.2.2
  unfold cA2
  have G := p_dr h 6 6
  have t6 : (g116 a s 6) 3 6 = a 3 6 := G.2.1 3 6 (by unfold Qd Qa; omega)
  have t6' := G.1.1.p
  have G2 := p_dr G.1 ((g116 a s 6) 3 6) ((g116 a s 6) 3 6)
  obtain ⟨k1, k2, k3⟩ := p_dv G.1 (n := (g116 a s 6) 3 6) (by omega) (by omega)
  have t66 : (g116 (g116 a s 6) s ((g116 a s 6) 3 6)) 3 6 = (g116 a s 6) 3 6 := G2.2.1 3 6 (by unfold Qd Qa; omega)
  have t8 : (g116 a s 6) s 8 = a s 8 := by rw [g116_ok, mu_k (by decide)]
  have t88 : (g116 (g116 a s 6) s ((g116 a s 6) 3 6)) s 8 = a s 8 := by rw [g116_ok, mu_k (by decide)]; exact t8
  rw [G.1.1.1.2.2.1]
  by_cases c : 1 < f116 a s 6
  · rw [if_pos c]; exact t8
  · rw [if_neg c]
    by_cases c0 : f116 a s 6 = 0
    · rw [if_pos c0, p_try8 G2.1 (Or.inr (Or.inl ⟨Or.inr rfl, i0, by omega, by omega, by omega⟩))]
      exact t88
    · rw [if_neg c0, p_try8 G2.1 (Or.inr (Or.inl ⟨Or.inl rfl, i0, by omega, by omega, by omega⟩))]
      exact t88
set_option maxRecDepth 16384 in
theorem p_dr4 {a b : MM} {s : Int} (h : Dx a b s) (b1 b2 b3 u c1 c2 c3 c4 : Int) : Gd a b (L121_25 a s b1 b2 b3 0 u).2.2.2.2 (L183_33 b 148 c1 c2 c3 c4 0).2.2.2 s ∧ (L121_25 a s b1 b2 b3 0 u).2.2.2.2 s 8 = a s 8 := by
  obtain ⟨e, e0, e8⟩ := h.1.p
  have hs := h.1.1.2.2.2.2
  unfold L121_25 L183_33
  refine Lp_sim (f := K121_25 a s b1 b2 b3 0 u) (f' := K183_33 b 148 c1 c2 c3 c4 0) (P := fun x y => x.1 = y.1 ∧ 0 ≤ x.1 ∧ x.1 ≤ a 3 6 ∧ Gd a b x.2.2 y.2 s ∧ x.2.2 s 8 = a s 8) (Q := fun t t' => Gd a b t.2.2.2.2 t'.2.2.2 s ∧ t.2.2.2.2 s 8 = a s 8) (fun x => (a 3 6 - x.1).toNat) ?_ (0, u, a) (0, b) ⟨rfl, Int.le_refl _, e0, Gd.rf h, rfl⟩
  rintro ⟨i, v, m⟩ ⟨j, n⟩ ⟨q1, q2, q3, q4, q5⟩
  dsimp only at q1 q2 q3 q4 q5
  subst q1
  have t6 : m 3 6 = a 3 6 := q4.2.1 3 6 (by unfold Qd Qa; omega)
  obtain ⟨z1, z2, z3⟩ := q4.1.1.p
  by_cases c : a 3 6 ≤ i
  · refine Or.inr ⟨(1, 0, (i, v, m)), (1, 0, (i, n)), ?_, ?_, q4, q5⟩
    · show S121_25 m s b1 b2 b3 i v = _
      unfold S121_25
      rw [q4.1.1.1.2.2.1, if_pos (by omega)]
    · show S183_33 n 148 c1 c2 c3 c4 i = _
      unfold S183_33
      rw [q4.1.1.bn, if_pos (by omega)]
  · obtain ⟨v', e1⟩ := S121_ok m s b1 b2 b3 i v (by rw [q4.1.1.1.2.2.1]; omega)
    have e2 : S183_33 n 148 c1 c2 c3 c4 i = .inl (s32 (i + 1), g185 n 148 i) := by
      unfold S183_33
      rw [q4.1.1.bn, if_neg (by omega)]
    rw [g185_ok] at e2
    have x3 : s32 (i + 1) = i + 1 := s32_id (by omega) (by omega)
    rw [x3] at e1 e2
    have G1 := p_dr1 q4.1 (i := i) q2 (by omega)
    have t61 : (cA1 m s i) 3 6 = m 3 6 := G1.2.1 3 6 (by unfold Qd Qa; omega)
    have G2 := p_dr2 G1.1 (i := i) q2 (by omega)
    refine Or.inl ⟨_, _, e1, e2, ⟨rfl, by dsimp only; omega, by dsimp only; omega, q4.tr (G1.tr G2), ?_⟩, by dsimp only; omega⟩
    dsimp only
    rw [p_dr28 G1.1 (i := i) q2 (by omega), p_dr18 q4.1 (i := i) q2 (by omega)]
    exact q5
set_option maxRecDepth 16384 in
/-- days drawn alike -/
theorem p_draws {a b : MM} {s : Int} (h : Sx a b s) {n x : Int} (n1 : 1 ≤ n) (n60 : n ≤ 60) : f121 a s n x = f183 b 148 n x ∧ Gd a b (g121 a s n x) (g183 b 148 n x) s := by
  have hs := h.1.2.2.2.2
  have hday := h.day
  have D0 : Gd a b (mu a s 9 x) (mu b 148 35 x) s := by
    refine ⟨⟨Sx_b (Sx_a9 h _) (fun k => mu_a (by decide)) (mu_k (by decide)), ?_⟩, (Fr.rf _ _).mu (Or.inr ⟨rfl, rfl⟩), (Fr.rf _ _).mu (Or.inr ⟨rfl, rfl⟩)⟩
    rw [mu_s, mu_s]
  have d8 : (mu a s 9 x) s 8 = a s 8 := mu_k (by decide)
  unfold f121 g121 f183 g183
  rw [D0.1.1.bn, mu_a (a := 148) (b := 150) (by decide), ← hday.1, s32_id (z := 400 - a s 8) (by omega) (by omega)]
  revert D0 d8
  generalize mu a s 9 x = a1
  generalize mu b 148 35 x = b1
  intro D0 d8
  have hk : f220 b1 n (400 - a s 8) = if 400 - a s 8 ≤ n then 400 - a s 8 else n := rfl
  revert hk
  generalize f220 b1 n (400 - a s 8) = k
  intro hk
  have hk2 : k ≤ n ∧ k ≤ 400 - a s 8 ∧ 0 ≤ k ∧ (k = n ∨ k = 400 - a s 8) := by
    rw [hk]; split <;> omega
  clear hk
  unfold L121_7 L183_24
  refine Lp_sim (f := K121_7 a1 s n x 0 0 0) (f' := K183_24 b1 148 n x k 0 0) (P := fun t t' => t.1 = t'.1 ∧ 0 ≤ t.1 ∧ t.1 ≤ k ∧ Gd a b t.2.2.2 t'.2.2 s ∧ t.2.2.2 s 8 = a s 8 + t.1) (Q := fun t t' => t.2.2.1 = k ∧ Gd a b t.2.2.2.2.2 t'.2.2.2.2 s) (fun t => (k - t.1).toNat) ?_ (0, 0, 0, a1) (0, 0, b1) ⟨rfl, Int.le_refl _, by dsimp only; omega, D0, by dsimp only; omega⟩
  rintro ⟨i, u, v, m⟩ ⟨j, w, n'⟩ ⟨q1, q2, q3, q4, q5⟩
  dsimp only at q1 q2 q3 q4 q5
  subst q1
  by_cases c : k ≤ i
  · refine Or.inr ⟨(1, 0, (i, u, v, m)), (1, 0, (i, w, n')), ?_, ?_, ?_, q4⟩
    · show S121_7 m s n x i u v = _
      unfold S121_7
      by_cases d : n ≤ i
      · rw [if_pos d]
      · rw [if_neg d, if_pos (by omega)]
    · show S183_24 n' 148 n x k i w = _
      unfold S183_24
      rw [if_pos c]
    · dsimp only; omega
  · have e1 : S121_7 m s n x i u v = .inl (s32 (i + 1), (L121_25 m s n x i 0 v).2.2.1, (L121_25 m s n x i 0 v).2.2.2.1, g122 ((L121_25 m s n x i 0 v).2.2.2.2) s) := by
      unfold S121_7
      rw [if_neg (by omega), if_neg (by omega)]
    have e2 : S183_24 n' 148 n x k i w = .inl (s32 (i + 1), (L183_33 n' 148 n x k i 0).2.2.1, g231 ((L183_33 n' 148 n x k i 0).2.2.2) 148) := by
      unfold S183_24
      rw [if_neg c]
    have x3 : s32 (i + 1) = i + 1 := s32_id (by omega) (by omega)
    rw [x3] at e1 e2
    obtain ⟨G1, t8⟩ := p_dr4 q4.1 n x i v n x k i
    obtain ⟨G2, t9⟩ := p_day G1.1.1 (by omega)
    refine Or.inl ⟨_, _, e1, e2, ⟨rfl, by dsimp only; omega, by dsimp only; omega, q4.tr (G1.tr (Gd_of G1.1 G2)), ?_⟩, by dsimp only; omega⟩
    dsimp only
    rw [t9, t8, q5]
    omega
set_option maxRecDepth 16384 in
/-- days that go by alike -/
theorem p_days {a b : MM} {s : Int} (h : Sx a b s) {k y u w : Int} (k0 : 0 ≤ k) (hk : k ≤ 400 - a s 8) : Gx a b (L135_131 a s y k u 0).2.2.2 (L237_18 b 148 w k 0).2.2.2 s := by
  have hs := h.1.2.2.2.2
  have hday := h.day
  unfold L135_131 L237_18
  refine Lp_sim (f := K135_131 a s y k u 0) (f' := K237_18 b 148 w k 0) (P := fun t t' => t.1 = t'.1 ∧ 0 ≤ t.1 ∧ t.1 ≤ k ∧ Gx a b t.2 t'.2 s ∧ t.2 s 8 = a s 8 + t.1) (Q := fun t t' => Gx a b t.2.2.2 t'.2.2.2 s) (fun t => (k - t.1).toNat) ?_ (0, a) (0, b) ⟨rfl, Int.le_refl _, k0, Gx.rf h, by dsimp only; omega⟩
  rintro ⟨i, m⟩ ⟨j, n⟩ ⟨q1, q2, q3, q4, q5⟩
  dsimp only at q1 q2 q3 q4 q5
  subst q1
  by_cases c : k ≤ i
  · refine Or.inr ⟨(1, 0, (i, m)), (1, 0, (i, n)), ?_, ?_, q4⟩
    · show S135_131 m s y k u i = _
      unfold S135_131
      rw [if_pos c]
    · show S237_18 n 148 w k i = _
      unfold S237_18
      rw [if_pos c]
  · have e1 : S135_131 m s y k u i = .inl (s32 (i + 1), g122 m s) := by
      unfold S135_131
      rw [if_neg c]
    have e2 : S237_18 n 148 w k i = .inl (s32 (i + 1), g231 n 148) := by
      unfold S237_18
      rw [if_neg c]
    have x3 : s32 (i + 1) = i + 1 := s32_id (by omega) (by omega)
    rw [x3] at e1 e2
    obtain ⟨G2, t9⟩ := p_day q4.1 (by omega)
    refine Or.inl ⟨_, _, e1, e2, ⟨rfl, by dsimp only; omega, by dsimp only; omega, q4.tr G2, ?_⟩, by dsimp only; omega⟩
    dsimp only
    rw [t9, q5]
    omega
end
section
/-! Copies as functions; copies of what is so; acts to be undone. -/
set_option maxRecDepth 16384 in
theorem c67 {m : MM} {x y : Int} (hx : LRo m x) (hy : LRo m y) (hd : x + 5 < y ∨ y + 5 < x) : Fr (PRo x) m (g67 m x y) ∧ (∀ k, 5 ≤ k → k ≤ 8 → (g67 m x y) x k = m y k) ∧ (∀ i k, 1 ≤ i → i ≤ 5 → 0 ≤ k → k < 8 → (g67 m x y) (x + i) k = m (y + i) k) := by
  have h : (∃ y1, y1 = mcp m (m x 0) (m y 0) 8 ∧ (∃ y2, y2 = mcp y1 (y1 x 1) (y1 y 1) 8 ∧ (∃ y3, y3 = mcp y2 (y2 x 2) (y2 y 2) 8 ∧ (∃ y4, y4 = mcp y3 (y3 x 3) (y3 y 3) 8 ∧ (∃ y5, y5 = mcp y4 (y4 x 4) (y4 y 4) 8 ∧ (∃ y6, y6 = mu y5 x 5 (y5 y 5) ∧ (∃ y7, y7 = mu y6 x 6 (y6 y 6) ∧ (∃ y8, y8 = mu y7 x 7 (y7 y 7) ∧ (∃ y9, y9 = mu y8 x 8 (y8 y 8) ∧ (g67 m x y = y9)))))))))) := ⟨_, rfl, _, rfl, _, rfl, _, rfl, _, rfl, _, rfl, _, rfl, _, rfl, _, rfl, rfl⟩
  obtain ⟨y1, e1, y2, e2, y3, e3, y4, e4, y5, e5, y6, e6, y7, e7, y8, e8, m', e9, hm⟩ := h
  rw [hm]
  obtain ⟨x0, x1, x2, x3, x4⟩ := hx
  obtain ⟨z0, z1, z2, z3, z4⟩ := hy
  rw [x0, z0] at e1
  have f1 : Fr (fun a k => a = x + 1 ∧ 0 ≤ k ∧ k < 8) m y1 := by rw [e1]; exact (Fr.rf _ _).cp (fun j h1 h2 => ⟨rfl, h1, h2⟩)
  rw [f1 x 1 (by omega), f1 y 1 (by omega), x1, z1] at e2
  have f2 : Fr (fun a k => (a = x + 1 ∨ a = x + 2) ∧ 0 ≤ k ∧ k < 8) m y2 := by rw [e2]; exact (f1.mo (fun a k q => ⟨Or.inl q.1, q.2⟩)).cp (fun j h1 h2 => ⟨Or.inr rfl, h1, h2⟩)
  rw [f2 x 2 (by omega), f2 y 2 (by omega), x2, z2] at e3
  have f3 : Fr (fun a k => (a = x + 1 ∨ a = x + 2 ∨ a = x + 3) ∧ 0 ≤ k ∧ k < 8) m y3 := by rw [e3]; exact (f2.mo (fun a k q => ⟨by omega, q.2⟩)).cp (fun j h1 h2 => ⟨by omega, h1, h2⟩)
  rw [f3 x 3 (by omega), f3 y 3 (by omega), x3, z3] at e4
  have f4 : Fr (fun a k => (a = x + 1 ∨ a = x + 2 ∨ a = x + 3 ∨ a = x + 4) ∧ 0 ≤ k ∧ k < 8) m y4 := by rw [e4]; exact (f3.mo (fun a k q => ⟨by omega, q.2⟩)).cp (fun j h1 h2 => ⟨by omega, h1, h2⟩)
  rw [f4 x 4 (by omega), f4 y 4 (by omega), x4, z4] at e5
  have f5 : Fr (fun a k => (x < a ∧ a ≤ x + 5) ∧ 0 ≤ k ∧ k < 8) m y5 := by rw [e5]; exact (f4.mo (fun a k q => ⟨by omega, q.2⟩)).cp (fun j h1 h2 => ⟨by omega, h1, h2⟩)
  have f9 : Fr (PRo x) m m' := by
    rw [e9, e8, e7, e6]
    exact ((((f5.mo (fun a k q => Or.inr ⟨q.1.1, q.1.2, q.2⟩)).mu (Or.inl ⟨rfl, by omega⟩)).mu (Or.inl ⟨rfl, by omega⟩)).mu (Or.inl ⟨rfl, by omega⟩)).mu (Or.inl ⟨rfl, by omega⟩)
  refine ⟨f9, fun k k1 k2 => ?_, fun i k i1 i2 k1 k2 => ?_⟩
  · have hyx : y ≠ x := by omega
    have t5 : ∀ j, 5 ≤ j → y5 y j = m y j := fun j hj => f5 y j (by omega)
    rcases (by omega : k = 5 ∨ k = 6 ∨ k = 7 ∨ k = 8) with rfl | rfl | rfl | rfl
    · rw [e9, mu_k (by decide), e8, mu_k (by decide), e7, mu_k (by decide), e6, mu_s]; exact t5 5 (by decide)
    · rw [e9, mu_k (by decide), e8, mu_k (by decide), e7, mu_s, e6, mu_a hyx]; exact t5 6 (by decide)
    · rw [e9, mu_k (by decide), e8, mu_s, e7, mu_a hyx, e6, mu_a hyx]; exact t5 7 (by decide)
    · rw [e9, mu_s, e8, mu_a hyx, e7, mu_a hyx, e6, mu_a hyx]; exact t5 8 (by decide)
  · have g : m' (x + i) k = y5 (x + i) k := by rw [e9, mu_a (by omega), e8, mu_a (by omega), e7, mu_a (by omega), e6, mu_a (by omega)]
    rw [g]
    rcases (by omega : i = 1 ∨ i = 2 ∨ i = 3 ∨ i = 4 ∨ i = 5) with rfl | rfl | rfl | rfl | rfl
    · rw [e5, mcp_k (by omega), e4, mcp_k (by omega), e3, mcp_k (by omega), e2, mcp_k (by omega), e1, mcp_i k1 k2]
    · rw [e5, mcp_k (by omega), e4, mcp_k (by omega), e3, mcp_k (by omega), e2, mcp_i k1 k2]; exact f1 _ _ (by omega)
    · rw [e5, mcp_k (by omega), e4, mcp_k (by omega), e3, mcp_i k1 k2]; exact f2 _ _ (by omega)
    · rw [e5, mcp_k (by omega), e4, mcp_i k1 k2]; exact f3 _ _ (by omega)
    · rw [e5, mcp_i k1 k2]; exact f4 _ _ (by omega)
set_option maxRecDepth 16384 in
theorem c113 {m : MM} {x y : Int} (hx : LSt m x) (hy : LSt m y) (hd : x + 6 < y ∨ y + 6 < x) : Fr (PSt x) m (g113 m x y) ∧ ((g113 m x y) x 7 = m y 7 ∧ (g113 m x y) x 8 = m y 8) ∧ (∀ k, 0 ≤ k → k < 64 → (g113 m x y) (x + 1) k = m (y + 1) k) ∧ (∀ i k, 2 ≤ i → i ≤ 5 → 0 ≤ k → k < 8 → (g113 m x y) (x + i) k = m (y + i) k) ∧ (∀ k, 0 ≤ k → k < 24 → (g113 m x y) (x + 6) k = m (y + 6) k) := by
  have h : (∃ y1, y1 = mcp m (m x 1) (m y 1) 64 ∧ (∃ y2, y2 = mcp y1 (y1 x 2) (y1 y 2) 8 ∧ (∃ y3, y3 = mcp y2 (y2 x 3) (y2 y 3) 8 ∧ (∃ y4, y4 = mcp y3 (y3 x 4) (y3 y 4) 8 ∧ (∃ y5, y5 = mcp y4 (y4 x 5) (y4 y 5) 8 ∧ (∃ y6, y6 = mcp y5 (y5 x 6) (y5 y 6) 24 ∧ (∃ y7, y7 = mu y6 x 7 (y6 y 7) ∧ (∃ y8, y8 = mu y7 x 8 (y7 y 8) ∧ (g113 m x y = y8))))))))) := ⟨_, rfl, _, rfl, _, rfl, _, rfl, _, rfl, _, rfl, _, rfl, _, rfl, rfl⟩
  obtain ⟨y1, e1, y2, e2, y3, e3, y4, e4, y5, e5, y6, e6, y7, e7, m', e8, hm⟩ := h
  rw [hm]
  obtain ⟨x1, x2, x3, x4, x5, x6⟩ := hx
  obtain ⟨z1, z2, z3, z4, z5, z6⟩ := hy
  rw [x1, z1] at e1
  have f1 : Fr (fun a k => a = x + 1 ∧ 0 ≤ k ∧ k < 64) m y1 := by rw [e1]; exact (Fr.rf _ _).cp (fun j h1 h2 => ⟨rfl, h1, h2⟩)
  rw [f1 x 2 (by omega), f1 y 2 (by omega), x2, z2] at e2
  have f2 : Fr (fun a k => (a = x + 1 ∨ a = x + 2) ∧ 0 ≤ k ∧ k < 64) m y2 := by rw [e2]; exact (f1.mo (fun a k q => ⟨Or.inl q.1, q.2⟩)).cp (fun j h1 h2 => ⟨Or.inr rfl, h1, by omega⟩)
  rw [f2 x 3 (by omega), f2 y 3 (by omega), x3, z3] at e3
  have f3 : Fr (fun a k => (a = x + 1 ∨ a = x + 2 ∨ a = x + 3) ∧ 0 ≤ k ∧ k < 64) m y3 := by rw [e3]; exact (f2.mo (fun a k q => ⟨by omega, q.2⟩)).cp (fun j h1 h2 => ⟨by omega, h1, by omega⟩)
  rw [f3 x 4 (by omega), f3 y 4 (by omega), x4, z4] at e4
  have f4 : Fr (fun a k => (a = x + 1 ∨ a = x + 2 ∨ a = x + 3 ∨ a = x + 4) ∧ 0 ≤ k ∧ k < 64) m y4 := by rw [e4]; exact (f3.mo (fun a k q => ⟨by omega, q.2⟩)).cp (fun j h1 h2 => ⟨by omega, h1, by omega⟩)
  rw [f4 x 5 (by omega), f4 y 5 (by omega), x5, z5] at e5
  have f5 : Fr (fun a k => (x < a ∧ a ≤ x + 5) ∧ 0 ≤ k ∧ k < 64) m y5 := by rw [e5]; exact (f4.mo (fun a k q => ⟨by omega, q.2⟩)).cp (fun j h1 h2 => ⟨by omega, h1, by omega⟩)
  rw [f5 x 6 (by omega), f5 y 6 (by omega), x6, z6] at e6
  have f6 : Fr (fun a k => (x < a ∧ a ≤ x + 6) ∧ 0 ≤ k ∧ k < 64) m y6 := by rw [e6]; exact (f5.mo (fun a k q => ⟨by omega, q.2⟩)).cp (fun j h1 h2 => ⟨by omega, h1, by omega⟩)
  have f8 : Fr (PSt x) m m' := by
    rw [e8, e7]
    exact ((f6.mo (fun a k q => Or.inr ⟨q.1.1, q.1.2, q.2⟩)).mu (Or.inl ⟨rfl, by omega⟩)).mu (Or.inl ⟨rfl, by omega⟩)
  have hyx : y ≠ x := by omega
  have g : ∀ i k, 1 ≤ i → m' (x + i) k = y6 (x + i) k := fun i k hi => by rw [e8, mu_a (by omega), e7, mu_a (by omega)]
  refine ⟨f8, ⟨?_, ?_⟩, fun k k1 k2 => ?_, fun i k i1 i2 k1 k2 => ?_, fun k k1 k2 => ?_⟩
  · rw [e8, mu_k (by decide), e7, mu_s]; exact f6 y 7 (by omega)
  · rw [e8, mu_s, e7, mu_a hyx]; exact f6 y 8 (by omega)
  · rw [g 1 k (by omega), e6, mcp_k (by omega), e5, mcp_k (by omega), e4, mcp_k (by omega), e3, mcp_k (by omega), e2, mcp_k (by omega), e1, mcp_i k1 k2]
  · rw [g i k (by omega), e6, mcp_k (by omega)]
    rcases (by omega : i = 2 ∨ i = 3 ∨ i = 4 ∨ i = 5) with rfl | rfl | rfl | rfl
    · rw [e5, mcp_k (by omega), e4, mcp_k (by omega), e3, mcp_k (by omega), e2, mcp_i k1 k2]; exact f1 _ _ (by omega)
    · rw [e5, mcp_k (by omega), e4, mcp_k (by omega), e3, mcp_i k1 k2]; exact f2 _ _ (by omega)
    · rw [e5, mcp_k (by omega), e4, mcp_i k1 k2]; exact f3 _ _ (by omega)
    · rw [e5, mcp_i k1 k2]; exact f4 _ _ (by omega)
  · rw [g 6 k (by omega), e6, mcp_i k1 k2]; exact f5 _ _ (by omega)
set_option maxRecDepth 16384 in
theorem c88 {m : MM} {x y : Int} (hx : LSe m x) (hy : LSe m y) (hd : x + 3 < y ∨ y + 3 < x) : Fr (PSe x) m (g88 m x y) ∧ ((g88 m x y) x 4 = m y 4 ∧ (g88 m x y) x 5 = m y 5) ∧ (∀ i k, 1 ≤ i → i ≤ 3 → 0 ≤ k → k < 40 → (g88 m x y) (x + i) k = m (y + i) k) := by
  have h : (∃ y1, y1 = mcp m (m x 0) (m y 0) 40 ∧ (∃ y2, y2 = mcp y1 (y1 x 1) (y1 y 1) 40 ∧ (∃ y3, y3 = mcp y2 (y2 x 2) (y2 y 2) 40 ∧ (∃ y4, y4 = mu y3 x 4 (y3 y 4) ∧ (∃ y5, y5 = mu y4 x 5 (y4 y 5) ∧ (g88 m x y = y5)))))) := ⟨_, rfl, _, rfl, _, rfl, _, rfl, _, rfl, rfl⟩
  obtain ⟨y1, e1, y2, e2, y3, e3, y4, e4, m', e5, hm⟩ := h
  rw [hm]
  obtain ⟨x0, x1, x2⟩ := hx
  obtain ⟨z0, z1, z2⟩ := hy
  rw [x0, z0] at e1
  have f1 : Fr (fun a k => a = x + 1 ∧ 0 ≤ k ∧ k < 40) m y1 := by rw [e1]; exact (Fr.rf _ _).cp (fun j h1 h2 => ⟨rfl, h1, h2⟩)
  rw [f1 x 1 (by omega), f1 y 1 (by omega), x1, z1] at e2
  have f2 : Fr (fun a k => (a = x + 1 ∨ a = x + 2) ∧ 0 ≤ k ∧ k < 40) m y2 := by rw [e2]; exact (f1.mo (fun a k q => ⟨Or.inl q.1, q.2⟩)).cp (fun j h1 h2 => ⟨Or.inr rfl, h1, h2⟩)
  rw [f2 x 2 (by omega), f2 y 2 (by omega), x2, z2] at e3
  have f3 : Fr (fun a k => (x < a ∧ a ≤ x + 3) ∧ 0 ≤ k ∧ k < 40) m y3 := by rw [e3]; exact (f2.mo (fun a k q => ⟨by omega, q.2⟩)).cp (fun j h1 h2 => ⟨by omega, h1, h2⟩)
  have hyx : y ≠ x := by omega
  have g : ∀ i k, 1 ≤ i → m' (x + i) k = y3 (x + i) k := fun i k hi => by rw [e5, mu_a (by omega), e4, mu_a (by omega)]
  refine ⟨?_, ⟨?_, ?_⟩, fun i k i1 i2 k1 k2 => ?_⟩
  · rw [e5, e4]
    exact ((f3.mo (fun a k q => Or.inr ⟨q.1.1, q.1.2, q.2⟩)).mu (Or.inl ⟨rfl, by omega⟩)).mu (Or.inl ⟨rfl, by omega⟩)
  · rw [e5, mu_k (by decide), e4, mu_s]; exact f3 y 4 (by omega)
  · rw [e5, mu_s, e4, mu_a hyx]; exact f3 y 5 (by omega)
  · rw [g i k (by omega)]
    rcases (by omega : i = 1 ∨ i = 2 ∨ i = 3) with rfl | rfl | rfl
    · rw [e3, mcp_k (by omega), e2, mcp_k (by omega), e1, mcp_i k1 k2]
    · rw [e3, mcp_k (by omega), e2, mcp_i k1 k2]; exact f1 _ _ (by omega)
    · rw [e3, mcp_i k1 k2]; exact f2 _ _ (by omega)
set_option maxRecDepth 16384 in
theorem c88f {m : MM} {x y : Int} (hx : LSe m x) (hy : LSe m y) (hd : x + 3 < y ∨ y + 3 < x ∨ x = y) : Fr (PSe x) m (g88 m x y) := by
  have h : (∃ y1, y1 = mcp m (m x 0) (m y 0) 40 ∧ (∃ y2, y2 = mcp y1 (y1 x 1) (y1 y 1) 40 ∧ (∃ y3, y3 = mcp y2 (y2 x 2) (y2 y 2) 40 ∧ (∃ y4, y4 = mu y3 x 4 (y3 y 4) ∧ (∃ y5, y5 = mu y4 x 5 (y4 y 5) ∧ (g88 m x y = y5)))))) := ⟨_, rfl, _, rfl, _, rfl, _, rfl, _, rfl, rfl⟩
  obtain ⟨y1, e1, y2, e2, y3, e3, y4, e4, m', e5, hm⟩ := h
  rw [hm]
  obtain ⟨x0, x1, x2⟩ := hx
  obtain ⟨z0, z1, z2⟩ := hy
  rw [x0, z0] at e1
  have f1 : Fr (fun a k => a = x + 1 ∧ 0 ≤ k ∧ k < 40) m y1 := by rw [e1]; exact (Fr.rf _ _).cp (fun j h1 h2 => ⟨rfl, h1, h2⟩)
  rw [f1 x 1 (by omega), f1 y 1 (by omega), x1, z1] at e2
  have f2 : Fr (fun a k => (a = x + 1 ∨ a = x + 2) ∧ 0 ≤ k ∧ k < 40) m y2 := by rw [e2]; exact (f1.mo (fun a k q => ⟨Or.inl q.1, q.2⟩)).cp (fun j h1 h2 => ⟨Or.inr rfl, h1, h2⟩)
  rw [f2 x 2 (by omega), f2 y 2 (by omega), x2, z2] at e3
  have f3 : Fr (fun a k => (x < a ∧ a ≤ x + 3) ∧ 0 ≤ k ∧ k < 40) m y3 := by rw [e3]; exact (f2.mo (fun a k q => ⟨by omega, q.2⟩)).cp (fun j h1 h2 => ⟨by omega, h1, h2⟩)
  rw [e5, e4]
  exact ((f3.mo (fun a k q => Or.inr ⟨q.1.1, q.1.2, q.2⟩)).mu (Or.inl ⟨rfl, by omega⟩)).mu (Or.inl ⟨rfl, by omega⟩)
end
section
/-! What is so, copied; acts to be undone. -/
set_option maxRecDepth 16384 in
theorem Sn_cp {a a' b b' : MM} {r r' s s' n n' o o' : Int} (h : Sn a b r s n o) (h7 : a' r' 7 = a r 7) (h8 : a r 7 ≤ 8) (hsr : ∀ f, 0 ≤ f → f < a r 7 → 1 ≤ a (r + 4) f ∧ a (r + 4) f ≤ 9) (hab : ∀ f, 0 ≤ f → f < 8 → a' (r' + 3) f = a (r + 3) f ∧ a' (r' + 4) f = a (r + 4) f) (hs : a' s' 7 = a s 7 ∧ a' s' 8 = a s 8) (h1 : ∀ k, 0 ≤ k → k < 64 → a' (s' + 1) k = a (s + 1) k) (h2 : ∀ i k, 2 ≤ i → i ≤ 5 → 0 ≤ k → k < 8 → a' (s' + i) k = a (s + i) k) (h6 : ∀ k, 0 ≤ k → k < 24 → a' (s' + 6) k = a (s + 6) k) (hb : ∀ k, 92 ≤ k → k < 214 → b' n' (o' + k) = b n (o + k) ∨ b' n' (o' + k) = s32 (b n (o + k))) : Sn a' b' r' s' n' o' := by
  have hb' : ∀ x y v, x - o' = y - o → 92 ≤ y - o → y - o < 214 → b n y = v → s32 v = v → b' n' x = v := fun x y v e1 e2 e3 e4 e5 => by
    have := hb (y - o) e2 e3
    rw [show o' + (y - o) = x by omega, show o + (y - o) = y by omega, e4, e5] at this
    rcases this with q | q <;> exact q
  obtain ⟨⟨d1, d1', d1''⟩, ⟨d2, d2'⟩, d3, d4, d5⟩ := h
  refine ⟨⟨?_, ?_, ?_⟩, ⟨?_, ?_⟩, fun k k0 k1 => ?_, fun p p0 p1 => ?_, fun f f0 f1 => ?_⟩
  · rw [hs.2]; exact (hb' (o' + 92) (o + 92) _ (by omega) (by omega) (by omega) d1.symm (s32_id (by omega) (by omega))).symm
  · rw [hs.2]; exact d1'
  · rw [hs.2]; exact d1''
  · rw [hs.1]; exact (hb' (o' + 93) (o + 93) _ (by omega) (by omega) (by omega) d2.symm d2').symm
  · rw [hs.1]; exact d2'
  · obtain ⟨q1, q2, q3, q4⟩ := d3 k k0 k1
    rw [h1 k k0 k1]
    exact ⟨(hb' (o' + 94 + k) (o + 94 + k) _ (by omega) (by omega) (by omega) q1.symm (s32_id (by omega) (by omega))).symm, q2, q3, q4⟩
  · obtain ⟨⟨q1, q2, q3⟩, q4, q5⟩ := d4 p p0 p1
    rw [h2 2 p (by decide) (by decide) p0 p1, h2 3 p (by decide) (by decide) p0 p1]
    exact ⟨⟨(hb' (o' + 198 + p) (o + 198 + p) _ (by omega) (by omega) (by omega) q1.symm (s32_id (by omega) (by omega))).symm, q2, q3⟩, (hb' (o' + 206 + p) (o + 206 + p) _ (by omega) (by omega) (by omega) q4.symm q5).symm, q5⟩
  · rw [h7] at f1
    obtain ⟨⟨g1, g1', g1''⟩, g2, g3, g4, g5, g6⟩ := d5 f f0 f1
    have hab' := hab f f0 (by omega)
    have e4 := h2 4 f (by decide) (by decide) f0 (by omega)
    have e5 := h2 5 f (by decide) (by decide) f0 (by omega)
    have hs4 := hsr f f0 f1
    have e90 : ∀ v, b n (o + 190 + f) = v → s32 v = v → b' n' (o' + 190 + f) = v := fun v => hb' (o' + 190 + f) (o + 190 + f) v (by omega) (by omega) (by omega)
    refine ⟨⟨?_, ?_, ?_⟩, fun q => ?_, fun q => ?_, fun q q' => ?_, fun k k0 k1 => ?_, ?_⟩
    · rw [e4]; exact (hb' (o' + 182 + f) (o + 182 + f) _ (by omega) (by omega) (by omega) g1.symm (s32_id (by omega) (by omega))).symm
    · rw [e4]; exact g1'
    · rw [e4]; exact g1''
    · rw [e4] at q
      obtain ⟨t1, t2, t3⟩ := g2 q
      rw [e5]
      exact ⟨e90 _ t1 (s32_id (by omega) (by omega)), t2, t3⟩
    · rw [e4] at q
      exact e90 _ (g3 q) (s32_id (by decide) (by decide))
    · rw [e4] at q q'
      rw [hab'.2]
      exact e90 _ (g4 q q') (s32_id (by omega) (by omega))
    · obtain ⟨t1, t2, t3, t4⟩ := g5 k k0 k1
      rw [h6 (3 * f + k) (by omega) (by omega), e4]
      exact ⟨(hb' (o' + 158 + (3 * f + k)) (o + 158 + (3 * f + k)) _ (by omega) (by omega) (by omega) t1.symm (s32_id (by omega) (by omega))).symm, t2, t3, t4⟩
    · rw [h6 (3 * f + 1) (by omega) (by omega), hab'.1]; exact g6
set_option maxRecDepth 16384 in
theorem Ro_cp {a a' b b' : MM} {r r' n n' o o' : Int} (h : Ro a b r n o) (hk : ∀ k, 6 ≤ k → k ≤ 8 → a' r' k = a r k) (hi : ∀ i k, 3 ≤ i → i ≤ 5 → 0 ≤ k → k < 8 → a' (r' + i) k = a (r + i) k) (hb : ∀ k, 0 ≤ k → k < 92 → b' n' (o' + k) = s32 (b n (o + k))) : Ro a' b' r' n' o' := by
  have hb' : ∀ x y, x - o' = y - o → 0 ≤ y - o → y - o < 92 → b' n' x = s32 (b n y) := fun x y e1 e2 e3 => by
    have := hb (y - o) e2 e3
    rw [show o' + (y - o) = x by omega, show o + (y - o) = y by omega] at this
    exact this
  obtain ⟨⟨c1, c2, c3⟩, ⟨c4, c5, c6⟩, ⟨c7, c8⟩, c9, c10⟩ := h
  refine ⟨⟨?_, ?_, ?_⟩, ⟨?_, ?_, ?_⟩, ⟨?_, ?_⟩, fun k k0 k1 => ?_, fun k k0 k1 => ?_⟩
  · rw [hk 6 (by decide) (by decide), hb' o' o (by omega) (by omega) (by omega), ← c1, s32_id (by omega) (by omega)]
  · rw [hk 6 (by decide) (by decide)]; exact c2
  · rw [hk 6 (by decide) (by decide)]; exact c3
  · rw [hk 7 (by decide) (by decide), hb' (o' + 1) (o + 1) (by omega) (by omega) (by omega), ← c4, s32_id (by omega) (by omega)]
  · rw [hk 7 (by decide) (by decide)]; exact c5
  · rw [hk 7 (by decide) (by decide)]; exact c6
  · rw [hk 8 (by decide) (by decide), hb' (o' + 2) (o + 2) (by omega) (by omega) (by omega), ← c7, s32_id (by omega) (by omega)]
  · rw [hk 8 (by decide) (by decide)]; exact c8
  · obtain ⟨q1, q2⟩ := c9 k k0 k1
    rw [hi 5 k (by decide) (by decide) k0 k1, hb' (o' + 4 + k) (o + 4 + k) (by omega) (by omega) (by omega), ← q1]
    exact ⟨q2.symm, q2⟩
  · rw [hk 7 (by decide) (by decide)] at k1
    obtain ⟨⟨q1, q2, q3⟩, q4, q5, q6⟩ := c10 k k0 k1
    rw [hi 3 k (by decide) (by decide) k0 (by omega), hi 4 k (by decide) (by decide) k0 (by omega), hb' (o' + 76 + k) (o + 76 + k) (by omega) (by omega) (by omega), hb' (o' + 84 + k) (o + 84 + k) (by omega) (by omega) (by omega), ← q1, ← q4]
    exact ⟨⟨(s32_id (by omega) (by omega)).symm, q2, q3⟩, (s32_id (by omega) (by omega)).symm, q5, q6⟩
set_option maxRecDepth 16384 in
theorem Nm_cp {a a' b b' : MM} {r r' w w' u u' : Int} (h : Nm a b r w u) (h6 : a r 6 ≤ 8) (h7 : a r 7 ≤ 8) (hk : ∀ k, 6 ≤ k → k ≤ 7 → a' r' k = a r k) (hi : ∀ i k, 1 ≤ i → i ≤ 2 → 0 ≤ k → k < 8 → a' (r' + i) k = a (r + i) k) (hb : ∀ k, 0 ≤ k → k < 16 → b' w' (u' + k) = b w (u + k)) : Nm a' b' r' w' u' := by
  obtain ⟨n1, n2⟩ := h
  refine ⟨fun k k0 k1 => ?_, fun k k0 k1 => ?_⟩
  · rw [hk 6 (by decide) (by decide)] at k1
    rw [hi 1 k (by decide) (by decide) k0 (by omega), hb k k0 (by omega)]
    exact n1 k k0 k1
  · rw [hk 7 (by decide) (by decide)] at k1
    have := hb (8 + k) (by omega) (by omega)
    rw [← Int.add_assoc, ← Int.add_assoc] at this
    rw [hi 2 k (by decide) (by decide) k0 (by omega), this]
    exact n2 k k0 k1
set_option maxRecDepth 16384 in
/-- what is kept to be undone -/
def Un (a b : MM) : Prop := (a 29 0 = 30 ∧ a 30 (-1) = 8 ∧ (∀ i, 0 ≤ i → i < 8 → a 30 i = 31 + 7 * i) ∧ (∀ i, 0 ≤ i → i < 8 → LSt a (31 + 7 * i))) ∧ (0 ≤ a 29 1 ∧ a 29 1 < 8) ∧ (a 29 2 = b 148 23 ∧ 0 ≤ a 29 2 ∧ a 29 2 ≤ 8) ∧ b 148 17 = 153 ∧ (∀ j, 0 ≤ j → j < a 29 2 → Sn a b 3 (31 + 7 * ((a 29 1 + 8 - a 29 2 + j) % 8)) 153 (122 * j - 92))
set_option maxRecDepth 16384 in
theorem Sn_fr {a a' b b' : MM} {r s n o : Int} (h : Sn a b r s n o) (hr : ∀ x k, r ≤ x → x ≤ r + 5 → 0 ≤ k → a' x k = a x k) (hs : ∀ x k, s ≤ x → x ≤ s + 6 → 0 ≤ k → a' x k = a x k) (hb : ∀ k, b' n k = b n k) : Sn a' b' r s n o := by
  have e1 : b' n = b n := funext hb
  obtain ⟨d1, d2, d3, d4, d5⟩ := h
  have hs' : ∀ i k, 0 ≤ i → i ≤ 6 → 0 ≤ k → a' (s + i) k = a (s + i) k := fun i k i0 i6 k0 => hs _ k (by omega) (by omega) k0
  refine ⟨?_, ?_, fun k k0 k1 => ?_, fun p p0 p1 => ?_, fun f f0 f1 => ?_⟩
  · rw [hs s 8 (by omega) (by omega) (by decide), e1]; exact d1
  · rw [hs s 7 (by omega) (by omega) (by decide), e1]; exact d2
  · rw [hs' 1 k (by decide) (by decide) k0, e1]; exact d3 k k0 k1
  · rw [hs' 2 p (by decide) (by decide) p0, hs' 3 p (by decide) (by decide) p0, e1]; exact d4 p p0 p1
  · rw [hr r 7 (by omega) (by omega) (by decide)] at f1
    have q := d5 f f0 f1
    unfold Fo at *
    rw [hs' 4 f (by decide) (by decide) f0, hs' 5 f (by decide) (by decide) f0, hs' 6 (3 * f + 1) (by decide) (by decide) (by omega), hr (r + 3) f (by omega) (by omega) f0, hr (r + 4) f (by omega) (by omega) f0, e1]
    refine ⟨q.1, q.2.1, q.2.2.1, q.2.2.2.1, fun k k0 k1 => ?_, q.2.2.2.2.2⟩
    rw [hs' 6 (3 * f + k) (by decide) (by decide) (by omega)]
    exact q.2.2.2.2.1 k k0 k1
set_option maxRecDepth 16384 in
theorem Un_fr {a a' b b' : MM} (h : Un a b) (ha : ∀ x k, (3 ≤ x ∧ x ≤ 8 ∧ 0 ≤ k) ∨ (29 ≤ x ∧ x ≤ 86) → a' x k = a x k) (hb : ∀ k, b' 153 k = b 153 k) (h23 : b' 148 23 = b 148 23) (h17 : b' 148 17 = b 148 17) : Un a' b' := by
  obtain ⟨⟨u1, u2, u3, u4⟩, ⟨u5, u6⟩, ⟨u7, u8, u9⟩, u10, u11⟩ := h
  have e1 := ha 29 1 (by omega)
  have e2 := ha 29 2 (by omega)
  refine ⟨⟨?_, ?_, fun i i0 i8 => ?_, fun i i0 i8 => ?_⟩, ⟨?_, ?_⟩, ⟨?_, ?_, ?_⟩, ?_, fun j j0 j1 => ?_⟩
  · rw [ha _ _ (by omega)]; exact u1
  · rw [ha _ _ (by omega)]; exact u2
  · rw [ha _ _ (by omega)]; exact u3 i i0 i8
  · obtain ⟨q1, q2, q3, q4, q5, q6⟩ := u4 i i0 i8
    unfold LSt
    rw [ha _ _ (by omega), ha _ _ (by omega), ha _ _ (by omega), ha _ _ (by omega), ha _ _ (by omega), ha _ _ (by omega)]
    exact ⟨q1, q2, q3, q4, q5, q6⟩
  · rw [e1]; exact u5
  · rw [e1]; exact u6
  · rw [e2, h23]; exact u7
  · rw [e2]; exact u8
  · rw [e2]; exact u9
  · rw [h17]; exact u10
  · rw [e2] at j1
    rw [e1, e2]
    exact Sn_fr (u11 j j0 j1) (fun x k x0 x1 k0 => ha x k (by omega)) (fun x k x0 x1 k0 => ha x k (by omega)) hb
end
section
/-! What was so is kept, and taken back. -/
set_option maxRecDepth 16384 in
theorem Sx_mk {a a' b b' : MM} {s : Int} (h : Sx a b s) (ha : ∀ x k, 3 ≤ x → x < 9 → 0 ≤ k → a' x k = a x k) (hs : ∀ k, 0 ≤ k → k < 7 → a' s k = a s k) (hl : a' (s + 2) (-1) = a (s + 2) (-1)) (hb : b' 148 14 = b 148 14) (hb2 : ∀ k, 0 ≤ k → k < 92 → b' 150 k = b 150 k) (hn : Sn a' b' 3 s 150 0) : Sx a' b' s := by
  obtain ⟨⟨⟨x0, x1, x2, x3, x4⟩, ⟨y1, y2, y3, y4, y5, y6⟩, z, w, s9, s140, sl⟩, ⟨⟨c1, c2, c3⟩, ⟨c4, c5, c6⟩, ⟨c7, c8⟩, c9, c10⟩, -⟩ := h
  have e36 := ha 3 6 (by decide) (by decide) (by decide)
  have e37 := ha 3 7 (by decide) (by decide) (by decide)
  refine ⟨⟨⟨?_, ?_, ?_, ?_, ?_⟩, ⟨?_, ?_, ?_, ?_, ?_, ?_⟩, ?_, ?_, s9, s140, ?_⟩, ⟨⟨?_, ?_, ?_⟩, ⟨?_, ?_, ?_⟩, ⟨?_, ?_⟩, fun k k0 k1 => ?_, fun k k0 k1 => ?_⟩, hn⟩
  · rw [ha _ _ (by decide) (by decide) (by decide)]; exact x0
  · rw [ha _ _ (by decide) (by decide) (by decide)]; exact x1
  · rw [ha _ _ (by decide) (by decide) (by decide)]; exact x2
  · rw [ha _ _ (by decide) (by decide) (by decide)]; exact x3
  · rw [ha _ _ (by decide) (by decide) (by decide)]; exact x4
  · rw [hs _ (by decide) (by decide)]; exact y1
  · rw [hs _ (by decide) (by decide)]; exact y2
  · rw [hs _ (by decide) (by decide)]; exact y3
  · rw [hs _ (by decide) (by decide)]; exact y4
  · rw [hs _ (by decide) (by decide)]; exact y5
  · rw [hs _ (by decide) (by decide)]; exact y6
  · rw [hs _ (by decide) (by decide)]; exact z
  · rw [hb]; exact w
  · rw [hl]; exact sl
  · rw [e36, hb2 _ (by decide) (by decide)]; exact c1
  · rw [e36]; exact c2
  · rw [e36]; exact c3
  · rw [e37, hb2 _ (by decide) (by decide)]; exact c4
  · rw [e37]; exact c5
  · rw [e37]; exact c6
  · rw [ha _ _ (by decide) (by decide) (by decide), hb2 _ (by decide) (by decide)]; exact c7
  · rw [ha _ _ (by decide) (by decide) (by decide)]; exact c8
  · rw [ha _ _ (by decide) (by decide) k0, hb2 _ (by omega) (by omega)]; exact c9 k k0 k1
  · rw [e37] at k1
    rw [ha (3 + 3) _ (by decide) (by decide) k0, ha (3 + 4) _ (by decide) (by decide) k0, hb2 _ (by omega) (by omega), hb2 _ (by omega) (by omega)]
    exact c10 k k0 k1
set_option maxRecDepth 16384 in
theorem Sx_fr {a a' b b' : MM} {s : Int} (h : Sx a b s) (ha : ∀ x k, x < 9 → 0 ≤ k → a' x k = a x k) (hs : ∀ x k, s ≤ x → x ≤ s + 6 → a' x k = a x k) (hb : b' 148 14 = b 148 14) (hb2 : ∀ k, b' 150 k = b 150 k) : Sx a' b' s :=
  Sx_mk h (fun x k _ hx k0 => ha x k hx k0) (fun k _ _ => hs s k (by omega) (by omega)) (hs _ _ (by omega) (by omega)) hb (fun k _ _ => hb2 k) (Sn_fr h.2.2 (fun x k x0 x1 k0 => ha x k (by omega) k0) (fun x k x0 x1 _ => hs x k x0 x1) hb2)
set_option maxRecDepth 16384 in
theorem Un_ln {m : MM} (h1 : m 29 0 = 30) (h2 : m 30 (-1) = 8) : (if m 29 0 = 1000050 then 30 else s32 (m (m 29 0) (-1))) = 8 := by
  rw [h1, if_neg (by decide), h2, s32_id (by decide) (by decide)]
set_option maxRecDepth 16384 in
theorem Un_el {m b : MM} (h : Un m b) (i : Int) (i0 : 0 ≤ i) (i8 : i < 8) : (if m 29 0 = 1000050 then 1000100 + i else m (m 29 0) i) = 31 + 7 * i := by
  rw [h.1.1, if_neg (by decide)]
  exact h.1.2.2.1 i i0 i8
set_option maxRecDepth 16384 in
/-- the places of what is kept -/
def Qu (x k : Int) : Prop := (x = 29 ∧ (k = 1 ∨ k = 2)) ∨ (31 ≤ x ∧ x ≤ 86 ∧ 0 ≤ k ∧ ((x - 31) % 7 = 0 → 7 ≤ k))
set_option maxRecDepth 16384 in
def Qv (x k : Int) : Prop := x = 153 ∨ (x = 148 ∧ k = 23)
set_option maxRecDepth 16384 in
theorem g162_ok {a b : MM} {s : Int} (u : Un a b) (hs : LSt a s) (h9 : 9 ≤ s) (h22 : s ≤ 22) : Fr (Qu) a (g162 a 29 s) ∧ (g162 a 29 s) 29 1 = (a 29 1 + 1) % 8 ∧ (g162 a 29 s) 29 2 = (if a 29 2 = 8 then 8 else a 29 2 + 1) ∧ ((g162 a 29 s) (31 + 7 * a 29 1) 7 = a s 7 ∧ (g162 a 29 s) (31 + 7 * a 29 1) 8 = a s 8) ∧ (∀ k, 0 ≤ k → k < 64 → (g162 a 29 s) (31 + 7 * a 29 1 + 1) k = a (s + 1) k) ∧ (∀ i k, 2 ≤ i → i ≤ 5 → 0 ≤ k → k < 8 → (g162 a 29 s) (31 + 7 * a 29 1 + i) k = a (s + i) k) ∧ (∀ k, 0 ≤ k → k < 24 → (g162 a 29 s) (31 + 7 * a 29 1 + 6) k = a (s + 6) k) ∧ ∀ x k, 31 ≤ x → x ≤ 86 → ¬ (31 + 7 * a 29 1 ≤ x ∧ x ≤ 31 + 7 * a 29 1 + 6) → (g162 a 29 s) x k = a x k := by
  have u' := u
  obtain ⟨⟨u1, u2, u3, u4⟩, ⟨u5, u6⟩, ⟨u7, u8, u9⟩, u10, u11⟩ := u
  obtain ⟨f1, ⟨f2, f3⟩, f4, f5, f6⟩ := c113 (m := a) (x := 31 + 7 * a 29 1) (y := s) (u4 _ u5 u6) hs (by omega)
  have key : ∃ nx cc, g162 a 29 s = mu (mu (g113 a (31 + 7 * a 29 1) s) 29 1 nx) 29 2 cc ∧ nx = (a 29 1 + 1) % 8 ∧ cc = (if a 29 2 = 8 then 8 else a 29 2 + 1) := by
    unfold g162
    rw [Un_ln u1 u2, Un_el u' _ u5 u6, if_neg (show ¬ a 29 1 < 0 by omega), if_pos (show a 29 1 < 8 from u6)]
    have w0 : (g113 a (31 + 7 * a 29 1) s) 29 0 = 30 := by rw [f1 _ _ (by unfold PSt; omega)]; exact u1
    have w1 : (g113 a (31 + 7 * a 29 1) s) 30 (-1) = 8 := by rw [f1 _ _ (by unfold PSt; omega)]; exact u2
    have w2 : (g113 a (31 + 7 * a 29 1) s) 29 1 = a 29 1 := f1 _ _ (by unfold PSt; omega)
    have w3 : (g113 a (31 + 7 * a 29 1) s) 29 2 = a 29 2 := f1 _ _ (by unfold PSt; omega)
    revert w0 w1 w2 w3
    generalize g113 a (31 + 7 * a 29 1) s = m1
    intro w0 w1 w2 w3
    rw [Un_ln w0 w1, w2, s32_id (z := a 29 1 + 1) (by omega) (by omega)]
    have jm : ∀ c, 0 ≤ c → c ≤ 8 → jmin (c + 1) 8 = if c = 8 then 8 else c + 1 := fun c c0 c8 => by
      unfold jmin
      split <;> split <;> omega
    by_cases c : 8 ≤ a 29 1 + 1
    · rw [if_pos c]
      have v0 : (mu m1 29 1 0) 29 0 = 30 := by rw [mu_k (by decide)]; exact w0
      have v1 : (mu m1 29 1 0) 30 (-1) = 8 := by rw [mu_a (by decide)]; exact w1
      rw [Un_ln v0 v1, mu_k (by decide), w3, s32_id (z := a 29 2 + 1) (by omega) (by omega), jm _ u8 u9]
      exact ⟨_, _, rfl, by omega, rfl⟩
    · rw [if_neg c]
      have v0 : (mu m1 29 1 (a 29 1 + 1)) 29 0 = 30 := by rw [mu_k (by decide)]; exact w0
      have v1 : (mu m1 29 1 (a 29 1 + 1)) 30 (-1) = 8 := by rw [mu_a (by decide)]; exact w1
      rw [Un_ln v0 v1, mu_k (by decide), w3, s32_id (z := a 29 2 + 1) (by omega) (by omega), jm _ u8 u9]
      exact ⟨_, _, rfl, by omega, rfl⟩
  obtain ⟨nx, cc, k1, k2, k3⟩ := key
  rw [k1]
  refine ⟨((f1.mo fun x k q => ?_).mu (Or.inl ⟨rfl, Or.inl rfl⟩)).mu (Or.inl ⟨rfl, Or.inr rfl⟩), ?_, ?_, ⟨?_, ?_⟩, fun k k0 k1 => ?_, fun i k i0 i1 k0 k1 => ?_, fun k k0 k1 => ?_, fun x k x0 x1 hx => ?_⟩
  · unfold PSt at q; unfold Qu; omega
  · rw [mu_k (by decide), mu_s, k2]
  · rw [mu_s, k3]
  · rw [mu_a (by omega), mu_a (by omega)]; exact f2
  · rw [mu_a (by omega), mu_a (by omega)]; exact f3
  · rw [mu_a (by omega), mu_a (by omega)]; exact f4 k k0 k1
  · rw [mu_a (by omega), mu_a (by omega)]; exact f5 i k i0 i1 k0 k1
  · rw [mu_a (by omega), mu_a (by omega)]; exact f6 k k0 k1
  · rw [mu_a (by omega), mu_a (by omega)]; exact f1 x k (by unfold PSt; omega)
set_option maxRecDepth 16384 in
theorem L276_11_ok {b : MM} (h17 : b 148 17 = 153) : L276_11 b 148 0 = (1, 0, (854, fm b 153 (0 + 0) (0 + 854) (fun j => s32 (b 153 (j + 122))))) := by
  unfold L276_11
  refine Lp_fill (f := K276_11 b 148 0) (i0 := 0) (n := 854) (base := 0) (d := 153) (by decide) (fun i i0 i1 => ?_) ?_
  · show S276_11 (fm b 153 (0 + 0) (0 + i) (fun j => s32 (b 153 (j + 122)))) 148 i = _
    unfold S276_11
    rw [if_neg (by omega), fm_n (b := 148) (by decide), h17, s32_id (z := i + 122) (by omega) (by omega), s32_id (z := i + 1) (by omega) (by omega), fm_o (by omega), Int.zero_add i]
  · show S276_11 (fm b 153 (0 + 0) (0 + 854) (fun j => s32 (b 153 (j + 122)))) 148 854 = _
    unfold S276_11
    rw [if_pos (by decide)]
set_option maxRecDepth 16384 in
theorem L276_51_ok {b : MM} {c : Int} (h17 : b 148 17 = 153) (h14 : b 148 14 = 150) (h23 : b 148 23 = c) (c0 : 0 ≤ c) (c8 : c < 8) : L276_51 b 148 0 = (1, 0, (122, fm b 153 (122 * c + 0) (122 * c + 122) (fun j => s32 (b 150 (92 + (j - 122 * c)))))) := by
  unfold L276_51
  refine Lp_fill (f := K276_51 b 148 0) (i0 := 0) (n := 122) (base := 122 * c) (d := 153) (by decide) (fun i i0 i1 => ?_) ?_
  · show S276_51 (fm b 153 (122 * c + 0) (122 * c + i) (fun j => s32 (b 150 (92 + (j - 122 * c))))) 148 i = _
    unfold S276_51
    rw [if_neg (by omega), fm_n (b := 148) (by decide), fm_n (b := 148) (by decide), fm_n (b := 148) (by decide), h17, h14, h23, s32_id (z := 122 * c) (by omega) (by omega), s32_id (z := 122 * c + i) (by omega) (by omega), s32_id (z := 92 + i) (by omega) (by omega), s32_id (z := i + 1) (by omega) (by omega), fm_n (b := 150) (by decide)]
    have e : b 150 (92 + i) = b 150 (92 + (122 * c + i - 122 * c)) := by congr 1; omega
    rw [e]
  · show S276_51 (fm b 153 (122 * c + 0) (122 * c + 122) (fun j => s32 (b 150 (92 + (j - 122 * c))))) 148 122 = _
    unfold S276_51
    rw [if_pos (by decide)]
set_option maxRecDepth 16384 in
/-- what the reference keeps -/
theorem g276_ok {b : MM} (h17 : b 148 17 = 153) (h14 : b 148 14 = 150) (c0 : 0 ≤ b 148 23) (c8 : b 148 23 ≤ 8) : Fr Qv b (g276 b 148) ∧ (g276 b 148) 148 23 = (if b 148 23 = 8 then 8 else b 148 23 + 1) ∧ (∀ k, 0 ≤ k → k < 122 → (g276 b 148) 153 (122 * ((if b 148 23 = 8 then 8 else b 148 23 + 1) - 1) + k) = s32 (b 150 (92 + k))) ∧ (∀ j k, 0 ≤ j → j < (if b 148 23 = 8 then 8 else b 148 23 + 1) - 1 → 0 ≤ k → k < 122 → (g276 b 148) 153 (122 * j + k) = (if b 148 23 = 8 then s32 (b 153 (122 * (j + 1) + k)) else b 153 (122 * j + k))) := by
  unfold g276
  by_cases c : b 148 23 = 8
  · rw [if_pos c, if_pos c, L276_11_ok h17]
    dsimp only
    have F1 : Fr Qv b (fm b 153 (0 + 0) (0 + 854) (fun j => s32 (b 153 (j + 122)))) := (Fr.rf _ _).fl fun j _ _ => Or.inl rfl
    have v1 : ∀ j, 0 ≤ j → j < 854 → (fm b 153 (0 + 0) (0 + 854) (fun j => s32 (b 153 (j + 122)))) 153 j = s32 (b 153 (j + 122)) := fun j j0 j1 => fm_i (by omega) (by omega)
    have x23 : (fm b 153 (0 + 0) (0 + 854) (fun j => s32 (b 153 (j + 122)))) 148 23 = 8 := by rw [fm_n (by decide)]; exact c
    revert F1 v1 x23
    generalize fm b 153 (0 + 0) (0 + 854) (fun j => s32 (b 153 (j + 122))) = n1
    intro F1 v1 x23
    rw [x23, s32_id (z := 8 - 1) (by decide) (by decide)]
    have e17 : (mu n1 148 23 (8 - 1)) 148 17 = 153 := by rw [mu_k (by decide), F1 _ _ (by unfold Qv; omega)]; exact h17
    have e14 : (mu n1 148 23 (8 - 1)) 148 14 = 150 := by rw [mu_k (by decide), F1 _ _ (by unfold Qv; omega)]; exact h14
    rw [L276_51_ok (c := 7) e17 e14 (mu_s _ _ _ _) (by decide) (by decide)]
    dsimp only
    rw [fm_n (b := 148) (by decide), mu_s, s32_id (z := 8 - 1 + 1) (by decide) (by decide)]
    refine ⟨((F1.mu (Or.inr ⟨rfl, rfl⟩)).fl fun j _ _ => Or.inl rfl).mu (Or.inr ⟨rfl, rfl⟩), ?_, fun k k0 k1 => ?_, fun j k j0 j1 k0 k1 => ?_⟩
    · rw [mu_s]
      decide
    · rw [mu_a (by decide), fm_i (by omega) (by omega), mu_a (by decide), F1 _ _ (by unfold Qv; omega)]
      congr 2
      omega
    · rw [if_pos c, mu_a (by decide), fm_o (by omega), mu_a (by decide), v1 _ (by omega) (by omega)]
      congr 2
      omega
  · rw [if_neg c, if_neg c, L276_51_ok (c := b 148 23) h17 h14 rfl c0 (by omega)]
    dsimp only
    rw [fm_n (b := 148) (by decide), s32_id (z := b 148 23 + 1) (by omega) (by omega)]
    refine ⟨((Fr.rf _ _).fl fun j _ _ => Or.inl rfl).mu (Or.inr ⟨rfl, rfl⟩), mu_s _ _ _ _, fun k k0 k1 => ?_, fun j k j0 j1 k0 k1 => ?_⟩
    · rw [mu_a (by decide), fm_i (by omega) (by omega)]
      congr 2
      omega
    · rw [if_neg c, mu_a (by decide), fm_o (by omega)]
end
section
/-! Kept and taken back, alike. -/
set_option maxRecDepth 16384 in
theorem p_keep {a b : MM} {s : Int} (h : Sx a b s) (hs : s = 15 ∨ s = 22) (u : Un a b) : Un (g162 a 29 s) (g276 b 148) ∧ Fr Qu a (g162 a 29 s) ∧ Fr Qv b (g276 b 148) ∧ Sx (g162 a 29 s) (g276 b 148) s := by
  obtain ⟨f1, f2, f3, ⟨f4, f5⟩, f6, f7, f8, f9⟩ := g162_ok u h.1.2.1 (by omega) (by omega)
  have u' := u
  obtain ⟨⟨u1, u2, u3, u4⟩, ⟨u5, u6⟩, ⟨u7, u8, u9⟩, u10, u11⟩ := u
  obtain ⟨k1, k2, k3, k4⟩ := g276_ok u10 h.bn (by omega) (by omega)
  rw [← u7] at k2 k3 k4
  obtain ⟨hf, hf0, hf8⟩ := h.f
  have hx : ∀ x k, x < 29 → (g162 a 29 s) x k = a x k := fun x k hx => f1 x k (by unfold Qu; omega)
  have hn : Sn (g162 a 29 s) (g276 b 148) 3 (31 + 7 * a 29 1) 153 (122 * ((if a 29 2 = 8 then 8 else a 29 2 + 1) - 1) - 92) := by
    refine Sn_cp h.2.2 (hx 3 7 (by decide)) hf8 (fun f f0 f1 => (h.sp f0 f1).2) (fun f f0 f1 => ⟨hx _ _ (by decide), hx _ _ (by decide)⟩) ⟨f4, f5⟩ f6 f7 f8 (fun k k0 k1 => Or.inr ?_)
    have := k3 (k - 92) (by omega) (by omega)
    rw [show 122 * ((if a 29 2 = 8 then 8 else a 29 2 + 1) - 1) - 92 + k = 122 * ((if a 29 2 = 8 then 8 else a 29 2 + 1) - 1) + (k - 92) by omega, this]
    congr 2
    omega
  have ho : ∀ j q, 0 ≤ j → j < (if a 29 2 = 8 then 8 else a 29 2 + 1) - 1 → (j + (if a 29 2 = 8 then 1 else 0) = q) → Sn (g162 a 29 s) (g276 b 148) 3 (31 + 7 * ((a 29 1 + 8 - a 29 2 + q) % 8)) 153 (122 * j - 92) := by
    intro j q j0 j1 hq
    have hq2 : 0 ≤ q ∧ q < a 29 2 ∧ (a 29 2 = 8 → q ≠ 0) := by
      by_cases c : a 29 2 = 8
      · rw [if_pos c] at j1 hq; omega
      · rw [if_neg c] at j1 hq; omega
    have hr : ∀ x k, 31 + 7 * ((a 29 1 + 8 - a 29 2 + q) % 8) ≤ x → x ≤ 31 + 7 * ((a 29 1 + 8 - a 29 2 + q) % 8) + 6 → (g162 a 29 s) x k = a x k := fun x k x0 x1 => f9 x k (by omega) (by omega) (by omega)
    refine Sn_cp (u11 q hq2.1 hq2.2.1) (hx 3 7 (by decide)) hf8 (fun f f0 f1 => (h.sp f0 f1).2) (fun f f0 f1 => ⟨hx _ _ (by decide), hx _ _ (by decide)⟩) ⟨hr _ _ (by omega) (by omega), hr _ _ (by omega) (by omega)⟩ (fun k _ _ => hr _ _ (by omega) (by omega)) (fun i k i0 i1 _ _ => hr _ _ (by omega) (by omega)) (fun k _ _ => hr _ _ (by omega) (by omega)) (fun k k0 k1 => ?_)
    have := k4 j (k - 92) j0 j1 (by omega) (by omega)
    rw [show 122 * j - 92 + k = 122 * j + (k - 92) by omega, this]
    by_cases c : a 29 2 = 8
    · rw [if_pos c] at hq ⊢
      right
      congr 2
      omega
    · rw [if_neg c] at hq ⊢
      left
      congr 1
      omega
  refine ⟨⟨⟨?_, ?_, fun i i0 i8 => ?_, fun i i0 i8 => ?_⟩, ⟨?_, ?_⟩, ⟨?_, ?_, ?_⟩, ?_, fun j j0 j1 => ?_⟩, f1, k1, ?_⟩
  · rw [f1 _ _ (by unfold Qu; omega)]; exact u1
  · rw [f1 _ _ (by unfold Qu; omega)]; exact u2
  · rw [f1 _ _ (by unfold Qu; omega)]; exact u3 i i0 i8
  · obtain ⟨q1, q2, q3, q4, q5, q6⟩ := u4 i i0 i8
    have e : ∀ k, k < 7 → (g162 a 29 s) (31 + 7 * i) k = a (31 + 7 * i) k := fun k hk => f1 _ _ (by unfold Qu; omega)
    unfold LSt
    rw [e _ (by decide), e _ (by decide), e _ (by decide), e _ (by decide), e _ (by decide), e _ (by decide)]
    exact ⟨q1, q2, q3, q4, q5, q6⟩
  · rw [f2]; omega
  · rw [f2]; omega
  · rw [f3, k2]
  · rw [f3]; split <;> omega
  · rw [f3]; split <;> omega
  · rw [k1 _ _ (by unfold Qv; omega)]; exact u10
  · rw [f3] at j1
    rw [f2, f3]
    by_cases c : j = (if a 29 2 = 8 then 8 else a 29 2 + 1) - 1
    · have e : (((a 29 1 + 1) % 8 + 8 - (if a 29 2 = 8 then 8 else a 29 2 + 1) + j) % 8) = a 29 1 := by rw [c]; omega
      rw [e, c]
      exact hn
    · have e : (((a 29 1 + 1) % 8 + 8 - (if a 29 2 = 8 then 8 else a 29 2 + 1) + j) % 8) = (a 29 1 + 8 - a 29 2 + (j + (if a 29 2 = 8 then 1 else 0))) % 8 := by
        by_cases d : a 29 2 = 8
        · rw [if_pos d, if_pos d]; omega
        · rw [if_neg d, if_neg d]; omega
      rw [e]
      exact ho j _ j0 (by omega) rfl
  · exact Sx_fr h (fun x k hx' _ => hx x k (by omega)) (fun x k x0 x1 => hx x k (by omega)) (k1 _ _ (by unfold Qv; omega)) (fun k => k1 _ _ (by unfold Qv; omega))
end
