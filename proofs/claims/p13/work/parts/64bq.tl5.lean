/-! Acts: grudges, the drawer, forms voided and lodged. -/
set_option maxRecDepth 16384 in
theorem bv_or (x y : BitVec 32) (h : x &&& y = 0#32) : x ||| y = x ^^^ y := by
  apply BitVec.eq_of_getLsbD_eq
  intro i hi
  have := congrArg (fun z => z.getLsbD i) h
  simp only [BitVec.getLsbD_and, BitVec.getLsbD_zero] at this
  simp only [BitVec.getLsbD_or, BitVec.getLsbD_xor]
  revert this
  cases x.getLsbD i <;> cases y.getLsbD i <;> decide
set_option maxRecDepth 16384 in
theorem bv_bk (x : BitVec 32) (i : Nat) (h : x &&& BitVec.twoPow 32 i ≠ 0#32) : x &&& (BitVec.twoPow 32 i ^^^ BitVec.allOnes 32) = x ^^^ BitVec.twoPow 32 i := by
  have hx : x.getLsbD i = true := by
    cases c : x.getLsbD i with
    | true => rfl
    | false =>
      exfalso; apply h
      rw [BitVec.and_twoPow, c]
      rfl
  apply BitVec.eq_of_getLsbD_eq
  intro j hj
  rw [BitVec.getLsbD_and, BitVec.getLsbD_xor, BitVec.getLsbD_xor, BitVec.getLsbD_twoPow, BitVec.getLsbD_allOnes]
  by_cases c : i = j
  · subst c
    rw [hx]
    simp [hj]
  · simp [c, hj]
set_option maxRecDepth 16384 in
theorem jor_x (r t : Int) (h : jand r t = 0) : jor r t = jxor r t := by
  rw [jand_eq] at h
  rw [jor_eq, jxor_eq]
  unfold o32 at *
  have h2 := i32_z.mp h
  rw [Int32.toBitVec_and] at h2
  have h3 := bv_or _ _ h2
  congr 1
  rw [← Int32.toBitVec_inj, Int32.toBitVec_or, Int32.toBitVec_xor]
  exact h3
set_option maxRecDepth 16384 in
theorem jbk_i (r : Int) (T : Int32) (i : Nat) (hT : T.toBitVec = BitVec.twoPow 32 i) (h : (Int32.ofInt r &&& T).toInt ≠ 0) : (Int32.ofInt r &&& (T ^^^ Int32.ofInt (-1))) = (Int32.ofInt r ^^^ T) := by
  have h2 : (Int32.ofInt r).toBitVec &&& BitVec.twoPow 32 i ≠ 0#32 := by
    intro q
    apply h
    rw [i32_z, Int32.toBitVec_and, hT]
    exact q
  have h3 := bv_bk _ i h2
  rw [← Int32.toBitVec_inj, Int32.toBitVec_and, Int32.toBitVec_xor, Int32.toBitVec_xor, hT]
  exact h3
set_option maxRecDepth 16384 in
theorem jbk (r q : Int) (q0 : 0 ≤ q) (q8 : q < 8) (h : jand r (jshl 1 q) ≠ 0) : jand r (jxor (jshl 1 q) (-1)) = jxor r (jshl 1 q) := by
  rw [jand_eq, jshl_eq] at h
  rw [jand_eq, jxor_eq, jxor_eq, jshl_eq]
  unfold o32 at *
  rw [Int32.ofInt_toInt] at h
  rw [Int32.ofInt_toInt, Int32.ofInt_toInt]
  congr 1
  obtain ⟨i, rfl⟩ : ∃ i : Nat, q = (i : Int) := ⟨q.toNat, by omega⟩
  have hi : i < 8 := by omega
  match i, hi with
  | 0, _ => exact jbk_i _ _ 0 (by decide) h
  | 1, _ => exact jbk_i _ _ 1 (by decide) h
  | 2, _ => exact jbk_i _ _ 2 (by decide) h
  | 3, _ => exact jbk_i _ _ 3 (by decide) h
  | 4, _ => exact jbk_i _ _ 4 (by decide) h
  | 5, _ => exact jbk_i _ _ 5 (by decide) h
  | 6, _ => exact jbk_i _ _ 6 (by decide) h
  | 7, _ => exact jbk_i _ _ 7 (by decide) h
  | n + 8, h => omega
set_option maxRecDepth 16384 in
theorem s32_jxor (a b : Int) : s32 (jxor a b) = jxor a b := by
  rw [jxor_eq]
  unfold o32
  rw [s32_eq, Int32.ofInt_toInt]
set_option maxRecDepth 16384 in
theorem p_gr {a b : MM} {s : Int} (h : Sx a b s) {x y d : Int} (x0 : 0 ≤ x) (x8 : x < 8) (y0 : 0 ≤ y) (y8 : y < 8) (v0 : 0 ≤ a (s + 1) (8 * x + y) + d) (v9 : a (s + 1) (8 * x + y) + d ≤ 9) (vd : x = y → a (s + 1) (8 * x + y) + d = 0) : Gx a b (g108 a s x y d) (mu b (b 148 14) (s32 (s32 (94 + s32 (8 * x)) + y)) (s32 (s32 (b (b 148 14) (s32 (s32 (94 + s32 (8 * x)) + y)) + d)))) s := by
  have hg := h.gr (k := 8 * x + y) (by omega) (by omega)
  obtain ⟨l1, -⟩ := h.1.2.1
  unfold g108
  rw [if_neg (by omega), if_neg (by omega), if_neg (by omega), if_neg (by omega), ad_c (by omega) (by omega) (by omega) (by omega), ad_g (by omega) (by omega) (by omega) (by omega), l1, h.bn, ← hg.1, s32_id (z := a (s + 1) (8 * x + y) + d) (by omega) (by omega), s32_id (z := a (s + 1) (8 * x + y) + d) (by omega) (by omega)]
  exact Gx_gr h (by omega) (by omega) v0 v9 (fun q => vd (by omega))
set_option maxRecDepth 16384 in
theorem p_lodge {a b : MM} {s : Int} (h : Sx a b s) {f : Int} (f0 : 0 ≤ f) (f1 : f < a 3 7) : Gx a b (g130 a s f) (g232 b 148 f) s := by
  obtain ⟨e', e0', e8'⟩ := h.f
  have hs := h.1.2.2.2.2
  have hsp := h.sp f0 f1
  obtain ⟨w1, w2, w3, w4⟩ := g232_ok h.bn f0 (by omega)
  obtain ⟨l1, l2, l3, l4, l5, l6⟩ := h.1.2.1
  have c72 : f72 a (a s 0) f = 1 := by
    rw [h.1.2.2.1]
    rcases i72 h f with ⟨c, d⟩ | ⟨c, -⟩
    · omega
    · exact c
  have e139 : g139 a s f 0 = mu a (s + 4) f 0 := by
    unfold g139
    rw [c72, if_neg (by decide), l4, s32_id (by decide) (by decide)]
  have ez : ∀ (m : MM) k, 0 ≤ k → k < 3 → f137 m f k = 3 * f + k := fun m k k0 k3 => by
    unfold f137
    rw [if_neg (by omega), if_neg (by omega), if_neg (by omega), if_neg (by omega), ad_t (by omega) (by omega) (by omega) (by omega)]
  have st : ∀ (m0 : MM) (c0 : Int) (k v : Int) (m : MM), m s 6 = s + 6 → 0 ≤ k → k < 3 → Lp (K130_8 m0 s f 0 0) (k, v, m) = Lp (K130_8 m0 s f 0 0) (k + 1, 3 * f + k, mu m (s + 6) (3 * f + k) (-1)) := fun m0 c0 k v m hm k0 k3 => by
    refine Lp_inl ?_
    show S130_8 m s f k v = _
    unfold S130_8
    rw [ez m k k0 k3, if_neg (by omega), if_neg (by omega), hm, s32_id (z := k + 1) (by omega) (by omega), s32_id (z := -1) (by decide) (by decide)]
  have en : ∀ (m0 : MM) (v : Int) (m : MM), Lp (K130_8 m0 s f 0 0) (3, v, m) = (1, 0, (3, v, m)) := fun m0 v m => Lp_inr (by
    show S130_8 m s f 3 v = _
    unfold S130_8
    rw [if_pos (by decide)])
  have eg : g130 a s f = mu (mu (mu (mu a (s + 4) f 0) (s + 6) (3 * f + 0) (-1)) (s + 6) (3 * f + 1) (-1)) (s + 6) (3 * f + 2) (-1) := by
    unfold g130 L130_8
    rw [e139, st _ 0 0 0 _ (by rw [mu_a (by omega)]; exact l6) (by decide) (by decide), show (0 + 1 : Int) = 1 from rfl, st _ 0 1 _ _ (by rw [mu_a (by omega), mu_a (by omega)]; exact l6) (by decide) (by decide), show (1 + 1 : Int) = 2 from rfl, st _ 0 2 _ _ (by rw [mu_a (by omega), mu_a (by omega), mu_a (by omega)]; exact l6) (by decide) (by decide), show (2 + 1 : Int) = 3 from rfl, en]
  rw [eg]
  refine Gx_fo h f0 f1 (((((Fr.rf _ _).mu (Or.inl ⟨Or.inl rfl, rfl⟩)).mu (Or.inr ⟨rfl, by omega, by omega⟩)).mu (Or.inr ⟨rfl, by omega, by omega⟩)).mu (Or.inr ⟨rfl, by omega, by omega⟩)) (w1.mo fun x k q => ⟨q.1, by omega⟩) ?_
  have e4 : (mu (mu (mu (mu a (s + 4) f 0) (s + 6) (3 * f + 0) (-1)) (s + 6) (3 * f + 1) (-1)) (s + 6) (3 * f + 2) (-1)) (s + 4) f = 0 := by
    rw [mu_a (by omega), mu_a (by omega), mu_a (by omega), mu_s]
  have e6 : ∀ k, 0 ≤ k → k < 3 → (mu (mu (mu (mu a (s + 4) f 0) (s + 6) (3 * f + 0) (-1)) (s + 6) (3 * f + 1) (-1)) (s + 6) (3 * f + 2) (-1)) (s + 6) (3 * f + k) = -1 := fun k k0 k3 => by
    rcases (by omega : k = 0 ∨ k = 1 ∨ k = 2) with rfl | rfl | rfl
    · rw [mu_k (by omega), mu_k (by omega), mu_s]
    · rw [mu_k (by omega), mu_s]
    · rw [mu_s]
  have e7 : ∀ x k, x < 9 → (mu (mu (mu (mu a (s + 4) f 0) (s + 6) (3 * f + 0) (-1)) (s + 6) (3 * f + 1) (-1)) (s + 6) (3 * f + 2) (-1)) x k = a x k := fun x k hx => by
    rw [mu_a (by omega), mu_a (by omega), mu_a (by omega), mu_a (by omega)]
  revert e4 e6 e7
  generalize (mu (mu (mu (mu a (s + 4) f 0) (s + 6) (3 * f + 0) (-1)) (s + 6) (3 * f + 1) (-1)) (s + 6) (3 * f + 2) (-1)) = m4
  intro e4 e6 e7
  refine ⟨⟨?_, ?_, ?_⟩, fun q => ?_, fun q => ?_, fun _ _ => ?_, fun k k0 k1 => ?_, ?_⟩
  · show _ = g232 b 148 f 150 (182 + f)
    rw [e4, w3]
  · rw [e4]; decide
  · rw [e4]; decide
  · rw [e4] at q; exact absurd q (by decide)
  · rw [e4] at q; exact absurd q (by decide)
  · show g232 b 148 f 150 (190 + f) = _
    rw [w4, e7 (3 + 4) f (by decide)]
    show _ = a 7 f
    rw [← hsp.1]
    exact s32_id (by omega) (by omega)
  · rw [e6 k k0 k1, e4]
    refine ⟨?_, by decide, by decide, fun q => absurd q (by decide)⟩
    show -1 = g232 b 148 f 150 (158 + (3 * f + k))
    rw [w2 _ (by omega) (by omega)]
  · have := (h.ab f0 f1).2.1
    rw [e6 1 (by decide) (by decide), e7 (3 + 3) f (by decide)]
    show -1 ≠ a 6 f
    omega
set_option maxRecDepth 16384 in
/-- each act alike, where it is done -/
theorem p_act {a b : MM} {s : Int} (h : Sx a b s) {act x y : Int} (hi : Is a act x y) (hw : f146 a s act x y = 0) : Gx a b (g135 a s act x y) (g222 b 148 act x y) s := by
  obtain ⟨e, e0, e8⟩ := h.p
  obtain ⟨e', e0', e8'⟩ := h.f
  have hb := h.bn
  rcases hi with ⟨rfl, x0, x1, y0, y1⟩ | ⟨q, x0, x1, y0, y1⟩ | ⟨q, x0, x1⟩ | ⟨q, x0, x1⟩
  · rw [g135_0, g222_0]
    refine p_sign h x0 x1 y0 y1 (fun q => ?_)
    rw [f146_0, q, if_pos rfl] at hw
    split at hw
    · split at hw
      · exact absurd hw (by decide)
      · exact absurd hw (by decide)
    · exact absurd hw (by decide)
  · have h1 := q124 h (p := x) (q := y) x0 (by omega) y0 (by omega)
    have h2 := h.gr (k := 8 * x + y) (by omega) (by omega)
    rcases q with rfl | rfl
    · rw [f146_1, h1.1] at hw
      rw [g135_1, g222_1]
      by_cases c : x = y
      · rw [if_pos c] at hw; exact absurd hw (by decide)
      · rw [if_neg c] at hw
        by_cases d : a (s + 1) (8 * x + y) = 0
        · rw [if_pos d] at hw; exact absurd hw (by decide)
        · exact p_gr h x0 (by omega) y0 (by omega) (by omega) (by omega) (fun q => absurd q c)
    · rw [f146_2, h1.1] at hw
      rw [g135_2, g222_2]
      by_cases c : x = y
      · rw [if_pos c] at hw; exact absurd hw (by decide)
      · rw [if_neg c] at hw
        by_cases d : a (s + 1) (8 * x + y) < 9
        · exact p_gr h x0 (by omega) y0 (by omega) (by omega) (by omega) (fun q => absurd q c)
        · rw [if_neg d] at hw; exact absurd hw (by decide)
  · have hr := h.ret
    have e129 : f129 a s x = if jand (a s 7) (jshl 1 x) = 0 then 0 else 1 := by
      unfold f129
      rw [h.1.2.2.1]
      rcases i73 h x with ⟨c, d⟩ | ⟨c, -⟩
      · omega
      · rw [c, if_neg (by decide)]
    rcases q with rfl | rfl
    · rw [f146_3, e129] at hw
      rw [g135_3, g222_3, hb, ← hr]
      by_cases c : jand (a s 7) (jshl 1 x) = 0
      · rw [jor_x _ _ c, s32_jxor]
        exact Gx_ret h (s32_jxor _ _)
      · rw [if_neg c, if_neg (by decide)] at hw; exact absurd hw (by decide)
    · rw [f146_4, e129] at hw
      rw [g135_4, g222_4, hb, ← hr]
      by_cases c : jand (a s 7) (jshl 1 x) = 0
      · rw [if_pos c, if_pos rfl] at hw; exact absurd hw (by decide)
      · rw [jbk _ _ x0 (by omega) c, s32_jxor]
        exact Gx_ret h (s32_jxor _ _)
  · have h1 := q127 h x0 x1
    have h2 := h.hw x0 x1
    have hsp := h.sp x0 x1
    rcases q with rfl | rfl
    · rw [g135_5, g222_5]
      have c72 : f72 a (a s 0) x = 1 := by
        rw [h.1.2.2.1]
        rcases i72 h x with ⟨c, d⟩ | ⟨c, -⟩
        · omega
        · exact c
      obtain ⟨l1, l2, l3, l4, l5, l6⟩ := h.1.2.1
      have e139 : g139 a s x 3 = mu a (s + 4) x 3 := by
        unfold g139
        rw [c72, if_neg (by decide), l4, s32_id (by decide) (by decide)]
      have e1 : s32 (182 + x) = 182 + x := s32_id (by omega) (by omega)
      have e2 : s32 (190 + x) = 190 + x := s32_id (by omega) (by omega)
      have e3 : s32 (84 + x) = 84 + x := s32_id (by omega) (by omega)
      have e4 : s32 3 = 3 := s32_id (by decide) (by decide)
      rw [e139, hb, e1, e2, e3, e4, mu_a (a := 150) (b := 148) (by decide), hb, mu_k (by omega), ← hsp.1, s32_id (z := a 7 x) (by omega) (by omega)]
      have hs := h.1.2.2.2.2
      refine Gx_fo h x0 x1 ((Fr.rf _ _).mu (Or.inl ⟨Or.inl rfl, rfl⟩)) (((Fr.rf _ _).mu ⟨rfl, Or.inl rfl⟩).mu ⟨rfl, Or.inr (Or.inl rfl)⟩) ?_
      obtain ⟨⟨g1, g1', g1''⟩, g2, g3, g4, g5, g6⟩ := h.fo x0 x1
      refine ⟨⟨?_, ?_, ?_⟩, fun q => ?_, fun q => ?_, fun _ _ => ?_, fun k k0 k1 => ?_, ?_⟩
      · show _ = mu (mu b 150 (182 + x) 3) 150 (190 + x) (a 7 x) 150 (182 + x)
        rw [mu_s, mu_k (by omega), mu_s]
      · rw [mu_s]; decide
      · rw [mu_s]; decide
      · rw [mu_s] at q; exact absurd q (by decide)
      · rw [mu_s] at q; exact absurd q (by decide)
      · show mu (mu b 150 (182 + x) 3) 150 (190 + x) (a 7 x) 150 (190 + x) = _
        rw [mu_s, mu_a (by omega)]
        rfl
      · rw [mu_s, mu_a (by omega), mu_k (by omega), mu_k (by omega)]
        obtain ⟨r1, r2, r3, r4⟩ := g5 k k0 k1
        exact ⟨r1, r2, r3, fun q => absurd q (by decide)⟩
      · rw [mu_a (by omega), mu_a (by omega)]; exact g6
    · rw [g135_6, g222_6]
      exact p_lodge h x0 x1
