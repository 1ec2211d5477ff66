/-! All that is so, on both sides: who may sign what. -/
set_option maxRecDepth 16384 in
/-- what an office told -/
def Ro (a b : MM) (r n o : Int) : Prop := (a r 6 = b n o ∧ 0 ≤ a r 6 ∧ a r 6 ≤ 8) ∧ (a r 7 = b n (o + 1) ∧ 0 ≤ a r 7 ∧ a r 7 ≤ 8) ∧ (a r 8 = b n (o + 2) ∧ (a r 8 = 0 ∨ a r 8 = 1)) ∧ (∀ k, 0 ≤ k → k < 8 → a (r + 5) k = b n (o + 4 + k) ∧ s32 (a (r + 5) k) = a (r + 5) k) ∧ (∀ k, 0 ≤ k → k < a r 7 → (a (r + 3) k = b n (o + 76 + k) ∧ 0 ≤ a (r + 3) k ∧ a (r + 3) k < 8) ∧ a (r + 4) k = b n (o + 84 + k) ∧ 1 ≤ a (r + 4) k ∧ a (r + 4) k ≤ 9)
set_option maxRecDepth 16384 in
/-- names -/
def Nm (a b : MM) (r w u : Int) : Prop := (∀ k, 0 ≤ k → k < a r 6 → NRel (a (r + 1) k) (b w (u + k))) ∧ (∀ k, 0 ≤ k → k < a r 7 → NRel (a (r + 2) k) (b w (u + 8 + k)))
set_option maxRecDepth 16384 in
/-- one form -/
def Fo (a b : MM) (r s n o f : Int) : Prop := (a (s + 4) f = b n (o + 182 + f) ∧ 0 ≤ a (s + 4) f ∧ a (s + 4) f ≤ 3) ∧ (a (s + 4) f = 1 → b n (o + 190 + f) = a (s + 5) f ∧ 1 ≤ a (s + 5) f ∧ a (s + 5) f ≤ 9) ∧ (a (s + 4) f = 2 → b n (o + 190 + f) = 0) ∧ (a (s + 4) f ≠ 1 → a (s + 4) f ≠ 2 → b n (o + 190 + f) = a (r + 4) f) ∧ (∀ k, 0 ≤ k → k < 3 → a (s + 6) (3 * f + k) = b n (o + 158 + (3 * f + k)) ∧ -1 ≤ a (s + 6) (3 * f + k) ∧ a (s + 6) (3 * f + k) < 8 ∧ (a (s + 4) f = 1 → a (s + 6) (3 * f + k) ≠ -1)) ∧ a (s + 6) (3 * f + 1) ≠ a (r + 3) f
set_option maxRecDepth 16384 in
/-- what is so on a day -/
def Sn (a b : MM) (r s n o : Int) : Prop := (a s 8 = b n (o + 92) ∧ 0 ≤ a s 8 ∧ a s 8 ≤ 400) ∧ (a s 7 = b n (o + 93) ∧ s32 (a s 7) = a s 7) ∧ (∀ k, 0 ≤ k → k < 64 → a (s + 1) k = b n (o + 94 + k) ∧ 0 ≤ a (s + 1) k ∧ a (s + 1) k ≤ 9 ∧ (k % 9 = 0 → a (s + 1) k = 0)) ∧ (∀ p, 0 ≤ p → p < 8 → (a (s + 2) p = b n (o + 198 + p) ∧ -1 ≤ a (s + 2) p ∧ a (s + 2) p < 8) ∧ a (s + 3) p = b n (o + 206 + p) ∧ s32 (a (s + 3) p) = a (s + 3) p) ∧ (∀ f, 0 ≤ f → f < a r 7 → Fo a b r s n o f)
set_option maxRecDepth 16384 in
/-- the whole: a standing of the class's and what is now -/
def Sx (a b : MM) (s : Int) : Prop := (LRo a 3 ∧ LSt a s ∧ a s 0 = 3 ∧ b 148 14 = 150 ∧ 9 ≤ s ∧ s < 140 ∧ a (s + 2) (-1) = 8) ∧ Ro a b 3 150 0 ∧ Sn a b 3 s 150 0
set_option maxRecDepth 16384 in
theorem Sx.bn {a b : MM} {s : Int} (h : Sx a b s) : b 148 14 = 150 := h.1.2.2.2.1
set_option maxRecDepth 16384 in
theorem Sx.p {a b : MM} {s : Int} (h : Sx a b s) : a 3 6 = b 150 0 ∧ 0 ≤ a 3 6 ∧ a 3 6 ≤ 8 := h.2.1.1
set_option maxRecDepth 16384 in
theorem Sx.f {a b : MM} {s : Int} (h : Sx a b s) : a 3 7 = b 150 1 ∧ 0 ≤ a 3 7 ∧ a 3 7 ≤ 8 := h.2.1.2.1
set_option maxRecDepth 16384 in
theorem Sx.r {a b : MM} {s : Int} (h : Sx a b s) : a 3 8 = b 150 2 ∧ (a 3 8 = 0 ∨ a 3 8 = 1) := h.2.1.2.2.1
set_option maxRecDepth 16384 in
theorem Sx.shy {a b : MM} {s : Int} (h : Sx a b s) {k : Int} (h0 : 0 ≤ k) (h1 : k < 8) : a 8 k = b 150 (4 + k) := (h.2.1.2.2.2.1 k h0 h1).1
set_option maxRecDepth 16384 in
theorem Sx.ab {a b : MM} {s : Int} (h : Sx a b s) {f : Int} (h0 : 0 ≤ f) (h1 : f < a 3 7) : a 6 f = b 150 (76 + f) ∧ 0 ≤ a 6 f ∧ a 6 f < 8 := (h.2.1.2.2.2.2 f h0 h1).1
set_option maxRecDepth 16384 in
theorem Sx.sp {a b : MM} {s : Int} (h : Sx a b s) {f : Int} (h0 : 0 ≤ f) (h1 : f < a 3 7) : a 7 f = b 150 (84 + f) ∧ 1 ≤ a 7 f ∧ a 7 f ≤ 9 := (h.2.1.2.2.2.2 f h0 h1).2
set_option maxRecDepth 16384 in
theorem Sx.day {a b : MM} {s : Int} (h : Sx a b s) : a s 8 = b 150 92 ∧ 0 ≤ a s 8 ∧ a s 8 ≤ 400 := h.2.2.1
set_option maxRecDepth 16384 in
theorem Sx.ret {a b : MM} {s : Int} (h : Sx a b s) : a s 7 = b 150 93 := h.2.2.2.1.1
set_option maxRecDepth 16384 in
theorem Sx.gr {a b : MM} {s : Int} (h : Sx a b s) {k : Int} (h0 : 0 ≤ k) (h1 : k < 64) : a (s + 1) k = b 150 (94 + k) ∧ 0 ≤ a (s + 1) k ∧ a (s + 1) k ≤ 9 ∧ (k % 9 = 0 → a (s + 1) k = 0) := h.2.2.2.2.1 k h0 h1
set_option maxRecDepth 16384 in
theorem Sx.td {a b : MM} {s : Int} (h : Sx a b s) {p : Int} (h0 : 0 ≤ p) (h1 : p < 8) : a (s + 2) p = b 150 (198 + p) ∧ -1 ≤ a (s + 2) p ∧ a (s + 2) p < 8 := (h.2.2.2.2.2.1 p h0 h1).1
set_option maxRecDepth 16384 in
theorem Sx.ts {a b : MM} {s : Int} (h : Sx a b s) {p : Int} (h0 : 0 ≤ p) (h1 : p < 8) : a (s + 3) p = b 150 (206 + p) := (h.2.2.2.2.2.1 p h0 h1).2.1
set_option maxRecDepth 16384 in
theorem Sx.fo {a b : MM} {s : Int} (h : Sx a b s) {f : Int} (h0 : 0 ≤ f) (h1 : f < a 3 7) : Fo a b 3 s 150 0 f := h.2.2.2.2.2.2 f h0 h1
set_option maxRecDepth 16384 in
theorem Sx.hw {a b : MM} {s : Int} (h : Sx a b s) {f : Int} (h0 : 0 ≤ f) (h1 : f < a 3 7) : a (s + 4) f = b 150 (182 + f) ∧ 0 ≤ a (s + 4) f ∧ a (s + 4) f ≤ 3 := (h.fo h0 h1).1
set_option maxRecDepth 16384 in
theorem Sx.sg {a b : MM} {s : Int} (h : Sx a b s) {f k : Int} (h0 : 0 ≤ f) (h1 : f < a 3 7) (k0 : 0 ≤ k) (k1 : k < 3) : a (s + 6) (3 * f + k) = b 150 (158 + (3 * f + k)) ∧ -1 ≤ a (s + 6) (3 * f + k) ∧ a (s + 6) (3 * f + k) < 8 ∧ (a (s + 4) f = 1 → a (s + 6) (3 * f + k) ≠ -1) := (h.fo h0 h1).2.2.2.2.1 k k0 k1
set_option maxRecDepth 16384 in
theorem ad_g {p q : Int} (h0 : -1 ≤ p) (h1 : p < 9) (h2 : -1 ≤ q) (h3 : q < 9) : s32 (s32 (94 + s32 (8 * p)) + q) = 94 + (8 * p + q) := by
  rw [s32_id (z := 8 * p) (by omega) (by omega), s32_id (z := 94 + 8 * p) (by omega) (by omega), s32_id (by omega) (by omega)]
  omega
set_option maxRecDepth 16384 in
theorem ad_c {p q : Int} (h0 : -1 ≤ p) (h1 : p < 9) (h2 : -1 ≤ q) (h3 : q < 9) : s32 (s32 (p * 8) + q) = 8 * p + q := by
  rw [s32_id (z := p * 8) (by omega) (by omega), s32_id (by omega) (by omega)]
  omega
set_option maxRecDepth 16384 in
theorem ad_s {f k : Int} (h0 : -1 ≤ f) (h1 : f < 9) (h2 : -1 ≤ k) (h3 : k < 9) : s32 (s32 (158 + s32 (3 * f)) + k) = 158 + (3 * f + k) := by
  rw [s32_id (z := 3 * f) (by omega) (by omega), s32_id (z := 158 + 3 * f) (by omega) (by omega), s32_id (by omega) (by omega)]
  omega
set_option maxRecDepth 16384 in
theorem ad_t {f k : Int} (h0 : -1 ≤ f) (h1 : f < 9) (h2 : -1 ≤ k) (h3 : k < 9) : s32 (s32 (f * 3) + k) = 3 * f + k := by
  rw [s32_id (z := f * 3) (by omega) (by omega), s32_id (by omega) (by omega)]
  omega
set_option maxRecDepth 16384 in
theorem ad_1 {n k : Int} (h0 : 0 ≤ n) (h1 : n < 1000) (h2 : -1 ≤ k) (h3 : k < 1000) : s32 (n + k) = n + k := s32_id (by omega) (by omega)
set_option maxRecDepth 16384 in
theorem q72 {a b : MM} {s : Int} (h : Sx a b s) (f : Int) : f72 a 3 f = f208 b 148 f := by
  obtain ⟨e, e0, e8⟩ := h.f
  have hb := h.bn
  unfold f72 f208 f209
  rw [hb, ← e, s32_id (by omega) (by omega)]
  by_cases c : f < 0
  · rw [if_pos c, if_pos c]
  · rw [if_neg c, if_neg c]
    by_cases d : a 3 7 ≤ f
    · rw [if_pos d, if_pos (by omega)]
    · rw [if_neg d, if_neg (by omega), if_neg (by omega)]
set_option maxRecDepth 16384 in
theorem q73 {a b : MM} {s : Int} (h : Sx a b s) (p : Int) : f73 a 3 p = f213 b 148 p := by
  obtain ⟨e, e0, e8⟩ := h.p
  have hb := h.bn
  unfold f73 f213 f209
  rw [hb, ← e, s32_id (by omega) (by omega)]
  by_cases c : p < 0
  · rw [if_pos c, if_pos c]
  · rw [if_neg c, if_neg c]
    by_cases d : a 3 6 ≤ p
    · rw [if_pos d, if_pos (by omega)]
    · rw [if_neg d, if_neg (by omega), if_neg (by omega)]
set_option maxRecDepth 16384 in
theorem i72 {a b : MM} {s : Int} (h : Sx a b s) (f : Int) : (f72 a 3 f = 0 ∧ (f < 0 ∨ a 3 7 ≤ f)) ∨ (f72 a 3 f = 1 ∧ 0 ≤ f ∧ f < a 3 7) := by
  obtain ⟨e, e0, e8⟩ := h.f
  unfold f72
  by_cases c : f < 0
  · rw [if_pos c]; exact Or.inl ⟨rfl, Or.inl c⟩
  · rw [if_neg c]
    by_cases d : a 3 7 ≤ f
    · rw [if_pos d]; exact Or.inl ⟨rfl, Or.inr d⟩
    · rw [if_neg d, if_neg (by omega)]; exact Or.inr ⟨rfl, by omega, by omega⟩
set_option maxRecDepth 16384 in
theorem i73 {a b : MM} {s : Int} (h : Sx a b s) (p : Int) : (f73 a 3 p = 0 ∧ (p < 0 ∨ a 3 6 ≤ p)) ∨ (f73 a 3 p = 1 ∧ 0 ≤ p ∧ p < a 3 6) := by
  obtain ⟨e, e0, e8⟩ := h.p
  unfold f73
  by_cases c : p < 0
  · rw [if_pos c]; exact Or.inl ⟨rfl, Or.inl c⟩
  · rw [if_neg c]
    by_cases d : a 3 6 ≤ p
    · rw [if_pos d]; exact Or.inl ⟨rfl, Or.inr d⟩
    · rw [if_neg d, if_neg (by omega)]; exact Or.inr ⟨rfl, by omega, by omega⟩
set_option maxRecDepth 16384 in
theorem q66 {a b : MM} {s : Int} (h : Sx a b s) {f : Int} (f0 : 0 ≤ f) (f1 : f < a 3 7) : f66 a 3 f = a 6 f ∧ b 150 (s32 (76 + f)) = a 6 f := by
  obtain ⟨e, e0, e8⟩ := h.f
  have hab := h.ab f0 f1
  obtain ⟨-, -, r2, -⟩ := h.1.1
  unfold f66
  rw [if_neg (by omega), if_neg (by omega), if_neg (by omega), r2, ad_1 (by omega) (by omega) (by omega) (by omega), hab.1]
  exact ⟨hab.1, rfl⟩
set_option maxRecDepth 16384 in
theorem q124 {a b : MM} {s : Int} (h : Sx a b s) {p q : Int} (p0 : 0 ≤ p) (p8 : p < 8) (q0 : 0 ≤ q) (q8 : q < 8) : f124 a s p q = a (s + 1) (8 * p + q) ∧ f198 b 148 p q = a (s + 1) (8 * p + q) := by
  have hg := h.gr (k := 8 * p + q) (by omega) (by omega)
  obtain ⟨l1, -⟩ := h.1.2.1
  unfold f124 f198
  rw [if_neg (by omega), if_neg (by omega), if_neg (by omega), if_neg (by omega), ad_c (by omega) (by omega) (by omega) (by omega), ad_g (by omega) (by omega) (by omega) (by omega), l1, h.bn]
  exact ⟨rfl, hg.1.symm⟩
set_option maxRecDepth 16384 in
theorem q142 {a b : MM} {s : Int} (h : Sx a b s) {f k : Int} (f0 : 0 ≤ f) (f1 : f < a 3 7) (k0 : 0 ≤ k) (k1 : k < 3) : f142 a s f k = a (s + 6) (3 * f + k) ∧ f273 b 148 f k = a (s + 6) (3 * f + k) := by
  obtain ⟨e, e0, e8⟩ := h.f
  have hg := h.sg f0 f1 k0 k1
  obtain ⟨-, -, -, -, -, l6⟩ := h.1.2.1
  have e137 : f137 a f k = 3 * f + k := by
    unfold f137
    rw [if_neg (by omega), if_neg (by omega), if_neg (by omega), if_neg (by omega), ad_t (by omega) (by omega) (by omega) (by omega)]
  unfold f142 f273
  rw [e137, if_neg (by omega), l6, h.bn, ad_s (by omega) (by omega) (by omega) (by omega)]
  exact ⟨rfl, hg.1.symm⟩
set_option maxRecDepth 16384 in
theorem q127 {a b : MM} {s : Int} (h : Sx a b s) {f : Int} (f0 : 0 ≤ f) (f1 : f < a 3 7) : f127 a s f = a (s + 4) f ∧ b 150 (s32 (182 + f)) = a (s + 4) f := by
  obtain ⟨e, e0, e8⟩ := h.f
  obtain ⟨-, -, -, l4, -⟩ := h.1.2.1
  unfold f127
  rw [h.1.2.2.1]
  rcases i72 h f with ⟨c, d⟩ | ⟨c, -⟩
  · omega
  · rw [c, if_neg (by decide), l4, ad_1 (by omega) (by omega) (by omega) (by omega)]
    exact ⟨rfl, (h.hw f0 f1).1.symm⟩
set_option maxRecDepth 16384 in
theorem q141 {a b : MM} {s : Int} (h : Sx a b s) {p : Int} (p0 : 0 ≤ p) (p1 : p < a 3 6) : f141 a s p = a (s + 2) p ∧ b 150 (s32 (198 + p)) = a (s + 2) p := by
  obtain ⟨e, e0, e8⟩ := h.p
  obtain ⟨-, l2, -⟩ := h.1.2.1
  unfold f141
  rw [h.1.2.2.1]
  rcases i73 h p with ⟨c, d⟩ | ⟨c, -⟩
  · omega
  · rw [c, if_neg (by decide), l2, ad_1 (by omega) (by omega) (by omega) (by omega)]
    exact ⟨rfl, (h.td p0 (by omega)).1.symm⟩
set_option maxRecDepth 16384 in
theorem q129 {a b : MM} {s : Int} (h : Sx a b s) {p : Int} (p0 : 0 ≤ p) (p1 : p < a 3 6) : f129 a s p = f214 b 148 p := by
  obtain ⟨e, e0, e8⟩ := h.p
  unfold f129 f214
  rw [h.1.2.2.1, h.bn, ← h.ret]
  rcases i73 h p with ⟨c, d⟩ | ⟨c, -⟩
  · omega
  · rw [c, if_neg (by decide)]
    have hk := has_ok b (a s 7) p p0 (by omega)
    by_cases d : jand (a s 7) (jshl 1 p) = 0
    · rw [if_pos d]; exact (hk.mpr d).symm
    · rw [if_neg d]
      have : f199 b (a s 7) p ≠ 0 := fun q => d (hk.mp q)
      revert this
      unfold f199
      split
      · intro _; rfl
      · intro q; exact absurd rfl q
set_option maxRecDepth 16384 in
theorem q110 {a b : MM} {s : Int} (h : Sx a b s) {f : Int} (f0 : 0 ≤ f) (f1 : f < a 3 7) : f110 a s f = f203 b 148 f := by
  obtain ⟨e, e0, e8⟩ := h.p
  have hab := h.ab f0 f1
  have h66 := q66 h f0 f1
  have hb := h.bn
  have hs0 := h.1.2.2.1
  unfold f110 f203
  rw [hs0, h66.1]
  refine Lp_sim (f := K110_17 a s f (a 6 f) (-1) 0 0 0) (f' := K203_4 b 148 f (-1) 0) (P := fun x y => x.1 = y.1 ∧ x.2.2.1 = y.2 ∧ 0 ≤ y.2 ∧ y.2 ≤ a 3 6 ∧ ((y.1 = -1 ∧ x.2.1 = 0) ∨ (0 ≤ y.1 ∧ y.1 < 8 ∧ x.2.1 = f198 b 148 y.1 (a 6 f)))) (Q := fun t t' => t.2.2.1 = t'.2.2.1) (fun x => (a 3 6 - x.2.2.1).toNat) ?_ (-1, 0, 0, 0) (-1, 0) ⟨rfl, rfl, Int.le_refl _, e0, Or.inl ⟨rfl, rfl⟩⟩
  rintro ⟨x1, x2, x3, x4⟩ ⟨y1, y2⟩ ⟨c1, c2, c3, c4, c5⟩
  dsimp only at c1 c2 c3 c4 c5
  subst c1 c2
  by_cases c : a 3 6 ≤ x3
  · refine Or.inr ⟨(1, 0, (x1, x2, x3, x4)), (1, 0, (x1, x3)), ?_, ?_, ?_⟩
    · show S110_17 a s f (a 6 f) x1 x2 x3 x4 = _
      unfold S110_17
      rw [hs0, if_pos c]
    · show S203_4 b 148 f x1 x3 = _
      unfold S203_4
      rw [hb, ← e, if_pos c]
    · rfl
  · have q0 := (q124 h (p := x3) (q := a 6 f) c3 (by omega) hab.2.1 hab.2.2)
    have g0 := h.gr (k := 8 * x3 + a 6 f) (by omega) (by omega)
    have eB : S203_4 b 148 f x1 x3 = (if x1 = -1 then (if a (s + 1) (8 * x3 + a 6 f) ≤ 0 then .inl (x1, x3 + 1) else .inl (x3, x3 + 1)) else (if a (s + 1) (8 * x3 + a 6 f) ≤ f198 b 148 x1 (a 6 f) then .inl (x1, x3 + 1) else .inl (x3, x3 + 1))) := by
      unfold S203_4
      rw [hb, ← e, if_neg c, h66.2, q0.2, s32_id (by omega) (by omega)]
    have eA : S110_17 a s f (a 6 f) x1 x2 x3 x4 = (if x3 = a 6 f then .inl (x1, x2, x3 + 1, f124 a s x3 (a 6 f)) else (if a (s + 1) (8 * x3 + a 6 f) ≤ x2 then .inl (x1, x2, x3 + 1, f124 a s x3 (a 6 f)) else .inl (x3, f124 a s x3 (a 6 f), x3 + 1, f124 a s x3 (a 6 f)))) := by
      unfold S110_17
      rw [hs0, if_neg c, q0.1, s32_id (by omega) (by omega)]
    have eA : K110_17 a s f (a 6 f) (-1) 0 0 0 (x1, x2, x3, x4) = _ := eA
    have eB : K203_4 b 148 f (-1) 0 (x1, x3) = _ := eB
    rw [eA, eB]
    left
    rcases c5 with ⟨d1, d2⟩ | ⟨d1, d2, d3⟩
    · rw [if_pos d1, d2]
      by_cases d : x3 = a 6 f
      · have z := g0.2.2.2 (by omega)
        rw [if_pos d, z, if_pos (by decide)]
        exact ⟨_, _, rfl, rfl, ⟨rfl, rfl, by dsimp only; omega, by dsimp only; omega, Or.inl ⟨d1, rfl⟩⟩, by dsimp only; omega⟩
      · rw [if_neg d]
        by_cases d' : a (s + 1) (8 * x3 + a 6 f) ≤ 0
        · rw [if_pos d', if_pos d']
          exact ⟨_, _, rfl, rfl, ⟨rfl, rfl, by dsimp only; omega, by dsimp only; omega, Or.inl ⟨d1, rfl⟩⟩, by dsimp only; omega⟩
        · rw [if_neg d', if_neg d']
          exact ⟨_, _, rfl, rfl, ⟨rfl, rfl, by dsimp only; omega, by dsimp only; omega, Or.inr ⟨c3, by dsimp only; omega, by dsimp only; rw [q0.1, q0.2]⟩⟩, by dsimp only; omega⟩
    · have q1 := (q124 h (p := x1) (q := a 6 f) d1 d2 hab.2.1 hab.2.2)
      have g1 := h.gr (k := 8 * x1 + a 6 f) (by omega) (by omega)
      have nx : ¬ x1 = -1 := by omega
      rw [if_neg nx, ← d3]
      by_cases d : x3 = a 6 f
      · have z := g0.2.2.2 (by omega)
        rw [if_pos d, z, if_pos (by rw [d3, q1.2]; exact g1.2.1)]
        exact ⟨_, _, rfl, rfl, ⟨rfl, rfl, by dsimp only; omega, by dsimp only; omega, Or.inr ⟨d1, d2, d3⟩⟩, by dsimp only; omega⟩
      · rw [if_neg d]
        by_cases d' : a (s + 1) (8 * x3 + a 6 f) ≤ x2
        · rw [if_pos d', if_pos d']
          exact ⟨_, _, rfl, rfl, ⟨rfl, rfl, by dsimp only; omega, by dsimp only; omega, Or.inr ⟨d1, d2, d3⟩⟩, by dsimp only; omega⟩
        · rw [if_neg d', if_neg d']
          exact ⟨_, _, rfl, rfl, ⟨rfl, rfl, by dsimp only; omega, by dsimp only; omega, Or.inr ⟨c3, by dsimp only; omega, by dsimp only; rw [q0.1, q0.2]⟩⟩, by dsimp only; omega⟩
set_option maxRecDepth 16384 in
theorem q128 {a b : MM} {s : Int} (h : Sx a b s) {f : Int} (f0 : 0 ≤ f) (f1 : f < a 3 7) : f128 a s f = f204 b 148 f := by
  have k1 := q142 h f0 f1 (k := 1) (by decide) (by decide)
  unfold f128 f204
  rw [k1.1, k1.2, q110 h f0 f1]
set_option maxRecDepth 16384 in
theorem q133 {a b : MM} {s : Int} (h : Sx a b s) {u p f : Int} (p0 : 0 ≤ p) (p1 : p < a 3 6) (f0 : 0 ≤ f) (f1 : f < a 3 7) : f133 a s u p f = f234 b 148 p f u := by
  obtain ⟨e, e0, e8⟩ := h.p
  have hab := h.ab f0 f1
  have h66 := q66 h f0 f1
  have hb := h.bn
  have hs0 := h.1.2.2.1
  obtain ⟨r1, r2, r3, r4, r5⟩ := h.1.1
  unfold f133 f234
  rw [hs0, hb, h66.1, h66.2]
  rcases i73 h p with ⟨c, d⟩ | ⟨c, -⟩
  · omega
  · rw [c, if_neg (by decide), if_neg (by omega)]
    by_cases c1 : p = a 6 f
    · rw [if_pos c1, if_pos c1]
    · rw [if_neg c1, if_neg c1]
      by_cases c2 : p = u
      · rw [if_pos c2, if_pos c2]
      · rw [if_neg c2, if_neg c2]
        have e84 : f84 a 3 p = a 8 p := by
          unfold f84
          rw [c, if_neg (by decide), r5]
          rfl
        have e216 : f216 b 148 p f u = if f199 b (a 8 p) (a 6 f) = 0 then 1 else 0 := by
          unfold f216
          rw [hb, h66.2, if_neg c1, if_neg c2, ad_1 (by omega) (by omega) (by omega) (by omega), h.shy p0 (by omega)]
        rw [e84, e216]
        have hk := has_ok b (a 8 p) (a 6 f) hab.2.1 hab.2.2
        by_cases d : jand (a 8 p) (jshl 1 (a 6 f)) = 0
        · rw [if_pos d, if_pos (hk.mpr d), if_neg (show ¬ (1 : Int) = 0 by decide)]
          obtain ⟨r, r0⟩ := h.r
          rw [← r, q129 h p0 p1]
          rcases r0 with r0 | r0 <;> rw [r0] <;> rfl
        · rw [if_neg d, if_neg (fun q => d (hk.mp q)), if_pos rfl]
