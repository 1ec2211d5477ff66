/-! What was so is kept, and taken back. -/
set_option maxRecDepth 16384 in
theorem Sx_mk {a a' b b' : MM} {s : Int} (h : Sx a b s) (ha : ∀ x k, 3 ≤ x → x < 9 → 0 ≤ k → a' x k = a x k) (hs : ∀ k, 0 ≤ k → k < 7 → a' s k = a s k) (hl : a' (s + 2) (-1) = a (s + 2) (-1)) (hb : b' 148 14 = b 148 14) (hb2 : ∀ k, 0 ≤ k → k < 92 → b' 150 k = b 150 k) (hn : Sn a' b' 3 s 150 0) : Sx a' b' s := by
  obtain ⟨⟨⟨x0, x1, x2, x3, x4⟩, ⟨y1, y2, y3, y4, y5, y6⟩, z, w, s9, s140, sl⟩, ⟨⟨c1, c2, c3⟩, ⟨c4, c5, c6⟩, ⟨c7, c8⟩, c9, c10⟩, -⟩ := h
  have e36 := ha 3 6 (by decide) (by decide) (by decide)
  have e37 := ha 3 7 (by decide) (by decide) (by decide)
  refine ⟨⟨⟨?_, ?_, ?_, ?_, ?_⟩, ⟨?_, ?_, ?_, ?_, ?_, ?_⟩, ?_, ?_, s9, s140, ?_⟩, ⟨⟨?_, ?_, ?_⟩, ⟨?_, ?_, ?_⟩, ⟨?_, ?_⟩, fun k k0 k1 => ?_, fun k k0 k1 => ?_⟩, hn⟩
  · rw [ha _ _ (by decide) (by decide) (by decide)]; exact x0
  · rw [ha _ _ (by decide) (by decide) (by decide)]; exact x1
  · rw [ha _ _ (by decide) (by decide) (by decide)]; exact x2
  · rw [ha _ _ (by decide) (by decide) (by decide)]; exact x3
  · rw [ha _ _ (by decide) (by decide) (by decide)]; exact x4
  · rw [hs _ (by decide) (by decide)]; exact y1
  · rw [hs _ (by decide) (by decide)]; exact y2
  · rw [hs _ (by decide) (by decide)]; exact y3
  · rw [hs _ (by decide) (by decide)]; exact y4
  · rw [hs _ (by decide) (by decide)]; exact y5
  · rw [hs _ (by decide) (by decide)]; exact y6
  · rw [hs _ (by decide) (by decide)]; exact z
  · rw [hb]; exact w
  · rw [hl]; exact sl
  · rw [e36, hb2 _ (by decide) (by decide)]; exact c1
  · rw [e36]; exact c2
  · rw [e36]; exact c3
  · rw [e37, hb2 _ (by decide) (by decide)]; exact c4
  · rw [e37]; exact c5
  · rw [e37]; exact c6
  · rw [ha _ _ (by decide) (by decide) (by decide), hb2 _ (by decide) (by decide)]; exact c7
  · rw [ha _ _ (by decide) (by decide) (by decide)]; exact c8
  · rw [ha _ _ (by decide) (by decide) k0, hb2 _ (by omega) (by omega)]; exact c9 k k0 k1
  · rw [e37] at k1
    rw [ha (3 + 3) _ (by decide) (by decide) k0, ha (3 + 4) _ (by decide) (by decide) k0, hb2 _ (by omega) (by omega), hb2 _ (by omega) (by omega)]
    exact c10 k k0 k1
set_option maxRecDepth 16384 in
theorem Sx_fr {a a' b b' : MM} {s : Int} (h : Sx a b s) (ha : ∀ x k, x < 9 → 0 ≤ k → a' x k = a x k) (hs : ∀ x k, s ≤ x → x ≤ s + 6 → a' x k = a x k) (hb : b' 148 14 = b 148 14) (hb2 : ∀ k, b' 150 k = b 150 k) : Sx a' b' s :=
  Sx_mk h (fun x k _ hx k0 => ha x k hx k0) (fun k _ _ => hs s k (by omega) (by omega)) (hs _ _ (by omega) (by omega)) hb (fun k _ _ => hb2 k) (Sn_fr h.2.2 (fun x k x0 x1 k0 => ha x k (by omega) k0) (fun x k x0 x1 _ => hs x k x0 x1) hb2)
set_option maxRecDepth 16384 in
theorem Un_ln {m : MM} (h1 : m 29 0 = 30) (h2 : m 30 (-1) = 8) : (if m 29 0 = 1000050 then 30 else s32 (m (m 29 0) (-1))) = 8 := by
  rw [h1, if_neg (by decide), h2, s32_id (by decide) (by decide)]
set_option maxRecDepth 16384 in
theorem Un_el {m b : MM} (h : Un m b) (i : Int) (i0 : 0 ≤ i) (i8 : i < 8) : (if m 29 0 = 1000050 then 1000100 + i else m (m 29 0) i) = 31 + 7 * i := by
  rw [h.1.1, if_neg (by decide)]
  exact h.1.2.2.1 i i0 i8
set_option maxRecDepth 16384 in
/-- the places of what is kept -/
def Qu (x k : Int) : Prop := (x = 29 ∧ (k = 1 ∨ k = 2)) ∨ (31 ≤ x ∧ x ≤ 86 ∧ 0 ≤ k ∧ ((x - 31) % 7 = 0 → 7 ≤ k))
set_option maxRecDepth 16384 in
def Qv (x k : Int) : Prop := x = 153 ∨ (x = 148 ∧ k = 23)
set_option maxRecDepth 16384 in
theorem g162_ok {a b : MM} {s : Int} (u : Un a b) (hs : LSt a s) (h9 : 9 ≤ s) (h22 : s ≤ 22) : Fr (Qu) a (g162 a 29 s) ∧ (g162 a 29 s) 29 1 = (a 29 1 + 1) % 8 ∧ (g162 a 29 s) 29 2 = (if a 29 2 = 8 then 8 else a 29 2 + 1) ∧ ((g162 a 29 s) (31 + 7 * a 29 1) 7 = a s 7 ∧ (g162 a 29 s) (31 + 7 * a 29 1) 8 = a s 8) ∧ (∀ k, 0 ≤ k → k < 64 → (g162 a 29 s) (31 + 7 * a 29 1 + 1) k = a (s + 1) k) ∧ (∀ i k, 2 ≤ i → i ≤ 5 → 0 ≤ k → k < 8 → (g162 a 29 s) (31 + 7 * a 29 1 + i) k = a (s + i) k) ∧ (∀ k, 0 ≤ k → k < 24 → (g162 a 29 s) (31 + 7 * a 29 1 + 6) k = a (s + 6) k) ∧ ∀ x k, 31 ≤ x → x ≤ 86 → ¬ (31 + 7 * a 29 1 ≤ x ∧ x ≤ 31 + 7 * a 29 1 + 6) → (g162 a 29 s) x k = a x k := by
  have u' := u
  obtain ⟨⟨u1, u2, u3, u4⟩, ⟨u5, u6⟩, ⟨u7, u8, u9⟩, u10, u11⟩ := u
  obtain ⟨f1, ⟨f2, f3⟩, f4, f5, f6⟩ := c113 (m := a) (x := 31 + 7 * a 29 1) (y := s) (u4 _ u5 u6) hs (by omega)
  have key : ∃ nx cc, g162 a 29 s = mu (mu (g113 a (31 + 7 * a 29 1) s) 29 1 nx) 29 2 cc ∧ nx = (a 29 1 + 1) % 8 ∧ cc = (if a 29 2 = 8 then 8 else a 29 2 + 1) := by
    unfold g162
    rw [Un_ln u1 u2, Un_el u' _ u5 u6, if_neg (show ¬ a 29 1 < 0 by omega), if_pos (show a 29 1 < 8 from u6)]
    have w0 : (g113 a (31 + 7 * a 29 1) s) 29 0 = 30 := by rw [f1 _ _ (by unfold PSt; omega)]; exact u1
    have w1 : (g113 a (31 + 7 * a 29 1) s) 30 (-1) = 8 := by rw [f1 _ _ (by unfold PSt; omega)]; exact u2
    have w2 : (g113 a (31 + 7 * a 29 1) s) 29 1 = a 29 1 := f1 _ _ (by unfold PSt; omega)
    have w3 : (g113 a (31 + 7 * a 29 1) s) 29 2 = a 29 2 := f1 _ _ (by unfold PSt; omega)
    revert w0 w1 w2 w3
    generalize g113 a (31 + 7 * a 29 1) s = m1
    intro w0 w1 w2 w3
    rw [Un_ln w0 w1, w2, s32_id (z := a 29 1 + 1) (by omega) (by omega)]
    have jm : ∀ c, 0 ≤ c → c ≤ 8 → jmin (c + 1) 8 = if c = 8 then 8 else c + 1 := fun c c0 c8 => by
      unfold jmin
      split <;> split <;> omega
    by_cases c : 8 ≤ a 29 1 + 1
    · rw [if_pos c]
      have v0 : (mu m1 29 1 0) 29 0 = 30 := by rw [mu_k (by decide)]; exact w0
      have v1 : (mu m1 29 1 0) 30 (-1) = 8 := by rw [mu_a (by decide)]; exact w1
      rw [Un_ln v0 v1, mu_k (by decide), w3, s32_id (z := a 29 2 + 1) (by omega) (by omega), jm _ u8 u9]
      exact ⟨_, _, rfl, by omega, rfl⟩
    · rw [if_neg c]
      have v0 : (mu m1 29 1 (a 29 1 + 1)) 29 0 = 30 := by rw [mu_k (by decide)]; exact w0
      have v1 : (mu m1 29 1 (a 29 1 + 1)) 30 (-1) = 8 := by rw [mu_a (by decide)]; exact w1
      rw [Un_ln v0 v1, mu_k (by decide), w3, s32_id (z := a 29 2 + 1) (by omega) (by omega), jm _ u8 u9]
      exact ⟨_, _, rfl, by omega, rfl⟩
  obtain ⟨nx, cc, k1, k2, k3⟩ := key
  rw [k1]
  refine ⟨((f1.mo fun x k q => ?_).mu (Or.inl ⟨rfl, Or.inl rfl⟩)).mu (Or.inl ⟨rfl, Or.inr rfl⟩), ?_, ?_, ⟨?_, ?_⟩, fun k k0 k1 => ?_, fun i k i0 i1 k0 k1 => ?_, fun k k0 k1 => ?_, fun x k x0 x1 hx => ?_⟩
  · unfold PSt at q; unfold Qu; omega
  · rw [mu_k (by decide), mu_s, k2]
  · rw [mu_s, k3]
  · rw [mu_a (by omega), mu_a (by omega)]; exact f2
  · rw [mu_a (by omega), mu_a (by omega)]; exact f3
  · rw [mu_a (by omega), mu_a (by omega)]; exact f4 k k0 k1
  · rw [mu_a (by omega), mu_a (by omega)]; exact f5 i k i0 i1 k0 k1
  · rw [mu_a (by omega), mu_a (by omega)]; exact f6 k k0 k1
  · rw [mu_a (by omega), mu_a (by omega)]; exact f1 x k (by unfold PSt; omega)
set_option maxRecDepth 16384 in
theorem L276_11_ok {b : MM} (h17 : b 148 17 = 153) : L276_11 b 148 0 = (1, 0, (854, fm b 153 (0 + 0) (0 + 854) (fun j => s32 (b 153 (j + 122))))) := by
  unfold L276_11
  refine Lp_fill (f := K276_11 b 148 0) (i0 := 0) (n := 854) (base := 0) (d := 153) (by decide) (fun i i0 i1 => ?_) ?_
  · show S276_11 (fm b 153 (0 + 0) (0 + i) (fun j => s32 (b 153 (j + 122)))) 148 i = _
    unfold S276_11
    rw [if_neg (by omega), fm_n (b := 148) (by decide), h17, s32_id (z := i + 122) (by omega) (by omega), s32_id (z := i + 1) (by omega) (by omega), fm_o (by omega), Int.zero_add i]
  · show S276_11 (fm b 153 (0 + 0) (0 + 854) (fun j => s32 (b 153 (j + 122)))) 148 854 = _
    unfold S276_11
    rw [if_pos (by decide)]
set_option maxRecDepth 16384 in
theorem L276_51_ok {b : MM} {c : Int} (h17 : b 148 17 = 153) (h14 : b 148 14 = 150) (h23 : b 148 23 = c) (c0 : 0 ≤ c) (c8 : c < 8) : L276_51 b 148 0 = (1, 0, (122, fm b 153 (122 * c + 0) (122 * c + 122) (fun j => s32 (b 150 (92 + (j - 122 * c)))))) := by
  unfold L276_51
  refine Lp_fill (f := K276_51 b 148 0) (i0 := 0) (n := 122) (base := 122 * c) (d := 153) (by decide) (fun i i0 i1 => ?_) ?_
  · show S276_51 (fm b 153 (122 * c + 0) (122 * c + i) (fun j => s32 (b 150 (92 + (j - 122 * c))))) 148 i = _
    unfold S276_51
    rw [if_neg (by omega), fm_n (b := 148) (by decide), fm_n (b := 148) (by decide), fm_n (b := 148) (by decide), h17, h14, h23, s32_id (z := 122 * c) (by omega) (by omega), s32_id (z := 122 * c + i) (by omega) (by omega), s32_id (z := 92 + i) (by omega) (by omega), s32_id (z := i + 1) (by omega) (by omega), fm_n (b := 150) (by decide)]
    have e : b 150 (92 + i) = b 150 (92 + (122 * c + i - 122 * c)) := by congr 1; omega
    rw [e]
  · show S276_51 (fm b 153 (122 * c + 0) (122 * c + 122) (fun j => s32 (b 150 (92 + (j - 122 * c))))) 148 122 = _
    unfold S276_51
    rw [if_pos (by decide)]
set_option maxRecDepth 16384 in
/-- what the reference keeps -/
theorem g276_ok {b : MM} (h17 : b 148 17 = 153) (h14 : b 148 14 = 150) (c0 : 0 ≤ b 148 23) (c8 : b 148 23 ≤ 8) : Fr Qv b (g276 b 148) ∧ (g276 b 148) 148 23 = (if b 148 23 = 8 then 8 else b 148 23 + 1) ∧ (∀ k, 0 ≤ k → k < 122 → (g276 b 148) 153 (122 * ((if b 148 23 = 8 then 8 else b 148 23 + 1) - 1) + k) = s32 (b 150 (92 + k))) ∧ (∀ j k, 0 ≤ j → j < (if b 148 23 = 8 then 8 else b 148 23 + 1) - 1 → 0 ≤ k → k < 122 → (g276 b 148) 153 (122 * j + k) = (if b 148 23 = 8 then s32 (b 153 (122 * (j + 1) + k)) else b 153 (122 * j + k))) := by
  unfold g276
  by_cases c : b 148 23 = 8
  · rw [if_pos c, if_pos c, L276_11_ok h17]
    dsimp only
    have F1 : Fr Qv b (fm b 153 (0 + 0) (0 + 854) (fun j => s32 (b 153 (j + 122)))) := (Fr.rf _ _).fl fun j _ _ => Or.inl rfl
    have v1 : ∀ j, 0 ≤ j → j < 854 → (fm b 153 (0 + 0) (0 + 854) (fun j => s32 (b 153 (j + 122)))) 153 j = s32 (b 153 (j + 122)) := fun j j0 j1 => fm_i (by omega) (by omega)
    have x23 : (fm b 153 (0 + 0) (0 + 854) (fun j => s32 (b 153 (j + 122)))) 148 23 = 8 := by rw [fm_n (by decide)]; exact c
    revert F1 v1 x23
    generalize fm b 153 (0 + 0) (0 + 854) (fun j => s32 (b 153 (j + 122))) = n1
    intro F1 v1 x23
    rw [x23, s32_id (z := 8 - 1) (by decide) (by decide)]
    have e17 : (mu n1 148 23 (8 - 1)) 148 17 = 153 := by rw [mu_k (by decide), F1 _ _ (by unfold Qv; omega)]; exact h17
    have e14 : (mu n1 148 23 (8 - 1)) 148 14 = 150 := by rw [mu_k (by decide), F1 _ _ (by unfold Qv; omega)]; exact h14
    rw [L276_51_ok (c := 7) e17 e14 (mu_s _ _ _ _) (by decide) (by decide)]
    dsimp only
    rw [fm_n (b := 148) (by decide), mu_s, s32_id (z := 8 - 1 + 1) (by decide) (by decide)]
    refine ⟨((F1.mu (Or.inr ⟨rfl, rfl⟩)).fl fun j _ _ => Or.inl rfl).mu (Or.inr ⟨rfl, rfl⟩), ?_, fun k k0 k1 => ?_, fun j k j0 j1 k0 k1 => ?_⟩
    · rw [mu_s]
      decide
    · rw [mu_a (by decide), fm_i (by omega) (by omega), mu_a (by decide), F1 _ _ (by unfold Qv; omega)]
      congr 2
      omega
    · rw [if_pos c, mu_a (by decide), fm_o (by omega), mu_a (by decide), v1 _ (by omega) (by omega)]
      congr 2
      omega
  · rw [if_neg c, if_neg c, L276_51_ok (c := b 148 23) h17 h14 rfl c0 (by omega)]
    dsimp only
    rw [fm_n (b := 148) (by decide), s32_id (z := b 148 23 + 1) (by omega) (by omega)]
    refine ⟨((Fr.rf _ _).fl fun j _ _ => Or.inl rfl).mu (Or.inr ⟨rfl, rfl⟩), mu_s _ _ _ _, fun k k0 k1 => ?_, fun j k j0 j1 k0 k1 => ?_⟩
    · rw [mu_a (by decide), fm_i (by omega) (by omega)]
      congr 2
      omega
    · rw [if_neg c, mu_a (by decide), fm_o (by omega)]
