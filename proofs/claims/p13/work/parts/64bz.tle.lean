/-! Undone alike. -/
set_option maxRecDepth 16384 in
theorem L288_ok {b : MM} {c : Int} (h17 : b 148 17 = 153) (h14 : b 148 14 = 150) (h23 : b 148 23 = c) (c0 : 0 ≤ c) (c8 : c < 8) : L288_26 b 148 0 = (1, 0, (122, fm b 150 (92 + 0) (92 + 122) (fun j => s32 (b 153 (122 * c + (j - 92)))))) := by
  unfold L288_26
  refine Lp_fill (f := K288_26 b 148 0) (i0 := 0) (n := 122) (base := 92) (d := 150) (by decide) (fun i i0 i1 => ?_) ?_
  · show S288_26 (fm b 150 (92 + 0) (92 + i) (fun j => s32 (b 153 (122 * c + (j - 92))))) 148 i = _
    unfold S288_26
    rw [if_neg (by omega), fm_n (b := 148) (by decide), fm_n (b := 148) (by decide), fm_n (b := 148) (by decide), h17, h14, h23, s32_id (z := 122 * c) (by omega) (by omega), s32_id (z := 122 * c + i) (by omega) (by omega), s32_id (z := 92 + i) (by omega) (by omega), s32_id (z := i + 1) (by omega) (by omega), fm_n (b := 153) (by decide)]
    have e : b 153 (122 * c + i) = b 153 (122 * c + (92 + i - 92)) := by congr 1; omega
    rw [e]
  · show S288_26 (fm b 150 (92 + 0) (92 + 122) (fun j => s32 (b 153 (122 * c + (j - 92))))) 148 122 = _
    unfold S288_26
    rw [if_pos (by decide)]
set_option maxRecDepth 16384 in
theorem g163_ok {a b : MM} (u : Un a b) (hs : LSt a 15) : (a 29 2 = 0 ∧ f163 a 29 15 = -1 ∧ g163 a 29 15 = a) ∨ (0 < a 29 2 ∧ f163 a 29 15 = a 29 2 - 1 ∧ g163 a 29 15 = mu (mu (g113 a 15 (31 + 7 * ((a 29 1 + 7) % 8))) 29 1 ((a 29 1 + 7) % 8)) 29 2 (a 29 2 - 1)) := by
  have u' := u
  obtain ⟨⟨u1, u2, u3, u4⟩, ⟨u5, u6⟩, ⟨u7, u8, u9⟩, u10, u11⟩ := u
  have x8 : s32 (8 - 1) = 7 := s32_id (by decide) (by decide)
  have x1 : s32 (a 29 1 - 1) = a 29 1 - 1 := s32_id (by omega) (by omega)
  have x2 : s32 (a 29 2 - 1) = a 29 2 - 1 := s32_id (by omega) (by omega)
  have z7 : ¬ (7 : Int) < 0 := by decide
  have z8 : (7 : Int) < 8 := by decide
  by_cases c : a 29 2 ≤ 0
  · left
    refine ⟨by omega, ?_, ?_⟩
    · unfold f163
      simp only [if_pos c]
      split <;> rfl
    · unfold g163
      simp only [if_pos c]
      split <;> rfl
  · right
    have e : ∀ i, 0 ≤ i → i < 8 → (g113 a 15 (31 + 7 * i)) 29 2 = a 29 2 := fun i i0 i8 => (c113 (m := a) (x := 15) (y := 31 + 7 * i) hs (u4 i i0 i8) (by omega)).1 29 2 (by unfold PSt; omega)
    unfold f163 g163
    rw [Un_ln u1 u2, x8, x1]
    by_cases d : a 29 1 ≤ 0
    · simp only [if_pos d, if_neg c, if_neg z7, if_pos z8]
      rw [Un_el u' 7 (by decide) (by decide)]
      have e7 : (a 29 1 + 7) % 8 = 7 := by omega
      rw [e7, mu_k (j := 2) (k := 1) (by decide), e 7 (by decide) (by decide), x2, mu_s]
      exact ⟨by omega, rfl, rfl⟩
    · have d1 : ¬ a 29 1 - 1 < 0 := by omega
      have d2 : a 29 1 - 1 < 8 := by omega
      simp only [if_neg d, if_neg c, if_neg d1, if_pos d2]
      rw [Un_el u' (a 29 1 - 1) (by omega) (by omega)]
      have e7 : (a 29 1 + 7) % 8 = a 29 1 - 1 := by omega
      rw [e7, mu_k (j := 2) (k := 1) (by decide), e (a 29 1 - 1) (by omega) (by omega), x2, mu_s]
      exact ⟨by omega, rfl, rfl⟩
set_option maxRecDepth 16384 in
theorem undo_pair {a b : MM} (h : C1 a b) : f37 a 0 = f288 b 148 ∧ C1p a b (g37 a 0) (g288 b 148) := by
  have h0 := C1_0 h
  have hh := h
  obtain ⟨⟨h1, h2, h3, h4⟩, hS, u⟩ := h
  have u0 := h0.1.2.2
  have u' := u
  obtain ⟨hf, hf0, hf8⟩ := hS.f
  unfold f37 g37 f288 g288
  rw [h2, h3]
  have e23 : (mu b 148 0 0) 148 23 = a 29 2 := by rw [mu_k (by decide)]; exact u.2.2.1.1.symm
  have e17 : (mu b 148 0 0) 148 17 = 153 := u0.2.2.2.1
  have e14 := h0.1.2.1.bn
  rw [e23]
  revert h0 u0 e17 e14 e23
  generalize mu b 148 0 0 = b1
  intro h0 u0 e23 e17 e14
  rcases g163_ok u hS.1.2.1 with ⟨c, f1, g1⟩ | ⟨c, f1, g1⟩
  · rw [f1, g1, if_pos c, if_pos c]
    exact ⟨rfl, h0⟩
  · rw [f1, g1, if_neg (show ¬ a 29 2 = 0 by omega), if_neg (show ¬ a 29 2 = 0 by omega)]
    obtain ⟨⟨u1, u2, u3, u4⟩, ⟨u5, u6⟩, ⟨u7, u8, u9⟩, u10, u11⟩ := u
    rw [s32_id (z := a 29 2 - 1) (by omega) (by omega)]
    have w17 : (mu b1 148 23 (a 29 2 - 1)) 148 17 = 153 := by rw [mu_k (by decide)]; exact e17
    have w14 : (mu b1 148 23 (a 29 2 - 1)) 148 14 = 150 := by rw [mu_k (by decide)]; exact e14
    rw [L288_ok (c := a 29 2 - 1) w17 w14 (mu_s _ _ _ _) (by omega) (by omega)]
    dsimp only
    rw [fm_n (b := 148) (by decide), mu_s]
    refine ⟨rfl, h0.tr ?_⟩
    have hq := u0.2.2.2.2 (a 29 2 - 1) (by omega) (by omega)
    have eq : (a 29 1 + 8 - a 29 2 + (a 29 2 - 1)) % 8 = (a 29 1 + 7) % 8 := by omega
    rw [eq] at hq
    obtain ⟨f1, ⟨f2, f3⟩, f4, f5, f6⟩ := c113 (m := a) (x := 15) (y := 31 + 7 * ((a 29 1 + 7) % 8)) hS.1.2.1 (u4 _ (by omega) (by omega)) (by omega)
    revert f1 f2 f3 f4 f5 f6
    generalize g113 a 15 (31 + 7 * ((a 29 1 + 7) % 8)) = m1
    intro f1 f2 f3 f4 f5 f6
    have FAa : Fr (fun x k => PSt 15 x k ∨ (x = 29 ∧ (k = 1 ∨ k = 2))) a (mu (mu m1 29 1 ((a 29 1 + 7) % 8)) 29 2 (a 29 2 - 1)) := ((f1.mo fun x k q => Or.inl q).mu (Or.inr ⟨rfl, Or.inl rfl⟩)).mu (Or.inr ⟨rfl, Or.inr rfl⟩)
    have FBb : Fr (fun x k => (x = 150 ∧ 92 ≤ k) ∨ (x = 148 ∧ k = 23)) b1 (fm (mu b1 148 23 (a 29 2 - 1)) 150 (92 + 0) (92 + 122) (fun j => s32 ((mu b1 148 23 (a 29 2 - 1)) 153 (122 * (a 29 2 - 1) + (j - 92))))) := ((Fr.rf _ _).mu (Or.inr ⟨rfl, rfl⟩)).fl fun j j0 j1 => Or.inl ⟨rfl, by omega⟩
    have v29 : (mu (mu m1 29 1 ((a 29 1 + 7) % 8)) 29 2 (a 29 2 - 1)) 29 1 = (a 29 1 + 7) % 8 ∧ (mu (mu m1 29 1 ((a 29 1 + 7) % 8)) 29 2 (a 29 2 - 1)) 29 2 = a 29 2 - 1 := ⟨by rw [mu_k (by decide), mu_s], mu_s _ _ _ _⟩
    have vx : ∀ x k, x < 29 → (mu (mu m1 29 1 ((a 29 1 + 7) % 8)) 29 2 (a 29 2 - 1)) x k = m1 x k := fun x k hx => by rw [mu_a (by omega), mu_a (by omega)]
    have vb : ∀ k, 92 ≤ k → k < 214 → (fm (mu b1 148 23 (a 29 2 - 1)) 150 (92 + 0) (92 + 122) (fun j => s32 ((mu b1 148 23 (a 29 2 - 1)) 153 (122 * (a 29 2 - 1) + (j - 92))))) 150 k = s32 (b1 153 (122 * (a 29 2 - 1) + (k - 92))) := fun k k0 k1 => by rw [fm_i (by omega) (by omega), mu_a (by decide)]
    have v23 : (fm (mu b1 148 23 (a 29 2 - 1)) 150 (92 + 0) (92 + 122) (fun j => s32 ((mu b1 148 23 (a 29 2 - 1)) 153 (122 * (a 29 2 - 1) + (j - 92))))) 148 23 = a 29 2 - 1 := by rw [fm_n (by decide), mu_s]
    revert FAa FBb v29 vx vb v23
    generalize (mu (mu m1 29 1 ((a 29 1 + 7) % 8)) 29 2 (a 29 2 - 1)) = a'
    generalize (fm (mu b1 148 23 (a 29 2 - 1)) 150 (92 + 0) (92 + 122) (fun j => s32 ((mu b1 148 23 (a 29 2 - 1)) 153 (122 * (a 29 2 - 1) + (j - 92))))) = b'
    intro FAa FBb ⟨v1, v2⟩ vx vb v23
    have FAa' : Fr FA a a' := FAa.mo fun x k q => by
      rcases q with q | q
      · refine Or.inl (Or.inl ?_)
        unfold PSt at q
        unfold Qa
        omega
      · exact Or.inr (Or.inl q)
    have FBb' : Fr FB b1 b' := FBb.mo fun x k q => by
      unfold FB
      omega
    have hn : Sn a' b' 3 15 150 0 := by
      refine Sn_cp hq (FAa 3 7 (by unfold PSt; omega)) hf8 (fun f f0 f1 => (hS.sp f0 f1).2) (fun f f0 f1 => ⟨FAa _ _ (by unfold PSt; omega), FAa _ _ (by unfold PSt; omega)⟩) ⟨?_, ?_⟩ (fun k k0 k1 => ?_) (fun i k i0 i1 k0 k1 => ?_) (fun k k0 k1 => ?_) (fun k k0 k1 => Or.inr ?_)
      · rw [vx _ _ (by decide)]; exact f2
      · rw [vx _ _ (by decide)]; exact f3
      · rw [vx _ _ (by decide)]; exact f4 k k0 k1
      · rw [vx _ _ (by omega)]; exact f5 i k i0 i1 k0 k1
      · rw [vx _ _ (by decide)]; exact f6 k k0 k1
      · rw [Int.zero_add, vb k k0 k1]
        congr 2
        omega
    have hS' : Sx a' b' 15 := Sx_mk h0.1.2.1 (fun x k _ hx _ => FAa x k (by unfold PSt; omega)) (fun k k0 k1 => FAa _ _ (by unfold PSt; omega)) (FAa _ _ (by unfold PSt; omega)) (FBb _ _ (by omega)) (fun k k0 k1 => FBb _ _ (by omega)) hn
    refine ⟨⟨Hd_fr hh.1 FAa', hS', ⟨⟨?_, ?_, fun i i0 i8 => ?_, fun i i0 i8 => ?_⟩, ⟨?_, ?_⟩, ⟨?_, ?_, ?_⟩, ?_, fun j j0 j1 => ?_⟩⟩, FAa', FBb'⟩
    · rw [FAa _ _ (by unfold PSt; omega)]; exact u1
    · rw [FAa _ _ (by unfold PSt; omega)]; exact u2
    · rw [FAa _ _ (by unfold PSt; omega)]; exact u3 i i0 i8
    · obtain ⟨q1, q2, q3, q4, q5, q6⟩ := u4 i i0 i8
      have ee : ∀ k, a' (31 + 7 * i) k = a (31 + 7 * i) k := fun k => FAa _ _ (by unfold PSt; omega)
      unfold LSt
      rw [ee, ee, ee, ee, ee, ee]
      exact ⟨q1, q2, q3, q4, q5, q6⟩
    · rw [v1]; omega
    · rw [v1]; omega
    · rw [v2, v23]
    · rw [v2]; omega
    · rw [v2]; omega
    · rw [FBb _ _ (by omega)]; exact e17
    · rw [v2] at j1
      rw [v1, v2]
      have ej : ((a 29 1 + 7) % 8 + 8 - (a 29 2 - 1) + j) % 8 = (a 29 1 + 8 - a 29 2 + j) % 8 := by omega
      rw [ej]
      exact Sn_fr (u0.2.2.2.2 j j0 (by omega)) (fun x k x0 x1 k0 => FAa x k (by unfold PSt; omega)) (fun x k x0 x1 k0 => FAa x k (by unfold PSt; omega)) (fun k => FBb _ _ (by omega))
