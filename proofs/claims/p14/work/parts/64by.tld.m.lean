section
/-! The calls that do something, in pairs. -/
set_option maxRecDepth 16384 in
def Hd (a : MM) : Prop := a 0 1 = 3 ∧ a 0 3 = 15 ∧ a 0 5 = 29 ∧ a 0 4 = 22
set_option maxRecDepth 16384 in
/-- what is so, and what can be undone -/
def C1 (a b : MM) : Prop := Hd a ∧ Sx a b 15 ∧ Un a b
set_option maxRecDepth 16384 in
def FA (x k : Int) : Prop := Qd 15 x k ∨ Qu x k
set_option maxRecDepth 16384 in
def FB (x k : Int) : Prop := (x = 150 ∧ 92 ≤ k) ∨ x = 153 ∨ (x = 148 ∧ (k = 0 ∨ k = 23 ∨ k = 35))
set_option maxRecDepth 16384 in
def C1p (a b a' b' : MM) : Prop := C1 a' b' ∧ Fr FA a a' ∧ Fr FB b b'
set_option maxRecDepth 16384 in
theorem Hd_fr {a a' : MM} (h : Hd a) (ha : Fr FA a a') : Hd a' := by
  obtain ⟨h1, h2, h3, h4⟩ := h
  refine ⟨?_, ?_, ?_, ?_⟩
  · rw [ha _ _ (by unfold FA Qd Qa Qu; omega)]; exact h1
  · rw [ha _ _ (by unfold FA Qd Qa Qu; omega)]; exact h2
  · rw [ha _ _ (by unfold FA Qd Qa Qu; omega)]; exact h3
  · rw [ha _ _ (by unfold FA Qd Qa Qu; omega)]; exact h4
set_option maxRecDepth 16384 in
theorem C1_0 {a b : MM} (h : C1 a b) : C1p a b a (mu b 148 0 0) := by
  refine ⟨⟨h.1, Sx_b h.2.1 (fun k => mu_a (by decide)) (mu_k (by decide)), Un_fr h.2.2 (fun _ _ _ => rfl) (fun k => mu_a (by decide)) (mu_k (by decide)) (mu_k (by decide))⟩, Fr.rf _ _, (Fr.rf _ _).mu (Or.inr (Or.inr ⟨rfl, Or.inl rfl⟩))⟩
set_option maxRecDepth 16384 in
theorem C1p.tr {a b a1 b1 a2 b2 : MM} (h1 : C1p a b a1 b1) (h2 : C1p a1 b1 a2 b2) : C1p a b a2 b2 := ⟨h2.1, h1.2.1.tr h2.2.1, h1.2.2.tr h2.2.2⟩
set_option maxRecDepth 16384 in
theorem C1p.rf {a b : MM} (h : C1 a b) : C1p a b a b := ⟨h, Fr.rf _ _, Fr.rf _ _⟩
set_option maxRecDepth 16384 in
theorem C1_keep {a b : MM} (h : C1 a b) : C1p a b (g162 a 29 15) (g276 b 148) := by
  obtain ⟨k1, k2, k3, k4⟩ := p_keep h.2.1 (Or.inl rfl) h.2.2
  have f1 : Fr FA a (g162 a 29 15) := k2.mo fun x k q => Or.inr q
  refine ⟨⟨Hd_fr h.1 f1, k4, k1⟩, f1, k3.mo fun x k q => ?_⟩
  unfold Qv at q
  unfold FB
  omega
set_option maxRecDepth 16384 in
theorem C1_Gx {a b a' b' : MM} (h : C1 a b) (g : Gx a b a' b' 15) : C1p a b a' b' := by
  obtain ⟨g1, g2, g3⟩ := g
  have f1 : Fr FA a a' := g2.mo fun x k q => Or.inl (Or.inl q)
  refine ⟨⟨Hd_fr h.1 f1, g1, Un_fr h.2.2 (fun x k q => g2 x k (by unfold Qa; omega)) (fun k => g3 _ _ (by unfold Qb; omega)) (g3 _ _ (by unfold Qb; omega)) (g3 _ _ (by unfold Qb; omega))⟩, f1, g3.mo fun x k q => Or.inl q⟩
set_option maxRecDepth 16384 in
theorem C1_Gd {a b a' b' : MM} (h : C1 a b) (g : Gd a b a' b' 15) : C1p a b a' b' := by
  obtain ⟨g1, g2, g3⟩ := g
  have f1 : Fr FA a a' := g2.mo fun x k q => Or.inl q
  refine ⟨⟨Hd_fr h.1 f1, g1.1, Un_fr h.2.2 (fun x k q => g2 x k (by unfold Qd Qa; omega)) (fun k => g3 _ _ (by unfold Qc Qb; omega)) (g3 _ _ (by unfold Qc Qb; omega)) (g3 _ _ (by unfold Qc Qb; omega))⟩, f1, g3.mo fun x k q => ?_⟩
  unfold Qc Qb at q
  unfold FB
  omega
set_option maxRecDepth 16384 in
theorem Is_fr {a a' : MM} {act x y : Int} (hi : Is a act x y) (ha : Fr FA a a') : Is a' act x y := by
  unfold Is at *
  rw [ha 3 6 (by unfold FA Qd Qa Qu; omega), ha 3 7 (by unfold FA Qd Qa Qu; omega)]
  exact hi
set_option maxRecDepth 16384 in
/-- an act that can be undone, alike -/
theorem act_pair {a b : MM} (h : C1 a b) {act x y : Int} (hi : Is a act x y) : f1 a 0 act x y = f164 b 148 act x y 1 ∧ C1p a b (g1 a 0 act x y) (g164 b 148 act x y 1) := by
  obtain ⟨h1, h2, h3, h4⟩ := h.1
  have e := q146 h.2.1 hi
  have hk := C1_keep h
  have e1 := q146 hk.1.2.1 (Is_fr hi hk.2.1)
  have s1 : Sx a (g276 b 148) 15 := by
    obtain ⟨k1, k2, k3, k4⟩ := p_keep h.2.1 (Or.inl rfl) h.2.2
    exact Sx_b h.2.1 (fun k => k3 _ _ (by unfold Qv; omega)) (k3 _ _ (by unfold Qv; omega))
  have e2 := q146 s1 hi
  unfold f1 g1 f164 g164
  rw [h2, h3, e, if_neg (show ¬ (1 : Int) = 0 by decide), if_neg (show ¬ (1 : Int) = 0 by decide)]
  by_cases c : f290 b 148 act x y = 0
  · rw [if_pos c, if_pos c, if_pos c, if_pos c]
    refine ⟨c, hk.tr (C1_Gx hk.1 ?_)⟩
    have e3 : (g162 a 29 15) 0 3 = 15 := hk.1.1.2.1
    rw [e3]
    exact p_act hk.1.2.1 (Is_fr hi hk.2.1) (by rw [e1, ← e2, e]; exact c)
  · rw [if_neg c, if_neg c, if_neg c, if_neg c]
    exact ⟨rfl, C1p.rf h⟩
set_option maxRecDepth 16384 in
theorem n10 : ¬ (1 : Int) = 0 := by decide
set_option maxRecDepth 16384 in
theorem z00 : (0 : Int) = 0 := rfl
set_option maxRecDepth 16384 in
theorem f164_no (b : MM) (act x y : Int) : f164 b 148 act x y 0 = -1 ∧ g164 b 148 act x y 0 = b := ⟨rfl, rfl⟩
set_option maxRecDepth 16384 in
/-- of two persons, or of a person and a form -/
theorem sign_pair {a b : MM} (h : C1 a b) (x y : Int) : f33 a 0 x y = f272 b 148 x y ∧ C1p a b (g33 a 0 x y) (g272 b 148 x y) := by
  have h0 := C1_0 h
  unfold f33 g33 f272 g272
  rw [h.1.1, q73 h0.1.2.1, q72 h0.1.2.1]
  have i1 := i73 h.2.1 x
  have i2 := i72 h.2.1 y
  rw [q73 h0.1.2.1] at i1
  rw [q72 h0.1.2.1] at i2
  revert h0 i1 i2
  generalize mu b 148 0 0 = b1
  intro h0 i1 i2
  rcases i1 with ⟨c, d⟩ | ⟨c, d1, d2⟩
  · rw [c]; simp only [if_pos z00]
    exact ⟨rfl, h0⟩
  · rw [c]; simp only [if_neg n10]
    rcases i2 with ⟨c2, d3⟩ | ⟨c2, d3, d4⟩
    · rw [c2]; simp only [if_pos z00]
      exact ⟨rfl, h0⟩
    · rw [c2]; simp only [if_neg n10]
      obtain ⟨k1, k2⟩ := act_pair h0.1 (act := 0) (x := x) (y := y) (Or.inl ⟨rfl, d1, d2, d3, d4⟩)
      exact ⟨k1, h0.tr k2⟩
set_option maxRecDepth 16384 in
theorem two_pair {a b : MM} (h : C1 a b) {act : Int} (ha : act = 1 ∨ act = 2) (x y : Int) : (if (f73 a (a 0 1) x) = 0 then -1 else (if (f73 a (a 0 1) y) = 0 then -1 else f1 a 0 act x y)) = (if (f213 (mu b 148 0 0) 148 x) = 0 then f164 (mu b 148 0 0) 148 act x y 0 else (if (f213 (mu b 148 0 0) 148 y) = 0 then f164 (mu b 148 0 0) 148 act x y 0 else f164 (mu b 148 0 0) 148 act x y 1)) ∧ C1p a b (if (f73 a (a 0 1) x) = 0 then a else (if (f73 a (a 0 1) y) = 0 then a else g1 a 0 act x y)) (if (f213 (mu b 148 0 0) 148 x) = 0 then g164 (mu b 148 0 0) 148 act x y 0 else (if (f213 (mu b 148 0 0) 148 y) = 0 then g164 (mu b 148 0 0) 148 act x y 0 else g164 (mu b 148 0 0) 148 act x y 1)) := by
  have h0 := C1_0 h
  rw [h.1.1, q73 h0.1.2.1, q73 h0.1.2.1]
  have i1 := i73 h.2.1 x
  have i2 := i73 h.2.1 y
  rw [q73 h0.1.2.1] at i1 i2
  revert h0 i1 i2
  generalize mu b 148 0 0 = b1
  intro h0 i1 i2
  rcases i1 with ⟨c, d⟩ | ⟨c, d1, d2⟩
  · rw [c]; simp only [if_pos z00]
    exact ⟨rfl, h0⟩
  · rw [c]; simp only [if_neg n10]
    rcases i2 with ⟨c2, d3⟩ | ⟨c2, d3, d4⟩
    · rw [c2]; simp only [if_pos z00]
      exact ⟨rfl, h0⟩
    · rw [c2]; simp only [if_neg n10]
      obtain ⟨k1, k2⟩ := act_pair h0.1 (act := act) (x := x) (y := y) (Or.inr (Or.inl ⟨ha, d1, d2, d3, d4⟩))
      exact ⟨k1, h0.tr k2⟩
set_option maxRecDepth 16384 in
theorem soften_pair {a b : MM} (h : C1 a b) (x y : Int) : f34 a 0 x y = f277 b 148 x y ∧ C1p a b (g34 a 0 x y) (g277 b 148 x y) := two_pair h (Or.inl rfl) x y
set_option maxRecDepth 16384 in
theorem resent_pair {a b : MM} (h : C1 a b) (x y : Int) : f27 a 0 x y = f264 b 148 x y ∧ C1p a b (g27 a 0 x y) (g264 b 148 x y) := two_pair h (Or.inr rfl) x y
set_option maxRecDepth 16384 in
theorem one_pair {a b : MM} (h : C1 a b) {act : Int} (ha : act = 3 ∨ act = 4) (x : Int) : (if (f73 a (a 0 1) x) = 0 then -1 else f1 a 0 act x 0) = f164 (mu b 148 0 0) 148 act x 0 (f213 (mu b 148 0 0) 148 x) ∧ C1p a b (if (f73 a (a 0 1) x) = 0 then a else g1 a 0 act x 0) (g164 (mu b 148 0 0) 148 act x 0 (f213 (mu b 148 0 0) 148 x)) := by
  have h0 := C1_0 h
  rw [h.1.1, q73 h0.1.2.1]
  have i1 := i73 h.2.1 x
  rw [q73 h0.1.2.1] at i1
  revert h0 i1
  generalize mu b 148 0 0 = b1
  intro h0 i1
  rcases i1 with ⟨c, d⟩ | ⟨c, d1, d2⟩
  · rw [c]; simp only [if_pos z00]
    exact ⟨rfl, h0⟩
  · rw [c]; simp only [if_neg n10]
    obtain ⟨k1, k2⟩ := act_pair h0.1 (act := act) (x := x) (y := 0) (Or.inr (Or.inr (Or.inl ⟨ha, d1, d2⟩)))
    exact ⟨k1, h0.tr k2⟩
set_option maxRecDepth 16384 in
theorem retire_pair {a b : MM} (h : C1 a b) (x : Int) : f29 a 0 x = f266 b 148 x ∧ C1p a b (g29 a 0 x) (g266 b 148 x) := one_pair h (Or.inl rfl) x
set_option maxRecDepth 16384 in
theorem back_pair {a b : MM} (h : C1 a b) (x : Int) : f2 a 0 x = f167 b 148 x ∧ C1p a b (g2 a 0 x) (g167 b 148 x) := one_pair h (Or.inr rfl) x
set_option maxRecDepth 16384 in
theorem onf_pair {a b : MM} (h : C1 a b) {act : Int} (ha : act = 5 ∨ act = 6) (x : Int) : (if (f72 a (a 0 1) x) = 0 then -1 else f1 a 0 act x 0) = f164 (mu b 148 0 0) 148 act x 0 (f208 (mu b 148 0 0) 148 x) ∧ C1p a b (if (f72 a (a 0 1) x) = 0 then a else g1 a 0 act x 0) (g164 (mu b 148 0 0) 148 act x 0 (f208 (mu b 148 0 0) 148 x)) := by
  have h0 := C1_0 h
  rw [h.1.1, q72 h0.1.2.1]
  have i1 := i72 h.2.1 x
  rw [q72 h0.1.2.1] at i1
  revert h0 i1
  generalize mu b 148 0 0 = b1
  intro h0 i1
  rcases i1 with ⟨c, d⟩ | ⟨c, d1, d2⟩
  · rw [c]; simp only [if_pos z00]
    exact ⟨rfl, h0⟩
  · rw [c]; simp only [if_neg n10]
    obtain ⟨k1, k2⟩ := act_pair h0.1 (act := act) (x := x) (y := 0) (Or.inr (Or.inr (Or.inr ⟨ha, d1, d2⟩)))
    exact ⟨k1, h0.tr k2⟩
set_option maxRecDepth 16384 in
theorem cancel_pair {a b : MM} (h : C1 a b) (x : Int) : f6 a 0 x = f175 b 148 x ∧ C1p a b (g6 a 0 x) (g175 b 148 x) := onf_pair h (Or.inl rfl) x
set_option maxRecDepth 16384 in
theorem lodge_pair {a b : MM} (h : C1 a b) (x : Int) : f19 a 0 x = f223 b 148 x ∧ C1p a b (g19 a 0 x) (g223 b 148 x) := onf_pair h (Or.inr rfl) x
set_option maxRecDepth 16384 in
/-- days that go by -/
theorem days_pair {a b : MM} (h : C1 a b) (n : Int) : f10 a 0 n = f180 b 148 n ∧ C1p a b (g10 a 0 n) (g180 b 148 n) := by
  have h0 := C1_0 h
  obtain ⟨h1, h2, h3, h4⟩ := h.1
  have hd := h0.1.2.1.day
  unfold f10 g10 f180 g180
  rw [h0.1.2.1.bn, ← hd.1, h2]
  have e9 : f209 (mu b 148 0 0) n 1 60 = if n < 1 then 0 else if 60 < n then 0 else 1 := rfl
  rw [e9]
  revert h0 e9
  generalize mu b 148 0 0 = b1
  intro h0 _
  rw [s32_id (z := 400 - a 15 8) (by omega) (by omega)]
  by_cases c : n < 1
  · simp only [if_pos c, if_pos z00]
    exact ⟨by simp, by simpa using h0⟩
  · simp only [if_neg c]
    by_cases c2 : n ≤ 60
    · have c2' : ¬ 60 < n := by omega
      simp only [if_pos c2, if_neg c2', if_neg n10]
      by_cases c3 : a 15 8 = 400
      · have j0 : jmin n (400 - a 15 8) = 0 := by
          unfold jmin
          rw [if_pos (by omega)]
          omega
        have l0 : (0 : Int) ≤ 0 := by decide
        simp only [j0, if_pos l0, if_pos c3]
        exact ⟨by simp, by simpa using h0⟩
      · simp only [if_neg c3]
        have hk := C1_keep h0.1
        have hkd : (g162 a 29 15) 15 8 = a 15 8 := by
          obtain ⟨k1, k2, k3, k4⟩ := p_keep h.2.1 (Or.inl rfl) h.2.2
          exact k2 _ _ (by unfold Qu; omega)
        have hb8 := hk.1.2.1.day
        have hj : 0 < jmin n (400 - a 15 8) ∧ jmin n (400 - a 15 8) ≤ 400 - a 15 8 ∧ jmin n (400 - a 15 8) = f220 (g276 b1 148) n (400 - a 15 8) := by
          unfold jmin f220
          split <;> split <;> omega
        unfold f237 g237
        rw [hk.1.2.1.bn, ← hb8.1, hkd, s32_id (z := 400 - a 15 8) (by omega) (by omega), ← hj.2.2]
        revert hj
        generalize jmin n (400 - a 15 8) = k
        intro hj
        have l1 : ¬ k ≤ 0 := by omega
        simp only [if_neg l1]
        have e7 : f146 a 15 7 k 0 = 0 := by
          show (if k ≤ (s32 (400 - (a 15 8))) then 0 else 1) = 0
          rw [s32_id (z := 400 - a 15 8) (by omega) (by omega), if_pos hj.2.1]
        unfold g1
        rw [h2, h3, e7, if_pos rfl]
        have e3 : (g162 a 29 15) 0 3 = 15 := hk.1.1.2.1
        rw [e3, g135_7]
        refine ⟨by simp, h0.tr (hk.tr (C1_Gx hk.1 (p_days hk.1.2.1 (by omega) (by rw [hkd]; exact hj.2.1))))⟩
    · have c2' : 60 < n := by omega
      simp only [if_neg c2, if_pos c2', if_pos z00]
      exact ⟨by simp, by simpa using h0⟩
set_option maxRecDepth 16384 in
/-- days drawn -/
theorem drawn_pair {a b : MM} (h : C1 a b) (n x : Int) : f11 a 0 n x = f184 b 148 n x ∧ C1p a b (g11 a 0 n x) (g184 b 148 n x) := by
  have h0 := C1_0 h
  obtain ⟨h1, h2, h3, h4⟩ := h.1
  have hd := h0.1.2.1.day
  have hp := h0.1.2.1.p
  unfold f11 g11 f184 g184
  rw [h0.1.2.1.bn, ← hd.1, ← hp.1, h1, h2, h3]
  have e9 : f209 (mu b 148 0 0) n 1 60 = if n < 1 then 0 else if 60 < n then 0 else 1 := rfl
  rw [e9]
  revert h0 e9
  generalize mu b 148 0 0 = b1
  intro h0 _
  by_cases c : n < 1
  · simp only [if_pos c, if_pos z00]
    exact ⟨by simp, by simpa using h0⟩
  · simp only [if_neg c]
    by_cases c2 : 60 < n
    · simp only [if_pos c2, if_pos z00]
      exact ⟨by simp, by simpa using h0⟩
    · simp only [if_neg c2, if_neg n10]
      by_cases c3 : a 3 6 = 0
      · simp only [if_pos c3]
        exact ⟨by simp, by simpa using h0⟩
      · simp only [if_neg c3]
        by_cases c4 : a 15 8 = 400
        · have l4 : ¬ a 15 8 < 400 := by omega
          simp only [if_pos c4, if_neg l4]
          exact ⟨by simp, by simpa using h0⟩
        · have l4 : a 15 8 < 400 := by omega
          simp only [if_neg c4, if_pos l4]
          have hk := C1_keep h0.1
          have e3 : (g162 a 29 15) 0 3 = 15 := hk.1.1.2.1
          rw [e3]
          obtain ⟨k1, k2⟩ := p_draws hk.1.2.1 (n := n) (x := x) (by omega) (by omega)
          exact ⟨k1, h0.tr (hk.tr (C1_Gd hk.1 k2))⟩
end
section
/-! Undone alike. -/
set_option maxRecDepth 16384 in
theorem L288_ok {b : MM} {c : Int} (h17 : b 148 17 = 153) (h14 : b 148 14 = 150) (h23 : b 148 23 = c) (c0 : 0 ≤ c) (c8 : c < 8) : L288_26 b 148 0 = (1, 0, (122, fm b 150 (92 + 0) (92 + 122) (fun j => s32 (b 153 (122 * c + (j - 92)))))) := by
  unfold L288_26
  refine Lp_fill (f := K288_26 b 148 0) (i0 := 0) (n := 122) (base := 92) (d := 150) (by decide) (fun i i0 i1 => ?_) ?_
  · show S288_26 (fm b 150 (92 + 0) (92 + i) (fun j => s32 (b 153 (122 * c + (j - 92))))) 148 i = _
    unfold S288_26
    rw [if_neg (by omega), fm_n (b := 148) (by decide), fm_n (b := 148) (by decide), fm_n (b := 148) (by decide), h17, h14, h23, s32_id (z := 122 * c) (by omega) (by omega), s32_id (z := 122 * c + i) (by omega) (by omega), s32_id (z := 92 + i) (by omega) (by omega), s32_id (z := i + 1) (by omega) (by omega), fm_n (b := 153) (by decide)]
    have e : b 153 (122 * c + i) = b 153 (122 * c + (92 + i - 92)) := by congr 1; omega
    rw [e]
  · show S288_26 (fm b 150 (92 + 0) (92 + 122) (fun j => s32 (b 153 (122 * c + (j - 92))))) 148 122 = _
    unfold S288_26
    rw [if_pos (by decide)]
set_option maxRecDepth 16384 in
theorem g163_ok {a b : MM} (u : Un a b) (hs : LSt a 15) : (a 29 2 = 0 ∧ f163 a 29 15 = -1 ∧ g163 a 29 15 = a) ∨ (0 < a 29 2 ∧ f163 a 29 15 = a 29 2 - 1 ∧ g163 a 29 15 = mu (mu (g113 a 15 (31 + 7 * ((a 29 1 + 7) % 8))) 29 1 ((a 29 1 + 7) % 8)) 29 2 (a 29 2 - 1)) := by
  have u' := u
  obtain ⟨⟨u1, u2, u3, u4⟩, ⟨u5, u6⟩, ⟨u7, u8, u9⟩, u10, u11⟩ := u
  have x8 : s32 (8 - 1) = 7 := s32_id (by decide) (by decide)
  have x1 : s32 (a 29 1 - 1) = a 29 1 - 1 := s32_id (by omega) (by omega)
  have x2 : s32 (a 29 2 - 1) = a 29 2 - 1 := s32_id (by omega) (by omega)
  have z7 : ¬ (7 : Int) < 0 := by decide
  have z8 : (7 : Int) < 8 := by decide
  by_cases c : a 29 2 ≤ 0
  · left
    refine ⟨by omega, ?_, ?_⟩
    · unfold f163
      simp only [if_pos c]
      split <;> rfl
    · unfold g163
      simp only [if_pos c]
      split <;> rfl
  · right
    have e : ∀ i, 0 ≤ i → i < 8 → (g113 a 15 (31 + 7 * i)) 29 2 = a 29 2 := fun i i0 i8 => (c113 (m := a) (x := 15) (y := 31 + 7 * i) hs (u4 i i0 i8) (by omega)).1 29 2 (by unfold PSt; omega)
    unfold f163 g163
    rw [Un_ln u1 u2, x8, x1]
    by_cases d : a 29 1 ≤ 0
    · simp only [if_pos d, if_neg c, if_neg z7, if_pos z8]
      rw [Un_el u' 7 (by decide) (by decide)]
      have e7 : (a 29 1 + 7) % 8 = 7 := by omega
      rw [e7, mu_k (j := 2) (k := 1) (by decide), e 7 (by decide) (by decide), x2, mu_s]
      exact ⟨by omega, rfl, rfl⟩
    · have d1 : ¬ a 29 1 - 1 < 0 := by omega
      have d2 : a 29 1 - 1 < 8 := by omega
      simp only [if_neg d, if_neg c, if_neg d1, if_pos d2]
      rw [Un_el u' (a 29 1 - 1) (by omega) (by omega)]
      have e7 : (a 29 1 + 7) % 8 = a 29 1 - 1 := by omega
      rw [e7, mu_k (j := 2) (k := 1) (by decide), e (a 29 1 - 1) (by omega) (by omega), x2, mu_s]
      exact ⟨by omega, rfl, rfl⟩
set_option maxRecDepth 16384 in
theorem undo_pair {a b : MM} (h : C1 a b) : f37 a 0 = f288 b 148 ∧ C1p a b (g37 a 0) (g288 b 148) := by
  have h0 := C1_0 h
  have hh := h
  obtain ⟨⟨h1, h2, h3, h4⟩, hS, u⟩ := h
  have u0 := h0.1.2.2
  have u' := u
  obtain ⟨hf, hf0, hf8⟩ := hS.f
  unfold f37 g37 f288 g288
  rw [h2, h3]
  have e23 : (mu b 148 0 0) 148 23 = a 29 2 := by rw [mu_k (by decide)]; exact u.2.2.1.1.symm
  have e17 : (mu b 148 0 0) 148 17 = 153 := u0.2.2.2.1
  have e14 := h0.1.2.1.bn
  rw [e23]
  revert h0 u0 e17 e14 e23
  generalize mu b 148 0 0 = b1
  intro h0 u0 e23 e17 e14
  rcases g163_ok u hS.1.2.1 with ⟨c, f1, g1⟩ | ⟨c, f1, g1⟩
  · rw [f1, g1, if_pos c, if_pos c]
    exact ⟨rfl, h0⟩
  · rw [f1, g1, if_neg (show ¬ a 29 2 = 0 by omega), if_neg (show ¬ a 29 2 = 0 by omega)]
    obtain ⟨⟨u1, u2, u3, u4⟩, ⟨u5, u6⟩, ⟨u7, u8, u9⟩, u10, u11⟩ := u
    rw [s32_id (z := a 29 2 - 1) (by omega) (by omega)]
    have w17 : (mu b1 148 23 (a 29 2 - 1)) 148 17 = 153 := by rw [mu_k (by decide)]; exact e17
    have w14 : (mu b1 148 23 (a 29 2 - 1)) 148 14 = 150 := by rw [mu_k (by decide)]; exact e14
    rw [L288_ok (c := a 29 2 - 1) w17 w14 (mu_s _ _ _ _) (by omega) (by omega)]
    dsimp only
    rw [fm_n (b := 148) (by decide), mu_s]
    refine ⟨rfl, h0.tr ?_⟩
    have hq := u0.2.2.2.2 (a 29 2 - 1) (by omega) (by omega)
    have eq : (a 29 1 + 8 - a 29 2 + (a 29 2 - 1)) % 8 = (a 29 1 + 7) % 8 := by omega
    rw [eq] at hq
    obtain ⟨f1, ⟨f2, f3⟩, f4, f5, f6⟩ := c113 (m := a) (x := 15) (y := 31 + 7 * ((a 29 1 + 7) % 8)) hS.1.2.1 (u4 _ (by omega) (by omega)) (by omega)
    revert f1 f2 f3 f4 f5 f6
    generalize g113 a 15 (31 + 7 * ((a 29 1 + 7) % 8)) = m1
    intro f1 f2 f3 f4 f5 f6
    have FAa : Fr (fun x k => PSt 15 x k ∨ (x = 29 ∧ (k = 1 ∨ k = 2))) a (mu (mu m1 29 1 ((a 29 1 + 7) % 8)) 29 2 (a 29 2 - 1)) := ((f1.mo fun x k q => Or.inl q).mu (Or.inr ⟨rfl, Or.inl rfl⟩)).mu (Or.inr ⟨rfl, Or.inr rfl⟩)
    have FBb : Fr (fun x k => (x = 150 ∧ 92 ≤ k) ∨ (x = 148 ∧ k = 23)) b1 (fm (mu b1 148 23 (a 29 2 - 1)) 150 (92 + 0) (92 + 122) (fun j => s32 ((mu b1 148 23 (a 29 2 - 1)) 153 (122 * (a 29 2 - 1) + (j - 92))))) := ((Fr.rf _ _).mu (Or.inr ⟨rfl, rfl⟩)).fl fun j j0 j1 => Or.inl ⟨rfl, by omega⟩
    have v29 : (mu (mu m1 29 1 ((a 29 1 + 7) % 8)) 29 2 (a 29 2 - 1)) 29 1 = (a 29 1 + 7) % 8 ∧ (mu (mu m1 29 1 ((a 29 1 + 7) % 8)) 29 2 (a 29 2 - 1)) 29 2 = a 29 2 - 1 := ⟨by rw [mu_k (by decide), mu_s], mu_s _ _ _ _⟩
    have vx : ∀ x k, x < 29 → (mu (mu m1 29 1 ((a 29 1 + 7) % 8)) 29 2 (a 29 2 - 1)) x k = m1 x k := fun x k hx => by rw [mu_a (by omega), mu_a (by omega)]
    have vb : ∀ k, 92 ≤ k → k < 214 → (fm (mu b1 148 23 (a 29 2 - 1)) 150 (92 + 0) (92 + 122) (fun j => s32 ((mu b1 148 23 (a 29 2 - 1)) 153 (122 * (a 29 2 - 1) + (j - 92))))) 150 k = s32 (b1 153 (122 * (a 29 2 - 1) + (k - 92))) := fun k k0 k1 => by rw [fm_i (by omega) (by omega), mu_a (by decide)]
    have v23 : (fm (mu b1 148 23 (a 29 2 - 1)) 150 (92 + 0) (92 + 122) (fun j => s32 ((mu b1 148 23 (a 29 2 - 1)) 153 (122 * (a 29 2 - 1) + (j - 92))))) 148 23 = a 29 2 - 1 := by rw [fm_n (by decide), mu_s]
    revert FAa FBb v29 vx vb v23
    generalize (mu (mu m1 29 1 ((a 29 1 + 7) % 8)) 29 2 (a 29 2 - 1)) = a'
    generalize (fm (mu b1 148 23 (a 29 2 - 1)) 150 (92 + 0) (92 + 122) (fun j => s32 ((mu b1 148 23 (a 29 2 - 1)) 153 (122 * (a 29 2 - 1) + (j - 92))))) = b'
    intro FAa FBb ⟨v1, v2⟩ vx vb v23
    have FAa' : Fr FA a a' := FAa.mo fun x k q => by
      rcases q with q | q
      · refine Or.inl (Or.inl ?_)
        unfold PSt at q
        unfold Qa
        omega
      · exact Or.inr (Or.inl q)
    have FBb' : Fr FB b1 b' := FBb.mo fun x k q => by
      unfold FB
      omega
    have hn : Sn a' b' 3 15 150 0 := by
      refine Sn_cp hq (FAa 3 7 (by unfold PSt; omega)) hf8 (fun f f0 f1 => (hS.sp f0 f1).2) (fun f f0 f1 => ⟨FAa _ _ (by unfold PSt; omega), FAa _ _ (by unfold PSt; omega)⟩) ⟨?_, ?_⟩ (fun k k0 k1 => ?_) (fun i k i0 i1 k0 k1 => ?_) (fun k k0 k1 => ?_) (fun k k0 k1 => Or.inr ?_)
      · rw [vx _ _ (by decide)]; exact f2
      · rw [vx _ _ (by decide)]; exact f3
      · rw [vx _ _ (by decide)]; exact f4 k k0 k1
      · rw [vx _ _ (by omega)]; exact f5 i k i0 i1 k0 k1
      · rw [vx _ _ (by decide)]; exact f6 k k0 k1
      · rw [Int.zero_add, vb k k0 k1]
        congr 2
        omega
    have hS' : Sx a' b' 15 := Sx_mk h0.1.2.1 (fun x k _ hx _ => FAa x k (by unfold PSt; omega)) (fun k k0 k1 => FAa _ _ (by unfold PSt; omega)) (FAa _ _ (by unfold PSt; omega)) (FBb _ _ (by omega)) (fun k k0 k1 => FBb _ _ (by omega)) hn
    refine ⟨⟨Hd_fr hh.1 FAa', hS', ⟨⟨?_, ?_, fun i i0 i8 => ?_, fun i i0 i8 => ?_⟩, ⟨?_, ?_⟩, ⟨?_, ?_, ?_⟩, ?_, fun j j0 j1 => ?_⟩⟩, FAa', FBb'⟩
    · rw [FAa _ _ (by unfold PSt; omega)]; exact u1
    · rw [FAa _ _ (by unfold PSt; omega)]; exact u2
    · rw [FAa _ _ (by unfold PSt; omega)]; exact u3 i i0 i8
    · obtain ⟨q1, q2, q3, q4, q5, q6⟩ := u4 i i0 i8
      have ee : ∀ k, a' (31 + 7 * i) k = a (31 + 7 * i) k := fun k => FAa _ _ (by unfold PSt; omega)
      unfold LSt
      rw [ee, ee, ee, ee, ee, ee]
      exact ⟨q1, q2, q3, q4, q5, q6⟩
    · rw [v1]; omega
    · rw [v1]; omega
    · rw [v2, v23]
    · rw [v2]; omega
    · rw [v2]; omega
    · rw [FBb _ _ (by omega)]; exact e17
    · rw [v2] at j1
      rw [v1, v2]
      have ej : ((a 29 1 + 7) % 8 + 8 - (a 29 2 - 1) + j) % 8 = (a 29 1 + 8 - a 29 2 + j) % 8 := by omega
      rw [ej]
      exact Sn_fr (u0.2.2.2.2 j j0 (by omega)) (fun x k x0 x1 k0 => FAa x k (by unfold PSt; omega)) (fun x k x0 x1 k0 => FAa x k (by unfold PSt; omega)) (fun k => FBb _ _ (by omega))
end
