/-! A book's line, all of it. -/
set_option maxRecDepth 16384 in
theorem word_one {b : MM} {i j : Nat} (hi : i < 30) (hj : j < 30) (h1 : f217 b 148 (i : Int) ≠ 0) (h2 : f217 b 148 (j : Int) ≠ 0) : i = j := by
  have key : ∀ k : Nat, k < 30 → f217 b 148 (k : Int) ≠ 0 → b 148 12 = p27 (wl k) := fun k hk h => by
    unfold f217 at h
    rw [f291_w b k hk] at h
    by_cases c7 : b 148 7 = 2
    · by_cases e : b 148 12 = p27 (wl k)
      · exact e
      · by_cases d : p27 (wl k) < b 148 12
        · simp [c7, d] at h
        · simp [c7, d, e] at h
    · simp [c7] at h
  have e := (key i hi h1).symm.trans (key j hj h2)
  have w1 := wl_ok i hi
  have w2 := wl_ok j hj
  have N1 : NRel (p32 (wl i)) (p27 (wl i)) := ⟨_, w1.1, w1.2.1, w1.2.2, rfl, rfl⟩
  have N2 : NRel (p32 (wl j)) (p27 (wl j)) := ⟨_, w2.1, w2.2.1, w2.2.2, rfl, rfl⟩
  exact wl_inj _ _ hi hj (p32_inj _ _ w1.1 w2.1 ((NRel_iff N1 N2).mpr e))
set_option maxRecDepth 16384 in
theorem beginT {X : KO} {ρ : Nat → Int32} {t : Int → Int} {L : Int} {a m b : MM} {v act : Int} (h : BS X t L a b) (c0 : 0 ≤ a 96 3) (ra : Run X ρ 45 [(1, 96), (1, 1), (1, act)] a [(1, v)] m) : (40 ≤ a 96 3 ∧ v = 0 ∧ m = g158 a 1 4) ∨ (a 96 3 < 40 ∧ v = 1 ∧ Run X ρ 148 [(1, 1)] (mu (mu a 97 (a 96 3) (s32 act)) 99 (a 96 3) 0) [] m) := by
  obtain ⟨N, ig, ra⟩ := Run_CR ra rfl
  have ra : MR X ρ 3 0 0 qP45 N 0 [96, 1, act] [] a (ig, [(1, v)], m) := ra
  rcases k45_0 ra with ⟨c, -⟩ | ⟨-, A⟩
  · omega
  · rcases A with ⟨c, y9, e9, y10, e10, m12, r12, A⟩ | ⟨c, y, e, A⟩
    · cases A
      have x0 : a 96 0 = 97 := h.2.2.1.1
      have x2 : y9 96 2 = 99 := by rw [e9, x0, mu_a (by decide)]; exact h.2.2.1.2.2.1
      have x3 : y9 96 3 = a 96 3 := by rw [e9, x0, mu_a (by decide)]
      rw [x2, x3, e9, x0, s32_0] at e10
      rw [e10] at r12
      exact Or.inr ⟨c, rfl, r12⟩
    · have A : (ig, [(1, v)], m) = ((.ireturn, [(1, 0)], y) : Instr × List (Nat × Int) × MM) := A
      cases A
      exact Or.inl ⟨by omega, rfl, e⟩
set_option maxRecDepth 16384 in
/-- the line begun, on both sides -/
theorem headT {X : KO} {ρ : Nat → Int32} {t : Int → Int} {L : Int} {a m25 b : MM} {v act b1 b2 b3 b5 : Int} {M : Nat} {o : Instr × List (Nat × Int) × MM} (hX : XW X) (h : BS X t L a b) (c0 : 0 ≤ a 96 3) (c40 : a 96 3 ≤ 40) (e38 : b 148 38 = a 96 3) (hk : a 1 4 ≠ 4) (hact : (act = 5 ∧ b1 ≠ 0) ∨ (act = 6 ∧ b1 = 0 ∧ b2 ≠ 0) ∨ (act = 7 ∧ b1 = 0 ∧ b2 = 0)) (ra : Run X ρ 45 [(1, 96), (1, 1), (1, act)] a [(1, v)] m25) (rb : MR X ρ 6 0 0 qP241 M 86 [148, b1, b2, b3, 0, b5] [] b o) : (v = 0 ∧ FL m25 o.2.2 ∧ o.2.1 = [(1, 0)] ∧ Fr WA a m25 ∧ Fr WB b o.2.2) ∨ (v = 1 ∧ a 96 3 < 40 ∧ ∃ (m5 : MM) (M' : Nat), MR X ρ 6 0 0 qP241 M' 185 [148, b1, b2, b3, 0, 3 * a 96 3] [] m5 o ∧ BS X t L m25 m5 ∧ m25 97 (a 96 3) = act ∧ m5 164 (3 * a 96 3) = act ∧ m25 99 (a 96 3) = 0 ∧ m5 164 (3 * a 96 3 + 2) = 0 ∧ Fr (Va (a 96 3)) a m25 ∧ Fr (Vb (a 96 3)) b m5 ∧ m25 96 3 = a 96 3) := by
  have B := k241_86 rb
  rw [e38, h.2.2.2] at B
  rcases beginT h c0 ra with ⟨c, e1, e2⟩ | ⟨c, e1, r12⟩
  · rcases B with ⟨-, y, ey, B⟩ | ⟨d, -⟩
    · rw [f168_0] at B
      rw [B]
      refine Or.inl ⟨e1, ?_, rfl, ?_, ?_⟩
      · rw [e2, ey]; exact bad_ok h.1.1.2 (by decide) (Or.inr hk)
      · rw [e2]; exact PT_wa (Fr_158 _ _)
      · rw [ey]; exact PM_wb (Fr_168 _ _)
    · omega
  · rcases B with ⟨d, -⟩ | ⟨-, B⟩
    · omega
    · right
      have B : ∃ (M' : Nat), MR X ρ 6 0 0 qP241 M' 135 [148, b1, b2, b3, 0, 3 * a 96 3] [] (mu b 164 (3 * a 96 3) act) o := by
        have x3 : s32 (3 * a 96 3) = 3 * a 96 3 := s32_id (by omega) (by omega)
        have x5 : s32 5 = 5 := s32_id (by decide) (by decide)
        have x6 : s32 6 = 6 := s32_id (by decide) (by decide)
        have x7 : s32 7 = 7 := s32_id (by decide) (by decide)
        rw [x3, x5, x6, x7] at B
        rcases hact with ⟨q1, q2⟩ | ⟨q1, q2, q3⟩ | ⟨q1, q2, q3⟩
        · rcases B with ⟨d, -⟩ | ⟨-, y, ey, B⟩
          · exact absurd d q2
          · rw [q1, ← ey]; exact ⟨_, B⟩
        · rcases B with ⟨-, B⟩ | ⟨d, -⟩
          · rcases B with ⟨d, -⟩ | ⟨-, y, ey, B⟩
            · exact absurd d q3
            · rw [q1, ← ey]; exact ⟨_, B⟩
          · exact absurd q2 d
        · rcases B with ⟨-, B⟩ | ⟨d, -⟩
          · rcases B with ⟨-, y, ey, B⟩ | ⟨d, -⟩
            · rw [q1, ← ey]; exact ⟨_, B⟩
            · exact absurd q3 d
          · exact absurd q2 d
      obtain ⟨M1, B⟩ := B
      rcases k241_135 B with ⟨-, y2, e2, y3, e3, m5, r5, B⟩ | ⟨d, -⟩
      · have w36 : (mu b 164 (3 * a 96 3) act) 148 36 = 164 := by rw [mu_a (by decide)]; exact h.2.2.2
        have w36' : y2 148 36 = 164 := by rw [e2, w36, mu_a (by decide)]; exact w36
        rw [w36] at e2
        have x1 : s32 (3 * a 96 3 + 1) = 3 * a 96 3 + 1 := s32_id (by omega) (by omega)
        have x2 : s32 (3 * a 96 3 + 2) = 3 * a 96 3 + 2 := s32_id (by omega) (by omega)
        rw [x1, s32_0] at e2
        rw [w36', x2, s32_0, e2] at e3
        rw [e3] at r5
        have xa : s32 act = act := s32_id (by omega) (by omega)
        rw [xa] at r12
        have fy : Fr (fun x k => 97 ≤ x ∧ x ≤ 99 ∧ 0 ≤ k) a (mu (mu a 97 (a 96 3) act) 99 (a 96 3) 0) := ((Fr.rf _ _).mu ⟨by decide, by decide, c0⟩).mu ⟨by decide, by decide, c0⟩
        have fz : Fr (fun x k => (x = 164 ∧ 0 ≤ k) ∨ (x = 148 ∧ k = 13)) b (mu (mu (mu b 164 (3 * a 96 3) act) 164 (3 * a 96 3 + 1) 0) 164 (3 * a 96 3 + 2) 0) := (((Fr.rf _ _).mu (Or.inl ⟨rfl, by omega⟩)).mu (Or.inl ⟨rfl, by omega⟩)).mu (Or.inl ⟨rfl, by omega⟩)
        obtain ⟨s, f1, f2, fa, fb⟩ := stepT hX h fy fz r12 r5
        have fy2 : Fr (Va (a 96 3)) a (mu (mu a 97 (a 96 3) act) 99 (a 96 3) 0) := ((Fr.rf _ _).mu (Or.inr ⟨Or.inl rfl, rfl⟩)).mu (Or.inr ⟨Or.inr (Or.inr rfl), rfl⟩)
        have fz2 : Fr (Vb (a 96 3)) b (mu (mu (mu b 164 (3 * a 96 3) act) 164 (3 * a 96 3 + 1) 0) 164 (3 * a 96 3 + 2) 0) := (((Fr.rf _ _).mu (Or.inr ⟨rfl, by omega, by omega⟩)).mu (Or.inr ⟨rfl, by omega, by omega⟩)).mu (Or.inr ⟨rfl, by omega, by omega⟩)
        refine ⟨e1, c, m5, _, B, s, ?_, ?_, ?_, ?_, fy2.tr (f1.mo fun x k q => Or.inl ⟨q.1, q.2.1⟩), fz2.tr (f2.mo fun x k q => by unfold P195 at q; unfold Vb; omega), ?_⟩
        · rw [f1 _ _ (by unfold P148; omega), mu_a (by decide), mu_s]
        · rw [f2 _ _ (by unfold P195; omega), mu_k (by omega), mu_k (by omega), mu_s]
        · rw [f1 _ _ (by unfold P148; omega), mu_s]
        · rw [f2 _ _ (by unfold P195; omega), mu_s]
        · rw [f1 _ _ (by unfold P148; omega), mu_a (by decide), mu_a (by decide)]
      · exact absurd rfl d
set_option maxRecDepth 16384 in
/-- the line's end -/
theorem endT {X : KO} {ρ : Nat → Int32} {t : Int → Int} {L : Int} {a a' b b' : MM} {v w : Int} (hX : XW X) (h : BS X t L a b) (c0 : 0 ≤ a 96 3) (c1 : a 96 3 < 40) (ra : Run X ρ 46 [(1, 96), (1, 1)] a [(1, v)] a') (rb : Run X ρ 245 [(1, 148)] b [(1, w)] b') : Fr (fun x k => (x = 1 ∧ 3 ≤ k) ∨ (x = 96 ∧ k = 3)) a a' ∧ Fr PM b b' ∧ ((v = 0 ∧ w = 0 ∧ FL a' b') ∨ (v = 1 ∧ w = 1 ∧ BS X t L a' b' ∧ a' 96 3 = a 96 3 + 1)) := by
  obtain ⟨N, ig, ra⟩ := Run_CR ra rfl
  have ra : MR X ρ 2 0 0 qP46 N 0 [96, 1] [] a (ig, [(1, v)], a') := ra
  obtain ⟨y1, e1, v5, m3, r3, -, A⟩ := k46_0 ra
  cases A
  rw [s32_id (z := a 96 3 + 1) (by omega) (by omega)] at e1
  rw [e1] at r3
  have fy : Fr (fun x k => x = 96 ∧ k = 3) a (mu a 96 3 (a 96 3 + 1)) := (Fr.rf _ _).mu ⟨rfl, rfl⟩
  obtain ⟨⟨⟨p0, p1⟩, h9, h10⟩, hc, hl⟩ := h
  have s : TS X t L 400 (mu a 96 3 (a 96 3 + 1)) b := ⟨⟨PR0_fr p0 fy (Fr.rf (fun _ _ => False) _) (fun k q => by omega) (fun k q => by omega) (fun _ _ _ q => q) (fun _ q => q), TKR_fr p1 fy (Fr.rf (fun _ _ => False) _) (fun k q => by omega) (fun _ _ _ q => q)⟩, by rw [mu_a (by decide)]; exact h9, h10⟩
  obtain ⟨f1, f2, P⟩ := markT hX s r3 rb
  have fa : Fr (fun x k => (x = 1 ∧ 3 ≤ k) ∨ (x = 96 ∧ k = 3)) a a' := (fy.mo fun x k q => Or.inr q).tr (f1.mo fun x k q => Or.inl q)
  have fwa : Fr WA a a' := fa.mo fun x k q => by unfold WA; omega
  refine ⟨fa, f2, ?_⟩
  rcases P with ⟨q1, q2, q3⟩ | ⟨q1, q2, q3⟩
  · injection q1 with q1
    injection q1 with _ q1
    injection q2 with q2
    injection q2 with _ q2
    exact Or.inl ⟨q1, q2, q3⟩
  · injection q1 with q1
    injection q1 with _ q1
    injection q2 with q2
    injection q2 with _ q2
    refine Or.inr ⟨q1, q2, ⟨q3, C2_w hc fwa (PM_wb f2), BLay_w hl fwa (PM_wb f2)⟩, ?_⟩
    rw [f1 96 3 (by unfold PT; omega), mu_s]
set_option maxRecDepth 16384 in
/-- a line, alike and valid -/
def Lv (a b : MM) (i : Int) : Prop := a 97 i = b 164 (3 * i) ∧ a 98 i = b 164 (3 * i + 1) ∧ a 99 i = b 164 (3 * i + 2) ∧ (Is a (a 97 i) (a 98 i) (a 99 i) ∨ (a 97 i = 7 ∧ 1 ≤ a 98 i ∧ a 98 i ≤ 60))
set_option maxRecDepth 16384 in
def LR (X : KO) (t : Int → Int) (L : Int) (a a' b b' : MM) (rl rl' : List (Nat × Int)) : Prop := Fr WA a a' ∧ Fr WB b b' ∧ ((rl = [(1, 0)] ∧ rl' = [(1, 0)] ∧ FL a' b') ∨ (rl = [(1, 1)] ∧ rl' = [(1, 1)] ∧ a 96 3 < 40 ∧ BS X t L a' b' ∧ a' 96 3 = a 96 3 + 1 ∧ Lv a' b' (a 96 3) ∧ Fr (fun x k => Va (a 96 3) x k ∨ (x = 96 ∧ k = 3)) a a' ∧ Fr (Vb (a 96 3)) b b'))
