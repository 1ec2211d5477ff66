/-! Class and reference at the same token. -/
set_option maxRecDepth 16384 in
theorem f291_w (m : MM) : ∀ k : Nat, k < 30 → f291 m (k : Int) = p27 (wl k) := by
  have e : ∀ (k : Nat) (z : Int), f291 m (k : Int) = z → z = p27 (wl k) → f291 m (k : Int) = p27 (wl k) := fun k z h1 h2 => h1.trans h2
  intro k hk
  match k, hk with
  | 0, _ => refine e 0 _ (by simp (disch := decide) [f291, f278, s64_id]; rfl) (by decide)
  | 1, _ => refine e 1 _ (by simp (disch := decide) [f291, f278, s64_id]; rfl) (by decide)
  | 2, _ => refine e 2 _ (by simp (disch := decide) [f291, f278, s64_id]; rfl) (by decide)
  | 3, _ => refine e 3 _ (by simp (disch := decide) [f291, f278, s64_id]; rfl) (by decide)
  | 4, _ => refine e 4 _ (by simp (disch := decide) [f291, f278, s64_id]; rfl) (by decide)
  | 5, _ => refine e 5 _ (by simp (disch := decide) [f291, f278, s64_id]; rfl) (by decide)
  | 6, _ => refine e 6 _ (by simp (disch := decide) [f291, f278, s64_id]; rfl) (by decide)
  | 7, _ => refine e 7 _ (by simp (disch := decide) [f291, f278, s64_id]; rfl) (by decide)
  | 8, _ => refine e 8 _ (by simp (disch := decide) [f291, f278, s64_id]; rfl) (by decide)
  | 9, _ => refine e 9 _ (by simp (disch := decide) [f291, f278, s64_id]; rfl) (by decide)
  | 10, _ => refine e 10 _ (by simp (disch := decide) [f291, f278, s64_id]; rfl) (by decide)
  | 11, _ => refine e 11 _ (by simp (disch := decide) [f291, f278, s64_id]; rfl) (by decide)
  | 12, _ => refine e 12 _ (by simp (disch := decide) [f291, f278, s64_id]; rfl) (by decide)
  | 13, _ => refine e 13 _ (by simp (disch := decide) [f291, f278, s64_id]; rfl) (by decide)
  | 14, _ => refine e 14 _ (by simp (disch := decide) [f291, f278, s64_id]; rfl) (by decide)
  | 15, _ => refine e 15 _ (by simp (disch := decide) [f291, f278, s64_id]; rfl) (by decide)
  | 16, _ => refine e 16 _ (by simp (disch := decide) [f291, f278, s64_id]; rfl) (by decide)
  | 17, _ => refine e 17 _ (by simp (disch := decide) [f291, f278, s64_id]; rfl) (by decide)
  | 18, _ => refine e 18 _ (by simp (disch := decide) [f291, f278, s64_id]; rfl) (by decide)
  | 19, _ => refine e 19 _ (by simp (disch := decide) [f291, f278, s64_id]; rfl) (by decide)
  | 20, _ => refine e 20 _ (by simp (disch := decide) [f291, f278, s64_id]; rfl) (by decide)
  | 21, _ => refine e 21 _ (by simp (disch := decide) [f291, f278, s64_id]; rfl) (by decide)
  | 22, _ => refine e 22 _ (by simp (disch := decide) [f291, f278, s64_id]; rfl) (by decide)
  | 23, _ => refine e 23 _ (by simp (disch := decide) [f291, f278, s64_id]; rfl) (by decide)
  | 24, _ => refine e 24 _ (by simp (disch := decide) [f291, f278, s64_id]; rfl) (by decide)
  | 25, _ => refine e 25 _ (by simp (disch := decide) [f291, f278, s64_id]; rfl) (by decide)
  | 26, _ => refine e 26 _ (by simp (disch := decide) [f291, f278, s64_id]; rfl) (by decide)
  | 27, _ => refine e 27 _ (by simp (disch := decide) [f291, f278, s64_id]; rfl) (by decide)
  | 28, _ => refine e 28 _ (by simp (disch := decide) [f291, f278, s64_id]; rfl) (by decide)
  | 29, _ => refine e 29 _ (by simp (disch := decide) [f291, f278, s64_id]; rfl) (by decide)
  | n + 30, h => omega
set_option maxRecDepth 16384 in
/-- the statics' words -/
def swl : List Nat := [8, 9, 10, 11, 12, 13, 14, 15, 0, 2, 3, 4, 5, 1, 6, 7, 18, 23, 24, 25, 26, 27, 28, 29, 19, 20, 21, 22, 17, 16]
set_option maxRecDepth 16384 in
def XS (X : KO) : Prop := ∀ s i : Nat, s < 30 → i < 30 → (X.1 (1000100 + i) (1000001 + s) = true ↔ i = swl.getD s 0)
set_option maxRecDepth 16384 in
/-- the same token on both sides -/
def TKR (X : KO) (a b : MM) : Prop := a 1 5 = b 148 6 ∧ a 1 3 = b 148 5 ∧
  ((a 1 4 = 4 ∧ b 148 7 = 1) ∨ (a 1 4 = 0 ∧ b 148 7 = 0) ∨ (a 1 4 = 1 ∧ b 148 7 = 2 ∧ NRel (a 1 7) (b 148 12) ∧ Mean (a 1 8) (a 1 7)) ∨ (a 1 4 = 2 ∧ b 148 7 = 3 ∧ a 1 6 = b 148 8 ∧ 0 ≤ a 1 6 ∧ a 1 6 < 1000) ∨ (a 1 4 = 3 ∧ b 148 7 = 4 ∧ a 1 6 = b 148 9))
set_option maxRecDepth 16384 in
/-- both read the same text -/
def PR0 (t : Int → Int) (L most : Int) (a b : MM) : Prop := TA a t L ∧ TB b t L ∧ a 1 2 = most ∧ b 148 4 = most ∧ a 1 3 = b 148 5 ∧ 0 ≤ a 1 3 ∧ a 1 3 ≤ L
set_option maxRecDepth 16384 in
def PR (X : KO) (t : Int → Int) (L most : Int) (a b : MM) : Prop := PR0 t L most a b ∧ TKR X a b
set_option maxRecDepth 16384 in
theorem next_ok {X : KO} {ρ : Nat → Int32} {t : Int → Int} {L most : Int} {a a' b b' : MM} {rl rl' : List (Nat × Int)} (hX : XW X) (h : PR0 t L most a b) (ha : Run X ρ 148 [(1, 1)] a rl a') (hb : Run X ρ 195 [(1, 148)] b rl' b') : PR X t L most a' b' ∧ Fr P148 a a' ∧ Fr P195 b b' ∧ rl = [] ∧ rl' = [] := by
  obtain ⟨h1, h2, h3, h4, h5, h6, h7⟩ := h
  obtain ⟨r1, f1, j, s1, k1⟩ := A148 hX h1 rfl h3 h6 h7 ha
  obtain ⟨r2, f2, j2, s2, k2⟩ := B195 h2 h5.symm h4 h6 h7 hb
  have ej := SEnd_u s1 s2
  subst ej
  have hj := s1.2.1
  have hj0 : 0 ≤ j := by have := s1.1; omega
  have hTA : TA a' t L := TA_fr h1 f1 (by unfold P148; omega) (by unfold P148; omega) (by unfold P148; omega)
  have hTB : TB b' t L := TB_fr h2 f2 (by unfold P195; omega) (by unfold P195; omega) (by unfold P195; omega)
  have g3 : a' 1 2 = most := by rw [f1 1 2 (by unfold P148; omega)]; exact h3
  have g4 : b' 148 4 = most := by rw [f2 148 4 (by unfold P195; omega)]; exact h4
  suffices hk : 0 ≤ a' 1 3 ∧ a' 1 3 ≤ L ∧ TKR X a' b' from ⟨⟨⟨hTA, hTB, g3, g4, hk.2.2.2.1, hk.1, hk.2.1⟩, hk.2.2⟩, f1, f2, r1, r2⟩
  rcases k1 with ⟨p1, p2, p3, p4, p5⟩ | ⟨p1, p2, p3, p4, p5⟩ | ⟨p1, p2, p3, p4, n, p5, p6, p7, p8⟩ | ⟨p1, p2, p3, p4, p5, p6, p7, p8⟩ | ⟨p1, p2, p3, p4, p5, p6, p7⟩
  · rcases k2 with ⟨q1, q2, q3, q4, q5⟩ | ⟨q1, q2, q3, q4, q5⟩ | ⟨q1, q2, q3, q4, n2, q5, q6, q7, q8⟩ | ⟨q1, q2, q3, q4, q5, q6, q7, q8⟩ | ⟨q1, q2, q3, q4, q5, q6, q7⟩
    · exact ⟨by omega, by omega, by omega, by omega, Or.inl ⟨p3, q3⟩⟩
    · exact absurd ⟨p1, p2⟩ q1
    · exact absurd ⟨p1, p2⟩ q1
    · exact absurd ⟨p1, p2⟩ q1
    · exact absurd ⟨p1, p2⟩ q1
  · rcases k2 with ⟨q1, q2, q3, q4, q5⟩ | ⟨q1, q2, q3, q4, q5⟩ | ⟨q1, q2, q3, q4, n2, q5, q6, q7, q8⟩ | ⟨q1, q2, q3, q4, q5, q6, q7, q8⟩ | ⟨q1, q2, q3, q4, q5, q6, q7⟩
    · exact absurd ⟨q1, q2⟩ p1
    · exact ⟨by omega, by omega, by omega, by omega, Or.inr (Or.inl ⟨p3, q3⟩)⟩
    · omega
    · omega
    · omega
  · rcases k2 with ⟨q1, q2, q3, q4, q5⟩ | ⟨q1, q2, q3, q4, q5⟩ | ⟨q1, q2, q3, q4, n2, q5, q6, q7, q8⟩ | ⟨q1, q2, q3, q4, q5, q6, q7, q8⟩ | ⟨q1, q2, q3, q4, q5, q6, q7⟩
    · exact absurd ⟨q1, q2⟩ p1
    · omega
    · have en := REnd_u p7 q7
      subst en
      have hlen : (sg t j n).length = n := sg_len t j n
      have hne : sg t j n ≠ [] := fun e => by rw [e] at hlen; simp at hlen; omega
      have hL' := p7.1
      refine ⟨by omega, by omega, by omega, by omega, ?_⟩
      rcases p8 with ⟨u1, u2, u3, u4, u5⟩ | ⟨u1, u0, u2, u3, u4⟩ | ⟨u1, u2, u3⟩
      · rcases q8 with ⟨v1, v2, v3, v4⟩ | ⟨v1, v0, v2, v3, v4⟩ | ⟨v1, v2, v3⟩
        · exact Or.inr (Or.inr (Or.inl ⟨u3, v3, ⟨_, u1, hne, u2, u4, v4⟩, by rw [u4]; exact u5⟩))
        · exfalso
          obtain ⟨c, hc⟩ := List.exists_mem_of_ne_nil _ hne
          have d1 := u1 c hc
          have d2 := v1 c hc
          unfold isLt isDg at *
          omega
        · exact absurd ⟨u1, u2⟩ v1
      · rcases q8 with ⟨v1, v2, v3, v4⟩ | ⟨v1, v0, v2, v3, v4⟩ | ⟨v1, v2, v3⟩
        · exfalso
          obtain ⟨c, hc⟩ := List.exists_mem_of_ne_nil _ hne
          have d1 := u1 c hc
          have d2 := v1 c hc
          unfold isLt isDg at *
          omega
        · have := p10_3 u1 u2
          exact Or.inr (Or.inr (Or.inr (Or.inl ⟨u3, v3, u4.trans v4.symm, by omega, by omega⟩)))
        · exact absurd ⟨u1, u2⟩ v2
      · rcases q8 with ⟨v1, v2, v3, v4⟩ | ⟨v1, v0, v2, v3, v4⟩ | ⟨v1, v2, v3⟩
        · exact absurd ⟨v1, v2⟩ u1
        · exact absurd ⟨v1, v2⟩ u2
        · exact Or.inl ⟨u3, v3⟩
    · exact absurd p3 q3
    · exact absurd p3 q3
  · rcases k2 with ⟨q1, q2, q3, q4, q5⟩ | ⟨q1, q2, q3, q4, q5⟩ | ⟨q1, q2, q3, q4, n2, q5, q6, q7, q8⟩ | ⟨q1, q2, q3, q4, q5, q6, q7, q8⟩ | ⟨q1, q2, q3, q4, q5, q6, q7⟩
    · exact absurd ⟨q1, q2⟩ p1
    · omega
    · exact absurd q3 p3
    · exact ⟨by omega, by omega, by omega, by omega, Or.inr (Or.inr (Or.inr (Or.inr ⟨p5, q5, p6.trans q6.symm⟩)))⟩
    · exact absurd p4 q4
  · rcases k2 with ⟨q1, q2, q3, q4, q5⟩ | ⟨q1, q2, q3, q4, q5⟩ | ⟨q1, q2, q3, q4, n2, q5, q6, q7, q8⟩ | ⟨q1, q2, q3, q4, q5, q6, q7, q8⟩ | ⟨q1, q2, q3, q4, q5, q6, q7⟩
    · exact absurd ⟨q1, q2⟩ p1
    · omega
    · exact absurd q3 p3
    · exact absurd q4 p4
    · exact ⟨by omega, by omega, by omega, by omega, Or.inl ⟨p5, q5⟩⟩
set_option maxRecDepth 16384 in
/-- a token more is further on -/
def Prog (a a' : MM) : Prop := a 1 3 ≤ a' 1 3 ∧ (a' 1 4 ≠ 0 → a' 1 4 ≠ 4 → a 1 3 < a' 1 3)
set_option maxRecDepth 16384 in
theorem mon_ok {X : KO} {ρ : Nat → Int32} {t : Int → Int} {L most : Int} {a a' b : MM} {rl : List (Nat × Int)} (hX : XW X) (h : PR0 t L most a b) (ha : Run X ρ 148 [(1, 1)] a rl a') : Prog a a' := by
  obtain ⟨h1, h2, h3, h4, h5, h6, h7⟩ := h
  obtain ⟨r1, f1, j, s1, k1⟩ := A148 hX h1 rfl h3 h6 h7 ha
  have hj := s1.1
  rcases k1 with ⟨p1, p2, p3, p4, p5⟩ | ⟨p1, p2, p3, p4, p5⟩ | ⟨p1, p2, p3, p4, n, p5, p6, p7, p8⟩ | ⟨p1, p2, p3, p4, p5, p6, p7, p8⟩ | ⟨p1, p2, p3, p4, p5, p6, p7⟩
  · exact ⟨by omega, fun _ q => absurd p3 q⟩
  · exact ⟨by omega, fun q _ => absurd p3 q⟩
  · exact ⟨by omega, fun _ _ => by omega⟩
  · exact ⟨by omega, fun _ _ => by omega⟩
  · exact ⟨by omega, fun _ q => absurd p5 q⟩
/-! what is asked of a token -/
set_option maxRecDepth 16384 in
theorem word_ok {X : KO} (hX : XS X) {a b : MM} (h : TKR X a b) {s : Nat} (hs : s < 30) : f155 X a 1 ((1000001 + s : Nat) : Int) = f217 b 148 ((swl.getD s 0 : Nat) : Int) := by
  have hsw : swl.getD s 0 < 30 := by
    have : ∀ s : Fin 30, swl.getD s.val 0 < 30 := by decide
    exact this ⟨s, hs⟩
  obtain ⟨-, -, h⟩ := h
  unfold f155 f217
  rw [f291_w b _ hsw]
  rcases h with ⟨h1, h2⟩ | ⟨h1, h2⟩ | ⟨h1, h2, h3, h4⟩ | ⟨h1, h2, -⟩ | ⟨h1, h2, -⟩
  · rw [h1, h2, if_neg (by decide), if_neg (by decide)]
  · rw [h1, h2, if_neg (by decide), if_neg (by decide)]
  · rw [if_pos h1, if_pos h2]
    have hw := wl_ok _ hsw
    have hN : NRel (p32 (wl (swl.getD s 0))) (p27 (wl (swl.getD s 0))) := ⟨_, hw.1, hw.2.1, hw.2.2, rfl, rfl⟩
    have hiff := NRel_iff h3 hN
    have hq : qer X (a 1 8) ((1000001 + s : Nat) : Int) ↔ b 148 12 = p27 (wl (swl.getD s 0)) := by
      rw [← hiff]
      rcases h4 with ⟨i, i1, i2, i3⟩ | ⟨i1, i2⟩
      · rw [i2]
        constructor
        · rintro (q | ⟨-, -, q⟩)
          · omega
          · have e1 : (1000100 + (i : Int)).toNat = 1000100 + i := by omega
            have e2 : (((1000001 + s : Nat) : Int)).toNat = 1000001 + s := by omega
            rw [e1, e2] at q
            rw [i3, (hX s i hs i1).mp q]
        · intro q
          refine Or.inr ⟨by omega, by omega, ?_⟩
          have e1 : (1000100 + (i : Int)).toNat = 1000100 + i := by omega
          have e2 : (((1000001 + s : Nat) : Int)).toNat = 1000001 + s := by omega
          rw [e1, e2]
          refine (hX s i hs i1).mpr (wl_inj _ _ i1 hsw ?_)
          exact p32_inj _ _ (wl_ok i i1).1 hw.1 (i3.symm.trans q)
      · rw [i1]
        constructor
        · rintro (q | ⟨q, -⟩) <;> omega
        · intro q; exact absurd q (i2 _ hsw)
    by_cases c : b 148 12 = p27 (wl (swl.getD s 0))
    · rw [if_pos (hq.mpr c), c, if_pos (by rw [if_neg (Int.lt_irrefl _), if_pos rfl])]
    · rw [if_neg (fun q => c (hq.mp q)), if_neg]
      by_cases d : p27 (wl (swl.getD s 0)) < b 148 12
      · rw [if_pos d]; decide
      · rw [if_neg d, if_neg c]; decide
  · rw [h1, h2, if_neg (by decide), if_neg (by decide)]
  · rw [h1, h2, if_neg (by decide), if_neg (by decide)]
set_option maxRecDepth 16384 in
theorem mark_ok {X : KO} {a b : MM} (h : TKR X a b) (c : Int) : f152 a 1 c = f215 b 148 c := by
  obtain ⟨-, -, h⟩ := h
  unfold f152 f215
  rcases h with ⟨h1, h2⟩ | ⟨h1, h2⟩ | ⟨h1, h2, -⟩ | ⟨h1, h2, -⟩ | ⟨h1, h2, h3⟩
  · rw [h1, h2, if_neg (by decide), if_neg (by decide)]
  · rw [h1, h2, if_neg (by decide), if_neg (by decide)]
  · rw [h1, h2, if_neg (by decide), if_neg (by decide)]
  · rw [h1, h2, if_neg (by decide), if_neg (by decide)]
  · rw [if_pos h1, if_pos h2, h3]
set_option maxRecDepth 16384 in
/-- whether it is a name -/
theorem name_ok {X : KO} {ρ : Nat → Int32} {a b b' : MM} {rl : List (Nat × Int)} (h : TKR X a b) (hr : Run X ρ 211 [(1, 148)] b rl b') : rl = [(1, f153 a 1)] ∧ b' = b ∧ (f153 a 1 = 1 ∨ f153 a 1 = 0) ∧ (f153 a 1 = 1 → NRel (a 1 7) (b 148 12)) := by
  obtain ⟨-, -, h⟩ := h
  obtain ⟨N, ig, hr⟩ := Run_CR hr rfl
  have hr : MR X ρ 2 0 0 qP211 N 0 [148, 0] [] b (ig, rl, b') := hr
  have h0 := i211_0 hr
  have hno : ¬ b 148 7 = 2 → f153 a 1 = 0 → rl = [(1, f153 a 1)] ∧ b' = b ∧ (f153 a 1 = 1 ∨ f153 a 1 = 0) ∧ (f153 a 1 = 1 → NRel (a 1 7) (b 148 12)) := fun hb ha => by
    rcases h0 with ⟨c, _⟩ | ⟨c, h⟩
    · exact absurd c hb
    · cases h
      rw [ha]
      exact ⟨rfl, rfl, Or.inr rfl, fun q => absurd q (by decide)⟩
  rcases h with ⟨h1, h2⟩ | ⟨h1, h2⟩ | ⟨h1, h2, h3, h4⟩ | ⟨h1, h2, -⟩ | ⟨h1, h2, -⟩
  · exact hno (by rw [h2]; decide) (by unfold f153; rw [h1]; rfl)
  · exact hno (by rw [h2]; decide) (by unfold f153; rw [h1]; rfl)
  · rcases h0 with ⟨c, hr⟩ | ⟨c, _⟩
    · have key : ∀ (N : Nat) (i : Nat), MR X ρ 2 0 0 qP211 N 12 [148, (i : Int)] [] b (ig, rl, b') → i ≤ 30 → (∀ j : Nat, j < i → b 148 12 ≠ p27 (wl j)) → b' = b ∧ ((rl = [(1, 1)] ∧ ∀ j : Nat, j < 30 → b 148 12 ≠ p27 (wl j)) ∨ (rl = [(1, 0)] ∧ ∃ j : Nat, j < 30 ∧ b 148 12 = p27 (wl j))) := by
        intro N
        induction N with
        | zero =>
          intro i h hi hj
          rcases i211_12 h with ⟨d, h⟩ | ⟨d, h⟩
          · cases h
            exact ⟨rfl, Or.inl ⟨rfl, fun j hj2 => hj j (by omega)⟩⟩
          · rw [f291_w b i (by omega)] at h
            rcases h with ⟨d2, h⟩ | ⟨d2, N', e, _⟩
            · cases h
              refine ⟨rfl, Or.inr ⟨rfl, i, by omega, ?_⟩⟩
              by_cases q1 : p27 (wl i) < b 148 12
              · rw [if_pos q1] at d2; cases d2
              · rw [if_neg q1] at d2
                by_cases q2 : b 148 12 = p27 (wl i)
                · exact q2
                · rw [if_neg q2] at d2; cases d2
            · cases e
        | succ N ih =>
          intro i h hi hj
          rcases i211_12 h with ⟨d, h⟩ | ⟨d, h⟩
          · cases h
            exact ⟨rfl, Or.inl ⟨rfl, fun j hj2 => hj j (by omega)⟩⟩
          · rw [f291_w b i (by omega)] at h
            rcases h with ⟨d2, h⟩ | ⟨d2, N', e, h⟩
            · cases h
              refine ⟨rfl, Or.inr ⟨rfl, i, by omega, ?_⟩⟩
              by_cases q1 : p27 (wl i) < b 148 12
              · rw [if_pos q1] at d2; cases d2
              · rw [if_neg q1] at d2
                by_cases q2 : b 148 12 = p27 (wl i)
                · exact q2
                · rw [if_neg q2] at d2; cases d2
            · cases e
              rw [show s32 ((i : Int) + 1) = ((i + 1 : Nat) : Int) by rw [s32_id (by omega) (by omega)]; rfl] at h
              refine ih (i + 1) h (by omega) (fun j hj2 => ?_)
              by_cases q : j = i
              · rw [q]
                intro q2
                rw [if_neg (by omega), if_pos q2] at d2
                exact d2 rfl
              · exact hj j (by omega)
      obtain ⟨e1, e2⟩ := key N 0 hr (by omega) (fun j hj => absurd hj (by omega))
      have hm : f153 a 1 = if a 1 8 = -1 then 1 else 0 := by unfold f153; rw [if_pos h1]
      rcases e2 with ⟨e2, e3⟩ | ⟨e2, j, e3, e4⟩
      · have : a 1 8 = -1 := by
          rcases h4 with ⟨i, i1, i2, i3⟩ | ⟨i1, -⟩
          · exfalso
            have hw := wl_ok i i1
            exact e3 i i1 ((NRel_iff h3 ⟨_, hw.1, hw.2.1, hw.2.2, rfl, rfl⟩).mp i3)
          · exact i1
        rw [hm, if_pos this]
        exact ⟨e2, e1, Or.inl rfl, fun _ => h3⟩
      · have : ¬ a 1 8 = -1 := by
          rcases h4 with ⟨i, i1, i2, i3⟩ | ⟨-, i2⟩
          · omega
          · exfalso
            have hw := wl_ok j e3
            exact i2 j e3 ((NRel_iff h3 ⟨_, hw.1, hw.2.1, hw.2.2, rfl, rfl⟩).mpr e4)
        rw [hm, if_neg this]
        exact ⟨e2, e1, Or.inr rfl, fun q => absurd q (by decide)⟩
    · exact absurd h2 c
  · exact hno (by rw [h2]; decide) (by unfold f153; rw [h1]; rfl)
  · exact hno (by rw [h2]; decide) (by unfold f153; rw [h1]; rfl)
