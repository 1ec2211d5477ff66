/-! book(), alike, with all that is so. -/
set_option maxRecDepth 16384 in
theorem swap_ok {b : MM} {z : Int} (h18 : b 148 18 = 154) (h14 : b 148 14 = 150) : Fr (fun x k => (x = 150 ∧ 92 ≤ k ∧ k < 214) ∨ (x = 154 ∧ 0 ≤ k ∧ k < 122)) b (L281_2 b 148 z 0 0).2.2.2.2 ∧ ∀ k, 0 ≤ k → k < 122 → (L281_2 b 148 z 0 0).2.2.2.2 150 (92 + k) = s32 (b 154 k) ∧ (L281_2 b 148 z 0 0).2.2.2.2 154 k = s32 (b 150 (92 + k)) := by
  unfold L281_2
  refine Lp_ind (f := K281_2 b 148 z 0 0) (P := fun t => 0 ≤ t.1 ∧ t.1 ≤ 122 ∧ Fr (fun x k => (x = 150 ∧ 92 ≤ k ∧ k < 92 + t.1) ∨ (x = 154 ∧ 0 ≤ k ∧ k < t.1)) b t.2.2 ∧ ∀ k, 0 ≤ k → k < t.1 → t.2.2 150 (92 + k) = s32 (b 154 k) ∧ t.2.2 154 k = s32 (b 150 (92 + k))) (Q := fun t => Fr (fun x k => (x = 150 ∧ 92 ≤ k ∧ k < 214) ∨ (x = 154 ∧ 0 ≤ k ∧ k < 122)) b t.2.2.2.2 ∧ ∀ k, 0 ≤ k → k < 122 → t.2.2.2.2 150 (92 + k) = s32 (b 154 k) ∧ t.2.2.2.2 154 k = s32 (b 150 (92 + k))) (fun t => (122 - t.1).toNat) ?_ (0, 0, b) ⟨Int.le_refl _, by dsimp only; decide, Fr.rf _ _, fun k k0 k1 => by dsimp only at k1; omega⟩
  rintro ⟨i, v, m⟩ ⟨c1, c2, c3, c4⟩
  dsimp only at c1 c2 c3 c4
  have e : K281_2 b 148 z 0 0 (i, v, m) = S281_2 m 148 z i v := rfl
  rw [e]
  unfold S281_2
  by_cases c : 122 ≤ i
  · rw [if_pos c]
    refine Or.inr ⟨_, rfl, c3.mo fun x k q => by omega, fun k k0 k1 => c4 k k0 (by omega)⟩
  · have w14 : m 148 14 = 150 := by rw [c3 _ _ (by omega)]; exact h14
    have w18 : m 148 18 = 154 := by rw [c3 _ _ (by omega)]; exact h18
    rw [if_neg c, w14, w18, s32_id (z := i + 1) (by omega) (by omega), s32_id (z := 92 + i) (by omega) (by omega), mu_a (a := 150) (b := 148) (by decide), w18]
    refine Or.inl ⟨_, rfl, ⟨by dsimp only; omega, by dsimp only; omega, ?_, fun k k0 k1 => ?_⟩, by dsimp only; omega⟩
    · dsimp only
      exact ((c3.mo fun x k q => by omega).mu (Or.inl ⟨rfl, by omega, by omega⟩)).mu (Or.inr ⟨rfl, by omega, by omega⟩)
    · dsimp only at k1 ⊢
      by_cases q : k = i
      · rw [q, mu_a (a := 154) (b := 150) (by decide), mu_s, mu_s, c3 154 i (by omega), c3 150 (92 + i) (by omega)]
        exact ⟨rfl, rfl⟩
      · rw [mu_a (a := 154) (b := 150) (by decide), mu_k (by omega), mu_k q, mu_a (by decide)]
        exact c4 k k0 (by omega)
set_option maxRecDepth 16384 in
theorem C2_mk {a a' b b' : MM} (h : C2 a b) (ha : ∀ x k, PCs x k → ¬ (x = 15 ∧ 7 ≤ k) → ¬ (16 ≤ x ∧ x ≤ 21 ∧ 0 ≤ k) → ¬ (29 ≤ x ∧ x ≤ 86) → a' x k = a x k) (hb : ∀ x k, PJs x k → ¬ (x = 150 ∧ 92 ≤ k) → x ≠ 153 → ¬ (x = 148 ∧ k = 23) → b' x k = b x k) (hn : Sn a' b' 3 15 150 0) (hu : Un a' b') : C2 a' b' := by
  obtain ⟨⟨⟨d1, d2, d3, d4⟩, hS, hU⟩, h2, h3, h4, h5⟩ := h
  have ha' : ∀ x k, PCs x k → (x < 15 ∨ (x = 15 ∧ k < 7) ∨ (16 ≤ x ∧ x ≤ 21 ∧ k < 0) ∨ (21 < x ∧ x < 29) ∨ 86 < x) → a' x k = a x k := fun x k q q2 => ha x k q (by omega) (by omega) (by omega)
  have hb' : ∀ x k, PJs x k → (x ≠ 153 ∧ (x ≠ 150 ∨ k < 92) ∧ (x ≠ 148 ∨ k ≠ 23)) → b' x k = b x k := fun x k q q2 => hb x k q (by omega) (by omega) (by omega)
  refine ⟨⟨⟨?_, ?_, ?_, ?_⟩, Sx_mk hS (fun x k q0 q1 k0 => ha' x k (by unfold PCs; omega) (by omega)) (fun k k0 k1 => ha' _ _ (by unfold PCs; omega) (by omega)) (ha' _ _ (by unfold PCs; omega) (by omega)) (hb' _ _ (by unfold PJs; omega) (by omega)) (fun k k0 k1 => hb' _ _ (by unfold PJs; omega) (by omega)) hn, hu⟩, Nm_fr h2 (fun x k x0 x1 k0 => ha' x k (by unfold PCs; omega) (by omega)) (fun k => hb' _ _ (by unfold PJs; omega) (by omega)), LayI_fr h3 (fun x k q => ha' x k (by unfold PCs; omega) (by omega)), LayJ_fr h4 (fun k k0 k1 => hb' _ _ (by unfold PJs; omega) (by omega)), fun k k0 k1 => Ik_fr (h5 k k0 k1) (fun x j x0 x1 x2 j0 => ha' x j (by unfold PCs; omega) (by omega)) (fun j _ _ => hb' _ _ (by unfold PJs; omega) (by omega)) (fun j _ _ => hb' _ _ (by unfold PJs; omega) (by omega)) (hb' _ _ (by unfold PJs; omega) (by omega))⟩
  · rw [ha' _ _ (by unfold PCs; omega) (by omega)]; exact d1
  · rw [ha' _ _ (by unfold PCs; omega) (by omega)]; exact d2
  · rw [ha' _ _ (by unfold PCs; omega) (by omega)]; exact d3
  · rw [ha' _ _ (by unfold PCs; omega) (by omega)]; exact d4
set_option maxRecDepth 16384 in
/-- the reference's end -/
theorem exitG {X : KO} {ρ : Nat → Int32} {lv k w cnt : Int} {n : MM} {o : Instr × List (Nat × Int) × MM} {M : Nat} (e38 : n 148 38 = cnt) (e37 : n 148 37 = 165) (hk : (w = 0 ∧ k = cnt) ∨ w ≠ 0) (rb : MR X ρ 4 0 0 qP171 M 73 [148, lv, k, w] [] n o) : ∃ y11, Fr (fun x j => (x = 165 ∧ 0 ≤ j) ∨ (x = 148 ∧ j = 39)) n y11 ∧ o.2.1 = [(1, if w = 0 then -1 else k)] ∧ o.2.2 = g281 y11 148 (if lv = 1 ∧ 0 < k then 1 else 0) := by
  have fr : ∀ y2 y3 y4 y10 y11 : MM, y2 = mu n (n 148 37) 0 (s32 w) → y3 = mu y2 (y2 148 37) 1 (s32 k) → y4 = mu y3 (y3 148 37) 2 (s32 (y3 (y3 148 14) 92)) → y10 = mu y4 (y4 148 37) 3 (s32 (f286 y4 148 2)) → y11 = mu y10 148 39 1 → Fr (fun x j => (x = 165 ∧ 0 ≤ j) ∨ (x = 148 ∧ j = 39)) n y11 := fun y2 y3 y4 y10 y11 e2 e3 e4 e10 e11 => by
    rw [e37] at e2
    have f2 : Fr (fun x j => (x = 165 ∧ 0 ≤ j) ∨ (x = 148 ∧ j = 39)) n y2 := by rw [e2]; exact (Fr.rf _ _).mu (Or.inl ⟨rfl, by decide⟩)
    rw [f2 148 37 (by omega), e37] at e3
    have f3 : Fr (fun x j => (x = 165 ∧ 0 ≤ j) ∨ (x = 148 ∧ j = 39)) n y3 := by rw [e3]; exact f2.mu (Or.inl ⟨rfl, by decide⟩)
    rw [f3 148 37 (by omega), e37] at e4
    have f4 : Fr (fun x j => (x = 165 ∧ 0 ≤ j) ∨ (x = 148 ∧ j = 39)) n y4 := by rw [e4]; exact f3.mu (Or.inl ⟨rfl, by decide⟩)
    rw [f4 148 37 (by omega), e37] at e10
    have f10 : Fr (fun x j => (x = 165 ∧ 0 ≤ j) ∨ (x = 148 ∧ j = 39)) n y10 := by rw [e10]; exact f4.mu (Or.inl ⟨rfl, by decide⟩)
    rw [e11]
    exact f10.mu (Or.inr ⟨rfl, rfl⟩)
  rcases k171_73 rb with ⟨c, y2, e2, y3, e3, y4, e4, y10, e10, y11, e11, B⟩ | ⟨c, B⟩
  · refine ⟨y11, fr y2 y3 y4 y10 y11 e2 e3 e4 e10 e11, ?_⟩
    rcases B with ⟨l1, B⟩ | ⟨l1, y, ey, B⟩
    · rcases B with ⟨p, y, ey, B⟩ | ⟨p, y, ey, B⟩
      · rw [if_neg (show ¬ (lv = 1 ∧ 0 < k) by omega), ← ey]
        rcases B with ⟨q, B⟩ | ⟨q, B⟩
        · rw [if_pos q, B]; exact ⟨rfl, rfl⟩
        · rw [if_neg q, B]; exact ⟨rfl, rfl⟩
      · rw [if_pos (show lv = 1 ∧ 0 < k by omega), ← ey]
        rcases B with ⟨q, B⟩ | ⟨q, B⟩
        · rw [if_pos q, B]; exact ⟨rfl, rfl⟩
        · rw [if_neg q, B]; exact ⟨rfl, rfl⟩
    · rw [if_neg (show ¬ (lv = 1 ∧ 0 < k) by omega), ← ey]
      rcases B with ⟨q, B⟩ | ⟨q, B⟩
      · rw [if_pos q, B]; exact ⟨rfl, rfl⟩
      · rw [if_neg q, B]; exact ⟨rfl, rfl⟩
  · rcases B with ⟨q, -⟩ | ⟨q, y2, e2, y3, e3, y4, e4, y10, e10, y11, e11, B⟩
    · omega
    · refine ⟨y11, fr y2 y3 y4 y10 y11 e2 e3 e4 e10 e11, ?_⟩
      rw [if_neg q]
      rcases B with ⟨l1, B⟩ | ⟨l1, y, ey, B⟩
      · rcases B with ⟨p, y, ey, B⟩ | ⟨p, y, ey, B⟩
        · rw [if_neg (show ¬ (lv = 1 ∧ 0 < k) by omega), ← ey, B]; exact ⟨rfl, rfl⟩
        · rw [if_pos (show lv = 1 ∧ 0 < k by omega), ← ey, B]; exact ⟨rfl, rfl⟩
      · rw [if_neg (show ¬ (lv = 1 ∧ 0 < k) by omega), ← ey, B]; exact ⟨rfl, rfl⟩
set_option maxRecDepth 16384 in
/-- the class's going through, as a whole -/
theorem thruG {X : KO} {ρ : Nat → Int32} {lv s cnt : Int} {o : Instr × List (Nat × Int) × MM} {y n : MM} {M : Nat} (hs : s = 15 ∨ s = 22) (h : Sx y n s) (hl : BLay y n) (e3 : y 96 3 = cnt) (e38 : n 148 38 = cnt) (e37 : n 148 37 = 165) (c0 : 0 ≤ cnt) (c40 : cnt ≤ 40) (hv : ∀ i, 0 ≤ i → i < cnt → Lv y n i) (rb : MR X ρ 4 0 0 qP171 M 73 [148, lv, 0, 0] [] n o) : ∃ (n' y11 : MM) (k w : Int), Sx (g47 y 96 s) n' s ∧ Fr (fun x j => Qa s x j ∨ (x = 96 ∧ 4 ≤ j)) y (g47 y 96 s) ∧ Fr Qb n n' ∧ Fr (fun x j => (x = 165 ∧ 0 ≤ j) ∨ (x = 148 ∧ j = 39)) n' y11 ∧ o.2.1 = [(1, f47 y 96 s)] ∧ o.2.2 = g281 y11 148 (if lv = 1 ∧ 0 < k then 1 else 0) ∧ (g47 y 96 s) 96 6 = k ∧ 0 ≤ k ∧ (k = 0 → ∀ x j, ¬ (x = 96 ∧ 4 ≤ j) → (g47 y 96 s) x j = y x j) := by
  have em : ∀ x j, ¬ (x = 96 ∧ (j = 4 ∨ j = 5 ∨ j = 6)) → (mu (mu (mu y 96 4 1) 96 5 0) 96 6 0) x j = y x j := fun x j q => by
    by_cases c : x = 96
    · rw [c, mu_k (by omega), mu_k (by omega), mu_k (by omega)]
    · rw [mu_a c, mu_a c, mu_a c]
  have e6 : (mu (mu (mu y 96 4 1) 96 5 0) 96 6 0) 96 6 = 0 := mu_s _ _ _ _
  have e5 : (mu (mu (mu y 96 4 1) 96 5 0) 96 6 0) 96 5 = 0 := by rw [mu_k (by decide), mu_s]
  have h0 : Sx (mu (mu (mu y 96 4 1) 96 5 0) 96 6 0) n s := Sx_fr h (fun x j q _ => em x j (by omega)) (fun x j q1 q2 => em x j (by omega)) rfl (fun _ => rfl)
  have hl0 : BLay (mu (mu (mu y 96 4 1) 96 5 0) 96 6 0) n := by
    obtain ⟨⟨z1, z2, z3, z4, z5, z6⟩, z7⟩ := hl
    refine ⟨⟨?_, ?_, ?_, ?_, ?_, ?_⟩, z7⟩
    · rw [em _ _ (by omega)]; exact z1
    · rw [em _ _ (by omega)]; exact z2
    · rw [em _ _ (by omega)]; exact z3
    · rw [em _ _ (by omega)]; exact z4
    · rw [em _ _ (by omega)]; exact z5
    · rw [em _ _ (by omega)]; exact z6
  have hv0 : ∀ i, 0 ≤ i → i < cnt → Lv (mu (mu (mu y 96 4 1) 96 5 0) 96 6 0) n i := fun i i0 i1 => by
    have q := hv i i0 i1
    unfold Lv Is at *
    rw [em 97 i (by omega), em 98 i (by omega), em 99 i (by omega), em 3 6 (by omega), em 3 7 (by omega)]
    exact q
  have e30 : (mu (mu (mu y 96 4 1) 96 5 0) 96 6 0) 96 3 = cnt := by rw [em _ _ (by omega)]; exact e3
  have G := loopG (X := X) (ρ := ρ) (lv := lv) (s := s) (cnt := cnt) (o := o) (m00 := mu (mu (mu y 96 4 1) 96 5 0) 96 6 0) (a := mu (mu (mu y 96 4 1) 96 5 0) 96 6 0) (b := n) hs (-1) 0 0 41 M 0 0 _ n h0 hl0 e30 e38 (Int.le_refl _) c0 c40 (by omega) hv0 e6 e5 (Fr.rf _ _) (Fr.rf _ _) (fun _ _ _ _ => rfl) rb
  unfold g47 f47
  have eL : L47_19 (mu (mu (mu y 96 4 1) 96 5 0) 96 6 0) 96 s (-1) 0 0 = Lp (K47_19 (mu (mu (mu y 96 4 1) 96 5 0) 96 6 0) 96 s (-1) 0 0) (-1, 0, 0, mu (mu (mu y 96 4 1) 96 5 0) 96 6 0) := rfl
  rw [eL]
  revert G
  generalize Lp (K47_19 (mu (mu (mu y 96 4 1) 96 5 0) 96 6 0) 96 s (-1) 0 0) (-1, 0, 0, mu (mu (mu y 96 4 1) 96 5 0) 96 6 0) = t
  rintro ⟨M', n', k, w, B, g1, g2, g3, g4, g5, g6, g7, g8, g9⟩
  obtain ⟨y11, x1, x2, x3⟩ := exitG (cnt := cnt) (by rw [g3 _ _ (by unfold Qb; omega)]; exact e38) (by rw [g3 _ _ (by unfold Qb; omega)]; exact e37) (by omega) B
  have en : ∀ x j, ¬ (x = 96 ∧ (j = 7 ∨ j = 8)) → (mu (mu t.2.2.2.2.2 96 7 (t.2.2.2.2.2 s 8)) 96 8 (f119 (mu t.2.2.2.2.2 96 7 (t.2.2.2.2.2 s 8)) s 2)) x j = t.2.2.2.2.2 x j := fun x j q => by
    by_cases c : x = 96
    · rw [c, mu_k (by omega), mu_k (by omega)]
    · rw [mu_a c, mu_a c]
  refine ⟨n', y11, k, w, Sx_fr g1 (fun x j q _ => en x j (by omega)) (fun x j q1 q2 => en x j (by omega)) rfl (fun _ => rfl), ?_, g3, x1, ?_, x3, ?_, g4, ?_⟩
  · intro x j hn
    have hn : ¬ (Qa s x j ∨ (x = 96 ∧ 4 ≤ j)) := hn
    have h1 : ¬ (x = 96 ∧ 4 ≤ j) := fun q => hn (Or.inr q)
    have h2 : ¬ Qg s x j := fun q => by
      rcases q with q | q
      · exact hn (Or.inl q)
      · omega
    rw [en x j (by omega), g2 x j h2, em x j (by omega)]
  · rw [x2]
    rcases g8 with ⟨q1, q2, q3⟩ | ⟨q1, q2⟩
    · rw [if_pos q1, q3]
    · rw [if_neg q1, q2]
  · rw [en _ _ (by omega)]; exact g6
  · intro q x j q2
    rw [en x j (by omega), g9 q x j (by omega), em x j (by omega)]
set_option maxRecDepth 16384 in
theorem book_pair {X : KO} {ρ : Nat → Int32} {a a' b b' : MM} {rl rl' : List (Nat × Int)} {L lv : Int} (hX : XW X) (hS : XS X) (hc : C2 a b) (hl : BLay a b) (hT : TapeR a b L) (t00 : a 0 0 = 1) (t10 : a 0 10 = 96) (t0 : a 1 0 = 2) (t1 : a 2 (-1) = 940) (u1 : b 148 1 = 149) (u18 : b 148 18 = 154) (u37 : b 148 37 = 165) (ra : Run X ρ 3 [(1, 0), (1, lv)] a rl a') (rb : Run X ρ 171 [(1, 148), (1, lv)] b rl' b') : C2 a' b' ∧ rl = rl' := by
  obtain ⟨N, ig, ra⟩ := Run_CR ra rfl
  have ra : MR X ρ 3 0 0 qP3 N 0 [0, lv, 0] [] a (ig, rl, a') := ra
  obtain ⟨M, ig', rb⟩ := Run_CR rb rfl
  have rb : MR X ρ 4 0 0 qP171 M 0 [148, lv, 0, 0] [] b (ig', rl', b') := rb
  have A := k3_0 ra
  rw [t00, t10, hc.1.1.1] at A
  by_cases hlv : lv = 0 ∨ lv = 1
  · -- read
    have A' : ∃ m3, Run X ρ 55 [(1, 96), (1, 1), (1, 3)] a [] m3 ∧ (∃ y5, y5 = mu m3 0 13 (m3 (m3 0 0) 9) ∧ (∃ y6, y6 = mu y5 (y5 0 0) 1 0 ∧ ((((y6 0 13) = 0) ∧ (∃ y13, y13 = g113 y6 (y6 0 4) (y6 0 3) ∧ (((lv = 0) ∧ (∃ y33, y33 = g47 y13 (y13 0 10) (y13 0 4) ∧ ((ig, rl, a') = ((.ireturn, [(1, f47 y13 (y13 0 10) (y13 0 4))], y33) : Instr × List (Nat × Int) × MM)))) ∨ (¬ (lv = 0) ∧ (∃ y20, y20 = g47 y13 (y13 0 10) (y13 0 3) ∧ ((((y20 (y20 0 10) 6) ≤ 0) ∧ ((ig, rl, a') = ((.ireturn, [(1, f47 y13 (y13 0 10) (y13 0 3))], y20) : Instr × List (Nat × Int) × MM))) ∨ (¬ ((y20 (y20 0 10) 6) ≤ 0) ∧ (∃ y27, y27 = g162 y20 (y20 0 5) (y20 0 4) ∧ ((ig, rl, a') = ((.ireturn, [(1, f47 y13 (y13 0 10) (y13 0 3))], y27) : Instr × List (Nat × Int) × MM)))))))))) ∨ (¬ ((y6 0 13) = 0) ∧ ((ig, rl, a') = ((.ireturn, [(1, s32 ((-2) - (y6 (y6 0 0) 10)))], y6) : Instr × List (Nat × Int) × MM)))))) := by
      rcases A with ⟨-, A⟩ | ⟨c, A⟩
      · exact A
      · rcases A with ⟨-, A⟩ | ⟨d, _⟩
        · exact A
        · omega
    clear A
    obtain ⟨m3, r3, y5, e5, y6, e6, A⟩ := A'
    obtain ⟨fr, R⟩ := readT hX hS hc hl hT t0 t1 u1 hlv r3 rb
    have x00 : m3 0 0 = 1 := by rw [fr 0 0 (by unfold Wa2 WA; omega)]; exact t00
    rw [x00] at e5
    have x5 : y5 0 0 = 1 := by rw [e5, mu_k (by decide)]; exact x00
    rw [x5] at e6
    have f6 : ∀ x k, ¬ (x = 0 ∧ k = 13) → ¬ (x = 1 ∧ k = 1) → y6 x k = m3 x k := fun x k n1 n2 => by
      rw [e6]
      have t : mu y5 1 1 0 x k = y5 x k := if_neg n2
      rw [t, e5]
      exact if_neg n1
    have z13 : y6 0 13 = m3 1 9 := by rw [e6, mu_a (by decide), e5, mu_s]
    rcases R with ⟨R1, R2, R3⟩ | ⟨M', b1, R1, R2, R3, R4, R5, R6, R7, R8⟩
    · -- a fault
      rcases A with ⟨c, _⟩ | ⟨_, A⟩
      · rw [z13] at c; exact absurd c R1.2.2
      · have A2 : a' = y6 := congrArg (fun z => z.2.2) A
        have A1 : rl = [(1, s32 ((-2) - (y6 (y6 0 0) 10)))] := congrArg (fun z => z.2.1) A
        have R2 : rl' = [(1, s32 (-2 - b' 148 11))] := R2
        have hcc : C2 m3 b' := C2_w2 hc fr R3
        rw [A2, A1]
        refine ⟨C2_fr hcc (fun x k q => f6 x k (by unfold PCs at q; omega) (by unfold PCs at q; omega)) (fun _ _ _ => rfl), ?_⟩
        have e10 : y6 (y6 0 0) 10 = b' 148 11 := by rw [f6 0 0 (by omega) (by omega), x00, f6 1 10 (by omega) (by omega)]; exact R1.2.1
        rw [e10, R2]
    · -- read well
      obtain ⟨⟨R1p, R19, R110⟩, hC, hL⟩ := R1
      rcases A with ⟨_, y13, e13, A⟩ | ⟨c, _⟩
      · have w14 := hC.1.2.1.bn
        have w18 : b1 148 18 = 154 := by rw [R7 _ _ (by unfold Wb2; omega)]; exact u18
        have w37 : b1 148 37 = 165 := by rw [R7 _ _ (by unfold Wb2; omega)]; exact u37
        rw [L219_ok w18 w14] at R6
        have Fn : Fr (fun x k => x = 154 ∧ 0 ≤ k) b1 (fm b1 154 (0 + 0) (0 + 122) (fun j => s32 (b1 150 (92 + j)))) := (Fr.rf _ _).fl fun j j0 j1 => ⟨rfl, by omega⟩
        have Vn : ∀ j, 0 ≤ j → j < 122 → (fm b1 154 (0 + 0) (0 + 122) (fun j => s32 (b1 150 (92 + j)))) 154 j = s32 (b1 150 (92 + j)) := fun j j0 j1 => fm_i (by omega) (by omega)
        revert R6 Fn Vn
        generalize fm b1 154 (0 + 0) (0 + 122) (fun j => s32 (b1 150 (92 + j))) = n1
        intro R6 Fn Vn
        have en : ∀ x k, x ≠ 154 → n1 x k = b1 x k := fun x k q => Fn x k (by omega)
        have hC6 : C2 y6 n1 := C2_fr hC (fun x k q => f6 x k (by unfold PCs at q; omega) (by unfold PCs at q; omega)) (fun x k q => en x k (by unfold PJs at q; omega))
        have hL6 : BLay y6 n1 := by
          obtain ⟨⟨q1, q2, q3, q4, q5, q6⟩, q7⟩ := hL
          refine ⟨⟨?_, ?_, ?_, ?_, ?_, ?_⟩, ?_⟩
          · rw [f6 _ _ (by omega) (by omega)]; exact q1
          · rw [f6 _ _ (by omega) (by omega)]; exact q2
          · rw [f6 _ _ (by omega) (by omega)]; exact q3
          · rw [f6 _ _ (by omega) (by omega)]; exact q4
          · rw [f6 _ _ (by omega) (by omega)]; exact q5
          · rw [f6 _ _ (by omega) (by omega)]; exact q6
          · rw [en _ _ (by decide)]; exact q7
        obtain ⟨T1, T2⟩ := trial_ok hC6
        rw [hC6.1.1.2.2.2, hC6.1.1.2.1] at e13
        rw [← e13] at T1 T2
        have p13 : ∀ x k, x < 22 ∨ (x = 22 ∧ k < 7) ∨ 28 < x ∨ k < 0 → y13 x k = y6 x k := fun x k q => T2 x k (by unfold PSt; omega)
        have hL13 : BLay y13 n1 := by
          obtain ⟨⟨q1, q2, q3, q4, q5, q6⟩, q7⟩ := hL6
          refine ⟨⟨?_, ?_, ?_, ?_, ?_, ?_⟩, q7⟩
          · rw [p13 _ _ (by omega)]; exact q1
          · rw [p13 _ _ (by omega)]; exact q2
          · rw [p13 _ _ (by omega)]; exact q3
          · rw [p13 _ _ (by omega)]; exact q4
          · rw [p13 _ _ (by omega)]; exact q5
          · rw [p13 _ _ (by omega)]; exact q6
        have hC13 : C2 y13 n1 := C2_fr hC6 (fun x k q => p13 x k (by unfold PCs at q; omega)) (fun _ _ _ => rfl)
        have cnt3 : y13 96 3 = m3 96 3 := by rw [p13 _ _ (by omega), f6 _ _ (by omega) (by omega)]
        have cnt8 : n1 148 38 = m3 96 3 := by rw [en _ _ (by decide), R2]
        have hv13 : ∀ i, 0 ≤ i → i < m3 96 3 → Lv y13 n1 i := fun i i0 i1 => by
          have q := R5 i i0 i1
          unfold Lv Is at *
          have e : ∀ x k, x = 97 ∨ x = 98 ∨ x = 99 ∨ x = 3 → y13 x k = m3 x k := fun x k q => by rw [p13 _ _ (by omega), f6 _ _ (by omega) (by omega)]
          rw [e 97 i (by omega), e 98 i (by omega), e 99 i (by omega), e 3 6 (by omega), e 3 7 (by omega), en 164 _ (by decide), en 164 _ (by decide), en 164 _ (by decide)]
          exact q
        have w37' : n1 148 37 = 165 := by rw [en _ _ (by decide)]; exact w37
        have w18' : n1 148 18 = 154 := by rw [en _ _ (by decide)]; exact w18
        have x10 : y13 0 10 = 96 := by rw [p13 _ _ (by omega), f6 _ _ (by omega) (by omega), fr _ _ (by unfold Wa2 WA; omega)]; exact t10
        have hSn := hC13.1.2.1
        -- what was so, from beside
        have hAs : ∀ (aa bb : MM), (∀ x k, (x = 15 ∧ 7 ≤ k) ∨ (16 ≤ x ∧ x ≤ 21 ∧ 0 ≤ k) ∨ (3 ≤ x ∧ x ≤ 8 ∧ 0 ≤ k) → aa x k = y13 x k) → (∀ k, 0 ≤ k → k < 122 → bb 150 (92 + k) = s32 (n1 154 k)) → Sn aa bb 3 15 150 0 := fun aa bb h1 h2 => by
          refine Sn_cp hSn.2.2 (h1 _ _ (by omega)) hSn.f.2.2 (fun f f0 f1 => (hSn.sp f0 f1).2) (fun f f0 f1 => ⟨h1 _ _ (by omega), h1 _ _ (by omega)⟩) ⟨h1 _ _ (by omega), h1 _ _ (by omega)⟩ (fun j q1 q2 => h1 _ _ (by omega)) (fun i j q1 q2 q3 q4 => h1 _ _ (by omega)) (fun j q1 q2 => h1 _ _ (by omega)) (fun j q1 q2 => Or.inr ?_)
          have := h2 (j - 92) (by omega) (by omega)
          rw [show 92 + (j - 92) = j by omega, Vn (j - 92) (by omega) (by omega), show 92 + (j - 92) = j by omega, s32_s32, ← en 150 _ (by decide)] at this
          rw [Int.zero_add]
          exact this
        rcases A with ⟨l0, y33, e33, A⟩ | ⟨l0, y20, e20, A⟩
        · -- judged
          rw [hC13.1.1.2.2.2, x10] at e33 A
          obtain ⟨n', y11, k, w, g1, g2, g3, g4, g5, g6, g7, g8, g9⟩ := thruG (Or.inr rfl) T1 hL13 cnt3 cnt8 w37' R3 R4 hv13 R6
          rw [← e33] at g1 g2 g7 g9
          cases A
          have g5 : rl' = _ := g5
          have g6 : b' = g281 y11 148 (if lv = 1 ∧ 0 < k then 1 else 0) := g6
          refine ⟨?_, g5.symm⟩
          rw [if_neg (show ¬ (lv = 1 ∧ 0 < k) by omega)] at g6
          have eg : g281 y11 148 0 = (L281_2 y11 148 0 0 0).2.2.2.2 := rfl
          rw [eg] at g6
          obtain ⟨s1, s2⟩ := swap_ok (b := y11) (z := 0) (by rw [g4 _ _ (by omega), g3 _ _ (by unfold Qb; omega)]; exact w18') (by rw [g4 _ _ (by omega), g3 _ _ (by unfold Qb; omega)]; exact hC13.1.2.1.bn)
          rw [← g6] at s1 s2
          have ea : ∀ x j, x < 22 ∨ (x = 22 ∧ j < 7) ∨ (28 < x ∧ x < 96) ∨ 96 < x ∨ j < 0 → a' x j = y13 x j := fun x j q => g2 x j (by unfold Qa; omega)
          have eb : ∀ x j, x ≠ 154 → x ≠ 165 → ¬ (x = 148 ∧ j = 39) → ¬ (x = 150 ∧ 92 ≤ j) → b' x j = n1 x j := fun x j q1 q2 q3 q4 => by rw [s1 _ _ (by omega), g4 _ _ (by omega), g3 _ _ (by unfold Qb; omega)]
          exact C2_sn hC13 (fun x j q => ea x j (by unfold PCs at q; omega)) (fun x j q q2 => eb x j (by unfold PJs at q; omega) (by unfold PJs at q; omega) (by unfold PJs at q; omega) q2) (hAs _ _ (fun x j q => ea x j (by omega)) (fun j j0 j1 => by rw [(s2 j j0 j1).1, g4 _ _ (by omega), g3 _ _ (by unfold Qb; omega)]))
        · -- lived
          have l1 : lv = 1 := by omega
          rw [hC13.1.1.2.1, x10] at e20 A
          obtain ⟨n', y11, k, w, g1, g2, g3, g4, g5, g6, g7, g8, g9⟩ := thruG (Or.inl rfl) hSn hL13 cnt3 cnt8 w37' R3 R4 hv13 R6
          rw [← e20] at g1 g2 g7 g9
          have ea : ∀ x j, x < 15 ∨ (x = 15 ∧ j < 7) ∨ (21 < x ∧ x < 96) ∨ 96 < x ∨ j < 0 ∨ (x = 96 ∧ j < 4) → y20 x j = y13 x j := fun x j q => g2 x j (by unfold Qa; omega)
          have z10 : y20 0 10 = 96 := by rw [ea _ _ (by omega)]; exact x10
          rw [z10, g7] at A
          have q18 : y11 148 18 = 154 := by rw [g4 _ _ (by omega), g3 _ _ (by unfold Qb; omega)]; exact w18'
          have q14 : y11 148 14 = 150 := by rw [g4 _ _ (by omega), g3 _ _ (by unfold Qb; omega)]; exact hC13.1.2.1.bn
          rcases A with ⟨c, A⟩ | ⟨c, y27, e27, A⟩
          · cases A
            have g5 : rl' = _ := g5
            have g6 : b' = g281 y11 148 (if lv = 1 ∧ 0 < k then 1 else 0) := g6
            refine ⟨?_, g5.symm⟩
            rw [if_neg (show ¬ (lv = 1 ∧ 0 < k) by omega)] at g6
            have eg : g281 y11 148 0 = (L281_2 y11 148 0 0 0).2.2.2.2 := rfl
            rw [eg] at g6
            obtain ⟨s1, s2⟩ := swap_ok (b := y11) (z := 0) q18 q14
            rw [← g6] at s1 s2
            have eb : ∀ x j, x ≠ 154 → x ≠ 165 → ¬ (x = 148 ∧ j = 39) → ¬ (x = 150 ∧ 92 ≤ j) → b' x j = n1 x j := fun x j q1 q2 q3 q4 => by rw [s1 _ _ (by omega), g4 _ _ (by omega), g3 _ _ (by unfold Qb; omega)]
            have ez := g9 (by omega)
            exact C2_sn hC13 (fun x j q => ez x j (by unfold PCs at q; omega)) (fun x j q q2 => eb x j (by unfold PJs at q; omega) (by unfold PJs at q; omega) (by unfold PJs at q; omega) q2) (hAs _ _ (fun x j q => ez x j (by omega)) (fun j j0 j1 => by rw [(s2 j j0 j1).1, g4 _ _ (by omega), g3 _ _ (by unfold Qb; omega)]))
          · have z5 : y20 0 5 = 29 := by rw [ea _ _ (by omega)]; exact hC13.1.1.2.2.1
            have z4 : y20 0 4 = 22 := by rw [ea _ _ (by omega)]; exact hC13.1.1.2.2.2
            rw [z5, z4] at e27
            cases A
            have g5 : rl' = _ := g5
            have g6 : b' = g281 y11 148 (if lv = 1 ∧ 0 < k then 1 else 0) := g6
            refine ⟨?_, g5.symm⟩
            rw [if_pos (show lv = 1 ∧ 0 < k by omega)] at g6
            have eg : g281 y11 148 1 = g284 (g276 ((L281_2 y11 148 1 0 0).2.2.2.2) 148) 148 := rfl
            rw [eg] at g6
            obtain ⟨s1, s2⟩ := swap_ok (b := y11) (z := 1) q18 q14
            revert s1 s2 g6
            generalize (L281_2 y11 148 1 0 0).2.2.2.2 = n2
            intro g6 s1 s2
            have eb : ∀ x j, x ≠ 154 → x ≠ 165 → ¬ (x = 148 ∧ j = 39) → ¬ (x = 150 ∧ 92 ≤ j) → n2 x j = n1 x j := fun x j q1 q2 q3 q4 => by rw [s1 _ _ (by omega), g4 _ _ (by omega), g3 _ _ (by unfold Qb; omega)]
            -- the standing beside is what was so
            have hT2 : Sn y20 n2 3 22 150 0 := by
              refine Sn_cp T1.2.2 (ea _ _ (by omega)) T1.f.2.2 (fun f f0 f1 => (T1.sp f0 f1).2) (fun f f0 f1 => ⟨ea _ _ (by omega), ea _ _ (by omega)⟩) ⟨ea _ _ (by omega), ea _ _ (by omega)⟩ (fun j q1 q2 => ea _ _ (by omega)) (fun i j q1 q2 q3 q4 => ea _ _ (by omega)) (fun j q1 q2 => ea _ _ (by omega)) (fun j q1 q2 => Or.inr ?_)
              have := (s2 (j - 92) (by omega) (by omega)).1
              rw [g4 _ _ (by omega), g3 _ _ (by unfold Qb; omega), Vn (j - 92) (by omega) (by omega), show 92 + (j - 92) = j by omega, s32_s32, ← en 150 _ (by decide)] at this
              rw [Int.zero_add]
              exact this
            have hS22 : Sx y20 n2 22 := Sx_mk T1 (fun x j q0 q1 j0 => ea x j (by omega)) (fun j j0 j1 => ea _ _ (by omega)) (ea _ _ (by omega)) (eb _ _ (by decide) (by decide) (by decide) (by decide)) (fun j j0 j1 => eb _ _ (by decide) (by decide) (by omega) (by omega)) hT2
            have hU2 : Un y20 n2 := Un_fr hC13.1.2.2 (fun x j q => ea x j (by omega)) (fun j => eb _ _ (by decide) (by decide) (by omega) (by omega)) (eb _ _ (by decide) (by decide) (by omega) (by omega)) (eb _ _ (by decide) (by decide) (by omega) (by omega))
            obtain ⟨k1, k2, k3, k4⟩ := p_keep hS22 (Or.inr rfl) hU2
            rw [← e27] at k1 k2 k4
            rw [L284_ok (by rw [k3 _ _ (by unfold Qv; omega), s1 _ _ (by omega)]; exact q18) k4.bn] at g6
            have Fb' : Fr (fun x j => x = 150 ∧ 92 ≤ j ∧ j < 214) (g276 n2 148) b' := by rw [g6]; exact (Fr.rf _ _).fl fun j j0 j1 => ⟨rfl, by omega, by omega⟩
            have Vb' : ∀ j, 92 ≤ j → j < 214 → b' 150 j = s32 ((g276 n2 148) 154 (j - 92)) := fun j j0 j1 => by rw [g6, fm_i (by omega) (by omega)]
            have ek : ∀ x j, x < 29 ∨ 86 < x → a' x j = y20 x j := fun x j q => k2 x j (by unfold Qu; omega)
            have hn : Sn a' b' 3 15 150 0 := by
              refine Sn_cp g1.2.2 (ek _ _ (by omega)) g1.f.2.2 (fun f f0 f1 => (g1.sp f0 f1).2) (fun f f0 f1 => ⟨ek _ _ (by omega), ek _ _ (by omega)⟩) ⟨ek _ _ (by omega), ek _ _ (by omega)⟩ (fun j q1 q2 => ek _ _ (by omega)) (fun i j q1 q2 q3 q4 => ek _ _ (by omega)) (fun j q1 q2 => ek _ _ (by omega)) (fun j q1 q2 => Or.inr ?_)
              have := (s2 (j - 92) (by omega) (by omega)).2
              rw [g4 _ _ (by omega), show 92 + (j - 92) = j by omega] at this
              rw [Int.zero_add, Vb' j q1 q2, k3 _ _ (by unfold Qv; omega), this, s32_s32]
            have hu : Un a' b' := Un_fr k1 (fun _ _ _ => rfl) (fun j => Fb' _ _ (by omega)) (Fb' _ _ (by omega)) (Fb' _ _ (by omega))
            refine C2_mk hC13 (fun x j q n1' n2' n3' => ?_) (fun x j q n1' n2' n3' => ?_) hn hu
            · rw [ek x j (by omega)]
              exact ea x j (by unfold PCs at q; omega)
            · rw [Fb' x j (by omega), k3 x j (by unfold Qv; omega)]
              exact eb x j (by unfold PJs at q; omega) (by unfold PJs at q; omega) (by unfold PJs at q; omega) n1'
      · rw [z13] at c; exact absurd R19 c
  · -- neither
    rcases A with ⟨c, _⟩ | ⟨_, A⟩
    · omega
    · rcases A with ⟨c, _⟩ | ⟨_, A⟩
      · omega
      · obtain ⟨y1, e1, B⟩ := k171_0 rb
        have e9 : f209 y1 lv 0 1 = 0 := by
          rcases f209_01 y1 lv with ⟨c, d⟩ | ⟨c, d⟩
          · exact c
          · omega
        rcases B with ⟨_, B⟩ | ⟨d, _⟩
        · cases A; cases B
          rw [e1]
          exact ⟨C2_fr hc (fun _ _ _ => rfl) (fun x j q => by
            by_cases c : x = 148
            · rw [c, mu_k (by unfold PJs at q; omega)]
            · rw [mu_a c]), rfl⟩
        · exact absurd e9 d
