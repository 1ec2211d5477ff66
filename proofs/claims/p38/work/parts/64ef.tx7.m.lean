section
/-! Sentences: ALLs and ORs read, with what they say. -/
set_option maxRecDepth 16384 in
/-- what is said so far of a CONDITION, an OR waiting or not -/
def OrQ (s : Int) (x y : MM) (l l1 b1 p cO : Int) : Prop := (p = 0 ∧ RpS s x y l l1 b1 cO) ∨ (p = 1 ∧ ∃ mm n1 n2 c1 c2, RpS s x y l mm n1 c1 ∧ RpS s x y mm l1 n2 c2 ∧ cO = c1 + c2 ∧ 0 ≤ b1 ∧ b1 < y 148 41 ∧ y 166 (4 * b1) = 3 ∧ y 166 (4 * b1 + 1) = n1 ∧ y 166 (4 * b1 + 2) = n2)
set_option maxRecDepth 16384 in
theorem OrQ_w {s : Int} (hs : Sl s) {x y x0 : MM} {l l1 b1 p cO : Int} (hl : LSe x s) (h40 : x (s + 1) (-1) = 40) (l0 : 0 ≤ x s 4) (l4 : x s 4 < 40) (n5 : x s 4 = l1) (lz : 0 ≤ l) (h : OrQ s x y l l1 b1 p cO) (hx : (p = 0 ∧ x0 = x) ∨ (p = 1 ∧ x0 = g101 x s 2 0 0)) : RpS s x0 y l (l1 + p) b1 cO ∧ Gw s x y x0 y := by
  rcases h with ⟨e, h⟩ | ⟨e, mm, n1, n2, c1, c2, h1, h2, h3, h4, h5, h6, h7, h8⟩
  · rcases hx with ⟨-, hx⟩ | ⟨q, -⟩
    · rw [hx, e]
      have e0 : l1 + 0 = l1 := by omega
      rw [e0]
      exact ⟨h, Gw.rf _ _ _⟩
    · omega
  · rcases hx with ⟨q, -⟩ | ⟨-, hx⟩
    · omega
    · obtain ⟨-, -, c3', -⟩ := g101_c hs hl h40 l0 l4 2 0 0
      obtain ⟨d1, -, -, d4⟩ := g101_v hs hl h40 l0 l4 2 0 0
      have hG : Gw s x y x0 y := by
        rw [hx]
        exact ⟨⟨by omega, fun k k0 k1 => d4 k (by omega)⟩, Int.le_refl _, fun _ _ _ => rfl⟩
      rw [s32_id (z := 2) (by decide) (by decide), n5, ← hx] at d1
      have hm := h1.lt
      have hm2 := h2.lt
      rw [e, h3]
      exact ⟨(h1.gw hG lz (by omega)).two (h2.gw hG (by omega) (by omega)) h4 h5 (Or.inr ⟨d1, h6⟩) h7 h8, hG⟩
section CHAIN
variable {X : KO} {ρ : Nat → Int32} {t : Int → Int} {L s w o l : Int}
set_option maxRecDepth 16384 in
/-- over the ANDs -/
theorem aCr (hX : XW X) (hS : XS X) (hs : Sl s) (h1 : H1r X ρ t L s w) (l0 : l ≤ 2 * o) (o0 : 0 ≤ o) : ∀ (K N M : Nat) (x y : MM) (oA : Instr × List (Nat × Int) × MM) (o1 l1 m p c b1 lA cA : Int) (ig' : Instr) (rl' : List (Nat × Int)) (y' : MM), y 148 41 = l1 → 0 ≤ lA → RpS s x y lA l1 b1 cA → SCx X t L s x y → SNx s x y o1 l1 w → (p = 0 ∨ p = 1) → 0 ≤ m → m + 1 ≤ o1 → 20 - o1 < (K : Int) → Bd o l o1 l1 p → MR X ρ 8 0 0 qP95 N 15 [s, 1, 3, w, 1, p, m, c] [] x oA → MR X ρ 2 0 0 qP240 M 14 [148, b1] [] y (ig', rl', y') → Fr PB y y' ∧ ((rl' = [(1, 0)] ∧ oA.2.1 = [(1, 0)] ∧ FL oA.2.2 y' ∧ Fr (PA s) x oA.2.2) ∨ (rl' = [(1, 1)] ∧ ∃ (N' : Nat) (x1 : MM) (o2 l2 m' c' : Int), MR X ρ 8 0 0 qP95 N' 15 [s, 1, 3, w, 1, p, m', c'] [] x1 oA ∧ Fr (PA s) x x1 ∧ SCx X t L s x1 y' ∧ SNx s x1 y' o2 l2 w ∧ o1 ≤ o2 ∧ 0 ≤ m' ∧ m' + 1 ≤ o2 ∧ Bd o l o2 l2 p ∧ f217 y' 148 17 = 0 ∧ Gw s x y x1 y' ∧ y' 148 41 = l2 ∧ ∃ c3, RpS s x1 y' lA l2 (y' 148 44) c3 ∧ c3 ≤ cA + (o2 - o1))) := by
  intro K
  induction K with
  | zero =>
    intro N M x y oA o1 l1 m p c b1 lA cA ig' rl' y' hM hA hR hC hN hp m0 m1 hK
    have := hN.1.2.2.2
    omega
  | succ K ih =>
    intro N M x y oA o1 l1 m p c b1 lA cA ig' rl' y' hM hA hR hC hN hp m0 m1 hK hB ra rb
    have hN' := hN
    obtain ⟨⟨n1, n2, n3, n4⟩, ⟨n5, n6, n7⟩, n8, n9, n10⟩ := hN
    have p1 := hC.1.1.2
    have np5 : ¬ P148 s 5 := by unfold P148; unfold Sl at hs; omega
    have np4 : ¬ P148 s 4 := by unfold P148; unfold Sl at hs; omega
    have np1 : ∀ k, ¬ P148 (s + 1) k := fun k => by unfold P148; unfold Sl at hs; omega
    have np2 : ∀ k, ¬ P148 (s + 2) k := fun k => by unfold P148; unfold Sl at hs; omega
    have np3 : ∀ k, ¬ P148 (s + 3) k := fun k => by unfold P148; unfold Sl at hs; omega
    have B := s240_14 rb
    rcases B with ⟨d, y7, e7, B⟩ | ⟨d, m9, r9, v14, m12, r12, hv, B⟩
    · cases B
      have e41 : y' 148 41 = y 148 41 := by rw [e7, mu_k (by decide)]
      have hG : Gw s x y x y' := Gw.of rfl (fun _ => ⟨rfl, rfl, rfl⟩) e41 (fun k => by rw [e7]; exact mu_a (by decide))
      have f0 : Fr PB0 y y' := by rw [e7]; exact (Fr.rf _ _).mu (Or.inl ⟨rfl, by decide, by decide⟩)
      refine ⟨f0.mo fun x k q => Or.inr q, Or.inr ⟨rfl, N, x, o1, l1, m, c, ra, Fr.rf _ _, SC_0 hs hC (Fr.rf _ _) f0, ⟨⟨n1, ?_, n3, n4⟩, ⟨n5, n6, n7⟩, ?_, n9, n10⟩, Int.le_refl _, m0, m1, hB, ?_, hG, by rw [e41, hM], cA, ?_, by omega⟩⟩
      · rw [e7, mu_k (by decide)]; exact n2
      · rw [e7, mu_k (by decide)]; exact n8
      · rw [f217_e (b := y) (by rw [e7, mu_k (by decide)]) (by rw [e7, mu_k (by decide)])]; exact d
      · have e44 : y' 148 44 = b1 := by rw [e7, mu_s]
        rw [e44]
        exact hR.gw hG hA (by omega)
    · have ha : ¬ f155 X x 1 1000029 = 0 := by rw [w17 hS p1]; exact d
      obtain ⟨m48, r48, v, m51, r51, hv2, C⟩ := cAnd hp m0 (by omega) ha ra
      obtain ⟨g1, g2, g3, g4, g5⟩ := SC_go hX hs hC (Fr.rf _ _) r48 r9
      have hN1 : SNx s m48 m9 o1 l1 w := ⟨⟨by rw [g2 _ _ np5]; exact n1, by rw [g3 148 42 (by unfold P195; omega)]; exact n2, n3, n4⟩, ⟨by rw [g2 _ _ np4]; exact n5, n6, n7⟩, by rw [g3 148 43 (by unfold P195; omega)]; exact n8, n9, n10⟩
      have e41 : m9 148 41 = l1 := by rw [g3 148 41 (by unfold P195; omega)]; exact hM
      have hG1 : Gw s x y m48 m9 := Gw.of (g2 _ _ np4) (fun k => ⟨g2 _ k (np1 k), g2 _ k (np2 k), g2 _ k (np3 k)⟩) (by rw [e41, hM]) (fun k => g3 _ _ (by unfold P195; omega))
      obtain ⟨k1, k2, k3⟩ := h1 _ _ _ _ _ _ _ _ g1 hN1 e41 r51 r12
      unfold Bd at hB
      rcases k3 with ⟨x1, x2, x3⟩ | ⟨x1, x2, x3, o', l', ⟨⟨q1, q2, q3, q4⟩, ⟨q5, q6, q7⟩, q8, -⟩, q11, q12, q13, q14, cc, q15, q16⟩
      · rcases C with ⟨-, N', c', C⟩ | ⟨q, _⟩
        · rcases B with ⟨-, B⟩ | ⟨q, _⟩
          · have C := c0 C
            cases B
            rw [C]
            exact ⟨g5.tr k2, Or.inl ⟨rfl, rfl, x3, g4.tr k1⟩⟩
          · exact absurd x2 q
        · exact absurd x1 q
      · rcases C with ⟨q, _⟩ | ⟨-, C⟩
        · omega
        rcases B with ⟨q, _⟩ | ⟨-, y21, f21, M', -, B⟩
        · omega
        obtain ⟨j1, j2, j3, j4, j5, j6, j7, j8⟩ := wrS (z := y21) hs x3 (by omega) (by omega) 1 0 0 2 b1 (m12 148 44) 0 (by rw [f21]; exact Fr.rf _ _)
        obtain ⟨r1, r2, ⟨r3, -, -⟩, r6, r7, r8, -⟩ := wrR (z := y21) hs x3 (by omega) (by omega) (by omega) (by omega) 1 0 0 2 b1 (m12 148 44) 0 (by rw [f21]; exact Fr.rf _ _)
        have hb1 := hR.n
        have hn := q15.n
        have hA1 := hR.lt
        rw [s32_id (z := 1) (by decide) (by decide), q5] at r3
        rw [s32_id (z := 2) (by decide) (by decide)] at r6
        rw [s32_id (z := b1) (by omega) (by omega)] at r7
        rw [s32_id (z := m12 148 44) (by omega) (by omega)] at r8
        have e268 : f268 m12 148 2 b1 (m12 148 44) 0 = m12 148 41 := (g268_v x3.2.2.2 (by omega) (by omega) _ _ _ _).2.1
        have hR2 := (((hR.gw hG1 hA (by omega)).gw q13 hA (by rw [g2 _ _ np4]; omega)).gw r1 hA (by have hq := q13.1.1; rw [g2 _ _ np4] at hq; omega)).two (q15.gw r1 n6 (by omega)) (n' := m12 148 41) (by omega) (by omega) (Or.inl ⟨r3, r6⟩) r7 r8
        rw [← e268] at hR2
        rcases C with q | ⟨N', c', C⟩
        · rw [j1] at q; exact absurd q (by decide)
        obtain ⟨z1, z2⟩ := ih N' M' _ y21 oA o' (l' + 1) (m + 1) p c' _ lA (cA + cc) ig' rl' y' (by rw [r2, q14]) hA hR2 j2 ⟨⟨by rw [j5]; exact q1, by rw [j6]; exact q2, q3, q4⟩, ⟨by rw [j7, q5], by omega, by omega⟩, by rw [j8]; exact q8, n9, n10⟩ hp (by omega) (by omega) (by omega) (by unfold Bd; omega) C B
        refine ⟨((g5.tr k2).tr j4).tr z1, ?_⟩
        rcases z2 with ⟨y1, y2, y3, y4⟩ | ⟨y1, N2, x2', o2, l2, m2, c2, y2, y3, y4, y5, y6, y7, y8, y9, y10, y11, y12, c3, y13, y14⟩
        · exact Or.inl ⟨y1, y2, y3, ((g4.tr k1).tr j3).tr y4⟩
        · exact Or.inr ⟨y1, N2, x2', o2, l2, m2, c2, y2, ((g4.tr k1).tr j3).tr y3, y4, y5, by omega, y7, y8, y9, y10, ((hG1.tr q13).tr r1).tr y11, y12, c3, y13, by omega⟩
set_option maxRecDepth 16384 in
/-- over the ORs -/
theorem oCr (hX : XW X) (hS : XS X) (hs : Sl s) (h1 : H1r X ρ t L s w) (l0 : l ≤ 2 * o) (lz : 0 ≤ l) (o0 : 0 ≤ o) : ∀ (K N M : Nat) (x y : MM) (ig ig' : Instr) (rl rl' : List (Nat × Int)) (x' y' : MM) (o1 l1 m p c b1 cO : Int), y 148 41 = l1 + p → OrQ s x y l l1 b1 p cO → cO ≤ o1 - o → SCx X t L s x y → SNx s x y o1 l1 w → (p = 0 ∨ p = 1) → 0 ≤ m → m + 1 ≤ o1 → 20 - o1 < (K : Int) → Bd o l o1 l1 p → f217 y 148 17 = 0 → MR X ρ 8 0 0 qP95 N 15 [s, 1, 3, w, 1, p, m, c] [] x (ig, rl, x') → MR X ρ 2 0 0 qP256 M 14 [148, b1] [] y (ig', rl', y') → Fr (PA s) x x' ∧ Fr PB y y' ∧ ((rl = [(1, 0)] ∧ rl' = [(1, 0)] ∧ FL x' y') ∨ (rl = [(1, 1)] ∧ rl' = [(1, 1)] ∧ SCx X t L s x' y' ∧ ∃ o' l', SNx s x' y' o' l' w ∧ o1 ≤ o' ∧ l' - l ≤ 2 * (o' - o) - 1 ∧ Gw s x y x' y' ∧ y' 148 41 = l' ∧ ∃ c3, RpS s x' y' l l' (y' 148 44) c3 ∧ c3 ≤ o' - o)) := by
  intro K
  induction K with
  | zero =>
    intro N M x y ig ig' rl rl' x' y' o1 l1 m p c b1 cO hM hQ hO hC hN hp m0 m1 hK
    have := hN.1.2.2.2
    omega
  | succ K ih =>
    intro N M x y ig ig' rl rl' x' y' o1 l1 m p c b1 cO hM hQ hO hC hN hp m0 m1 hK hB h17 ra rb
    have hN' := hN
    obtain ⟨⟨n1, n2, n3, n4⟩, ⟨n5, n6, n7⟩, n8, n9, n10⟩ := hN
    have p1 := hC.1.1.2
    have np5 : ¬ P148 s 5 := by unfold P148; unfold Sl at hs; omega
    have np4 : ¬ P148 s 4 := by unfold P148; unfold Sl at hs; omega
    have np1 : ∀ k, ¬ P148 (s + 1) k := fun k => by unfold P148; unfold Sl at hs; omega
    have np2 : ∀ k, ¬ P148 (s + 2) k := fun k => by unfold P148; unfold Sl at hs; omega
    have np3 : ∀ k, ¬ P148 (s + 3) k := fun k => by unfold P148; unfold Sl at hs; omega
    have ha : f155 X x 1 1000029 = 0 := by rw [w17 hS p1]; exact h17
    unfold Bd at hB
    have l39 : l1 + p ≤ 39 := by omega
    have l0' : 0 ≤ x s 4 := by omega
    have l1' : x s 4 < 40 := by omega
    have m19 : m ≤ 19 := by omega
    have q101 := g101_c hs hC.2.2.1.1 hC.2.2.1.2 l0' l1' 2 0 0
    have hW := fun x0 (hx : (p = 0 ∧ x0 = x) ∨ (p = 1 ∧ x0 = g101 x s 2 0 0)) => OrQ_w hs hC.2.2.1.1 hC.2.2.1.2 l0' l1' n5 lz hQ hx
    have B := s256_14 rb
    rcases B with ⟨d, y7, e7, B⟩ | ⟨d, m9, r9, v14, m12, r12, hv, B⟩
    · have hb : f155 X x 1 1000030 = 0 := by rw [w16 hS p1]; exact d
      have f0 : Fr PB0 y y7 := by rw [e7]; exact (Fr.rf _ _).mu (Or.inl ⟨rfl, by decide, by decide⟩)
      have y42 : y7 148 42 = o1 := by rw [e7, mu_k (by decide)]; exact n2
      have y43 : y7 148 43 = w - 1 := by rw [e7, mu_k (by decide)]; exact n8
      have e41 : y7 148 41 = l1 + p := by rw [e7, mu_k (by decide)]; exact hM
      have e44 : y7 148 44 = b1 := by rw [e7, mu_s]
      have hG7 : ∀ z, Gw s z y z y7 := fun z => Gw.of rfl (fun _ => ⟨rfl, rfl, rfl⟩) (by rw [e41, hM]) (fun k => by rw [e7]; exact mu_a (by decide))
      have C := cEnd hp m19 ha hb ra
      cases B
      rcases C with ⟨ep, C⟩ | ⟨ep, C⟩
      · cases C
        exact ⟨Fr.rf _ _, f0.mo fun x k q => Or.inr q, Or.inr ⟨rfl, rfl, SC_0 hs hC (Fr.rf _ _) f0, o1, l1, ⟨⟨n1, y42, n3, n4⟩, ⟨n5, n6, n7⟩, y43, n9, n10⟩, Int.le_refl _, by omega, hG7 _, by rw [e41]; omega, cO, by
          have := (hW x (Or.inl ⟨ep, rfl⟩)).1.gw (hG7 x) lz (by omega)
          rw [ep] at this
          rw [e44]
          have e0 : l1 + 0 = l1 := by omega
          rw [e0] at this
          exact this, hO⟩⟩
      · obtain ⟨j1, j2, j3, j4⟩ := q101
        rcases C with q | C
        · rw [j1] at q; exact absurd q (by decide)
        · cases C
          exact ⟨j2.mo fun x k q => Or.inr q, f0.mo fun x k q => Or.inr q, Or.inr ⟨rfl, rfl, SC_0 hs hC j2 f0, o1, l1 + 1, ⟨⟨by rw [j4]; exact n1, y42, n3, n4⟩, ⟨by rw [j3, n5], by omega, by omega⟩, y43, n9, n10⟩, Int.le_refl _, by omega, (hW _ (Or.inr ⟨ep, rfl⟩)).2.tr (hG7 _), by rw [e41, ep], cO, by
            have := (hW _ (Or.inr ⟨ep, rfl⟩)).1.gw (hG7 _) lz (by omega)
            rw [ep] at this
            rw [e44]
            exact this, hO⟩⟩
    · have hb : ¬ f155 X x 1 1000030 = 0 := by rw [w16 hS p1]; exact d
      obtain ⟨x0, hx0, m92, r92, v, m95, r95, hv2, C⟩ := cOr hp m0 m19 ha hb ra
      have hX0 : Fr (PA0 s) x x0 ∧ x0 s 4 = l1 + p ∧ x0 s 5 = o1 := by
        rcases hx0 with ⟨e1, e2⟩ | ⟨e1, e2⟩
        · rw [e2, e1]; exact ⟨Fr.rf _ _, by omega, n1⟩
        · obtain ⟨j1, j2, j3, j4⟩ := q101
          rw [e2, e1]
          exact ⟨j2, by rw [j3, n5], by rw [j4]; exact n1⟩
      obtain ⟨fx0, e4, e5⟩ := hX0
      obtain ⟨hR0, hG0⟩ := hW x0 hx0
      have hC0 := SC_0 hs hC fx0 (Fr.rf PB0 y)
      obtain ⟨g1, g2, g3, g4, g5⟩ := SC_go hX hs hC0 (Fr.rf _ _) r92 r9
      have g4 : Fr (PA s) x m92 := (fx0.mo fun x k q => Or.inr q).tr g4
      have m42 : m9 148 42 = o1 := by rw [g3 148 42 (by unfold P195; decide)]; exact n2
      have m43 : m9 148 43 = w - 1 := by rw [g3 148 43 (by unfold P195; decide)]; exact n8
      have hp0 : 0 ≤ p := by
        rcases hp with e | e
        · rw [e]; decide
        · rw [e]; decide
      have hp1 : p ≤ 1 := by
        rcases hp with e | e
        · rw [e]; decide
        · rw [e]; decide
      have lb : 0 ≤ l1 + p ∧ l1 + p ≤ 2 * o1 := ⟨by omega, by omega⟩
      have hN1 : SNx s m92 m9 o1 (l1 + p) w := ⟨⟨by rw [g2 _ _ np5]; exact e5, m42, n3, n4⟩, ⟨by rw [g2 _ _ np4]; exact e4, lb.1, lb.2⟩, m43, n9, n10⟩
      obtain ⟨Nb, igb, r12⟩ := Run_CR r12 rfl
      have r12 : MR X ρ 2 0 0 qP240 Nb 0 [148, 0] [] m9 (igb, [(1, v14)], m12) := r12
      obtain ⟨v4, m2, r4, hv4, D⟩ := s240_0 r12
      have e41 : m9 148 41 = l1 + p := by rw [g3 148 41 (by unfold P195; decide)]; exact hM
      have hG1 : Gw s x0 y m92 m9 := Gw.of (g2 _ _ np4) (fun k => ⟨g2 _ k (np1 k), g2 _ k (np2 k), g2 _ k (np3 k)⟩) (by rw [e41, hM]) (fun k => g3 _ _ (fun q => absurd q.1 (by decide)))
      obtain ⟨k1, k2, k3⟩ := h1 _ _ _ _ _ _ _ _ g1 hN1 e41 r95 r4
      rcases k3 with ⟨x1, x2, x3⟩ | ⟨x1, x2, x3, o', l', q10, q11, q12, q13, q14, cc, q15, q16⟩
      · rcases C with ⟨-, N', c', C⟩ | ⟨q, _⟩
        · have C := c0 C
          rcases D with ⟨-, D⟩ | ⟨q, _⟩
          · cases D
            rcases B with ⟨-, B⟩ | ⟨q, _⟩
            · cases B; cases C
              exact ⟨g4.tr k1, g5.tr k2, Or.inl ⟨rfl, rfl, x3⟩⟩
            · exact absurd rfl q
          · exact absurd x2 q
        · exact absurd x1 q
      · rcases C with ⟨q, _⟩ | ⟨-, N', c', C⟩
        · rw [x1] at q; exact absurd q (by decide)
        rcases D with ⟨q, _⟩ | ⟨-, D⟩
        · rw [x2] at q; exact absurd q (by decide)
        have bd2 : Bd o l o' l' 1 := by unfold Bd; omega
        obtain ⟨z1, z2⟩ := aCr hX hS hs h1 l0 o0 21 N' Nb m95 m2 _ o' l' (m + 1) 1 c' _ (l1 + p) cc igb _ m12 q14 lb.1 q15 x3 q10 (Or.inr rfl) (by omega) (by omega) (by have := q10.1.2.2.1; omega) bd2 C D
        rcases z2 with ⟨y1, y2, y3, y4⟩ | ⟨y1, N2, x2', o2, l2, m2', c2, y2, y3, y4, y5, y6, y7, y8, y9, y10, y11, y12, c3, y13, y14⟩
        · have y1 : v14 = 0 := by injection y1 with a1 a2; injection a1
          rcases B with ⟨-, B⟩ | ⟨q, _⟩
          · cases B
            exact ⟨(g4.tr k1).tr y4, (g5.tr k2).tr z1, Or.inl ⟨y2, rfl, y3⟩⟩
          · exact absurd y1 q
        · have y1 : v14 = 1 := by injection y1 with a1 a2; injection a1
          rcases B with ⟨q, _⟩ | ⟨-, y21, f21, M', -, B⟩
          · rw [y1] at q; exact absurd q (by decide)
          have fg := g268_c y4.2.2.2 3 b1 (m12 148 44) 0
          rw [← f21] at fg
          have f0 : Fr PB0 m12 y21 := fg.mo fun x k q => by
            rcases q with ⟨a1, a2⟩ | a1
            · exact Or.inl ⟨a1, by rw [a2]; decide, by rw [a2]; decide⟩
            · exact Or.inr a1
          have hC2 := SC_0 hs y4 (Fr.rf _ _) f0
          have hy5 := y5
          obtain ⟨⟨u1, u2, u3, u4⟩, u5, u6, u7⟩ := y5
          have hl2 := u5
          have hv := g268_v y4.2.2.2 (by omega) (by omega) 3 b1 (m12 148 44) 0
          rw [← f21] at hv
          obtain ⟨v1, v2, v3, v4', v5, -, v6⟩ := hv
          have hG2 : Gw s x2' m12 x2' y21 := ⟨⟨Int.le_refl _, fun _ _ _ => ⟨rfl, rfl, rfl⟩⟩, by omega, fun k _ k1 => v6 k k1⟩
          have hG02 := (hG1.tr q13).tr y11
          have hRa := (hR0.gw hG02 lz (by omega)).gw hG2 lz (by have := hG02.1.1; omega)
          have hRb := y13.gw hG2 lb.1 (by omega)
          have hb1 := hR0.n
          have hb2 := y13.n
          rw [s32_id (z := 3) (by decide) (by decide)] at v3
          rw [s32_id (z := b1) (by omega) (by omega)] at v4'
          rw [s32_id (z := m12 148 44) (by omega) (by omega)] at v5
          have hQ2 : OrQ s x2' y21 l l2 (f268 m12 148 3 b1 (m12 148 44) 0) 1 (cO + c3) := by
            rw [v2]
            exact Or.inr ⟨rfl, l1 + p, b1, m12 148 44, cO, c3, hRa, hRb, rfl, by omega, by omega, v3, v4', v5⟩
          have v42 : y21 148 42 = o2 := by rw [fg 148 42 (by decide)]; exact u2
          have v43 : y21 148 43 = w - 1 := by rw [fg 148 43 (by decide)]; exact u6
          have h17' : f217 y21 148 17 = 0 := by rw [f217_e (b := m12) (fg _ _ (by decide)) (fg _ _ (by decide))]; exact y10
          obtain ⟨t1, t2, t3⟩ := ih N2 M' x2' y21 ig ig' rl rl' x' y' o2 l2 m2' 1 c2 _ (cO + c3) (by rw [v1, y12]) hQ2 (by omega) hC2 ⟨⟨u1, v42, u3, u4⟩, u5, v43, u7⟩ (Or.inr rfl) y7 y8 (by omega) y9 h17' y2 B
          refine ⟨((g4.tr k1).tr y3).tr t1, (((g5.tr k2).tr z1).tr (f0.mo fun x k q => Or.inr q)).tr t2, ?_⟩
          rcases t3 with t3 | ⟨t3, t4, t5, o9, l9, t6, t7, t8, t9, t10, t11⟩
          · exact Or.inl t3
          · exact Or.inr ⟨t3, t4, t5, o9, l9, t6, by omega, t8, ((hG0.tr hG02).tr hG2).tr t9, t10, t11⟩
set_option maxRecDepth 16384 in
theorem cond_Hr (hX : XW X) (hS : XS X) (hs : Sl s) (h1 : H1r X ρ t L s w) : H2r X ρ t L s w := by
  intro a a' b b' v v' o l hC hN hM ra rb
  obtain ⟨N, ig, ra⟩ := Run_CR ra rfl
  have ra : MR X ρ 8 0 0 qP95 N 0 [s, 1, 3, w, 0, 0, 0, 0] [] a (ig, [(1, v)], a') := ra
  obtain ⟨M, ig', rb⟩ := Run_CR rb rfl
  have rb : MR X ρ 2 0 0 qP256 M 0 [148, 0] [] b (ig', [(1, v')], b') := rb
  obtain ⟨v4, m2, r4, hv4, A⟩ := s95_0 ra
  obtain ⟨v5, n2, r5, hv5, B⟩ := s256_0 rb
  obtain ⟨Nb, igb, r5⟩ := Run_CR r5 rfl
  have r5 : MR X ρ 2 0 0 qP240 Nb 0 [148, 0] [] b (igb, [(1, v5)], n2) := r5
  obtain ⟨v6, m6, r6, hv6, D⟩ := s240_0 r5
  have hl := hN.2.1.2.2
  have lz := hN.2.1.2.1
  have ho := hN.1.2.2.1
  obtain ⟨k1, k2, k3⟩ := h1 _ _ _ _ _ _ _ _ hC hN hM r4 r6
  rcases k3 with ⟨x1, x2, x3⟩ | ⟨x1, x2, x3, o', l', q10, q11, q12, q13, q14, cc, q15, q16⟩
  · rcases D with ⟨-, D⟩ | ⟨q, _⟩
    · cases D
      rcases B with ⟨-, B⟩ | ⟨q, _⟩
      · rw [x1] at A
        have A := c0 A
        cases A; cases B
        exact ⟨k1, k2, Or.inl ⟨rfl, rfl, x3⟩⟩
      · exact absurd rfl q
    · exact absurd x2 q
  · rcases D with ⟨q, _⟩ | ⟨-, D⟩
    · rw [x2] at q; exact absurd q (by decide)
    rw [x1] at A
    have bd : Bd o l o' l' 0 := by unfold Bd; omega
    obtain ⟨z1, z2⟩ := aCr hX hS hs h1 hl ho 21 N Nb m2 m6 _ o' l' 0 0 0 _ l cc igb _ n2 q14 lz q15 x3 q10 (Or.inl rfl) (Int.le_refl _) (by omega) (by omega) bd A D
    rcases z2 with ⟨y1, y2, y3, y4⟩ | ⟨y1, N2, x2', o2, l2, m2', c2, y2, y3, y4, y5, y6, y7, y8, y9, y10, y11, y12, c3, y13, y14⟩
    · have y1 : v5 = 0 := by injection y1 with a1 a2; injection a1
      rcases B with ⟨-, B⟩ | ⟨q, _⟩
      · cases B
        have y2 : v = 0 := by
          have y2 : [(1, v)] = [((1 : Nat), (0 : Int))] := y2
          injection y2 with a1 a2; injection a1
        exact ⟨k1.tr y4, k2.tr z1, Or.inl ⟨y2, rfl, y3⟩⟩
      · exact absurd y1 q
    · have y1 : v5 = 1 := by injection y1 with a1 a2; injection a1
      rcases B with ⟨q, _⟩ | ⟨-, B⟩
      · rw [y1] at q; exact absurd q (by decide)
      obtain ⟨t1, t2, t3⟩ := oCr hX hS hs h1 hl lz ho 21 N2 M x2' n2 ig ig' _ _ a' b' o2 l2 m2' 0 c2 _ c3 (by rw [y12]; omega) (Or.inl ⟨rfl, y13⟩) (by omega) y4 y5 (Or.inl rfl) y7 y8 (by have := y5.1.2.2.1; omega) y9 y10 y2 B
      refine ⟨(k1.tr y3).tr t1, (k2.tr z1).tr t2, ?_⟩
      rcases t3 with ⟨e1, e2, e3⟩ | ⟨e1, e2, t5, o9, l9, t6, t7, t8, t9, t10, c4, t11, t12⟩
      · have e1 : v = 0 := by injection e1 with a1 a2; injection a1
        have e2 : v' = 0 := by injection e2 with a1 a2; injection a1
        exact Or.inl ⟨e1, e2, e3⟩
      · have e1 : v = 1 := by injection e1 with a1 a2; injection a1
        have e2 : v' = 1 := by injection e2 with a1 a2; injection a1
        exact Or.inr ⟨e1, e2, t5, o9, l9, t6, by omega, t8, (q13.tr y11).tr t9, t10, c4, t11, t12⟩
set_option maxRecDepth 16384 in
theorem all_Hr (hX : XW X) (hS : XS X) (hs : Sl s) : ∀ (K : Nat) (w : Int), 9 - w ≤ (K : Int) → H1r X ρ t L s w ∧ H2r X ρ t L s w := by
  intro K
  induction K with
  | zero =>
    intro w hw
    have h := one_Hr (ρ := ρ) (t := t) (L := L) hX hS hs (w := w) (fun h => by omega)
    exact ⟨h, cond_Hr hX hS hs h⟩
  | succ K ih =>
    intro w hw
    have h := one_Hr (ρ := ρ) (t := t) (L := L) hX hS hs (w := w) (fun h => ih (w + 1) (by omega))
    exact ⟨h, cond_Hr hX hS hs h⟩
end CHAIN
end
section
/-! Sentences: the relation over what is told. -/
set_option maxRecDepth 16384 in
theorem L269_v {m : MM} (h14 : m 148 14 = 150) (h40 : m 148 40 = 166) : (∀ k, 0 ≤ k → k < 240 → (L269_79 m 148 0).2.2.2 150 (216 + k) = s32 (m 166 k)) ∧ ∀ x k, ¬ (x = 150 ∧ 216 ≤ k ∧ k < 456) → (L269_79 m 148 0).2.2.2 x k = m x k := by
  unfold L269_79
  refine Lp_ind (f := K269_79 m 148 0) (P := fun t => 0 ≤ t.1 ∧ t.1 ≤ 240 ∧ (∀ k, 0 ≤ k → k < t.1 → t.2 150 (216 + k) = s32 (m 166 k)) ∧ ∀ x k, ¬ (x = 150 ∧ 216 ≤ k ∧ k < 456) → t.2 x k = m x k) (Q := fun z => (∀ k, 0 ≤ k → k < 240 → z.2.2.2 150 (216 + k) = s32 (m 166 k)) ∧ ∀ x k, ¬ (x = 150 ∧ 216 ≤ k ∧ k < 456) → z.2.2.2 x k = m x k) (fun t => (240 - t.1).toNat) ?_ (0, m) ⟨Int.le_refl _, by dsimp only; decide, fun k k0 k1 => by dsimp only at k1; omega, fun _ _ _ => rfl⟩
  rintro ⟨i, n⟩ ⟨c1, c2, c3, c4⟩
  dsimp only at c1 c2 c3 c4
  have e : K269_79 m 148 0 (i, n) = S269_79 n 148 i := rfl
  rw [e]
  unfold S269_79
  by_cases c : 240 ≤ i
  · rw [if_pos c]
    have : i = 240 := by omega
    subst this
    exact Or.inr ⟨_, rfl, c3, c4⟩
  · rw [if_neg c, s32_id (z := i + 1) (by omega) (by omega), s32_id (z := 216 + i) (by omega) (by omega), c4 148 14 (by omega), h14, c4 148 40 (by omega), h40, c4 166 i (by omega)]
    refine Or.inl ⟨_, rfl, ⟨by dsimp only; omega, by dsimp only; omega, fun k k0 k1 => ?_, fun x k hx => ?_⟩, by dsimp only; omega⟩
    · dsimp only at k1 ⊢
      by_cases q : k = i
      · rw [q, mu_s]
      · rw [mu_k (by omega)]; exact c3 k k0 (by omega)
    · dsimp only
      by_cases q : x = 150
      · rw [mu_k (by omega)]; exact c4 x k hx
      · rw [mu_a q]; exact c4 x k hx
set_option maxRecDepth 16384 in
/-- a sentence told, or none, of the class's s and of the nodes nd -/
def SaS (a : MM) (s : Int) (nd : Int → Int) (h top : Int) : Prop := (h = 0 ∧ a s 5 = 0) ∨ (h = 1 ∧ 0 < a s 5 ∧ a s 4 ≤ 40 ∧ ∃ (K : Nat) (c : Int), c ≤ 20 ∧ Rep (a (s + 1)) (a (s + 2)) (a (s + 3)) nd 60 K 0 (a s 4) top c)
set_option maxRecDepth 16384 in
theorem SaS.of {a : MM} {s : Int} {nd : Int → Int} {h top : Int} {a' : MM} {s' : Int} {nd' : Int → Int} {h' top' : Int} (q : SaS a s nd h top) (e5 : a' s' 5 = a s 5) (e4 : a' s' 4 = a s 4) (ea : ∀ k, 0 ≤ k → k < 40 → a' (s' + 1) k = a (s + 1) k ∧ a' (s' + 2) k = a (s + 2) k ∧ a' (s' + 3) k = a (s + 3) k) (en : ∀ k, 0 ≤ k → k < 240 → nd' k = nd k) (eh : h' = h) (et : top' = top) : SaS a' s' nd' h' top' := by
  rcases q with ⟨q1, q2⟩ | ⟨q1, q2, q3, K, c, q4, q5⟩
  · exact Or.inl ⟨by omega, by omega⟩
  · refine Or.inr ⟨by omega, by omega, by omega, K, c, q4, ?_⟩
    rw [e4, et]
    exact Rep_fr K (Int.le_refl 0) (fun k k0 k1 => ea k k0 (by omega)) (fun k k0 k1 => en k k0 (by omega)) q5
set_option maxRecDepth 16384 in
theorem RpS.to {s : Int} {a b : MM} {j n c : Int} {nd : Int → Int} (h : RpS s a b 0 j n c) (hM : b 148 41 ≤ 60) (en : ∀ k, 0 ≤ k → k < 240 → nd k = b 166 k) : ∃ K : Nat, Rep (a (s + 1)) (a (s + 2)) (a (s + 3)) nd 60 K 0 j n c := by
  obtain ⟨K, h⟩ := h
  exact ⟨K, Rep_fr K (Int.le_refl 0) (fun _ _ _ => ⟨rfl, rfl, rfl⟩) (fun k k0 k1 => en k k0 (by omega)) (Rep_up hM K K (Nat.le_refl _) h)⟩
end
section
/-! Sentences: the call that tells one. -/
set_option maxRecDepth 16384 in
/-- what a sentence's call changes -/
def FcA (s x k : Int) : Prop := (x = 0 ∧ 11 ≤ k) ∨ (x = 1 ∧ 1 ≤ k) ∨ (x = s ∧ (k = 4 ∨ k = 5)) ∨ (s < x ∧ x ≤ s + 3 ∧ 0 ≤ k)
set_option maxRecDepth 16384 in
def FcC (x k : Int) : Prop := (x = 148 ∧ ((0 ≤ k ∧ k ≤ 13) ∨ (41 ≤ k ∧ k ≤ 44))) ∨ x = 166
set_option maxRecDepth 16384 in
def FcB (x k : Int) : Prop := (x = 148 ∧ ((0 ≤ k ∧ k ≤ 13) ∨ (41 ≤ k ∧ k ≤ 44))) ∨ x = 166 ∨ (x = 150 ∧ 214 ≤ k ∧ k < 456)
set_option maxRecDepth 16384 in
def SeR (s : Int) (a b a' b' : MM) : Prop := Fr (FcA s) a a' ∧ Fr FcB b b' ∧ ((a' 0 11 = a 0 11 ∧ a' 0 12 = s ∧ ∀ k, b' 150 k = b 150 k) ∨ (a' 0 11 = s ∧ a' 0 12 = a 0 11 ∧ SaS a' s (fun k => b' 150 (216 + k)) (b' 150 214) (b' 150 215)))
set_option maxRecDepth 16384 in
theorem sent_R {X : KO} {ρ : Nat → Int32} {a a' b b' : MM} {rl rl' : List (Nat × Int)} {L s : Int} (hX : XW X) (hS : XS X) (hc : C2 a b) (t12 : a 0 12 = s) (hs : Sl s) (l40 : a (s + 1) (-1) = 40) (u40 : b 148 40 = 166) (hT : TapeR a b L) (t00 : a 0 0 = 1) (t0 : a 1 0 = 2) (t1 : a 2 (-1) = 940) (u1 : b 148 1 = 149) (ra : Run X ρ 31 [(1, 0)] a rl a') (rb : Run X ρ 269 [(1, 148)] b rl' b') (h166 : ∀ k, 0 ≤ k → k < 240 → s32 (b' 166 k) = b' 166 k) : SeR s a b a' b' := by
  obtain ⟨v1, v2, v3, v4, v5⟩ := hT
  have t01 : a 0 1 = 3 := hc.1.1.1
  have s0 : s ≠ 0 ∧ s ≠ 1 ∧ s ≠ 2 ∧ 90 < s ∧ s < 140 := by unfold Sl at hs; omega
  have hle := LSe_s hc hs
  obtain ⟨N, ig, ra⟩ := Run_CR ra rfl
  have ra : MR X ρ 2 0 0 qP31 N 0 [0, 0] [] a (ig, rl, a') := ra
  obtain ⟨M, ig', rb⟩ := Run_CR rb rfl
  have rb : MR X ρ 2 0 0 qP269 M 0 [148, 0] [] b (ig', rl', b') := rb
  obtain ⟨m2, r2, y4, e4, y5, e5, A⟩ := s31_0 ra
  rw [t12, t00, t01] at r2
  obtain ⟨N2, ig2, r2⟩ := Run_CR r2 rfl
  have r2 : MR X ρ 3 0 0 qP100 N2 0 [s, 1, 3] [] a (ig2, [], m2) := r2
  obtain ⟨y6, e6, m8, r8, v13, m11, r11, hv, C⟩ := s100_0 r2
  obtain ⟨N8, ig8, r8⟩ := Run_CR r8 rfl
  have r8 : MR X ρ 2 0 0 qP149 N8 0 [1, 200] [] y6 (ig8, [], m8) := r8
  obtain ⟨m8', r8b, e⟩ := i149_0 r8
  have e : m8 = m8' := congrArg (fun z => z.2.2) e
  subst e
  clear r8
  obtain ⟨n2, q2, z4, f4, z5, f5, z6, f6, v10, n8, q8, hv', B⟩ := s269_0 rb
  obtain ⟨Nb, igb, q2⟩ := Run_CR q2 rfl
  have q2 : MR X ρ 2 0 0 qP169 Nb 0 [148, 200] [] b (igb, [], n2) := q2
  obtain ⟨mb', rb2, e⟩ := i169_0 q2
  have e : n2 = mb' := congrArg (fun z => z.2.2) e
  subst e
  clear q2
  have ef : f283 (mu b 148 0 0) 148 = L := by
    show (mu b 148 0 0) 148 2 = L
    rw [mu_k (by decide)]
    exact v2
  have eg : g283 (mu b 148 0 0) 148 = mu (mu b 148 0 0) 148 2 0 := rfl
  rw [ef, eg] at rb2
  have Fb : Fr (fun x k => x = 148 ∧ (k = 0 ∨ k = 2 ∨ k = 3 ∨ k = 4 ∨ k = 10 ∨ k = 5)) b (mu (mu (mu (mu (mu (mu b 148 0 0) 148 2 0) 148 3 L) 148 4 200) 148 10 0) 148 5 0) := ((((((Fr.rf _ _).mu ⟨rfl, by omega⟩).mu ⟨rfl, by omega⟩).mu ⟨rfl, by omega⟩).mu ⟨rfl, by omega⟩).mu ⟨rfl, by omega⟩).mu ⟨rfl, by omega⟩
  have w3 : (mu (mu (mu (mu (mu (mu b 148 0 0) 148 2 0) 148 3 L) 148 4 200) 148 10 0) 148 5 0) 148 3 = L := by rw [mu_k (by decide), mu_k (by decide), mu_k (by decide), mu_s]
  have w4 : (mu (mu (mu (mu (mu (mu b 148 0 0) 148 2 0) 148 3 L) 148 4 200) 148 10 0) 148 5 0) 148 4 = 200 := by rw [mu_k (by decide), mu_k (by decide), mu_s]
  have w10 : (mu (mu (mu (mu (mu (mu b 148 0 0) 148 2 0) 148 3 L) 148 4 200) 148 10 0) 148 5 0) 148 10 = 0 := by rw [mu_k (by decide), mu_s]
  have w5 : (mu (mu (mu (mu (mu (mu b 148 0 0) 148 2 0) 148 3 L) 148 4 200) 148 10 0) 148 5 0) 148 5 = 0 := mu_s _ _ _ _
  revert rb2 Fb w3 w4 w10 w5
  generalize (mu (mu (mu (mu (mu (mu b 148 0 0) 148 2 0) 148 3 L) 148 4 200) 148 10 0) 148 5 0) = b0
  intro rb2 Fb w3 w4 w10 w5
  have ey6 : y6 = mu (mu a s 4 0) s 5 0 := e6
  have Fa : Fr (fun x k => (x = 1 ∧ (k = 2 ∨ k = 3 ∨ k = 9 ∨ k = 10)) ∨ (x = s ∧ (k = 4 ∨ k = 5))) a (mu (mu (mu (mu y6 1 2 200) 1 3 0) 1 9 0) 1 10 0) := by
    rw [ey6]
    exact ((((((Fr.rf _ _).mu (Or.inr ⟨rfl, Or.inl rfl⟩)).mu (Or.inr ⟨rfl, Or.inr rfl⟩)).mu (Or.inl ⟨rfl, by omega⟩)).mu (Or.inl ⟨rfl, by omega⟩)).mu (Or.inl ⟨rfl, by omega⟩)).mu (Or.inl ⟨rfl, by omega⟩)
  have x2 : (mu (mu (mu (mu y6 1 2 200) 1 3 0) 1 9 0) 1 10 0) 1 2 = 200 := by rw [mu_k (by decide), mu_k (by decide), mu_k (by decide), mu_s]
  have x3 : (mu (mu (mu (mu y6 1 2 200) 1 3 0) 1 9 0) 1 10 0) 1 3 = 0 := by rw [mu_k (by decide), mu_k (by decide), mu_s]
  have x9 : (mu (mu (mu (mu y6 1 2 200) 1 3 0) 1 9 0) 1 10 0) 1 9 = 0 := by rw [mu_k (by decide), mu_s]
  have xs : ∀ k, (mu (mu (mu (mu y6 1 2 200) 1 3 0) 1 9 0) 1 10 0) s k = y6 s k := fun k => by rw [mu_a s0.2.1, mu_a s0.2.1, mu_a s0.2.1, mu_a s0.2.1]
  have xs4 : (mu (mu (mu (mu y6 1 2 200) 1 3 0) 1 9 0) 1 10 0) s 4 = 0 := by rw [xs, ey6, mu_k (by decide), mu_s]
  have xs5 : (mu (mu (mu (mu y6 1 2 200) 1 3 0) 1 9 0) 1 10 0) s 5 = 0 := by rw [xs, ey6, mu_s]
  clear xs
  revert r8b Fa x2 x3 x9 xs4 xs5
  generalize (mu (mu (mu (mu y6 1 2 200) 1 3 0) 1 9 0) 1 10 0) = a0
  intro r8b Fa x2 x3 x9 xs4 xs5
  have p0 : PR0 (fun j => b 149 j) L 200 a0 b0 := by
    refine ⟨⟨by rw [Fa 1 0 (by omega)]; exact t0, by rw [Fa 1 1 (by omega)]; exact v1, v3, v4, by rw [Fa 2 _ (by omega)]; exact t1, fun j j1 j2 => by rw [Fa 2 _ (by omega)]; exact v5 j j1 j2⟩, ⟨by rw [Fb 148 1 (by omega)]; exact u1, w3, v3, v4, fun j j1 j2 => by rw [Fb 149 j (by omega)]⟩, x2, w4, by rw [x3, w5], by omega, by omega⟩
  obtain ⟨st, g1, g2⟩ := goT hX p0 x9 w10 r8b rb2
  have F8 : Fr (fun x k => (x = 1 ∧ 2 ≤ k) ∨ (x = s ∧ (k = 4 ∨ k = 5))) a m8 := (Fa.mo fun x k q => by omega).tr (g1.mo fun x k q => by unfold P148 at q; omega)
  have G2 : Fr (fun x k => x = 148 ∧ 0 ≤ k ∧ k ≤ 13) b n2 := (Fb.mo fun x k q => by omega).tr (g2.mo fun x k q => by unfold P195 at q; omega)
  have f63 : Fr PB0 n2 z6 := by rw [f6, f5, f4]; exact (((Fr.rf _ _).mu (Or.inl ⟨rfl, by decide, by decide⟩)).mu (Or.inl ⟨rfl, by decide, by decide⟩)).mu (Or.inl ⟨rfl, by decide, by decide⟩)
  have hC2 : C2 m8 n2 := C2_fr hc (fun x k q => F8 x k (by unfold PCs at q; unfold Sl at hs; omega)) (fun x k q => G2 x k (by unfold PJs at q; omega))
  have hSC0 : SCx X (fun j => b 149 j) L s m8 n2 := by
    obtain ⟨l0, l1, l2⟩ := hle
    refine ⟨st, hC2, ⟨⟨?_, ?_, ?_⟩, ?_⟩, ?_⟩
    · rw [F8 _ _ (by omega)]; exact l0
    · rw [F8 _ _ (by omega)]; exact l1
    · rw [F8 _ _ (by omega)]; exact l2
    · rw [F8 _ _ (by omega)]; exact l40
    · rw [G2 _ _ (by omega)]; exact u40
  have hSC := SC_0 hs hSC0 (Fr.rf _ _) f63
  have hSN : SNx s m8 z6 0 0 1 := by
    refine ⟨⟨?_, ?_, by decide, by decide⟩, ⟨?_, by decide, by decide⟩, ?_, by decide, by decide⟩
    · rw [g1 _ _ (by unfold P148; omega)]; exact xs5
    · rw [f6, mu_k (by decide), f5, mu_s]
    · rw [g1 _ _ (by unfold P148; omega)]; exact xs4
    · rw [f6, mu_s]; decide
  have hM0 : z6 148 41 = 0 := by rw [f6, mu_k (by decide), f5, mu_k (by decide), f4, mu_s]
  obtain ⟨k1, k2, k3⟩ := (all_Hr hX hS hs 8 1 (by decide)).2 _ _ _ _ _ _ _ _ hSC hSN hM0 r11 q8
  have fA1 : Fr (FcA s) a m11 := (F8.mo fun x k q => by unfold FcA; omega).tr (k1.mo fun x k q => by unfold PA PA0 at q; unfold FcA; omega)
  have fB1 : Fr FcC b n8 := ((G2.mo fun x k q => by unfold FcC; omega).tr (f63.mo fun x k q => by unfold PB0 at q; unfold FcC; omega)).tr (k2.mo fun x k q => by unfold PB PB0 at q; unfold FcC; omega)
  have e11 : m11 0 11 = a 0 11 := (k1 _ _ (by unfold PA PA0; omega)).trans (F8 _ _ (by omega))
  have mm : ∀ z : MM, Fr (PA s) m11 z → m2 = z → m2 0 0 = 1 ∧ m2 0 12 = s := fun z hz e => by
    rw [e]
    refine ⟨?_, ?_⟩
    · rw [hz _ _ (by unfold PA PA0; omega), k1 _ _ (by unfold PA PA0; omega), F8 _ _ (by omega)]; exact t00
    · rw [hz _ _ (by unfold PA PA0; omega), k1 _ _ (by unfold PA PA0; omega), F8 _ _ (by omega)]; exact t12
  -- the end where it is refused
  have bad : ∀ z : MM, m2 0 0 = 1 → m2 0 12 = s → Fr (PA s) m11 m2 → Fr PB n8 z → FL m2 z → b' = z → SeR s a b a' b' := fun z e0 e12 ha hz hF e2 => by
    rw [e0] at e4
    have y40 : y4 0 0 = 1 := by rw [e4, mu_k (by decide)]; exact e0
    rw [y40] at e5
    have y513 : y5 0 13 = m2 1 9 := by rw [e5, mu_a (by decide), e4, mu_s]
    rcases A with ⟨c, _⟩ | ⟨c, A⟩
    · rw [y513] at c; exact absurd c hF.2.2
    · have ea : a' = y5 := congrArg (fun z => z.2.2) A
      rw [ea, e2]
      refine ⟨?_, ?_, Or.inl ⟨?_, ?_, fun k => ?_⟩⟩
      · rw [e5, e4]
        exact ((fA1.tr (ha.mo fun x k q => by unfold PA PA0 at q; unfold FcA; omega)).mu (Or.inl ⟨rfl, by decide⟩)).mu (Or.inr (Or.inl ⟨rfl, by decide⟩))
      · exact (fB1.mo fun x k q => by unfold FcC at q; unfold FcB; omega).tr (hz.mo fun x k q => by unfold PB PB0 at q; unfold FcB; omega)
      · rw [e5, mu_a (by decide), e4, mu_k (by decide), ha _ _ (by unfold PA PA0; omega)]; exact e11
      · rw [e5, mu_a (by decide), e4, mu_k (by decide)]; exact e12
      · rw [hz _ _ (by unfold PB PB0; omega)]; exact fB1 _ _ (by unfold FcC; omega)
  rcases k3 with ⟨x1, x2', x3'⟩ | ⟨x1, x2', x3', o', l', ⟨⟨q1, q2', q3, q4⟩, ⟨q5, q6, q7⟩, -⟩, q11, -, -, q14, cc, q15, q16⟩
  · rcases C with ⟨-, C⟩ | ⟨c, _⟩
    · rcases B with ⟨-, B⟩ | ⟨c, _⟩
      · have em : m2 = m11 := congrArg (fun z => z.2.2) C
        have h := mm m11 (Fr.rf _ _) em
        cases B
        exact bad _ h.1 h.2 (by rw [em]; exact Fr.rf _ _) (Fr.rf _ _) (by rw [em]; exact x3') rfl
      · exact absurd x2' c
    · exact absurd x1 c
  · rcases C with ⟨c, _⟩ | ⟨-, C⟩
    · omega
    rcases B with ⟨c, _⟩ | ⟨-, B⟩
    · omega
    have tk := x3'.1.1.2
    have kz : m11 1 4 = 0 ↔ n8 148 7 = 0 := by
      rcases tk.2.2 with ⟨q, q'⟩ | ⟨q, q'⟩ | ⟨q, q', -⟩ | ⟨q, q', -⟩ | ⟨q, q', -⟩ <;> rw [q, q'] <;> decide
    rcases C with ⟨c, C⟩ | ⟨c, y21, e21, C⟩
    · have em : m2 = m11 := congrArg (fun z => z.2.2) C
      obtain ⟨h00, h12⟩ := mm m11 (Fr.rf _ _) em
      rcases B with ⟨-, y13, f13, y14, f14, B⟩ | ⟨d, _⟩
      · have w14 : n8 148 14 = 150 := x3'.2.1.1.2.1.bn
        rw [w14] at f13
        have w14' : y13 148 14 = 150 := by rw [f13, mu_a (by decide)]; exact w14
        rw [w14'] at f14
        have w14'' : y14 148 14 = 150 := by rw [f14, mu_a (by decide)]; exact w14'
        have FL := L269_fr w14''
        have v42 : (L269_79 y14 148 0).2.2.2 148 42 = o' := by rw [FL 148 42 (by decide), f14, mu_a (by decide), f13, mu_a (by decide)]; exact q2'
        have v10' : (L269_79 y14 148 0).2.2.2 148 10 = 0 := by rw [FL 148 10 (by decide), f14, mu_a (by decide), f13, mu_a (by decide)]; exact x3'.1.2.2
        obtain ⟨lv1, lv2⟩ := L269_v w14'' (by rw [f14, mu_a (by decide), f13, mu_a (by decide)]; exact x3'.2.2.2)
        have eb : b' = (L269_79 y14 148 0).2.2.2 := congrArg (fun z => z.2.2) B
        rw [h00] at e4
        have y40 : y4 0 0 = 1 := by rw [e4, mu_k (by decide)]; exact h00
        rw [y40] at e5
        have y513 : y5 0 13 = 0 := by rw [e5, mu_a (by decide), e4, mu_s, em]; exact x3'.1.2.1
        have y512 : y5 0 12 = s := by rw [e5, mu_a (by decide), e4, mu_k (by decide)]; exact h12
        have y511 : y5 0 11 = a 0 11 := by rw [e5, mu_a (by decide), e4, mu_k (by decide), em]; exact e11
        rcases A with ⟨-, y7, e7, y8, e8, A⟩ | ⟨d, _⟩
        · have ea : a' = y8 := congrArg (fun z => z.2.2) A
          have y14x : ∀ x k, ¬ (x = 150 ∧ (k = 214 ∨ k = 215)) → y14 x k = n8 x k := fun x k hx => by
            by_cases q : x = 150
            · rw [f14, mu_k (by omega), f13, mu_k (by omega)]
            · rw [f14, mu_a q, f13, mu_a q]
          have b166 : ∀ k, b' 166 k = n8 166 k := fun k => by rw [eb, lv2 _ _ (by omega)]; exact y14x _ _ (by omega)
          have y8x : ∀ x k, ¬ (x = 0 ∧ 11 ≤ k) → ¬ (x = 1 ∧ k = 1) → y8 x k = m11 x k := fun x k h0 h1 => by
            have c8 : y8 x k = y7 x k := by
              rw [e8]; by_cases q : x = 0
              · exact mu_k (by omega)
              · exact mu_a q
            have c7 : y7 x k = y5 x k := by
              rw [e7]; by_cases q : x = 0
              · exact mu_k (by omega)
              · exact mu_a q
            have c5 : y5 x k = y4 x k := by
              rw [e5]; by_cases q : x = 1
              · exact mu_k (by omega)
              · exact mu_a q
            have c4 : y4 x k = m2 x k := by
              rw [e4]; by_cases q : x = 0
              · exact mu_k (by omega)
              · exact mu_a q
            rw [c8, c7, c5, c4, em]
          obtain ⟨K, hK⟩ := q15.to (nd := fun k => b' 150 (216 + k)) (by omega) (fun k k0 k1 => by
            show b' 150 (216 + k) = n8 166 k
            rw [eb, lv1 k k0 k1, y14x _ _ (by omega), ← b166, h166 k k0 k1])
          rw [ea]
          refine ⟨?_, ?_, Or.inr ⟨?_, ?_, Or.inr ⟨?_, ?_, ?_, K, cc, by omega, ?_⟩⟩⟩
          · rw [e8, e7, e5, e4, em]
            exact (((fA1.mu (Or.inl ⟨rfl, by decide⟩)).mu (Or.inr (Or.inl ⟨rfl, by decide⟩))).mu (Or.inl ⟨rfl, by decide⟩)).mu (Or.inl ⟨rfl, by decide⟩)
          · intro x k q
            unfold FcB at q
            rw [eb, lv2 _ _ (by omega), y14x _ _ (by omega)]
            exact fB1 _ _ (by unfold FcC; omega)
          · rw [e8, mu_k (by decide), e7, mu_s]; exact y512
          · rw [e8, mu_s]; exact y511
          · rw [eb, lv2 _ _ (by omega), f14, mu_k (by decide), f13, mu_s]; exact s32_id (by decide) (by decide)
          · rw [y8x _ _ (by omega) (by omega)]; omega
          · rw [y8x _ _ (by omega) (by omega)]; omega
          · have hn := q15.n
            have et : b' 150 215 = n8 148 44 := by
              rw [eb, lv2 _ _ (by omega), f14, mu_s, f13, mu_a (by decide)]
              exact s32_id (by omega) (by omega)
            rw [et, y8x s 4 (by omega) (by omega), q5]
            have ek : ∀ j, 1 ≤ j → j ≤ 3 → y8 (s + j) = m11 (s + j) := fun j j1 j3 => funext fun k => y8x _ _ (by omega) (by omega)
            rw [ek 1 (by decide) (by decide), ek 2 (by decide) (by decide), ek 3 (by decide) (by decide)]
            exact hK
        · exact absurd y513 d
      · exact absurd (kz.mp c) d
    · have em : m2 = g158 m11 1 1 := by
        have : m2 = y21 := congrArg (fun z => z.2.2) C
        rw [this, e21]
      obtain ⟨h00, h12⟩ := mm _ (PT_PA (Fr_158 _ _)) em
      rcases B with ⟨d, _⟩ | ⟨-, y20, f20, B⟩
      · exact absurd (kz.mpr d) c
      · cases B
        exact bad _ h00 h12 (by rw [em]; exact PT_PA (Fr_158 _ _)) (by rw [f20]; exact PM_PB (Fr_168 _ _)) (by rw [em, f20]; exact bad_ok tk (by decide) (Or.inl rfl)) rfl
end
