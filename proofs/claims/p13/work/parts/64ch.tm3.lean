/-! A book's line. -/
set_option maxRecDepth 16384 in
def Vb (n x k : Int) : Prop := (x = 148 ∧ 5 ≤ k ∧ k ≤ 13) ∨ (x = 164 ∧ 3 * n ≤ k ∧ k ≤ 3 * n + 2)
set_option maxRecDepth 16384 in
theorem Va_wa {n : Int} (n0 : 0 ≤ n) {a a' : MM} (h : Fr (Va n) a a') : Fr WA a a' := h.mo fun x k q => by unfold Va at q; unfold WA; omega
set_option maxRecDepth 16384 in
theorem Vb_wb {n : Int} (n0 : 0 ≤ n) {b b' : MM} (h : Fr (Vb n) b b') : Fr WB b b' := h.mo fun x k q => by unfold Vb at q; unfold WB; omega
set_option maxRecDepth 16384 in
theorem PM_vb {n : Int} {b b' : MM} (h : Fr PM b b') : Fr (Vb n) b b' := h.mo fun x k q => Or.inl q
set_option maxRecDepth 16384 in
theorem actT {X : KO} {ρ : Nat → Int32} {t : Int → Int} {L : Int} {a m6 b m4 : MM} {v act : Int} (hX : XW X) (h : BS X t L a b) (c0 : 0 ≤ a 96 3) (c1 : a 96 3 < 40) (a0 : 0 ≤ act) (a4 : act ≤ 7) (ra : Run X ρ 56 [(1, 96), (1, 1), (1, act)] a [(1, v)] m6) (rb : Run X ρ 195 [(1, 148)] (mu b 164 (3 * a 96 3) act) [] m4) : v = 1 ∧ BS X t L m6 m4 ∧ m6 97 (a 96 3) = act ∧ m4 164 (3 * a 96 3) = act ∧ Fr (Va (a 96 3)) a m6 ∧ Fr (Vb (a 96 3)) b m4 ∧ m6 98 (a 96 3) = a 98 (a 96 3) ∧ m4 164 (3 * a 96 3 + 1) = b 164 (3 * a 96 3 + 1) ∧ m6 99 (a 96 3) = a 99 (a 96 3) ∧ m4 164 (3 * a 96 3 + 2) = b 164 (3 * a 96 3 + 2) ∧ m6 96 3 = a 96 3 := by
  obtain ⟨N, ig, ra⟩ := Run_CR ra rfl
  have ra : MR X ρ 3 0 0 qP56 N 0 [96, 1, act] [] a (ig, [(1, v)], m6) := ra
  obtain ⟨y, e, m8, r8, A⟩ := k56_0 ra
  cases A
  rw [h.2.2.1.1, g48_ok (Or.inl rfl) h.2.2.1.2.2.2.1 c0 c1, s32_id (z := act) (by omega) (by omega)] at e
  rw [e] at r8
  have fy : Fr (fun x k => 97 ≤ x ∧ x ≤ 99 ∧ 0 ≤ k) a (mu a 97 (a 96 3) act) := (Fr.rf _ _).mu ⟨by decide, by decide, c0⟩
  have fz : Fr (fun x k => (x = 164 ∧ 0 ≤ k) ∨ (x = 148 ∧ k = 13)) b (mu b 164 (3 * a 96 3) act) := (Fr.rf _ _).mu (Or.inl ⟨rfl, by omega⟩)
  obtain ⟨s, f1, f2, fa, fb⟩ := stepT hX h fy fz r8 rb
  have fy2 : Fr (Va (a 96 3)) a (mu a 97 (a 96 3) act) := (Fr.rf _ _).mu (Or.inr ⟨Or.inl rfl, rfl⟩)
  have fz2 : Fr (Vb (a 96 3)) b (mu b 164 (3 * a 96 3) act) := (Fr.rf _ _).mu (Or.inr ⟨rfl, by omega, by omega⟩)
  refine ⟨rfl, s, ?_, ?_, fy2.tr (f1.mo fun x k q => Or.inl ⟨q.1, q.2.1⟩), fz2.tr (f2.mo fun x k q => by unfold P195 at q; unfold Vb; omega), ?_, ?_, ?_, ?_, ?_⟩
  · rw [f1 _ _ (by unfold P148; omega), mu_s]
  · rw [f2 _ _ (by unfold P195; omega), mu_s]
  · rw [f1 _ _ (by unfold P148; omega), mu_a (by decide)]
  · rw [f2 _ _ (by unfold P195; omega), mu_k (by omega)]
  · rw [f1 _ _ (by unfold P148; omega), mu_a (by decide)]
  · rw [f2 _ _ (by unfold P195; omega), mu_k (by omega)]
  · rw [f1 _ _ (by unfold P148; omega), mu_a (by decide)]
set_option maxRecDepth 16384 in
/-- a line's values, so far as its deed -/
def Dv (a b : MM) (n P F : Int) : Prop := a 97 n = b 164 (3 * n) ∧ a 99 n = b 164 (3 * n + 2) ∧ ((a 97 n = 0 ∧ 0 ≤ a 99 n ∧ a 99 n < F) ∨ ((a 97 n = 1 ∨ a 97 n = 2) ∧ 0 ≤ a 99 n ∧ a 99 n < P) ∨ (a 97 n = 3 ∨ a 97 n = 4))
set_option maxRecDepth 16384 in
theorem keepT {X : KO} {t : Int → Int} {L : Int} {a b : MM} {at_ v : Int} (h : BS X t L a b) (a0 : 0 ≤ at_) (v0 : 0 ≤ v) (v9 : v < 1000) (e13 : b 148 13 = v) : g218 b 148 at_ 1 = mu b 164 at_ v ∧ f218 b 148 at_ 1 = 1 ∧ BS X t L a (mu b 164 at_ v) := by
  refine ⟨?_, rfl, ?_⟩
  · unfold g218
    rw [if_neg (by decide), h.2.2.2, e13, s32_id (z := v) (by omega) (by omega)]
  · have fz : Fr (fun x k => x = 164 ∧ 0 ≤ k) b (mu b 164 at_ v) := (Fr.rf _ _).mu ⟨rfl, a0⟩
    obtain ⟨⟨⟨p0, p1⟩, h9, h10⟩, hc, hl⟩ := h
    exact ⟨⟨⟨PR0_fr p0 (Fr.rf (fun _ _ => False) _) fz (fun _ q => q) (fun _ q => q) (fun k _ _ q => by omega) (fun k q => by omega), TKR_fr p1 (Fr.rf (fun _ _ => False) _) fz (fun _ q => q) (fun k _ _ q => by omega)⟩, h9, by rw [mu_a (by decide)]; exact h10⟩, C2_w hc (Fr.rf _ _) (fz.mo fun x k q => Or.inr q), BLay_w hl (Fr.rf _ _) (fz.mo fun x k q => Or.inr q)⟩
set_option maxRecDepth 16384 in
theorem deedT {X : KO} {ρ : Nat → Int32} {t : Int → Int} {L : Int} {a a' b b' : MM} {rl : List (Nat × Int)} {v6 : Int} (hX : XW X) (hS : XS X) (h : BS X t L a b) (c0 : 0 ≤ a 96 3) (c1 : a 96 3 < 40) (z1 : a 99 (a 96 3) = 0) (z2 : b 164 (3 * a 96 3 + 2) = 0) (ra : Run X ρ 51 [(1, 96), (1, 1), (1, 3)] a rl a') (rb : Run X ρ 244 [(1, 148), (1, 3 * a 96 3)] b [(1, v6)] b') : Fr WA a a' ∧ Fr WB b b' ∧ ((rl = [(1, 0)] ∧ v6 = 0 ∧ FL a' b') ∨ (rl = [(1, 1)] ∧ v6 = 1 ∧ BS X t L a' b' ∧ Dv a' b' (a 96 3) (a 3 6) (a 3 7) ∧ Fr (Va (a 96 3)) a a' ∧ Fr (Vb (a 96 3)) b b' ∧ a' 98 (a 96 3) = a 98 (a 96 3) ∧ b' 164 (3 * a 96 3 + 1) = b 164 (3 * a 96 3 + 1) ∧ a' 96 3 = a 96 3)) := by
  have p1 := h.1.1.2
  obtain ⟨N, ig, ra⟩ := Run_CR ra rfl
  have ra : MR X ρ 3 0 0 qP51 N 0 [96, 1, 3] [] a (ig, rl, a') := ra
  obtain ⟨M, ig', rb⟩ := Run_CR rb rfl
  have rb : MR X ρ 3 0 0 qP244 M 0 [148, 3 * a 96 3, 0] [] b (ig', [(1, v6)], b') := rb
  have A := k51_0 ra
  have B := k244_0 rb
  have w8 : f155 X a 1 1000001 = f217 b 148 8 := word_ok hS p1 (s := 0) (by decide)
  have w9 : f155 X a 1 1000002 = f217 b 148 9 := word_ok hS p1 (s := 1) (by decide)
  have w10 : f155 X a 1 1000003 = f217 b 148 10 := word_ok hS p1 (s := 2) (by decide)
  have w11 : f155 X a 1 1000004 = f217 b 148 11 := word_ok hS p1 (s := 3) (by decide)
  have w12 : f155 X a 1 1000005 = f217 b 148 12 := word_ok hS p1 (s := 4) (by decide)
  rw [w8, w9, w10, w11, w12] at A
  have hL := L244_ok (b := b) (at_ := 3 * a 96 3)
  revert B
  generalize (L244_3 b 148 (3 * a 96 3) 8).2.2 = w at hL ⊢
  intro B
  rw [h.2.2.2] at B
  -- the class's way, by the word
  have x0 : s32 (s32 (w - 8)) = w - 8 := by rw [s32_id (z := w - 8) (by omega) (by omega), s32_id (z := w - 8) (by omega) (by omega)]
  rw [x0] at B
  by_cases cw : w ≤ 12
  · rcases B with ⟨-, y2, ey, m4, r4, B⟩ | ⟨d, -⟩
    · rw [ey] at r4
      -- the act
      have hact : ∀ (v66 : Int) (m66 : MM), Run X ρ 56 [(1, 96), (1, 1), (1, w - 8)] a [(1, v66)] m66 → v66 = 1 ∧ BS X t L m66 m4 ∧ m66 97 (a 96 3) = w - 8 ∧ m4 164 (3 * a 96 3) = w - 8 ∧ Fr (Va (a 96 3)) a m66 ∧ Fr (Vb (a 96 3)) b m4 ∧ m66 98 (a 96 3) = a 98 (a 96 3) ∧ m4 164 (3 * a 96 3 + 1) = b 164 (3 * a 96 3 + 1) ∧ m66 99 (a 96 3) = a 99 (a 96 3) ∧ m4 164 (3 * a 96 3 + 2) = b 164 (3 * a 96 3 + 2) ∧ m66 96 3 = a 96 3 := fun v66 m66 r => actT hX h c0 c1 (by omega) (by omega) r r4
      have x2 : s32 (3 * a 96 3 + 2) = 3 * a 96 3 + 2 := s32_id (by omega) (by omega)
      rw [x2] at B
      -- nothing more
      have fin34 : (w = 11 ∨ w = 12) → ∀ (v66 : Int) (m66 : MM), Run X ρ 56 [(1, 96), (1, 1), (1, w - 8)] a [(1, v66)] m66 → (ig, rl, a') = ((.ireturn, [(1, v66)], m66) : Instr × List (Nat × Int) × MM) → Fr WA a a' ∧ Fr WB b b' ∧ ((rl = [(1, 0)] ∧ v6 = 0 ∧ FL a' b') ∨ (rl = [(1, 1)] ∧ v6 = 1 ∧ BS X t L a' b' ∧ Dv a' b' (a 96 3) (a 3 6) (a 3 7) ∧ Fr (Va (a 96 3)) a a' ∧ Fr (Vb (a 96 3)) b b' ∧ a' 98 (a 96 3) = a 98 (a 96 3) ∧ b' 164 (3 * a 96 3 + 1) = b 164 (3 * a 96 3 + 1) ∧ a' 96 3 = a 96 3)) := fun hw v66 m66 r e => by
        obtain ⟨k1, k2, k3, k4, k5, k6, k7, k8, k9, k10, k11⟩ := hact v66 m66 r
        cases e
        rcases B with ⟨e, -⟩ | ⟨-, B⟩
        · omega
        · rcases B with ⟨-, B⟩ | ⟨e, -⟩
          · cases B
            exact ⟨Va_wa c0 k5, Vb_wb c0 k6, Or.inr ⟨by rw [k1], rfl, k2, ⟨by rw [k3, k4], by rw [k9, k10, z1, z2], Or.inr (Or.inr (by omega))⟩, k5, k6, k7, k8, k11⟩⟩
          · omega
      -- a person
      have fin12 : (w = 9 ∨ w = 10) → ∀ (v66 : Int) (m66 : MM), Run X ρ 56 [(1, 96), (1, 1), (1, w - 8)] a [(1, v66)] m66 → (((v66 = 0) ∧ ((ig, rl, a') = ((.ireturn, [(1, 0)], m66) : Instr × List (Nat × Int) × MM))) ∨ (¬ (v66 = 0) ∧ (∃ v53 m51, Run X ρ 54 [(1, 96), (1, 1), (1, 3), (1, m66 96 2)] m66 [(1, v53)] m51 ∧ (v53 = 0 ∨ v53 = 1) ∧ (((v53 = 0) ∧ ((ig, rl, a') = ((.ireturn, [(1, 0)], m51) : Instr × List (Nat × Int) × MM))) ∨ (¬ (v53 = 0) ∧ ((ig, rl, a') = ((.ireturn, [(1, 1)], m51) : Instr × List (Nat × Int) × MM))))))) → Fr WA a a' ∧ Fr WB b b' ∧ ((rl = [(1, 0)] ∧ v6 = 0 ∧ FL a' b') ∨ (rl = [(1, 1)] ∧ v6 = 1 ∧ BS X t L a' b' ∧ Dv a' b' (a 96 3) (a 3 6) (a 3 7) ∧ Fr (Va (a 96 3)) a a' ∧ Fr (Vb (a 96 3)) b b' ∧ a' 98 (a 96 3) = a 98 (a 96 3) ∧ b' 164 (3 * a 96 3 + 1) = b 164 (3 * a 96 3 + 1) ∧ a' 96 3 = a 96 3)) := fun hw v66 m66 r A => by
        obtain ⟨k1, k2, k3, k4, k5, k6, k7, k8, k9, k10, k11⟩ := hact v66 m66 r
        rcases A with ⟨e, -⟩ | ⟨-, v53, m51, r54, -, A⟩
        · omega
        · rcases B with ⟨e, -⟩ | ⟨-, B⟩
          · omega
          · rcases B with ⟨e, -⟩ | ⟨-, v11, m9, r9, -, y17, ey17, B⟩
            · omega
            · rw [k2.2.2.1.2.2.1] at r54
              obtain ⟨fb, P⟩ := persT hX k2 (by rw [k11]; exact c0) (by rw [k11]; exact c1) (Or.inr (Or.inr rfl)) r54 r9
              rw [k11] at P
              have p6 : m66 3 6 = a 3 6 := k5 3 6 (by unfold Va; omega)
              rcases P with ⟨q1, q2, q3, q4⟩ | ⟨q1, q2, v, q3, q4, q5, q6, q7, q8, q9⟩
              · injection q1 with q1
                injection q1 with _ q1
                rcases A with ⟨_, A⟩ | ⟨e, _⟩
                · cases A
                  rw [q2] at ey17 B
                  have ey17 : y17 = m9 := ey17
                  rcases B with ⟨_, B⟩ | ⟨e, _⟩
                  · cases B
                    rw [ey17]
                    exact ⟨(Va_wa c0 k5).tr q4, (Vb_wb c0 k6).tr fb, Or.inl ⟨rfl, rfl, q3⟩⟩
                  · exact absurd rfl e
                · exact absurd q1 e
              · injection q1 with q1
                injection q1 with _ q1
                rcases A with ⟨e, _⟩ | ⟨_, A⟩
                · omega
                · cases A
                  rw [q2] at ey17 B
                  have pp := h.2.1.1.2.1.p
                  obtain ⟨g1, g2, g3⟩ := keepT (at_ := 3 * a 96 3 + 2) q5 (by omega) q3 (by omega) q6
                  rw [g2] at B
                  rw [g1] at ey17
                  rcases B with ⟨e, _⟩ | ⟨_, B⟩
                  · exact absurd e (by decide)
                  · cases B
                    rw [ey17]
                    have fva : Fr (Va (a 96 3)) m66 a' := q8.mo fun x k q => by unfold Va; omega
                    have fvb : Fr (Vb (a 96 3)) m4 (mu m9 164 (3 * a 96 3 + 2) v) := (PM_vb q9).mu (Or.inr ⟨rfl, by omega, by omega⟩)
                    have e97 : a' 97 (a 96 3) = m66 97 (a 96 3) := q8 _ _ (by omega)
                    have e98 : a' 98 (a 96 3) = m66 98 (a 96 3) := q8 _ _ (by omega)
                    have e963 : a' 96 3 = m66 96 3 := q8 _ _ (by omega)
                    have f0 : (mu m9 164 (3 * a 96 3 + 2) v) 164 (3 * a 96 3) = m4 164 (3 * a 96 3) := by rw [mu_k (by omega), q9 _ _ (by unfold PM; omega)]
                    have f1 : (mu m9 164 (3 * a 96 3 + 2) v) 164 (3 * a 96 3 + 1) = m4 164 (3 * a 96 3 + 1) := by rw [mu_k (by omega), q9 _ _ (by unfold PM; omega)]
                    exact ⟨(Va_wa c0 k5).tr (Va_wa c0 fva), (Vb_wb c0 k6).tr (Vb_wb c0 fvb), Or.inr ⟨rfl, rfl, g3, ⟨by rw [e97, f0, k3, k4], by rw [q7, mu_s], Or.inr (Or.inl ⟨by rw [e97, k3]; rcases hw with q | q <;> rw [q] <;> decide, by rw [q7]; exact q3, by rw [q7, ← p6]; exact q4⟩)⟩, k5.tr fva, k6.tr fvb, by rw [e98, k7], by rw [f1, k8], by rw [e963, k11]⟩⟩
      rcases hL with ⟨g8, gw⟩ | ⟨g8, g9, gw⟩ | ⟨g8, g9, g10, gw⟩ | ⟨g8, g9, g10, g11, gw⟩ | ⟨g8, g9, g10, g11, g12, gw⟩ | ⟨g8, g9, g10, g11, g12, gw⟩
      · -- signs: a form
        rcases A with ⟨e, -⟩ | ⟨-, v68, m66, r66, -, A⟩
        · exact absurd e g8
        · have r66' : Run X ρ 56 [(1, 96), (1, 1), (1, w - 8)] a [(1, v68)] m66 := by rw [gw]; exact r66
          obtain ⟨k1, k2, k3, k4, k5, k6, k7, k8, k9, k10, k11⟩ := hact v68 m66 r66'
          rcases A with ⟨e, -⟩ | ⟨-, v53, m51, r54, -, A⟩
          · omega
          · rcases B with ⟨-, v22, m20, r20, -, y28, ey28, B⟩ | ⟨e, -⟩
            · rw [k2.2.2.1.2.2.1] at r54
              obtain ⟨fb, P⟩ := formT hX k2 (by rw [k11]; exact c0) (by rw [k11]; exact c1) (Or.inr (Or.inr rfl)) r54 r20
              rw [k11] at P
              have p6 : m66 3 7 = a 3 7 := k5 3 7 (by unfold Va; omega)
              rcases P with ⟨q1, q2, q3, q4⟩ | ⟨q1, q2, v, q3, q4, q5, q6, q7, q8, q9⟩
              · injection q1 with q1
                injection q1 with _ q1
                rcases A with ⟨_, A⟩ | ⟨e, _⟩
                · cases A
                  rw [q2] at ey28 B
                  have ey28 : y28 = m20 := ey28
                  have B : (ig', [(1, v6)], b') = ((.ireturn, [(1, 0)], y28) : Instr × List (Nat × Int) × MM) := B
                  cases B
                  rw [ey28]
                  exact ⟨(Va_wa c0 k5).tr q4, (Vb_wb c0 k6).tr fb, Or.inl ⟨rfl, rfl, q3⟩⟩
                · exact absurd q1 e
              · injection q1 with q1
                injection q1 with _ q1
                rcases A with ⟨e, _⟩ | ⟨_, A⟩
                · omega
                · cases A
                  rw [q2] at ey28 B
                  have pp := h.2.1.1.2.1.f
                  obtain ⟨g1, g2, g3⟩ := keepT (at_ := 3 * a 96 3 + 2) q5 (by omega) q3 (by omega) q6
                  rw [g2] at B
                  rw [g1] at ey28
                  cases B
                  rw [ey28]
                  have fva : Fr (Va (a 96 3)) m66 a' := q8.mo fun x k q => by unfold Va; omega
                  have fvb : Fr (Vb (a 96 3)) m4 (mu m20 164 (3 * a 96 3 + 2) v) := (PM_vb q9).mu (Or.inr ⟨rfl, by omega, by omega⟩)
                  have e97 : a' 97 (a 96 3) = m66 97 (a 96 3) := q8 _ _ (by omega)
                  have e98 : a' 98 (a 96 3) = m66 98 (a 96 3) := q8 _ _ (by omega)
                  have e963 : a' 96 3 = m66 96 3 := q8 _ _ (by omega)
                  have f0 : (mu m20 164 (3 * a 96 3 + 2) v) 164 (3 * a 96 3) = m4 164 (3 * a 96 3) := by rw [mu_k (by omega), q9 _ _ (by unfold PM; omega)]
                  have f1 : (mu m20 164 (3 * a 96 3 + 2) v) 164 (3 * a 96 3 + 1) = m4 164 (3 * a 96 3 + 1) := by rw [mu_k (by omega), q9 _ _ (by unfold PM; omega)]
                  exact ⟨(Va_wa c0 k5).tr (Va_wa c0 fva), (Vb_wb c0 k6).tr (Vb_wb c0 fvb), Or.inr ⟨rfl, rfl, g3, ⟨by rw [e97, f0, k3, k4], by rw [q7, mu_s], Or.inl ⟨by rw [e97, k3, gw]; rfl, by rw [q7]; exact q3, by rw [q7, ← p6]; exact q4⟩⟩, k5.tr fva, k6.tr fvb, by rw [e98, k7], by rw [f1, k8], by rw [e963, k11]⟩⟩
            · omega
      · rcases A with ⟨-, A⟩ | ⟨e, -⟩
        · rcases A with ⟨e, -⟩ | ⟨-, v58, m56, r56, -, A⟩
          · exact absurd e g9
          · exact fin12 (Or.inl gw) v58 m56 (by rw [gw]; exact r56) A
        · exact absurd g8 e
      · rcases A with ⟨-, A⟩ | ⟨e, -⟩
        · rcases A with ⟨-, A⟩ | ⟨e, -⟩
          · rcases A with ⟨e, -⟩ | ⟨-, v58, m56, r56, -, A⟩
            · exact absurd e g10
            · exact fin12 (Or.inr gw) v58 m56 (by rw [gw]; exact r56) A
          · exact absurd g9 e
        · exact absurd g8 e
      · rcases A with ⟨-, A⟩ | ⟨e, -⟩
        · rcases A with ⟨-, A⟩ | ⟨e, -⟩
          · rcases A with ⟨-, A⟩ | ⟨e, -⟩
            · rcases A with ⟨e, -⟩ | ⟨-, v58, m56, r56, -, A⟩
              · exact absurd e g11
              · exact fin34 (Or.inl gw) v58 m56 (by rw [gw]; exact r56) A
            · exact absurd g10 e
          · exact absurd g9 e
        · exact absurd g8 e
      · rcases A with ⟨-, A⟩ | ⟨e, -⟩
        · rcases A with ⟨-, A⟩ | ⟨e, -⟩
          · rcases A with ⟨-, A⟩ | ⟨e, -⟩
            · rcases A with ⟨-, A⟩ | ⟨e, -⟩
              · rcases A with ⟨e, -⟩ | ⟨-, v58, m56, r56, -, A⟩
                · exact absurd e g12
                · exact fin34 (Or.inr gw) v58 m56 (by rw [gw]; exact r56) A
              · exact absurd g11 e
            · exact absurd g10 e
          · exact absurd g9 e
        · exact absurd g8 e
      · omega
    · exact absurd cw d
  · rcases B with ⟨d, -⟩ | ⟨-, y34, ey, B⟩
    · exact absurd d cw
    · rcases hL with ⟨g8, gw⟩ | ⟨g8, g9, gw⟩ | ⟨g8, g9, g10, gw⟩ | ⟨g8, g9, g10, g11, gw⟩ | ⟨g8, g9, g10, g11, g12, gw⟩ | ⟨g8, g9, g10, g11, g12, gw⟩
      · omega
      · omega
      · omega
      · omega
      · omega
      · rcases A with ⟨-, A⟩ | ⟨e, -⟩
        · rcases A with ⟨-, A⟩ | ⟨e, -⟩
          · rcases A with ⟨-, A⟩ | ⟨e, -⟩
            · rcases A with ⟨-, A⟩ | ⟨e, -⟩
              · rcases A with ⟨-, y36, ey36, A⟩ | ⟨e, -⟩
                · rw [f168_0] at B
                  cases B
                  have A : (ig, rl, a') = ((.ireturn, [(1, 0)], y36) : Instr × List (Nat × Int) × MM) := A
                  cases A
                  rw [ey, ey36]
                  exact ⟨PT_wa (Fr_158 _ _), PM_wb (Fr_168 _ _), Or.inl ⟨rfl, rfl, bad_ok p1 (by decide) (Or.inl rfl)⟩⟩
                · exact absurd g12 e
              · exact absurd g11 e
            · exact absurd g10 e
          · exact absurd g9 e
        · exact absurd g8 e
