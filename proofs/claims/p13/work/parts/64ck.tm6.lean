/-! A book's line that a person begins; every line. -/
set_option maxRecDepth 16384 in
theorem keepA {X : KO} {t : Int → Int} {L : Int} {a b : MM} {n v : Int} (h : BS X t L a b) (n0 : 0 ≤ n) : BS X t L (mu a 98 n v) b := by
  have fy : Fr (fun x k => x = 98 ∧ 0 ≤ k) a (mu a 98 n v) := (Fr.rf _ _).mu ⟨rfl, n0⟩
  have fwa : Fr WA a (mu a 98 n v) := fy.mo fun x k q => by unfold WA; omega
  obtain ⟨⟨⟨p0, p1⟩, h9, h10⟩, hc, hl⟩ := h
  exact ⟨⟨⟨PR0_fr p0 fy (Fr.rf (fun _ _ => False) _) (fun k q => by omega) (fun k q => by omega) (fun _ _ _ q => q) (fun _ q => q), TKR_fr p1 fy (Fr.rf (fun _ _ => False) _) (fun k q => by omega) (fun _ _ _ q => q)⟩, by rw [mu_a (by decide)]; exact h9, h10⟩, C2_w hc fwa (Fr.rf _ _), BLay_w hl fwa (Fr.rf _ _)⟩
set_option maxRecDepth 16384 in
theorem deedLine {X : KO} {ρ : Nat → Int32} {t : Int → Int} {L : Int} {a m25 a' b m14 b' : MM} {rl rl' : List (Nat × Int)} {v M : Nat} {u : Int} {ig ig' : Instr} (hX : XW X) (hS : XS X) (c0 : 0 ≤ a 96 3) (k2 : a 96 3 < 40) (h : BS X t L m25 m14) (e3 : m25 96 3 = a 96 3) (u0 : 0 ≤ u) (u1 : u < a 3 6) (z99 : m25 99 (a 96 3) = 0) (z1 : m14 164 (3 * a 96 3 + 1) = u) (z2 : m14 164 (3 * a 96 3 + 2) = 0) (fa : Fr (Va (a 96 3)) a m25) (fb : Fr (Vb (a 96 3)) b m14) (A : ∃ y34, y34 = g48 m25 96 (m25 96 1) u ∧ (∃ v38 m36, Run X ρ 51 [(1, 96), (1, 1), (1, 3)] y34 [(1, v38)] m36 ∧ (v38 = 0 ∨ v38 = 1) ∧ (((v38 = 0) ∧ ((ig, rl, a') = ((.ireturn, [(1, 0)], m36) : Instr × List (Nat × Int) × MM))) ∨ (¬ (v38 = 0) ∧ (∃ v43 m41, Run X ρ 46 [(1, 96), (1, 1)] m36 [(1, v43)] m41 ∧ (v43 = 0 ∨ v43 = 1) ∧ (((v43 = 0) ∧ ((ig, rl, a') = ((.ireturn, [(1, 0)], m41) : Instr × List (Nat × Int) × MM))) ∨ (¬ (v43 = 0) ∧ ((ig, rl, a') = ((.ireturn, [(1, 1)], m41) : Instr × List (Nat × Int) × MM))))))))) (rb : MR X ρ 6 0 0 qP241 M 185 [148, 0, 0, 0, 1, 3 * a 96 3] [] m14 (ig', rl', b')) : LR X t L a a' b b' rl rl' := by
  obtain ⟨y34, e34, v38, m36, r36, -, A⟩ := A
  rw [h.2.2.1.2.1, g48_ok (Or.inr (Or.inl rfl)) h.2.2.1.2.2.2.2.1 (by rw [e3]; exact c0) (by rw [e3]; exact k2), e3] at e34
  have pp : a 3 6 ≤ 8 := by
    have := h.2.1.1.2.1.p
    rw [fa 3 6 (by unfold Va; omega)] at this
    exact this.2.2
  rw [s32_id (z := u) (by omega) (by omega)] at e34
  have h2 := keepA (n := a 96 3) (v := u) h c0
  rw [← e34] at h2
  have f98 : Fr (Va (a 96 3)) m25 y34 := by rw [e34]; exact (Fr.rf _ _).mu (Or.inr ⟨Or.inr (Or.inl rfl), rfl⟩)
  have e34n : y34 96 3 = a 96 3 := by rw [e34, mu_a (by decide)]; exact e3
  rcases k241_185 rb with ⟨e, _⟩ | ⟨-, v38', m36', r36', -, B⟩
  · exact absurd e (by decide)
  · rw [← e34n] at r36'
    obtain ⟨fwa, fwb, D⟩ := deedT hX hS h2 (by rw [e34n]; exact c0) (by rw [e34n]; exact k2) (by rw [e34n, e34, mu_a (by decide)]; exact z99) (by rw [e34n]; exact z2) r36 r36'
    rw [e34n] at D
    have fwa0 : Fr WA a y34 := (Va_wa c0 fa).tr (Va_wa c0 f98)
    rcases D with ⟨q1, q2, q3⟩ | ⟨q1, q2, q3, q4, q5, q6, q7, q8, q9⟩
    · have q1 := one_eq q1
      rcases A with ⟨_, A⟩ | ⟨e, _⟩
      · cases A
        rcases B with ⟨_, B⟩ | ⟨e, _⟩
        · cases B
          exact ⟨fwa0.tr fwa, (Vb_wb c0 fb).tr fwb, Or.inl ⟨rfl, rfl, q3⟩⟩
        · exact absurd q2 e
      · exact absurd q1 e
    · have q1 := one_eq q1
      rcases A with ⟨e, _⟩ | ⟨_, v43, m41, r41, -, A⟩
      · omega
      · rcases B with ⟨e, _⟩ | ⟨_, v43', m41', r41', -, B⟩
        · omega
        · obtain ⟨fe, fe2, E⟩ := endT hX q3 (by rw [q9]; exact c0) (by rw [q9]; exact k2) r41 r41'
          have fva : Fr (Va (a 96 3)) a m36 := fa.tr (f98.tr q5)
          have fvb : Fr (Vb (a 96 3)) b m36' := fb.tr q6
          have fa2 : Fr (fun x k => Va (a 96 3) x k ∨ (x = 96 ∧ k = 3)) a m41 := (fva.mo fun x k q => Or.inl q).tr (fe.mo fun x k q => by unfold Va; omega)
          have fb2 : Fr (Vb (a 96 3)) b m41' := fvb.tr (PM_vb fe2)
          have fwa2 : Fr WA a m41 := fa2.mo fun x k q => by unfold Va at q; unfold WA; omega
          have fwb2 : Fr WB b m41' := Vb_wb c0 fb2
          rcases E with ⟨z1', z2', z3'⟩ | ⟨z1', z2', z3', z4'⟩
          · rcases A with ⟨_, A⟩ | ⟨e, _⟩
            · cases A
              rcases B with ⟨_, B⟩ | ⟨e, _⟩
              · cases B
                exact ⟨fwa2, fwb2, Or.inl ⟨rfl, rfl, z3'⟩⟩
              · exact absurd z2' e
            · exact absurd z1' e
          · rcases A with ⟨e, _⟩ | ⟨_, A⟩
            · omega
            · cases A
              rcases B with ⟨e, _⟩ | ⟨_, B⟩
              · omega
              · cases B
                obtain ⟨d1, d2, d3⟩ := q4
                have t97 : a' 97 (a 96 3) = m36 97 (a 96 3) := fe _ _ (by omega)
                have t98 : a' 98 (a 96 3) = u := by rw [fe _ _ (by omega), q7, e34, mu_s]
                have t99 : a' 99 (a 96 3) = m36 99 (a 96 3) := fe _ _ (by omega)
                have u0' : b' 164 (3 * a 96 3) = m36' 164 (3 * a 96 3) := fe2 _ _ (by unfold PM; omega)
                have u1' : b' 164 (3 * a 96 3 + 1) = u := by rw [fe2 _ _ (by unfold PM; omega), q8, z1]
                have u2' : b' 164 (3 * a 96 3 + 2) = m36' 164 (3 * a 96 3 + 2) := fe2 _ _ (by unfold PM; omega)
                have p6 : a' 3 6 = a 3 6 := fa2 3 6 (by unfold Va; omega)
                have p7 : a' 3 7 = a 3 7 := fa2 3 7 (by unfold Va; omega)
                have p6' : y34 3 6 = a 3 6 := by rw [e34, mu_a (by decide)]; exact fa 3 6 (by unfold Va; omega)
                have p7' : y34 3 7 = a 3 7 := by rw [e34, mu_a (by decide)]; exact fa 3 7 (by unfold Va; omega)
                rw [p6', p7'] at d3
                refine ⟨fwa2, fwb2, Or.inr ⟨rfl, rfl, k2, z3', by rw [z4', q9], ⟨by rw [t97, u0']; exact d1, by rw [t98, u1'], by rw [t99, u2']; exact d2, Or.inl ?_⟩, fa2, fb2⟩⟩
                rw [t97, t98, t99]
                unfold Is
                rw [p6, p7]
                rcases d3 with ⟨w1, w2, w3⟩ | ⟨w1, w2, w3⟩ | w1
                · exact Or.inl ⟨w1, u0, u1, w2, w3⟩
                · exact Or.inr (Or.inl ⟨w1, u0, u1, w2, w3⟩)
                · exact Or.inr (Or.inr (Or.inl ⟨w1, u0, u1⟩))
set_option maxRecDepth 16384 in
theorem lineT {X : KO} {ρ : Nat → Int32} {t : Int → Int} {L : Int} {a a' b b' : MM} {rl rl' : List (Nat × Int)} (hX : XW X) (hS : XS X) (h : BS X t L a b) (c0 : 0 ≤ a 96 3) (c40 : a 96 3 ≤ 40) (e38 : b 148 38 = a 96 3) (ra : Run X ρ 53 [(1, 96), (1, 1), (1, 3)] a rl a') (rb : Run X ρ 241 [(1, 148)] b rl' b') : LR X t L a a' b b' rl rl' := by
  have p1 := h.1.1.2
  obtain ⟨N, ig, ra⟩ := Run_CR ra rfl
  have ra : MR X ρ 4 0 0 qP53 N 0 [96, 1, 3, 0] [] a (ig, rl, a') := ra
  obtain ⟨M, ig', rb⟩ := Run_CR rb rfl
  have rb : MR X ρ 6 0 0 qP241 M 0 [148, 0, 0, 0, 0, 0] [] b (ig', rl', b') := rb
  have A := k53_0 ra
  have B := k241_0 rb
  have w13 : f155 X a 1 1000006 = f217 b 148 13 := word_ok hS p1 (s := 5) (by decide)
  have w14 : f155 X a 1 1000007 = f217 b 148 14 := word_ok hS p1 (s := 6) (by decide)
  have w15 : f155 X a 1 1000008 = f217 b 148 15 := word_ok hS p1 (s := 7) (by decide)
  have kw : ∀ s, ¬ f155 X a 1 s = 0 → a 1 4 ≠ 4 := fun s q => by have := word_kind q; omega
  have o13 : f217 b 148 13 ≠ 0 → f217 b 148 14 = 0 ∧ f217 b 148 15 = 0 := fun q => ⟨Classical.byContradiction fun q2 => absurd (word_one (i := 13) (j := 14) (by decide) (by decide) q q2) (by decide), Classical.byContradiction fun q2 => absurd (word_one (i := 13) (j := 15) (by decide) (by decide) q q2) (by decide)⟩
  have o14 : f217 b 148 14 ≠ 0 → f217 b 148 15 = 0 := fun q => Classical.byContradiction fun q2 => absurd (word_one (i := 14) (j := 15) (by decide) (by decide) q q2) (by decide)
  by_cases g13 : f217 b 148 13 = 0
  · rcases A with ⟨-, A⟩ | ⟨e, _⟩
    · rcases B with ⟨-, B⟩ | ⟨e, _⟩
      · by_cases g14 : f217 b 148 14 = 0
        · rcases A with ⟨-, A⟩ | ⟨e, _⟩
          · rcases B with ⟨-, B⟩ | ⟨e, _⟩
            · by_cases g15 : f217 b 148 15 = 0
              · -- a person
                rcases A with ⟨-, v22, m20, r20, A⟩ | ⟨e, _⟩
                · rcases B with ⟨-, B⟩ | ⟨e, _⟩
                  · rw [g13, g14, g15] at B
                    have hC := h.2.1
                    have hp := hC.1.2.1.p
                    have K := lookP (hC.1.2.1.1.1.1) hp.2.1 hp.2.2 r20
                    rcases k241_40 B with ⟨e, _⟩ | ⟨-, v5, m3, r3, -, B⟩
                    · exact absurd e (by decide)
                    · obtain ⟨s1, s2, s3, s4⟩ := name_ok p1 r3
                      have s1 := one_eq s1
                      have s2 := s2.symm
                      subst s2
                      rcases B with ⟨e5, y, ey, B⟩ | ⟨e5, v10, m8, r8, B⟩
                      · rw [f168_0] at B
                        cases B
                        rcases K with ⟨x1, x2, x3⟩ | ⟨x1, -⟩ | ⟨x1, -⟩
                        · have x2 := one_eq x2
                          rcases A with ⟨_, A⟩ | ⟨e, _⟩
                          · cases A
                            rw [x3, ey]
                            exact ⟨PT_wa (Fr_158 _ _), PM_wb (Fr_168 _ _), Or.inl ⟨rfl, rfl, bad_ok p1 (by decide) (Or.inl rfl)⟩⟩
                          · exact absurd x2 e
                        · omega
                        · omega
                      · have hn : f153 a 1 = 1 := (i153 a).resolve_left (by omega)
                        rw [hC.2.2.2.1.2.1, hC.1.2.1.bn, ← hp.1] at r8
                        obtain ⟨g4, w', g5, g6⟩ := B190 (by decide) (by decide) hp.2.1 hp.2.2 r8
                        have g5 := one_eq g5
                        have g4 := g4.symm
                        subst g4
                        have hrel : ∀ k, 0 ≤ k → k < a 3 6 → (a 4 k = a 1 7 ↔ b 155 (0 + k) = b 148 12) := fun k k0 k1 => NRel_iff (hC.2.1.1 k k0 k1) (s4 hn)
                        rcases K with ⟨x1, -⟩ | ⟨-, x2, x3, x4⟩ | ⟨-, u, x2, x3, xn, x4, x5, x6⟩
                        · omega
                        · have x2 := one_eq x2
                          have ev := Fnd_u hrel x4 g6
                          rcases A with ⟨_, A⟩ | ⟨e, _⟩
                          · cases A
                            rcases B with ⟨_, y, ey, B⟩ | ⟨e, _⟩
                            · rw [f168_0] at B
                              cases B
                              rw [x3, ey]
                              exact ⟨PT_wa (Fr_158 _ _), PM_wb (Fr_168 _ _), Or.inl ⟨rfl, rfl, bad_ok p1 (by decide) (Or.inr (name_kind hn))⟩⟩
                            · omega
                          · exact absurd x2 e
                        · have x2 := one_eq x2
                          have ev := Fnd_u hrel x6 g6
                          rcases A with ⟨e, _⟩ | ⟨_, v27, m25, r25, -, A⟩
                          · omega
                          · rcases B with ⟨e, _⟩ | ⟨_, B⟩
                            · omega
                            · rw [x3] at r25
                              have B := k241_86 B
                              rw [e38, h.2.2.2] at B
                              rcases beginT h c0 r25 with ⟨c, e1, e2⟩ | ⟨c, e1, r12⟩
                              · rcases B with ⟨-, y, ey, B⟩ | ⟨d, _⟩
                                · rw [f168_0] at B
                                  cases B
                                  rcases A with ⟨_, A⟩ | ⟨e, _⟩
                                  · cases A
                                    rw [e2, ey]
                                    exact ⟨PT_wa (Fr_158 _ _), PM_wb (Fr_168 _ _), Or.inl ⟨rfl, rfl, bad_ok p1 (by decide) (Or.inr (name_kind hn))⟩⟩
                                  · exact absurd e1 e
                                · omega
                              · rcases B with ⟨d, _⟩ | ⟨-, B⟩
                                · omega
                                · rcases B with ⟨-, B⟩ | ⟨d, _⟩
                                  · rcases B with ⟨-, y4, ey4, B⟩ | ⟨d, _⟩
                                    · have x7 : s32 (3 * a 96 3) = 3 * a 96 3 := s32_id (by omega) (by omega)
                                      have x7' : s32 7 = 7 := s32_id (by decide) (by decide)
                                      rw [x7] at B
                                      rw [x7, x7'] at ey4
                                      have f4 : ∀ k, y4 148 k = b 148 k := fun k => by rw [ey4, mu_a (by decide)]
                                      have f4' : ∀ x k, x ≠ 164 → y4 x k = b x k := fun x k q => by rw [ey4, mu_a q]
                                      rcases k241_135 B with ⟨e, _⟩ | ⟨-, v10', m8', r8', y11, ey11, y12, ey12, m14, r14, B⟩
                                      · exact absurd e (by decide)
                                      · rw [f4 19, f4 14, f4 12, hC.2.2.2.1.2.1, hC.1.2.1.bn, f4' 150 0 (by decide), ← hp.1] at r8'
                                        obtain ⟨g4', w2, g5', g6'⟩ := B190 (by decide) (by decide) hp.2.1 hp.2.2 r8'
                                        have g5' := one_eq g5'
                                        have g6'' : Fnd (fun k => b 155 (0 + k)) (a 3 6) (b 148 12) w2 := by
                                          have e : (fun k => y4 155 (0 + k)) = (fun k => b 155 (0 + k)) := funext fun k => f4' 155 _ (by decide)
                                          rw [e] at g6'
                                          exact g6'
                                        have ew : u = w2 := Fnd_u hrel x6 g6''
                                        rw [g4', f4 36, h.2.2.2, g5', ← ew, s32_id (z := u) (by omega) (by omega), s32_id (z := 3 * a 96 3 + 1) (by omega) (by omega)] at ey11
                                        have w36 : y11 148 36 = 164 := by rw [ey11, mu_a (by decide), f4 36]; exact h.2.2.2
                                        rw [w36, s32_0, s32_id (z := 3 * a 96 3 + 2) (by omega) (by omega)] at ey12
                                        rcases A with ⟨e, _⟩ | ⟨_, A⟩
                                        · omega
                                        · have fy : Fr (fun x k => 97 ≤ x ∧ x ≤ 99 ∧ 0 ≤ k) a (mu (mu a 97 (a 96 3) (s32 (-1))) 99 (a 96 3) 0) := ((Fr.rf _ _).mu ⟨by decide, by decide, c0⟩).mu ⟨by decide, by decide, c0⟩
                                          have fz : Fr (fun x k => (x = 164 ∧ 0 ≤ k) ∨ (x = 148 ∧ k = 13)) b y12 := by
                                            rw [ey12, ey11, ey4]
                                            exact (((Fr.rf _ _).mu (Or.inl ⟨rfl, by omega⟩)).mu (Or.inl ⟨rfl, by omega⟩)).mu (Or.inl ⟨rfl, by omega⟩)
                                          obtain ⟨s, f1, f2, -, -⟩ := stepT hX h fy fz r12 r14
                                          have fy2 : Fr (Va (a 96 3)) a (mu (mu a 97 (a 96 3) (s32 (-1))) 99 (a 96 3) 0) := ((Fr.rf _ _).mu (Or.inr ⟨Or.inl rfl, rfl⟩)).mu (Or.inr ⟨Or.inr (Or.inr rfl), rfl⟩)
                                          have fz2 : Fr (Vb (a 96 3)) b y12 := by
                                            rw [ey12, ey11, ey4]
                                            exact (((Fr.rf _ _).mu (Or.inr ⟨rfl, by omega, by omega⟩)).mu (Or.inr ⟨rfl, by omega, by omega⟩)).mu (Or.inr ⟨rfl, by omega, by omega⟩)
                                          have t3 : m25 96 3 = a 96 3 := by rw [f1 _ _ (by unfold P148; omega), mu_a (by decide), mu_a (by decide)]
                                          have t99 : m25 99 (a 96 3) = 0 := by rw [f1 _ _ (by unfold P148; omega), mu_s]
                                          have t1 : m14 164 (3 * a 96 3 + 1) = u := by rw [f2 _ _ (by unfold P195; omega), ey12, mu_k (by omega), ey11, mu_s]
                                          have t2 : m14 164 (3 * a 96 3 + 2) = 0 := by rw [f2 _ _ (by unfold P195; omega), ey12, mu_s]
                                          rw [x2] at A
                                          exact deedLine (v := 0) hX hS c0 c s t3 x4 x5 t99 t1 t2 (fy2.tr (f1.mo fun x k q => Or.inl ⟨q.1, q.2.1⟩)) (fz2.tr (f2.mo fun x k q => by unfold P195 at q; unfold Vb; omega)) A B
                                    · exact absurd rfl d
                                  · exact absurd rfl d
                  · exact absurd g15 e
                · rw [w15] at e; exact absurd g15 e
              · rcases A with ⟨e, _⟩ | ⟨e, v48, m46, r46, -, A⟩
                · rw [w15] at e; exact absurd e g15
                · rcases B with ⟨e', _⟩ | ⟨-, B⟩
                  · exact absurd e' g15
                  · rw [g13, g14] at B
                    rcases k241_40 B with ⟨-, B⟩ | ⟨e', _⟩
                    · exact dayT hX h c0 c40 e38 (kw _ e) g15 r46 A B
                    · exact absurd rfl e'
            · exact absurd g14 e
          · rw [w14] at e; exact absurd g14 e
        · rcases A with ⟨e, _⟩ | ⟨e, v48, m46, r46, -, A⟩
          · rw [w14] at e; exact absurd e g14
          · rcases B with ⟨e', _⟩ | ⟨-, B⟩
            · exact absurd e' g14
            · rw [g13, o14 g14] at B
              rcases k241_40 B with ⟨-, B⟩ | ⟨e', _⟩
              · exact voidT hX h c0 c40 e38 (kw _ e) (Or.inr ⟨rfl, rfl, g14⟩) r46 A B
              · exact absurd rfl e'
      · exact absurd g13 e
    · rw [w13] at e; exact absurd g13 e
  · rcases A with ⟨e, _⟩ | ⟨e, v48, m46, r46, -, A⟩
    · rw [w13] at e; exact absurd e g13
    · rcases B with ⟨e', _⟩ | ⟨-, B⟩
      · exact absurd e' g13
      · rw [(o13 g13).2] at B
        rcases k241_40 B with ⟨-, B⟩ | ⟨e', _⟩
        · exact voidT hX h c0 c40 e38 (kw _ e) (Or.inl ⟨rfl, g13⟩) r46 A B
        · exact absurd rfl e'
