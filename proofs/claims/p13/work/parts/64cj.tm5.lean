/-! A book's line, by its first word. -/
set_option maxRecDepth 16384 in
theorem one_eq {v : Int} {w : Int} (h : [((1 : Nat), v)] = [(1, w)]) : v = w := by
  injection h with h
  injection h
set_option maxRecDepth 16384 in
theorem voidT {X : KO} {ρ : Nat → Int32} {t : Int → Int} {L : Int} {a m25 a' b b' : MM} {rl rl' : List (Nat × Int)} {v act b1 b2 b5 : Int} {M : Nat} {ig ig' : Instr} (hX : XW X) (h : BS X t L a b) (c0 : 0 ≤ a 96 3) (c40 : a 96 3 ≤ 40) (e38 : b 148 38 = a 96 3) (hk : a 1 4 ≠ 4) (hact : (act = 5 ∧ b1 ≠ 0) ∨ (act = 6 ∧ b1 = 0 ∧ b2 ≠ 0)) (ra : Run X ρ 45 [(1, 96), (1, 1), (1, act)] a [(1, v)] m25) (A : ((v = 0) ∧ ((ig, rl, a') = ((.ireturn, [(1, 0)], m25) : Instr × List (Nat × Int) × MM))) ∨ (¬ (v = 0) ∧ (∃ v68 m66, Run X ρ 52 [(1, 96), (1, 1), (1, 3), (1, m25 96 1)] m25 [(1, v68)] m66 ∧ (v68 = 0 ∨ v68 = 1) ∧ (((v68 = 0) ∧ ((ig, rl, a') = ((.ireturn, [(1, 0)], m66) : Instr × List (Nat × Int) × MM))) ∨ (¬ (v68 = 0) ∧ (∃ v73 m71, Run X ρ 46 [(1, 96), (1, 1)] m66 [(1, v73)] m71 ∧ (v73 = 0 ∨ v73 = 1) ∧ (((v73 = 0) ∧ ((ig, rl, a') = ((.ireturn, [(1, 0)], m71) : Instr × List (Nat × Int) × MM))) ∨ (¬ (v73 = 0) ∧ ((ig, rl, a') = ((.ireturn, [(1, 1)], m71) : Instr × List (Nat × Int) × MM))))))))))  (rb : MR X ρ 6 0 0 qP241 M 86 [148, b1, b2, 0, 0, b5] [] b (ig', rl', b')) : LR X t L a a' b b' rl rl' := by
  rcases headT hX h c0 c40 e38 hk (hact.elim Or.inl (fun q => Or.inr (Or.inl q))) ra rb with ⟨k1, k2, k3, k4, k5⟩ | ⟨k1, k2, m5, M', B, k3, k4, k5, k6, k7, k8, k9, k10⟩
  · rcases A with ⟨_, A⟩ | ⟨e, _⟩
    · cases A
      have k3 : rl' = [(1, 0)] := k3
      exact ⟨k4, k5, Or.inl ⟨rfl, k3, k2⟩⟩
    · exact absurd k1 e
  · rcases A with ⟨e, _⟩ | ⟨_, v68, m66, r68, -, A⟩
    · omega
    · rw [k3.2.2.1.2.1] at r68
      rcases k241_185 B with ⟨-, B⟩ | ⟨e, _⟩
      · rcases B with ⟨-, v6, m4, r4, -, y12, ey, B⟩ | ⟨e, _⟩
        · obtain ⟨fb, P⟩ := formT hX k3 (by rw [k10]; exact c0) (by rw [k10]; exact k2) (Or.inr (Or.inl rfl)) r68 r4
          rw [k10] at P
          have x1 : s32 (3 * a 96 3 + 1) = 3 * a 96 3 + 1 := s32_id (by omega) (by omega)
          rw [x1] at ey B
          have p7 : m25 3 7 = a 3 7 := k8 3 7 (by unfold Va; omega)
          rcases P with ⟨q1, q2, q3, q4⟩ | ⟨q1, q2, u, q3, q4, q5, q6, q7, q8, q9⟩
          · have q1 := one_eq q1
            rcases A with ⟨_, A⟩ | ⟨e, _⟩
            · cases A
              rw [q2] at ey B
              have ey : y12 = m4 := ey
              rcases B with ⟨_, B⟩ | ⟨e, _⟩
              · cases B
                rw [ey]
                exact ⟨(Va_wa c0 k8).tr q4, (Vb_wb c0 k9).tr fb, Or.inl ⟨rfl, rfl, q3⟩⟩
              · exact absurd rfl e
            · exact absurd q1 e
          · have q1 := one_eq q1
            rcases A with ⟨e, _⟩ | ⟨_, v73, m71, r73, -, A⟩
            · omega
            · rw [q2] at ey B
              have pp := h.2.1.1.2.1.f
              obtain ⟨g1, g2, g3⟩ := keepT (at_ := 3 * a 96 3 + 1) q5 (by omega) q3 (by omega) q6
              rw [g2] at B
              rw [g1] at ey
              rcases B with ⟨e, _⟩ | ⟨_, v17, m15, r17, -, B⟩
              · exact absurd e (by decide)
              · rw [ey] at r17
                have e963 : m66 96 3 = a 96 3 := by rw [q8 _ _ (by omega), k10]
                obtain ⟨fe, fe2, E⟩ := endT hX g3 (by rw [e963]; exact c0) (by rw [e963]; exact k2) r73 r17
                have fva : Fr (Va (a 96 3)) a m66 := k8.tr (q8.mo fun x k q => by unfold Va; omega)
                have fvb : Fr (Vb (a 96 3)) b (mu m4 164 (3 * a 96 3 + 1) u) := k9.tr ((PM_vb q9).mu (Or.inr ⟨rfl, by omega, by omega⟩))
                have fa2 : Fr (fun x k => Va (a 96 3) x k ∨ (x = 96 ∧ k = 3)) a m71 := (fva.mo fun x k q => Or.inl q).tr (fe.mo fun x k q => by unfold Va; omega)
                have fb2 : Fr (Vb (a 96 3)) b m15 := fvb.tr (PM_vb fe2)
                have fwa : Fr WA a m71 := fa2.mo fun x k q => by unfold Va at q; unfold WA; omega
                have fwb : Fr WB b m15 := Vb_wb c0 fb2
                rcases E with ⟨z1, z2, z3⟩ | ⟨z1, z2, z3, z4⟩
                · rcases A with ⟨_, A⟩ | ⟨e, _⟩
                  · cases A
                    rcases B with ⟨_, B⟩ | ⟨e, _⟩
                    · cases B
                      exact ⟨fwa, fwb, Or.inl ⟨rfl, rfl, z3⟩⟩
                    · exact absurd z2 e
                  · exact absurd z1 e
                · rcases A with ⟨e, _⟩ | ⟨_, A⟩
                  · omega
                  · cases A
                    rcases B with ⟨e, _⟩ | ⟨_, B⟩
                    · omega
                    · cases B
                      have t97 : a' 97 (a 96 3) = act := by rw [fe _ _ (by omega), q8 _ _ (by omega), k4]
                      have t98 : a' 98 (a 96 3) = u := by rw [fe _ _ (by omega), q7]
                      have t99 : a' 99 (a 96 3) = 0 := by rw [fe _ _ (by omega), q8 _ _ (by omega), k6]
                      have u0 : b' 164 (3 * a 96 3) = act := by rw [fe2 _ _ (by unfold PM; omega), mu_k (by omega), q9 _ _ (by unfold PM; omega), k5]
                      have u1 : b' 164 (3 * a 96 3 + 1) = u := by rw [fe2 _ _ (by unfold PM; omega), mu_s]
                      have u2 : b' 164 (3 * a 96 3 + 2) = 0 := by rw [fe2 _ _ (by unfold PM; omega), mu_k (by omega), q9 _ _ (by unfold PM; omega), k7]
                      have t37 : a' 3 7 = a 3 7 := fa2 3 7 (by unfold Va; omega)
                      refine ⟨fwa, fwb, Or.inr ⟨rfl, rfl, k2, z3, by rw [z4, e963], ⟨by rw [t97, u0], by rw [t98, u1], by rw [t99, u2], Or.inl ?_⟩, fa2, fb2⟩⟩
                      rw [t97, t98, t99]
                      exact Or.inr (Or.inr (Or.inr ⟨by omega, q3, by omega⟩))
        · exact absurd rfl e
      · exact absurd rfl e
set_option maxRecDepth 16384 in
theorem dayT {X : KO} {ρ : Nat → Int32} {t : Int → Int} {L : Int} {a m25 a' b b' : MM} {rl rl' : List (Nat × Int)} {v b3 b5 : Int} {M : Nat} {ig ig' : Instr} (hX : XW X) (h : BS X t L a b) (c0 : 0 ≤ a 96 3) (c40 : a 96 3 ≤ 40) (e38 : b 148 38 = a 96 3) (hk : a 1 4 ≠ 4) (h3 : b3 ≠ 0) (ra : Run X ρ 45 [(1, 96), (1, 1), (1, 7)] a [(1, v)] m25) (A : ((v = 0) ∧ ((ig, rl, a') = ((.ireturn, [(1, 0)], m25) : Instr × List (Nat × Int) × MM))) ∨ (¬ (v = 0) ∧ (∃ v68 m66, Run X ρ 50 [(1, 96), (1, 1)] m25 [(1, v68)] m66 ∧ (v68 = 0 ∨ v68 = 1) ∧ (((v68 = 0) ∧ ((ig, rl, a') = ((.ireturn, [(1, 0)], m66) : Instr × List (Nat × Int) × MM))) ∨ (¬ (v68 = 0) ∧ (∃ v73 m71, Run X ρ 46 [(1, 96), (1, 1)] m66 [(1, v73)] m71 ∧ (v73 = 0 ∨ v73 = 1) ∧ (((v73 = 0) ∧ ((ig, rl, a') = ((.ireturn, [(1, 0)], m71) : Instr × List (Nat × Int) × MM))) ∨ (¬ (v73 = 0) ∧ ((ig, rl, a') = ((.ireturn, [(1, 1)], m71) : Instr × List (Nat × Int) × MM))))))))))  (rb : MR X ρ 6 0 0 qP241 M 86 [148, 0, 0, b3, 0, b5] [] b (ig', rl', b')) : LR X t L a a' b b' rl rl' := by
  rcases headT hX h c0 c40 e38 hk (Or.inr (Or.inr ⟨rfl, rfl, rfl⟩)) ra rb with ⟨k1, k2, k3, k4, k5⟩ | ⟨k1, k2, m5, M', B, k3, k4, k5, k6, k7, k8, k9, k10⟩
  · rcases A with ⟨_, A⟩ | ⟨e, _⟩
    · cases A
      have k3 : rl' = [(1, 0)] := k3
      exact ⟨k4, k5, Or.inl ⟨rfl, k3, k2⟩⟩
    · exact absurd k1 e
  · rcases A with ⟨e, _⟩ | ⟨_, v68, m66, r68, -, A⟩
    · omega
    · rcases k241_185 B with ⟨-, B⟩ | ⟨e, _⟩
      · rcases B with ⟨e, _⟩ | ⟨-, v22, m4, r4, -, y12, ey, B⟩
        · exact absurd e h3
        · have x1 : s32 (3 * a 96 3 + 1) = 3 * a 96 3 + 1 := s32_id (by omega) (by omega)
          rw [x1] at ey B
          obtain ⟨N5, ig5, r68⟩ := Run_CR r68 rfl
          have r68 : MR X ρ 3 0 0 qP50 N5 0 [96, 1, 0] [] m25 (ig5, [(1, v68)], m66) := r68
          obtain ⟨y6, e6, C⟩ := k50_0 r68
          rcases numT (by decide) k3.1 r4 with ⟨q1, q2, q3, q4, q5⟩ | ⟨u, q1, q2, q3, q4, q5, q6, q7⟩
          · rcases C with ⟨_, C⟩ | ⟨e, _⟩
            · cases C
              have q2 := one_eq q2
              rcases A with ⟨_, A⟩ | ⟨e, _⟩
              · cases A
                rw [q2] at ey B
                have ey : y12 = m4 := ey
                rcases B with ⟨_, B⟩ | ⟨e, _⟩
                · cases B
                  rw [ey, e6]
                  exact ⟨(Va_wa c0 k8).tr (PT_wa q4), (Vb_wb c0 k9).tr (PM_wb q5), Or.inl ⟨rfl, rfl, q3⟩⟩
                · exact absurd rfl e
              · exact absurd rfl e
            · exact absurd q1 e
          · have q6 := one_eq q6
            rcases C with ⟨e, _⟩ | ⟨_, y13, e13, m15, r15, C⟩
            · omega
            · cases C
              rcases A with ⟨e, _⟩ | ⟨_, v73, m71, r73, -, A⟩
              · exact absurd e (by decide)
              · rw [e6, q5, q1, k3.2.2.1.2.1, g48_ok (Or.inr (Or.inl rfl)) k3.2.2.1.2.2.2.2.1 (by rw [k10]; exact c0) (by rw [k10]; exact k2), s32_id (z := u) (by omega) (by omega), k10] at e13
                rw [e13] at r15
                have fy : Fr (fun x k => 97 ≤ x ∧ x ≤ 99 ∧ 0 ≤ k) m25 (mu m25 98 (a 96 3) u) := (Fr.rf _ _).mu ⟨by decide, by decide, c0⟩
                have fz : Fr (fun x k => (x = 164 ∧ 0 ≤ k) ∨ (x = 148 ∧ k = 13)) m5 (mu m5 148 13 u) := (Fr.rf _ _).mu (Or.inr ⟨rfl, rfl⟩)
                obtain ⟨s, f1, f2, -, -⟩ := stepT hX k3 fy fz r15 q7
                have e13' : m4 148 13 = u := by rw [f2 _ _ (by unfold P195; omega), mu_s]
                rw [q6] at ey B
                obtain ⟨g1, g2, g3⟩ := keepT (at_ := 3 * a 96 3 + 1) s (by omega) (by omega) (by omega) e13'
                rw [g2] at B
                rw [g1] at ey
                rcases B with ⟨e, _⟩ | ⟨_, v33, m31, r33, -, B⟩
                · exact absurd e (by decide)
                · rw [ey] at r33
                  have e963 : m66 96 3 = a 96 3 := by rw [f1 _ _ (by unfold P148; omega), mu_a (by decide), k10]
                  obtain ⟨fe, fe2, E⟩ := endT hX g3 (by rw [e963]; exact c0) (by rw [e963]; exact k2) r73 r33
                  have fy2 : Fr (Va (a 96 3)) m25 (mu m25 98 (a 96 3) u) := (Fr.rf _ _).mu (Or.inr ⟨Or.inr (Or.inl rfl), rfl⟩)
                  have fva : Fr (Va (a 96 3)) a m66 := k8.tr (fy2.tr (f1.mo fun x k q => Or.inl ⟨q.1, q.2.1⟩))
                  have fpm : Fr PM m5 m4 := ((Fr.rf _ _).mu ⟨rfl, by decide, by decide⟩).tr f2.PM
                  have fvb : Fr (Vb (a 96 3)) b (mu m4 164 (3 * a 96 3 + 1) u) := k9.tr ((PM_vb fpm).mu (Or.inr ⟨rfl, by omega, by omega⟩))
                  have fa2 : Fr (fun x k => Va (a 96 3) x k ∨ (x = 96 ∧ k = 3)) a m71 := (fva.mo fun x k q => Or.inl q).tr (fe.mo fun x k q => by unfold Va; omega)
                  have fb2 : Fr (Vb (a 96 3)) b m31 := fvb.tr (PM_vb fe2)
                  have fwa : Fr WA a m71 := fa2.mo fun x k q => by unfold Va at q; unfold WA; omega
                  have fwb : Fr WB b m31 := Vb_wb c0 fb2
                  rcases E with ⟨z1, z2, z3⟩ | ⟨z1, z2, z3, z4⟩
                  · rcases A with ⟨_, A⟩ | ⟨e, _⟩
                    · cases A
                      rcases B with ⟨_, B⟩ | ⟨e, _⟩
                      · cases B
                        exact ⟨fwa, fwb, Or.inl ⟨rfl, rfl, z3⟩⟩
                      · exact absurd z2 e
                    · exact absurd z1 e
                  · rcases A with ⟨e, _⟩ | ⟨_, A⟩
                    · omega
                    · cases A
                      rcases B with ⟨e, _⟩ | ⟨_, B⟩
                      · omega
                      · cases B
                        have t97 : a' 97 (a 96 3) = 7 := by rw [fe _ _ (by omega), f1 _ _ (by unfold P148; omega), mu_a (by decide), k4]
                        have t98 : a' 98 (a 96 3) = u := by rw [fe _ _ (by omega), f1 _ _ (by unfold P148; omega), mu_s]
                        have t99 : a' 99 (a 96 3) = 0 := by rw [fe _ _ (by omega), f1 _ _ (by unfold P148; omega), mu_a (by decide), k6]
                        have u0 : b' 164 (3 * a 96 3) = 7 := by rw [fe2 _ _ (by unfold PM; omega), mu_k (by omega), fpm _ _ (by unfold PM; omega), k5]
                        have u1 : b' 164 (3 * a 96 3 + 1) = u := by rw [fe2 _ _ (by unfold PM; omega), mu_s]
                        have u2 : b' 164 (3 * a 96 3 + 2) = 0 := by rw [fe2 _ _ (by unfold PM; omega), mu_k (by omega), fpm _ _ (by unfold PM; omega), k7]
                        exact ⟨fwa, fwb, Or.inr ⟨rfl, rfl, k2, z3, by rw [z4, e963], ⟨by rw [t97, u0], by rw [t98, u1], by rw [t99, u2], Or.inr ⟨t97, by omega, by omega⟩⟩, fa2, fb2⟩⟩
      · exact absurd rfl e
