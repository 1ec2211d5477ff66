set_option maxRecDepth 16384 in
theorem lsw_h {pc : Nat} {a o e d : Int} {t : Nat} {r : List (Int × Int)} (h : ktg pc (Op.lookupswitch.offset ((a, o) :: r) d e) = some t) (c : e = a) : ktg pc o = some t := by
  rw [Op.lookupswitch.offset_cons, if_pos c.symm] at h
  exact h
set_option maxRecDepth 16384 in
theorem lsw_m {pc : Nat} {a o e d : Int} {t : Nat} {r : List (Int × Int)} (h : ktg pc (Op.lookupswitch.offset ((a, o) :: r) d e) = some t) (c : ¬ e = a) : ktg pc (Op.lookupswitch.offset r d e) = some t := by
  rw [Op.lookupswitch.offset_cons, if_neg (fun q => c q.symm)] at h
  exact h
set_option maxRecDepth 16384 in
theorem s202_0 {X : KO} {ρ : Nat → Int32} {m : MM} {N : Nat} {o : Instr × List (Nat × Int) × MM} {a0 a1 a2 : Int} (h : MR X ρ 8 0 0 qP202 N 0 [a0, a1, a2, 0, 0, 0, 0, 0] [] m o) : ((((m (m a0 14) (s32 (216 + (s32 (4 * a1))))) = 1) ∧ (∃ v7 m5, Run X ρ 202 [(1, a0), (1, m (m a0 14) (s32 ((s32 (216 + (s32 (4 * a1)))) + 1))), (1, a2)] m [(1, v7)] m5 ∧ (v7 = 0 ∨ v7 = 1) ∧ (((v7 = 0) ∧ (o = (.ireturn, [(1, 1)], m5))) ∨ (¬ (v7 = 0) ∧ (o = (.ireturn, [(1, 0)], m5)))))) ∨ (¬ ((m (m a0 14) (s32 (216 + (s32 (4 * a1))))) = 1) ∧ ((((m (m a0 14) (s32 (216 + (s32 (4 * a1))))) = 2) ∧ (∃ v13 m11, Run X ρ 202 [(1, a0), (1, m (m a0 14) (s32 ((s32 (216 + (s32 (4 * a1)))) + 1))), (1, a2)] m [(1, v13)] m11 ∧ (v13 = 0 ∨ v13 = 1) ∧ (((v13 = 0) ∧ (o = (.ireturn, [(1, 0)], m11))) ∨ (¬ (v13 = 0) ∧ (∃ v18 m16, Run X ρ 202 [(1, a0), (1, m (m a0 14) (s32 ((s32 (216 + (s32 (4 * a1)))) + 2))), (1, a2)] m11 [(1, v18)] m16 ∧ (v18 = 0 ∨ v18 = 1) ∧ (((v18 = 0) ∧ (o = (.ireturn, [(1, 0)], m16))) ∨ (¬ (v18 = 0) ∧ (o = (.ireturn, [(1, 1)], m16))))))))) ∨ (¬ ((m (m a0 14) (s32 (216 + (s32 (4 * a1))))) = 2) ∧ ((((m (m a0 14) (s32 (216 + (s32 (4 * a1))))) = 3) ∧ (∃ v24 m22, Run X ρ 202 [(1, a0), (1, m (m a0 14) (s32 ((s32 (216 + (s32 (4 * a1)))) + 1))), (1, a2)] m [(1, v24)] m22 ∧ (v24 = 0 ∨ v24 = 1) ∧ (((v24 = 0) ∧ (∃ v29 m27, Run X ρ 202 [(1, a0), (1, m (m a0 14) (s32 ((s32 (216 + (s32 (4 * a1)))) + 2))), (1, a2)] m22 [(1, v29)] m27 ∧ (v29 = 0 ∨ v29 = 1) ∧ (((v29 = 0) ∧ (o = (.ireturn, [(1, 0)], m27))) ∨ (¬ (v29 = 0) ∧ (o = (.ireturn, [(1, 1)], m27)))))) ∨ (¬ (v24 = 0) ∧ (o = (.ireturn, [(1, 1)], m22)))))) ∨ (¬ ((m (m a0 14) (s32 (216 + (s32 (4 * a1))))) = 3) ∧ ((((m (m a0 14) (s32 (216 + (s32 (4 * a1))))) = 69) ∧ ((((m (m a0 14) (s32 (182 + a2))) = (s32 ((s32 ((m (m a0 14) (s32 (216 + (s32 (4 * a1))))) - 50)) - 19))) ∧ (o = (.ireturn, [(1, 1)], m))) ∨ (¬ ((m (m a0 14) (s32 (182 + a2))) = (s32 ((s32 ((m (m a0 14) (s32 (216 + (s32 (4 * a1))))) - 50)) - 19))) ∧ (o = (.ireturn, [(1, 0)], m))))) ∨ (¬ ((m (m a0 14) (s32 (216 + (s32 (4 * a1))))) = 69) ∧ ((((m (m a0 14) (s32 (216 + (s32 (4 * a1))))) = 70) ∧ ((((m (m a0 14) (s32 (182 + a2))) = (s32 ((s32 ((m (m a0 14) (s32 (216 + (s32 (4 * a1))))) - 50)) - 19))) ∧ (o = (.ireturn, [(1, 1)], m))) ∨ (¬ ((m (m a0 14) (s32 (182 + a2))) = (s32 ((s32 ((m (m a0 14) (s32 (216 + (s32 (4 * a1))))) - 50)) - 19))) ∧ (o = (.ireturn, [(1, 0)], m))))) ∨ (¬ ((m (m a0 14) (s32 (216 + (s32 (4 * a1))))) = 70) ∧ ((((m (m a0 14) (s32 (216 + (s32 (4 * a1))))) = 71) ∧ ((((m (m a0 14) (s32 (182 + a2))) = (s32 ((s32 ((m (m a0 14) (s32 (216 + (s32 (4 * a1))))) - 50)) - 19))) ∧ (o = (.ireturn, [(1, 1)], m))) ∨ (¬ ((m (m a0 14) (s32 (182 + a2))) = (s32 ((s32 ((m (m a0 14) (s32 (216 + (s32 (4 * a1))))) - 50)) - 19))) ∧ (o = (.ireturn, [(1, 0)], m))))) ∨ (¬ ((m (m a0 14) (s32 (216 + (s32 (4 * a1))))) = 71) ∧ ((((m (m a0 14) (s32 (216 + (s32 (4 * a1))))) = 72) ∧ ((((m (m a0 14) (s32 (182 + a2))) = (s32 ((s32 ((m (m a0 14) (s32 (216 + (s32 (4 * a1))))) - 50)) - 19))) ∧ (o = (.ireturn, [(1, 1)], m))) ∨ (¬ ((m (m a0 14) (s32 (182 + a2))) = (s32 ((s32 ((m (m a0 14) (s32 (216 + (s32 (4 * a1))))) - 50)) - 19))) ∧ (o = (.ireturn, [(1, 0)], m))))) ∨ (¬ ((m (m a0 14) (s32 (216 + (s32 (4 * a1))))) = 72) ∧ ((((m (m a0 14) (s32 (216 + (s32 (4 * a1))))) = 73) ∧ (o = (.ireturn, [(1, f206 m a0 a2)], m))) ∨ (¬ ((m (m a0 14) (s32 (216 + (s32 (4 * a1))))) = 73) ∧ ((((m (m a0 14) (s32 (216 + (s32 (4 * a1))))) = 74) ∧ ((((m (m a0 14) (s32 (76 + a2))) = (m (m a0 14) (s32 ((s32 (216 + (s32 (4 * a1)))) + 1)))) ∧ (o = (.ireturn, [(1, 1)], m))) ∨ (¬ ((m (m a0 14) (s32 (76 + a2))) = (m (m a0 14) (s32 ((s32 (216 + (s32 (4 * a1)))) + 1)))) ∧ (o = (.ireturn, [(1, 0)], m))))) ∨ (¬ ((m (m a0 14) (s32 (216 + (s32 (4 * a1))))) = 74) ∧ ((((m (m a0 14) (s32 (216 + (s32 (4 * a1))))) = 75) ∧ ((((f204 m a0 a2) = (m (m a0 14) (s32 ((s32 (216 + (s32 (4 * a1)))) + 1)))) ∧ (o = (.ireturn, [(1, 1)], m))) ∨ (¬ ((f204 m a0 a2) = (m (m a0 14) (s32 ((s32 (216 + (s32 (4 * a1)))) + 1)))) ∧ (o = (.ireturn, [(1, 0)], m))))) ∨ (¬ ((m (m a0 14) (s32 (216 + (s32 (4 * a1))))) = 75) ∧ ((((m (m a0 14) (s32 (216 + (s32 (4 * a1))))) = 76) ∧ (o = (.ireturn, [(1, f200 m a0 (m (m a0 14) (s32 ((s32 (216 + (s32 (4 * a1)))) + 1))) a2)], m))) ∨ (¬ ((m (m a0 14) (s32 (216 + (s32 (4 * a1))))) = 76) ∧ ((((s32 ((m (m a0 14) (s32 (216 + (s32 (4 * a1))))) - 50)) = 27) ∧ ((((m (m a0 14) (s32 ((s32 (216 + (s32 (4 * a1)))) + 3))) = 60) ∧ ((((m (m a0 14) (s32 ((s32 (216 + (s32 (4 * a1)))) + 2))) ≤ (f236 m a0 a2)) ∧ (o = (.ireturn, [(1, 0)], m))) ∨ (¬ ((m (m a0 14) (s32 ((s32 (216 + (s32 (4 * a1)))) + 2))) ≤ (f236 m a0 a2)) ∧ (o = (.ireturn, [(1, 1)], m))))) ∨ (¬ ((m (m a0 14) (s32 ((s32 (216 + (s32 (4 * a1)))) + 3))) = 60) ∧ ((((m (m a0 14) (s32 ((s32 (216 + (s32 (4 * a1)))) + 3))) = 61) ∧ ((((f236 m a0 a2) = (m (m a0 14) (s32 ((s32 (216 + (s32 (4 * a1)))) + 2)))) ∧ (o = (.ireturn, [(1, 1)], m))) ∨ (¬ ((f236 m a0 a2) = (m (m a0 14) (s32 ((s32 (216 + (s32 (4 * a1)))) + 2)))) ∧ (o = (.ireturn, [(1, 0)], m))))) ∨ (¬ ((m (m a0 14) (s32 ((s32 (216 + (s32 (4 * a1)))) + 3))) = 61) ∧ ((((f236 m a0 a2) ≤ (m (m a0 14) (s32 ((s32 (216 + (s32 (4 * a1)))) + 2)))) ∧ (o = (.ireturn, [(1, 0)], m))) ∨ (¬ ((f236 m a0 a2) ≤ (m (m a0 14) (s32 ((s32 (216 + (s32 (4 * a1)))) + 2)))) ∧ (o = (.ireturn, [(1, 1)], m))))))))) ∨ (¬ ((s32 ((m (m a0 14) (s32 (216 + (s32 (4 * a1))))) - 50)) = 27) ∧ ((((s32 ((m (m a0 14) (s32 (216 + (s32 (4 * a1))))) - 50)) = 28) ∧ ((((m (m a0 14) (s32 ((s32 (216 + (s32 (4 * a1)))) + 3))) = 60) ∧ ((((m (m a0 14) (s32 ((s32 (216 + (s32 (4 * a1)))) + 2))) ≤ (m (m a0 14) (s32 (190 + a2)))) ∧ (o = (.ireturn, [(1, 0)], m))) ∨ (¬ ((m (m a0 14) (s32 ((s32 (216 + (s32 (4 * a1)))) + 2))) ≤ (m (m a0 14) (s32 (190 + a2)))) ∧ (o = (.ireturn, [(1, 1)], m))))) ∨ (¬ ((m (m a0 14) (s32 ((s32 (216 + (s32 (4 * a1)))) + 3))) = 60) ∧ ((((m (m a0 14) (s32 ((s32 (216 + (s32 (4 * a1)))) + 3))) = 61) ∧ ((((m (m a0 14) (s32 (190 + a2))) = (m (m a0 14) (s32 ((s32 (216 + (s32 (4 * a1)))) + 2)))) ∧ (o = (.ireturn, [(1, 1)], m))) ∨ (¬ ((m (m a0 14) (s32 (190 + a2))) = (m (m a0 14) (s32 ((s32 (216 + (s32 (4 * a1)))) + 2)))) ∧ (o = (.ireturn, [(1, 0)], m))))) ∨ (¬ ((m (m a0 14) (s32 ((s32 (216 + (s32 (4 * a1)))) + 3))) = 61) ∧ ((((m (m a0 14) (s32 (190 + a2))) ≤ (m (m a0 14) (s32 ((s32 (216 + (s32 (4 * a1)))) + 2)))) ∧ (o = (.ireturn, [(1, 0)], m))) ∨ (¬ ((m (m a0 14) (s32 (190 + a2))) ≤ (m (m a0 14) (s32 ((s32 (216 + (s32 (4 * a1)))) + 2)))) ∧ (o = (.ireturn, [(1, 1)], m))))))))) ∨ (¬ ((s32 ((m (m a0 14) (s32 (216 + (s32 (4 * a1))))) - 50)) = 28) ∧ ((((m (m a0 14) (s32 ((s32 (216 + (s32 (4 * a1)))) + 3))) = 60) ∧ ((((m (m a0 14) (s32 ((s32 (216 + (s32 (4 * a1)))) + 2))) ≤ a2) ∧ (o = (.ireturn, [(1, 0)], m))) ∨ (¬ ((m (m a0 14) (s32 ((s32 (216 + (s32 (4 * a1)))) + 2))) ≤ a2) ∧ (o = (.ireturn, [(1, 1)], m))))) ∨ (¬ ((m (m a0 14) (s32 ((s32 (216 + (s32 (4 * a1)))) + 3))) = 60) ∧ ((((m (m a0 14) (s32 ((s32 (216 + (s32 (4 * a1)))) + 3))) = 61) ∧ (((a2 = (m (m a0 14) (s32 ((s32 (216 + (s32 (4 * a1)))) + 2)))) ∧ (o = (.ireturn, [(1, 1)], m))) ∨ (¬ (a2 = (m (m a0 14) (s32 ((s32 (216 + (s32 (4 * a1)))) + 2)))) ∧ (o = (.ireturn, [(1, 0)], m))))) ∨ (¬ ((m (m a0 14) (s32 ((s32 (216 + (s32 (4 * a1)))) + 3))) = 61) ∧ (((a2 ≤ (m (m a0 14) (s32 ((s32 (216 + (s32 (4 * a1)))) + 2)))) ∧ (o = (.ireturn, [(1, 0)], m))) ∨ (¬ (a2 ≤ (m (m a0 14) (s32 ((s32 (216 + (s32 (4 * a1)))) + 2)))) ∧ (o = (.ireturn, [(1, 1)], m)))))))))))))))))))))))))))))))))) := by
  have h := CR_sipush h rfl rfl
  have h : MR X ρ 8 0 0 qP202 N 3 [a0, a1, a2, 0, 0, 0, 0, 0] [(1, 216)] m o := h
  have h := CR_iconst h rfl rfl
  have h : MR X ρ 8 0 0 qP202 N 4 [a0, a1, a2, 0, 0, 0, 0, 0] [(1, 4), (1, 216)] m o := h
  have h := CR_iload_n h rfl
  have h : MR X ρ 8 0 0 qP202 N 5 [a0, a1, a2, 0, 0, 0, 0, 0] [(1, a1), (1, 4), (1, 216)] m o := h
  have h := CR_imul h rfl
  have h : MR X ρ 8 0 0 qP202 N 6 [a0, a1, a2, 0, 0, 0, 0, 0] [(1, s32 (4 * a1)), (1, 216)] m o := h
  have h := CR_iadd h rfl
  have h : MR X ρ 8 0 0 qP202 N 7 [a0, a1, a2, 0, 0, 0, 0, 0] [(1, s32 (216 + (s32 (4 * a1))))] m o := h
  have h := CR_istore_n h rfl (Nat.le_of_ble_eq_true rfl)
  have h : MR X ρ 8 0 0 qP202 N 8 [a0, a1, a2, s32 (216 + (s32 (4 * a1))), 0, 0, 0, 0] [] m o := h
  have h := CR_aload_n h rfl
  have h : MR X ρ 8 0 0 qP202 N 9 [a0, a1, a2, s32 (216 + (s32 (4 * a1))), 0, 0, 0, 0] [(1, a0)] m o := h
  have h := CR_getf h rfl (by decide)
  have h : MR X ρ 8 0 0 qP202 N 12 [a0, a1, a2, s32 (216 + (s32 (4 * a1))), 0, 0, 0, 0] [(1, m a0 14)] m o := h
  have h := CR_iload_n h rfl
  have h : MR X ρ 8 0 0 qP202 N 13 [a0, a1, a2, s32 (216 + (s32 (4 * a1))), 0, 0, 0, 0] [(1, s32 (216 + (s32 (4 * a1)))), (1, m a0 14)] m o := h
  have h := CR_iconst h rfl rfl
  have h : MR X ρ 8 0 0 qP202 N 14 [a0, a1, a2, s32 (216 + (s32 (4 * a1))), 0, 0, 0, 0] [(1, 1), (1, s32 (216 + (s32 (4 * a1)))), (1, m a0 14)] m o := h
  have h := CR_iadd h rfl
  have h : MR X ρ 8 0 0 qP202 N 15 [a0, a1, a2, s32 (216 + (s32 (4 * a1))), 0, 0, 0, 0] [(1, s32 ((s32 (216 + (s32 (4 * a1)))) + 1)), (1, m a0 14)] m o := h
  have h := CR_iaload h rfl rfl
  have h : MR X ρ 8 0 0 qP202 N 16 [a0, a1, a2, s32 (216 + (s32 (4 * a1))), 0, 0, 0, 0] [(1, m (m a0 14) (s32 ((s32 (216 + (s32 (4 * a1)))) + 1)))] m o := h
  have h := CR_istore h rfl (Nat.le_of_ble_eq_true rfl)
  have h : MR X ρ 8 0 0 qP202 N 18 [a0, a1, a2, s32 (216 + (s32 (4 * a1))), m (m a0 14) (s32 ((s32 (216 + (s32 (4 * a1)))) + 1)), 0, 0, 0] [] m o := h
  have h := CR_aload_n h rfl
  have h : MR X ρ 8 0 0 qP202 N 19 [a0, a1, a2, s32 (216 + (s32 (4 * a1))), m (m a0 14) (s32 ((s32 (216 + (s32 (4 * a1)))) + 1)), 0, 0, 0] [(1, a0)] m o := h
  have h := CR_getf h rfl (by decide)
  have h : MR X ρ 8 0 0 qP202 N 22 [a0, a1, a2, s32 (216 + (s32 (4 * a1))), m (m a0 14) (s32 ((s32 (216 + (s32 (4 * a1)))) + 1)), 0, 0, 0] [(1, m a0 14)] m o := h
  have h := CR_iload_n h rfl
  have h : MR X ρ 8 0 0 qP202 N 23 [a0, a1, a2, s32 (216 + (s32 (4 * a1))), m (m a0 14) (s32 ((s32 (216 + (s32 (4 * a1)))) + 1)), 0, 0, 0] [(1, s32 (216 + (s32 (4 * a1)))), (1, m a0 14)] m o := h
  have h := CR_iconst h rfl rfl
  have h : MR X ρ 8 0 0 qP202 N 24 [a0, a1, a2, s32 (216 + (s32 (4 * a1))), m (m a0 14) (s32 ((s32 (216 + (s32 (4 * a1)))) + 1)), 0, 0, 0] [(1, 2), (1, s32 (216 + (s32 (4 * a1)))), (1, m a0 14)] m o := h
  have h := CR_iadd h rfl
  have h : MR X ρ 8 0 0 qP202 N 25 [a0, a1, a2, s32 (216 + (s32 (4 * a1))), m (m a0 14) (s32 ((s32 (216 + (s32 (4 * a1)))) + 1)), 0, 0, 0] [(1, s32 ((s32 (216 + (s32 (4 * a1)))) + 2)), (1, m a0 14)] m o := h
  have h := CR_iaload h rfl rfl
  have h : MR X ρ 8 0 0 qP202 N 26 [a0, a1, a2, s32 (216 + (s32 (4 * a1))), m (m a0 14) (s32 ((s32 (216 + (s32 (4 * a1)))) + 1)), 0, 0, 0] [(1, m (m a0 14) (s32 ((s32 (216 + (s32 (4 * a1)))) + 2)))] m o := h
  have h := CR_istore h rfl (Nat.le_of_ble_eq_true rfl)
  have h : MR X ρ 8 0 0 qP202 N 28 [a0, a1, a2, s32 (216 + (s32 (4 * a1))), m (m a0 14) (s32 ((s32 (216 + (s32 (4 * a1)))) + 1)), m (m a0 14) (s32 ((s32 (216 + (s32 (4 * a1)))) + 2)), 0, 0] [] m o := h
  have h := CR_aload_n h rfl
  have h : MR X ρ 8 0 0 qP202 N 29 [a0, a1, a2, s32 (216 + (s32 (4 * a1))), m (m a0 14) (s32 ((s32 (216 + (s32 (4 * a1)))) + 1)), m (m a0 14) (s32 ((s32 (216 + (s32 (4 * a1)))) + 2)), 0, 0] [(1, a0)] m o := h
  have h := CR_getf h rfl (by decide)
  have h : MR X ρ 8 0 0 qP202 N 32 [a0, a1, a2, s32 (216 + (s32 (4 * a1))), m (m a0 14) (s32 ((s32 (216 + (s32 (4 * a1)))) + 1)), m (m a0 14) (s32 ((s32 (216 + (s32 (4 * a1)))) + 2)), 0, 0] [(1, m a0 14)] m o := h
  have h := CR_iload_n h rfl
  have h : MR X ρ 8 0 0 qP202 N 33 [a0, a1, a2, s32 (216 + (s32 (4 * a1))), m (m a0 14) (s32 ((s32 (216 + (s32 (4 * a1)))) + 1)), m (m a0 14) (s32 ((s32 (216 + (s32 (4 * a1)))) + 2)), 0, 0] [(1, s32 (216 + (s32 (4 * a1)))), (1, m a0 14)] m o := h
  have h := CR_iaload h rfl rfl
  have h : MR X ρ 8 0 0 qP202 N 34 [a0, a1, a2, s32 (216 + (s32 (4 * a1))), m (m a0 14) (s32 ((s32 (216 + (s32 (4 * a1)))) + 1)), m (m a0 14) (s32 ((s32 (216 + (s32 (4 * a1)))) + 2)), 0, 0] [(1, m (m a0 14) (s32 (216 + (s32 (4 * a1)))))] m o := h
  obtain ⟨t1, s2, h⟩ := CR_lsw h rfl
  have s2 : ktg 34 (Op.lookupswitch.offset [(1, 98), (2, 114), (3, 140), (69, 166), (70, 166), (71, 166), (72, 166), (73, 197), (74, 203), (75, 223), (76, 239)] 247 (m (m a0 14) (s32 (216 + (s32 (4 * a1)))))) = some t1 := s2
  rcases Decidable.em ((m (m a0 14) (s32 (216 + (s32 (4 * a1))))) = 1) with c3 | c3
  ·
    refine Or.inl ⟨c3, ?_⟩
    have s2 := (show ktg 34 98 = some 132 from rfl).symm.trans (lsw_h s2 c3)
    cases s2
    have h : MR X ρ 8 0 0 qP202 N 132 [a0, a1, a2, s32 (216 + (s32 (4 * a1))), m (m a0 14) (s32 ((s32 (216 + (s32 (4 * a1)))) + 1)), m (m a0 14) (s32 ((s32 (216 + (s32 (4 * a1)))) + 2)), 0, 0] [] m o := h
    have h := CR_aload_n h rfl
    have h : MR X ρ 8 0 0 qP202 N 133 [a0, a1, a2, s32 (216 + (s32 (4 * a1))), m (m a0 14) (s32 ((s32 (216 + (s32 (4 * a1)))) + 1)), m (m a0 14) (s32 ((s32 (216 + (s32 (4 * a1)))) + 2)), 0, 0] [(1, a0)] m o := h
    have h := CR_iload h rfl
    have h : MR X ρ 8 0 0 qP202 N 135 [a0, a1, a2, s32 (216 + (s32 (4 * a1))), m (m a0 14) (s32 ((s32 (216 + (s32 (4 * a1)))) + 1)), m (m a0 14) (s32 ((s32 (216 + (s32 (4 * a1)))) + 2)), 0, 0] [(1, m (m a0 14) (s32 ((s32 (216 + (s32 (4 * a1)))) + 1))), (1, a0)] m o := h
    have h := CR_iload_n h rfl
    have h : MR X ρ 8 0 0 qP202 N 136 [a0, a1, a2, s32 (216 + (s32 (4 * a1))), m (m a0 14) (s32 ((s32 (216 + (s32 (4 * a1)))) + 1)), m (m a0 14) (s32 ((s32 (216 + (s32 (4 * a1)))) + 2)), 0, 0] [(1, a2), (1, m (m a0 14) (s32 ((s32 (216 + (s32 (4 * a1)))) + 1))), (1, a0)] m o := h
    obtain ⟨r4, m5, q6, h⟩ := MR_invV h rfl rfl
    have q6 : Run X ρ 202 [(1, a0), (1, m (m a0 14) (s32 ((s32 (216 + (s32 (4 * a1)))) + 1))), (1, a2)] m r4 m5 := q6
    obtain ⟨v7, rfl, zv7⟩ := Run_z q6 rfl
    have h : MR X ρ 8 0 0 qP202 N 139 [a0, a1, a2, s32 (216 + (s32 (4 * a1))), m (m a0 14) (s32 ((s32 (216 + (s32 (4 * a1)))) + 1)), m (m a0 14) (s32 ((s32 (216 + (s32 (4 * a1)))) + 2)), 0, 0] [(1, v7)] m5 o := h
    refine ⟨v7, m5, q6, zv7, ?_⟩
    rcases MR_if h rfl rfl with ⟨c8, h⟩ | ⟨c8, h⟩
    ·
      have c8 : ¬ (v7 = 0) := c8
      refine Or.inr ⟨c8, ?_⟩
      have h : MR X ρ 8 0 0 qP202 N 146 [a0, a1, a2, s32 (216 + (s32 (4 * a1))), m (m a0 14) (s32 ((s32 (216 + (s32 (4 * a1)))) + 1)), m (m a0 14) (s32 ((s32 (216 + (s32 (4 * a1)))) + 2)), 0, 0] [] m5 o := h
      have h := CR_iconst h rfl rfl
      have h : MR X ρ 8 0 0 qP202 N 147 [a0, a1, a2, s32 (216 + (s32 (4 * a1))), m (m a0 14) (s32 ((s32 (216 + (s32 (4 * a1)))) + 1)), m (m a0 14) (s32 ((s32 (216 + (s32 (4 * a1)))) + 2)), 0, 0] [(1, 0)] m5 o := h
      exact CR_end h rfl rfl
    ·
      have c8 : v7 = 0 := Decidable.of_not_not (show ¬ ¬ (v7 = 0) from c8)
      refine Or.inl ⟨c8, ?_⟩
      have h : MR X ρ 8 0 0 qP202 N 142 [a0, a1, a2, s32 (216 + (s32 (4 * a1))), m (m a0 14) (s32 ((s32 (216 + (s32 (4 * a1)))) + 1)), m (m a0 14) (s32 ((s32 (216 + (s32 (4 * a1)))) + 2)), 0, 0] [] m5 o := h
      have h := CR_iconst h rfl rfl
      have h : MR X ρ 8 0 0 qP202 N 143 [a0, a1, a2, s32 (216 + (s32 (4 * a1))), m (m a0 14) (s32 ((s32 (216 + (s32 (4 * a1)))) + 1)), m (m a0 14) (s32 ((s32 (216 + (s32 (4 * a1)))) + 2)), 0, 0] [(1, 1)] m5 o := h
      have h := CR_go h rfl rfl
      have h : MR X ρ 8 0 0 qP202 N 147 [a0, a1, a2, s32 (216 + (s32 (4 * a1))), m (m a0 14) (s32 ((s32 (216 + (s32 (4 * a1)))) + 1)), m (m a0 14) (s32 ((s32 (216 + (s32 (4 * a1)))) + 2)), 0, 0] [(1, 1)] m5 o := h
      exact CR_end h rfl rfl
  ·
    refine Or.inr ⟨c3, ?_⟩
    have s2 := lsw_m s2 c3
    rcases Decidable.em ((m (m a0 14) (s32 (216 + (s32 (4 * a1))))) = 2) with c9 | c9
    ·
      refine Or.inl ⟨c9, ?_⟩
      have s2 := (show ktg 34 114 = some 148 from rfl).symm.trans (lsw_h s2 c9)
      cases s2
      have h : MR X ρ 8 0 0 qP202 N 148 [a0, a1, a2, s32 (216 + (s32 (4 * a1))), m (m a0 14) (s32 ((s32 (216 + (s32 (4 * a1)))) + 1)), m (m a0 14) (s32 ((s32 (216 + (s32 (4 * a1)))) + 2)), 0, 0] [] m o := h
      have h := CR_aload_n h rfl
      have h : MR X ρ 8 0 0 qP202 N 149 [a0, a1, a2, s32 (216 + (s32 (4 * a1))), m (m a0 14) (s32 ((s32 (216 + (s32 (4 * a1)))) + 1)), m (m a0 14) (s32 ((s32 (216 + (s32 (4 * a1)))) + 2)), 0, 0] [(1, a0)] m o := h
      have h := CR_iload h rfl
      have h : MR X ρ 8 0 0 qP202 N 151 [a0, a1, a2, s32 (216 + (s32 (4 * a1))), m (m a0 14) (s32 ((s32 (216 + (s32 (4 * a1)))) + 1)), m (m a0 14) (s32 ((s32 (216 + (s32 (4 * a1)))) + 2)), 0, 0] [(1, m (m a0 14) (s32 ((s32 (216 + (s32 (4 * a1)))) + 1))), (1, a0)] m o := h
      have h := CR_iload_n h rfl
      have h : MR X ρ 8 0 0 qP202 N 152 [a0, a1, a2, s32 (216 + (s32 (4 * a1))), m (m a0 14) (s32 ((s32 (216 + (s32 (4 * a1)))) + 1)), m (m a0 14) (s32 ((s32 (216 + (s32 (4 * a1)))) + 2)), 0, 0] [(1, a2), (1, m (m a0 14) (s32 ((s32 (216 + (s32 (4 * a1)))) + 1))), (1, a0)] m o := h
      obtain ⟨r10, m11, q12, h⟩ := MR_invV h rfl rfl
      have q12 : Run X ρ 202 [(1, a0), (1, m (m a0 14) (s32 ((s32 (216 + (s32 (4 * a1)))) + 1))), (1, a2)] m r10 m11 := q12
      obtain ⟨v13, rfl, zv13⟩ := Run_z q12 rfl
      have h : MR X ρ 8 0 0 qP202 N 155 [a0, a1, a2, s32 (216 + (s32 (4 * a1))), m (m a0 14) (s32 ((s32 (216 + (s32 (4 * a1)))) + 1)), m (m a0 14) (s32 ((s32 (216 + (s32 (4 * a1)))) + 2)), 0, 0] [(1, v13)] m11 o := h
      refine ⟨v13, m11, q12, zv13, ?_⟩
      rcases MR_if h rfl rfl with ⟨c14, h⟩ | ⟨c14, h⟩
      ·
        have c14 : v13 = 0 := c14
        refine Or.inl ⟨c14, ?_⟩
        have h : MR X ρ 8 0 0 qP202 N 172 [a0, a1, a2, s32 (216 + (s32 (4 * a1))), m (m a0 14) (s32 ((s32 (216 + (s32 (4 * a1)))) + 1)), m (m a0 14) (s32 ((s32 (216 + (s32 (4 * a1)))) + 2)), 0, 0] [] m11 o := h
        have h := CR_iconst h rfl rfl
        have h : MR X ρ 8 0 0 qP202 N 173 [a0, a1, a2, s32 (216 + (s32 (4 * a1))), m (m a0 14) (s32 ((s32 (216 + (s32 (4 * a1)))) + 1)), m (m a0 14) (s32 ((s32 (216 + (s32 (4 * a1)))) + 2)), 0, 0] [(1, 0)] m11 o := h
        exact CR_end h rfl rfl
      ·
        have c14 : ¬ (v13 = 0) := c14
        refine Or.inr ⟨c14, ?_⟩
        have h : MR X ρ 8 0 0 qP202 N 158 [a0, a1, a2, s32 (216 + (s32 (4 * a1))), m (m a0 14) (s32 ((s32 (216 + (s32 (4 * a1)))) + 1)), m (m a0 14) (s32 ((s32 (216 + (s32 (4 * a1)))) + 2)), 0, 0] [] m11 o := h
        have h := CR_aload_n h rfl
        have h : MR X ρ 8 0 0 qP202 N 159 [a0, a1, a2, s32 (216 + (s32 (4 * a1))), m (m a0 14) (s32 ((s32 (216 + (s32 (4 * a1)))) + 1)), m (m a0 14) (s32 ((s32 (216 + (s32 (4 * a1)))) + 2)), 0, 0] [(1, a0)] m11 o := h
        have h := CR_iload h rfl
        have h : MR X ρ 8 0 0 qP202 N 161 [a0, a1, a2, s32 (216 + (s32 (4 * a1))), m (m a0 14) (s32 ((s32 (216 + (s32 (4 * a1)))) + 1)), m (m a0 14) (s32 ((s32 (216 + (s32 (4 * a1)))) + 2)), 0, 0] [(1, m (m a0 14) (s32 ((s32 (216 + (s32 (4 * a1)))) + 2))), (1, a0)] m11 o := h
        have h := CR_iload_n h rfl
        have h : MR X ρ 8 0 0 qP202 N 162 [a0, a1, a2, s32 (216 + (s32 (4 * a1))), m (m a0 14) (s32 ((s32 (216 + (s32 (4 * a1)))) + 1)), m (m a0 14) (s32 ((s32 (216 + (s32 (4 * a1)))) + 2)), 0, 0] [(1, a2), (1, m (m a0 14) (s32 ((s32 (216 + (s32 (4 * a1)))) + 2))), (1, a0)] m11 o := h
        obtain ⟨r15, m16, q17, h⟩ := MR_invV h rfl rfl
        have q17 : Run X ρ 202 [(1, a0), (1, m (m a0 14) (s32 ((s32 (216 + (s32 (4 * a1)))) + 2))), (1, a2)] m11 r15 m16 := q17
        obtain ⟨v18, rfl, zv18⟩ := Run_z q17 rfl
        have h : MR X ρ 8 0 0 qP202 N 165 [a0, a1, a2, s32 (216 + (s32 (4 * a1))), m (m a0 14) (s32 ((s32 (216 + (s32 (4 * a1)))) + 1)), m (m a0 14) (s32 ((s32 (216 + (s32 (4 * a1)))) + 2)), 0, 0] [(1, v18)] m16 o := h
        refine ⟨v18, m16, q17, zv18, ?_⟩
        rcases MR_if h rfl rfl with ⟨c19, h⟩ | ⟨c19, h⟩
        ·
          have c19 : v18 = 0 := c19
          refine Or.inl ⟨c19, ?_⟩
          have h : MR X ρ 8 0 0 qP202 N 172 [a0, a1, a2, s32 (216 + (s32 (4 * a1))), m (m a0 14) (s32 ((s32 (216 + (s32 (4 * a1)))) + 1)), m (m a0 14) (s32 ((s32 (216 + (s32 (4 * a1)))) + 2)), 0, 0] [] m16 o := h
          have h := CR_iconst h rfl rfl
          have h : MR X ρ 8 0 0 qP202 N 173 [a0, a1, a2, s32 (216 + (s32 (4 * a1))), m (m a0 14) (s32 ((s32 (216 + (s32 (4 * a1)))) + 1)), m (m a0 14) (s32 ((s32 (216 + (s32 (4 * a1)))) + 2)), 0, 0] [(1, 0)] m16 o := h
          exact CR_end h rfl rfl
        ·
          have c19 : ¬ (v18 = 0) := c19
          refine Or.inr ⟨c19, ?_⟩
          have h : MR X ρ 8 0 0 qP202 N 168 [a0, a1, a2, s32 (216 + (s32 (4 * a1))), m (m a0 14) (s32 ((s32 (216 + (s32 (4 * a1)))) + 1)), m (m a0 14) (s32 ((s32 (216 + (s32 (4 * a1)))) + 2)), 0, 0] [] m16 o := h
          have h := CR_iconst h rfl rfl
          have h : MR X ρ 8 0 0 qP202 N 169 [a0, a1, a2, s32 (216 + (s32 (4 * a1))), m (m a0 14) (s32 ((s32 (216 + (s32 (4 * a1)))) + 1)), m (m a0 14) (s32 ((s32 (216 + (s32 (4 * a1)))) + 2)), 0, 0] [(1, 1)] m16 o := h
          have h := CR_go h rfl rfl
          have h : MR X ρ 8 0 0 qP202 N 173 [a0, a1, a2, s32 (216 + (s32 (4 * a1))), m (m a0 14) (s32 ((s32 (216 + (s32 (4 * a1)))) + 1)), m (m a0 14) (s32 ((s32 (216 + (s32 (4 * a1)))) + 2)), 0, 0] [(1, 1)] m16 o := h
          exact CR_end h rfl rfl
    ·
      refine Or.inr ⟨c9, ?_⟩
      have s2 := lsw_m s2 c9
      rcases Decidable.em ((m (m a0 14) (s32 (216 + (s32 (4 * a1))))) = 3) with c20 | c20
      ·
        refine Or.inl ⟨c20, ?_⟩
        have s2 := (show ktg 34 140 = some 174 from rfl).symm.trans (lsw_h s2 c20)
        cases s2
        have h : MR X ρ 8 0 0 qP202 N 174 [a0, a1, a2, s32 (216 + (s32 (4 * a1))), m (m a0 14) (s32 ((s32 (216 + (s32 (4 * a1)))) + 1)), m (m a0 14) (s32 ((s32 (216 + (s32 (4 * a1)))) + 2)), 0, 0] [] m o := h
        have h := CR_aload_n h rfl
        have h : MR X ρ 8 0 0 qP202 N 175 [a0, a1, a2, s32 (216 + (s32 (4 * a1))), m (m a0 14) (s32 ((s32 (216 + (s32 (4 * a1)))) + 1)), m (m a0 14) (s32 ((s32 (216 + (s32 (4 * a1)))) + 2)), 0, 0] [(1, a0)] m o := h
        have h := CR_iload h rfl
        have h : MR X ρ 8 0 0 qP202 N 177 [a0, a1, a2, s32 (216 + (s32 (4 * a1))), m (m a0 14) (s32 ((s32 (216 + (s32 (4 * a1)))) + 1)), m (m a0 14) (s32 ((s32 (216 + (s32 (4 * a1)))) + 2)), 0, 0] [(1, m (m a0 14) (s32 ((s32 (216 + (s32 (4 * a1)))) + 1))), (1, a0)] m o := h
        have h := CR_iload_n h rfl
        have h : MR X ρ 8 0 0 qP202 N 178 [a0, a1, a2, s32 (216 + (s32 (4 * a1))), m (m a0 14) (s32 ((s32 (216 + (s32 (4 * a1)))) + 1)), m (m a0 14) (s32 ((s32 (216 + (s32 (4 * a1)))) + 2)), 0, 0] [(1, a2), (1, m (m a0 14) (s32 ((s32 (216 + (s32 (4 * a1)))) + 1))), (1, a0)] m o := h
        obtain ⟨r21, m22, q23, h⟩ := MR_invV h rfl rfl
        have q23 : Run X ρ 202 [(1, a0), (1, m (m a0 14) (s32 ((s32 (216 + (s32 (4 * a1)))) + 1))), (1, a2)] m r21 m22 := q23
        obtain ⟨v24, rfl, zv24⟩ := Run_z q23 rfl
        have h : MR X ρ 8 0 0 qP202 N 181 [a0, a1, a2, s32 (216 + (s32 (4 * a1))), m (m a0 14) (s32 ((s32 (216 + (s32 (4 * a1)))) + 1)), m (m a0 14) (s32 ((s32 (216 + (s32 (4 * a1)))) + 2)), 0, 0] [(1, v24)] m22 o := h
        refine ⟨v24, m22, q23, zv24, ?_⟩
        rcases MR_if h rfl rfl with ⟨c25, h⟩ | ⟨c25, h⟩
        ·
          have c25 : ¬ (v24 = 0) := c25
          refine Or.inr ⟨c25, ?_⟩
          have h : MR X ρ 8 0 0 qP202 N 194 [a0, a1, a2, s32 (216 + (s32 (4 * a1))), m (m a0 14) (s32 ((s32 (216 + (s32 (4 * a1)))) + 1)), m (m a0 14) (s32 ((s32 (216 + (s32 (4 * a1)))) + 2)), 0, 0] [] m22 o := h
          have h := CR_iconst h rfl rfl
          have h : MR X ρ 8 0 0 qP202 N 195 [a0, a1, a2, s32 (216 + (s32 (4 * a1))), m (m a0 14) (s32 ((s32 (216 + (s32 (4 * a1)))) + 1)), m (m a0 14) (s32 ((s32 (216 + (s32 (4 * a1)))) + 2)), 0, 0] [(1, 1)] m22 o := h
          have h := CR_go h rfl rfl
          have h : MR X ρ 8 0 0 qP202 N 199 [a0, a1, a2, s32 (216 + (s32 (4 * a1))), m (m a0 14) (s32 ((s32 (216 + (s32 (4 * a1)))) + 1)), m (m a0 14) (s32 ((s32 (216 + (s32 (4 * a1)))) + 2)), 0, 0] [(1, 1)] m22 o := h
          exact CR_end h rfl rfl
        ·
          have c25 : v24 = 0 := Decidable.of_not_not (show ¬ ¬ (v24 = 0) from c25)
          refine Or.inl ⟨c25, ?_⟩
          have h : MR X ρ 8 0 0 qP202 N 184 [a0, a1, a2, s32 (216 + (s32 (4 * a1))), m (m a0 14) (s32 ((s32 (216 + (s32 (4 * a1)))) + 1)), m (m a0 14) (s32 ((s32 (216 + (s32 (4 * a1)))) + 2)), 0, 0] [] m22 o := h
          have h := CR_aload_n h rfl
          have h : MR X ρ 8 0 0 qP202 N 185 [a0, a1, a2, s32 (216 + (s32 (4 * a1))), m (m a0 14) (s32 ((s32 (216 + (s32 (4 * a1)))) + 1)), m (m a0 14) (s32 ((s32 (216 + (s32 (4 * a1)))) + 2)), 0, 0] [(1, a0)] m22 o := h
          have h := CR_iload h rfl
          have h : MR X ρ 8 0 0 qP202 N 187 [a0, a1, a2, s32 (216 + (s32 (4 * a1))), m (m a0 14) (s32 ((s32 (216 + (s32 (4 * a1)))) + 1)), m (m a0 14) (s32 ((s32 (216 + (s32 (4 * a1)))) + 2)), 0, 0] [(1, m (m a0 14) (s32 ((s32 (216 + (s32 (4 * a1)))) + 2))), (1, a0)] m22 o := h
          have h := CR_iload_n h rfl
          have h : MR X ρ 8 0 0 qP202 N 188 [a0, a1, a2, s32 (216 + (s32 (4 * a1))), m (m a0 14) (s32 ((s32 (216 + (s32 (4 * a1)))) + 1)), m (m a0 14) (s32 ((s32 (216 + (s32 (4 * a1)))) + 2)), 0, 0] [(1, a2), (1, m (m a0 14) (s32 ((s32 (216 + (s32 (4 * a1)))) + 2))), (1, a0)] m22 o := h
          obtain ⟨r26, m27, q28, h⟩ := MR_invV h rfl rfl
          have q28 : Run X ρ 202 [(1, a0), (1, m (m a0 14) (s32 ((s32 (216 + (s32 (4 * a1)))) + 2))), (1, a2)] m22 r26 m27 := q28
          obtain ⟨v29, rfl, zv29⟩ := Run_z q28 rfl
          have h : MR X ρ 8 0 0 qP202 N 191 [a0, a1, a2, s32 (216 + (s32 (4 * a1))), m (m a0 14) (s32 ((s32 (216 + (s32 (4 * a1)))) + 1)), m (m a0 14) (s32 ((s32 (216 + (s32 (4 * a1)))) + 2)), 0, 0] [(1, v29)] m27 o := h
          refine ⟨v29, m27, q28, zv29, ?_⟩
          rcases MR_if h rfl rfl with ⟨c30, h⟩ | ⟨c30, h⟩
          ·
            have c30 : v29 = 0 := c30
            refine Or.inl ⟨c30, ?_⟩
            have h : MR X ρ 8 0 0 qP202 N 198 [a0, a1, a2, s32 (216 + (s32 (4 * a1))), m (m a0 14) (s32 ((s32 (216 + (s32 (4 * a1)))) + 1)), m (m a0 14) (s32 ((s32 (216 + (s32 (4 * a1)))) + 2)), 0, 0] [] m27 o := h
            have h := CR_iconst h rfl rfl
            have h : MR X ρ 8 0 0 qP202 N 199 [a0, a1, a2, s32 (216 + (s32 (4 * a1))), m (m a0 14) (s32 ((s32 (216 + (s32 (4 * a1)))) + 1)), m (m a0 14) (s32 ((s32 (216 + (s32 (4 * a1)))) + 2)), 0, 0] [(1, 0)] m27 o := h
            exact CR_end h rfl rfl
          ·
            have c30 : ¬ (v29 = 0) := c30
            refine Or.inr ⟨c30, ?_⟩
            have h : MR X ρ 8 0 0 qP202 N 194 [a0, a1, a2, s32 (216 + (s32 (4 * a1))), m (m a0 14) (s32 ((s32 (216 + (s32 (4 * a1)))) + 1)), m (m a0 14) (s32 ((s32 (216 + (s32 (4 * a1)))) + 2)), 0, 0] [] m27 o := h
            have h := CR_iconst h rfl rfl
            have h : MR X ρ 8 0 0 qP202 N 195 [a0, a1, a2, s32 (216 + (s32 (4 * a1))), m (m a0 14) (s32 ((s32 (216 + (s32 (4 * a1)))) + 1)), m (m a0 14) (s32 ((s32 (216 + (s32 (4 * a1)))) + 2)), 0, 0] [(1, 1)] m27 o := h
            have h := CR_go h rfl rfl
            have h : MR X ρ 8 0 0 qP202 N 199 [a0, a1, a2, s32 (216 + (s32 (4 * a1))), m (m a0 14) (s32 ((s32 (216 + (s32 (4 * a1)))) + 1)), m (m a0 14) (s32 ((s32 (216 + (s32 (4 * a1)))) + 2)), 0, 0] [(1, 1)] m27 o := h
            exact CR_end h rfl rfl
      ·
        refine Or.inr ⟨c20, ?_⟩
        have s2 := lsw_m s2 c20
        rcases Decidable.em ((m (m a0 14) (s32 (216 + (s32 (4 * a1))))) = 69) with c31 | c31
        ·
          refine Or.inl ⟨c31, ?_⟩
          have s2 := (show ktg 34 166 = some 200 from rfl).symm.trans (lsw_h s2 c31)
          cases s2
          have h : MR X ρ 8 0 0 qP202 N 200 [a0, a1, a2, s32 (216 + (s32 (4 * a1))), m (m a0 14) (s32 ((s32 (216 + (s32 (4 * a1)))) + 1)), m (m a0 14) (s32 ((s32 (216 + (s32 (4 * a1)))) + 2)), 0, 0] [] m o := h
          have h := CR_aload_n h rfl
          have h : MR X ρ 8 0 0 qP202 N 201 [a0, a1, a2, s32 (216 + (s32 (4 * a1))), m (m a0 14) (s32 ((s32 (216 + (s32 (4 * a1)))) + 1)), m (m a0 14) (s32 ((s32 (216 + (s32 (4 * a1)))) + 2)), 0, 0] [(1, a0)] m o := h
          have h := CR_getf h rfl (by decide)
          have h : MR X ρ 8 0 0 qP202 N 204 [a0, a1, a2, s32 (216 + (s32 (4 * a1))), m (m a0 14) (s32 ((s32 (216 + (s32 (4 * a1)))) + 1)), m (m a0 14) (s32 ((s32 (216 + (s32 (4 * a1)))) + 2)), 0, 0] [(1, m a0 14)] m o := h
          have h := CR_sipush h rfl rfl
          have h : MR X ρ 8 0 0 qP202 N 207 [a0, a1, a2, s32 (216 + (s32 (4 * a1))), m (m a0 14) (s32 ((s32 (216 + (s32 (4 * a1)))) + 1)), m (m a0 14) (s32 ((s32 (216 + (s32 (4 * a1)))) + 2)), 0, 0] [(1, 182), (1, m a0 14)] m o := h
          have h := CR_iload_n h rfl
          have h : MR X ρ 8 0 0 qP202 N 208 [a0, a1, a2, s32 (216 + (s32 (4 * a1))), m (m a0 14) (s32 ((s32 (216 + (s32 (4 * a1)))) + 1)), m (m a0 14) (s32 ((s32 (216 + (s32 (4 * a1)))) + 2)), 0, 0] [(1, a2), (1, 182), (1, m a0 14)] m o := h
          have h := CR_iadd h rfl
          have h : MR X ρ 8 0 0 qP202 N 209 [a0, a1, a2, s32 (216 + (s32 (4 * a1))), m (m a0 14) (s32 ((s32 (216 + (s32 (4 * a1)))) + 1)), m (m a0 14) (s32 ((s32 (216 + (s32 (4 * a1)))) + 2)), 0, 0] [(1, s32 (182 + a2)), (1, m a0 14)] m o := h
          have h := CR_iaload h rfl rfl
          have h : MR X ρ 8 0 0 qP202 N 210 [a0, a1, a2, s32 (216 + (s32 (4 * a1))), m (m a0 14) (s32 ((s32 (216 + (s32 (4 * a1)))) + 1)), m (m a0 14) (s32 ((s32 (216 + (s32 (4 * a1)))) + 2)), 0, 0] [(1, m (m a0 14) (s32 (182 + a2)))] m o := h
          have h := CR_aload_n h rfl
          have h : MR X ρ 8 0 0 qP202 N 211 [a0, a1, a2, s32 (216 + (s32 (4 * a1))), m (m a0 14) (s32 ((s32 (216 + (s32 (4 * a1)))) + 1)), m (m a0 14) (s32 ((s32 (216 + (s32 (4 * a1)))) + 2)), 0, 0] [(1, a0), (1, m (m a0 14) (s32 (182 + a2)))] m o := h
          have h := CR_getf h rfl (by decide)
          have h : MR X ρ 8 0 0 qP202 N 214 [a0, a1, a2, s32 (216 + (s32 (4 * a1))), m (m a0 14) (s32 ((s32 (216 + (s32 (4 * a1)))) + 1)), m (m a0 14) (s32 ((s32 (216 + (s32 (4 * a1)))) + 2)), 0, 0] [(1, m a0 14), (1, m (m a0 14) (s32 (182 + a2)))] m o := h
          have h := CR_iload_n h rfl
          have h : MR X ρ 8 0 0 qP202 N 215 [a0, a1, a2, s32 (216 + (s32 (4 * a1))), m (m a0 14) (s32 ((s32 (216 + (s32 (4 * a1)))) + 1)), m (m a0 14) (s32 ((s32 (216 + (s32 (4 * a1)))) + 2)), 0, 0] [(1, s32 (216 + (s32 (4 * a1)))), (1, m a0 14), (1, m (m a0 14) (s32 (182 + a2)))] m o := h
          have h := CR_iaload h rfl rfl
          have h : MR X ρ 8 0 0 qP202 N 216 [a0, a1, a2, s32 (216 + (s32 (4 * a1))), m (m a0 14) (s32 ((s32 (216 + (s32 (4 * a1)))) + 1)), m (m a0 14) (s32 ((s32 (216 + (s32 (4 * a1)))) + 2)), 0, 0] [(1, m (m a0 14) (s32 (216 + (s32 (4 * a1))))), (1, m (m a0 14) (s32 (182 + a2)))] m o := h
          have h := CR_bipush h rfl rfl
          have h : MR X ρ 8 0 0 qP202 N 218 [a0, a1, a2, s32 (216 + (s32 (4 * a1))), m (m a0 14) (s32 ((s32 (216 + (s32 (4 * a1)))) + 1)), m (m a0 14) (s32 ((s32 (216 + (s32 (4 * a1)))) + 2)), 0, 0] [(1, 50), (1, m (m a0 14) (s32 (216 + (s32 (4 * a1))))), (1, m (m a0 14) (s32 (182 + a2)))] m o := h
          have h := CR_isub h rfl
          have h : MR X ρ 8 0 0 qP202 N 219 [a0, a1, a2, s32 (216 + (s32 (4 * a1))), m (m a0 14) (s32 ((s32 (216 + (s32 (4 * a1)))) + 1)), m (m a0 14) (s32 ((s32 (216 + (s32 (4 * a1)))) + 2)), 0, 0] [(1, s32 ((m (m a0 14) (s32 (216 + (s32 (4 * a1))))) - 50)), (1, m (m a0 14) (s32 (182 + a2)))] m o := h
          have h := CR_bipush h rfl rfl
          have h : MR X ρ 8 0 0 qP202 N 221 [a0, a1, a2, s32 (216 + (s32 (4 * a1))), m (m a0 14) (s32 ((s32 (216 + (s32 (4 * a1)))) + 1)), m (m a0 14) (s32 ((s32 (216 + (s32 (4 * a1)))) + 2)), 0, 0] [(1, 19), (1, s32 ((m (m a0 14) (s32 (216 + (s32 (4 * a1))))) - 50)), (1, m (m a0 14) (s32 (182 + a2)))] m o := h
          have h := CR_isub h rfl
          have h : MR X ρ 8 0 0 qP202 N 222 [a0, a1, a2, s32 (216 + (s32 (4 * a1))), m (m a0 14) (s32 ((s32 (216 + (s32 (4 * a1)))) + 1)), m (m a0 14) (s32 ((s32 (216 + (s32 (4 * a1)))) + 2)), 0, 0] [(1, s32 ((s32 ((m (m a0 14) (s32 (216 + (s32 (4 * a1))))) - 50)) - 19)), (1, m (m a0 14) (s32 (182 + a2)))] m o := h
          rcases MR_icmp h rfl rfl with ⟨c32, h⟩ | ⟨c32, h⟩
          ·
            have c32 : ¬ ((m (m a0 14) (s32 (182 + a2))) = (s32 ((s32 ((m (m a0 14) (s32 (216 + (s32 (4 * a1))))) - 50)) - 19))) := c32
            refine Or.inr ⟨c32, ?_⟩
            have h : MR X ρ 8 0 0 qP202 N 229 [a0, a1, a2, s32 (216 + (s32 (4 * a1))), m (m a0 14) (s32 ((s32 (216 + (s32 (4 * a1)))) + 1)), m (m a0 14) (s32 ((s32 (216 + (s32 (4 * a1)))) + 2)), 0, 0] [] m o := h
            have h := CR_iconst h rfl rfl
            have h : MR X ρ 8 0 0 qP202 N 230 [a0, a1, a2, s32 (216 + (s32 (4 * a1))), m (m a0 14) (s32 ((s32 (216 + (s32 (4 * a1)))) + 1)), m (m a0 14) (s32 ((s32 (216 + (s32 (4 * a1)))) + 2)), 0, 0] [(1, 0)] m o := h
            exact CR_end h rfl rfl
          ·
            have c32 : (m (m a0 14) (s32 (182 + a2))) = (s32 ((s32 ((m (m a0 14) (s32 (216 + (s32 (4 * a1))))) - 50)) - 19)) := Decidable.of_not_not (show ¬ ¬ ((m (m a0 14) (s32 (182 + a2))) = (s32 ((s32 ((m (m a0 14) (s32 (216 + (s32 (4 * a1))))) - 50)) - 19))) from c32)
            refine Or.inl ⟨c32, ?_⟩
            have h : MR X ρ 8 0 0 qP202 N 225 [a0, a1, a2, s32 (216 + (s32 (4 * a1))), m (m a0 14) (s32 ((s32 (216 + (s32 (4 * a1)))) + 1)), m (m a0 14) (s32 ((s32 (216 + (s32 (4 * a1)))) + 2)), 0, 0] [] m o := h
            have h := CR_iconst h rfl rfl
            have h : MR X ρ 8 0 0 qP202 N 226 [a0, a1, a2, s32 (216 + (s32 (4 * a1))), m (m a0 14) (s32 ((s32 (216 + (s32 (4 * a1)))) + 1)), m (m a0 14) (s32 ((s32 (216 + (s32 (4 * a1)))) + 2)), 0, 0] [(1, 1)] m o := h
            have h := CR_go h rfl rfl
            have h : MR X ρ 8 0 0 qP202 N 230 [a0, a1, a2, s32 (216 + (s32 (4 * a1))), m (m a0 14) (s32 ((s32 (216 + (s32 (4 * a1)))) + 1)), m (m a0 14) (s32 ((s32 (216 + (s32 (4 * a1)))) + 2)), 0, 0] [(1, 1)] m o := h
            exact CR_end h rfl rfl
        ·
          refine Or.inr ⟨c31, ?_⟩
          have s2 := lsw_m s2 c31
          rcases Decidable.em ((m (m a0 14) (s32 (216 + (s32 (4 * a1))))) = 70) with c33 | c33
          ·
            refine Or.inl ⟨c33, ?_⟩
            have s2 := (show ktg 34 166 = some 200 from rfl).symm.trans (lsw_h s2 c33)
            cases s2
            have h : MR X ρ 8 0 0 qP202 N 200 [a0, a1, a2, s32 (216 + (s32 (4 * a1))), m (m a0 14) (s32 ((s32 (216 + (s32 (4 * a1)))) + 1)), m (m a0 14) (s32 ((s32 (216 + (s32 (4 * a1)))) + 2)), 0, 0] [] m o := h
            have h := CR_aload_n h rfl
            have h : MR X ρ 8 0 0 qP202 N 201 [a0, a1, a2, s32 (216 + (s32 (4 * a1))), m (m a0 14) (s32 ((s32 (216 + (s32 (4 * a1)))) + 1)), m (m a0 14) (s32 ((s32 (216 + (s32 (4 * a1)))) + 2)), 0, 0] [(1, a0)] m o := h
            have h := CR_getf h rfl (by decide)
            have h : MR X ρ 8 0 0 qP202 N 204 [a0, a1, a2, s32 (216 + (s32 (4 * a1))), m (m a0 14) (s32 ((s32 (216 + (s32 (4 * a1)))) + 1)), m (m a0 14) (s32 ((s32 (216 + (s32 (4 * a1)))) + 2)), 0, 0] [(1, m a0 14)] m o := h
            have h := CR_sipush h rfl rfl
            have h : MR X ρ 8 0 0 qP202 N 207 [a0, a1, a2, s32 (216 + (s32 (4 * a1))), m (m a0 14) (s32 ((s32 (216 + (s32 (4 * a1)))) + 1)), m (m a0 14) (s32 ((s32 (216 + (s32 (4 * a1)))) + 2)), 0, 0] [(1, 182), (1, m a0 14)] m o := h
            have h := CR_iload_n h rfl
            have h : MR X ρ 8 0 0 qP202 N 208 [a0, a1, a2, s32 (216 + (s32 (4 * a1))), m (m a0 14) (s32 ((s32 (216 + (s32 (4 * a1)))) + 1)), m (m a0 14) (s32 ((s32 (216 + (s32 (4 * a1)))) + 2)), 0, 0] [(1, a2), (1, 182), (1, m a0 14)] m o := h
            have h := CR_iadd h rfl
            have h : MR X ρ 8 0 0 qP202 N 209 [a0, a1, a2, s32 (216 + (s32 (4 * a1))), m (m a0 14) (s32 ((s32 (216 + (s32 (4 * a1)))) + 1)), m (m a0 14) (s32 ((s32 (216 + (s32 (4 * a1)))) + 2)), 0, 0] [(1, s32 (182 + a2)), (1, m a0 14)] m o := h
            have h := CR_iaload h rfl rfl
            have h : MR X ρ 8 0 0 qP202 N 210 [a0, a1, a2, s32 (216 + (s32 (4 * a1))), m (m a0 14) (s32 ((s32 (216 + (s32 (4 * a1)))) + 1)), m (m a0 14) (s32 ((s32 (216 + (s32 (4 * a1)))) + 2)), 0, 0] [(1, m (m a0 14) (s32 (182 + a2)))] m o := h
            have h := CR_aload_n h rfl
            have h : MR X ρ 8 0 0 qP202 N 211 [a0, a1, a2, s32 (216 + (s32 (4 * a1))), m (m a0 14) (s32 ((s32 (216 + (s32 (4 * a1)))) + 1)), m (m a0 14) (s32 ((s32 (216 + (s32 (4 * a1)))) + 2)), 0, 0] [(1, a0), (1, m (m a0 14) (s32 (182 + a2)))] m o := h
            have h := CR_getf h rfl (by decide)
            have h : MR X ρ 8 0 0 qP202 N 214 [a0, a1, a2, s32 (216 + (s32 (4 * a1))), m (m a0 14) (s32 ((s32 (216 + (s32 (4 * a1)))) + 1)), m (m a0 14) (s32 ((s32 (216 + (s32 (4 * a1)))) + 2)), 0, 0] [(1, m a0 14), (1, m (m a0 14) (s32 (182 + a2)))] m o := h
            have h := CR_iload_n h rfl
            have h : MR X ρ 8 0 0 qP202 N 215 [a0, a1, a2, s32 (216 + (s32 (4 * a1))), m (m a0 14) (s32 ((s32 (216 + (s32 (4 * a1)))) + 1)), m (m a0 14) (s32 ((s32 (216 + (s32 (4 * a1)))) + 2)), 0, 0] [(1, s32 (216 + (s32 (4 * a1)))), (1, m a0 14), (1, m (m a0 14) (s32 (182 + a2)))] m o := h
            have h := CR_iaload h rfl rfl
            have h : MR X ρ 8 0 0 qP202 N 216 [a0, a1, a2, s32 (216 + (s32 (4 * a1))), m (m a0 14) (s32 ((s32 (216 + (s32 (4 * a1)))) + 1)), m (m a0 14) (s32 ((s32 (216 + (s32 (4 * a1)))) + 2)), 0, 0] [(1, m (m a0 14) (s32 (216 + (s32 (4 * a1))))), (1, m (m a0 14) (s32 (182 + a2)))] m o := h
            have h := CR_bipush h rfl rfl
            have h : MR X ρ 8 0 0 qP202 N 218 [a0, a1, a2, s32 (216 + (s32 (4 * a1))), m (m a0 14) (s32 ((s32 (216 + (s32 (4 * a1)))) + 1)), m (m a0 14) (s32 ((s32 (216 + (s32 (4 * a1)))) + 2)), 0, 0] [(1, 50), (1, m (m a0 14) (s32 (216 + (s32 (4 * a1))))), (1, m (m a0 14) (s32 (182 + a2)))] m o := h
            have h := CR_isub h rfl
            have h : MR X ρ 8 0 0 qP202 N 219 [a0, a1, a2, s32 (216 + (s32 (4 * a1))), m (m a0 14) (s32 ((s32 (216 + (s32 (4 * a1)))) + 1)), m (m a0 14) (s32 ((s32 (216 + (s32 (4 * a1)))) + 2)), 0, 0] [(1, s32 ((m (m a0 14) (s32 (216 + (s32 (4 * a1))))) - 50)), (1, m (m a0 14) (s32 (182 + a2)))] m o := h
            have h := CR_bipush h rfl rfl
            have h : MR X ρ 8 0 0 qP202 N 221 [a0, a1, a2, s32 (216 + (s32 (4 * a1))), m (m a0 14) (s32 ((s32 (216 + (s32 (4 * a1)))) + 1)), m (m a0 14) (s32 ((s32 (216 + (s32 (4 * a1)))) + 2)), 0, 0] [(1, 19), (1, s32 ((m (m a0 14) (s32 (216 + (s32 (4 * a1))))) - 50)), (1, m (m a0 14) (s32 (182 + a2)))] m o := h
            have h := CR_isub h rfl
            have h : MR X ρ 8 0 0 qP202 N 222 [a0, a1, a2, s32 (216 + (s32 (4 * a1))), m (m a0 14) (s32 ((s32 (216 + (s32 (4 * a1)))) + 1)), m (m a0 14) (s32 ((s32 (216 + (s32 (4 * a1)))) + 2)), 0, 0] [(1, s32 ((s32 ((m (m a0 14) (s32 (216 + (s32 (4 * a1))))) - 50)) - 19)), (1, m (m a0 14) (s32 (182 + a2)))] m o := h
            rcases MR_icmp h rfl rfl with ⟨c34, h⟩ | ⟨c34, h⟩
            ·
              have c34 : ¬ ((m (m a0 14) (s32 (182 + a2))) = (s32 ((s32 ((m (m a0 14) (s32 (216 + (s32 (4 * a1))))) - 50)) - 19))) := c34
              refine Or.inr ⟨c34, ?_⟩
              have h : MR X ρ 8 0 0 qP202 N 229 [a0, a1, a2, s32 (216 + (s32 (4 * a1))), m (m a0 14) (s32 ((s32 (216 + (s32 (4 * a1)))) + 1)), m (m a0 14) (s32 ((s32 (216 + (s32 (4 * a1)))) + 2)), 0, 0] [] m o := h
              have h := CR_iconst h rfl rfl
              have h : MR X ρ 8 0 0 qP202 N 230 [a0, a1, a2, s32 (216 + (s32 (4 * a1))), m (m a0 14) (s32 ((s32 (216 + (s32 (4 * a1)))) + 1)), m (m a0 14) (s32 ((s32 (216 + (s32 (4 * a1)))) + 2)), 0, 0] [(1, 0)] m o := h
              exact CR_end h rfl rfl
            ·
              have c34 : (m (m a0 14) (s32 (182 + a2))) = (s32 ((s32 ((m (m a0 14) (s32 (216 + (s32 (4 * a1))))) - 50)) - 19)) := Decidable.of_not_not (show ¬ ¬ ((m (m a0 14) (s32 (182 + a2))) = (s32 ((s32 ((m (m a0 14) (s32 (216 + (s32 (4 * a1))))) - 50)) - 19))) from c34)
              refine Or.inl ⟨c34, ?_⟩
              have h : MR X ρ 8 0 0 qP202 N 225 [a0, a1, a2, s32 (216 + (s32 (4 * a1))), m (m a0 14) (s32 ((s32 (216 + (s32 (4 * a1)))) + 1)), m (m a0 14) (s32 ((s32 (216 + (s32 (4 * a1)))) + 2)), 0, 0] [] m o := h
              have h := CR_iconst h rfl rfl
              have h : MR X ρ 8 0 0 qP202 N 226 [a0, a1, a2, s32 (216 + (s32 (4 * a1))), m (m a0 14) (s32 ((s32 (216 + (s32 (4 * a1)))) + 1)), m (m a0 14) (s32 ((s32 (216 + (s32 (4 * a1)))) + 2)), 0, 0] [(1, 1)] m o := h
              have h := CR_go h rfl rfl
              have h : MR X ρ 8 0 0 qP202 N 230 [a0, a1, a2, s32 (216 + (s32 (4 * a1))), m (m a0 14) (s32 ((s32 (216 + (s32 (4 * a1)))) + 1)), m (m a0 14) (s32 ((s32 (216 + (s32 (4 * a1)))) + 2)), 0, 0] [(1, 1)] m o := h
              exact CR_end h rfl rfl
          ·
            refine Or.inr ⟨c33, ?_⟩
            have s2 := lsw_m s2 c33
            rcases Decidable.em ((m (m a0 14) (s32 (216 + (s32 (4 * a1))))) = 71) with c35 | c35
            ·
              refine Or.inl ⟨c35, ?_⟩
              have s2 := (show ktg 34 166 = some 200 from rfl).symm.trans (lsw_h s2 c35)
              cases s2
              have h : MR X ρ 8 0 0 qP202 N 200 [a0, a1, a2, s32 (216 + (s32 (4 * a1))), m (m a0 14) (s32 ((s32 (216 + (s32 (4 * a1)))) + 1)), m (m a0 14) (s32 ((s32 (216 + (s32 (4 * a1)))) + 2)), 0, 0] [] m o := h
              have h := CR_aload_n h rfl
              have h : MR X ρ 8 0 0 qP202 N 201 [a0, a1, a2, s32 (216 + (s32 (4 * a1))), m (m a0 14) (s32 ((s32 (216 + (s32 (4 * a1)))) + 1)), m (m a0 14) (s32 ((s32 (216 + (s32 (4 * a1)))) + 2)), 0, 0] [(1, a0)] m o := h
              have h := CR_getf h rfl (by decide)
              have h : MR X ρ 8 0 0 qP202 N 204 [a0, a1, a2, s32 (216 + (s32 (4 * a1))), m (m a0 14) (s32 ((s32 (216 + (s32 (4 * a1)))) + 1)), m (m a0 14) (s32 ((s32 (216 + (s32 (4 * a1)))) + 2)), 0, 0] [(1, m a0 14)] m o := h
              have h := CR_sipush h rfl rfl
              have h : MR X ρ 8 0 0 qP202 N 207 [a0, a1, a2, s32 (216 + (s32 (4 * a1))), m (m a0 14) (s32 ((s32 (216 + (s32 (4 * a1)))) + 1)), m (m a0 14) (s32 ((s32 (216 + (s32 (4 * a1)))) + 2)), 0, 0] [(1, 182), (1, m a0 14)] m o := h
              have h := CR_iload_n h rfl
              have h : MR X ρ 8 0 0 qP202 N 208 [a0, a1, a2, s32 (216 + (s32 (4 * a1))), m (m a0 14) (s32 ((s32 (216 + (s32 (4 * a1)))) + 1)), m (m a0 14) (s32 ((s32 (216 + (s32 (4 * a1)))) + 2)), 0, 0] [(1, a2), (1, 182), (1, m a0 14)] m o := h
              have h := CR_iadd h rfl
              have h : MR X ρ 8 0 0 qP202 N 209 [a0, a1, a2, s32 (216 + (s32 (4 * a1))), m (m a0 14) (s32 ((s32 (216 + (s32 (4 * a1)))) + 1)), m (m a0 14) (s32 ((s32 (216 + (s32 (4 * a1)))) + 2)), 0, 0] [(1, s32 (182 + a2)), (1, m a0 14)] m o := h
              have h := CR_iaload h rfl rfl
              have h : MR X ρ 8 0 0 qP202 N 210 [a0, a1, a2, s32 (216 + (s32 (4 * a1))), m (m a0 14) (s32 ((s32 (216 + (s32 (4 * a1)))) + 1)), m (m a0 14) (s32 ((s32 (216 + (s32 (4 * a1)))) + 2)), 0, 0] [(1, m (m a0 14) (s32 (182 + a2)))] m o := h
              have h := CR_aload_n h rfl
              have h : MR X ρ 8 0 0 qP202 N 211 [a0, a1, a2, s32 (216 + (s32 (4 * a1))), m (m a0 14) (s32 ((s32 (216 + (s32 (4 * a1)))) + 1)), m (m a0 14) (s32 ((s32 (216 + (s32 (4 * a1)))) + 2)), 0, 0] [(1, a0), (1, m (m a0 14) (s32 (182 + a2)))] m o := h
              have h := CR_getf h rfl (by decide)
              have h : MR X ρ 8 0 0 qP202 N 214 [a0, a1, a2, s32 (216 + (s32 (4 * a1))), m (m a0 14) (s32 ((s32 (216 + (s32 (4 * a1)))) + 1)), m (m a0 14) (s32 ((s32 (216 + (s32 (4 * a1)))) + 2)), 0, 0] [(1, m a0 14), (1, m (m a0 14) (s32 (182 + a2)))] m o := h
              have h := CR_iload_n h rfl
              have h : MR X ρ 8 0 0 qP202 N 215 [a0, a1, a2, s32 (216 + (s32 (4 * a1))), m (m a0 14) (s32 ((s32 (216 + (s32 (4 * a1)))) + 1)), m (m a0 14) (s32 ((s32 (216 + (s32 (4 * a1)))) + 2)), 0, 0] [(1, s32 (216 + (s32 (4 * a1)))), (1, m a0 14), (1, m (m a0 14) (s32 (182 + a2)))] m o := h
              have h := CR_iaload h rfl rfl
              have h : MR X ρ 8 0 0 qP202 N 216 [a0, a1, a2, s32 (216 + (s32 (4 * a1))), m (m a0 14) (s32 ((s32 (216 + (s32 (4 * a1)))) + 1)), m (m a0 14) (s32 ((s32 (216 + (s32 (4 * a1)))) + 2)), 0, 0] [(1, m (m a0 14) (s32 (216 + (s32 (4 * a1))))), (1, m (m a0 14) (s32 (182 + a2)))] m o := h
              have h := CR_bipush h rfl rfl
              have h : MR X ρ 8 0 0 qP202 N 218 [a0, a1, a2, s32 (216 + (s32 (4 * a1))), m (m a0 14) (s32 ((s32 (216 + (s32 (4 * a1)))) + 1)), m (m a0 14) (s32 ((s32 (216 + (s32 (4 * a1)))) + 2)), 0, 0] [(1, 50), (1, m (m a0 14) (s32 (216 + (s32 (4 * a1))))), (1, m (m a0 14) (s32 (182 + a2)))] m o := h
              have h := CR_isub h rfl
              have h : MR X ρ 8 0 0 qP202 N 219 [a0, a1, a2, s32 (216 + (s32 (4 * a1))), m (m a0 14) (s32 ((s32 (216 + (s32 (4 * a1)))) + 1)), m (m a0 14) (s32 ((s32 (216 + (s32 (4 * a1)))) + 2)), 0, 0] [(1, s32 ((m (m a0 14) (s32 (216 + (s32 (4 * a1))))) - 50)), (1, m (m a0 14) (s32 (182 + a2)))] m o := h
              have h := CR_bipush h rfl rfl
              have h : MR X ρ 8 0 0 qP202 N 221 [a0, a1, a2, s32 (216 + (s32 (4 * a1))), m (m a0 14) (s32 ((s32 (216 + (s32 (4 * a1)))) + 1)), m (m a0 14) (s32 ((s32 (216 + (s32 (4 * a1)))) + 2)), 0, 0] [(1, 19), (1, s32 ((m (m a0 14) (s32 (216 + (s32 (4 * a1))))) - 50)), (1, m (m a0 14) (s32 (182 + a2)))] m o := h
              have h := CR_isub h rfl
              have h : MR X ρ 8 0 0 qP202 N 222 [a0, a1, a2, s32 (216 + (s32 (4 * a1))), m (m a0 14) (s32 ((s32 (216 + (s32 (4 * a1)))) + 1)), m (m a0 14) (s32 ((s32 (216 + (s32 (4 * a1)))) + 2)), 0, 0] [(1, s32 ((s32 ((m (m a0 14) (s32 (216 + (s32 (4 * a1))))) - 50)) - 19)), (1, m (m a0 14) (s32 (182 + a2)))] m o := h
              rcases MR_icmp h rfl rfl with ⟨c36, h⟩ | ⟨c36, h⟩
              ·
                have c36 : ¬ ((m (m a0 14) (s32 (182 + a2))) = (s32 ((s32 ((m (m a0 14) (s32 (216 + (s32 (4 * a1))))) - 50)) - 19))) := c36
                refine Or.inr ⟨c36, ?_⟩
                have h : MR X ρ 8 0 0 qP202 N 229 [a0, a1, a2, s32 (216 + (s32 (4 * a1))), m (m a0 14) (s32 ((s32 (216 + (s32 (4 * a1)))) + 1)), m (m a0 14) (s32 ((s32 (216 + (s32 (4 * a1)))) + 2)), 0, 0] [] m o := h
                have h := CR_iconst h rfl rfl
                have h : MR X ρ 8 0 0 qP202 N 230 [a0, a1, a2, s32 (216 + (s32 (4 * a1))), m (m a0 14) (s32 ((s32 (216 + (s32 (4 * a1)))) + 1)), m (m a0 14) (s32 ((s32 (216 + (s32 (4 * a1)))) + 2)), 0, 0] [(1, 0)] m o := h
                exact CR_end h rfl rfl
              ·
                have c36 : (m (m a0 14) (s32 (182 + a2))) = (s32 ((s32 ((m (m a0 14) (s32 (216 + (s32 (4 * a1))))) - 50)) - 19)) := Decidable.of_not_not (show ¬ ¬ ((m (m a0 14) (s32 (182 + a2))) = (s32 ((s32 ((m (m a0 14) (s32 (216 + (s32 (4 * a1))))) - 50)) - 19))) from c36)
                refine Or.inl ⟨c36, ?_⟩
                have h : MR X ρ 8 0 0 qP202 N 225 [a0, a1, a2, s32 (216 + (s32 (4 * a1))), m (m a0 14) (s32 ((s32 (216 + (s32 (4 * a1)))) + 1)), m (m a0 14) (s32 ((s32 (216 + (s32 (4 * a1)))) + 2)), 0, 0] [] m o := h
                have h := CR_iconst h rfl rfl
                have h : MR X ρ 8 0 0 qP202 N 226 [a0, a1, a2, s32 (216 + (s32 (4 * a1))), m (m a0 14) (s32 ((s32 (216 + (s32 (4 * a1)))) + 1)), m (m a0 14) (s32 ((s32 (216 + (s32 (4 * a1)))) + 2)), 0, 0] [(1, 1)] m o := h
                have h := CR_go h rfl rfl
                have h : MR X ρ 8 0 0 qP202 N 230 [a0, a1, a2, s32 (216 + (s32 (4 * a1))), m (m a0 14) (s32 ((s32 (216 + (s32 (4 * a1)))) + 1)), m (m a0 14) (s32 ((s32 (216 + (s32 (4 * a1)))) + 2)), 0, 0] [(1, 1)] m o := h
                exact CR_end h rfl rfl
            ·
              refine Or.inr ⟨c35, ?_⟩
              have s2 := lsw_m s2 c35
              rcases Decidable.em ((m (m a0 14) (s32 (216 + (s32 (4 * a1))))) = 72) with c37 | c37
              ·
                refine Or.inl ⟨c37, ?_⟩
                have s2 := (show ktg 34 166 = some 200 from rfl).symm.trans (lsw_h s2 c37)
                cases s2
                have h : MR X ρ 8 0 0 qP202 N 200 [a0, a1, a2, s32 (216 + (s32 (4 * a1))), m (m a0 14) (s32 ((s32 (216 + (s32 (4 * a1)))) + 1)), m (m a0 14) (s32 ((s32 (216 + (s32 (4 * a1)))) + 2)), 0, 0] [] m o := h
                have h := CR_aload_n h rfl
                have h : MR X ρ 8 0 0 qP202 N 201 [a0, a1, a2, s32 (216 + (s32 (4 * a1))), m (m a0 14) (s32 ((s32 (216 + (s32 (4 * a1)))) + 1)), m (m a0 14) (s32 ((s32 (216 + (s32 (4 * a1)))) + 2)), 0, 0] [(1, a0)] m o := h
                have h := CR_getf h rfl (by decide)
                have h : MR X ρ 8 0 0 qP202 N 204 [a0, a1, a2, s32 (216 + (s32 (4 * a1))), m (m a0 14) (s32 ((s32 (216 + (s32 (4 * a1)))) + 1)), m (m a0 14) (s32 ((s32 (216 + (s32 (4 * a1)))) + 2)), 0, 0] [(1, m a0 14)] m o := h
                have h := CR_sipush h rfl rfl
                have h : MR X ρ 8 0 0 qP202 N 207 [a0, a1, a2, s32 (216 + (s32 (4 * a1))), m (m a0 14) (s32 ((s32 (216 + (s32 (4 * a1)))) + 1)), m (m a0 14) (s32 ((s32 (216 + (s32 (4 * a1)))) + 2)), 0, 0] [(1, 182), (1, m a0 14)] m o := h
                have h := CR_iload_n h rfl
                have h : MR X ρ 8 0 0 qP202 N 208 [a0, a1, a2, s32 (216 + (s32 (4 * a1))), m (m a0 14) (s32 ((s32 (216 + (s32 (4 * a1)))) + 1)), m (m a0 14) (s32 ((s32 (216 + (s32 (4 * a1)))) + 2)), 0, 0] [(1, a2), (1, 182), (1, m a0 14)] m o := h
                have h := CR_iadd h rfl
                have h : MR X ρ 8 0 0 qP202 N 209 [a0, a1, a2, s32 (216 + (s32 (4 * a1))), m (m a0 14) (s32 ((s32 (216 + (s32 (4 * a1)))) + 1)), m (m a0 14) (s32 ((s32 (216 + (s32 (4 * a1)))) + 2)), 0, 0] [(1, s32 (182 + a2)), (1, m a0 14)] m o := h
                have h := CR_iaload h rfl rfl
                have h : MR X ρ 8 0 0 qP202 N 210 [a0, a1, a2, s32 (216 + (s32 (4 * a1))), m (m a0 14) (s32 ((s32 (216 + (s32 (4 * a1)))) + 1)), m (m a0 14) (s32 ((s32 (216 + (s32 (4 * a1)))) + 2)), 0, 0] [(1, m (m a0 14) (s32 (182 + a2)))] m o := h
                have h := CR_aload_n h rfl
                have h : MR X ρ 8 0 0 qP202 N 211 [a0, a1, a2, s32 (216 + (s32 (4 * a1))), m (m a0 14) (s32 ((s32 (216 + (s32 (4 * a1)))) + 1)), m (m a0 14) (s32 ((s32 (216 + (s32 (4 * a1)))) + 2)), 0, 0] [(1, a0), (1, m (m a0 14) (s32 (182 + a2)))] m o := h
                have h := CR_getf h rfl (by decide)
                have h : MR X ρ 8 0 0 qP202 N 214 [a0, a1, a2, s32 (216 + (s32 (4 * a1))), m (m a0 14) (s32 ((s32 (216 + (s32 (4 * a1)))) + 1)), m (m a0 14) (s32 ((s32 (216 + (s32 (4 * a1)))) + 2)), 0, 0] [(1, m a0 14), (1, m (m a0 14) (s32 (182 + a2)))] m o := h
                have h := CR_iload_n h rfl
                have h : MR X ρ 8 0 0 qP202 N 215 [a0, a1, a2, s32 (216 + (s32 (4 * a1))), m (m a0 14) (s32 ((s32 (216 + (s32 (4 * a1)))) + 1)), m (m a0 14) (s32 ((s32 (216 + (s32 (4 * a1)))) + 2)), 0, 0] [(1, s32 (216 + (s32 (4 * a1)))), (1, m a0 14), (1, m (m a0 14) (s32 (182 + a2)))] m o := h
                have h := CR_iaload h rfl rfl
                have h : MR X ρ 8 0 0 qP202 N 216 [a0, a1, a2, s32 (216 + (s32 (4 * a1))), m (m a0 14) (s32 ((s32 (216 + (s32 (4 * a1)))) + 1)), m (m a0 14) (s32 ((s32 (216 + (s32 (4 * a1)))) + 2)), 0, 0] [(1, m (m a0 14) (s32 (216 + (s32 (4 * a1))))), (1, m (m a0 14) (s32 (182 + a2)))] m o := h
                have h := CR_bipush h rfl rfl
                have h : MR X ρ 8 0 0 qP202 N 218 [a0, a1, a2, s32 (216 + (s32 (4 * a1))), m (m a0 14) (s32 ((s32 (216 + (s32 (4 * a1)))) + 1)), m (m a0 14) (s32 ((s32 (216 + (s32 (4 * a1)))) + 2)), 0, 0] [(1, 50), (1, m (m a0 14) (s32 (216 + (s32 (4 * a1))))), (1, m (m a0 14) (s32 (182 + a2)))] m o := h
                have h := CR_isub h rfl
                have h : MR X ρ 8 0 0 qP202 N 219 [a0, a1, a2, s32 (216 + (s32 (4 * a1))), m (m a0 14) (s32 ((s32 (216 + (s32 (4 * a1)))) + 1)), m (m a0 14) (s32 ((s32 (216 + (s32 (4 * a1)))) + 2)), 0, 0] [(1, s32 ((m (m a0 14) (s32 (216 + (s32 (4 * a1))))) - 50)), (1, m (m a0 14) (s32 (182 + a2)))] m o := h
                have h := CR_bipush h rfl rfl
                have h : MR X ρ 8 0 0 qP202 N 221 [a0, a1, a2, s32 (216 + (s32 (4 * a1))), m (m a0 14) (s32 ((s32 (216 + (s32 (4 * a1)))) + 1)), m (m a0 14) (s32 ((s32 (216 + (s32 (4 * a1)))) + 2)), 0, 0] [(1, 19), (1, s32 ((m (m a0 14) (s32 (216 + (s32 (4 * a1))))) - 50)), (1, m (m a0 14) (s32 (182 + a2)))] m o := h
                have h := CR_isub h rfl
                have h : MR X ρ 8 0 0 qP202 N 222 [a0, a1, a2, s32 (216 + (s32 (4 * a1))), m (m a0 14) (s32 ((s32 (216 + (s32 (4 * a1)))) + 1)), m (m a0 14) (s32 ((s32 (216 + (s32 (4 * a1)))) + 2)), 0, 0] [(1, s32 ((s32 ((m (m a0 14) (s32 (216 + (s32 (4 * a1))))) - 50)) - 19)), (1, m (m a0 14) (s32 (182 + a2)))] m o := h
                rcases MR_icmp h rfl rfl with ⟨c38, h⟩ | ⟨c38, h⟩
                ·
                  have c38 : ¬ ((m (m a0 14) (s32 (182 + a2))) = (s32 ((s32 ((m (m a0 14) (s32 (216 + (s32 (4 * a1))))) - 50)) - 19))) := c38
                  refine Or.inr ⟨c38, ?_⟩
                  have h : MR X ρ 8 0 0 qP202 N 229 [a0, a1, a2, s32 (216 + (s32 (4 * a1))), m (m a0 14) (s32 ((s32 (216 + (s32 (4 * a1)))) + 1)), m (m a0 14) (s32 ((s32 (216 + (s32 (4 * a1)))) + 2)), 0, 0] [] m o := h
                  have h := CR_iconst h rfl rfl
                  have h : MR X ρ 8 0 0 qP202 N 230 [a0, a1, a2, s32 (216 + (s32 (4 * a1))), m (m a0 14) (s32 ((s32 (216 + (s32 (4 * a1)))) + 1)), m (m a0 14) (s32 ((s32 (216 + (s32 (4 * a1)))) + 2)), 0, 0] [(1, 0)] m o := h
                  exact CR_end h rfl rfl
                ·
                  have c38 : (m (m a0 14) (s32 (182 + a2))) = (s32 ((s32 ((m (m a0 14) (s32 (216 + (s32 (4 * a1))))) - 50)) - 19)) := Decidable.of_not_not (show ¬ ¬ ((m (m a0 14) (s32 (182 + a2))) = (s32 ((s32 ((m (m a0 14) (s32 (216 + (s32 (4 * a1))))) - 50)) - 19))) from c38)
                  refine Or.inl ⟨c38, ?_⟩
                  have h : MR X ρ 8 0 0 qP202 N 225 [a0, a1, a2, s32 (216 + (s32 (4 * a1))), m (m a0 14) (s32 ((s32 (216 + (s32 (4 * a1)))) + 1)), m (m a0 14) (s32 ((s32 (216 + (s32 (4 * a1)))) + 2)), 0, 0] [] m o := h
                  have h := CR_iconst h rfl rfl
                  have h : MR X ρ 8 0 0 qP202 N 226 [a0, a1, a2, s32 (216 + (s32 (4 * a1))), m (m a0 14) (s32 ((s32 (216 + (s32 (4 * a1)))) + 1)), m (m a0 14) (s32 ((s32 (216 + (s32 (4 * a1)))) + 2)), 0, 0] [(1, 1)] m o := h
                  have h := CR_go h rfl rfl
                  have h : MR X ρ 8 0 0 qP202 N 230 [a0, a1, a2, s32 (216 + (s32 (4 * a1))), m (m a0 14) (s32 ((s32 (216 + (s32 (4 * a1)))) + 1)), m (m a0 14) (s32 ((s32 (216 + (s32 (4 * a1)))) + 2)), 0, 0] [(1, 1)] m o := h
                  exact CR_end h rfl rfl
              ·
                refine Or.inr ⟨c37, ?_⟩
                have s2 := lsw_m s2 c37
                rcases Decidable.em ((m (m a0 14) (s32 (216 + (s32 (4 * a1))))) = 73) with c39 | c39
                ·
                  refine Or.inl ⟨c39, ?_⟩
                  have s2 := (show ktg 34 197 = some 231 from rfl).symm.trans (lsw_h s2 c39)
                  cases s2
                  have h : MR X ρ 8 0 0 qP202 N 231 [a0, a1, a2, s32 (216 + (s32 (4 * a1))), m (m a0 14) (s32 ((s32 (216 + (s32 (4 * a1)))) + 1)), m (m a0 14) (s32 ((s32 (216 + (s32 (4 * a1)))) + 2)), 0, 0] [] m o := h
                  have h := CR_aload_n h rfl
                  have h : MR X ρ 8 0 0 qP202 N 232 [a0, a1, a2, s32 (216 + (s32 (4 * a1))), m (m a0 14) (s32 ((s32 (216 + (s32 (4 * a1)))) + 1)), m (m a0 14) (s32 ((s32 (216 + (s32 (4 * a1)))) + 2)), 0, 0] [(1, a0)] m o := h
                  have h := CR_iload_n h rfl
                  have h : MR X ρ 8 0 0 qP202 N 233 [a0, a1, a2, s32 (216 + (s32 (4 * a1))), m (m a0 14) (s32 ((s32 (216 + (s32 (4 * a1)))) + 1)), m (m a0 14) (s32 ((s32 (216 + (s32 (4 * a1)))) + 2)), 0, 0] [(1, a2), (1, a0)] m o := h
                  obtain ⟨r40, m41, q42, h⟩ := MR_invV h rfl rfl
                  have q42 : Run X ρ 206 [(1, a0), (1, a2)] m r40 m41 := q42
                  obtain ⟨e43, e44⟩ := d206 q42
                  rw [e43, e44] at h
                  have h : MR X ρ 8 0 0 qP202 N 236 [a0, a1, a2, s32 (216 + (s32 (4 * a1))), m (m a0 14) (s32 ((s32 (216 + (s32 (4 * a1)))) + 1)), m (m a0 14) (s32 ((s32 (216 + (s32 (4 * a1)))) + 2)), 0, 0] [(1, f206 m a0 a2)] m o := h
                  exact CR_end h rfl rfl
                ·
                  refine Or.inr ⟨c39, ?_⟩
                  have s2 := lsw_m s2 c39
                  rcases Decidable.em ((m (m a0 14) (s32 (216 + (s32 (4 * a1))))) = 74) with c45 | c45
                  ·
                    refine Or.inl ⟨c45, ?_⟩
                    have s2 := (show ktg 34 203 = some 237 from rfl).symm.trans (lsw_h s2 c45)
                    cases s2
                    have h : MR X ρ 8 0 0 qP202 N 237 [a0, a1, a2, s32 (216 + (s32 (4 * a1))), m (m a0 14) (s32 ((s32 (216 + (s32 (4 * a1)))) + 1)), m (m a0 14) (s32 ((s32 (216 + (s32 (4 * a1)))) + 2)), 0, 0] [] m o := h
                    have h := CR_aload_n h rfl
                    have h : MR X ρ 8 0 0 qP202 N 238 [a0, a1, a2, s32 (216 + (s32 (4 * a1))), m (m a0 14) (s32 ((s32 (216 + (s32 (4 * a1)))) + 1)), m (m a0 14) (s32 ((s32 (216 + (s32 (4 * a1)))) + 2)), 0, 0] [(1, a0)] m o := h
                    have h := CR_getf h rfl (by decide)
                    have h : MR X ρ 8 0 0 qP202 N 241 [a0, a1, a2, s32 (216 + (s32 (4 * a1))), m (m a0 14) (s32 ((s32 (216 + (s32 (4 * a1)))) + 1)), m (m a0 14) (s32 ((s32 (216 + (s32 (4 * a1)))) + 2)), 0, 0] [(1, m a0 14)] m o := h
                    have h := CR_bipush h rfl rfl
                    have h : MR X ρ 8 0 0 qP202 N 243 [a0, a1, a2, s32 (216 + (s32 (4 * a1))), m (m a0 14) (s32 ((s32 (216 + (s32 (4 * a1)))) + 1)), m (m a0 14) (s32 ((s32 (216 + (s32 (4 * a1)))) + 2)), 0, 0] [(1, 76), (1, m a0 14)] m o := h
                    have h := CR_iload_n h rfl
                    have h : MR X ρ 8 0 0 qP202 N 244 [a0, a1, a2, s32 (216 + (s32 (4 * a1))), m (m a0 14) (s32 ((s32 (216 + (s32 (4 * a1)))) + 1)), m (m a0 14) (s32 ((s32 (216 + (s32 (4 * a1)))) + 2)), 0, 0] [(1, a2), (1, 76), (1, m a0 14)] m o := h
                    have h := CR_iadd h rfl
                    have h : MR X ρ 8 0 0 qP202 N 245 [a0, a1, a2, s32 (216 + (s32 (4 * a1))), m (m a0 14) (s32 ((s32 (216 + (s32 (4 * a1)))) + 1)), m (m a0 14) (s32 ((s32 (216 + (s32 (4 * a1)))) + 2)), 0, 0] [(1, s32 (76 + a2)), (1, m a0 14)] m o := h
                    have h := CR_iaload h rfl rfl
                    have h : MR X ρ 8 0 0 qP202 N 246 [a0, a1, a2, s32 (216 + (s32 (4 * a1))), m (m a0 14) (s32 ((s32 (216 + (s32 (4 * a1)))) + 1)), m (m a0 14) (s32 ((s32 (216 + (s32 (4 * a1)))) + 2)), 0, 0] [(1, m (m a0 14) (s32 (76 + a2)))] m o := h
                    have h := CR_iload h rfl
                    have h : MR X ρ 8 0 0 qP202 N 248 [a0, a1, a2, s32 (216 + (s32 (4 * a1))), m (m a0 14) (s32 ((s32 (216 + (s32 (4 * a1)))) + 1)), m (m a0 14) (s32 ((s32 (216 + (s32 (4 * a1)))) + 2)), 0, 0] [(1, m (m a0 14) (s32 ((s32 (216 + (s32 (4 * a1)))) + 1))), (1, m (m a0 14) (s32 (76 + a2)))] m o := h
                    rcases MR_icmp h rfl rfl with ⟨c46, h⟩ | ⟨c46, h⟩
                    ·
                      have c46 : ¬ ((m (m a0 14) (s32 (76 + a2))) = (m (m a0 14) (s32 ((s32 (216 + (s32 (4 * a1)))) + 1)))) := c46
                      refine Or.inr ⟨c46, ?_⟩
                      have h : MR X ρ 8 0 0 qP202 N 255 [a0, a1, a2, s32 (216 + (s32 (4 * a1))), m (m a0 14) (s32 ((s32 (216 + (s32 (4 * a1)))) + 1)), m (m a0 14) (s32 ((s32 (216 + (s32 (4 * a1)))) + 2)), 0, 0] [] m o := h
                      have h := CR_iconst h rfl rfl
                      have h : MR X ρ 8 0 0 qP202 N 256 [a0, a1, a2, s32 (216 + (s32 (4 * a1))), m (m a0 14) (s32 ((s32 (216 + (s32 (4 * a1)))) + 1)), m (m a0 14) (s32 ((s32 (216 + (s32 (4 * a1)))) + 2)), 0, 0] [(1, 0)] m o := h
                      exact CR_end h rfl rfl
                    ·
                      have c46 : (m (m a0 14) (s32 (76 + a2))) = (m (m a0 14) (s32 ((s32 (216 + (s32 (4 * a1)))) + 1))) := Decidable.of_not_not (show ¬ ¬ ((m (m a0 14) (s32 (76 + a2))) = (m (m a0 14) (s32 ((s32 (216 + (s32 (4 * a1)))) + 1)))) from c46)
                      refine Or.inl ⟨c46, ?_⟩
                      have h : MR X ρ 8 0 0 qP202 N 251 [a0, a1, a2, s32 (216 + (s32 (4 * a1))), m (m a0 14) (s32 ((s32 (216 + (s32 (4 * a1)))) + 1)), m (m a0 14) (s32 ((s32 (216 + (s32 (4 * a1)))) + 2)), 0, 0] [] m o := h
                      have h := CR_iconst h rfl rfl
                      have h : MR X ρ 8 0 0 qP202 N 252 [a0, a1, a2, s32 (216 + (s32 (4 * a1))), m (m a0 14) (s32 ((s32 (216 + (s32 (4 * a1)))) + 1)), m (m a0 14) (s32 ((s32 (216 + (s32 (4 * a1)))) + 2)), 0, 0] [(1, 1)] m o := h
                      have h := CR_go h rfl rfl
                      have h : MR X ρ 8 0 0 qP202 N 256 [a0, a1, a2, s32 (216 + (s32 (4 * a1))), m (m a0 14) (s32 ((s32 (216 + (s32 (4 * a1)))) + 1)), m (m a0 14) (s32 ((s32 (216 + (s32 (4 * a1)))) + 2)), 0, 0] [(1, 1)] m o := h
                      exact CR_end h rfl rfl
                  ·
                    refine Or.inr ⟨c45, ?_⟩
                    have s2 := lsw_m s2 c45
                    rcases Decidable.em ((m (m a0 14) (s32 (216 + (s32 (4 * a1))))) = 75) with c47 | c47
                    ·
                      refine Or.inl ⟨c47, ?_⟩
                      have s2 := (show ktg 34 223 = some 257 from rfl).symm.trans (lsw_h s2 c47)
                      cases s2
                      have h : MR X ρ 8 0 0 qP202 N 257 [a0, a1, a2, s32 (216 + (s32 (4 * a1))), m (m a0 14) (s32 ((s32 (216 + (s32 (4 * a1)))) + 1)), m (m a0 14) (s32 ((s32 (216 + (s32 (4 * a1)))) + 2)), 0, 0] [] m o := h
                      have h := CR_aload_n h rfl
                      have h : MR X ρ 8 0 0 qP202 N 258 [a0, a1, a2, s32 (216 + (s32 (4 * a1))), m (m a0 14) (s32 ((s32 (216 + (s32 (4 * a1)))) + 1)), m (m a0 14) (s32 ((s32 (216 + (s32 (4 * a1)))) + 2)), 0, 0] [(1, a0)] m o := h
                      have h := CR_iload_n h rfl
                      have h : MR X ρ 8 0 0 qP202 N 259 [a0, a1, a2, s32 (216 + (s32 (4 * a1))), m (m a0 14) (s32 ((s32 (216 + (s32 (4 * a1)))) + 1)), m (m a0 14) (s32 ((s32 (216 + (s32 (4 * a1)))) + 2)), 0, 0] [(1, a2), (1, a0)] m o := h
                      obtain ⟨r48, m49, q50, h⟩ := MR_invV h rfl rfl
                      have q50 : Run X ρ 204 [(1, a0), (1, a2)] m r48 m49 := q50
                      obtain ⟨e51, e52⟩ := d204 q50
                      rw [e51, e52] at h
                      have h : MR X ρ 8 0 0 qP202 N 262 [a0, a1, a2, s32 (216 + (s32 (4 * a1))), m (m a0 14) (s32 ((s32 (216 + (s32 (4 * a1)))) + 1)), m (m a0 14) (s32 ((s32 (216 + (s32 (4 * a1)))) + 2)), 0, 0] [(1, f204 m a0 a2)] m o := h
                      have h := CR_iload h rfl
                      have h : MR X ρ 8 0 0 qP202 N 264 [a0, a1, a2, s32 (216 + (s32 (4 * a1))), m (m a0 14) (s32 ((s32 (216 + (s32 (4 * a1)))) + 1)), m (m a0 14) (s32 ((s32 (216 + (s32 (4 * a1)))) + 2)), 0, 0] [(1, m (m a0 14) (s32 ((s32 (216 + (s32 (4 * a1)))) + 1))), (1, f204 m a0 a2)] m o := h
                      rcases MR_icmp h rfl rfl with ⟨c53, h⟩ | ⟨c53, h⟩
                      ·
                        have c53 : ¬ ((f204 m a0 a2) = (m (m a0 14) (s32 ((s32 (216 + (s32 (4 * a1)))) + 1)))) := c53
                        refine Or.inr ⟨c53, ?_⟩
                        have h : MR X ρ 8 0 0 qP202 N 271 [a0, a1, a2, s32 (216 + (s32 (4 * a1))), m (m a0 14) (s32 ((s32 (216 + (s32 (4 * a1)))) + 1)), m (m a0 14) (s32 ((s32 (216 + (s32 (4 * a1)))) + 2)), 0, 0] [] m o := h
                        have h := CR_iconst h rfl rfl
                        have h : MR X ρ 8 0 0 qP202 N 272 [a0, a1, a2, s32 (216 + (s32 (4 * a1))), m (m a0 14) (s32 ((s32 (216 + (s32 (4 * a1)))) + 1)), m (m a0 14) (s32 ((s32 (216 + (s32 (4 * a1)))) + 2)), 0, 0] [(1, 0)] m o := h
                        exact CR_end h rfl rfl
                      ·
                        have c53 : (f204 m a0 a2) = (m (m a0 14) (s32 ((s32 (216 + (s32 (4 * a1)))) + 1))) := Decidable.of_not_not (show ¬ ¬ ((f204 m a0 a2) = (m (m a0 14) (s32 ((s32 (216 + (s32 (4 * a1)))) + 1)))) from c53)
                        refine Or.inl ⟨c53, ?_⟩
                        have h : MR X ρ 8 0 0 qP202 N 267 [a0, a1, a2, s32 (216 + (s32 (4 * a1))), m (m a0 14) (s32 ((s32 (216 + (s32 (4 * a1)))) + 1)), m (m a0 14) (s32 ((s32 (216 + (s32 (4 * a1)))) + 2)), 0, 0] [] m o := h
                        have h := CR_iconst h rfl rfl
                        have h : MR X ρ 8 0 0 qP202 N 268 [a0, a1, a2, s32 (216 + (s32 (4 * a1))), m (m a0 14) (s32 ((s32 (216 + (s32 (4 * a1)))) + 1)), m (m a0 14) (s32 ((s32 (216 + (s32 (4 * a1)))) + 2)), 0, 0] [(1, 1)] m o := h
                        have h := CR_go h rfl rfl
                        have h : MR X ρ 8 0 0 qP202 N 272 [a0, a1, a2, s32 (216 + (s32 (4 * a1))), m (m a0 14) (s32 ((s32 (216 + (s32 (4 * a1)))) + 1)), m (m a0 14) (s32 ((s32 (216 + (s32 (4 * a1)))) + 2)), 0, 0] [(1, 1)] m o := h
                        exact CR_end h rfl rfl
                    ·
                      refine Or.inr ⟨c47, ?_⟩
                      have s2 := lsw_m s2 c47
                      rcases Decidable.em ((m (m a0 14) (s32 (216 + (s32 (4 * a1))))) = 76) with c54 | c54
                      ·
                        refine Or.inl ⟨c54, ?_⟩
                        have s2 := (show ktg 34 239 = some 273 from rfl).symm.trans (lsw_h s2 c54)
                        cases s2
                        have h : MR X ρ 8 0 0 qP202 N 273 [a0, a1, a2, s32 (216 + (s32 (4 * a1))), m (m a0 14) (s32 ((s32 (216 + (s32 (4 * a1)))) + 1)), m (m a0 14) (s32 ((s32 (216 + (s32 (4 * a1)))) + 2)), 0, 0] [] m o := h
                        have h := CR_aload_n h rfl
                        have h : MR X ρ 8 0 0 qP202 N 274 [a0, a1, a2, s32 (216 + (s32 (4 * a1))), m (m a0 14) (s32 ((s32 (216 + (s32 (4 * a1)))) + 1)), m (m a0 14) (s32 ((s32 (216 + (s32 (4 * a1)))) + 2)), 0, 0] [(1, a0)] m o := h
                        have h := CR_iload h rfl
                        have h : MR X ρ 8 0 0 qP202 N 276 [a0, a1, a2, s32 (216 + (s32 (4 * a1))), m (m a0 14) (s32 ((s32 (216 + (s32 (4 * a1)))) + 1)), m (m a0 14) (s32 ((s32 (216 + (s32 (4 * a1)))) + 2)), 0, 0] [(1, m (m a0 14) (s32 ((s32 (216 + (s32 (4 * a1)))) + 1))), (1, a0)] m o := h
                        have h := CR_iload_n h rfl
                        have h : MR X ρ 8 0 0 qP202 N 277 [a0, a1, a2, s32 (216 + (s32 (4 * a1))), m (m a0 14) (s32 ((s32 (216 + (s32 (4 * a1)))) + 1)), m (m a0 14) (s32 ((s32 (216 + (s32 (4 * a1)))) + 2)), 0, 0] [(1, a2), (1, m (m a0 14) (s32 ((s32 (216 + (s32 (4 * a1)))) + 1))), (1, a0)] m o := h
                        obtain ⟨r55, m56, q57, h⟩ := MR_invV h rfl rfl
                        have q57 : Run X ρ 200 [(1, a0), (1, m (m a0 14) (s32 ((s32 (216 + (s32 (4 * a1)))) + 1))), (1, a2)] m r55 m56 := q57
                        obtain ⟨e58, e59⟩ := d200 q57
                        rw [e58, e59] at h
                        have h : MR X ρ 8 0 0 qP202 N 280 [a0, a1, a2, s32 (216 + (s32 (4 * a1))), m (m a0 14) (s32 ((s32 (216 + (s32 (4 * a1)))) + 1)), m (m a0 14) (s32 ((s32 (216 + (s32 (4 * a1)))) + 2)), 0, 0] [(1, f200 m a0 (m (m a0 14) (s32 ((s32 (216 + (s32 (4 * a1)))) + 1))) a2)] m o := h
                        exact CR_end h rfl rfl
                      ·
                        refine Or.inr ⟨c54, ?_⟩
                        have s2 := lsw_m s2 c54
                        have s2 := (show ktg 34 247 = some 281 from rfl).symm.trans s2
                        cases s2
                        have h : MR X ρ 8 0 0 qP202 N 281 [a0, a1, a2, s32 (216 + (s32 (4 * a1))), m (m a0 14) (s32 ((s32 (216 + (s32 (4 * a1)))) + 1)), m (m a0 14) (s32 ((s32 (216 + (s32 (4 * a1)))) + 2)), 0, 0] [] m o := h
                        have h := CR_aload_n h rfl
                        have h : MR X ρ 8 0 0 qP202 N 282 [a0, a1, a2, s32 (216 + (s32 (4 * a1))), m (m a0 14) (s32 ((s32 (216 + (s32 (4 * a1)))) + 1)), m (m a0 14) (s32 ((s32 (216 + (s32 (4 * a1)))) + 2)), 0, 0] [(1, a0)] m o := h
                        have h := CR_getf h rfl (by decide)
                        have h : MR X ρ 8 0 0 qP202 N 285 [a0, a1, a2, s32 (216 + (s32 (4 * a1))), m (m a0 14) (s32 ((s32 (216 + (s32 (4 * a1)))) + 1)), m (m a0 14) (s32 ((s32 (216 + (s32 (4 * a1)))) + 2)), 0, 0] [(1, m a0 14)] m o := h
                        have h := CR_iload_n h rfl
                        have h : MR X ρ 8 0 0 qP202 N 286 [a0, a1, a2, s32 (216 + (s32 (4 * a1))), m (m a0 14) (s32 ((s32 (216 + (s32 (4 * a1)))) + 1)), m (m a0 14) (s32 ((s32 (216 + (s32 (4 * a1)))) + 2)), 0, 0] [(1, s32 (216 + (s32 (4 * a1)))), (1, m a0 14)] m o := h
                        have h := CR_iaload h rfl rfl
                        have h : MR X ρ 8 0 0 qP202 N 287 [a0, a1, a2, s32 (216 + (s32 (4 * a1))), m (m a0 14) (s32 ((s32 (216 + (s32 (4 * a1)))) + 1)), m (m a0 14) (s32 ((s32 (216 + (s32 (4 * a1)))) + 2)), 0, 0] [(1, m (m a0 14) (s32 (216 + (s32 (4 * a1)))))] m o := h
                        have h := CR_bipush h rfl rfl
                        have h : MR X ρ 8 0 0 qP202 N 289 [a0, a1, a2, s32 (216 + (s32 (4 * a1))), m (m a0 14) (s32 ((s32 (216 + (s32 (4 * a1)))) + 1)), m (m a0 14) (s32 ((s32 (216 + (s32 (4 * a1)))) + 2)), 0, 0] [(1, 50), (1, m (m a0 14) (s32 (216 + (s32 (4 * a1)))))] m o := h
                        have h := CR_isub h rfl
                        have h : MR X ρ 8 0 0 qP202 N 290 [a0, a1, a2, s32 (216 + (s32 (4 * a1))), m (m a0 14) (s32 ((s32 (216 + (s32 (4 * a1)))) + 1)), m (m a0 14) (s32 ((s32 (216 + (s32 (4 * a1)))) + 2)), 0, 0] [(1, s32 ((m (m a0 14) (s32 (216 + (s32 (4 * a1))))) - 50))] m o := h
                        have h := CR_istore h rfl (Nat.le_of_ble_eq_true rfl)
                        have h : MR X ρ 8 0 0 qP202 N 292 [a0, a1, a2, s32 (216 + (s32 (4 * a1))), m (m a0 14) (s32 ((s32 (216 + (s32 (4 * a1)))) + 1)), m (m a0 14) (s32 ((s32 (216 + (s32 (4 * a1)))) + 2)), s32 ((m (m a0 14) (s32 (216 + (s32 (4 * a1))))) - 50), 0] [] m o := h
                        have h := CR_iload h rfl
                        have h : MR X ρ 8 0 0 qP202 N 294 [a0, a1, a2, s32 (216 + (s32 (4 * a1))), m (m a0 14) (s32 ((s32 (216 + (s32 (4 * a1)))) + 1)), m (m a0 14) (s32 ((s32 (216 + (s32 (4 * a1)))) + 2)), s32 ((m (m a0 14) (s32 (216 + (s32 (4 * a1))))) - 50), 0] [(1, s32 ((m (m a0 14) (s32 (216 + (s32 (4 * a1))))) - 50))] m o := h
                        have h := CR_bipush h rfl rfl
                        have h : MR X ρ 8 0 0 qP202 N 296 [a0, a1, a2, s32 (216 + (s32 (4 * a1))), m (m a0 14) (s32 ((s32 (216 + (s32 (4 * a1)))) + 1)), m (m a0 14) (s32 ((s32 (216 + (s32 (4 * a1)))) + 2)), s32 ((m (m a0 14) (s32 (216 + (s32 (4 * a1))))) - 50), 0] [(1, 27), (1, s32 ((m (m a0 14) (s32 (216 + (s32 (4 * a1))))) - 50))] m o := h
                        rcases MR_icmp h rfl rfl with ⟨c60, h⟩ | ⟨c60, h⟩
                        ·
                          have c60 : ¬ ((s32 ((m (m a0 14) (s32 (216 + (s32 (4 * a1))))) - 50)) = 27) := c60
                          refine Or.inr ⟨c60, ?_⟩
                          have h : MR X ρ 8 0 0 qP202 N 307 [a0, a1, a2, s32 (216 + (s32 (4 * a1))), m (m a0 14) (s32 ((s32 (216 + (s32 (4 * a1)))) + 1)), m (m a0 14) (s32 ((s32 (216 + (s32 (4 * a1)))) + 2)), s32 ((m (m a0 14) (s32 (216 + (s32 (4 * a1))))) - 50), 0] [] m o := h
                          have h := CR_iload h rfl
                          have h : MR X ρ 8 0 0 qP202 N 309 [a0, a1, a2, s32 (216 + (s32 (4 * a1))), m (m a0 14) (s32 ((s32 (216 + (s32 (4 * a1)))) + 1)), m (m a0 14) (s32 ((s32 (216 + (s32 (4 * a1)))) + 2)), s32 ((m (m a0 14) (s32 (216 + (s32 (4 * a1))))) - 50), 0] [(1, s32 ((m (m a0 14) (s32 (216 + (s32 (4 * a1))))) - 50))] m o := h
                          have h := CR_bipush h rfl rfl
                          have h : MR X ρ 8 0 0 qP202 N 311 [a0, a1, a2, s32 (216 + (s32 (4 * a1))), m (m a0 14) (s32 ((s32 (216 + (s32 (4 * a1)))) + 1)), m (m a0 14) (s32 ((s32 (216 + (s32 (4 * a1)))) + 2)), s32 ((m (m a0 14) (s32 (216 + (s32 (4 * a1))))) - 50), 0] [(1, 28), (1, s32 ((m (m a0 14) (s32 (216 + (s32 (4 * a1))))) - 50))] m o := h
                          rcases MR_icmp h rfl rfl with ⟨c61, h⟩ | ⟨c61, h⟩
                          ·
                            have c61 : ¬ ((s32 ((m (m a0 14) (s32 (216 + (s32 (4 * a1))))) - 50)) = 28) := c61
                            refine Or.inr ⟨c61, ?_⟩
                            have h : MR X ρ 8 0 0 qP202 N 327 [a0, a1, a2, s32 (216 + (s32 (4 * a1))), m (m a0 14) (s32 ((s32 (216 + (s32 (4 * a1)))) + 1)), m (m a0 14) (s32 ((s32 (216 + (s32 (4 * a1)))) + 2)), s32 ((m (m a0 14) (s32 (216 + (s32 (4 * a1))))) - 50), 0] [] m o := h
                            have h := CR_iload_n h rfl
                            have h : MR X ρ 8 0 0 qP202 N 328 [a0, a1, a2, s32 (216 + (s32 (4 * a1))), m (m a0 14) (s32 ((s32 (216 + (s32 (4 * a1)))) + 1)), m (m a0 14) (s32 ((s32 (216 + (s32 (4 * a1)))) + 2)), s32 ((m (m a0 14) (s32 (216 + (s32 (4 * a1))))) - 50), 0] [(1, a2)] m o := h
                            have h := CR_istore h rfl (Nat.le_of_ble_eq_true rfl)
                            have h : MR X ρ 8 0 0 qP202 N 330 [a0, a1, a2, s32 (216 + (s32 (4 * a1))), m (m a0 14) (s32 ((s32 (216 + (s32 (4 * a1)))) + 1)), m (m a0 14) (s32 ((s32 (216 + (s32 (4 * a1)))) + 2)), s32 ((m (m a0 14) (s32 (216 + (s32 (4 * a1))))) - 50), a2] [] m o := h
                            have h := CR_aload_n h rfl
                            have h : MR X ρ 8 0 0 qP202 N 331 [a0, a1, a2, s32 (216 + (s32 (4 * a1))), m (m a0 14) (s32 ((s32 (216 + (s32 (4 * a1)))) + 1)), m (m a0 14) (s32 ((s32 (216 + (s32 (4 * a1)))) + 2)), s32 ((m (m a0 14) (s32 (216 + (s32 (4 * a1))))) - 50), a2] [(1, a0)] m o := h
                            have h := CR_getf h rfl (by decide)
                            have h : MR X ρ 8 0 0 qP202 N 334 [a0, a1, a2, s32 (216 + (s32 (4 * a1))), m (m a0 14) (s32 ((s32 (216 + (s32 (4 * a1)))) + 1)), m (m a0 14) (s32 ((s32 (216 + (s32 (4 * a1)))) + 2)), s32 ((m (m a0 14) (s32 (216 + (s32 (4 * a1))))) - 50), a2] [(1, m a0 14)] m o := h
                            have h := CR_iload_n h rfl
                            have h : MR X ρ 8 0 0 qP202 N 335 [a0, a1, a2, s32 (216 + (s32 (4 * a1))), m (m a0 14) (s32 ((s32 (216 + (s32 (4 * a1)))) + 1)), m (m a0 14) (s32 ((s32 (216 + (s32 (4 * a1)))) + 2)), s32 ((m (m a0 14) (s32 (216 + (s32 (4 * a1))))) - 50), a2] [(1, s32 (216 + (s32 (4 * a1)))), (1, m a0 14)] m o := h
                            have h := CR_iconst h rfl rfl
                            have h : MR X ρ 8 0 0 qP202 N 336 [a0, a1, a2, s32 (216 + (s32 (4 * a1))), m (m a0 14) (s32 ((s32 (216 + (s32 (4 * a1)))) + 1)), m (m a0 14) (s32 ((s32 (216 + (s32 (4 * a1)))) + 2)), s32 ((m (m a0 14) (s32 (216 + (s32 (4 * a1))))) - 50), a2] [(1, 3), (1, s32 (216 + (s32 (4 * a1)))), (1, m a0 14)] m o := h
                            have h := CR_iadd h rfl
                            have h : MR X ρ 8 0 0 qP202 N 337 [a0, a1, a2, s32 (216 + (s32 (4 * a1))), m (m a0 14) (s32 ((s32 (216 + (s32 (4 * a1)))) + 1)), m (m a0 14) (s32 ((s32 (216 + (s32 (4 * a1)))) + 2)), s32 ((m (m a0 14) (s32 (216 + (s32 (4 * a1))))) - 50), a2] [(1, s32 ((s32 (216 + (s32 (4 * a1)))) + 3)), (1, m a0 14)] m o := h
                            have h := CR_iaload h rfl rfl
                            have h : MR X ρ 8 0 0 qP202 N 338 [a0, a1, a2, s32 (216 + (s32 (4 * a1))), m (m a0 14) (s32 ((s32 (216 + (s32 (4 * a1)))) + 1)), m (m a0 14) (s32 ((s32 (216 + (s32 (4 * a1)))) + 2)), s32 ((m (m a0 14) (s32 (216 + (s32 (4 * a1))))) - 50), a2] [(1, m (m a0 14) (s32 ((s32 (216 + (s32 (4 * a1)))) + 3)))] m o := h
                            have h := CR_bipush h rfl rfl
                            have h : MR X ρ 8 0 0 qP202 N 340 [a0, a1, a2, s32 (216 + (s32 (4 * a1))), m (m a0 14) (s32 ((s32 (216 + (s32 (4 * a1)))) + 1)), m (m a0 14) (s32 ((s32 (216 + (s32 (4 * a1)))) + 2)), s32 ((m (m a0 14) (s32 (216 + (s32 (4 * a1))))) - 50), a2] [(1, 60), (1, m (m a0 14) (s32 ((s32 (216 + (s32 (4 * a1)))) + 3)))] m o := h
                            rcases MR_icmp h rfl rfl with ⟨c62, h⟩ | ⟨c62, h⟩
                            ·
                              have c62 : ¬ ((m (m a0 14) (s32 ((s32 (216 + (s32 (4 * a1)))) + 3))) = 60) := c62
                              refine Or.inr ⟨c62, ?_⟩
                              have h : MR X ρ 8 0 0 qP202 N 358 [a0, a1, a2, s32 (216 + (s32 (4 * a1))), m (m a0 14) (s32 ((s32 (216 + (s32 (4 * a1)))) + 1)), m (m a0 14) (s32 ((s32 (216 + (s32 (4 * a1)))) + 2)), s32 ((m (m a0 14) (s32 (216 + (s32 (4 * a1))))) - 50), a2] [] m o := h
                              have h := CR_aload_n h rfl
                              have h : MR X ρ 8 0 0 qP202 N 359 [a0, a1, a2, s32 (216 + (s32 (4 * a1))), m (m a0 14) (s32 ((s32 (216 + (s32 (4 * a1)))) + 1)), m (m a0 14) (s32 ((s32 (216 + (s32 (4 * a1)))) + 2)), s32 ((m (m a0 14) (s32 (216 + (s32 (4 * a1))))) - 50), a2] [(1, a0)] m o := h
                              have h := CR_getf h rfl (by decide)
                              have h : MR X ρ 8 0 0 qP202 N 362 [a0, a1, a2, s32 (216 + (s32 (4 * a1))), m (m a0 14) (s32 ((s32 (216 + (s32 (4 * a1)))) + 1)), m (m a0 14) (s32 ((s32 (216 + (s32 (4 * a1)))) + 2)), s32 ((m (m a0 14) (s32 (216 + (s32 (4 * a1))))) - 50), a2] [(1, m a0 14)] m o := h
                              have h := CR_iload_n h rfl
                              have h : MR X ρ 8 0 0 qP202 N 363 [a0, a1, a2, s32 (216 + (s32 (4 * a1))), m (m a0 14) (s32 ((s32 (216 + (s32 (4 * a1)))) + 1)), m (m a0 14) (s32 ((s32 (216 + (s32 (4 * a1)))) + 2)), s32 ((m (m a0 14) (s32 (216 + (s32 (4 * a1))))) - 50), a2] [(1, s32 (216 + (s32 (4 * a1)))), (1, m a0 14)] m o := h
                              have h := CR_iconst h rfl rfl
                              have h : MR X ρ 8 0 0 qP202 N 364 [a0, a1, a2, s32 (216 + (s32 (4 * a1))), m (m a0 14) (s32 ((s32 (216 + (s32 (4 * a1)))) + 1)), m (m a0 14) (s32 ((s32 (216 + (s32 (4 * a1)))) + 2)), s32 ((m (m a0 14) (s32 (216 + (s32 (4 * a1))))) - 50), a2] [(1, 3), (1, s32 (216 + (s32 (4 * a1)))), (1, m a0 14)] m o := h
                              have h := CR_iadd h rfl
                              have h : MR X ρ 8 0 0 qP202 N 365 [a0, a1, a2, s32 (216 + (s32 (4 * a1))), m (m a0 14) (s32 ((s32 (216 + (s32 (4 * a1)))) + 1)), m (m a0 14) (s32 ((s32 (216 + (s32 (4 * a1)))) + 2)), s32 ((m (m a0 14) (s32 (216 + (s32 (4 * a1))))) - 50), a2] [(1, s32 ((s32 (216 + (s32 (4 * a1)))) + 3)), (1, m a0 14)] m o := h
                              have h := CR_iaload h rfl rfl
                              have h : MR X ρ 8 0 0 qP202 N 366 [a0, a1, a2, s32 (216 + (s32 (4 * a1))), m (m a0 14) (s32 ((s32 (216 + (s32 (4 * a1)))) + 1)), m (m a0 14) (s32 ((s32 (216 + (s32 (4 * a1)))) + 2)), s32 ((m (m a0 14) (s32 (216 + (s32 (4 * a1))))) - 50), a2] [(1, m (m a0 14) (s32 ((s32 (216 + (s32 (4 * a1)))) + 3)))] m o := h
                              have h := CR_bipush h rfl rfl
                              have h : MR X ρ 8 0 0 qP202 N 368 [a0, a1, a2, s32 (216 + (s32 (4 * a1))), m (m a0 14) (s32 ((s32 (216 + (s32 (4 * a1)))) + 1)), m (m a0 14) (s32 ((s32 (216 + (s32 (4 * a1)))) + 2)), s32 ((m (m a0 14) (s32 (216 + (s32 (4 * a1))))) - 50), a2] [(1, 61), (1, m (m a0 14) (s32 ((s32 (216 + (s32 (4 * a1)))) + 3)))] m o := h
                              rcases MR_icmp h rfl rfl with ⟨c63, h⟩ | ⟨c63, h⟩
                              ·
                                have c63 : ¬ ((m (m a0 14) (s32 ((s32 (216 + (s32 (4 * a1)))) + 3))) = 61) := c63
                                refine Or.inr ⟨c63, ?_⟩
                                have h : MR X ρ 8 0 0 qP202 N 386 [a0, a1, a2, s32 (216 + (s32 (4 * a1))), m (m a0 14) (s32 ((s32 (216 + (s32 (4 * a1)))) + 1)), m (m a0 14) (s32 ((s32 (216 + (s32 (4 * a1)))) + 2)), s32 ((m (m a0 14) (s32 (216 + (s32 (4 * a1))))) - 50), a2] [] m o := h
                                have h := CR_iload h rfl
                                have h : MR X ρ 8 0 0 qP202 N 388 [a0, a1, a2, s32 (216 + (s32 (4 * a1))), m (m a0 14) (s32 ((s32 (216 + (s32 (4 * a1)))) + 1)), m (m a0 14) (s32 ((s32 (216 + (s32 (4 * a1)))) + 2)), s32 ((m (m a0 14) (s32 (216 + (s32 (4 * a1))))) - 50), a2] [(1, a2)] m o := h
                                have h := CR_iload h rfl
                                have h : MR X ρ 8 0 0 qP202 N 390 [a0, a1, a2, s32 (216 + (s32 (4 * a1))), m (m a0 14) (s32 ((s32 (216 + (s32 (4 * a1)))) + 1)), m (m a0 14) (s32 ((s32 (216 + (s32 (4 * a1)))) + 2)), s32 ((m (m a0 14) (s32 (216 + (s32 (4 * a1))))) - 50), a2] [(1, m (m a0 14) (s32 ((s32 (216 + (s32 (4 * a1)))) + 2))), (1, a2)] m o := h
                                rcases MR_icmp h rfl rfl with ⟨c64, h⟩ | ⟨c64, h⟩
                                ·
                                  have c64 : a2 ≤ (m (m a0 14) (s32 ((s32 (216 + (s32 (4 * a1)))) + 2))) := c64
                                  refine Or.inl ⟨c64, ?_⟩
                                  have h : MR X ρ 8 0 0 qP202 N 397 [a0, a1, a2, s32 (216 + (s32 (4 * a1))), m (m a0 14) (s32 ((s32 (216 + (s32 (4 * a1)))) + 1)), m (m a0 14) (s32 ((s32 (216 + (s32 (4 * a1)))) + 2)), s32 ((m (m a0 14) (s32 (216 + (s32 (4 * a1))))) - 50), a2] [] m o := h
                                  have h := CR_iconst h rfl rfl
                                  have h : MR X ρ 8 0 0 qP202 N 398 [a0, a1, a2, s32 (216 + (s32 (4 * a1))), m (m a0 14) (s32 ((s32 (216 + (s32 (4 * a1)))) + 1)), m (m a0 14) (s32 ((s32 (216 + (s32 (4 * a1)))) + 2)), s32 ((m (m a0 14) (s32 (216 + (s32 (4 * a1))))) - 50), a2] [(1, 0)] m o := h
                                  exact CR_end h rfl rfl
                                ·
                                  have c64 : ¬ (a2 ≤ (m (m a0 14) (s32 ((s32 (216 + (s32 (4 * a1)))) + 2)))) := c64
                                  refine Or.inr ⟨c64, ?_⟩
                                  have h : MR X ρ 8 0 0 qP202 N 393 [a0, a1, a2, s32 (216 + (s32 (4 * a1))), m (m a0 14) (s32 ((s32 (216 + (s32 (4 * a1)))) + 1)), m (m a0 14) (s32 ((s32 (216 + (s32 (4 * a1)))) + 2)), s32 ((m (m a0 14) (s32 (216 + (s32 (4 * a1))))) - 50), a2] [] m o := h
                                  have h := CR_iconst h rfl rfl
                                  have h : MR X ρ 8 0 0 qP202 N 394 [a0, a1, a2, s32 (216 + (s32 (4 * a1))), m (m a0 14) (s32 ((s32 (216 + (s32 (4 * a1)))) + 1)), m (m a0 14) (s32 ((s32 (216 + (s32 (4 * a1)))) + 2)), s32 ((m (m a0 14) (s32 (216 + (s32 (4 * a1))))) - 50), a2] [(1, 1)] m o := h
                                  have h := CR_go h rfl rfl
                                  have h : MR X ρ 8 0 0 qP202 N 398 [a0, a1, a2, s32 (216 + (s32 (4 * a1))), m (m a0 14) (s32 ((s32 (216 + (s32 (4 * a1)))) + 1)), m (m a0 14) (s32 ((s32 (216 + (s32 (4 * a1)))) + 2)), s32 ((m (m a0 14) (s32 (216 + (s32 (4 * a1))))) - 50), a2] [(1, 1)] m o := h
                                  exact CR_end h rfl rfl
                              ·
                                have c63 : (m (m a0 14) (s32 ((s32 (216 + (s32 (4 * a1)))) + 3))) = 61 := Decidable.of_not_not (show ¬ ¬ ((m (m a0 14) (s32 ((s32 (216 + (s32 (4 * a1)))) + 3))) = 61) from c63)
                                refine Or.inl ⟨c63, ?_⟩
                                have h : MR X ρ 8 0 0 qP202 N 371 [a0, a1, a2, s32 (216 + (s32 (4 * a1))), m (m a0 14) (s32 ((s32 (216 + (s32 (4 * a1)))) + 1)), m (m a0 14) (s32 ((s32 (216 + (s32 (4 * a1)))) + 2)), s32 ((m (m a0 14) (s32 (216 + (s32 (4 * a1))))) - 50), a2] [] m o := h
                                have h := CR_iload h rfl
                                have h : MR X ρ 8 0 0 qP202 N 373 [a0, a1, a2, s32 (216 + (s32 (4 * a1))), m (m a0 14) (s32 ((s32 (216 + (s32 (4 * a1)))) + 1)), m (m a0 14) (s32 ((s32 (216 + (s32 (4 * a1)))) + 2)), s32 ((m (m a0 14) (s32 (216 + (s32 (4 * a1))))) - 50), a2] [(1, a2)] m o := h
                                have h := CR_iload h rfl
                                have h : MR X ρ 8 0 0 qP202 N 375 [a0, a1, a2, s32 (216 + (s32 (4 * a1))), m (m a0 14) (s32 ((s32 (216 + (s32 (4 * a1)))) + 1)), m (m a0 14) (s32 ((s32 (216 + (s32 (4 * a1)))) + 2)), s32 ((m (m a0 14) (s32 (216 + (s32 (4 * a1))))) - 50), a2] [(1, m (m a0 14) (s32 ((s32 (216 + (s32 (4 * a1)))) + 2))), (1, a2)] m o := h
                                rcases MR_icmp h rfl rfl with ⟨c65, h⟩ | ⟨c65, h⟩
                                ·
                                  have c65 : ¬ (a2 = (m (m a0 14) (s32 ((s32 (216 + (s32 (4 * a1)))) + 2)))) := c65
                                  refine Or.inr ⟨c65, ?_⟩
                                  have h : MR X ρ 8 0 0 qP202 N 382 [a0, a1, a2, s32 (216 + (s32 (4 * a1))), m (m a0 14) (s32 ((s32 (216 + (s32 (4 * a1)))) + 1)), m (m a0 14) (s32 ((s32 (216 + (s32 (4 * a1)))) + 2)), s32 ((m (m a0 14) (s32 (216 + (s32 (4 * a1))))) - 50), a2] [] m o := h
                                  have h := CR_iconst h rfl rfl
                                  have h : MR X ρ 8 0 0 qP202 N 383 [a0, a1, a2, s32 (216 + (s32 (4 * a1))), m (m a0 14) (s32 ((s32 (216 + (s32 (4 * a1)))) + 1)), m (m a0 14) (s32 ((s32 (216 + (s32 (4 * a1)))) + 2)), s32 ((m (m a0 14) (s32 (216 + (s32 (4 * a1))))) - 50), a2] [(1, 0)] m o := h
                                  have h := CR_go h rfl rfl
                                  have h : MR X ρ 8 0 0 qP202 N 398 [a0, a1, a2, s32 (216 + (s32 (4 * a1))), m (m a0 14) (s32 ((s32 (216 + (s32 (4 * a1)))) + 1)), m (m a0 14) (s32 ((s32 (216 + (s32 (4 * a1)))) + 2)), s32 ((m (m a0 14) (s32 (216 + (s32 (4 * a1))))) - 50), a2] [(1, 0)] m o := h
                                  exact CR_end h rfl rfl
                                ·
                                  have c65 : a2 = (m (m a0 14) (s32 ((s32 (216 + (s32 (4 * a1)))) + 2))) := Decidable.of_not_not (show ¬ ¬ (a2 = (m (m a0 14) (s32 ((s32 (216 + (s32 (4 * a1)))) + 2)))) from c65)
                                  refine Or.inl ⟨c65, ?_⟩
                                  have h : MR X ρ 8 0 0 qP202 N 378 [a0, a1, a2, s32 (216 + (s32 (4 * a1))), m (m a0 14) (s32 ((s32 (216 + (s32 (4 * a1)))) + 1)), m (m a0 14) (s32 ((s32 (216 + (s32 (4 * a1)))) + 2)), s32 ((m (m a0 14) (s32 (216 + (s32 (4 * a1))))) - 50), a2] [] m o := h
                                  have h := CR_iconst h rfl rfl
                                  have h : MR X ρ 8 0 0 qP202 N 379 [a0, a1, a2, s32 (216 + (s32 (4 * a1))), m (m a0 14) (s32 ((s32 (216 + (s32 (4 * a1)))) + 1)), m (m a0 14) (s32 ((s32 (216 + (s32 (4 * a1)))) + 2)), s32 ((m (m a0 14) (s32 (216 + (s32 (4 * a1))))) - 50), a2] [(1, 1)] m o := h
                                  have h := CR_go h rfl rfl
                                  have h : MR X ρ 8 0 0 qP202 N 398 [a0, a1, a2, s32 (216 + (s32 (4 * a1))), m (m a0 14) (s32 ((s32 (216 + (s32 (4 * a1)))) + 1)), m (m a0 14) (s32 ((s32 (216 + (s32 (4 * a1)))) + 2)), s32 ((m (m a0 14) (s32 (216 + (s32 (4 * a1))))) - 50), a2] [(1, 1)] m o := h
                                  exact CR_end h rfl rfl
                            ·
                              have c62 : (m (m a0 14) (s32 ((s32 (216 + (s32 (4 * a1)))) + 3))) = 60 := Decidable.of_not_not (show ¬ ¬ ((m (m a0 14) (s32 ((s32 (216 + (s32 (4 * a1)))) + 3))) = 60) from c62)
                              refine Or.inl ⟨c62, ?_⟩
                              have h : MR X ρ 8 0 0 qP202 N 343 [a0, a1, a2, s32 (216 + (s32 (4 * a1))), m (m a0 14) (s32 ((s32 (216 + (s32 (4 * a1)))) + 1)), m (m a0 14) (s32 ((s32 (216 + (s32 (4 * a1)))) + 2)), s32 ((m (m a0 14) (s32 (216 + (s32 (4 * a1))))) - 50), a2] [] m o := h
                              have h := CR_iload h rfl
                              have h : MR X ρ 8 0 0 qP202 N 345 [a0, a1, a2, s32 (216 + (s32 (4 * a1))), m (m a0 14) (s32 ((s32 (216 + (s32 (4 * a1)))) + 1)), m (m a0 14) (s32 ((s32 (216 + (s32 (4 * a1)))) + 2)), s32 ((m (m a0 14) (s32 (216 + (s32 (4 * a1))))) - 50), a2] [(1, a2)] m o := h
                              have h := CR_iload h rfl
                              have h : MR X ρ 8 0 0 qP202 N 347 [a0, a1, a2, s32 (216 + (s32 (4 * a1))), m (m a0 14) (s32 ((s32 (216 + (s32 (4 * a1)))) + 1)), m (m a0 14) (s32 ((s32 (216 + (s32 (4 * a1)))) + 2)), s32 ((m (m a0 14) (s32 (216 + (s32 (4 * a1))))) - 50), a2] [(1, m (m a0 14) (s32 ((s32 (216 + (s32 (4 * a1)))) + 2))), (1, a2)] m o := h
                              rcases MR_icmp h rfl rfl with ⟨c66, h⟩ | ⟨c66, h⟩
                              ·
                                have c66 : (m (m a0 14) (s32 ((s32 (216 + (s32 (4 * a1)))) + 2))) ≤ a2 := c66
                                refine Or.inl ⟨c66, ?_⟩
                                have h : MR X ρ 8 0 0 qP202 N 354 [a0, a1, a2, s32 (216 + (s32 (4 * a1))), m (m a0 14) (s32 ((s32 (216 + (s32 (4 * a1)))) + 1)), m (m a0 14) (s32 ((s32 (216 + (s32 (4 * a1)))) + 2)), s32 ((m (m a0 14) (s32 (216 + (s32 (4 * a1))))) - 50), a2] [] m o := h
                                have h := CR_iconst h rfl rfl
                                have h : MR X ρ 8 0 0 qP202 N 355 [a0, a1, a2, s32 (216 + (s32 (4 * a1))), m (m a0 14) (s32 ((s32 (216 + (s32 (4 * a1)))) + 1)), m (m a0 14) (s32 ((s32 (216 + (s32 (4 * a1)))) + 2)), s32 ((m (m a0 14) (s32 (216 + (s32 (4 * a1))))) - 50), a2] [(1, 0)] m o := h
                                have h := CR_go h rfl rfl
                                have h : MR X ρ 8 0 0 qP202 N 398 [a0, a1, a2, s32 (216 + (s32 (4 * a1))), m (m a0 14) (s32 ((s32 (216 + (s32 (4 * a1)))) + 1)), m (m a0 14) (s32 ((s32 (216 + (s32 (4 * a1)))) + 2)), s32 ((m (m a0 14) (s32 (216 + (s32 (4 * a1))))) - 50), a2] [(1, 0)] m o := h
                                exact CR_end h rfl rfl
                              ·
                                have c66 : ¬ ((m (m a0 14) (s32 ((s32 (216 + (s32 (4 * a1)))) + 2))) ≤ a2) := c66
                                refine Or.inr ⟨c66, ?_⟩
                                have h : MR X ρ 8 0 0 qP202 N 350 [a0, a1, a2, s32 (216 + (s32 (4 * a1))), m (m a0 14) (s32 ((s32 (216 + (s32 (4 * a1)))) + 1)), m (m a0 14) (s32 ((s32 (216 + (s32 (4 * a1)))) + 2)), s32 ((m (m a0 14) (s32 (216 + (s32 (4 * a1))))) - 50), a2] [] m o := h
                                have h := CR_iconst h rfl rfl
                                have h : MR X ρ 8 0 0 qP202 N 351 [a0, a1, a2, s32 (216 + (s32 (4 * a1))), m (m a0 14) (s32 ((s32 (216 + (s32 (4 * a1)))) + 1)), m (m a0 14) (s32 ((s32 (216 + (s32 (4 * a1)))) + 2)), s32 ((m (m a0 14) (s32 (216 + (s32 (4 * a1))))) - 50), a2] [(1, 1)] m o := h
                                have h := CR_go h rfl rfl
                                have h : MR X ρ 8 0 0 qP202 N 398 [a0, a1, a2, s32 (216 + (s32 (4 * a1))), m (m a0 14) (s32 ((s32 (216 + (s32 (4 * a1)))) + 1)), m (m a0 14) (s32 ((s32 (216 + (s32 (4 * a1)))) + 2)), s32 ((m (m a0 14) (s32 (216 + (s32 (4 * a1))))) - 50), a2] [(1, 1)] m o := h
                                exact CR_end h rfl rfl
                          ·
                            have c61 : (s32 ((m (m a0 14) (s32 (216 + (s32 (4 * a1))))) - 50)) = 28 := Decidable.of_not_not (show ¬ ¬ ((s32 ((m (m a0 14) (s32 (216 + (s32 (4 * a1))))) - 50)) = 28) from c61)
                            refine Or.inl ⟨c61, ?_⟩
                            have h : MR X ρ 8 0 0 qP202 N 314 [a0, a1, a2, s32 (216 + (s32 (4 * a1))), m (m a0 14) (s32 ((s32 (216 + (s32 (4 * a1)))) + 1)), m (m a0 14) (s32 ((s32 (216 + (s32 (4 * a1)))) + 2)), s32 ((m (m a0 14) (s32 (216 + (s32 (4 * a1))))) - 50), 0] [] m o := h
                            have h := CR_aload_n h rfl
                            have h : MR X ρ 8 0 0 qP202 N 315 [a0, a1, a2, s32 (216 + (s32 (4 * a1))), m (m a0 14) (s32 ((s32 (216 + (s32 (4 * a1)))) + 1)), m (m a0 14) (s32 ((s32 (216 + (s32 (4 * a1)))) + 2)), s32 ((m (m a0 14) (s32 (216 + (s32 (4 * a1))))) - 50), 0] [(1, a0)] m o := h
                            have h := CR_getf h rfl (by decide)
                            have h : MR X ρ 8 0 0 qP202 N 318 [a0, a1, a2, s32 (216 + (s32 (4 * a1))), m (m a0 14) (s32 ((s32 (216 + (s32 (4 * a1)))) + 1)), m (m a0 14) (s32 ((s32 (216 + (s32 (4 * a1)))) + 2)), s32 ((m (m a0 14) (s32 (216 + (s32 (4 * a1))))) - 50), 0] [(1, m a0 14)] m o := h
                            have h := CR_sipush h rfl rfl
                            have h : MR X ρ 8 0 0 qP202 N 321 [a0, a1, a2, s32 (216 + (s32 (4 * a1))), m (m a0 14) (s32 ((s32 (216 + (s32 (4 * a1)))) + 1)), m (m a0 14) (s32 ((s32 (216 + (s32 (4 * a1)))) + 2)), s32 ((m (m a0 14) (s32 (216 + (s32 (4 * a1))))) - 50), 0] [(1, 190), (1, m a0 14)] m o := h
                            have h := CR_iload_n h rfl
                            have h : MR X ρ 8 0 0 qP202 N 322 [a0, a1, a2, s32 (216 + (s32 (4 * a1))), m (m a0 14) (s32 ((s32 (216 + (s32 (4 * a1)))) + 1)), m (m a0 14) (s32 ((s32 (216 + (s32 (4 * a1)))) + 2)), s32 ((m (m a0 14) (s32 (216 + (s32 (4 * a1))))) - 50), 0] [(1, a2), (1, 190), (1, m a0 14)] m o := h
                            have h := CR_iadd h rfl
                            have h : MR X ρ 8 0 0 qP202 N 323 [a0, a1, a2, s32 (216 + (s32 (4 * a1))), m (m a0 14) (s32 ((s32 (216 + (s32 (4 * a1)))) + 1)), m (m a0 14) (s32 ((s32 (216 + (s32 (4 * a1)))) + 2)), s32 ((m (m a0 14) (s32 (216 + (s32 (4 * a1))))) - 50), 0] [(1, s32 (190 + a2)), (1, m a0 14)] m o := h
                            have h := CR_iaload h rfl rfl
                            have h : MR X ρ 8 0 0 qP202 N 324 [a0, a1, a2, s32 (216 + (s32 (4 * a1))), m (m a0 14) (s32 ((s32 (216 + (s32 (4 * a1)))) + 1)), m (m a0 14) (s32 ((s32 (216 + (s32 (4 * a1)))) + 2)), s32 ((m (m a0 14) (s32 (216 + (s32 (4 * a1))))) - 50), 0] [(1, m (m a0 14) (s32 (190 + a2)))] m o := h
                            have h := CR_go h rfl rfl
                            have h : MR X ρ 8 0 0 qP202 N 328 [a0, a1, a2, s32 (216 + (s32 (4 * a1))), m (m a0 14) (s32 ((s32 (216 + (s32 (4 * a1)))) + 1)), m (m a0 14) (s32 ((s32 (216 + (s32 (4 * a1)))) + 2)), s32 ((m (m a0 14) (s32 (216 + (s32 (4 * a1))))) - 50), 0] [(1, m (m a0 14) (s32 (190 + a2)))] m o := h
                            have h := CR_istore h rfl (Nat.le_of_ble_eq_true rfl)
                            have h : MR X ρ 8 0 0 qP202 N 330 [a0, a1, a2, s32 (216 + (s32 (4 * a1))), m (m a0 14) (s32 ((s32 (216 + (s32 (4 * a1)))) + 1)), m (m a0 14) (s32 ((s32 (216 + (s32 (4 * a1)))) + 2)), s32 ((m (m a0 14) (s32 (216 + (s32 (4 * a1))))) - 50), m (m a0 14) (s32 (190 + a2))] [] m o := h
                            have h := CR_aload_n h rfl
                            have h : MR X ρ 8 0 0 qP202 N 331 [a0, a1, a2, s32 (216 + (s32 (4 * a1))), m (m a0 14) (s32 ((s32 (216 + (s32 (4 * a1)))) + 1)), m (m a0 14) (s32 ((s32 (216 + (s32 (4 * a1)))) + 2)), s32 ((m (m a0 14) (s32 (216 + (s32 (4 * a1))))) - 50), m (m a0 14) (s32 (190 + a2))] [(1, a0)] m o := h
                            have h := CR_getf h rfl (by decide)
                            have h : MR X ρ 8 0 0 qP202 N 334 [a0, a1, a2, s32 (216 + (s32 (4 * a1))), m (m a0 14) (s32 ((s32 (216 + (s32 (4 * a1)))) + 1)), m (m a0 14) (s32 ((s32 (216 + (s32 (4 * a1)))) + 2)), s32 ((m (m a0 14) (s32 (216 + (s32 (4 * a1))))) - 50), m (m a0 14) (s32 (190 + a2))] [(1, m a0 14)] m o := h
                            have h := CR_iload_n h rfl
                            have h : MR X ρ 8 0 0 qP202 N 335 [a0, a1, a2, s32 (216 + (s32 (4 * a1))), m (m a0 14) (s32 ((s32 (216 + (s32 (4 * a1)))) + 1)), m (m a0 14) (s32 ((s32 (216 + (s32 (4 * a1)))) + 2)), s32 ((m (m a0 14) (s32 (216 + (s32 (4 * a1))))) - 50), m (m a0 14) (s32 (190 + a2))] [(1, s32 (216 + (s32 (4 * a1)))), (1, m a0 14)] m o := h
                            have h := CR_iconst h rfl rfl
                            have h : MR X ρ 8 0 0 qP202 N 336 [a0, a1, a2, s32 (216 + (s32 (4 * a1))), m (m a0 14) (s32 ((s32 (216 + (s32 (4 * a1)))) + 1)), m (m a0 14) (s32 ((s32 (216 + (s32 (4 * a1)))) + 2)), s32 ((m (m a0 14) (s32 (216 + (s32 (4 * a1))))) - 50), m (m a0 14) (s32 (190 + a2))] [(1, 3), (1, s32 (216 + (s32 (4 * a1)))), (1, m a0 14)] m o := h
                            have h := CR_iadd h rfl
                            have h : MR X ρ 8 0 0 qP202 N 337 [a0, a1, a2, s32 (216 + (s32 (4 * a1))), m (m a0 14) (s32 ((s32 (216 + (s32 (4 * a1)))) + 1)), m (m a0 14) (s32 ((s32 (216 + (s32 (4 * a1)))) + 2)), s32 ((m (m a0 14) (s32 (216 + (s32 (4 * a1))))) - 50), m (m a0 14) (s32 (190 + a2))] [(1, s32 ((s32 (216 + (s32 (4 * a1)))) + 3)), (1, m a0 14)] m o := h
                            have h := CR_iaload h rfl rfl
                            have h : MR X ρ 8 0 0 qP202 N 338 [a0, a1, a2, s32 (216 + (s32 (4 * a1))), m (m a0 14) (s32 ((s32 (216 + (s32 (4 * a1)))) + 1)), m (m a0 14) (s32 ((s32 (216 + (s32 (4 * a1)))) + 2)), s32 ((m (m a0 14) (s32 (216 + (s32 (4 * a1))))) - 50), m (m a0 14) (s32 (190 + a2))] [(1, m (m a0 14) (s32 ((s32 (216 + (s32 (4 * a1)))) + 3)))] m o := h
                            have h := CR_bipush h rfl rfl
                            have h : MR X ρ 8 0 0 qP202 N 340 [a0, a1, a2, s32 (216 + (s32 (4 * a1))), m (m a0 14) (s32 ((s32 (216 + (s32 (4 * a1)))) + 1)), m (m a0 14) (s32 ((s32 (216 + (s32 (4 * a1)))) + 2)), s32 ((m (m a0 14) (s32 (216 + (s32 (4 * a1))))) - 50), m (m a0 14) (s32 (190 + a2))] [(1, 60), (1, m (m a0 14) (s32 ((s32 (216 + (s32 (4 * a1)))) + 3)))] m o := h
                            rcases MR_icmp h rfl rfl with ⟨c67, h⟩ | ⟨c67, h⟩
                            ·
                              have c67 : ¬ ((m (m a0 14) (s32 ((s32 (216 + (s32 (4 * a1)))) + 3))) = 60) := c67
                              refine Or.inr ⟨c67, ?_⟩
                              have h : MR X ρ 8 0 0 qP202 N 358 [a0, a1, a2, s32 (216 + (s32 (4 * a1))), m (m a0 14) (s32 ((s32 (216 + (s32 (4 * a1)))) + 1)), m (m a0 14) (s32 ((s32 (216 + (s32 (4 * a1)))) + 2)), s32 ((m (m a0 14) (s32 (216 + (s32 (4 * a1))))) - 50), m (m a0 14) (s32 (190 + a2))] [] m o := h
                              have h := CR_aload_n h rfl
                              have h : MR X ρ 8 0 0 qP202 N 359 [a0, a1, a2, s32 (216 + (s32 (4 * a1))), m (m a0 14) (s32 ((s32 (216 + (s32 (4 * a1)))) + 1)), m (m a0 14) (s32 ((s32 (216 + (s32 (4 * a1)))) + 2)), s32 ((m (m a0 14) (s32 (216 + (s32 (4 * a1))))) - 50), m (m a0 14) (s32 (190 + a2))] [(1, a0)] m o := h
                              have h := CR_getf h rfl (by decide)
                              have h : MR X ρ 8 0 0 qP202 N 362 [a0, a1, a2, s32 (216 + (s32 (4 * a1))), m (m a0 14) (s32 ((s32 (216 + (s32 (4 * a1)))) + 1)), m (m a0 14) (s32 ((s32 (216 + (s32 (4 * a1)))) + 2)), s32 ((m (m a0 14) (s32 (216 + (s32 (4 * a1))))) - 50), m (m a0 14) (s32 (190 + a2))] [(1, m a0 14)] m o := h
                              have h := CR_iload_n h rfl
                              have h : MR X ρ 8 0 0 qP202 N 363 [a0, a1, a2, s32 (216 + (s32 (4 * a1))), m (m a0 14) (s32 ((s32 (216 + (s32 (4 * a1)))) + 1)), m (m a0 14) (s32 ((s32 (216 + (s32 (4 * a1)))) + 2)), s32 ((m (m a0 14) (s32 (216 + (s32 (4 * a1))))) - 50), m (m a0 14) (s32 (190 + a2))] [(1, s32 (216 + (s32 (4 * a1)))), (1, m a0 14)] m o := h
                              have h := CR_iconst h rfl rfl
                              have h : MR X ρ 8 0 0 qP202 N 364 [a0, a1, a2, s32 (216 + (s32 (4 * a1))), m (m a0 14) (s32 ((s32 (216 + (s32 (4 * a1)))) + 1)), m (m a0 14) (s32 ((s32 (216 + (s32 (4 * a1)))) + 2)), s32 ((m (m a0 14) (s32 (216 + (s32 (4 * a1))))) - 50), m (m a0 14) (s32 (190 + a2))] [(1, 3), (1, s32 (216 + (s32 (4 * a1)))), (1, m a0 14)] m o := h
                              have h := CR_iadd h rfl
                              have h : MR X ρ 8 0 0 qP202 N 365 [a0, a1, a2, s32 (216 + (s32 (4 * a1))), m (m a0 14) (s32 ((s32 (216 + (s32 (4 * a1)))) + 1)), m (m a0 14) (s32 ((s32 (216 + (s32 (4 * a1)))) + 2)), s32 ((m (m a0 14) (s32 (216 + (s32 (4 * a1))))) - 50), m (m a0 14) (s32 (190 + a2))] [(1, s32 ((s32 (216 + (s32 (4 * a1)))) + 3)), (1, m a0 14)] m o := h
                              have h := CR_iaload h rfl rfl
                              have h : MR X ρ 8 0 0 qP202 N 366 [a0, a1, a2, s32 (216 + (s32 (4 * a1))), m (m a0 14) (s32 ((s32 (216 + (s32 (4 * a1)))) + 1)), m (m a0 14) (s32 ((s32 (216 + (s32 (4 * a1)))) + 2)), s32 ((m (m a0 14) (s32 (216 + (s32 (4 * a1))))) - 50), m (m a0 14) (s32 (190 + a2))] [(1, m (m a0 14) (s32 ((s32 (216 + (s32 (4 * a1)))) + 3)))] m o := h
                              have h := CR_bipush h rfl rfl
                              have h : MR X ρ 8 0 0 qP202 N 368 [a0, a1, a2, s32 (216 + (s32 (4 * a1))), m (m a0 14) (s32 ((s32 (216 + (s32 (4 * a1)))) + 1)), m (m a0 14) (s32 ((s32 (216 + (s32 (4 * a1)))) + 2)), s32 ((m (m a0 14) (s32 (216 + (s32 (4 * a1))))) - 50), m (m a0 14) (s32 (190 + a2))] [(1, 61), (1, m (m a0 14) (s32 ((s32 (216 + (s32 (4 * a1)))) + 3)))] m o := h
                              rcases MR_icmp h rfl rfl with ⟨c68, h⟩ | ⟨c68, h⟩
                              ·
                                have c68 : ¬ ((m (m a0 14) (s32 ((s32 (216 + (s32 (4 * a1)))) + 3))) = 61) := c68
                                refine Or.inr ⟨c68, ?_⟩
                                have h : MR X ρ 8 0 0 qP202 N 386 [a0, a1, a2, s32 (216 + (s32 (4 * a1))), m (m a0 14) (s32 ((s32 (216 + (s32 (4 * a1)))) + 1)), m (m a0 14) (s32 ((s32 (216 + (s32 (4 * a1)))) + 2)), s32 ((m (m a0 14) (s32 (216 + (s32 (4 * a1))))) - 50), m (m a0 14) (s32 (190 + a2))] [] m o := h
                                have h := CR_iload h rfl
                                have h : MR X ρ 8 0 0 qP202 N 388 [a0, a1, a2, s32 (216 + (s32 (4 * a1))), m (m a0 14) (s32 ((s32 (216 + (s32 (4 * a1)))) + 1)), m (m a0 14) (s32 ((s32 (216 + (s32 (4 * a1)))) + 2)), s32 ((m (m a0 14) (s32 (216 + (s32 (4 * a1))))) - 50), m (m a0 14) (s32 (190 + a2))] [(1, m (m a0 14) (s32 (190 + a2)))] m o := h
                                have h := CR_iload h rfl
                                have h : MR X ρ 8 0 0 qP202 N 390 [a0, a1, a2, s32 (216 + (s32 (4 * a1))), m (m a0 14) (s32 ((s32 (216 + (s32 (4 * a1)))) + 1)), m (m a0 14) (s32 ((s32 (216 + (s32 (4 * a1)))) + 2)), s32 ((m (m a0 14) (s32 (216 + (s32 (4 * a1))))) - 50), m (m a0 14) (s32 (190 + a2))] [(1, m (m a0 14) (s32 ((s32 (216 + (s32 (4 * a1)))) + 2))), (1, m (m a0 14) (s32 (190 + a2)))] m o := h
                                rcases MR_icmp h rfl rfl with ⟨c69, h⟩ | ⟨c69, h⟩
                                ·
                                  have c69 : (m (m a0 14) (s32 (190 + a2))) ≤ (m (m a0 14) (s32 ((s32 (216 + (s32 (4 * a1)))) + 2))) := c69
                                  refine Or.inl ⟨c69, ?_⟩
                                  have h : MR X ρ 8 0 0 qP202 N 397 [a0, a1, a2, s32 (216 + (s32 (4 * a1))), m (m a0 14) (s32 ((s32 (216 + (s32 (4 * a1)))) + 1)), m (m a0 14) (s32 ((s32 (216 + (s32 (4 * a1)))) + 2)), s32 ((m (m a0 14) (s32 (216 + (s32 (4 * a1))))) - 50), m (m a0 14) (s32 (190 + a2))] [] m o := h
                                  have h := CR_iconst h rfl rfl
                                  have h : MR X ρ 8 0 0 qP202 N 398 [a0, a1, a2, s32 (216 + (s32 (4 * a1))), m (m a0 14) (s32 ((s32 (216 + (s32 (4 * a1)))) + 1)), m (m a0 14) (s32 ((s32 (216 + (s32 (4 * a1)))) + 2)), s32 ((m (m a0 14) (s32 (216 + (s32 (4 * a1))))) - 50), m (m a0 14) (s32 (190 + a2))] [(1, 0)] m o := h
                                  exact CR_end h rfl rfl
                                ·
                                  have c69 : ¬ ((m (m a0 14) (s32 (190 + a2))) ≤ (m (m a0 14) (s32 ((s32 (216 + (s32 (4 * a1)))) + 2)))) := c69
                                  refine Or.inr ⟨c69, ?_⟩
                                  have h : MR X ρ 8 0 0 qP202 N 393 [a0, a1, a2, s32 (216 + (s32 (4 * a1))), m (m a0 14) (s32 ((s32 (216 + (s32 (4 * a1)))) + 1)), m (m a0 14) (s32 ((s32 (216 + (s32 (4 * a1)))) + 2)), s32 ((m (m a0 14) (s32 (216 + (s32 (4 * a1))))) - 50), m (m a0 14) (s32 (190 + a2))] [] m o := h
                                  have h := CR_iconst h rfl rfl
                                  have h : MR X ρ 8 0 0 qP202 N 394 [a0, a1, a2, s32 (216 + (s32 (4 * a1))), m (m a0 14) (s32 ((s32 (216 + (s32 (4 * a1)))) + 1)), m (m a0 14) (s32 ((s32 (216 + (s32 (4 * a1)))) + 2)), s32 ((m (m a0 14) (s32 (216 + (s32 (4 * a1))))) - 50), m (m a0 14) (s32 (190 + a2))] [(1, 1)] m o := h
                                  have h := CR_go h rfl rfl
                                  have h : MR X ρ 8 0 0 qP202 N 398 [a0, a1, a2, s32 (216 + (s32 (4 * a1))), m (m a0 14) (s32 ((s32 (216 + (s32 (4 * a1)))) + 1)), m (m a0 14) (s32 ((s32 (216 + (s32 (4 * a1)))) + 2)), s32 ((m (m a0 14) (s32 (216 + (s32 (4 * a1))))) - 50), m (m a0 14) (s32 (190 + a2))] [(1, 1)] m o := h
                                  exact CR_end h rfl rfl
                              ·
                                have c68 : (m (m a0 14) (s32 ((s32 (216 + (s32 (4 * a1)))) + 3))) = 61 := Decidable.of_not_not (show ¬ ¬ ((m (m a0 14) (s32 ((s32 (216 + (s32 (4 * a1)))) + 3))) = 61) from c68)
                                refine Or.inl ⟨c68, ?_⟩
                                have h : MR X ρ 8 0 0 qP202 N 371 [a0, a1, a2, s32 (216 + (s32 (4 * a1))), m (m a0 14) (s32 ((s32 (216 + (s32 (4 * a1)))) + 1)), m (m a0 14) (s32 ((s32 (216 + (s32 (4 * a1)))) + 2)), s32 ((m (m a0 14) (s32 (216 + (s32 (4 * a1))))) - 50), m (m a0 14) (s32 (190 + a2))] [] m o := h
                                have h := CR_iload h rfl
                                have h : MR X ρ 8 0 0 qP202 N 373 [a0, a1, a2, s32 (216 + (s32 (4 * a1))), m (m a0 14) (s32 ((s32 (216 + (s32 (4 * a1)))) + 1)), m (m a0 14) (s32 ((s32 (216 + (s32 (4 * a1)))) + 2)), s32 ((m (m a0 14) (s32 (216 + (s32 (4 * a1))))) - 50), m (m a0 14) (s32 (190 + a2))] [(1, m (m a0 14) (s32 (190 + a2)))] m o := h
                                have h := CR_iload h rfl
                                have h : MR X ρ 8 0 0 qP202 N 375 [a0, a1, a2, s32 (216 + (s32 (4 * a1))), m (m a0 14) (s32 ((s32 (216 + (s32 (4 * a1)))) + 1)), m (m a0 14) (s32 ((s32 (216 + (s32 (4 * a1)))) + 2)), s32 ((m (m a0 14) (s32 (216 + (s32 (4 * a1))))) - 50), m (m a0 14) (s32 (190 + a2))] [(1, m (m a0 14) (s32 ((s32 (216 + (s32 (4 * a1)))) + 2))), (1, m (m a0 14) (s32 (190 + a2)))] m o := h
                                rcases MR_icmp h rfl rfl with ⟨c70, h⟩ | ⟨c70, h⟩
                                ·
                                  have c70 : ¬ ((m (m a0 14) (s32 (190 + a2))) = (m (m a0 14) (s32 ((s32 (216 + (s32 (4 * a1)))) + 2)))) := c70
                                  refine Or.inr ⟨c70, ?_⟩
                                  have h : MR X ρ 8 0 0 qP202 N 382 [a0, a1, a2, s32 (216 + (s32 (4 * a1))), m (m a0 14) (s32 ((s32 (216 + (s32 (4 * a1)))) + 1)), m (m a0 14) (s32 ((s32 (216 + (s32 (4 * a1)))) + 2)), s32 ((m (m a0 14) (s32 (216 + (s32 (4 * a1))))) - 50), m (m a0 14) (s32 (190 + a2))] [] m o := h
                                  have h := CR_iconst h rfl rfl
                                  have h : MR X ρ 8 0 0 qP202 N 383 [a0, a1, a2, s32 (216 + (s32 (4 * a1))), m (m a0 14) (s32 ((s32 (216 + (s32 (4 * a1)))) + 1)), m (m a0 14) (s32 ((s32 (216 + (s32 (4 * a1)))) + 2)), s32 ((m (m a0 14) (s32 (216 + (s32 (4 * a1))))) - 50), m (m a0 14) (s32 (190 + a2))] [(1, 0)] m o := h
                                  have h := CR_go h rfl rfl
                                  have h : MR X ρ 8 0 0 qP202 N 398 [a0, a1, a2, s32 (216 + (s32 (4 * a1))), m (m a0 14) (s32 ((s32 (216 + (s32 (4 * a1)))) + 1)), m (m a0 14) (s32 ((s32 (216 + (s32 (4 * a1)))) + 2)), s32 ((m (m a0 14) (s32 (216 + (s32 (4 * a1))))) - 50), m (m a0 14) (s32 (190 + a2))] [(1, 0)] m o := h
                                  exact CR_end h rfl rfl
                                ·
                                  have c70 : (m (m a0 14) (s32 (190 + a2))) = (m (m a0 14) (s32 ((s32 (216 + (s32 (4 * a1)))) + 2))) := Decidable.of_not_not (show ¬ ¬ ((m (m a0 14) (s32 (190 + a2))) = (m (m a0 14) (s32 ((s32 (216 + (s32 (4 * a1)))) + 2)))) from c70)
                                  refine Or.inl ⟨c70, ?_⟩
                                  have h : MR X ρ 8 0 0 qP202 N 378 [a0, a1, a2, s32 (216 + (s32 (4 * a1))), m (m a0 14) (s32 ((s32 (216 + (s32 (4 * a1)))) + 1)), m (m a0 14) (s32 ((s32 (216 + (s32 (4 * a1)))) + 2)), s32 ((m (m a0 14) (s32 (216 + (s32 (4 * a1))))) - 50), m (m a0 14) (s32 (190 + a2))] [] m o := h
                                  have h := CR_iconst h rfl rfl
                                  have h : MR X ρ 8 0 0 qP202 N 379 [a0, a1, a2, s32 (216 + (s32 (4 * a1))), m (m a0 14) (s32 ((s32 (216 + (s32 (4 * a1)))) + 1)), m (m a0 14) (s32 ((s32 (216 + (s32 (4 * a1)))) + 2)), s32 ((m (m a0 14) (s32 (216 + (s32 (4 * a1))))) - 50), m (m a0 14) (s32 (190 + a2))] [(1, 1)] m o := h
                                  have h := CR_go h rfl rfl
                                  have h : MR X ρ 8 0 0 qP202 N 398 [a0, a1, a2, s32 (216 + (s32 (4 * a1))), m (m a0 14) (s32 ((s32 (216 + (s32 (4 * a1)))) + 1)), m (m a0 14) (s32 ((s32 (216 + (s32 (4 * a1)))) + 2)), s32 ((m (m a0 14) (s32 (216 + (s32 (4 * a1))))) - 50), m (m a0 14) (s32 (190 + a2))] [(1, 1)] m o := h
                                  exact CR_end h rfl rfl
                            ·
                              have c67 : (m (m a0 14) (s32 ((s32 (216 + (s32 (4 * a1)))) + 3))) = 60 := Decidable.of_not_not (show ¬ ¬ ((m (m a0 14) (s32 ((s32 (216 + (s32 (4 * a1)))) + 3))) = 60) from c67)
                              refine Or.inl ⟨c67, ?_⟩
                              have h : MR X ρ 8 0 0 qP202 N 343 [a0, a1, a2, s32 (216 + (s32 (4 * a1))), m (m a0 14) (s32 ((s32 (216 + (s32 (4 * a1)))) + 1)), m (m a0 14) (s32 ((s32 (216 + (s32 (4 * a1)))) + 2)), s32 ((m (m a0 14) (s32 (216 + (s32 (4 * a1))))) - 50), m (m a0 14) (s32 (190 + a2))] [] m o := h
                              have h := CR_iload h rfl
                              have h : MR X ρ 8 0 0 qP202 N 345 [a0, a1, a2, s32 (216 + (s32 (4 * a1))), m (m a0 14) (s32 ((s32 (216 + (s32 (4 * a1)))) + 1)), m (m a0 14) (s32 ((s32 (216 + (s32 (4 * a1)))) + 2)), s32 ((m (m a0 14) (s32 (216 + (s32 (4 * a1))))) - 50), m (m a0 14) (s32 (190 + a2))] [(1, m (m a0 14) (s32 (190 + a2)))] m o := h
                              have h := CR_iload h rfl
                              have h : MR X ρ 8 0 0 qP202 N 347 [a0, a1, a2, s32 (216 + (s32 (4 * a1))), m (m a0 14) (s32 ((s32 (216 + (s32 (4 * a1)))) + 1)), m (m a0 14) (s32 ((s32 (216 + (s32 (4 * a1)))) + 2)), s32 ((m (m a0 14) (s32 (216 + (s32 (4 * a1))))) - 50), m (m a0 14) (s32 (190 + a2))] [(1, m (m a0 14) (s32 ((s32 (216 + (s32 (4 * a1)))) + 2))), (1, m (m a0 14) (s32 (190 + a2)))] m o := h
                              rcases MR_icmp h rfl rfl with ⟨c71, h⟩ | ⟨c71, h⟩
                              ·
                                have c71 : (m (m a0 14) (s32 ((s32 (216 + (s32 (4 * a1)))) + 2))) ≤ (m (m a0 14) (s32 (190 + a2))) := c71
                                refine Or.inl ⟨c71, ?_⟩
                                have h : MR X ρ 8 0 0 qP202 N 354 [a0, a1, a2, s32 (216 + (s32 (4 * a1))), m (m a0 14) (s32 ((s32 (216 + (s32 (4 * a1)))) + 1)), m (m a0 14) (s32 ((s32 (216 + (s32 (4 * a1)))) + 2)), s32 ((m (m a0 14) (s32 (216 + (s32 (4 * a1))))) - 50), m (m a0 14) (s32 (190 + a2))] [] m o := h
                                have h := CR_iconst h rfl rfl
                                have h : MR X ρ 8 0 0 qP202 N 355 [a0, a1, a2, s32 (216 + (s32 (4 * a1))), m (m a0 14) (s32 ((s32 (216 + (s32 (4 * a1)))) + 1)), m (m a0 14) (s32 ((s32 (216 + (s32 (4 * a1)))) + 2)), s32 ((m (m a0 14) (s32 (216 + (s32 (4 * a1))))) - 50), m (m a0 14) (s32 (190 + a2))] [(1, 0)] m o := h
                                have h := CR_go h rfl rfl
                                have h : MR X ρ 8 0 0 qP202 N 398 [a0, a1, a2, s32 (216 + (s32 (4 * a1))), m (m a0 14) (s32 ((s32 (216 + (s32 (4 * a1)))) + 1)), m (m a0 14) (s32 ((s32 (216 + (s32 (4 * a1)))) + 2)), s32 ((m (m a0 14) (s32 (216 + (s32 (4 * a1))))) - 50), m (m a0 14) (s32 (190 + a2))] [(1, 0)] m o := h
                                exact CR_end h rfl rfl
                              ·
                                have c71 : ¬ ((m (m a0 14) (s32 ((s32 (216 + (s32 (4 * a1)))) + 2))) ≤ (m (m a0 14) (s32 (190 + a2)))) := c71
                                refine Or.inr ⟨c71, ?_⟩
                                have h : MR X ρ 8 0 0 qP202 N 350 [a0, a1, a2, s32 (216 + (s32 (4 * a1))), m (m a0 14) (s32 ((s32 (216 + (s32 (4 * a1)))) + 1)), m (m a0 14) (s32 ((s32 (216 + (s32 (4 * a1)))) + 2)), s32 ((m (m a0 14) (s32 (216 + (s32 (4 * a1))))) - 50), m (m a0 14) (s32 (190 + a2))] [] m o := h
                                have h := CR_iconst h rfl rfl
                                have h : MR X ρ 8 0 0 qP202 N 351 [a0, a1, a2, s32 (216 + (s32 (4 * a1))), m (m a0 14) (s32 ((s32 (216 + (s32 (4 * a1)))) + 1)), m (m a0 14) (s32 ((s32 (216 + (s32 (4 * a1)))) + 2)), s32 ((m (m a0 14) (s32 (216 + (s32 (4 * a1))))) - 50), m (m a0 14) (s32 (190 + a2))] [(1, 1)] m o := h
                                have h := CR_go h rfl rfl
                                have h : MR X ρ 8 0 0 qP202 N 398 [a0, a1, a2, s32 (216 + (s32 (4 * a1))), m (m a0 14) (s32 ((s32 (216 + (s32 (4 * a1)))) + 1)), m (m a0 14) (s32 ((s32 (216 + (s32 (4 * a1)))) + 2)), s32 ((m (m a0 14) (s32 (216 + (s32 (4 * a1))))) - 50), m (m a0 14) (s32 (190 + a2))] [(1, 1)] m o := h
                                exact CR_end h rfl rfl
                        ·
                          have c60 : (s32 ((m (m a0 14) (s32 (216 + (s32 (4 * a1))))) - 50)) = 27 := Decidable.of_not_not (show ¬ ¬ ((s32 ((m (m a0 14) (s32 (216 + (s32 (4 * a1))))) - 50)) = 27) from c60)
                          refine Or.inl ⟨c60, ?_⟩
                          have h : MR X ρ 8 0 0 qP202 N 299 [a0, a1, a2, s32 (216 + (s32 (4 * a1))), m (m a0 14) (s32 ((s32 (216 + (s32 (4 * a1)))) + 1)), m (m a0 14) (s32 ((s32 (216 + (s32 (4 * a1)))) + 2)), s32 ((m (m a0 14) (s32 (216 + (s32 (4 * a1))))) - 50), 0] [] m o := h
                          have h := CR_aload_n h rfl
                          have h : MR X ρ 8 0 0 qP202 N 300 [a0, a1, a2, s32 (216 + (s32 (4 * a1))), m (m a0 14) (s32 ((s32 (216 + (s32 (4 * a1)))) + 1)), m (m a0 14) (s32 ((s32 (216 + (s32 (4 * a1)))) + 2)), s32 ((m (m a0 14) (s32 (216 + (s32 (4 * a1))))) - 50), 0] [(1, a0)] m o := h
                          have h := CR_iload_n h rfl
                          have h : MR X ρ 8 0 0 qP202 N 301 [a0, a1, a2, s32 (216 + (s32 (4 * a1))), m (m a0 14) (s32 ((s32 (216 + (s32 (4 * a1)))) + 1)), m (m a0 14) (s32 ((s32 (216 + (s32 (4 * a1)))) + 2)), s32 ((m (m a0 14) (s32 (216 + (s32 (4 * a1))))) - 50), 0] [(1, a2), (1, a0)] m o := h
                          obtain ⟨r72, m73, q74, h⟩ := MR_invV h rfl rfl
                          have q74 : Run X ρ 236 [(1, a0), (1, a2)] m r72 m73 := q74
                          obtain ⟨e75, e76⟩ := d236 q74
                          rw [e75, e76] at h
                          have h : MR X ρ 8 0 0 qP202 N 304 [a0, a1, a2, s32 (216 + (s32 (4 * a1))), m (m a0 14) (s32 ((s32 (216 + (s32 (4 * a1)))) + 1)), m (m a0 14) (s32 ((s32 (216 + (s32 (4 * a1)))) + 2)), s32 ((m (m a0 14) (s32 (216 + (s32 (4 * a1))))) - 50), 0] [(1, f236 m a0 a2)] m o := h
                          have h := CR_go h rfl rfl
                          have h : MR X ρ 8 0 0 qP202 N 328 [a0, a1, a2, s32 (216 + (s32 (4 * a1))), m (m a0 14) (s32 ((s32 (216 + (s32 (4 * a1)))) + 1)), m (m a0 14) (s32 ((s32 (216 + (s32 (4 * a1)))) + 2)), s32 ((m (m a0 14) (s32 (216 + (s32 (4 * a1))))) - 50), 0] [(1, f236 m a0 a2)] m o := h
                          have h := CR_istore h rfl (Nat.le_of_ble_eq_true rfl)
                          have h : MR X ρ 8 0 0 qP202 N 330 [a0, a1, a2, s32 (216 + (s32 (4 * a1))), m (m a0 14) (s32 ((s32 (216 + (s32 (4 * a1)))) + 1)), m (m a0 14) (s32 ((s32 (216 + (s32 (4 * a1)))) + 2)), s32 ((m (m a0 14) (s32 (216 + (s32 (4 * a1))))) - 50), f236 m a0 a2] [] m o := h
                          have h := CR_aload_n h rfl
                          have h : MR X ρ 8 0 0 qP202 N 331 [a0, a1, a2, s32 (216 + (s32 (4 * a1))), m (m a0 14) (s32 ((s32 (216 + (s32 (4 * a1)))) + 1)), m (m a0 14) (s32 ((s32 (216 + (s32 (4 * a1)))) + 2)), s32 ((m (m a0 14) (s32 (216 + (s32 (4 * a1))))) - 50), f236 m a0 a2] [(1, a0)] m o := h
                          have h := CR_getf h rfl (by decide)
                          have h : MR X ρ 8 0 0 qP202 N 334 [a0, a1, a2, s32 (216 + (s32 (4 * a1))), m (m a0 14) (s32 ((s32 (216 + (s32 (4 * a1)))) + 1)), m (m a0 14) (s32 ((s32 (216 + (s32 (4 * a1)))) + 2)), s32 ((m (m a0 14) (s32 (216 + (s32 (4 * a1))))) - 50), f236 m a0 a2] [(1, m a0 14)] m o := h
                          have h := CR_iload_n h rfl
                          have h : MR X ρ 8 0 0 qP202 N 335 [a0, a1, a2, s32 (216 + (s32 (4 * a1))), m (m a0 14) (s32 ((s32 (216 + (s32 (4 * a1)))) + 1)), m (m a0 14) (s32 ((s32 (216 + (s32 (4 * a1)))) + 2)), s32 ((m (m a0 14) (s32 (216 + (s32 (4 * a1))))) - 50), f236 m a0 a2] [(1, s32 (216 + (s32 (4 * a1)))), (1, m a0 14)] m o := h
                          have h := CR_iconst h rfl rfl
                          have h : MR X ρ 8 0 0 qP202 N 336 [a0, a1, a2, s32 (216 + (s32 (4 * a1))), m (m a0 14) (s32 ((s32 (216 + (s32 (4 * a1)))) + 1)), m (m a0 14) (s32 ((s32 (216 + (s32 (4 * a1)))) + 2)), s32 ((m (m a0 14) (s32 (216 + (s32 (4 * a1))))) - 50), f236 m a0 a2] [(1, 3), (1, s32 (216 + (s32 (4 * a1)))), (1, m a0 14)] m o := h
                          have h := CR_iadd h rfl
                          have h : MR X ρ 8 0 0 qP202 N 337 [a0, a1, a2, s32 (216 + (s32 (4 * a1))), m (m a0 14) (s32 ((s32 (216 + (s32 (4 * a1)))) + 1)), m (m a0 14) (s32 ((s32 (216 + (s32 (4 * a1)))) + 2)), s32 ((m (m a0 14) (s32 (216 + (s32 (4 * a1))))) - 50), f236 m a0 a2] [(1, s32 ((s32 (216 + (s32 (4 * a1)))) + 3)), (1, m a0 14)] m o := h
                          have h := CR_iaload h rfl rfl
                          have h : MR X ρ 8 0 0 qP202 N 338 [a0, a1, a2, s32 (216 + (s32 (4 * a1))), m (m a0 14) (s32 ((s32 (216 + (s32 (4 * a1)))) + 1)), m (m a0 14) (s32 ((s32 (216 + (s32 (4 * a1)))) + 2)), s32 ((m (m a0 14) (s32 (216 + (s32 (4 * a1))))) - 50), f236 m a0 a2] [(1, m (m a0 14) (s32 ((s32 (216 + (s32 (4 * a1)))) + 3)))] m o := h
                          have h := CR_bipush h rfl rfl
                          have h : MR X ρ 8 0 0 qP202 N 340 [a0, a1, a2, s32 (216 + (s32 (4 * a1))), m (m a0 14) (s32 ((s32 (216 + (s32 (4 * a1)))) + 1)), m (m a0 14) (s32 ((s32 (216 + (s32 (4 * a1)))) + 2)), s32 ((m (m a0 14) (s32 (216 + (s32 (4 * a1))))) - 50), f236 m a0 a2] [(1, 60), (1, m (m a0 14) (s32 ((s32 (216 + (s32 (4 * a1)))) + 3)))] m o := h
                          rcases MR_icmp h rfl rfl with ⟨c77, h⟩ | ⟨c77, h⟩
                          ·
                            have c77 : ¬ ((m (m a0 14) (s32 ((s32 (216 + (s32 (4 * a1)))) + 3))) = 60) := c77
                            refine Or.inr ⟨c77, ?_⟩
                            have h : MR X ρ 8 0 0 qP202 N 358 [a0, a1, a2, s32 (216 + (s32 (4 * a1))), m (m a0 14) (s32 ((s32 (216 + (s32 (4 * a1)))) + 1)), m (m a0 14) (s32 ((s32 (216 + (s32 (4 * a1)))) + 2)), s32 ((m (m a0 14) (s32 (216 + (s32 (4 * a1))))) - 50), f236 m a0 a2] [] m o := h
                            have h := CR_aload_n h rfl
                            have h : MR X ρ 8 0 0 qP202 N 359 [a0, a1, a2, s32 (216 + (s32 (4 * a1))), m (m a0 14) (s32 ((s32 (216 + (s32 (4 * a1)))) + 1)), m (m a0 14) (s32 ((s32 (216 + (s32 (4 * a1)))) + 2)), s32 ((m (m a0 14) (s32 (216 + (s32 (4 * a1))))) - 50), f236 m a0 a2] [(1, a0)] m o := h
                            have h := CR_getf h rfl (by decide)
                            have h : MR X ρ 8 0 0 qP202 N 362 [a0, a1, a2, s32 (216 + (s32 (4 * a1))), m (m a0 14) (s32 ((s32 (216 + (s32 (4 * a1)))) + 1)), m (m a0 14) (s32 ((s32 (216 + (s32 (4 * a1)))) + 2)), s32 ((m (m a0 14) (s32 (216 + (s32 (4 * a1))))) - 50), f236 m a0 a2] [(1, m a0 14)] m o := h
                            have h := CR_iload_n h rfl
                            have h : MR X ρ 8 0 0 qP202 N 363 [a0, a1, a2, s32 (216 + (s32 (4 * a1))), m (m a0 14) (s32 ((s32 (216 + (s32 (4 * a1)))) + 1)), m (m a0 14) (s32 ((s32 (216 + (s32 (4 * a1)))) + 2)), s32 ((m (m a0 14) (s32 (216 + (s32 (4 * a1))))) - 50), f236 m a0 a2] [(1, s32 (216 + (s32 (4 * a1)))), (1, m a0 14)] m o := h
                            have h := CR_iconst h rfl rfl
                            have h : MR X ρ 8 0 0 qP202 N 364 [a0, a1, a2, s32 (216 + (s32 (4 * a1))), m (m a0 14) (s32 ((s32 (216 + (s32 (4 * a1)))) + 1)), m (m a0 14) (s32 ((s32 (216 + (s32 (4 * a1)))) + 2)), s32 ((m (m a0 14) (s32 (216 + (s32 (4 * a1))))) - 50), f236 m a0 a2] [(1, 3), (1, s32 (216 + (s32 (4 * a1)))), (1, m a0 14)] m o := h
                            have h := CR_iadd h rfl
                            have h : MR X ρ 8 0 0 qP202 N 365 [a0, a1, a2, s32 (216 + (s32 (4 * a1))), m (m a0 14) (s32 ((s32 (216 + (s32 (4 * a1)))) + 1)), m (m a0 14) (s32 ((s32 (216 + (s32 (4 * a1)))) + 2)), s32 ((m (m a0 14) (s32 (216 + (s32 (4 * a1))))) - 50), f236 m a0 a2] [(1, s32 ((s32 (216 + (s32 (4 * a1)))) + 3)), (1, m a0 14)] m o := h
                            have h := CR_iaload h rfl rfl
                            have h : MR X ρ 8 0 0 qP202 N 366 [a0, a1, a2, s32 (216 + (s32 (4 * a1))), m (m a0 14) (s32 ((s32 (216 + (s32 (4 * a1)))) + 1)), m (m a0 14) (s32 ((s32 (216 + (s32 (4 * a1)))) + 2)), s32 ((m (m a0 14) (s32 (216 + (s32 (4 * a1))))) - 50), f236 m a0 a2] [(1, m (m a0 14) (s32 ((s32 (216 + (s32 (4 * a1)))) + 3)))] m o := h
                            have h := CR_bipush h rfl rfl
                            have h : MR X ρ 8 0 0 qP202 N 368 [a0, a1, a2, s32 (216 + (s32 (4 * a1))), m (m a0 14) (s32 ((s32 (216 + (s32 (4 * a1)))) + 1)), m (m a0 14) (s32 ((s32 (216 + (s32 (4 * a1)))) + 2)), s32 ((m (m a0 14) (s32 (216 + (s32 (4 * a1))))) - 50), f236 m a0 a2] [(1, 61), (1, m (m a0 14) (s32 ((s32 (216 + (s32 (4 * a1)))) + 3)))] m o := h
                            rcases MR_icmp h rfl rfl with ⟨c78, h⟩ | ⟨c78, h⟩
                            ·
                              have c78 : ¬ ((m (m a0 14) (s32 ((s32 (216 + (s32 (4 * a1)))) + 3))) = 61) := c78
                              refine Or.inr ⟨c78, ?_⟩
                              have h : MR X ρ 8 0 0 qP202 N 386 [a0, a1, a2, s32 (216 + (s32 (4 * a1))), m (m a0 14) (s32 ((s32 (216 + (s32 (4 * a1)))) + 1)), m (m a0 14) (s32 ((s32 (216 + (s32 (4 * a1)))) + 2)), s32 ((m (m a0 14) (s32 (216 + (s32 (4 * a1))))) - 50), f236 m a0 a2] [] m o := h
                              have h := CR_iload h rfl
                              have h : MR X ρ 8 0 0 qP202 N 388 [a0, a1, a2, s32 (216 + (s32 (4 * a1))), m (m a0 14) (s32 ((s32 (216 + (s32 (4 * a1)))) + 1)), m (m a0 14) (s32 ((s32 (216 + (s32 (4 * a1)))) + 2)), s32 ((m (m a0 14) (s32 (216 + (s32 (4 * a1))))) - 50), f236 m a0 a2] [(1, f236 m a0 a2)] m o := h
                              have h := CR_iload h rfl
                              have h : MR X ρ 8 0 0 qP202 N 390 [a0, a1, a2, s32 (216 + (s32 (4 * a1))), m (m a0 14) (s32 ((s32 (216 + (s32 (4 * a1)))) + 1)), m (m a0 14) (s32 ((s32 (216 + (s32 (4 * a1)))) + 2)), s32 ((m (m a0 14) (s32 (216 + (s32 (4 * a1))))) - 50), f236 m a0 a2] [(1, m (m a0 14) (s32 ((s32 (216 + (s32 (4 * a1)))) + 2))), (1, f236 m a0 a2)] m o := h
                              rcases MR_icmp h rfl rfl with ⟨c79, h⟩ | ⟨c79, h⟩
                              ·
                                have c79 : (f236 m a0 a2) ≤ (m (m a0 14) (s32 ((s32 (216 + (s32 (4 * a1)))) + 2))) := c79
                                refine Or.inl ⟨c79, ?_⟩
                                have h : MR X ρ 8 0 0 qP202 N 397 [a0, a1, a2, s32 (216 + (s32 (4 * a1))), m (m a0 14) (s32 ((s32 (216 + (s32 (4 * a1)))) + 1)), m (m a0 14) (s32 ((s32 (216 + (s32 (4 * a1)))) + 2)), s32 ((m (m a0 14) (s32 (216 + (s32 (4 * a1))))) - 50), f236 m a0 a2] [] m o := h
                                have h := CR_iconst h rfl rfl
                                have h : MR X ρ 8 0 0 qP202 N 398 [a0, a1, a2, s32 (216 + (s32 (4 * a1))), m (m a0 14) (s32 ((s32 (216 + (s32 (4 * a1)))) + 1)), m (m a0 14) (s32 ((s32 (216 + (s32 (4 * a1)))) + 2)), s32 ((m (m a0 14) (s32 (216 + (s32 (4 * a1))))) - 50), f236 m a0 a2] [(1, 0)] m o := h
                                exact CR_end h rfl rfl
                              ·
                                have c79 : ¬ ((f236 m a0 a2) ≤ (m (m a0 14) (s32 ((s32 (216 + (s32 (4 * a1)))) + 2)))) := c79
                                refine Or.inr ⟨c79, ?_⟩
                                have h : MR X ρ 8 0 0 qP202 N 393 [a0, a1, a2, s32 (216 + (s32 (4 * a1))), m (m a0 14) (s32 ((s32 (216 + (s32 (4 * a1)))) + 1)), m (m a0 14) (s32 ((s32 (216 + (s32 (4 * a1)))) + 2)), s32 ((m (m a0 14) (s32 (216 + (s32 (4 * a1))))) - 50), f236 m a0 a2] [] m o := h
                                have h := CR_iconst h rfl rfl
                                have h : MR X ρ 8 0 0 qP202 N 394 [a0, a1, a2, s32 (216 + (s32 (4 * a1))), m (m a0 14) (s32 ((s32 (216 + (s32 (4 * a1)))) + 1)), m (m a0 14) (s32 ((s32 (216 + (s32 (4 * a1)))) + 2)), s32 ((m (m a0 14) (s32 (216 + (s32 (4 * a1))))) - 50), f236 m a0 a2] [(1, 1)] m o := h
                                have h := CR_go h rfl rfl
                                have h : MR X ρ 8 0 0 qP202 N 398 [a0, a1, a2, s32 (216 + (s32 (4 * a1))), m (m a0 14) (s32 ((s32 (216 + (s32 (4 * a1)))) + 1)), m (m a0 14) (s32 ((s32 (216 + (s32 (4 * a1)))) + 2)), s32 ((m (m a0 14) (s32 (216 + (s32 (4 * a1))))) - 50), f236 m a0 a2] [(1, 1)] m o := h
                                exact CR_end h rfl rfl
                            ·
                              have c78 : (m (m a0 14) (s32 ((s32 (216 + (s32 (4 * a1)))) + 3))) = 61 := Decidable.of_not_not (show ¬ ¬ ((m (m a0 14) (s32 ((s32 (216 + (s32 (4 * a1)))) + 3))) = 61) from c78)
                              refine Or.inl ⟨c78, ?_⟩
                              have h : MR X ρ 8 0 0 qP202 N 371 [a0, a1, a2, s32 (216 + (s32 (4 * a1))), m (m a0 14) (s32 ((s32 (216 + (s32 (4 * a1)))) + 1)), m (m a0 14) (s32 ((s32 (216 + (s32 (4 * a1)))) + 2)), s32 ((m (m a0 14) (s32 (216 + (s32 (4 * a1))))) - 50), f236 m a0 a2] [] m o := h
                              have h := CR_iload h rfl
                              have h : MR X ρ 8 0 0 qP202 N 373 [a0, a1, a2, s32 (216 + (s32 (4 * a1))), m (m a0 14) (s32 ((s32 (216 + (s32 (4 * a1)))) + 1)), m (m a0 14) (s32 ((s32 (216 + (s32 (4 * a1)))) + 2)), s32 ((m (m a0 14) (s32 (216 + (s32 (4 * a1))))) - 50), f236 m a0 a2] [(1, f236 m a0 a2)] m o := h
                              have h := CR_iload h rfl
                              have h : MR X ρ 8 0 0 qP202 N 375 [a0, a1, a2, s32 (216 + (s32 (4 * a1))), m (m a0 14) (s32 ((s32 (216 + (s32 (4 * a1)))) + 1)), m (m a0 14) (s32 ((s32 (216 + (s32 (4 * a1)))) + 2)), s32 ((m (m a0 14) (s32 (216 + (s32 (4 * a1))))) - 50), f236 m a0 a2] [(1, m (m a0 14) (s32 ((s32 (216 + (s32 (4 * a1)))) + 2))), (1, f236 m a0 a2)] m o := h
                              rcases MR_icmp h rfl rfl with ⟨c80, h⟩ | ⟨c80, h⟩
                              ·
                                have c80 : ¬ ((f236 m a0 a2) = (m (m a0 14) (s32 ((s32 (216 + (s32 (4 * a1)))) + 2)))) := c80
                                refine Or.inr ⟨c80, ?_⟩
                                have h : MR X ρ 8 0 0 qP202 N 382 [a0, a1, a2, s32 (216 + (s32 (4 * a1))), m (m a0 14) (s32 ((s32 (216 + (s32 (4 * a1)))) + 1)), m (m a0 14) (s32 ((s32 (216 + (s32 (4 * a1)))) + 2)), s32 ((m (m a0 14) (s32 (216 + (s32 (4 * a1))))) - 50), f236 m a0 a2] [] m o := h
                                have h := CR_iconst h rfl rfl
                                have h : MR X ρ 8 0 0 qP202 N 383 [a0, a1, a2, s32 (216 + (s32 (4 * a1))), m (m a0 14) (s32 ((s32 (216 + (s32 (4 * a1)))) + 1)), m (m a0 14) (s32 ((s32 (216 + (s32 (4 * a1)))) + 2)), s32 ((m (m a0 14) (s32 (216 + (s32 (4 * a1))))) - 50), f236 m a0 a2] [(1, 0)] m o := h
                                have h := CR_go h rfl rfl
                                have h : MR X ρ 8 0 0 qP202 N 398 [a0, a1, a2, s32 (216 + (s32 (4 * a1))), m (m a0 14) (s32 ((s32 (216 + (s32 (4 * a1)))) + 1)), m (m a0 14) (s32 ((s32 (216 + (s32 (4 * a1)))) + 2)), s32 ((m (m a0 14) (s32 (216 + (s32 (4 * a1))))) - 50), f236 m a0 a2] [(1, 0)] m o := h
                                exact CR_end h rfl rfl
                              ·
                                have c80 : (f236 m a0 a2) = (m (m a0 14) (s32 ((s32 (216 + (s32 (4 * a1)))) + 2))) := Decidable.of_not_not (show ¬ ¬ ((f236 m a0 a2) = (m (m a0 14) (s32 ((s32 (216 + (s32 (4 * a1)))) + 2)))) from c80)
                                refine Or.inl ⟨c80, ?_⟩
                                have h : MR X ρ 8 0 0 qP202 N 378 [a0, a1, a2, s32 (216 + (s32 (4 * a1))), m (m a0 14) (s32 ((s32 (216 + (s32 (4 * a1)))) + 1)), m (m a0 14) (s32 ((s32 (216 + (s32 (4 * a1)))) + 2)), s32 ((m (m a0 14) (s32 (216 + (s32 (4 * a1))))) - 50), f236 m a0 a2] [] m o := h
                                have h := CR_iconst h rfl rfl
                                have h : MR X ρ 8 0 0 qP202 N 379 [a0, a1, a2, s32 (216 + (s32 (4 * a1))), m (m a0 14) (s32 ((s32 (216 + (s32 (4 * a1)))) + 1)), m (m a0 14) (s32 ((s32 (216 + (s32 (4 * a1)))) + 2)), s32 ((m (m a0 14) (s32 (216 + (s32 (4 * a1))))) - 50), f236 m a0 a2] [(1, 1)] m o := h
                                have h := CR_go h rfl rfl
                                have h : MR X ρ 8 0 0 qP202 N 398 [a0, a1, a2, s32 (216 + (s32 (4 * a1))), m (m a0 14) (s32 ((s32 (216 + (s32 (4 * a1)))) + 1)), m (m a0 14) (s32 ((s32 (216 + (s32 (4 * a1)))) + 2)), s32 ((m (m a0 14) (s32 (216 + (s32 (4 * a1))))) - 50), f236 m a0 a2] [(1, 1)] m o := h
                                exact CR_end h rfl rfl
                          ·
                            have c77 : (m (m a0 14) (s32 ((s32 (216 + (s32 (4 * a1)))) + 3))) = 60 := Decidable.of_not_not (show ¬ ¬ ((m (m a0 14) (s32 ((s32 (216 + (s32 (4 * a1)))) + 3))) = 60) from c77)
                            refine Or.inl ⟨c77, ?_⟩
                            have h : MR X ρ 8 0 0 qP202 N 343 [a0, a1, a2, s32 (216 + (s32 (4 * a1))), m (m a0 14) (s32 ((s32 (216 + (s32 (4 * a1)))) + 1)), m (m a0 14) (s32 ((s32 (216 + (s32 (4 * a1)))) + 2)), s32 ((m (m a0 14) (s32 (216 + (s32 (4 * a1))))) - 50), f236 m a0 a2] [] m o := h
                            have h := CR_iload h rfl
                            have h : MR X ρ 8 0 0 qP202 N 345 [a0, a1, a2, s32 (216 + (s32 (4 * a1))), m (m a0 14) (s32 ((s32 (216 + (s32 (4 * a1)))) + 1)), m (m a0 14) (s32 ((s32 (216 + (s32 (4 * a1)))) + 2)), s32 ((m (m a0 14) (s32 (216 + (s32 (4 * a1))))) - 50), f236 m a0 a2] [(1, f236 m a0 a2)] m o := h
                            have h := CR_iload h rfl
                            have h : MR X ρ 8 0 0 qP202 N 347 [a0, a1, a2, s32 (216 + (s32 (4 * a1))), m (m a0 14) (s32 ((s32 (216 + (s32 (4 * a1)))) + 1)), m (m a0 14) (s32 ((s32 (216 + (s32 (4 * a1)))) + 2)), s32 ((m (m a0 14) (s32 (216 + (s32 (4 * a1))))) - 50), f236 m a0 a2] [(1, m (m a0 14) (s32 ((s32 (216 + (s32 (4 * a1)))) + 2))), (1, f236 m a0 a2)] m o := h
                            rcases MR_icmp h rfl rfl with ⟨c81, h⟩ | ⟨c81, h⟩
                            ·
                              have c81 : (m (m a0 14) (s32 ((s32 (216 + (s32 (4 * a1)))) + 2))) ≤ (f236 m a0 a2) := c81
                              refine Or.inl ⟨c81, ?_⟩
                              have h : MR X ρ 8 0 0 qP202 N 354 [a0, a1, a2, s32 (216 + (s32 (4 * a1))), m (m a0 14) (s32 ((s32 (216 + (s32 (4 * a1)))) + 1)), m (m a0 14) (s32 ((s32 (216 + (s32 (4 * a1)))) + 2)), s32 ((m (m a0 14) (s32 (216 + (s32 (4 * a1))))) - 50), f236 m a0 a2] [] m o := h
                              have h := CR_iconst h rfl rfl
                              have h : MR X ρ 8 0 0 qP202 N 355 [a0, a1, a2, s32 (216 + (s32 (4 * a1))), m (m a0 14) (s32 ((s32 (216 + (s32 (4 * a1)))) + 1)), m (m a0 14) (s32 ((s32 (216 + (s32 (4 * a1)))) + 2)), s32 ((m (m a0 14) (s32 (216 + (s32 (4 * a1))))) - 50), f236 m a0 a2] [(1, 0)] m o := h
                              have h := CR_go h rfl rfl
                              have h : MR X ρ 8 0 0 qP202 N 398 [a0, a1, a2, s32 (216 + (s32 (4 * a1))), m (m a0 14) (s32 ((s32 (216 + (s32 (4 * a1)))) + 1)), m (m a0 14) (s32 ((s32 (216 + (s32 (4 * a1)))) + 2)), s32 ((m (m a0 14) (s32 (216 + (s32 (4 * a1))))) - 50), f236 m a0 a2] [(1, 0)] m o := h
                              exact CR_end h rfl rfl
                            ·
                              have c81 : ¬ ((m (m a0 14) (s32 ((s32 (216 + (s32 (4 * a1)))) + 2))) ≤ (f236 m a0 a2)) := c81
                              refine Or.inr ⟨c81, ?_⟩
                              have h : MR X ρ 8 0 0 qP202 N 350 [a0, a1, a2, s32 (216 + (s32 (4 * a1))), m (m a0 14) (s32 ((s32 (216 + (s32 (4 * a1)))) + 1)), m (m a0 14) (s32 ((s32 (216 + (s32 (4 * a1)))) + 2)), s32 ((m (m a0 14) (s32 (216 + (s32 (4 * a1))))) - 50), f236 m a0 a2] [] m o := h
                              have h := CR_iconst h rfl rfl
                              have h : MR X ρ 8 0 0 qP202 N 351 [a0, a1, a2, s32 (216 + (s32 (4 * a1))), m (m a0 14) (s32 ((s32 (216 + (s32 (4 * a1)))) + 1)), m (m a0 14) (s32 ((s32 (216 + (s32 (4 * a1)))) + 2)), s32 ((m (m a0 14) (s32 (216 + (s32 (4 * a1))))) - 50), f236 m a0 a2] [(1, 1)] m o := h
                              have h := CR_go h rfl rfl
                              have h : MR X ρ 8 0 0 qP202 N 398 [a0, a1, a2, s32 (216 + (s32 (4 * a1))), m (m a0 14) (s32 ((s32 (216 + (s32 (4 * a1)))) + 1)), m (m a0 14) (s32 ((s32 (216 + (s32 (4 * a1)))) + 2)), s32 ((m (m a0 14) (s32 (216 + (s32 (4 * a1))))) - 50), f236 m a0 a2] [(1, 1)] m o := h
                              exact CR_end h rfl rfl
set_option maxRecDepth 16384 in
theorem s267_0 {X : KO} {ρ : Nat → Int32} {m : MM} {N : Nat} {o : Instr × List (Nat × Int) × MM} {a0 a1 : Int} (h : MR X ρ 4 0 0 qP267 N 0 [a0, a1, 0, 0] [] m o) : (∃ y1, y1 = mu m a0 0 0 ∧ ((((y1 (y1 a0 14) 214) = 0) ∧ (o = (.ireturn, [(1, -1)], y1))) ∨ (¬ ((y1 (y1 a0 14) 214) = 0) ∧ (MR X ρ 4 0 0 qP267 N 22 [a0, a1, 0, 0] [] y1 o)))) := by
  have h := CR_aload_n h rfl
  have h : MR X ρ 4 0 0 qP267 N 1 [a0, a1, 0, 0] [(1, a0)] m o := h
  have h := CR_iconst h rfl rfl
  have h : MR X ρ 4 0 0 qP267 N 2 [a0, a1, 0, 0] [(1, 0), (1, a0)] m o := h
  have h := CR_putf h rfl
  have h : MR X ρ 4 0 0 qP267 N 5 [a0, a1, 0, 0] [] (mu m a0 0 0) o := h
  obtain ⟨y1, zy1, h⟩ : ∃ y, y = mu m a0 0 0 ∧ MR X ρ 4 0 0 qP267 N 5 [a0, a1, 0, 0] [] y o := ⟨_, rfl, h⟩
  have h : MR X ρ 4 0 0 qP267 N 5 [a0, a1, 0, 0] [] y1 o := h
  refine ⟨y1, zy1, ?_⟩
  have h := CR_aload_n h rfl
  have h : MR X ρ 4 0 0 qP267 N 6 [a0, a1, 0, 0] [(1, a0)] y1 o := h
  have h := CR_getf h rfl (by decide)
  have h : MR X ρ 4 0 0 qP267 N 9 [a0, a1, 0, 0] [(1, y1 a0 14)] y1 o := h
  have h := CR_sipush h rfl rfl
  have h : MR X ρ 4 0 0 qP267 N 12 [a0, a1, 0, 0] [(1, 214), (1, y1 a0 14)] y1 o := h
  have h := CR_iaload h rfl rfl
  have h : MR X ρ 4 0 0 qP267 N 13 [a0, a1, 0, 0] [(1, y1 (y1 a0 14) 214)] y1 o := h
  rcases MR_if h rfl rfl with ⟨c2, h⟩ | ⟨c2, h⟩
  ·
    have c2 : ¬ ((y1 (y1 a0 14) 214) = 0) := c2
    refine Or.inr ⟨c2, ?_⟩
    have h : MR X ρ 4 0 0 qP267 N 18 [a0, a1, 0, 0] [] y1 o := h
    have h := CR_iconst h rfl rfl
    have h : MR X ρ 4 0 0 qP267 N 19 [a0, a1, 0, 0] [(1, 0)] y1 o := h
    have h := CR_istore_n h rfl (Nat.le_of_ble_eq_true rfl)
    have h : MR X ρ 4 0 0 qP267 N 20 [a0, a1, 0, 0] [] y1 o := h
    have h := CR_iconst h rfl rfl
    have h : MR X ρ 4 0 0 qP267 N 21 [a0, a1, 0, 0] [(1, 0)] y1 o := h
    have h := CR_istore_n h rfl (Nat.le_of_ble_eq_true rfl)
    have h : MR X ρ 4 0 0 qP267 N 22 [a0, a1, 0, 0] [] y1 o := h
    exact h
  ·
    have c2 : (y1 (y1 a0 14) 214) = 0 := Decidable.of_not_not (show ¬ ¬ ((y1 (y1 a0 14) 214) = 0) from c2)
    refine Or.inl ⟨c2, ?_⟩
    have h : MR X ρ 4 0 0 qP267 N 16 [a0, a1, 0, 0] [] y1 o := h
    have h := CR_iconst h rfl rfl
    have h : MR X ρ 4 0 0 qP267 N 17 [a0, a1, 0, 0] [(1, -1)] y1 o := h
    exact CR_end h rfl rfl
set_option maxRecDepth 16384 in
theorem s267_22 {X : KO} {ρ : Nat → Int32} {m : MM} {N : Nat} {o : Instr × List (Nat × Int) × MM} {b0 b1 b2 b3 : Int} (h : MR X ρ 4 0 0 qP267 N 22 [b0, b1, b2, b3] [] m o) : ((((m (m b0 14) 1) ≤ b3) ∧ (((b1 = (-1)) ∧ (o = (.ireturn, [(1, b2)], m))) ∨ (¬ (b1 = (-1)) ∧ (o = (.ireturn, [(1, -1)], m))))) ∨ (¬ ((m (m b0 14) 1) ≤ b3) ∧ (∃ v6 m4, Run X ρ 202 [(1, b0), (1, m (m b0 14) 215), (1, b3)] m [(1, v6)] m4 ∧ (v6 = 0 ∨ v6 = 1) ∧ (((v6 = 0) ∧ (∃ N10, N = N10 + 1 ∧ MR X ρ 4 0 0 qP267 N10 22 [b0, b1, b2, s32 (b3 + 1)] [] m4 o)) ∨ (¬ (v6 = 0) ∧ (((b2 = b1) ∧ (o = (.ireturn, [(1, b3)], m4))) ∨ (¬ (b2 = b1) ∧ (∃ N9, N = N9 + 1 ∧ MR X ρ 4 0 0 qP267 N9 22 [b0, b1, s32 (b2 + 1), s32 (b3 + 1)] [] m4 o)))))))) := by
  have h := CR_iload_n h rfl
  have h : MR X ρ 4 0 0 qP267 N 23 [b0, b1, b2, b3] [(1, b3)] m o := h
  have h := CR_aload_n h rfl
  have h : MR X ρ 4 0 0 qP267 N 24 [b0, b1, b2, b3] [(1, b0), (1, b3)] m o := h
  have h := CR_getf h rfl (by decide)
  have h : MR X ρ 4 0 0 qP267 N 27 [b0, b1, b2, b3] [(1, m b0 14), (1, b3)] m o := h
  have h := CR_iconst h rfl rfl
  have h : MR X ρ 4 0 0 qP267 N 28 [b0, b1, b2, b3] [(1, 1), (1, m b0 14), (1, b3)] m o := h
  have h := CR_iaload h rfl rfl
  have h : MR X ρ 4 0 0 qP267 N 29 [b0, b1, b2, b3] [(1, m (m b0 14) 1), (1, b3)] m o := h
  rcases MR_icmp h rfl rfl with ⟨c1, h⟩ | ⟨c1, h⟩
  ·
    have c1 : (m (m b0 14) 1) ≤ b3 := c1
    refine Or.inl ⟨c1, ?_⟩
    have h : MR X ρ 4 0 0 qP267 N 67 [b0, b1, b2, b3] [] m o := h
    have h := CR_iload_n h rfl
    have h : MR X ρ 4 0 0 qP267 N 68 [b0, b1, b2, b3] [(1, b1)] m o := h
    have h := CR_iconst h rfl rfl
    have h : MR X ρ 4 0 0 qP267 N 69 [b0, b1, b2, b3] [(1, -1), (1, b1)] m o := h
    rcases MR_icmp h rfl rfl with ⟨c2, h⟩ | ⟨c2, h⟩
    ·
      have c2 : ¬ (b1 = (-1)) := c2
      refine Or.inr ⟨c2, ?_⟩
      have h : MR X ρ 4 0 0 qP267 N 76 [b0, b1, b2, b3] [] m o := h
      have h := CR_iconst h rfl rfl
      have h : MR X ρ 4 0 0 qP267 N 77 [b0, b1, b2, b3] [(1, -1)] m o := h
      exact CR_end h rfl rfl
    ·
      have c2 : b1 = (-1) := Decidable.of_not_not (show ¬ ¬ (b1 = (-1)) from c2)
      refine Or.inl ⟨c2, ?_⟩
      have h : MR X ρ 4 0 0 qP267 N 72 [b0, b1, b2, b3] [] m o := h
      have h := CR_iload_n h rfl
      have h : MR X ρ 4 0 0 qP267 N 73 [b0, b1, b2, b3] [(1, b2)] m o := h
      have h := CR_go h rfl rfl
      have h : MR X ρ 4 0 0 qP267 N 77 [b0, b1, b2, b3] [(1, b2)] m o := h
      exact CR_end h rfl rfl
  ·
    have c1 : ¬ ((m (m b0 14) 1) ≤ b3) := c1
    refine Or.inr ⟨c1, ?_⟩
    have h : MR X ρ 4 0 0 qP267 N 32 [b0, b1, b2, b3] [] m o := h
    have h := CR_aload_n h rfl
    have h : MR X ρ 4 0 0 qP267 N 33 [b0, b1, b2, b3] [(1, b0)] m o := h
    have h := CR_aload_n h rfl
    have h : MR X ρ 4 0 0 qP267 N 34 [b0, b1, b2, b3] [(1, b0), (1, b0)] m o := h
    have h := CR_getf h rfl (by decide)
    have h : MR X ρ 4 0 0 qP267 N 37 [b0, b1, b2, b3] [(1, m b0 14), (1, b0)] m o := h
    have h := CR_sipush h rfl rfl
    have h : MR X ρ 4 0 0 qP267 N 40 [b0, b1, b2, b3] [(1, 215), (1, m b0 14), (1, b0)] m o := h
    have h := CR_iaload h rfl rfl
    have h : MR X ρ 4 0 0 qP267 N 41 [b0, b1, b2, b3] [(1, m (m b0 14) 215), (1, b0)] m o := h
    have h := CR_iload_n h rfl
    have h : MR X ρ 4 0 0 qP267 N 42 [b0, b1, b2, b3] [(1, b3), (1, m (m b0 14) 215), (1, b0)] m o := h
    obtain ⟨r3, m4, q5, h⟩ := MR_invV h rfl rfl
    have q5 : Run X ρ 202 [(1, b0), (1, m (m b0 14) 215), (1, b3)] m r3 m4 := q5
    obtain ⟨v6, rfl, zv6⟩ := Run_z q5 rfl
    have h : MR X ρ 4 0 0 qP267 N 45 [b0, b1, b2, b3] [(1, v6)] m4 o := h
    refine ⟨v6, m4, q5, zv6, ?_⟩
    rcases MR_if h rfl rfl with ⟨c7, h⟩ | ⟨c7, h⟩
    ·
      have c7 : ¬ (v6 = 0) := c7
      refine Or.inr ⟨c7, ?_⟩
      have h : MR X ρ 4 0 0 qP267 N 51 [b0, b1, b2, b3] [] m4 o := h
      have h := CR_iload_n h rfl
      have h : MR X ρ 4 0 0 qP267 N 52 [b0, b1, b2, b3] [(1, b2)] m4 o := h
      have h := CR_iload_n h rfl
      have h : MR X ρ 4 0 0 qP267 N 53 [b0, b1, b2, b3] [(1, b1), (1, b2)] m4 o := h
      rcases MR_icmp h rfl rfl with ⟨c8, h⟩ | ⟨c8, h⟩
      ·
        have c8 : ¬ (b2 = b1) := c8
        refine Or.inr ⟨c8, ?_⟩
        have h : MR X ρ 4 0 0 qP267 N 58 [b0, b1, b2, b3] [] m4 o := h
        have h := CR_inc h rfl (Nat.le_of_ble_eq_true rfl)
        have h : MR X ρ 4 0 0 qP267 N 61 [b0, b1, s32 (b2 + 1), b3] [] m4 o := h
        have h := CR_inc h rfl (Nat.le_of_ble_eq_true rfl)
        have h : MR X ρ 4 0 0 qP267 N 64 [b0, b1, s32 (b2 + 1), s32 (b3 + 1)] [] m4 o := h
        obtain ⟨N9, eN9, h⟩ := CR_goto h rfl rfl
        have h : MR X ρ 4 0 0 qP267 N9 22 [b0, b1, s32 (b2 + 1), s32 (b3 + 1)] [] m4 o := h
        exact ⟨N9, eN9, h⟩
      ·
        have c8 : b2 = b1 := Decidable.of_not_not (show ¬ ¬ (b2 = b1) from c8)
        refine Or.inl ⟨c8, ?_⟩
        have h : MR X ρ 4 0 0 qP267 N 56 [b0, b1, b2, b3] [] m4 o := h
        have h := CR_iload_n h rfl
        have h : MR X ρ 4 0 0 qP267 N 57 [b0, b1, b2, b3] [(1, b3)] m4 o := h
        exact CR_end h rfl rfl
    ·
      have c7 : v6 = 0 := Decidable.of_not_not (show ¬ ¬ (v6 = 0) from c7)
      refine Or.inl ⟨c7, ?_⟩
      have h : MR X ρ 4 0 0 qP267 N 48 [b0, b1, b2, b3] [] m4 o := h
      have h := CR_go h rfl rfl
      have h : MR X ρ 4 0 0 qP267 N 61 [b0, b1, b2, b3] [] m4 o := h
      have h := CR_inc h rfl (Nat.le_of_ble_eq_true rfl)
      have h : MR X ρ 4 0 0 qP267 N 64 [b0, b1, b2, s32 (b3 + 1)] [] m4 o := h
      obtain ⟨N10, eN10, h⟩ := CR_goto h rfl rfl
      have h : MR X ρ 4 0 0 qP267 N10 22 [b0, b1, b2, s32 (b3 + 1)] [] m4 o := h
      exact ⟨N10, eN10, h⟩
