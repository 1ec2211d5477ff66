section
/-! A sentence read, on both sides. -/
set_option maxRecDepth 16384 in
def RO97 (X : KO) (ρ : Nat → Int32) (s w : Int) (m : MM) (o : Instr × List (Nat × Int) × MM) : Prop := (((20 ≤ (m s 5)) ∧ (∃ z0, z0 = g158 m 1 4 ∧ (o = (.ireturn, [(1, f158 m 1 4)], z0)))) ∨ (¬ (20 ≤ (m s 5)) ∧ (((w ≤ 8) ∧ (∃ z1, z1 = mu m s 5 (s32 ((m s 5) + 1)) ∧ ((((f152 z1 1 40) = 0) ∧ ((((f155 X z1 1 1000017) = 0) ∧ (∃ z2, Run X ρ 148 [(1, 1)] z1 [] z2 ∧ (((qer X (z1 1 8) 1000019) ∧ (∃ z3 z4, Run X ρ 99 [(1, s), (1, 1), (1, 3), (1, z1 1 8)] z2 [(1, z3)] z4 ∧ (z3 = 0 ∨ z3 = 1) ∧ (o = (.ireturn, [(1, z3)], z4)))) ∨ (¬ (qer X (z1 1 8) 1000019) ∧ (((qer X (z1 1 8) 1000020) ∧ (∃ z5 z6, Run X ρ 99 [(1, s), (1, 1), (1, 3), (1, z1 1 8)] z2 [(1, z5)] z6 ∧ (z5 = 0 ∨ z5 = 1) ∧ (o = (.ireturn, [(1, z5)], z6)))) ∨ (¬ (qer X (z1 1 8) 1000020) ∧ (((qer X (z1 1 8) 1000021) ∧ (∃ z7 z8, Run X ρ 99 [(1, s), (1, 1), (1, 3), (1, z1 1 8)] z2 [(1, z7)] z8 ∧ (z7 = 0 ∨ z7 = 1) ∧ (o = (.ireturn, [(1, z7)], z8)))) ∨ (¬ (qer X (z1 1 8) 1000021) ∧ (((qer X (z1 1 8) 1000022) ∧ (∃ z9 z10, Run X ρ 96 [(1, s), (1, 1), (1, z1 1 8)] z2 [(1, z9)] z10 ∧ (z9 = 0 ∨ z9 = 1) ∧ (o = (.ireturn, [(1, z9)], z10)))) ∨ (¬ (qer X (z1 1 8) 1000022) ∧ (((qer X (z1 1 8) 1000023) ∧ (∃ z11 z12, Run X ρ 96 [(1, s), (1, 1), (1, z1 1 8)] z2 [(1, z11)] z12 ∧ (z11 = 0 ∨ z11 = 1) ∧ (o = (.ireturn, [(1, z11)], z12)))) ∨ (¬ (qer X (z1 1 8) 1000023) ∧ (((qer X (z1 1 8) 1000024) ∧ (∃ z13 z14, Run X ρ 96 [(1, s), (1, 1), (1, z1 1 8)] z2 [(1, z13)] z14 ∧ (z13 = 0 ∨ z13 = 1) ∧ (o = (.ireturn, [(1, z13)], z14)))) ∨ (¬ (qer X (z1 1 8) 1000024) ∧ (((qer X (z1 1 8) 1000018) ∧ (∃ z15, z15 = g101 z2 s 4 0 0 ∧ (o = (.ireturn, [(1, f101 z2 s 4 0 0)], z15)))) ∨ (¬ (qer X (z1 1 8) 1000018) ∧ (∃ z16, z16 = g101 z2 s 3 (f92 X z2 (z1 1 8)) 0 ∧ (o = (.ireturn, [(1, f101 z2 s 3 (f92 X z2 (z1 1 8)) 0)], z16))))))))))))))))))) ∨ (¬ ((f155 X z1 1 1000017) = 0) ∧ (∃ z17 z18, Run X ρ 98 [(1, s), (1, 1), (1, 3), (1, w)] z1 [(1, z17)] z18 ∧ (z17 = 0 ∨ z17 = 1) ∧ (o = (.ireturn, [(1, z17)], z18)))))) ∨ (¬ ((f152 z1 1 40) = 0) ∧ (∃ z19 z20, Run X ρ 98 [(1, s), (1, 1), (1, 3), (1, w)] z1 [(1, z19)] z20 ∧ (z19 = 0 ∨ z19 = 1) ∧ (o = (.ireturn, [(1, z19)], z20))))))) ∨ (¬ (w ≤ 8) ∧ (∃ z21, z21 = g158 m 1 4 ∧ (o = (.ireturn, [(1, f158 m 1 4)], z21)))))))
set_option maxRecDepth 16384 in
def RO261 (X : KO) (ρ : Nat → Int32) (W : Int) (m : MM) (o : Instr × List (Nat × Int) × MM) : Prop := ((((m 148 42) = 20) ∧ (∃ z0, z0 = g168 m 148 4 ∧ (o = (.ireturn, [(1, f168 m 148 4)], z0)))) ∨ (¬ ((m 148 42) = 20) ∧ ((((m 148 43) = 8) ∧ (∃ z1, z1 = g168 m 148 4 ∧ (o = (.ireturn, [(1, f168 m 148 4)], z1)))) ∨ (¬ ((m 148 43) = 8) ∧ (∃ z2, z2 = mu m 148 42 (s32 ((m 148 42) + 1)) ∧ (∃ z3, z3 = mu z2 148 43 (s32 ((z2 148 43) + 1)) ∧ (∃ z4, Run X ρ 195 [(1, 148)] z3 [] z4 ∧ ((((f215 m 148 40) = 0) ∧ ((((W) = 18) ∧ (∃ z5 z6, Run X ρ 253 [(1, 148)] z4 [(1, z5)] z6 ∧ (z5 = 0 ∨ z5 = 1) ∧ (∃ z7, z7 = mu z6 148 43 (s32 ((z6 148 43) - 1)) ∧ (o = (.ireturn, [(1, z5)], z7))))) ∨ (¬ ((W) = 18) ∧ (((24 ≤ (W)) ∧ (((27 ≤ (W)) ∧ (∃ z8 z9, Run X ρ 243 [(1, 148), (1, W)] z4 [(1, z8)] z9 ∧ (z8 = 0 ∨ z8 = 1) ∧ (∃ z10, z10 = mu z9 148 43 (s32 ((z9 148 43) - 1)) ∧ (o = (.ireturn, [(1, z8)], z10))))) ∨ (¬ (27 ≤ (W)) ∧ (∃ z11 z12, Run X ρ 255 [(1, 148), (1, W)] z4 [(1, z11)] z12 ∧ (z11 = 0 ∨ z11 = 1) ∧ (∃ z13, z13 = mu z12 148 43 (s32 ((z12 148 43) - 1)) ∧ (o = (.ireturn, [(1, z11)], z13))))))) ∨ (¬ (24 ≤ (W)) ∧ (∃ z14, z14 = g268 z4 148 (s32 (50 + (W))) 0 0 0 ∧ (∃ z15, z15 = mu z14 148 44 (f268 z4 148 (s32 (50 + (W))) 0 0 0) ∧ (∃ z16, z16 = mu z15 148 43 (s32 ((z15 148 43) - 1)) ∧ (o = (.ireturn, [(1, 1)], z16)))))))))) ∨ (¬ ((f215 m 148 40) = 0) ∧ (∃ z17 z18, Run X ρ 242 [(1, 148)] z4 [(1, z17)] z18 ∧ (z17 = 0 ∨ z17 = 1) ∧ (∃ z19, z19 = mu z18 148 43 (s32 ((z18 148 43) - 1)) ∧ (o = (.ireturn, [(1, z17)], z19)))))))))))))
set_option maxRecDepth 16384 in
theorem qer_n (X : KO) {c : Int} (h : c ≠ -1) : ¬ qer X (-1) c := fun q => by
  rcases q with q | ⟨q, -, -⟩
  · exact h q.symm
  · exact absurd q (by decide)
set_option maxRecDepth 16384 in
theorem f86_n (X : KO) (m : MM) : f86 X m (-1) = 0 := by
  unfold f86 f92
  rw [if_neg (qer_n X (by decide)), if_neg (qer_n X (by decide)), if_neg (qer_n X (by decide)), if_neg (qer_n X (by decide)), if_neg (qer_n X (by decide)), if_neg (qer_n X (by decide)), if_pos rfl, if_neg (qer_n X (by decide)), if_neg (qer_n X (by decide)), if_neg (qer_n X (by decide)), if_neg (qer_n X (by decide)), if_neg (qer_n X (by decide)), if_neg (qer_n X (by decide))]
set_option maxRecDepth 16384 in
theorem h97 {X : KO} {ρ : Nat → Int32} {m : MM} {N : Nat} {o : Instr × List (Nat × Int) × MM} {s w : Int} (h : MR X ρ 5 0 0 qP97 N 0 [s, 1, 3, w, 0] [] m o) : (f152 m 1 40 = 0 ∧ (m 1 4 = 1 → f86 X m (m 1 8) = 0) ∧ o = (.ireturn, [(1, 0)], g158 m 1 1)) ∨ ((¬ f152 m 1 40 = 0 ∨ (m 1 4 = 1 ∧ ¬ f86 X m (m 1 8) = 0)) ∧ RO97 X ρ s w m o) := by
  rcases s97_0 h with ⟨c, h⟩ | ⟨c, h⟩
  · rcases h with ⟨k, h⟩ | ⟨k, h⟩
    · rcases h with ⟨f, y, e, h⟩ | ⟨f, h⟩
      · exact Or.inl ⟨c, fun _ => f, by rw [h, e]; rfl⟩
      · exact Or.inr ⟨Or.inr ⟨k, f⟩, h⟩
    · rcases h with ⟨f, y, e, h⟩ | ⟨f, h⟩
      · exact Or.inl ⟨c, fun z => absurd z k, by rw [h, e]; rfl⟩
      · exact absurd (f86_n X m) f
  · exact Or.inr ⟨Or.inl c, h⟩
set_option maxRecDepth 16384 in
theorem h261 {X : KO} {ρ : Nat → Int32} {m : MM} {N : Nat} {o : Instr × List (Nat × Int) × MM} (h : MR X ρ 4 0 0 qP261 N 0 [148, 0, 0, 0] [] m o) : (f215 m 148 40 = 0 ∧ ¬ (L261_10 m 148 (f215 m 148 40) 18 0).2.2 ≤ 29 ∧ o = (.ireturn, [(1, 0)], g168 m 148 1)) ∨ ((¬ f215 m 148 40 = 0 ∨ (L261_10 m 148 (f215 m 148 40) 18 0).2.2 ≤ 29) ∧ RO261 X ρ (L261_10 m 148 (f215 m 148 40) 18 0).2.2 m o) := by
  rcases s261_0 h with ⟨c, h⟩ | ⟨c, h⟩
  · rcases h with ⟨k, h⟩ | ⟨k, y, e, h⟩
    · exact Or.inr ⟨Or.inr k, h⟩
    · refine Or.inl ⟨c, k, ?_⟩
      rw [h, e, f168_0]
  · exact Or.inr ⟨Or.inl c, h⟩
end
section
set_option maxRecDepth 16384 in
theorem L261_c (b : MM) (q : Int) : (18 ≤ (L261_10 b 148 q 18 0).2.2 ∧ (L261_10 b 148 q 18 0).2.2 ≤ 29 ∧ f217 b 148 (L261_10 b 148 q 18 0).2.2 ≠ 0) ∨ ((L261_10 b 148 q 18 0).2.2 = 30 ∧ ∀ i, 18 ≤ i → i ≤ 29 → f217 b 148 i = 0) := by
  unfold L261_10
  refine Lp_ind (f := K261_10 b 148 q 18 0) (P := fun t => 18 ≤ t ∧ t ≤ 30 ∧ ∀ i, 18 ≤ i → i < t → f217 b 148 i = 0) (Q := fun z => (18 ≤ z.2.2 ∧ z.2.2 ≤ 29 ∧ f217 b 148 z.2.2 ≠ 0) ∨ (z.2.2 = 30 ∧ ∀ i, 18 ≤ i → i ≤ 29 → f217 b 148 i = 0)) (fun t => (30 - t).toNat) ?_ 18 ⟨by decide, by decide, fun i i0 i1 => by omega⟩
  intro t ⟨c1, c2, c3⟩
  have e : K261_10 b 148 q 18 0 t = S261_10 b 148 q t 0 := rfl
  rw [e]
  unfold S261_10
  by_cases c : 29 < t
  · rw [if_pos c]
    exact Or.inr ⟨_, rfl, Or.inr ⟨by dsimp only; omega, fun i i0 i1 => c3 i i0 (by omega)⟩⟩
  · rw [if_neg c]
    by_cases d : f217 b 148 t = 0
    · rw [if_pos d, s32_id (z := t + 1) (by omega) (by omega)]
      exact Or.inl ⟨_, rfl, ⟨by omega, by omega, fun i i0 i1 => by
        by_cases z : i = t
        · rw [z]; exact d
        · exact c3 i i0 (by omega)⟩, by omega⟩
    · rw [if_neg d]
      exact Or.inr ⟨_, rfl, Or.inl ⟨c1, by dsimp only; omega, d⟩⟩
set_option maxRecDepth 16384 in
theorem wq {X : KO} (hS : XS X) {a b : MM} (h : TKR X a b) (k1 : a 1 4 = 1) {s : Nat} (hs : s < 30) : qer X (a 1 8) ((1000001 + s : Nat) : Int) ↔ ¬ f217 b 148 ((swl.getD s 0 : Nat) : Int) = 0 := by
  have e := word_ok hS h hs
  unfold f155 at e
  rw [if_pos k1] at e
  by_cases c : qer X (a 1 8) ((1000001 + s : Nat) : Int)
  · rw [if_pos c] at e
    rw [← e]
    exact ⟨fun _ => by decide, fun _ => c⟩
  · rw [if_neg c] at e
    rw [← e]
    exact ⟨fun z => absurd z c, fun z => absurd rfl z⟩
set_option maxRecDepth 16384 in
/-- the words that begin a ONE, on both sides -/
def WQ (X : KO) (a b : MM) : Prop := (qer X (a 1 8) 1000017 ↔ ¬ f217 b 148 18 = 0) ∧ (qer X (a 1 8) 1000018 ↔ ¬ f217 b 148 23 = 0) ∧ (qer X (a 1 8) 1000019 ↔ ¬ f217 b 148 24 = 0) ∧ (qer X (a 1 8) 1000020 ↔ ¬ f217 b 148 25 = 0) ∧ (qer X (a 1 8) 1000021 ↔ ¬ f217 b 148 26 = 0) ∧ (qer X (a 1 8) 1000022 ↔ ¬ f217 b 148 27 = 0) ∧ (qer X (a 1 8) 1000023 ↔ ¬ f217 b 148 28 = 0) ∧ (qer X (a 1 8) 1000024 ↔ ¬ f217 b 148 29 = 0) ∧ (qer X (a 1 8) 1000025 ↔ ¬ f217 b 148 19 = 0) ∧ (qer X (a 1 8) 1000026 ↔ ¬ f217 b 148 20 = 0) ∧ (qer X (a 1 8) 1000027 ↔ ¬ f217 b 148 21 = 0) ∧ (qer X (a 1 8) 1000028 ↔ ¬ f217 b 148 22 = 0)
set_option maxRecDepth 16384 in
theorem WQ_ok {X : KO} (hS : XS X) {a b : MM} (h : TKR X a b) (k1 : a 1 4 = 1) : WQ X a b :=
  ⟨wq hS h k1 (s := 16) (by decide), wq hS h k1 (s := 17) (by decide), wq hS h k1 (s := 18) (by decide), wq hS h k1 (s := 19) (by decide), wq hS h k1 (s := 20) (by decide), wq hS h k1 (s := 21) (by decide), wq hS h k1 (s := 22) (by decide), wq hS h k1 (s := 23) (by decide), wq hS h k1 (s := 24) (by decide), wq hS h k1 (s := 25) (by decide), wq hS h k1 (s := 26) (by decide), wq hS h k1 (s := 27) (by decide)⟩
set_option maxRecDepth 16384 in
theorem f86_w {X : KO} {a b : MM} (h : WQ X a b) : (f86 X a (a 1 8) = 0 → ∀ i, 18 ≤ i → i ≤ 29 → f217 b 148 i = 0) ∧ (¬ f86 X a (a 1 8) = 0 → ∃ i, 18 ≤ i ∧ i ≤ 29 ∧ ¬ f217 b 148 i = 0) := by
  obtain ⟨h1, h2, h3, h4, h5, h6, h7, h8, h9, h10, h11, h12⟩ := h
  unfold f86 f92
  by_cases c1 : qer X (a 1 8) 1000017
  · rw [if_pos c1]; exact ⟨fun z => absurd z (by decide), fun _ => ⟨18, by decide, by decide, h1.mp c1⟩⟩
  rw [if_neg c1]
  by_cases c2 : qer X (a 1 8) 1000018
  · rw [if_pos c2]; exact ⟨fun z => absurd z (by decide), fun _ => ⟨23, by decide, by decide, h2.mp c2⟩⟩
  rw [if_neg c2]
  by_cases c9 : qer X (a 1 8) 1000025
  · rw [if_pos c9, if_neg (show ¬ (0 : Int) = -1 by decide)]; exact ⟨fun z => absurd z (by decide), fun _ => ⟨19, by decide, by decide, h9.mp c9⟩⟩
  rw [if_neg c9]
  by_cases c10 : qer X (a 1 8) 1000026
  · rw [if_pos c10, if_neg (show ¬ (1 : Int) = -1 by decide)]; exact ⟨fun z => absurd z (by decide), fun _ => ⟨20, by decide, by decide, h10.mp c10⟩⟩
  rw [if_neg c10]
  by_cases c11 : qer X (a 1 8) 1000027
  · rw [if_pos c11, if_neg (show ¬ (2 : Int) = -1 by decide)]; exact ⟨fun z => absurd z (by decide), fun _ => ⟨21, by decide, by decide, h11.mp c11⟩⟩
  rw [if_neg c11]
  by_cases c12 : qer X (a 1 8) 1000028
  · rw [if_pos c12, if_neg (show ¬ (3 : Int) = -1 by decide)]; exact ⟨fun z => absurd z (by decide), fun _ => ⟨22, by decide, by decide, h12.mp c12⟩⟩
  rw [if_neg c12, if_pos rfl]
  by_cases c3 : qer X (a 1 8) 1000019
  · rw [if_pos c3]; exact ⟨fun z => absurd z (by decide), fun _ => ⟨24, by decide, by decide, h3.mp c3⟩⟩
  rw [if_neg c3]
  by_cases c4 : qer X (a 1 8) 1000020
  · rw [if_pos c4]; exact ⟨fun z => absurd z (by decide), fun _ => ⟨25, by decide, by decide, h4.mp c4⟩⟩
  rw [if_neg c4]
  by_cases c5 : qer X (a 1 8) 1000021
  · rw [if_pos c5]; exact ⟨fun z => absurd z (by decide), fun _ => ⟨26, by decide, by decide, h5.mp c5⟩⟩
  rw [if_neg c5]
  by_cases c6 : qer X (a 1 8) 1000022
  · rw [if_pos c6]; exact ⟨fun z => absurd z (by decide), fun _ => ⟨27, by decide, by decide, h6.mp c6⟩⟩
  rw [if_neg c6]
  by_cases c7 : qer X (a 1 8) 1000023
  · rw [if_pos c7]; exact ⟨fun z => absurd z (by decide), fun _ => ⟨28, by decide, by decide, h7.mp c7⟩⟩
  rw [if_neg c7]
  by_cases c8 : qer X (a 1 8) 1000024
  · rw [if_pos c8]; exact ⟨fun z => absurd z (by decide), fun _ => ⟨29, by decide, by decide, h8.mp c8⟩⟩
  rw [if_neg c8]
  refine ⟨fun _ i i0 i1 => ?_, fun z => absurd rfl z⟩
  have : i = 18 ∨ i = 19 ∨ i = 20 ∨ i = 21 ∨ i = 22 ∨ i = 23 ∨ i = 24 ∨ i = 25 ∨ i = 26 ∨ i = 27 ∨ i = 28 ∨ i = 29 := by omega
  rcases this with rfl | rfl | rfl | rfl | rfl | rfl | rfl | rfl | rfl | rfl | rfl | rfl
  · exact Decidable.of_not_not fun z => c1 (h1.mpr z)
  · exact Decidable.of_not_not fun z => c9 (h9.mpr z)
  · exact Decidable.of_not_not fun z => c10 (h10.mpr z)
  · exact Decidable.of_not_not fun z => c11 (h11.mpr z)
  · exact Decidable.of_not_not fun z => c12 (h12.mpr z)
  · exact Decidable.of_not_not fun z => c2 (h2.mpr z)
  · exact Decidable.of_not_not fun z => c3 (h3.mpr z)
  · exact Decidable.of_not_not fun z => c4 (h4.mpr z)
  · exact Decidable.of_not_not fun z => c5 (h5.mpr z)
  · exact Decidable.of_not_not fun z => c6 (h6.mpr z)
  · exact Decidable.of_not_not fun z => c7 (h7.mpr z)
  · exact Decidable.of_not_not fun z => c8 (h8.mpr z)
set_option maxRecDepth 16384 in
theorem word_1 {b : MM} {i j : Int} (i0 : 0 ≤ i) (i1 : i < 30) (j0 : 0 ≤ j) (j1 : j < 30) (h1 : ¬ f217 b 148 i = 0) (h2 : ¬ f217 b 148 j = 0) : i = j := by
  have h := word_one (b := b) (i := i.toNat) (j := j.toNat) (by omega) (by omega) (by rw [show ((i.toNat : Nat) : Int) = i by omega]; exact h1) (by rw [show ((j.toNat : Nat) : Int) = j by omega]; exact h2)
  omega
set_option maxRecDepth 16384 in
/-- no word where the token is none -/
theorem f217_k {X : KO} {a b : MM} (h : TKR X a b) (k1 : ¬ a 1 4 = 1) (i : Int) : f217 b 148 i = 0 := by
  unfold f217
  rw [if_neg (fun e => by
    rcases h.2.2 with ⟨-, q⟩ | ⟨-, q⟩ | ⟨q, -⟩ | ⟨-, q, -⟩ | ⟨-, q, -⟩
    · omega
    · omega
    · exact k1 q
    · omega
    · omega)]
end
section
set_option maxRecDepth 16384 in
def Sl (s : Int) : Prop := s = 100 ∨ s = 105 ∨ s = 117 ∨ s = 136
set_option maxRecDepth 16384 in
/-- the class's places of a sentence, the reference's -/
def PA0 (s x k : Int) : Prop := (x = s ∧ (k = 4 ∨ k = 5)) ∨ (s < x ∧ x ≤ s + 3 ∧ 0 ≤ k)
set_option maxRecDepth 16384 in
def PB0 (x k : Int) : Prop := (x = 148 ∧ 41 ≤ k ∧ k ≤ 44) ∨ x = 166
set_option maxRecDepth 16384 in
def PA (s x k : Int) : Prop := (x = 1 ∧ 3 ≤ k) ∨ PA0 s x k
set_option maxRecDepth 16384 in
def PB (x k : Int) : Prop := (x = 148 ∧ 5 ≤ k ∧ k ≤ 13) ∨ PB0 x k
set_option maxRecDepth 16384 in
/-- what is so while a sentence is read -/
def SCx (X : KO) (t : Int → Int) (L s : Int) (a b : MM) : Prop := TS X t L 200 a b ∧ C2 a b ∧ (LSe a s ∧ a (s + 1) (-1) = 40) ∧ b 148 40 = 166
set_option maxRecDepth 16384 in
/-- its numbers: ones, steps, how deep within -/
def SNx (s : Int) (a b : MM) (o l w : Int) : Prop := (a s 5 = o ∧ b 148 42 = o ∧ 0 ≤ o ∧ o ≤ 20) ∧ (a s 4 = l ∧ 0 ≤ l ∧ l ≤ 2 * o) ∧ b 148 43 = w - 1 ∧ 1 ≤ w ∧ w ≤ 9
set_option maxRecDepth 16384 in
theorem C2_s {s : Int} (hs : Sl s) {a a' b b' : MM} (h : C2 a b) (fa : Fr (PA s) a a') (fb : Fr PB b b') : C2 a' b' := C2_fr h (fun x k q => fa x k (by unfold PCs at q; unfold Sl at hs; unfold PA PA0; omega)) (fun x k q => fb x k (by unfold PJs at q; unfold PB PB0; omega))
set_option maxRecDepth 16384 in
theorem SC_rest {X : KO} {t : Int → Int} {L s : Int} (hs : Sl s) {a a' b b' : MM} (h : SCx X t L s a b) (fa : Fr (PA s) a a') (fb : Fr PB b b') (hT : TS X t L 200 a' b') : SCx X t L s a' b' := by
  obtain ⟨-, hC, ⟨⟨l0, l1, l2⟩, l3⟩, h40⟩ := h
  unfold Sl at hs
  refine ⟨hT, C2_s hs hC fa fb, ⟨⟨?_, ?_, ?_⟩, ?_⟩, ?_⟩
  · rw [fa _ _ (by unfold PA PA0; omega)]; exact l0
  · rw [fa _ _ (by unfold PA PA0; omega)]; exact l1
  · rw [fa _ _ (by unfold PA PA0; omega)]; exact l2
  · rw [fa _ _ (by unfold PA PA0; omega)]; exact l3
  · rw [fb _ _ (by unfold PB PB0; omega)]; exact h40
set_option maxRecDepth 16384 in
theorem TS_0 {X : KO} {t : Int → Int} {L s : Int} (hs : Sl s) {a a' b b' : MM} (h : TS X t L 200 a b) (fa : Fr (PA0 s) a a') (fb : Fr PB0 b b') : TS X t L 200 a' b' := by
  obtain ⟨⟨p0, p1⟩, h9, h10⟩ := h
  unfold Sl at hs
  refine ⟨⟨PR0_fr p0 fa fb (fun k q => by unfold PA0 at q; omega) (fun k q => by unfold PA0 at q; omega) (fun k _ _ q => by unfold PB0 at q; omega) (fun k q => by unfold PB0 at q; omega), TKR_fr p1 fa fb (fun k q => by unfold PA0 at q; omega) (fun k _ _ q => by unfold PB0 at q; omega)⟩, ?_, ?_⟩
  · rw [fa _ _ (by unfold PA0; omega)]; exact h9
  · rw [fb _ _ (by unfold PB0; omega)]; exact h10
set_option maxRecDepth 16384 in
theorem SC_0 {X : KO} {t : Int → Int} {L s : Int} (hs : Sl s) {a a' b b' : MM} (h : SCx X t L s a b) (fa : Fr (PA0 s) a a') (fb : Fr PB0 b b') : SCx X t L s a' b' := SC_rest hs h (fa.mo fun x k q => Or.inr q) (fb.mo fun x k q => Or.inr q) (TS_0 hs h.1 fa fb)
set_option maxRecDepth 16384 in
/-- one token further -/
theorem SC_go {X : KO} {ρ : Nat → Int32} {t : Int → Int} {L s : Int} (hX : XW X) (hs : Sl s) {a a' b z b' : MM} {rl rl' : List (Nat × Int)} (h : SCx X t L s a b) (fz : Fr (fun x k => x = 148 ∧ k = 13) b z) (ra : Run X ρ 148 [(1, 1)] a rl a') (rb : Run X ρ 195 [(1, 148)] z rl' b') : SCx X t L s a' b' ∧ Fr P148 a a' ∧ Fr P195 z b' ∧ Fr (PA s) a a' ∧ Fr PB b b' := by
  have h' := h
  obtain ⟨⟨⟨p0, p1⟩, h9, h10⟩, -⟩ := h'
  have q0 : PR0 t L 200 a z := PR0_fr p0 (Fr.rf (fun _ _ => False) a) fz (fun _ q => q) (fun _ q => q) (fun k _ _ q => by omega) (fun k q => by omega)
  obtain ⟨hT, f1, f2⟩ := goT hX q0 h9 (by rw [fz 148 10 (by omega)]; exact h10) ra rb
  have fa : Fr (PA s) a a' := f1.mo fun x k q => by unfold P148 at q; unfold PA; omega
  have fb : Fr PB b b' := (fz.mo fun x k q => by unfold PB; omega).tr (f2.mo fun x k q => by unfold P195 at q; unfold PB; omega)
  exact ⟨SC_rest hs h fa fb hT, f1, f2, fa, fb⟩
set_option maxRecDepth 16384 in
/-- the class writes a step -/
theorem g101_c {s : Int} (hs : Sl s) {m : MM} (hl : LSe m s) (h3 : m (s + 1) (-1) = 40) (l0 : 0 ≤ m s 4) (l1 : m s 4 < 40) (k x v : Int) : f101 m s k x v = 1 ∧ Fr (PA0 s) m (g101 m s k x v) ∧ (g101 m s k x v) s 4 = m s 4 + 1 ∧ (g101 m s k x v) s 5 = m s 5 := by
  obtain ⟨e0, e1, e2⟩ := hl
  unfold Sl at hs
  unfold f101 g101
  rw [e0, h3, if_neg (show ¬ s + 1 = 1000050 by omega), s32_id (z := 40) (by decide) (by decide), if_neg (show ¬ m s 4 < 0 by omega), if_neg (show ¬ m s 4 < 0 by omega), if_pos l1, if_pos l1]
  have r1 : ∀ j, (mu m (s + 1) (m s 4) (s32 k)) s j = m s j := fun j => mu_a (by omega)
  rw [r1, r1, e1]
  have r2 : ∀ j, (mu (mu m (s + 1) (m s 4) (s32 k)) (s + 2) (m s 4) (s32 x)) s j = m s j := fun j => (mu_a (by omega)).trans (r1 j)
  rw [r2, r2, e2]
  have r3 : ∀ j, (mu (mu (mu m (s + 1) (m s 4) (s32 k)) (s + 2) (m s 4) (s32 x)) (s + 3) (m s 4) (s32 v)) s j = m s j := fun j => (mu_a (by omega)).trans (r2 j)
  rw [r3, s32_id (z := m s 4 + 1) (by omega) (by omega)]
  refine ⟨rfl, ?_, mu_s _ _ _ _, ?_⟩
  · exact ((((Fr.rf _ _).mu (Or.inr ⟨by omega, by omega, l0⟩)).mu (Or.inr ⟨by omega, by omega, l0⟩)).mu (Or.inr ⟨by omega, by omega, l0⟩)).mu (Or.inl ⟨rfl, Or.inl rfl⟩)
  · rw [mu_k (by decide)]; exact r3 5
set_option maxRecDepth 16384 in
/-- the reference writes a node -/
theorem g268_c {b : MM} (h40 : b 148 40 = 166) (p q r v : Int) : Fr (fun x k => (x = 148 ∧ k = 41) ∨ x = 166) b (g268 b 148 p q r v) := by
  unfold g268
  have r0 : ∀ (y : MM) (j z : Int), y 148 40 = 166 → (mu y 166 j z) 148 40 = 166 := fun y j z h => (mu_a (by decide)).trans h
  rw [h40]
  rw [r0 _ _ _ h40]
  rw [r0 _ _ _ (r0 _ _ _ h40)]
  rw [r0 _ _ _ (r0 _ _ _ (r0 _ _ _ h40))]
  exact (((((Fr.rf _ _).mu (Or.inr rfl)).mu (Or.inr rfl)).mu (Or.inr rfl)).mu (Or.inr rfl)).mu (Or.inl ⟨rfl, rfl⟩)
set_option maxRecDepth 16384 in
/-- what comes of reading a part on both sides -/
def RRs (X : KO) (t : Int → Int) (L s : Int) (a b a' b' : MM) (v v' o l w : Int) : Prop := Fr (PA s) a a' ∧ Fr PB b b' ∧ ((v = 0 ∧ v' = 0 ∧ FL a' b') ∨ (v = 1 ∧ v' = 1 ∧ SCx X t L s a' b' ∧ ∃ o' l', SNx s a' b' o' l' w ∧ o + 1 ≤ o' ∧ l' - l ≤ 2 * (o' - o) - 1))
end
section
set_option maxRecDepth 16384 in
def RN96 (X : KO) (ρ : Nat → Int32) (s wd : Int) (m : MM) (o : Instr × List (Nat × Int) × MM) : Prop := (∃ z0, Run X ρ 148 [(1, 1)] m [] z0 ∧ (∃ z1, z1 = g156 z0 1 0 999 ∧ ((((f156 z0 1 0 999) = (-1)) ∧ (o = (.ireturn, [(1, 0)], z1))) ∨ (¬ ((f156 z0 1 0 999) = (-1)) ∧ (∃ z2, Run X ρ 148 [(1, 1)] z1 [] z2 ∧ (((qer X wd 1000022) ∧ (∃ z3, z3 = g101 z2 s 8 (m 1 6) (f156 z0 1 0 999) ∧ (o = (.ireturn, [(1, f101 z2 s 8 (m 1 6) (f156 z0 1 0 999))], z3)))) ∨ (¬ (qer X wd 1000022) ∧ (((qer X wd 1000023) ∧ (∃ z4, z4 = g101 z2 s 9 (m 1 6) (f156 z0 1 0 999) ∧ (o = (.ireturn, [(1, f101 z2 s 9 (m 1 6) (f156 z0 1 0 999))], z4)))) ∨ (¬ (qer X wd 1000023) ∧ (∃ z5, z5 = g101 z2 s 10 (m 1 6) (f156 z0 1 0 999) ∧ (o = (.ireturn, [(1, f101 z2 s 10 (m 1 6) (f156 z0 1 0 999))], z5))))))))))))
set_option maxRecDepth 16384 in
def RN243 (X : KO) (ρ : Nat → Int32) (W : Int) (m : MM) (o : Instr × List (Nat × Int) × MM) : Prop := (∃ z0, Run X ρ 195 [(1, 148)] m [] z0 ∧ (∃ z1 z2, Run X ρ 254 [(1, 148), (1, 0), (1, 999)] z0 [(1, z1)] z2 ∧ (z1 = 0 ∨ z1 = 1) ∧ (((z1 = 0) ∧ (o = (.ireturn, [(1, 0)], z2))) ∨ (¬ (z1 = 0) ∧ (∃ z3, z3 = g268 z2 148 (s32 (50 + W)) 0 (z2 148 13) (m 148 9) ∧ (∃ z4, z4 = mu z3 148 44 (f268 z2 148 (s32 (50 + W)) 0 (z2 148 13) (m 148 9)) ∧ (o = (.ireturn, [(1, 1)], z4))))))))
set_option maxRecDepth 16384 in
theorem h96 {X : KO} {ρ : Nat → Int32} {m : MM} {N : Nat} {o : Instr × List (Nat × Int) × MM} {s wd : Int} (h : MR X ρ 5 0 0 qP96 N 0 [s, 1, wd, 0, 0] [] m o) : ((f152 m 1 60 = 0 ∧ f152 m 1 61 = 0 ∧ f152 m 1 62 = 0) ∧ o = (.ireturn, [(1, 0)], g158 m 1 1)) ∨ ((¬ f152 m 1 60 = 0 ∨ ¬ f152 m 1 61 = 0 ∨ ¬ f152 m 1 62 = 0) ∧ RN96 X ρ s wd m o) := by
  rcases s96_0 h with ⟨c, h⟩ | ⟨c, h⟩
  · rcases h with ⟨d, h⟩ | ⟨d, h⟩
    · rcases h with ⟨e, y, ey, h⟩ | ⟨e, h⟩
      · exact Or.inl ⟨⟨c, d, e⟩, by rw [h, ey]; rfl⟩
      · exact Or.inr ⟨Or.inr (Or.inr e), h⟩
    · exact Or.inr ⟨Or.inr (Or.inl d), h⟩
  · exact Or.inr ⟨Or.inl c, h⟩
set_option maxRecDepth 16384 in
theorem h243 {X : KO} {ρ : Nat → Int32} {m : MM} {N : Nat} {o : Instr × List (Nat × Int) × MM} {W : Int} (h : MR X ρ 3 0 0 qP243 N 0 [148, W, 0] [] m o) : ((f215 m 148 60 = 0 ∧ f215 m 148 61 = 0 ∧ f215 m 148 62 = 0) ∧ o = (.ireturn, [(1, 0)], g168 m 148 1)) ∨ ((¬ f215 m 148 60 = 0 ∨ ¬ f215 m 148 61 = 0 ∨ ¬ f215 m 148 62 = 0) ∧ RN243 X ρ W m o) := by
  rcases s243_0 h with ⟨c, h⟩ | ⟨c, h⟩
  · rcases h with ⟨d, h⟩ | ⟨d, h⟩
    · rcases h with ⟨e, y, ey, h⟩ | ⟨e, h⟩
      · refine Or.inl ⟨⟨c, d, e⟩, ?_⟩
        rw [h, ey, f168_0]
      · exact Or.inr ⟨Or.inr (Or.inr e), h⟩
    · exact Or.inr ⟨Or.inr (Or.inl d), h⟩
  · exact Or.inr ⟨Or.inl c, h⟩
set_option maxRecDepth 16384 in
/-- a leaf of the sentence, on both sides -/
def RLs (X : KO) (t : Int → Int) (L s : Int) (a b a' b' : MM) (v v' : Int) : Prop := Fr (PA s) a a' ∧ Fr PB b b' ∧ ((v = 0 ∧ v' = 0 ∧ FL a' b') ∨ (v = 1 ∧ v' = 1 ∧ SCx X t L s a' b' ∧ a' s 5 = a s 5 ∧ b' 148 42 = b 148 42 ∧ a' s 4 = a s 4 + 1 ∧ b' 148 43 = b 148 43))
set_option maxRecDepth 16384 in
theorem persS {X : KO} {ρ : Nat → Int32} {t : Int → Int} {L s : Int} {a m2 b m4 : MM} {v4 v6 : Int} (h : SCx X t L s a b) (ra : Run X ρ 76 [(1, 3), (1, 1)] a [(1, v4)] m2) (rb : Run X ρ 259 [(1, 148)] b [(1, v6)] m4) : (v4 = -1 ∧ v6 = 0 ∧ FL m2 m4 ∧ Fr PT a m2 ∧ Fr PM b m4) ∨ (v4 ≠ -1 ∧ v6 = 1 ∧ m2 = a ∧ Run X ρ 195 [(1, 148)] (mu b 148 13 v4) [] m4) := by
  obtain ⟨⟨⟨p0, p1⟩, h9, h10⟩, hC, -⟩ := h
  have hp := hC.1.2.1.p
  obtain ⟨M, ig', rb⟩ := Run_CR rb rfl
  have rb : MR X ρ 1 0 0 qP259 M 0 [148] [] b (ig', [(1, v6)], m4) := rb
  obtain ⟨v5, m5, r5, -, e5⟩ := k259_0 rb
  cases e5
  rw [hC.1.2.1.bn, ← hp.1] at r5
  have B := named p1 hC.2.2.2.1.2.1 (by decide) (by decide) hp.2.1 hp.2.2 r5
  have A := lookP (hC.1.2.1.1.1.1) hp.2.1 hp.2.2 ra
  have hu : ∀ k, 0 ≤ k → k < a 3 6 → NRel (a 4 k) (b 155 (0 + k)) := fun k k0 k1 => hC.2.1.1 k k0 k1
  rcases A with ⟨k1, k2, k3⟩ | ⟨k1, k2, k3, k4⟩ | ⟨k1, v, k2, k3, kn, k4, k5, k6⟩
  · injection k2 with k2
    injection k2 with _ k2
    rcases B with ⟨-, q2, q3⟩ | ⟨q1, -⟩ | ⟨q1, -⟩
    · injection q2 with q2
      injection q2 with _ q2
      rw [k3, q3]
      exact Or.inl ⟨k2, q2, bad_ok p1 (by decide) (Or.inl rfl), Fr_158 _ _, Fr_168 _ _⟩
    · omega
    · omega
  · injection k2 with k2
    injection k2 with _ k2
    rcases B with ⟨q1, -⟩ | ⟨-, qn, q2, q3, q4⟩ | ⟨-, qn, v', q1, q2, q3, q4⟩
    · omega
    · injection q2 with q2
      injection q2 with _ q2
      rw [k3, q3]
      have hT : TKR X a (mu b 148 13 (-1)) := TKR_fr p1 (Fr.rf (fun _ _ => False) _) ((Fr.rf (fun x k => x = 148 ∧ k = 13) _).mu ⟨rfl, rfl⟩) (fun _ q => q) (fun k _ _ q => by omega)
      exact Or.inl ⟨k2, q2, bad_ok hT (by decide) (Or.inr (name_kind k1)), Fr_158 _ _, ((Fr.rf _ _).mu ⟨rfl, by decide, by decide⟩).tr (Fr_168 _ _)⟩
    · exact absurd (Fnd_u (fun k x0 x1 => NRel_iff (hu k x0 x1) qn) k4 q4).symm q1
  · injection k2 with k2
    injection k2 with _ k2
    rcases B with ⟨q1, -⟩ | ⟨-, qn, q2, q3, q4⟩ | ⟨-, qn, v', q1, q2, q3, q4⟩
    · omega
    · exact absurd (Fnd_u (fun k x0 x1 => NRel_iff (hu k x0 x1) qn) k6 q4) kn
    · injection q2 with q2
      injection q2 with _ q2
      have ev := Fnd_u (fun k x0 x1 => NRel_iff (hu k x0 x1) qn) k6 q4
      rw [← ev] at q3
      rw [k2]
      exact Or.inr ⟨kn, q2, k3, q3⟩
set_option maxRecDepth 16384 in
theorem PT_PA {s : Int} {a a' : MM} (h : Fr PT a a') : Fr (PA s) a a' := h.mo fun x k q => Or.inl q
set_option maxRecDepth 16384 in
theorem PM_PB {b b' : MM} (h : Fr PM b b') : Fr PB b b' := h.mo fun x k q => Or.inl q
set_option maxRecDepth 16384 in
/-- a step written on both sides -/
theorem wrS {X : KO} {t : Int → Int} {L s : Int} (hs : Sl s) {a b z : MM} (h : SCx X t L s a b) (l0 : 0 ≤ a s 4) (l1 : a s 4 < 40) (k x v p q r u : Int) (hz : Fr (fun x k => x = 148 ∧ k = 44) (g268 b 148 p q r u) z) : f101 a s k x v = 1 ∧ SCx X t L s (g101 a s k x v) z ∧ Fr (PA s) a (g101 a s k x v) ∧ Fr PB b z ∧ (g101 a s k x v) s 5 = a s 5 ∧ z 148 42 = b 148 42 ∧ (g101 a s k x v) s 4 = a s 4 + 1 ∧ z 148 43 = b 148 43 := by
  obtain ⟨c1, c2, c3, c4⟩ := g101_c hs h.2.2.1.1 h.2.2.1.2 l0 l1 k x v
  have fz : Fr (fun x k => (x = 148 ∧ (k = 41 ∨ k = 44)) ∨ x = 166) b z := ((g268_c h.2.2.2 p q r u).mo fun x k q => by omega).tr (hz.mo fun x k q => by omega)
  have f0 : Fr PB0 b z := fz.mo fun x k q => by unfold PB0; omega
  exact ⟨c1, SC_0 hs h c2 f0, c2.mo fun x k q => Or.inr q, f0.mo fun x k q => Or.inr q, c4, fz _ _ (by omega), c3, fz _ _ (by omega)⟩
set_option maxRecDepth 16384 in
theorem leafP {X : KO} {ρ : Nat → Int32} {t : Int → Int} {L s : Int} (hX : XW X) (hs : Sl s) {a a' b b' : MM} {v v' wd W : Int} (h : SCx X t L s a b) (l0 : 0 ≤ a s 4) (l1 : a s 4 < 40) (ra : Run X ρ 99 [(1, s), (1, 1), (1, 3), (1, wd)] a [(1, v)] a') (rb : Run X ρ 255 [(1, 148), (1, W)] b [(1, v')] b') : RLs X t L s a b a' b' v v' := by
  obtain ⟨N, ig, ra⟩ := Run_CR ra rfl
  have ra : MR X ρ 5 0 0 qP99 N 0 [s, 1, 3, wd, 0] [] a (ig, [(1, v)], a') := ra
  obtain ⟨M, ig', rb⟩ := Run_CR rb rfl
  have rb : MR X ρ 2 0 0 qP255 M 0 [148, W] [] b (ig', [(1, v')], b') := rb
  obtain ⟨v4, m2, r2, A⟩ := s99_0 ra
  obtain ⟨v6, m4, r4, hv6, B⟩ := s255_0 rb
  rcases persS h r2 r4 with ⟨e1, e2, e3, e4, e5⟩ | ⟨e1, e2, e3, e4⟩
  · rcases A with ⟨-, A⟩ | ⟨c, _⟩
    · rcases B with ⟨-, B⟩ | ⟨c, _⟩
      · cases A; cases B
        exact ⟨PT_PA e4, PM_PB e5, Or.inl ⟨rfl, rfl, e3⟩⟩
      · exact absurd e2 c
    · exact absurd e1 c
  · rcases A with ⟨c, _⟩ | ⟨-, m7, r7, A⟩
    · exact absurd c e1
    rcases B with ⟨c, _⟩ | ⟨-, y11, f11, y12, f12, B⟩
    · omega
    rw [e3] at r7
    obtain ⟨g1, g2, g3, g4, g5⟩ := SC_go hX hs h ((Fr.rf _ _).mu ⟨rfl, rfl⟩) r7 e4
    have hz : Fr (fun x k => x = 148 ∧ k = 44) (g268 m4 148 (s32 (50 + W)) (m4 148 13) 0 0) y12 := by rw [f12, f11]; exact (Fr.rf _ _).mu ⟨rfl, rfl⟩
    have s5 : m7 s 5 = a s 5 := g2 _ _ (by unfold P148; unfold Sl at hs; omega)
    have s4 : m7 s 4 = a s 4 := g2 _ _ (by unfold P148; unfold Sl at hs; omega)
    have b42 : m4 148 42 = b 148 42 := by rw [g3 148 42 (by unfold P195; omega)]; exact mu_k (by decide)
    have b43 : m4 148 43 = b 148 43 := by rw [g3 148 43 (by unfold P195; omega)]; exact mu_k (by decide)
    have fin : ∀ k x u : Int, (ig, [(1, v)], a') = ((.ireturn, [(1, f101 m7 s k x u)], g101 m7 s k x u) : Instr × List (Nat × Int) × MM) → RLs X t L s a b a' b' v v' := fun k x u e => by
      obtain ⟨w1, w2, w3, w4, w5, w6, w7, w8⟩ := wrS hs g1 (by omega) (by omega) k x u _ _ _ _ hz
      cases B
      rw [w1] at e
      cases e
      exact ⟨g4.tr w3, g5.tr w4, Or.inr ⟨rfl, rfl, w2, by rw [w5, s5], by rw [w6, b42], by rw [w7, s4], by rw [w8, b43]⟩⟩
    rcases A with ⟨-, y, ey, A⟩ | ⟨-, A⟩
    · rw [ey] at A; exact fin _ _ _ A
    · rcases A with ⟨-, y, ey, A⟩ | ⟨-, y, ey, A⟩
      · rw [ey] at A; exact fin _ _ _ A
      · rw [ey] at A; exact fin _ _ _ A
set_option maxRecDepth 16384 in
theorem leafN {X : KO} {ρ : Nat → Int32} {t : Int → Int} {L s : Int} (hX : XW X) (hs : Sl s) {a a' b b' : MM} {v v' wd W : Int} (h : SCx X t L s a b) (l0 : 0 ≤ a s 4) (l1 : a s 4 < 40) (ra : Run X ρ 96 [(1, s), (1, 1), (1, wd)] a [(1, v)] a') (rb : Run X ρ 243 [(1, 148), (1, W)] b [(1, v')] b') : RLs X t L s a b a' b' v v' := by
  obtain ⟨N, ig, ra⟩ := Run_CR ra rfl
  have ra : MR X ρ 5 0 0 qP96 N 0 [s, 1, wd, 0, 0] [] a (ig, [(1, v)], a') := ra
  obtain ⟨M, ig', rb⟩ := Run_CR rb rfl
  have rb : MR X ρ 3 0 0 qP243 M 0 [148, W, 0] [] b (ig', [(1, v')], b') := rb
  have A := h96 ra
  have B := h243 rb
  have p1 := h.1.1.2
  rw [← mark_ok p1 60, ← mark_ok p1 61, ← mark_ok p1 62] at B
  rcases A with ⟨c, A⟩ | ⟨c, A⟩
  · rcases B with ⟨-, B⟩ | ⟨d, _⟩
    · cases A; cases B
      exact ⟨PT_PA (Fr_158 _ _), PM_PB (Fr_168 _ _), Or.inl ⟨rfl, rfl, bad_ok p1 (by decide) (Or.inl rfl)⟩⟩
    · rcases d with d | d | d
      · exact absurd c.1 d
      · exact absurd c.2.1 d
      · exact absurd c.2.2 d
  · rcases B with ⟨d, _⟩ | ⟨-, B⟩
    · rcases c with c | c | c
      · exact absurd d.1 c
      · exact absurd d.2.1 c
      · exact absurd d.2.2 c
    obtain ⟨m8, r8, y15, e15, A⟩ := A
    obtain ⟨n8, q8, v13, n11, q11, hv, B⟩ := B
    obtain ⟨g1, g2, g3, g4, g5⟩ := SC_go hX hs h (Fr.rf _ _) r8 q8
    rcases numT (by decide) g1.1 q11 with ⟨z1, z2, z3, z4, z5⟩ | ⟨u, z1, u0, u1, u2, z2, z3, z4⟩
    · have z2 : v13 = 0 := by injection z2 with a1 a2; injection a1
      rcases A with ⟨-, A⟩ | ⟨c, _⟩
      · rcases B with ⟨-, B⟩ | ⟨c, _⟩
        · cases A; cases B
          rw [e15]
          exact ⟨g4.tr (PT_PA z4), g5.tr (PM_PB z5), Or.inl ⟨rfl, rfl, z3⟩⟩
        · exact absurd z2 c
      · exact absurd z1 c
    · have z3 : v13 = 1 := by injection z3 with a1 a2; injection a1
      rcases A with ⟨c, _⟩ | ⟨-, m18, r18, A⟩
      · omega
      rcases B with ⟨c, _⟩ | ⟨-, y20, f20, y21, f21, B⟩
      · omega
      rw [e15, z2] at r18
      obtain ⟨k1, k2, k3, k4, k5⟩ := SC_go hX hs g1 ((Fr.rf _ _).mu ⟨rfl, rfl⟩) r18 z4
      have hz : Fr (fun x k => x = 148 ∧ k = 44) (g268 n11 148 (s32 (50 + W)) 0 (n11 148 13) (b 148 9)) y21 := by rw [f21, f20]; exact (Fr.rf _ _).mu ⟨rfl, rfl⟩
      have s5 : m18 s 5 = a s 5 := by rw [k2 _ _ (by unfold P148; unfold Sl at hs; omega), g2 _ _ (by unfold P148; unfold Sl at hs; omega)]
      have s4 : m18 s 4 = a s 4 := by rw [k2 _ _ (by unfold P148; unfold Sl at hs; omega), g2 _ _ (by unfold P148; unfold Sl at hs; omega)]
      have b42 : n11 148 42 = b 148 42 := by rw [k3 148 42 (by unfold P195; omega), mu_k (by decide), g3 148 42 (by unfold P195; omega)]
      have b43 : n11 148 43 = b 148 43 := by rw [k3 148 43 (by unfold P195; omega), mu_k (by decide), g3 148 43 (by unfold P195; omega)]
      have fin : ∀ k x u : Int, (ig, [(1, v)], a') = ((.ireturn, [(1, f101 m18 s k x u)], g101 m18 s k x u) : Instr × List (Nat × Int) × MM) → RLs X t L s a b a' b' v v' := fun k x u e => by
        obtain ⟨w1, w2, w3, w4, w5, w6, w7, w8⟩ := wrS hs k1 (by omega) (by omega) k x u _ _ _ _ hz
        cases B
        rw [w1] at e
        cases e
        exact ⟨(g4.tr k4).tr w3, (g5.tr k5).tr w4, Or.inr ⟨rfl, rfl, w2, by rw [w5, s5], by rw [w6, b42], by rw [w7, s4], by rw [w8, b43]⟩⟩
      rcases A with ⟨-, y, ey, A⟩ | ⟨-, A⟩
      · rw [ey] at A; exact fin _ _ _ A
      · rcases A with ⟨-, y, ey, A⟩ | ⟨-, y, ey, A⟩
        · rw [ey] at A; exact fin _ _ _ A
        · rw [ey] at A; exact fin _ _ _ A
end
section
set_option maxRecDepth 16384 in
def H1 (X : KO) (ρ : Nat → Int32) (t : Int → Int) (L s w : Int) : Prop := ∀ (a a' b b' : MM) (v v' o l : Int), SCx X t L s a b → SNx s a b o l w → Run X ρ 97 [(1, s), (1, 1), (1, 3), (1, w)] a [(1, v)] a' → Run X ρ 261 [(1, 148)] b [(1, v')] b' → RRs X t L s a b a' b' v v' o l w
set_option maxRecDepth 16384 in
def H2 (X : KO) (ρ : Nat → Int32) (t : Int → Int) (L s w : Int) : Prop := ∀ (a a' b b' : MM) (v v' o l : Int), SCx X t L s a b → SNx s a b o l w → Run X ρ 95 [(1, s), (1, 1), (1, 3), (1, w)] a [(1, v)] a' → Run X ρ 256 [(1, 148)] b [(1, v')] b' → RRs X t L s a b a' b' v v' o l w
set_option maxRecDepth 16384 in
theorem FL_43 {a b : MM} {z : Int} (h : FL a b) : FL a (mu b 148 43 z) := by
  obtain ⟨h1, h2, h3⟩ := h
  exact ⟨by rw [mu_k (by decide)]; exact h1, by rw [mu_k (by decide)]; exact h2, h3⟩
set_option maxRecDepth 16384 in
theorem FL_44 {a b : MM} {z : Int} (h : FL a b) : FL a (mu b 148 44 z) := by
  obtain ⟨h1, h2, h3⟩ := h
  exact ⟨by rw [mu_k (by decide)]; exact h1, by rw [mu_k (by decide)]; exact h2, h3⟩
set_option maxRecDepth 16384 in
/-- out of a part within, one less deep -/
theorem outS {X : KO} {t : Int → Int} {L s : Int} (hs : Sl s) {a b y z a' b1 b' : MM} {v v' o l w : Int} (fa : Fr (PA s) a y) (fb : Fr PB b z) (w1 : 1 ≤ w) (w8 : w ≤ 8) (o0 : 0 ≤ o) (h : Fr (PA s) y a' ∧ Fr PB z b1 ∧ ((v = 0 ∧ v' = 0 ∧ FL a' b1) ∨ (v = 1 ∧ v' = 1 ∧ SCx X t L s a' b1 ∧ ∃ o' l', (a' s 5 = o' ∧ b1 148 42 = o' ∧ o' ≤ 20) ∧ (a' s 4 = l' ∧ 0 ≤ l') ∧ b1 148 43 = w ∧ o + 1 ≤ o' ∧ l' - l ≤ 2 * (o' - o) - 1))) (hl : l ≤ 2 * o) (e : b' = mu b1 148 43 (s32 (b1 148 43 - 1))) : RRs X t L s a b a' b' v v' o l w := by
  obtain ⟨h1, h2, h3⟩ := h
  have f0 : Fr PB0 b1 b' := by rw [e]; exact (Fr.rf _ _).mu (Or.inl ⟨rfl, by decide, by decide⟩)
  refine ⟨fa.tr h1, (fb.tr h2).tr (f0.mo fun x k q => Or.inr q), ?_⟩
  rcases h3 with ⟨q1, q2, q3⟩ | ⟨q1, q2, q3, o', l', ⟨g1, g2, g4⟩, ⟨g5, g6⟩, g8, g11, g12⟩
  · exact Or.inl ⟨q1, q2, by rw [e]; exact FL_43 q3⟩
  · refine Or.inr ⟨q1, q2, SC_0 hs q3 (Fr.rf _ _) f0, o', l', ⟨⟨g1, ?_, by omega, g4⟩, ⟨g5, g6, by omega⟩, ?_, by omega, by omega⟩, g11, g12⟩
    · rw [e, mu_k (by decide)]; exact g2
    · rw [e, mu_s, g8, s32_id (by omega) (by omega)]
set_option maxRecDepth 16384 in
theorem one_H {X : KO} {ρ : Nat → Int32} {t : Int → Int} {L s w : Int} (hX : XW X) (hS : XS X) (hs : Sl s) (ih : w ≤ 8 → H1 X ρ t L s (w + 1) ∧ H2 X ρ t L s (w + 1)) : H1 X ρ t L s w := by
  intro a a' b b' v v' o l hC hN ra rb
  obtain ⟨N, ig, ra⟩ := Run_CR ra rfl
  have ra : MR X ρ 5 0 0 qP97 N 0 [s, 1, 3, w, 0] [] a (ig, [(1, v)], a') := ra
  obtain ⟨M, ig', rb⟩ := Run_CR rb rfl
  have rb : MR X ρ 4 0 0 qP261 M 0 [148, 0, 0, 0] [] b (ig', [(1, v')], b') := rb
  have A := h97 ra
  have B := h261 rb
  have p1 := hC.1.1.2
  have hs' := hs
  unfold Sl at hs'
  have eW := L261_c b (f215 b 148 40)
  have em := mark_ok p1 40
  rw [← em] at B
  rw [← em] at eW
  generalize (L261_10 b 148 (f152 a 1 40) 18 0).2.2 = W at B eW
  obtain ⟨⟨n1, n2, n3, n4⟩, ⟨n5, n6, n7⟩, n8, n9, n10⟩ := hN
  have s1 : (1 : Int) ≠ s := by omega
  have np5 : ¬ P148 s 5 := by unfold P148; omega
  have np4 : ¬ P148 s 4 := by unfold P148; omega
  have bad4 : ∀ (x y : MM) (u u' : Int), a 1 4 ≠ 4 → u = 0 → u' = 0 → x = g158 a 1 4 → y = g168 b 148 4 → RRs X t L s a b x y u u' o l w := fun x y u u' h4 e1 e2 e3 e4 => by
    rw [e3, e4]
    exact ⟨PT_PA (Fr_158 _ _), PM_PB (Fr_168 _ _), Or.inl ⟨e1, e2, bad_ok p1 (by decide) (Or.inr h4)⟩⟩
  rcases A with ⟨c1, c2, A⟩ | ⟨c, A⟩
  · -- no ONE begins here
    have hz : ∀ i, 18 ≤ i → i ≤ 29 → f217 b 148 i = 0 := fun i i0 i1 => by
      by_cases k1 : a 1 4 = 1
      · exact (f86_w (WQ_ok hS p1 k1)).1 (c2 k1) i i0 i1
      · exact f217_k p1 k1 i
    rcases B with ⟨d1, d2, B⟩ | ⟨d, _⟩
    · cases A; cases B
      exact ⟨PT_PA (Fr_158 _ _), PM_PB (Fr_168 _ _), Or.inl ⟨rfl, rfl, bad_ok p1 (by decide) (Or.inl rfl)⟩⟩
    · rcases d with d | d
      · exact absurd c1 d
      · rcases eW with ⟨e1, e2, e3⟩ | ⟨e1, -⟩
        · exact absurd (hz W e1 e2) e3
        · omega
  · have h4 : a 1 4 ≠ 4 := by
      rcases c with c | c
      · intro q
        apply c
        unfold f152
        rw [if_neg (by omega)]
      · omega
    have B : RO261 X ρ W b (ig', [(1, v')], b') := by
      rcases B with ⟨d1, d2, -⟩ | ⟨-, B⟩
      · rcases c with c | ⟨k1, c⟩
        · exact absurd d1 c
        · obtain ⟨i, i0, i1, i2⟩ := (f86_w (WQ_ok hS p1 k1)).2 c
          rcases eW with ⟨-, e2, -⟩ | ⟨-, e3⟩
          · omega
          · exact absurd (e3 i i0 i1) i2
      · exact B
    unfold RO97 at A
    unfold RO261 at B
    rw [n1] at A
    rw [n2, n8, ← em] at B
    rcases A with ⟨c20, y, ey, A⟩ | ⟨c20, A⟩
    · rcases B with ⟨d, y', ey', B⟩ | ⟨d, _⟩
      · rw [f168_0] at B
        cases A; cases B
        exact bad4 _ _ _ _ h4 rfl rfl ey ey'
      · omega
    rcases B with ⟨d, _⟩ | ⟨-, B⟩
    · omega
    rcases A with ⟨c9, z1, ez, A⟩ | ⟨c9, y, ey, A⟩
    · rcases B with ⟨d, _⟩ | ⟨-, y67, e67, y68, e68, m70, r70, B⟩
      · omega
      obtain ⟨ih1, ih2⟩ := ih c9
      rw [s32_id (z := o + 1) (by omega) (by omega)] at ez e67
      have e43 : y67 148 43 = w - 1 := by rw [e67, mu_k (by decide)]; exact n8
      rw [e43, show w - 1 + 1 = w by omega, s32_id (z := w) (by omega) (by omega)] at e68
      have fa0 : Fr (PA0 s) a z1 := by rw [ez]; exact (Fr.rf _ _).mu (Or.inl ⟨rfl, Or.inr rfl⟩)
      have fb0 : Fr PB0 b y68 := by rw [e68, e67]; exact ((Fr.rf _ _).mu (Or.inl ⟨rfl, by decide, by decide⟩)).mu (Or.inl ⟨rfl, by decide, by decide⟩)
      have hC1 := SC_0 hs hC fa0 fb0
      have z1k : ∀ k, z1 1 k = a 1 k := fun k => by rw [ez]; exact mu_a s1
      have zs5 : z1 s 5 = o + 1 := by rw [ez, mu_s]
      have zs4 : z1 s 4 = l := by rw [ez, mu_k (by decide)]; exact n5
      have y42 : y68 148 42 = o + 1 := by rw [e68, mu_k (by decide), e67, mu_s]
      have y43 : y68 148 43 = w := by rw [e68, mu_s]
      have e152 : f152 z1 1 40 = f152 a 1 40 := by unfold f152; rw [z1k, z1k]
      have e155 : f155 X z1 1 1000017 = f155 X a 1 1000017 := by unfold f155; rw [z1k, z1k]
      rw [e152, e155, z1k 8] at A
      have fa1 : Fr (PA s) a z1 := fa0.mo fun x k q => Or.inr q
      have fb1 : Fr PB b y68 := fb0.mo fun x k q => Or.inr q
      -- what follows once a token is gone behind
      have gone : ∀ z2, Run X ρ 148 [(1, 1)] z1 [] z2 → SCx X t L s z2 m70 ∧ Fr (PA s) a z2 ∧ Fr PB b m70 ∧ z2 s 5 = o + 1 ∧ z2 s 4 = l ∧ m70 148 42 = o + 1 ∧ m70 148 43 = w := fun z2 r2 => by
        obtain ⟨g1, g2, g3, g4, g5⟩ := SC_go hX hs hC1 (Fr.rf _ _) r2 r70
        exact ⟨g1, fa1.tr g4, fb1.tr g5, by rw [g2 _ _ np5]; exact zs5, by rw [g2 _ _ np4]; exact zs4, by rw [g3 148 42 (by unfold P195; omega)]; exact y42, by rw [g3 148 43 (by unfold P195; omega)]; exact y43⟩
      -- a leaf
      have leaf : ∀ (z2 b1 : MM) (u u' : Int), Run X ρ 148 [(1, 1)] z1 [] z2 → RLs X t L s z2 m70 a' b1 u u' → b' = mu b1 148 43 (s32 (b1 148 43 - 1)) → RRs X t L s a b a' b' u u' o l w := fun z2 b1 u u' r2 hR e => by
        obtain ⟨g1, g2, g3, g4, g5, g6, g7⟩ := gone z2 r2
        obtain ⟨q1, q2, q3⟩ := hR
        refine outS hs g2 g3 n9 c9 n3 ⟨q1, q2, ?_⟩ n7 e
        rcases q3 with q3 | ⟨k1, k2, k3, k4, k5, k6, k7⟩
        · exact Or.inl q3
        · exact Or.inr ⟨k1, k2, k3, o + 1, l + 1, ⟨by rw [k4, g4], by rw [k5, g6], by omega⟩, ⟨by rw [k6, g5], by omega⟩, by rw [k7, g7], by omega, by omega⟩
      -- a ONE with others within
      have outer : ∀ (u u' : Int) (b1 : MM), Run X ρ 98 [(1, s), (1, 1), (1, 3), (1, w)] z1 [(1, u)] a' → ((f155 X a 1 1000017 = 0 ∧ Run X ρ 242 [(1, 148)] m70 [(1, u')] b1) ∨ (¬ f155 X a 1 1000017 = 0 ∧ Run X ρ 253 [(1, 148)] m70 [(1, u')] b1)) → b' = mu b1 148 43 (s32 (b1 148 43 - 1)) → RRs X t L s a b a' b' u u' o l w := fun u u' b1 r98 hb e => by
        obtain ⟨Na, iga, r98⟩ := Run_CR r98 rfl
        have r98 : MR X ρ 5 0 0 qP98 Na 0 [s, 1, 3, w, 0] [] z1 (iga, [(1, u)], a') := r98
        obtain ⟨m7, r7, C⟩ := s98_0 r98
        rw [e155, s32_id (z := w + 1) (by omega) (by omega)] at C
        obtain ⟨g1, g2, g3, g4, g5, g6, g7⟩ := gone m7 r7
        have hN1 : SNx s m7 m70 (o + 1) l (w + 1) := ⟨⟨g4, g6, by omega, by omega⟩, ⟨g5, n6, by omega⟩, by omega, by omega, by omega⟩
        refine outS hs g2 g3 n9 c9 n3 ?_ n7 e
        rcases hb with ⟨d, r242⟩ | ⟨d, r253⟩
        · -- brackets
          rcases C with ⟨-, v13, m11, r95, hv, C⟩ | ⟨q, _⟩
          · obtain ⟨Nb, igb, r242⟩ := Run_CR r242 rfl
            have r242 : MR X ρ 1 0 0 qP242 Nb 0 [148] [] m70 (igb, [(1, u')], b1) := r242
            obtain ⟨v4, n2', r256, hv4, D⟩ := s242_0 r242
            obtain ⟨k1, k2, k3⟩ := ih2 _ _ _ _ _ _ _ _ g1 hN1 r95 r256
            rcases k3 with ⟨x1, x2, x3⟩ | ⟨x1, x2, x3, o', l', ⟨⟨q1, q2, q3, q4⟩, ⟨q5, q6, q7⟩, q8, q9, q10⟩, q11, q12⟩
            · rcases C with ⟨-, C⟩ | ⟨q, _⟩
              · rcases D with ⟨-, D⟩ | ⟨q, _⟩
                · cases C; cases D
                  exact ⟨k1, k2, Or.inl ⟨rfl, rfl, x3⟩⟩
                · exact absurd x2 q
              · exact absurd x1 q
            · rcases C with ⟨q, _⟩ | ⟨-, C⟩
              · omega
              rcases D with ⟨q, _⟩ | ⟨-, D⟩
              · omega
              rw [← mark_ok x3.1.1.2 41] at D
              rcases C with ⟨y1, y, ey, C⟩ | ⟨y1, m22, r22, C⟩
              · rcases D with ⟨-, y', ey', D⟩ | ⟨q, _⟩
                · rw [f168_0] at D
                  cases C; cases D
                  rw [ey, ey']
                  exact ⟨k1.tr (PT_PA (Fr_158 _ _)), k2.tr (PM_PB (Fr_168 _ _)), Or.inl ⟨rfl, rfl, bad_ok x3.1.1.2 (by decide) (Or.inl rfl)⟩⟩
                · exact absurd y1 q
              · rcases D with ⟨q, _⟩ | ⟨-, m13, r13, D⟩
                · exact absurd q y1
                · cases C; cases D
                  obtain ⟨j1, j2, j3, j4, j5⟩ := SC_go hX hs x3 (Fr.rf _ _) r22 r13
                  exact ⟨k1.tr j4, k2.tr j5, Or.inr ⟨rfl, rfl, j1, o', l', ⟨by rw [j2 _ _ np5]; exact q1, by rw [j3 148 42 (by unfold P195; omega)]; exact q2, q4⟩, ⟨by rw [j2 _ _ np4]; exact q5, q6⟩, by rw [j3 148 43 (by unfold P195; omega), q8]; omega, by omega, by omega⟩⟩
          · exact absurd d q
        · -- not
          rcases C with ⟨q, _⟩ | ⟨-, v33, m31, r97, hv, C⟩
          · exact absurd q d
          · obtain ⟨Nb, igb, r253⟩ := Run_CR r253 rfl
            have r253 : MR X ρ 1 0 0 qP253 Nb 0 [148] [] m70 (igb, [(1, u')], b1) := r253
            obtain ⟨v4, n2', r261, hv4, D⟩ := s253_0 r253
            obtain ⟨k1, k2, k3⟩ := ih1 _ _ _ _ _ _ _ _ g1 hN1 r97 r261
            rcases k3 with ⟨x1, x2, x3⟩ | ⟨x1, x2, x3, o', l', ⟨⟨q1, q2, q3, q4⟩, ⟨q5, q6, q7⟩, q8, q9, q10⟩, q11, q12⟩
            · rcases C with ⟨-, C⟩ | ⟨q, _⟩
              · rcases D with ⟨-, D⟩ | ⟨q, _⟩
                · cases C; cases D
                  exact ⟨k1, k2, Or.inl ⟨rfl, rfl, x3⟩⟩
                · exact absurd x2 q
              · exact absurd x1 q
            · rcases C with ⟨q, _⟩ | ⟨-, y40, e40, C⟩
              · omega
              rcases D with ⟨q, _⟩ | ⟨-, y11, f11, y12, f12, D⟩
              · omega
              have hz : Fr (fun x k => x = 148 ∧ k = 44) (g268 n2' 148 1 (n2' 148 44) 0 0) y12 := by rw [f12, f11]; exact (Fr.rf _ _).mu ⟨rfl, rfl⟩
              obtain ⟨j1, j2, j3, j4, j5, j6, j7, j8⟩ := wrS hs x3 (by omega) (by omega) 0 0 0 _ _ _ _ hz
              rcases C with ⟨q, _⟩ | ⟨-, C⟩
              · rw [j1] at q; exact absurd q (by decide)
              · cases C; cases D
                rw [e40]
                exact ⟨k1.tr j3, k2.tr j4, Or.inr ⟨rfl, rfl, j2, o', l' + 1, ⟨by rw [j5]; exact q1, by rw [j6]; exact q2, q4⟩, ⟨by rw [j7, q5], by omega⟩, by rw [j8, q8]; omega, by omega, by omega⟩⟩
      rcases A with ⟨mk, A⟩ | ⟨mk, z19, z20, r98, hv, A⟩
      · rcases B with ⟨-, B⟩ | ⟨q, _⟩
        · obtain ⟨k1, k86⟩ : a 1 4 = 1 ∧ ¬ f86 X a (a 1 8) = 0 := by
            rcases c with c | c
            · exact absurd mk c
            · exact c
          have hW := WQ_ok hS p1 k1
          obtain ⟨i, i0, i1, i2⟩ := (f86_w hW).2 k86
          obtain ⟨W0, W1, W2⟩ : 18 ≤ W ∧ W ≤ 29 ∧ ¬ f217 b 148 W = 0 := by
            rcases eW with h | ⟨-, e3⟩
            · exact h
            · exact absurd (e3 i i0 i1) i2
          have is : ∀ i : Int, 0 ≤ i → i < 30 → (¬ f217 b 148 i = 0 ↔ W = i) := fun i j0 j1 => ⟨fun h => word_1 (by omega) (by omega) j0 j1 W2 h, fun h => by rw [← h]; exact W2⟩
          obtain ⟨h1, h2, h3, h4', h5, h6, h7, h8, h9, h10, h11, h12⟩ := hW
          rw [is 18 (by decide) (by decide)] at h1
          rw [is 23 (by decide) (by decide)] at h2
          rw [is 24 (by decide) (by decide)] at h3
          rw [is 25 (by decide) (by decide)] at h4'
          rw [is 26 (by decide) (by decide)] at h5
          rw [is 27 (by decide) (by decide)] at h6
          rw [is 28 (by decide) (by decide)] at h7
          rw [is 29 (by decide) (by decide)] at h8
          have e18 : f155 X a 1 1000017 = 0 ↔ ¬ W = 18 := by
            unfold f155
            rw [if_pos k1, ← h1]
            by_cases q : qer X (a 1 8) 1000017
            · rw [if_pos q]; exact ⟨fun z => absurd z (by decide), fun z => absurd q z⟩
            · rw [if_neg q]; exact ⟨fun _ => q, fun _ => rfl⟩
          rcases A with ⟨nn, z2, r2, A⟩ | ⟨nn, z17, z18, r98, hv, A⟩
          · have nW := e18.mp nn
            rcases B with ⟨q, _⟩ | ⟨-, B⟩
            · exact absurd q nW
            obtain ⟨g1, g2, g3, g4, g5, g6, g7⟩ := gone z2 r2
            have pers : ∀ (u : Int) (y : MM), Run X ρ 99 [(1, s), (1, 1), (1, 3), (1, a 1 8)] z2 [(1, u)] y → (ig, [(1, v)], a') = ((.ireturn, [(1, u)], y) : Instr × List (Nat × Int) × MM) → 24 ≤ W → W ≤ 26 → RRs X t L s a b a' b' v v' o l w := fun u y r e q1 q2 => by
              rcases B with ⟨-, B⟩ | ⟨q, _⟩
              · rcases B with ⟨q, _⟩ | ⟨-, v84, m82, r82, hv8, y85, e85, B⟩
                · omega
                · cases e; cases B
                  exact leaf z2 _ _ _ r2 (leafP hX hs g1 (by omega) (by omega) r r82) e85
              · omega
            have nums : ∀ (u : Int) (y : MM), Run X ρ 96 [(1, s), (1, 1), (1, a 1 8)] z2 [(1, u)] y → (ig, [(1, v)], a') = ((.ireturn, [(1, u)], y) : Instr × List (Nat × Int) × MM) → 27 ≤ W → RRs X t L s a b a' b' v v' o l w := fun u y r e q1 => by
              rcases B with ⟨-, B⟩ | ⟨q, _⟩
              · rcases B with ⟨-, v79, m77, r77, hv7, y80, e80, B⟩ | ⟨q, _⟩
                · cases e; cases B
                  exact leaf z2 _ _ _ r2 (leafN hX hs g1 (by omega) (by omega) r r77) e80
                · omega
              · omega
            have plain : ∀ (k x u : Int), (ig, [(1, v)], a') = ((.ireturn, [(1, f101 z2 s k x u)], g101 z2 s k x u) : Instr × List (Nat × Int) × MM) → W < 24 → RRs X t L s a b a' b' v v' o l w := fun k x u e q1 => by
              rcases B with ⟨q, _⟩ | ⟨-, y91, e91, y92, e92, y93, e93, B⟩
              · omega
              · have hz : Fr (fun x k => x = 148 ∧ k = 44) (g268 m70 148 (s32 (50 + W)) 0 0 0) y92 := by rw [e92, e91]; exact (Fr.rf _ _).mu ⟨rfl, rfl⟩
                obtain ⟨j1, j2, j3, j4, j5, j6, j7, j8⟩ := wrS hs g1 (by omega) (by omega) k x u _ _ _ _ hz
                rw [j1] at e
                cases e; cases B
                exact leaf z2 y92 1 1 r2 ⟨j3, j4, Or.inr ⟨rfl, rfl, j2, j5, j6, j7, j8⟩⟩ e93
            rcases A with ⟨q, u, y, r, hu, A⟩ | ⟨q3, A⟩
            · have := h3.mp q; exact pers u y r A (by omega) (by omega)
            rcases A with ⟨q, u, y, r, hu, A⟩ | ⟨q4, A⟩
            · have := h4'.mp q; exact pers u y r A (by omega) (by omega)
            rcases A with ⟨q, u, y, r, hu, A⟩ | ⟨q5, A⟩
            · have := h5.mp q; exact pers u y r A (by omega) (by omega)
            rcases A with ⟨q, u, y, r, hu, A⟩ | ⟨q6, A⟩
            · have := h6.mp q; exact nums u y r A (by omega)
            rcases A with ⟨q, u, y, r, hu, A⟩ | ⟨q7, A⟩
            · have := h7.mp q; exact nums u y r A (by omega)
            rcases A with ⟨q, u, y, r, hu, A⟩ | ⟨q8, A⟩
            · have := h8.mp q; exact nums u y r A (by omega)
            have x3 : ¬ W = 24 := fun z => q3 (h3.mpr z)
            have x4 : ¬ W = 25 := fun z => q4 (h4'.mpr z)
            have x5 : ¬ W = 26 := fun z => q5 (h5.mpr z)
            have x6 : ¬ W = 27 := fun z => q6 (h6.mpr z)
            have x7 : ¬ W = 28 := fun z => q7 (h7.mpr z)
            have x8 : ¬ W = 29 := fun z => q8 (h8.mpr z)
            rcases A with ⟨q, y, ey, A⟩ | ⟨q, y, ey, A⟩
            · rw [ey] at A; exact plain _ _ _ A (by omega)
            · rw [ey] at A; exact plain _ _ _ A (by omega)
          · have eW : W = 18 := Decidable.of_not_not fun z => nn (e18.mpr z)
            rcases B with ⟨-, v97, m95, r95, hv9, y98, e98, B⟩ | ⟨q, _⟩
            · cases A; cases B
              exact outer _ _ _ r98 (Or.inr ⟨nn, r95⟩) e98
            · exact absurd eW q
        · exact absurd mk q
      · rcases B with ⟨q, _⟩ | ⟨-, v102, m100, r100, hv1, y103, e103, B⟩
        · exact absurd q mk
        · have nn : f155 X a 1 1000017 = 0 := by
            unfold f155
            rw [if_neg (fun q => mk (by unfold f152; rw [if_neg (by omega)]))]
          cases A; cases B
          exact outer _ _ _ r98 (Or.inl ⟨nn, r100⟩) e103
    · rcases B with ⟨d, y', ey', B⟩ | ⟨d, _⟩
      · rw [f168_0] at B
        cases A; cases B
        exact bad4 _ _ _ _ h4 rfl rfl ey ey'
      · omega
end
section
section CONDS
variable {X : KO} {ρ : Nat → Int32} {s w : Int}
set_option maxRecDepth 16384 in
theorem c0 {N : Nat} {x : MM} {o : Instr × List (Nat × Int) × MM} {p m c : Int} (h : MR X ρ 8 0 0 qP95 N 15 [s, 1, 3, w, 0, p, m, c] [] x o) : o = (.ireturn, [(1, 0)], x) := by
  rcases s95_15 h with ⟨-, h⟩ | ⟨-, h⟩
  · rcases h with ⟨-, h⟩ | ⟨q, _⟩
    · exact h
    · exact absurd rfl q
  · rcases h with ⟨-, h⟩ | ⟨q, _⟩
    · exact h
    · exact absurd rfl q
set_option maxRecDepth 16384 in
theorem cAnd {N : Nat} {x : MM} {o : Instr × List (Nat × Int) × MM} {p m c : Int} (hp : p = 0 ∨ p = 1) (m0 : 0 ≤ m) (m1 : m ≤ 19) (ha : ¬ f155 X x 1 1000029 = 0) (h : MR X ρ 8 0 0 qP95 N 15 [s, 1, 3, w, 1, p, m, c] [] x o) : ∃ m48, Run X ρ 148 [(1, 1)] x [] m48 ∧ ∃ v m51, Run X ρ 97 [(1, s), (1, 1), (1, 3), (1, w)] m48 [(1, v)] m51 ∧ (v = 0 ∨ v = 1) ∧ ((v = 0 ∧ ∃ N' c', MR X ρ 8 0 0 qP95 N' 15 [s, 1, 3, w, 0, p, m + 1, c'] [] m51 o) ∨ (¬ v = 0 ∧ (f101 m51 s 1 0 0 = 0 ∨ (∃ N' c', MR X ρ 8 0 0 qP95 N' 15 [s, 1, 3, w, 1, p, m + 1, c'] [] (g101 m51 s 1 0 0) o)))) := by
  have A := s95_15 h
  rw [s32_id (z := m + 1) (by omega) (by omega)] at A
  rcases A with ⟨q, _⟩ | ⟨-, A⟩
  · omega
  rcases A with ⟨q, _⟩ | ⟨-, A⟩
  · exact absurd q (by decide)
  rcases A with ⟨q, _⟩ | ⟨-, A⟩
  · exact absurd q ha
  rcases hp with rfl | rfl
  · rcases A with ⟨-, m48, r, v, m51, r2, hv, A⟩ | ⟨q, _⟩
    · refine ⟨m48, r, v, m51, r2, hv, ?_⟩
      rcases A with ⟨e, N', -, A⟩ | ⟨e, A⟩
      · exact Or.inl ⟨e, N', _, A⟩
      · rcases A with ⟨q, _⟩ | ⟨-, y, ey, A⟩
        · exact absurd q ha
        · rcases A with ⟨q, _⟩ | ⟨-, N', -, A⟩
          · exact Or.inr ⟨e, Or.inl q⟩
          · rw [ey] at A; exact Or.inr ⟨e, Or.inr ⟨N', _, A⟩⟩
    · exact absurd rfl q
  · rcases A with ⟨q, _⟩ | ⟨-, m48, r, v, m51, r2, hv, A⟩
    · exact absurd q (by decide)
    · refine ⟨m48, r, v, m51, r2, hv, ?_⟩
      rcases A with ⟨e, N', -, A⟩ | ⟨e, A⟩
      · exact Or.inl ⟨e, N', _, A⟩
      · rcases A with ⟨q, _⟩ | ⟨-, y, ey, A⟩
        · exact absurd q ha
        · rcases A with ⟨q, _⟩ | ⟨-, N', -, A⟩
          · exact Or.inr ⟨e, Or.inl q⟩
          · rw [ey] at A; exact Or.inr ⟨e, Or.inr ⟨N', _, A⟩⟩
set_option maxRecDepth 16384 in
theorem cOr {N : Nat} {x : MM} {o : Instr × List (Nat × Int) × MM} {p m c : Int} (hp : p = 0 ∨ p = 1) (m0 : 0 ≤ m) (m1 : m ≤ 19) (ha : f155 X x 1 1000029 = 0) (hb : ¬ f155 X x 1 1000030 = 0) (h : MR X ρ 8 0 0 qP95 N 15 [s, 1, 3, w, 1, p, m, c] [] x o) : ∃ x0, ((p = 0 ∧ x0 = x) ∨ (p = 1 ∧ x0 = g101 x s 2 0 0)) ∧ ∃ m92, Run X ρ 148 [(1, 1)] x0 [] m92 ∧ ∃ v m95, Run X ρ 97 [(1, s), (1, 1), (1, 3), (1, w)] m92 [(1, v)] m95 ∧ (v = 0 ∨ v = 1) ∧ ((v = 0 ∧ ∃ N' c', MR X ρ 8 0 0 qP95 N' 15 [s, 1, 3, w, 0, 1, m + 1, c'] [] m95 o) ∨ (¬ v = 0 ∧ ∃ N' c', MR X ρ 8 0 0 qP95 N' 15 [s, 1, 3, w, 1, 1, m + 1, c'] [] m95 o)) := by
  have A := s95_15 h
  rw [s32_id (z := m + 1) (by omega) (by omega)] at A
  rcases A with ⟨q, _⟩ | ⟨-, A⟩
  · omega
  rcases A with ⟨q, _⟩ | ⟨-, A⟩
  · exact absurd q (by decide)
  rcases A with ⟨-, A⟩ | ⟨q, _⟩
  · rcases A with ⟨q, _⟩ | ⟨-, A⟩
    · exact absurd q hb
    rcases hp with rfl | rfl
    · rcases A with ⟨-, m92, r, v, m95, r2, hv, A⟩ | ⟨q, _⟩
      · refine ⟨x, Or.inl ⟨rfl, rfl⟩, m92, r, v, m95, r2, hv, ?_⟩
        rcases A with ⟨e, N', -, A⟩ | ⟨e, A⟩
        · exact Or.inl ⟨e, N', _, A⟩
        · rcases A with ⟨-, N', -, A⟩ | ⟨q, _⟩
          · exact Or.inr ⟨e, N', _, A⟩
          · exact absurd ha q
      · exact absurd rfl q
    · rcases A with ⟨q, _⟩ | ⟨-, y, ey, m92, r, v, m95, r2, hv, A⟩
      · exact absurd q (by decide)
      · refine ⟨y, Or.inr ⟨rfl, ey⟩, m92, r, v, m95, r2, hv, ?_⟩
        rcases A with ⟨e, N', -, A⟩ | ⟨e, A⟩
        · exact Or.inl ⟨e, N', _, A⟩
        · rcases A with ⟨-, N', -, A⟩ | ⟨q, _⟩
          · exact Or.inr ⟨e, N', _, A⟩
          · exact absurd ha q
  · exact absurd ha q
set_option maxRecDepth 16384 in
theorem cEnd {N : Nat} {x : MM} {o : Instr × List (Nat × Int) × MM} {p m c : Int} (hp : p = 0 ∨ p = 1) (m1 : m ≤ 19) (ha : f155 X x 1 1000029 = 0) (hb : f155 X x 1 1000030 = 0) (h : MR X ρ 8 0 0 qP95 N 15 [s, 1, 3, w, 1, p, m, c] [] x o) : (p = 0 ∧ o = (.ireturn, [(1, 1)], x)) ∨ (p = 1 ∧ (f101 x s 2 0 0 = 0 ∨ o = (.ireturn, [(1, 1)], g101 x s 2 0 0))) := by
  have A := s95_15 h
  rcases A with ⟨q, _⟩ | ⟨-, A⟩
  · omega
  rcases A with ⟨q, _⟩ | ⟨-, A⟩
  · exact absurd q (by decide)
  rcases A with ⟨-, A⟩ | ⟨q, _⟩
  · rcases A with ⟨-, A⟩ | ⟨q, _⟩
    · rcases hp with rfl | rfl
      · rcases A with ⟨-, A⟩ | ⟨q, _⟩
        · exact Or.inl ⟨rfl, A⟩
        · exact absurd rfl q
      · rcases A with ⟨q, _⟩ | ⟨-, y, ey, A⟩
        · exact absurd q (by decide)
        · rcases A with ⟨q, _⟩ | ⟨-, A⟩
          · exact Or.inr ⟨rfl, Or.inl q⟩
          · rw [ey] at A; exact Or.inr ⟨rfl, Or.inr A⟩
    · exact absurd hb q
  · exact absurd ha q
end CONDS
end
section
set_option maxRecDepth 16384 in
/-- how much is written so far at most -/
def Bd (o l o1 l1 p : Int) : Prop := l1 + p - l ≤ 2 * (o1 - o) - 1
set_option maxRecDepth 16384 in
theorem w17 {X : KO} (hS : XS X) {a b : MM} (h : TKR X a b) : f155 X a 1 1000029 = f217 b 148 17 := word_ok hS h (s := 28) (by decide)
set_option maxRecDepth 16384 in
theorem w16 {X : KO} (hS : XS X) {a b : MM} (h : TKR X a b) : f155 X a 1 1000030 = f217 b 148 16 := word_ok hS h (s := 29) (by decide)
set_option maxRecDepth 16384 in
theorem f217_e {b b' : MM} (h7 : b' 148 7 = b 148 7) (h12 : b' 148 12 = b 148 12) {i : Int} : f217 b' 148 i = f217 b 148 i := by
  have e : f291 b' i = f291 b i := rfl
  unfold f217
  rw [h7, h12, e]
section CHAIN
variable {X : KO} {ρ : Nat → Int32} {t : Int → Int} {L s w o l : Int}
set_option maxRecDepth 16384 in
/-- over the ANDs -/
theorem aC (hX : XW X) (hS : XS X) (hs : Sl s) (h1 : H1 X ρ t L s w) (l0 : l ≤ 2 * o) (o0 : 0 ≤ o) : ∀ (K N M : Nat) (x y : MM) (oA : Instr × List (Nat × Int) × MM) (o1 l1 m p c b1 : Int) (ig' : Instr) (rl' : List (Nat × Int)) (y' : MM), SCx X t L s x y → SNx s x y o1 l1 w → (p = 0 ∨ p = 1) → 0 ≤ m → m + 1 ≤ o1 → 20 - o1 < (K : Int) → Bd o l o1 l1 p → MR X ρ 8 0 0 qP95 N 15 [s, 1, 3, w, 1, p, m, c] [] x oA → MR X ρ 2 0 0 qP240 M 14 [148, b1] [] y (ig', rl', y') → Fr PB y y' ∧ ((rl' = [(1, 0)] ∧ oA.2.1 = [(1, 0)] ∧ FL oA.2.2 y' ∧ Fr (PA s) x oA.2.2) ∨ (rl' = [(1, 1)] ∧ ∃ (N' : Nat) (x1 : MM) (o2 l2 m' c' : Int), MR X ρ 8 0 0 qP95 N' 15 [s, 1, 3, w, 1, p, m', c'] [] x1 oA ∧ Fr (PA s) x x1 ∧ SCx X t L s x1 y' ∧ SNx s x1 y' o2 l2 w ∧ o1 ≤ o2 ∧ 0 ≤ m' ∧ m' + 1 ≤ o2 ∧ Bd o l o2 l2 p ∧ f217 y' 148 17 = 0)) := by
  intro K
  induction K with
  | zero =>
    intro N M x y oA o1 l1 m p c b1 ig' rl' y' hC hN hp m0 m1 hK
    have := hN.1.2.2.2
    omega
  | succ K ih =>
    intro N M x y oA o1 l1 m p c b1 ig' rl' y' hC hN hp m0 m1 hK hB ra rb
    have hN' := hN
    obtain ⟨⟨n1, n2, n3, n4⟩, ⟨n5, n6, n7⟩, n8, n9, n10⟩ := hN
    have p1 := hC.1.1.2
    have np5 : ¬ P148 s 5 := by unfold P148; unfold Sl at hs; omega
    have np4 : ¬ P148 s 4 := by unfold P148; unfold Sl at hs; omega
    have B := s240_14 rb
    rcases B with ⟨d, y7, e7, B⟩ | ⟨d, m9, r9, v14, m12, r12, hv, B⟩
    · cases B
      have f0 : Fr PB0 y y' := by rw [e7]; exact (Fr.rf _ _).mu (Or.inl ⟨rfl, by decide, by decide⟩)
      refine ⟨f0.mo fun x k q => Or.inr q, Or.inr ⟨rfl, N, x, o1, l1, m, c, ra, Fr.rf _ _, SC_0 hs hC (Fr.rf _ _) f0, ⟨⟨n1, ?_, n3, n4⟩, ⟨n5, n6, n7⟩, ?_, n9, n10⟩, Int.le_refl _, m0, m1, hB, ?_⟩⟩
      · rw [e7, mu_k (by decide)]; exact n2
      · rw [e7, mu_k (by decide)]; exact n8
      · rw [f217_e (b := y) (by rw [e7, mu_k (by decide)]) (by rw [e7, mu_k (by decide)])]; exact d
    · have ha : ¬ f155 X x 1 1000029 = 0 := by rw [w17 hS p1]; exact d
      obtain ⟨m48, r48, v, m51, r51, hv2, C⟩ := cAnd hp m0 (by omega) ha ra
      obtain ⟨g1, g2, g3, g4, g5⟩ := SC_go hX hs hC (Fr.rf _ _) r48 r9
      have hN1 : SNx s m48 m9 o1 l1 w := ⟨⟨by rw [g2 _ _ np5]; exact n1, by rw [g3 148 42 (by unfold P195; omega)]; exact n2, n3, n4⟩, ⟨by rw [g2 _ _ np4]; exact n5, n6, n7⟩, by rw [g3 148 43 (by unfold P195; omega)]; exact n8, n9, n10⟩
      obtain ⟨k1, k2, k3⟩ := h1 _ _ _ _ _ _ _ _ g1 hN1 r51 r12
      unfold Bd at hB
      rcases k3 with ⟨x1, x2, x3⟩ | ⟨x1, x2, x3, o', l', ⟨⟨q1, q2, q3, q4⟩, ⟨q5, q6, q7⟩, q8, -⟩, q11, q12⟩
      · rcases C with ⟨-, N', c', C⟩ | ⟨q, _⟩
        · rcases B with ⟨-, B⟩ | ⟨q, _⟩
          · have C := c0 C
            cases B
            rw [C]
            exact ⟨g5.tr k2, Or.inl ⟨rfl, rfl, x3, g4.tr k1⟩⟩
          · exact absurd x2 q
        · exact absurd x1 q
      · rcases C with ⟨q, _⟩ | ⟨-, C⟩
        · omega
        rcases B with ⟨q, _⟩ | ⟨-, y21, f21, M', -, B⟩
        · omega
        obtain ⟨j1, j2, j3, j4, j5, j6, j7, j8⟩ := wrS (z := y21) hs x3 (by omega) (by omega) 1 0 0 2 b1 (m12 148 44) 0 (by rw [f21]; exact Fr.rf _ _)
        rcases C with q | ⟨N', c', C⟩
        · rw [j1] at q; exact absurd q (by decide)
        obtain ⟨z1, z2⟩ := ih N' M' _ y21 oA o' (l' + 1) (m + 1) p c' _ ig' rl' y' j2 ⟨⟨by rw [j5]; exact q1, by rw [j6]; exact q2, q3, q4⟩, ⟨by rw [j7, q5], by omega, by omega⟩, by rw [j8]; exact q8, n9, n10⟩ hp (by omega) (by omega) (by omega) (by unfold Bd; omega) C B
        refine ⟨((g5.tr k2).tr j4).tr z1, ?_⟩
        rcases z2 with ⟨y1, y2, y3, y4⟩ | ⟨y1, N2, x2', o2, l2, m2, c2, y2, y3, y4, y5, y6, y7, y8, y9, y10⟩
        · exact Or.inl ⟨y1, y2, y3, ((g4.tr k1).tr j3).tr y4⟩
        · exact Or.inr ⟨y1, N2, x2', o2, l2, m2, c2, y2, ((g4.tr k1).tr j3).tr y3, y4, y5, by omega, y7, y8, y9, y10⟩
set_option maxRecDepth 16384 in
/-- over the ORs -/
theorem oC (hX : XW X) (hS : XS X) (hs : Sl s) (h1 : H1 X ρ t L s w) (l0 : l ≤ 2 * o) (o0 : 0 ≤ o) : ∀ (K N M : Nat) (x y : MM) (ig ig' : Instr) (rl rl' : List (Nat × Int)) (x' y' : MM) (o1 l1 m p c b1 : Int), SCx X t L s x y → SNx s x y o1 l1 w → (p = 0 ∨ p = 1) → 0 ≤ m → m + 1 ≤ o1 → 20 - o1 < (K : Int) → Bd o l o1 l1 p → f217 y 148 17 = 0 → MR X ρ 8 0 0 qP95 N 15 [s, 1, 3, w, 1, p, m, c] [] x (ig, rl, x') → MR X ρ 2 0 0 qP256 M 14 [148, b1] [] y (ig', rl', y') → Fr (PA s) x x' ∧ Fr PB y y' ∧ ((rl = [(1, 0)] ∧ rl' = [(1, 0)] ∧ FL x' y') ∨ (rl = [(1, 1)] ∧ rl' = [(1, 1)] ∧ SCx X t L s x' y' ∧ ∃ o' l', SNx s x' y' o' l' w ∧ o1 ≤ o' ∧ l' - l ≤ 2 * (o' - o) - 1)) := by
  intro K
  induction K with
  | zero =>
    intro N M x y ig ig' rl rl' x' y' o1 l1 m p c b1 hC hN hp m0 m1 hK
    have := hN.1.2.2.2
    omega
  | succ K ih =>
    intro N M x y ig ig' rl rl' x' y' o1 l1 m p c b1 hC hN hp m0 m1 hK hB h17 ra rb
    have hN' := hN
    obtain ⟨⟨n1, n2, n3, n4⟩, ⟨n5, n6, n7⟩, n8, n9, n10⟩ := hN
    have p1 := hC.1.1.2
    have np5 : ¬ P148 s 5 := by unfold P148; unfold Sl at hs; omega
    have np4 : ¬ P148 s 4 := by unfold P148; unfold Sl at hs; omega
    have ha : f155 X x 1 1000029 = 0 := by rw [w17 hS p1]; exact h17
    unfold Bd at hB
    have l39 : l1 + p ≤ 39 := by omega
    have l0' : 0 ≤ x s 4 := by omega
    have l1' : x s 4 < 40 := by omega
    have m19 : m ≤ 19 := by omega
    have q101 := g101_c hs hC.2.2.1.1 hC.2.2.1.2 l0' l1' 2 0 0
    have B := s256_14 rb
    rcases B with ⟨d, y7, e7, B⟩ | ⟨d, m9, r9, v14, m12, r12, hv, B⟩
    · have hb : f155 X x 1 1000030 = 0 := by rw [w16 hS p1]; exact d
      have f0 : Fr PB0 y y7 := by rw [e7]; exact (Fr.rf _ _).mu (Or.inl ⟨rfl, by decide, by decide⟩)
      have y42 : y7 148 42 = o1 := by rw [e7, mu_k (by decide)]; exact n2
      have y43 : y7 148 43 = w - 1 := by rw [e7, mu_k (by decide)]; exact n8
      have C := cEnd hp m19 ha hb ra
      cases B
      rcases C with ⟨ep, C⟩ | ⟨ep, C⟩
      · cases C
        exact ⟨Fr.rf _ _, f0.mo fun x k q => Or.inr q, Or.inr ⟨rfl, rfl, SC_0 hs hC (Fr.rf _ _) f0, o1, l1, ⟨⟨n1, y42, n3, n4⟩, ⟨n5, n6, n7⟩, y43, n9, n10⟩, Int.le_refl _, by omega⟩⟩
      · obtain ⟨j1, j2, j3, j4⟩ := q101
        rcases C with q | C
        · rw [j1] at q; exact absurd q (by decide)
        · cases C
          exact ⟨j2.mo fun x k q => Or.inr q, f0.mo fun x k q => Or.inr q, Or.inr ⟨rfl, rfl, SC_0 hs hC j2 f0, o1, l1 + 1, ⟨⟨by rw [j4]; exact n1, y42, n3, n4⟩, ⟨by rw [j3, n5], by omega, by omega⟩, y43, n9, n10⟩, Int.le_refl _, by omega⟩⟩
    · have hb : ¬ f155 X x 1 1000030 = 0 := by rw [w16 hS p1]; exact d
      obtain ⟨x0, hx0, m92, r92, v, m95, r95, hv2, C⟩ := cOr hp m0 m19 ha hb ra
      have hX0 : Fr (PA0 s) x x0 ∧ x0 s 4 = l1 + p ∧ x0 s 5 = o1 := by
        rcases hx0 with ⟨e1, e2⟩ | ⟨e1, e2⟩
        · rw [e2, e1]; exact ⟨Fr.rf _ _, by omega, n1⟩
        · obtain ⟨j1, j2, j3, j4⟩ := q101
          rw [e2, e1]
          exact ⟨j2, by rw [j3, n5], by rw [j4]; exact n1⟩
      obtain ⟨fx0, e4, e5⟩ := hX0
      have hC0 := SC_0 hs hC fx0 (Fr.rf PB0 y)
      obtain ⟨g1, g2, g3, g4, g5⟩ := SC_go hX hs hC0 (Fr.rf _ _) r92 r9
      have g4 : Fr (PA s) x m92 := (fx0.mo fun x k q => Or.inr q).tr g4
      have m42 : m9 148 42 = o1 := by rw [g3 148 42 (by unfold P195; decide)]; exact n2
      have m43 : m9 148 43 = w - 1 := by rw [g3 148 43 (by unfold P195; decide)]; exact n8
      have hp0 : 0 ≤ p := by
        rcases hp with e | e
        · rw [e]; decide
        · rw [e]; decide
      have hp1 : p ≤ 1 := by
        rcases hp with e | e
        · rw [e]; decide
        · rw [e]; decide
      have lb : 0 ≤ l1 + p ∧ l1 + p ≤ 2 * o1 := ⟨by omega, by omega⟩
      have hN1 : SNx s m92 m9 o1 (l1 + p) w := ⟨⟨by rw [g2 _ _ np5]; exact e5, m42, n3, n4⟩, ⟨by rw [g2 _ _ np4]; exact e4, lb.1, lb.2⟩, m43, n9, n10⟩
      obtain ⟨Nb, igb, r12⟩ := Run_CR r12 rfl
      have r12 : MR X ρ 2 0 0 qP240 Nb 0 [148, 0] [] m9 (igb, [(1, v14)], m12) := r12
      obtain ⟨v4, m2, r4, hv4, D⟩ := s240_0 r12
      obtain ⟨k1, k2, k3⟩ := h1 _ _ _ _ _ _ _ _ g1 hN1 r95 r4
      rcases k3 with ⟨x1, x2, x3⟩ | ⟨x1, x2, x3, o', l', q10, q11, q12⟩
      · rcases C with ⟨-, N', c', C⟩ | ⟨q, _⟩
        · have C := c0 C
          rcases D with ⟨-, D⟩ | ⟨q, _⟩
          · cases D
            rcases B with ⟨-, B⟩ | ⟨q, _⟩
            · cases B; cases C
              exact ⟨g4.tr k1, g5.tr k2, Or.inl ⟨rfl, rfl, x3⟩⟩
            · exact absurd rfl q
          · exact absurd x2 q
        · exact absurd x1 q
      · rcases C with ⟨q, _⟩ | ⟨-, N', c', C⟩
        · rw [x1] at q; exact absurd q (by decide)
        rcases D with ⟨q, _⟩ | ⟨-, D⟩
        · rw [x2] at q; exact absurd q (by decide)
        have bd2 : Bd o l o' l' 1 := by unfold Bd; omega
        obtain ⟨z1, z2⟩ := aC hX hS hs h1 l0 o0 21 N' Nb m95 m2 _ o' l' (m + 1) 1 c' _ igb _ m12 x3 q10 (Or.inr rfl) (by omega) (by omega) (by have := q10.1.2.2.1; omega) bd2 C D
        rcases z2 with ⟨y1, y2, y3, y4⟩ | ⟨y1, N2, x2', o2, l2, m2', c2, y2, y3, y4, y5, y6, y7, y8, y9, y10⟩
        · have y1 : v14 = 0 := by injection y1 with a1 a2; injection a1
          rcases B with ⟨-, B⟩ | ⟨q, _⟩
          · cases B
            exact ⟨(g4.tr k1).tr y4, (g5.tr k2).tr z1, Or.inl ⟨y2, rfl, y3⟩⟩
          · exact absurd y1 q
        · have y1 : v14 = 1 := by injection y1 with a1 a2; injection a1
          rcases B with ⟨q, _⟩ | ⟨-, y21, f21, M', -, B⟩
          · rw [y1] at q; exact absurd q (by decide)
          have fg := g268_c y4.2.2.2 3 b1 (m12 148 44) 0
          rw [← f21] at fg
          have f0 : Fr PB0 m12 y21 := fg.mo fun x k q => by
            rcases q with ⟨a1, a2⟩ | a1
            · exact Or.inl ⟨a1, by rw [a2]; decide, by rw [a2]; decide⟩
            · exact Or.inr a1
          have hC2 := SC_0 hs y4 (Fr.rf _ _) f0
          obtain ⟨⟨u1, u2, u3, u4⟩, u5, u6, u7⟩ := y5
          have v42 : y21 148 42 = o2 := by rw [fg 148 42 (by decide)]; exact u2
          have v43 : y21 148 43 = w - 1 := by rw [fg 148 43 (by decide)]; exact u6
          have h17' : f217 y21 148 17 = 0 := by rw [f217_e (b := m12) (fg _ _ (by decide)) (fg _ _ (by decide))]; exact y10
          obtain ⟨t1, t2, t3⟩ := ih N2 M' x2' y21 ig ig' rl rl' x' y' o2 l2 m2' 1 c2 _ hC2 ⟨⟨u1, v42, u3, u4⟩, u5, v43, u7⟩ (Or.inr rfl) y7 y8 (by omega) y9 h17' y2 B
          refine ⟨((g4.tr k1).tr y3).tr t1, (((g5.tr k2).tr z1).tr (f0.mo fun x k q => Or.inr q)).tr t2, ?_⟩
          rcases t3 with t3 | ⟨t3, t4, t5, o9, l9, t6, t7, t8⟩
          · exact Or.inl t3
          · exact Or.inr ⟨t3, t4, t5, o9, l9, t6, by omega, t8⟩
set_option maxRecDepth 16384 in
theorem cond_H (hX : XW X) (hS : XS X) (hs : Sl s) (h1 : H1 X ρ t L s w) : H2 X ρ t L s w := by
  intro a a' b b' v v' o l hC hN ra rb
  obtain ⟨N, ig, ra⟩ := Run_CR ra rfl
  have ra : MR X ρ 8 0 0 qP95 N 0 [s, 1, 3, w, 0, 0, 0, 0] [] a (ig, [(1, v)], a') := ra
  obtain ⟨M, ig', rb⟩ := Run_CR rb rfl
  have rb : MR X ρ 2 0 0 qP256 M 0 [148, 0] [] b (ig', [(1, v')], b') := rb
  obtain ⟨v4, m2, r4, hv4, A⟩ := s95_0 ra
  obtain ⟨v5, n2, r5, hv5, B⟩ := s256_0 rb
  obtain ⟨Nb, igb, r5⟩ := Run_CR r5 rfl
  have r5 : MR X ρ 2 0 0 qP240 Nb 0 [148, 0] [] b (igb, [(1, v5)], n2) := r5
  obtain ⟨v6, m6, r6, hv6, D⟩ := s240_0 r5
  have hl := hN.2.1.2.2
  have ho := hN.1.2.2.1
  obtain ⟨k1, k2, k3⟩ := h1 _ _ _ _ _ _ _ _ hC hN r4 r6
  rcases k3 with ⟨x1, x2, x3⟩ | ⟨x1, x2, x3, o', l', q10, q11, q12⟩
  · rcases D with ⟨-, D⟩ | ⟨q, _⟩
    · cases D
      rcases B with ⟨-, B⟩ | ⟨q, _⟩
      · rw [x1] at A
        have A := c0 A
        cases A; cases B
        exact ⟨k1, k2, Or.inl ⟨rfl, rfl, x3⟩⟩
      · exact absurd rfl q
    · exact absurd x2 q
  · rcases D with ⟨q, _⟩ | ⟨-, D⟩
    · rw [x2] at q; exact absurd q (by decide)
    rw [x1] at A
    have bd : Bd o l o' l' 0 := by unfold Bd; omega
    obtain ⟨z1, z2⟩ := aC hX hS hs h1 hl ho 21 N Nb m2 m6 _ o' l' 0 0 0 _ igb _ n2 x3 q10 (Or.inl rfl) (Int.le_refl _) (by omega) (by omega) bd A D
    rcases z2 with ⟨y1, y2, y3, y4⟩ | ⟨y1, N2, x2', o2, l2, m2', c2, y2, y3, y4, y5, y6, y7, y8, y9, y10⟩
    · have y1 : v5 = 0 := by injection y1 with a1 a2; injection a1
      rcases B with ⟨-, B⟩ | ⟨q, _⟩
      · cases B
        have y2 : v = 0 := by
          have y2 : [(1, v)] = [((1 : Nat), (0 : Int))] := y2
          injection y2 with a1 a2; injection a1
        exact ⟨k1.tr y4, k2.tr z1, Or.inl ⟨y2, rfl, y3⟩⟩
      · exact absurd y1 q
    · have y1 : v5 = 1 := by injection y1 with a1 a2; injection a1
      rcases B with ⟨q, _⟩ | ⟨-, B⟩
      · rw [y1] at q; exact absurd q (by decide)
      obtain ⟨t1, t2, t3⟩ := oC hX hS hs h1 hl ho 21 N2 M x2' n2 ig ig' _ _ a' b' o2 l2 m2' 0 c2 _ y4 y5 (Or.inl rfl) y7 y8 (by have := y5.1.2.2.1; omega) y9 y10 y2 B
      refine ⟨(k1.tr y3).tr t1, (k2.tr z1).tr t2, ?_⟩
      rcases t3 with ⟨e1, e2, e3⟩ | ⟨e1, e2, t5, o9, l9, t6, t7, t8⟩
      · have e1 : v = 0 := by injection e1 with a1 a2; injection a1
        have e2 : v' = 0 := by injection e2 with a1 a2; injection a1
        exact Or.inl ⟨e1, e2, e3⟩
      · have e1 : v = 1 := by injection e1 with a1 a2; injection a1
        have e2 : v' = 1 := by injection e2 with a1 a2; injection a1
        exact Or.inr ⟨e1, e2, t5, o9, l9, t6, by omega, t8⟩
set_option maxRecDepth 16384 in
theorem all_H (hX : XW X) (hS : XS X) (hs : Sl s) : ∀ (K : Nat) (w : Int), 9 - w ≤ (K : Int) → H1 X ρ t L s w ∧ H2 X ρ t L s w := by
  intro K
  induction K with
  | zero =>
    intro w hw
    have h := one_H (ρ := ρ) (t := t) (L := L) hX hS hs (w := w) (fun h => by omega)
    exact ⟨h, cond_H hX hS hs h⟩
  | succ K ih =>
    intro w hw
    have h := one_H (ρ := ρ) (t := t) (L := L) hX hS hs (w := w) (fun h => ih (w + 1) (by omega))
    exact ⟨h, cond_H hX hS hs h⟩
end CHAIN
end
section
set_option maxRecDepth 16384 in
theorem LSe_s {a b : MM} (h : C2 a b) {s : Int} (hs : Sl s) : LSe a s := by
  obtain ⟨-, -, ⟨-, h2, h3, h4, -⟩, -⟩ := h
  rcases hs with rfl | rfl | rfl | rfl
  · exact h3
  · exact h4
  · exact (h2 0 (by decide) (by decide)).2.2.2.2.2
  · exact (h2 1 (by decide) (by decide)).2.2.2.2.2
set_option maxRecDepth 16384 in
theorem L269_fr {m : MM} (h14 : m 148 14 = 150) : Fr (fun x _ => x = 150) m (L269_79 m 148 0).2.2.2 := by
  unfold L269_79
  refine Lp_ind (f := K269_79 m 148 0) (P := fun t => 0 ≤ t.1 ∧ t.1 ≤ 240 ∧ Fr (fun x _ => x = 150) m t.2) (Q := fun z => Fr (fun x _ => x = 150) m z.2.2.2) (fun t => (240 - t.1).toNat) ?_ (0, m) ⟨Int.le_refl _, by dsimp only; decide, Fr.rf _ _⟩
  rintro ⟨i, n⟩ ⟨c1, c2, c3⟩
  dsimp only at c1 c2 c3
  have e : K269_79 m 148 0 (i, n) = S269_79 n 148 i := rfl
  rw [e]
  unfold S269_79
  by_cases c : 240 ≤ i
  · rw [if_pos c]; exact Or.inr ⟨_, rfl, c3⟩
  · rw [if_neg c, s32_id (z := i + 1) (by omega) (by omega), c3 148 14 (by decide), h14]
    exact Or.inl ⟨_, rfl, ⟨by dsimp only; omega, by dsimp only; omega, c3.mu rfl⟩, by dsimp only; omega⟩
set_option maxRecDepth 16384 in
theorem sent_pair {X : KO} {ρ : Nat → Int32} {a a' b b' : MM} {rl rl' : List (Nat × Int)} {L s : Int} (hX : XW X) (hS : XS X) (hc : C2 a b) (t12 : a 0 12 = s) (hs : Sl s) (l40 : a (s + 1) (-1) = 40) (u40 : b 148 40 = 166) (hT : TapeR a b L) (t00 : a 0 0 = 1) (t0 : a 1 0 = 2) (t1 : a 2 (-1) = 940) (u1 : b 148 1 = 149) (ra : Run X ρ 31 [(1, 0)] a rl a') (rb : Run X ρ 269 [(1, 148)] b rl' b') : rl = rl' ∧ a' 0 13 = b' 148 10 := by
  obtain ⟨v1, v2, v3, v4, v5⟩ := hT
  have t01 : a 0 1 = 3 := hc.1.1.1
  have s0 : s ≠ 0 ∧ s ≠ 1 ∧ s ≠ 2 ∧ 90 < s ∧ s < 140 := by unfold Sl at hs; omega
  have hle := LSe_s hc hs
  obtain ⟨N, ig, ra⟩ := Run_CR ra rfl
  have ra : MR X ρ 2 0 0 qP31 N 0 [0, 0] [] a (ig, rl, a') := ra
  obtain ⟨M, ig', rb⟩ := Run_CR rb rfl
  have rb : MR X ρ 2 0 0 qP269 M 0 [148, 0] [] b (ig', rl', b') := rb
  obtain ⟨m2, r2, y4, e4, y5, e5, A⟩ := s31_0 ra
  rw [t12, t00, t01] at r2
  obtain ⟨N2, ig2, r2⟩ := Run_CR r2 rfl
  have r2 : MR X ρ 3 0 0 qP100 N2 0 [s, 1, 3] [] a (ig2, [], m2) := r2
  obtain ⟨y6, e6, m8, r8, v13, m11, r11, hv, C⟩ := s100_0 r2
  obtain ⟨N8, ig8, r8⟩ := Run_CR r8 rfl
  have r8 : MR X ρ 2 0 0 qP149 N8 0 [1, 200] [] y6 (ig8, [], m8) := r8
  obtain ⟨m8', r8b, e⟩ := i149_0 r8
  have e : m8 = m8' := congrArg (fun z => z.2.2) e
  subst e
  clear r8
  obtain ⟨n2, q2, z4, f4, z5, f5, z6, f6, v10, n8, q8, hv', B⟩ := s269_0 rb
  obtain ⟨Nb, igb, q2⟩ := Run_CR q2 rfl
  have q2 : MR X ρ 2 0 0 qP169 Nb 0 [148, 200] [] b (igb, [], n2) := q2
  obtain ⟨mb', rb2, e⟩ := i169_0 q2
  have e : n2 = mb' := congrArg (fun z => z.2.2) e
  subst e
  clear q2
  have ef : f283 (mu b 148 0 0) 148 = L := by
    show (mu b 148 0 0) 148 2 = L
    rw [mu_k (by decide)]
    exact v2
  have eg : g283 (mu b 148 0 0) 148 = mu (mu b 148 0 0) 148 2 0 := rfl
  rw [ef, eg] at rb2
  have Fb : Fr (fun x k => x = 148 ∧ (k = 0 ∨ k = 2 ∨ k = 3 ∨ k = 4 ∨ k = 10 ∨ k = 5)) b (mu (mu (mu (mu (mu (mu b 148 0 0) 148 2 0) 148 3 L) 148 4 200) 148 10 0) 148 5 0) := ((((((Fr.rf _ _).mu ⟨rfl, by omega⟩).mu ⟨rfl, by omega⟩).mu ⟨rfl, by omega⟩).mu ⟨rfl, by omega⟩).mu ⟨rfl, by omega⟩).mu ⟨rfl, by omega⟩
  have w3 : (mu (mu (mu (mu (mu (mu b 148 0 0) 148 2 0) 148 3 L) 148 4 200) 148 10 0) 148 5 0) 148 3 = L := by rw [mu_k (by decide), mu_k (by decide), mu_k (by decide), mu_s]
  have w4 : (mu (mu (mu (mu (mu (mu b 148 0 0) 148 2 0) 148 3 L) 148 4 200) 148 10 0) 148 5 0) 148 4 = 200 := by rw [mu_k (by decide), mu_k (by decide), mu_s]
  have w10 : (mu (mu (mu (mu (mu (mu b 148 0 0) 148 2 0) 148 3 L) 148 4 200) 148 10 0) 148 5 0) 148 10 = 0 := by rw [mu_k (by decide), mu_s]
  have w5 : (mu (mu (mu (mu (mu (mu b 148 0 0) 148 2 0) 148 3 L) 148 4 200) 148 10 0) 148 5 0) 148 5 = 0 := mu_s _ _ _ _
  revert rb2 Fb w3 w4 w10 w5
  generalize (mu (mu (mu (mu (mu (mu b 148 0 0) 148 2 0) 148 3 L) 148 4 200) 148 10 0) 148 5 0) = b0
  intro rb2 Fb w3 w4 w10 w5
  have ey6 : y6 = mu (mu a s 4 0) s 5 0 := e6
  have Fa : Fr (fun x k => (x = 1 ∧ (k = 2 ∨ k = 3 ∨ k = 9 ∨ k = 10)) ∨ (x = s ∧ (k = 4 ∨ k = 5))) a (mu (mu (mu (mu y6 1 2 200) 1 3 0) 1 9 0) 1 10 0) := by
    rw [ey6]
    exact ((((((Fr.rf _ _).mu (Or.inr ⟨rfl, Or.inl rfl⟩)).mu (Or.inr ⟨rfl, Or.inr rfl⟩)).mu (Or.inl ⟨rfl, by omega⟩)).mu (Or.inl ⟨rfl, by omega⟩)).mu (Or.inl ⟨rfl, by omega⟩)).mu (Or.inl ⟨rfl, by omega⟩)
  have x2 : (mu (mu (mu (mu y6 1 2 200) 1 3 0) 1 9 0) 1 10 0) 1 2 = 200 := by rw [mu_k (by decide), mu_k (by decide), mu_k (by decide), mu_s]
  have x3 : (mu (mu (mu (mu y6 1 2 200) 1 3 0) 1 9 0) 1 10 0) 1 3 = 0 := by rw [mu_k (by decide), mu_k (by decide), mu_s]
  have x9 : (mu (mu (mu (mu y6 1 2 200) 1 3 0) 1 9 0) 1 10 0) 1 9 = 0 := by rw [mu_k (by decide), mu_s]
  have xs : ∀ k, (mu (mu (mu (mu y6 1 2 200) 1 3 0) 1 9 0) 1 10 0) s k = y6 s k := fun k => by rw [mu_a s0.2.1, mu_a s0.2.1, mu_a s0.2.1, mu_a s0.2.1]
  have xs4 : (mu (mu (mu (mu y6 1 2 200) 1 3 0) 1 9 0) 1 10 0) s 4 = 0 := by rw [xs, ey6, mu_k (by decide), mu_s]
  have xs5 : (mu (mu (mu (mu y6 1 2 200) 1 3 0) 1 9 0) 1 10 0) s 5 = 0 := by rw [xs, ey6, mu_s]
  clear xs
  revert r8b Fa x2 x3 x9 xs4 xs5
  generalize (mu (mu (mu (mu y6 1 2 200) 1 3 0) 1 9 0) 1 10 0) = a0
  intro r8b Fa x2 x3 x9 xs4 xs5
  have p0 : PR0 (fun j => b 149 j) L 200 a0 b0 := by
    refine ⟨⟨by rw [Fa 1 0 (by omega)]; exact t0, by rw [Fa 1 1 (by omega)]; exact v1, v3, v4, by rw [Fa 2 _ (by omega)]; exact t1, fun j j1 j2 => by rw [Fa 2 _ (by omega)]; exact v5 j j1 j2⟩, ⟨by rw [Fb 148 1 (by omega)]; exact u1, w3, v3, v4, fun j j1 j2 => by rw [Fb 149 j (by omega)]⟩, x2, w4, by rw [x3, w5], by omega, by omega⟩
  obtain ⟨st, g1, g2⟩ := goT hX p0 x9 w10 r8b rb2
  have F8 : Fr (fun x k => (x = 1 ∧ 2 ≤ k) ∨ (x = s ∧ (k = 4 ∨ k = 5))) a m8 := (Fa.mo fun x k q => by omega).tr (g1.mo fun x k q => by unfold P148 at q; omega)
  have G2 : Fr (fun x k => x = 148 ∧ 0 ≤ k ∧ k ≤ 13) b n2 := (Fb.mo fun x k q => by omega).tr (g2.mo fun x k q => by unfold P195 at q; omega)
  have f63 : Fr PB0 n2 z6 := by rw [f6, f5, f4]; exact (((Fr.rf _ _).mu (Or.inl ⟨rfl, by decide, by decide⟩)).mu (Or.inl ⟨rfl, by decide, by decide⟩)).mu (Or.inl ⟨rfl, by decide, by decide⟩)
  have hC2 : C2 m8 n2 := C2_fr hc (fun x k q => F8 x k (by unfold PCs at q; unfold Sl at hs; omega)) (fun x k q => G2 x k (by unfold PJs at q; omega))
  have hSC0 : SCx X (fun j => b 149 j) L s m8 n2 := by
    obtain ⟨l0, l1, l2⟩ := hle
    refine ⟨st, hC2, ⟨⟨?_, ?_, ?_⟩, ?_⟩, ?_⟩
    · rw [F8 _ _ (by omega)]; exact l0
    · rw [F8 _ _ (by omega)]; exact l1
    · rw [F8 _ _ (by omega)]; exact l2
    · rw [F8 _ _ (by omega)]; exact l40
    · rw [G2 _ _ (by omega)]; exact u40
  have hSC := SC_0 hs hSC0 (Fr.rf _ _) f63
  have hSN : SNx s m8 z6 0 0 1 := by
    refine ⟨⟨?_, ?_, by decide, by decide⟩, ⟨?_, by decide, by decide⟩, ?_, by decide, by decide⟩
    · rw [g1 _ _ (by unfold P148; omega)]; exact xs5
    · rw [f6, mu_k (by decide), f5, mu_s]
    · rw [g1 _ _ (by unfold P148; omega)]; exact xs4
    · rw [f6, mu_s]; decide
  obtain ⟨k1, k2, k3⟩ := (all_H hX hS hs 8 1 (by decide)).2 _ _ _ _ _ _ _ _ hSC hSN r11 q8
  have mm : ∀ z : MM, Fr (PA s) m11 z → m2 = z → m2 0 0 = 1 ∧ m2 0 12 = s := fun z hz e => by
    rw [e]
    refine ⟨?_, ?_⟩
    · rw [hz _ _ (by unfold PA PA0; omega), k1 _ _ (by unfold PA PA0; omega), F8 _ _ (by omega)]; exact t00
    · rw [hz _ _ (by unfold PA PA0; omega), k1 _ _ (by unfold PA PA0; omega), F8 _ _ (by omega)]; exact t12
  -- the end where it is refused
  have bad : ∀ z : MM, m2 0 0 = 1 → FL m2 z → rl' = [(1, s32 ((-1) - z 148 11))] → b' = z → rl = rl' ∧ a' 0 13 = b' 148 10 := fun z e0 hF e1 e2 => by
    rw [e0] at e4
    have y40 : y4 0 0 = 1 := by rw [e4, mu_k (by decide)]; exact e0
    rw [y40] at e5
    have y513 : y5 0 13 = m2 1 9 := by rw [e5, mu_a (by decide), e4, mu_s]
    have y500 : y5 0 0 = 1 := by rw [e5, mu_a (by decide)]; exact y40
    have y510 : y5 1 10 = m2 1 10 := by rw [e5, mu_k (by decide), e4, mu_a (by decide)]
    rcases A with ⟨c, _⟩ | ⟨c, A⟩
    · rw [y513] at c; exact absurd c hF.2.2
    · rw [y500, y510, hF.2.1] at A
      cases A
      rw [e1, e2, y513]
      exact ⟨rfl, hF.1⟩
  rcases k3 with ⟨x1, x2', x3'⟩ | ⟨x1, x2', x3', o', l', ⟨⟨q1, q2', q3, q4⟩, -⟩, -⟩
  · rcases C with ⟨-, C⟩ | ⟨c, _⟩
    · rcases B with ⟨-, B⟩ | ⟨c, _⟩
      · have em : m2 = m11 := congrArg (fun z => z.2.2) C
        have h := mm m11 (Fr.rf _ _) em
        cases B
        exact bad _ h.1 (by rw [em]; exact x3') rfl rfl
      · exact absurd x2' c
    · exact absurd x1 c
  · rcases C with ⟨c, _⟩ | ⟨-, C⟩
    · omega
    rcases B with ⟨c, _⟩ | ⟨-, B⟩
    · omega
    have tk := x3'.1.1.2
    have kz : m11 1 4 = 0 ↔ n8 148 7 = 0 := by
      rcases tk.2.2 with ⟨q, q'⟩ | ⟨q, q'⟩ | ⟨q, q', -⟩ | ⟨q, q', -⟩ | ⟨q, q', -⟩ <;> rw [q, q'] <;> decide
    rcases C with ⟨c, C⟩ | ⟨c, y21, e21, C⟩
    · have em : m2 = m11 := congrArg (fun z => z.2.2) C
      obtain ⟨h00, h12⟩ := mm m11 (Fr.rf _ _) em
      rcases B with ⟨-, y13, f13, y14, f14, B⟩ | ⟨d, _⟩
      · have w14 : n8 148 14 = 150 := x3'.2.1.1.2.1.bn
        rw [w14] at f13
        have w14' : y13 148 14 = 150 := by rw [f13, mu_a (by decide)]; exact w14
        rw [w14'] at f14
        have w14'' : y14 148 14 = 150 := by rw [f14, mu_a (by decide)]; exact w14'
        have FL := L269_fr w14''
        have v42 : (L269_79 y14 148 0).2.2.2 148 42 = o' := by rw [FL 148 42 (by decide), f14, mu_a (by decide), f13, mu_a (by decide)]; exact q2'
        have v10' : (L269_79 y14 148 0).2.2.2 148 10 = 0 := by rw [FL 148 10 (by decide), f14, mu_a (by decide), f13, mu_a (by decide)]; exact x3'.1.2.2
        rw [v42] at B
        cases B
        rw [h00] at e4
        have y40 : y4 0 0 = 1 := by rw [e4, mu_k (by decide)]; exact h00
        rw [y40] at e5
        have y513 : y5 0 13 = 0 := by rw [e5, mu_a (by decide), e4, mu_s, em]; exact x3'.1.2.1
        have y512 : y5 0 12 = s := by rw [e5, mu_a (by decide), e4, mu_k (by decide)]; exact h12
        have y5s : y5 s 5 = o' := by rw [e5, mu_a s0.2.1, e4, mu_a s0.1, em]; exact q1
        rcases A with ⟨-, y7, e7, y8, e8, A⟩ | ⟨d, _⟩
        · have y811 : y8 0 11 = s := by rw [e8, mu_k (by decide), e7, mu_s]; exact y512
          have y8s : y8 s 5 = o' := by rw [e8, mu_a s0.1, e7, mu_a s0.1]; exact y5s
          rw [y811, y8s] at A
          cases A
          refine ⟨rfl, ?_⟩
          rw [v10', e8, mu_k (by decide), e7, mu_k (by decide)]
          exact y513
        · exact absurd y513 d
      · exact absurd (kz.mp c) d
    · have em : m2 = g158 m11 1 1 := by
        have : m2 = y21 := congrArg (fun z => z.2.2) C
        rw [this, e21]
      obtain ⟨h00, h12⟩ := mm _ (PT_PA (Fr_158 _ _)) em
      rcases B with ⟨d, _⟩ | ⟨-, y20, f20, B⟩
      · exact absurd (kz.mpr d) c
      · cases B
        exact bad _ h00 (by rw [em, f20]; exact bad_ok tk (by decide) (Or.inl rfl)) rfl rfl
end
