/-! Ask: who was found. -/
set_option maxRecDepth 16384 in
theorem or256 {y i : Int} (y0 : 0 ≤ y) (y1 : y < 256) (i0 : 0 ≤ i) (i8 : i < 8) : 0 ≤ jor y (jshl 1 i) ∧ jor y (jshl 1 i) < 256 := by
  have key : ∀ y : Nat, y < 256 → ∀ i : Nat, i < 8 → 0 ≤ o32 (fun a b => a ||| b) (y : Int) (o32 (fun a b => a <<< (b &&& 31)) 1 (i : Int)) ∧ o32 (fun a b => a ||| b) (y : Int) (o32 (fun a b => a <<< (b &&& 31)) 1 (i : Int)) < 256 := by decide +kernel
  obtain ⟨n, rfl⟩ : ∃ n : Nat, y = (n : Int) := ⟨y.toNat, by omega⟩
  obtain ⟨k, rfl⟩ : ∃ k : Nat, i = (k : Int) := ⟨i.toNat, by omega⟩
  rw [jor_eq, jshl_eq]
  exact key n (by omega) k (by omega)
set_option maxRecDepth 16384 in
theorem mask_r {a c : MM} (h : Sx a c 15) (n : Int) : (0 ≤ (L192_83 c 148 n 0 0 0 0 0).2.2.1 ∧ (L192_83 c 148 n 0 0 0 0 0).2.2.1 < 256) ∧ ∀ j, a 3 7 ≤ j → j < 8 → jand ((L192_83 c 148 n 0 0 0 0 0).2.2.1) (jshl 1 j) = 0 := by
  obtain ⟨e, e0, e8⟩ := h.f
  unfold L192_83
  refine Lp_ind (f := K192_83 c 148 n 0 0 0 0 0) (P := fun u => 0 ≤ u.2 ∧ u.2 ≤ a 3 7 ∧ (0 ≤ u.1 ∧ u.1 < 256) ∧ ∀ j, a 3 7 ≤ j → j < 8 → jand u.1 (jshl 1 j) = 0) (Q := fun t => (0 ≤ t.2.2.1 ∧ t.2.2.1 < 256) ∧ ∀ j, a 3 7 ≤ j → j < 8 → jand t.2.2.1 (jshl 1 j) = 0) (fun u => (a 3 7 - u.2).toNat) ?_ (0, 0) ⟨Int.le_refl _, e0, ⟨Int.le_refl _, by decide⟩, fun j _ _ => jand_0 _⟩
  rintro ⟨y, i⟩ ⟨c2, c3, c4, c5⟩
  dsimp only at c2 c3 c4 c5
  have eB : K192_83 c 148 n 0 0 0 0 0 (y, i) = S192_83 c 148 n y i 0 0 0 := rfl
  rw [eB]
  unfold S192_83
  rw [h.bn, ← e]
  by_cases d : a 3 7 ≤ i
  · rw [if_pos d]
    exact Or.inr ⟨_, rfl, c4, c5⟩
  · rw [if_neg d, s32_id (z := i + 1) (by omega) (by omega)]
    left
    split
    · exact ⟨_, rfl, ⟨by dsimp only; omega, by dsimp only; omega, c4, c5⟩, by dsimp only; omega⟩
    · exact ⟨_, rfl, ⟨by dsimp only; omega, by dsimp only; omega, or256 c4.1 c4.2 c2 (by omega), fun j j0 j1 => (jor_jand0 _ _ _).mpr ⟨c5 j j0 j1, (shl2 c2 (by omega) (by omega) j1).mpr (by omega)⟩⟩, by dsimp only; omega⟩
set_option maxRecDepth 16384 in
theorem C2_31 {a m : MM} (h : C2 a m) (v : Int) : C2 a (mu m 148 31 v) := C2_fr3 h (fun _ _ _ => rfl) (fun x k q _ => by
  by_cases c : x = 148
  · exact mu_k (by unfold PJs at q; omega)
  · exact mu_a c)
set_option maxRecDepth 16384 in
theorem ask_l {a c : MM} (h : C2 a c) {x : Int} (x0 : 0 ≤ x) (x1 : x < 256) (hx : ∀ j, a 3 7 ≤ j → j < 8 → jand x (jshl 1 j) = 0) (hp0 : 0 < a 3 6) (n : Int) : (L44_8 a x 15 (-1) 9 0 0 0).2.2.1 = ((L192_125 c 148 n x (-1) 0 0 0).2.2.2.2.2.2) 148 31 := by
  have hp := h.1.2.1.p
  unfold L44_8 L192_125
  refine Lp_sim (f := K44_8 a x 15 (-1) 9 0 0 0) (f' := K192_125 c 148 n x (-1) 0 0 0) (P := fun u v => u.2.2.1 = v.2.1 ∧ 0 ≤ v.2.1 ∧ v.2.1 ≤ a 3 6 ∧ C2 a v.2.2.2.2 ∧ ((v.2.1 = 0 ∧ u.2.1 = 9 ∧ v.1 = -1) ∨ (0 ≤ u.2.1 ∧ u.2.1 ≤ 8 ∧ v.1 = u.2.1 ∧ v.2.2.2.2 148 31 = u.1))) (Q := fun t t' => t.2.2.1 = (t'.2.2.2.2.2.2) 148 31) (fun u => (a 3 6 - u.2.2.1).toNat) ?_ (-1, 9, 0, 0, 0) (-1, 0, 0, 0, c) ⟨rfl, Int.le_refl _, hp.2.1, h, Or.inl ⟨rfl, rfl, rfl⟩⟩
  rintro ⟨w, d, p, u4, u5⟩ ⟨o, p', v3, v4, m⟩ ⟨c1, c2, c3, c4, c5⟩
  dsimp only at c1 c2 c3 c4 c5
  subst c1
  have hS := c4.1.2.1
  have eA : K44_8 a x 15 (-1) 9 0 0 0 (w, d, p, u4, u5) = S44_8 a x 15 w d p u4 u5 := rfl
  have eB : K192_125 c 148 n x (-1) 0 0 0 (o, p, v3, v4, m) = S192_125 m 148 n x o p v3 v4 := rfl
  rw [eA, eB]
  unfold S44_8 S192_125
  rw [hS.le, hS.bn, ← hS.p.1]
  by_cases g : a 3 6 ≤ p
  · rw [if_pos g, if_pos g]
    refine Or.inr ⟨_, _, rfl, rfl, ?_⟩
    rcases c5 with ⟨q1, q2, q3⟩ | ⟨q1, q2, q3, q4⟩
    · omega
    · exact q4.symm
  · obtain ⟨k1, k2, k3⟩ := off_eq hS x0 x1 hx c2 (by omega : p < a 3 6) n o w d
    rw [if_neg g, if_neg g, s32_id (z := p + 1) (by omega) (by omega), ← k1]
    left
    rcases c5 with ⟨q1, q2, q3⟩ | ⟨q1, q2, q3, q4⟩
    · rw [if_neg (by omega), if_pos q3]
      exact ⟨_, _, rfl, rfl, ⟨rfl, by dsimp only; omega, by dsimp only; omega, C2_31 c4 _, Or.inr ⟨k2, k3, rfl, by dsimp only; exact mu_s m 148 31 p⟩⟩, by dsimp only; omega⟩
    · rw [if_neg (by omega : ¬ o = -1)]
      by_cases z : d ≤ jabs ((L44_26 a x 15 w d p 0 0).2.2.1)
      · rw [if_pos z, if_neg (by omega)]
        exact ⟨_, _, rfl, rfl, ⟨rfl, by dsimp only; omega, by dsimp only; omega, c4, Or.inr ⟨q1, q2, q3, q4⟩⟩, by dsimp only; omega⟩
      · rw [if_neg z, if_pos (by omega)]
        exact ⟨_, _, rfl, rfl, ⟨rfl, by dsimp only; omega, by dsimp only; omega, C2_31 c4 _, Or.inr ⟨k2, k3, rfl, by dsimp only; exact mu_s m 148 31 p⟩⟩, by dsimp only; omega⟩
set_option maxRecDepth 16384 in
theorem ask_x {a b : MM} (h : C2 a b) (h8 : a 0 8 = 92) (h0 : a 0 0 = 1) (h10 : a 1 0 = 2) (hl : a 2 (-1) = 940) (hb1 : b 148 1 = 149) {u : Int} (hT : TapeR a b u) (hx : a 92 1 = b 148 31) : (g16 a 0) 92 1 = (g192 b 148) 148 31 := by
  obtain ⟨t1, t2, t3, t4, t5⟩ := hT
  have hC : C2 a (g283 (mu b 148 0 0) 148) := C2_fr3 h (fun _ _ _ => rfl) (fun x k q _ => by
    unfold g283
    by_cases c : x = 148
    · rw [mu_k (by unfold PJs at q; omega), mu_k (by unfold PJs at q; omega)]
    · rw [mu_a c, mu_a c])
  have e283 : f283 (mu b 148 0 0) 148 = u := by
    unfold f283
    exact (mu_k (by decide)).trans t2
  have hc1 : (g283 (mu b 148 0 0) 148) 148 1 = 149 := by
    unfold g283
    exact (mu_k (by decide)).trans ((mu_k (by decide)).trans hb1)
  have hcx : a 92 1 = (g283 (mu b 148 0 0) 148) 148 31 := by
    unfold g283
    exact hx.trans ((mu_k (by decide)).trans (mu_k (by decide))).symm
  have hcT : ∀ j, 0 ≤ j → j < u → jand (a 2 j) 255 = (g283 (mu b 148 0 0) 148) 149 j := fun j j0 j1 => (t5 j j0 j1).trans (by
    unfold g283
    exact ((mu_a (by decide)).trans (mu_a (by decide))).symm)
  have h3 : a 0 3 = 15 := h.1.1.2.1
  have e16 : (g16 a 0) 92 1 = (g42 a 92 1 15) 92 1 := by
    unfold g16
    rw [h8, h0, h3]
    have e00 : (g42 a 92 1 15) 0 0 = 1 := by
      unfold g42
      (repeat' split) <;> first
        | exact h0
        | exact (mu_a (by decide)).trans h0
    rw [e00]
    exact mu_a (by decide)
  rw [e16]
  unfold g192
  rw [e283]
  generalize g283 (mu b 148 0 0) 148 = c at hC hc1 hcT hcx
  have hS := hC.1.2.1
  unfold g42 f209
  rw [t1]
  by_cases d1 : u < 1
  · rw [if_pos d1, if_pos d1, if_pos rfl]
    exact hcx
  · by_cases d2 : u ≤ 3
    · rw [if_neg d1, if_pos d2, if_neg d1, if_neg (by omega : ¬ 3 < u), if_neg (by decide : ¬ (1 : Int) = 0)]
      rcases q42 hS t1 t3 t4 h10 hl hc1 hcT with ⟨k1, k2, k3, k4⟩ | ⟨k1, k2, k3, k4⟩
      · rw [if_pos k1, if_pos k2, fits_l hS t3 d2 hc1 k3 k4]
        obtain ⟨⟨r1, r2⟩, r3⟩ := mask_r hS u
        by_cases z : (L192_83 c 148 u 0 0 0 0 0).2.2.1 = 0
        · rw [if_pos z, if_pos z]
          exact hcx
        · rw [if_neg z, if_neg z, mu_s]
          have := (k4.1 0 (by decide) (by omega))
          exact ask_l hC r1 r2 r3 (by omega) u
      · rw [if_neg k1, if_neg k2]
        exact hcx
    · rw [if_neg d1, if_neg d2, if_neg d1, if_pos (by omega : 3 < u), if_pos rfl]
      exact hcx
