section
/-! Ask: who was found. -/
set_option maxRecDepth 16384 in
theorem or256 {y i : Int} (y0 : 0 ≤ y) (y1 : y < 256) (i0 : 0 ≤ i) (i8 : i < 8) : 0 ≤ jor y (jshl 1 i) ∧ jor y (jshl 1 i) < 256 := by
  have key : ∀ y : Nat, y < 256 → ∀ i : Nat, i < 8 → 0 ≤ o32 (fun a b => a ||| b) (y : Int) (o32 (fun a b => a <<< (b &&& 31)) 1 (i : Int)) ∧ o32 (fun a b => a ||| b) (y : Int) (o32 (fun a b => a <<< (b &&& 31)) 1 (i : Int)) < 256 := by decide +kernel
  obtain ⟨n, rfl⟩ : ∃ n : Nat, y = (n : Int) := ⟨y.toNat, by omega⟩
  obtain ⟨k, rfl⟩ : ∃ k : Nat, i = (k : Int) := ⟨i.toNat, by omega⟩
  rw [jor_eq, jshl_eq]
  exact key n (by omega) k (by omega)
set_option maxRecDepth 16384 in
theorem mask_r {a c : MM} (h : Sx a c 15) (n : Int) : (0 ≤ (L192_83 c 148 n 0 0 0 0 0).2.2.1 ∧ (L192_83 c 148 n 0 0 0 0 0).2.2.1 < 256) ∧ ∀ j, a 3 7 ≤ j → j < 8 → jand ((L192_83 c 148 n 0 0 0 0 0).2.2.1) (jshl 1 j) = 0 := by
  obtain ⟨e, e0, e8⟩ := h.f
  unfold L192_83
  refine Lp_ind (f := K192_83 c 148 n 0 0 0 0 0) (P := fun u => 0 ≤ u.2 ∧ u.2 ≤ a 3 7 ∧ (0 ≤ u.1 ∧ u.1 < 256) ∧ ∀ j, a 3 7 ≤ j → j < 8 → jand u.1 (jshl 1 j) = 0) (Q := fun t => (0 ≤ t.2.2.1 ∧ t.2.2.1 < 256) ∧ ∀ j, a 3 7 ≤ j → j < 8 → jand t.2.2.1 (jshl 1 j) = 0) (fun u => (a 3 7 - u.2).toNat) ?_ (0, 0) ⟨Int.le_refl _, e0, ⟨Int.le_refl _, by decide⟩, fun j _ _ => jand_0 _⟩
  rintro ⟨y, i⟩ ⟨c2, c3, c4, c5⟩
  dsimp only at c2 c3 c4 c5
  have eB : K192_83 c 148 n 0 0 0 0 0 (y, i) = S192_83 c 148 n y i 0 0 0 := rfl
  rw [eB]
  unfold S192_83
  rw [h.bn, ← e]
  by_cases d : a 3 7 ≤ i
  · rw [if_pos d]
    exact Or.inr ⟨_, rfl, c4, c5⟩
  · rw [if_neg d, s32_id (z := i + 1) (by omega) (by omega)]
    left
    split
    · exact ⟨_, rfl, ⟨by dsimp only; omega, by dsimp only; omega, c4, c5⟩, by dsimp only; omega⟩
    · exact ⟨_, rfl, ⟨by dsimp only; omega, by dsimp only; omega, or256 c4.1 c4.2 c2 (by omega), fun j j0 j1 => (jor_jand0 _ _ _).mpr ⟨c5 j j0 j1, (shl2 c2 (by omega) (by omega) j1).mpr (by omega)⟩⟩, by dsimp only; omega⟩
set_option maxRecDepth 16384 in
theorem C2_31 {a m : MM} (h : C2 a m) (v : Int) : C2 a (mu m 148 31 v) := C2_fr3 h (fun _ _ _ => rfl) (fun x k q _ => by
  by_cases c : x = 148
  · exact mu_k (by unfold PJs at q; omega)
  · exact mu_a c)
set_option maxRecDepth 16384 in
theorem ask_l {a c : MM} (h : C2 a c) {x : Int} (x0 : 0 ≤ x) (x1 : x < 256) (hx : ∀ j, a 3 7 ≤ j → j < 8 → jand x (jshl 1 j) = 0) (hp0 : 0 < a 3 6) (n : Int) : (L44_8 a x 15 (-1) 9 0 0 0).2.2.1 = ((L192_125 c 148 n x (-1) 0 0 0).2.2.2.2.2.2) 148 31 := by
  have hp := h.1.2.1.p
  unfold L44_8 L192_125
  refine Lp_sim (f := K44_8 a x 15 (-1) 9 0 0 0) (f' := K192_125 c 148 n x (-1) 0 0 0) (P := fun u v => u.2.2.1 = v.2.1 ∧ 0 ≤ v.2.1 ∧ v.2.1 ≤ a 3 6 ∧ C2 a v.2.2.2.2 ∧ ((v.2.1 = 0 ∧ u.2.1 = 9 ∧ v.1 = -1) ∨ (0 ≤ u.2.1 ∧ u.2.1 ≤ 8 ∧ v.1 = u.2.1 ∧ v.2.2.2.2 148 31 = u.1))) (Q := fun t t' => t.2.2.1 = (t'.2.2.2.2.2.2) 148 31) (fun u => (a 3 6 - u.2.2.1).toNat) ?_ (-1, 9, 0, 0, 0) (-1, 0, 0, 0, c) ⟨rfl, Int.le_refl _, hp.2.1, h, Or.inl ⟨rfl, rfl, rfl⟩⟩
  rintro ⟨w, d, p, u4, u5⟩ ⟨o, p', v3, v4, m⟩ ⟨c1, c2, c3, c4, c5⟩
  dsimp only at c1 c2 c3 c4 c5
  subst c1
  have hS := c4.1.2.1
  have eA : K44_8 a x 15 (-1) 9 0 0 0 (w, d, p, u4, u5) = S44_8 a x 15 w d p u4 u5 := rfl
  have eB : K192_125 c 148 n x (-1) 0 0 0 (o, p, v3, v4, m) = S192_125 m 148 n x o p v3 v4 := rfl
  rw [eA, eB]
  unfold S44_8 S192_125
  rw [hS.le, hS.bn, ← hS.p.1]
  by_cases g : a 3 6 ≤ p
  · rw [if_pos g, if_pos g]
    refine Or.inr ⟨_, _, rfl, rfl, ?_⟩
    rcases c5 with ⟨q1, q2, q3⟩ | ⟨q1, q2, q3, q4⟩
    · omega
    · exact q4.symm
  · obtain ⟨k1, k2, k3⟩ := off_eq hS x0 x1 hx c2 (by omega : p < a 3 6) n o w d
    rw [if_neg g, if_neg g, s32_id (z := p + 1) (by omega) (by omega), ← k1]
    left
    rcases c5 with ⟨q1, q2, q3⟩ | ⟨q1, q2, q3, q4⟩
    · rw [if_neg (by omega), if_pos q3]
      exact ⟨_, _, rfl, rfl, ⟨rfl, by dsimp only; omega, by dsimp only; omega, C2_31 c4 _, Or.inr ⟨k2, k3, rfl, by dsimp only; exact mu_s m 148 31 p⟩⟩, by dsimp only; omega⟩
    · rw [if_neg (by omega : ¬ o = -1)]
      by_cases z : d ≤ jabs ((L44_26 a x 15 w d p 0 0).2.2.1)
      · rw [if_pos z, if_neg (by omega)]
        exact ⟨_, _, rfl, rfl, ⟨rfl, by dsimp only; omega, by dsimp only; omega, c4, Or.inr ⟨q1, q2, q3, q4⟩⟩, by dsimp only; omega⟩
      · rw [if_neg z, if_pos (by omega)]
        exact ⟨_, _, rfl, rfl, ⟨rfl, by dsimp only; omega, by dsimp only; omega, C2_31 c4 _, Or.inr ⟨k2, k3, rfl, by dsimp only; exact mu_s m 148 31 p⟩⟩, by dsimp only; omega⟩
set_option maxRecDepth 16384 in
theorem ask_x {a b : MM} (h : C2 a b) (h8 : a 0 8 = 92) (h0 : a 0 0 = 1) (h10 : a 1 0 = 2) (hl : a 2 (-1) = 940) (hb1 : b 148 1 = 149) {u : Int} (hT : TapeR a b u) (hx : a 92 1 = b 148 31) : (g16 a 0) 92 1 = (g192 b 148) 148 31 := by
  obtain ⟨t1, t2, t3, t4, t5⟩ := hT
  have hC : C2 a (g283 (mu b 148 0 0) 148) := C2_fr3 h (fun _ _ _ => rfl) (fun x k q _ => by
    unfold g283
    by_cases c : x = 148
    · rw [mu_k (by unfold PJs at q; omega), mu_k (by unfold PJs at q; omega)]
    · rw [mu_a c, mu_a c])
  have e283 : f283 (mu b 148 0 0) 148 = u := by
    unfold f283
    exact (mu_k (by decide)).trans t2
  have hc1 : (g283 (mu b 148 0 0) 148) 148 1 = 149 := by
    unfold g283
    exact (mu_k (by decide)).trans ((mu_k (by decide)).trans hb1)
  have hcx : a 92 1 = (g283 (mu b 148 0 0) 148) 148 31 := by
    unfold g283
    exact hx.trans ((mu_k (by decide)).trans (mu_k (by decide))).symm
  have hcT : ∀ j, 0 ≤ j → j < u → jand (a 2 j) 255 = (g283 (mu b 148 0 0) 148) 149 j := fun j j0 j1 => (t5 j j0 j1).trans (by
    unfold g283
    exact ((mu_a (by decide)).trans (mu_a (by decide))).symm)
  have h3 : a 0 3 = 15 := h.1.1.2.1
  have e16 : (g16 a 0) 92 1 = (g42 a 92 1 15) 92 1 := by
    unfold g16
    rw [h8, h0, h3]
    have e00 : (g42 a 92 1 15) 0 0 = 1 := by
      unfold g42
      (repeat' split) <;> first
        | exact h0
        | exact (mu_a (by decide)).trans h0
    rw [e00]
    exact mu_a (by decide)
  rw [e16]
  unfold g192
  rw [e283]
  generalize g283 (mu b 148 0 0) 148 = c at hC hc1 hcT hcx
  have hS := hC.1.2.1
  unfold g42 f209
  rw [t1]
  by_cases d1 : u < 1
  · rw [if_pos d1, if_pos d1, if_pos rfl]
    exact hcx
  · by_cases d2 : u ≤ 3
    · rw [if_neg d1, if_pos d2, if_neg d1, if_neg (by omega : ¬ 3 < u), if_neg (by decide : ¬ (1 : Int) = 0)]
      rcases q42 hS t1 t3 t4 h10 hl hc1 hcT with ⟨k1, k2, k3, k4⟩ | ⟨k1, k2, k3, k4⟩
      · rw [if_pos k1, if_pos k2, fits_l hS t3 d2 hc1 k3 k4]
        obtain ⟨⟨r1, r2⟩, r3⟩ := mask_r hS u
        by_cases z : (L192_83 c 148 u 0 0 0 0 0).2.2.1 = 0
        · rw [if_pos z, if_pos z]
          exact hcx
        · rw [if_neg z, if_neg z, mu_s]
          have := (k4.1 0 (by decide) (by omega))
          exact ask_l hC r1 r2 r3 (by omega) u
      · rw [if_neg k1, if_neg k2]
        exact hcx
    · rw [if_neg d1, if_neg d2, if_neg d1, if_pos (by omega : 3 < u), if_pos rfl]
      exact hcx
end
section
/-! What may be said of a form, of a person. -/
set_option maxRecDepth 16384 in
theorem q125 {a b : MM} {s : Int} (h : Sx a b s) {p : Int} (p0 : 0 ≤ p) (p1 : p < 8) : f125 a s p = f282 b 148 (s32 (94 + (s32 (8 * p)))) 8 := by
  have hb := h.bn
  rw [s32_id (z := 8 * p) (by omega) (by omega), s32_id (z := 94 + 8 * p) (by omega) (by omega)]
  unfold f125 f282 L125_4 L282_5
  refine Lp_sim (f := K125_4 a s p 0 0) (f' := K282_5 b 148 (94 + 8 * p) 8 0 0) (P := fun x y => x = y ∧ 0 ≤ x.2 ∧ x.2 ≤ 8) (Q := fun t t' => t.2.2.1 = t'.2.2.1) (fun x => (8 - x.2).toNat) ?_ _ _ ⟨rfl, by decide, by decide⟩
  rintro ⟨x, i⟩ ⟨y, j⟩ ⟨c1, c2, c3⟩
  cases c1
  dsimp only at c2 c3
  have eA : K125_4 a s p 0 0 (x, i) = S125_4 a s p x i := rfl
  have eB : K282_5 b 148 (94 + 8 * p) 8 0 0 (x, i) = S282_5 b 148 (94 + 8 * p) 8 x i := rfl
  rw [eA, eB]
  unfold S125_4 S282_5
  by_cases c : 8 ≤ i
  · rw [if_pos c, if_pos c]
    exact Or.inr ⟨_, _, rfl, rfl, rfl⟩
  · have g := (q124 h p0 p1 c2 (by omega : i < 8)).1
    have g2 := (h.gr (k := 8 * p + i) (by omega) (by omega)).1
    rw [if_neg c, if_neg c, hb, s32_id (z := i + 1) (by omega) (by omega), s32_id (z := 94 + 8 * p + i) (by omega) (by omega), g, g2, show (94 : Int) + 8 * p + i = 94 + (8 * p + i) by omega]
    exact Or.inl ⟨_, _, rfl, rfl, ⟨rfl, by dsimp only; omega, by dsimp only; omega⟩, by dsimp only; omega⟩
set_option maxRecDepth 16384 in
theorem q114 {a b : MM} {s : Int} (h : Sx a b s) {f : Int} (f0 : 0 ≤ f) (f1 : f < a 3 7) : f114 a s f = b 150 (s32 (190 + f)) := by
  have hF := h.fo f0 f1
  obtain ⟨-, -, f8⟩ := h.f
  have h0 : a s 0 = 3 := h.1.2.2.1
  have h5 : a s 5 = s + 5 := h.1.2.1.2.2.2.2.1
  have h3 : a 3 3 = 7 := h.1.1.2.2.2.1
  rw [s32_id (z := 190 + f) (by omega) (by omega)]
  unfold f114 f85
  rw [(q127 h f0 f1).1, h0, h5, h3]
  rcases i72 h f with ⟨-, e⟩ | ⟨e, -, -⟩
  · omega
  rw [e, if_neg (show ¬ (1 : Int) = 0 by decide)]
  by_cases c1 : a (s + 4) f = 1
  · rw [if_pos c1]; exact (hF.2.1 c1).1.symm
  · rw [if_neg c1]
    by_cases c2 : a (s + 4) f = 2
    · rw [if_pos c2]; exact (hF.2.2.1 c2).symm
    · rw [if_neg c2]; exact (hF.2.2.2.1 c1 c2).symm
set_option maxRecDepth 16384 in
/-- the class's answer about a form -/
noncomputable def vF (a : MM) (f w : Int) : Int := if w = 0 then f66 a 3 f else if w = 1 then f128 a 15 f else if w = 5 then f127 a 15 f else if w = 6 then f114 a 15 f else f142 a 15 f (s32 (w - 2))
set_option maxRecDepth 16384 in
theorem formq_pair {a b : MM} (h : Sx a b 15) (h0 : Sx a (mu b 148 0 0) 15) (f w : Int) : ((f72 a 3 f = 0 ∨ w < 0 ∨ 6 < w) ∧ g194 b 148 f w 148 0 = 1) ∨ ((¬ (f72 a 3 f = 0) ∧ 0 ≤ w ∧ w ≤ 6) ∧ g194 b 148 f w 148 0 = 0 ∧ f194 b 148 f w = vF a f w) := by
  have hr : ∀ m : MM, g263 m 148 148 0 = 1 := fun m => mu_s _ _ _ _
  have hz : mu b 148 0 0 148 0 = 0 := mu_s _ _ _ _
  unfold g194 f194
  generalize mu b 148 0 0 = c at *
  rw [← q72 h0 f]
  rcases i72 h0 f with ⟨e, -⟩ | ⟨e, f0, f1⟩
  · rw [e, if_pos rfl]
    exact Or.inl ⟨Or.inl rfl, hr c⟩
  rw [e, if_neg (show ¬ (1 : Int) = 0 by decide), if_neg (show ¬ (1 : Int) = 0 by decide)]
  have hb := h0.bn
  unfold vF
  by_cases c0 : w = 0
  · subst c0
    obtain ⟨x, y⟩ := q66 h0 f0 f1
    refine Or.inr ⟨⟨by decide, by decide, by decide⟩, ?_⟩
    simp only [if_pos]
    rw [hb, y, x]
    exact ⟨hz, rfl⟩
  rw [if_neg c0, if_neg c0, if_neg c0]
  by_cases c1 : w = 1
  · subst c1
    refine Or.inr ⟨⟨by decide, by decide, by decide⟩, ?_⟩
    simp only [if_pos]
    exact ⟨hz, (q128 h0 f0 f1).symm⟩
  rw [if_neg c1, if_neg c1, if_neg c1]
  by_cases c2 : w = 2
  · subst c2
    refine Or.inr ⟨⟨by decide, by decide, by decide⟩, ?_⟩
    simp only [if_pos]
    rw [if_neg (by decide), if_neg (by decide), s32_id (by decide) (by decide)]
    obtain ⟨x, y⟩ := q142 (k := 2 - 2) h0 f0 f1 (by decide) (by decide)
    exact ⟨hz, by rw [x, y]⟩
  rw [if_neg c2, if_neg c2]
  by_cases c3 : w = 3
  · subst c3
    refine Or.inr ⟨⟨by decide, by decide, by decide⟩, ?_⟩
    simp only [if_pos]
    rw [if_neg (by decide), if_neg (by decide), s32_id (by decide) (by decide)]
    obtain ⟨x, y⟩ := q142 (k := 3 - 2) h0 f0 f1 (by decide) (by decide)
    exact ⟨hz, by rw [x, y]⟩
  rw [if_neg c3, if_neg c3]
  by_cases c4 : w = 4
  · subst c4
    refine Or.inr ⟨⟨by decide, by decide, by decide⟩, ?_⟩
    simp only [if_pos]
    rw [if_neg (by decide), if_neg (by decide), s32_id (by decide) (by decide)]
    obtain ⟨x, y⟩ := q142 (k := 4 - 2) h0 f0 f1 (by decide) (by decide)
    exact ⟨hz, by rw [x, y]⟩
  rw [if_neg c4, if_neg c4]
  by_cases c5 : w = 5
  · subst c5
    obtain ⟨x, y⟩ := q127 h0 f0 f1
    refine Or.inr ⟨⟨by decide, by decide, by decide⟩, ?_⟩
    simp only [if_pos]
    rw [hb, y, x]
    exact ⟨hz, rfl⟩
  rw [if_neg c5, if_neg c5, if_neg c5]
  by_cases c6 : w = 6
  · subst c6
    refine Or.inr ⟨⟨by decide, by decide, by decide⟩, ?_⟩
    simp only [if_pos]
    rw [hb, q114 h0 f0 f1]
    exact ⟨hz, rfl⟩
  rw [if_neg c6]
  exact Or.inl ⟨by omega, hr c⟩
set_option maxRecDepth 16384 in
/-- the class's answer about a person -/
noncomputable def vP (a : MM) (p w : Int) : Int := if w = 0 then (if f129 a 15 p = 0 then 0 else 1) else if w = 1 then f141 a 15 p else if w = 2 then f145 a 15 p else if w = 3 then f125 a 15 p else f84 a 3 p
set_option maxRecDepth 16384 in
theorem personq_pair {a b : MM} (h : Sx a b 15) (h0 : Sx a (mu b 148 0 0) 15) (p w : Int) : ((f73 a 3 p = 0 ∨ w < 0 ∨ 4 < w) ∧ g238 b 148 p w 148 0 = 1) ∨ ((¬ (f73 a 3 p = 0) ∧ 0 ≤ w ∧ w ≤ 4) ∧ g238 b 148 p w 148 0 = 0 ∧ f238 b 148 p w = vP a p w) := by
  have hr : ∀ m : MM, g263 m 148 148 0 = 1 := fun m => mu_s _ _ _ _
  have hz : mu b 148 0 0 148 0 = 0 := mu_s _ _ _ _
  unfold g238 f238
  generalize mu b 148 0 0 = c at *
  rw [← q73 h0 p]
  rcases i73 h0 p with ⟨e, -⟩ | ⟨e, p0, p1⟩
  · rw [e, if_pos rfl]
    exact Or.inl ⟨Or.inl rfl, hr c⟩
  rw [e, if_neg (show ¬ (1 : Int) = 0 by decide), if_neg (show ¬ (1 : Int) = 0 by decide)]
  have hb := h0.bn
  obtain ⟨-, -, p8⟩ := h0.p
  unfold vP
  by_cases c0 : w = 0
  · subst c0
    refine Or.inr ⟨⟨by decide, by decide, by decide⟩, ?_⟩
    simp only [if_pos]
    rw [q129 h0 p0 p1]
    refine ⟨?_, rfl⟩
    split <;> exact hz
  rw [if_neg c0, if_neg c0, if_neg c0]
  by_cases c1 : w = 1
  · subst c1
    obtain ⟨x, y⟩ := q141 h0 p0 p1
    refine Or.inr ⟨⟨by decide, by decide, by decide⟩, ?_⟩
    simp only [if_pos]
    rw [hb, y, x]
    exact ⟨hz, rfl⟩
  rw [if_neg c1, if_neg c1, if_neg c1]
  by_cases c2 : w = 2
  · subst c2
    refine Or.inr ⟨⟨by decide, by decide, by decide⟩, ?_⟩
    simp only [if_pos]
    have h00 : a 15 0 = 3 := h0.1.2.2.1
    have h3 : a 15 3 = 18 := h0.1.2.1.2.2.1
    unfold f145
    rw [h00, e, if_neg (by decide), h3, hb, s32_id (z := 206 + p) (by omega) (by omega)]
    exact ⟨hz, (h0.ts p0 (by omega)).symm⟩
  rw [if_neg c2, if_neg c2, if_neg c2]
  by_cases c3 : w = 3
  · subst c3
    refine Or.inr ⟨⟨by decide, by decide, by decide⟩, ?_⟩
    simp only [if_pos]
    exact ⟨hz, (q125 h0 p0 (by omega)).symm⟩
  rw [if_neg c3, if_neg c3, if_neg c3]
  by_cases c4 : w = 4
  · subst c4
    refine Or.inr ⟨⟨by decide, by decide, by decide⟩, ?_⟩
    simp only [if_pos]
    have h4 : a 3 4 = 8 := h0.1.1.2.2.2.2
    unfold f84
    rw [e, if_neg (by decide), h4, hb, s32_id (z := 4 + p) (by omega) (by omega)]
    exact ⟨hz, (h0.shy p0 (by omega)).symm⟩
  rw [if_neg c4]
  exact Or.inl ⟨by omega, hr c⟩
end
