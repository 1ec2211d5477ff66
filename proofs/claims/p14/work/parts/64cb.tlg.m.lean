section
/-! Restored alike. -/
set_option maxRecDepth 16384 in
theorem restore_pair {a b : MM} (h : C2 a b) (h11 : S11 a) (k : Int) : f28 a 0 k = f265 b 148 k ∧ C2 (g28 a 0 k) (g265 b 148 k) := by
  have h0 : C2 a (mu b 148 0 0) := C2_fr h (fun _ _ _ => rfl) (fun x j q => by
    by_cases c : x = 148
    · rw [c, mu_k (by unfold PJs at q; omega)]
    · rw [mu_a c])
  obtain ⟨-, -, hI, -, -⟩ := h
  unfold f28 g28 f265 g265
  rw [im_ln hI.1.1 hI.1.2.1]
  revert h0
  generalize mu b 148 0 0 = b1
  intro h0
  rcases f209_01 b1 k with ⟨c, d⟩ | ⟨c, d⟩
  · rw [c, if_pos rfl, if_pos rfl]
    by_cases e : k < 0
    · simp only [if_pos e]; exact ⟨trivial, h0⟩
    · have e2 : 2 ≤ k := by omega
      simp only [if_neg e, if_pos e2]; exact ⟨trivial, h0⟩
  · rw [c, if_neg n10, if_neg n10]
    have e : ¬ k < 0 := by omega
    have e2 : ¬ 2 ≤ k := by omega
    simp only [if_neg e, if_neg e2]
    have k0 : 0 ≤ k := by omega
    have k1 : k < 2 := by omega
    rw [im_el hI k0 k1]
    have h0' := h0
    obtain ⟨⟨⟨d1, d2, d3, d4⟩, hS, hU⟩, hN, -, ⟨j1, j2, j3, j4⟩, hK⟩ := h0
    obtain ⟨i1, i2, i3, i4, i5, i6⟩ := hI.2.1 k k0 k1
    obtain ⟨w1, w2⟩ := hK k k0 k1
    rw [j4, w1]
    by_cases w : b1 158 k = 0
    · simp only [if_pos w]
      exact ⟨trivial, h0'⟩
    · simp only [if_neg w]
      refine ⟨trivial, ?_⟩
      rcases w2 with w2 | ⟨wr, wn, ws⟩
      · exact absurd w2 w
      have hS' := hS
      obtain ⟨⟨y1, y2, y3, y4, y5, y6, y7⟩, r, n⟩ := hS
      -- the reference
      rw [B265_27 y4 j1 d]
      dsimp only
      have F1 : Fr (fun x j => x = 150 ∧ 0 ≤ j ∧ j < 456) b1 (fm b1 150 (0 + 0) (0 + 456) (fun j => s32 (b1 152 (456 * k + j)))) := (Fr.rf _ _).fl fun j q1 q2 => ⟨rfl, by omega, by omega⟩
      have v1 : ∀ j, 0 ≤ j → j < 456 → (fm b1 150 (0 + 0) (0 + 456) (fun j => s32 (b1 152 (456 * k + j)))) 150 j = s32 (b1 152 (456 * k + j)) := fun j q1 q2 => fm_i (by omega) (by omega)
      revert F1 v1
      generalize fm b1 150 (0 + 0) (0 + 456) (fun j => s32 (b1 152 (456 * k + j))) = n1
      intro F1 v1
      have w19 : n1 148 19 = 155 := by rw [F1 _ _ (by omega)]; exact j2
      have w21 : n1 148 21 = 157 := by rw [F1 _ _ (by omega)]; exact j3
      rw [B265_60 w19 w21 d]
      dsimp only
      have FB' : Fr (fun x j => (x = 150 ∧ 0 ≤ j ∧ j < 456) ∨ (x = 155 ∧ 0 ≤ j ∧ j < 16) ∨ (x = 148 ∧ j = 23)) b1 (mu (fm n1 155 (0 + 0) (0 + 16) (fun j => n1 157 (16 * k + j))) 148 23 0) := by
        have F1' : Fr (fun x j => (x = 150 ∧ 0 ≤ j ∧ j < 456) ∨ (x = 155 ∧ 0 ≤ j ∧ j < 16) ∨ (x = 148 ∧ j = 23)) b1 n1 := F1.mo fun x j q => Or.inl q
        have F2' : Fr (fun x j => (x = 150 ∧ 0 ≤ j ∧ j < 456) ∨ (x = 155 ∧ 0 ≤ j ∧ j < 16) ∨ (x = 148 ∧ j = 23)) b1 (fm n1 155 (0 + 0) (0 + 16) (fun j => n1 157 (16 * k + j))) := F1'.fl (fun j q1 q2 => Or.inr (Or.inl ⟨rfl, by omega, by omega⟩))
        exact F2'.mu (Or.inr (Or.inr ⟨rfl, rfl⟩))
      have vb1 : ∀ j, 0 ≤ j → j < 456 → (mu (fm n1 155 (0 + 0) (0 + 16) (fun j => n1 157 (16 * k + j))) 148 23 0) 150 j = s32 (b1 152 (456 * k + j)) := fun j q1 q2 => by rw [mu_a (by decide), fm_n (by decide)]; exact v1 j q1 q2
      have vb2 : ∀ j, 0 ≤ j → j < 16 → (mu (fm n1 155 (0 + 0) (0 + 16) (fun j => n1 157 (16 * k + j))) 148 23 0) 155 j = b1 157 (16 * k + j) := fun j q1 q2 => by
        rw [mu_a (by decide), fm_i (by omega) (by omega), F1 157 _ (by omega)]
      have vb3 : (mu (fm n1 155 (0 + 0) (0 + 16) (fun j => n1 157 (16 * k + j))) 148 23 0) 148 23 = 0 := mu_s _ _ _ _
      revert FB' vb1 vb2 vb3
      generalize mu (fm n1 155 (0 + 0) (0 + 16) (fun j => n1 157 (16 * k + j))) 148 23 0 = b'
      intro FB' vb1 vb2 vb3
      clear v1 F1 w19 w21
      -- the class
      rw [d1, i1]
      obtain ⟨f1, f2, f3⟩ := c67 (m := a) (x := 3) (y := 111 + 19 * k) y1 i4 (by omega)
      have fr1 : ∀ x j, (x < 3 ∨ 8 < x ∨ (x = 3 ∧ j < 5)) → (g67 a 3 (111 + 19 * k)) x j = a x j := fun x j q => f1 x j (by unfold PRo; omega)
      revert f2 f3 fr1
      clear f1
      generalize g67 a 3 (111 + 19 * k) = m1
      intro f2 f3 fr1
      have hI1 : LayI m1 := LayI_fr hI fun x j q => fr1 x j (by omega)
      have t1 : m1 (110 + 19 * k) 1 = 122 + 19 * k := by rw [fr1 _ _ (by omega)]; exact i2
      have t3 : m1 0 3 = 15 := by rw [fr1 _ _ (by omega)]; exact d2
      rw [im_el hI1 k0 k1, t1, t3]
      have z5 : LSt m1 (122 + 19 * k) := LSt_fr i5 fun j _ _ => fr1 _ _ (by omega)
      have z2 : LSt m1 15 := LSt_fr y2 fun j _ _ => fr1 _ _ (by omega)
      obtain ⟨g1, ⟨g2, g3⟩, g4, g5, g6⟩ := c113 (m := m1) (x := 15) (y := 122 + 19 * k) z2 z5 (by omega)
      have fr2 : ∀ x j, (x < 15 ∨ 21 < x ∨ (x = 15 ∧ j < 7) ∨ j < 0) → (g113 m1 15 (122 + 19 * k)) x j = m1 x j := fun x j q => g1 x j (by unfold PSt; omega)
      revert g2 g3 g4 g5 g6 fr2
      clear g1
      generalize g113 m1 15 (122 + 19 * k) = m2
      intro g2 g3 g4 g5 g6 fr2
      have hI2 : LayI m2 := LayI_fr hI1 fun x j q => fr2 x j (by omega)
      have t2 : m2 (110 + 19 * k) 2 = 117 + 19 * k := by rw [fr2 _ _ (by omega), fr1 _ _ (by omega)]; exact i3
      rw [im_el hI2 k0 k1, t2]
      have z6 : LSe m2 (117 + 19 * k) := LSe_fr i6 fun j _ _ => by rw [fr2 _ _ (by omega), fr1 _ _ (by omega)]
      have t11 : m2 0 11 = a 0 11 := by rw [fr2 _ _ (by omega), fr1 _ _ (by omega)]
      have z7 : LSe m2 (m2 0 11) := by
        rw [t11]
        rcases h11 with q | q | q | q <;> rw [q]
        · exact hI2.2.2.1
        · exact hI2.2.2.2.1
        · exact (hI2.2.1 0 (by decide) (by decide)).2.2.2.2.2
        · exact (hI2.2.1 1 (by decide) (by decide)).2.2.2.2.2
      have h11' : m2 0 11 = 100 ∨ m2 0 11 = 105 ∨ m2 0 11 = 117 ∨ m2 0 11 = 136 := by rw [t11]; exact h11
      have s1 := c88f (m := m2) (x := m2 0 11) (y := 117 + 19 * k) z7 z6 (by omega)
      have s5 : (g88 m2 (m2 0 11) (117 + 19 * k)) 0 5 = 29 := by rw [s1 _ _ (by unfold PSe; omega), fr2 _ _ (by omega), fr1 _ _ (by omega)]; exact d3
      unfold g161
      rw [s5]
      have fr3 : ∀ x j, (x < 100 ∨ (108 < x ∧ x < 117) ∨ (120 < x ∧ x < 136) ∨ 139 < x ∨ ((x = 100 ∨ x = 105 ∨ x = 117 ∨ x = 136) ∧ j < 4)) → (mu (g88 m2 (m2 0 11) (117 + 19 * k)) 29 2 0) x j = if x = 29 ∧ j = 2 then 0 else m2 x j := fun x j q => by
        by_cases c : x = 29 ∧ j = 2
        · rw [if_pos c, c.1, c.2, mu_s]
        · rw [if_neg c]
          have : (mu (g88 m2 (m2 0 11) (117 + 19 * k)) 29 2 0) x j = (g88 m2 (m2 0 11) (117 + 19 * k)) x j := if_neg c
          rw [this]
          exact s1 x j (by unfold PSe; omega)
      revert fr3
      clear s1 s5
      generalize mu (g88 m2 (m2 0 11) (117 + 19 * k)) 29 2 0 = a'
      intro fr3
      -- all of it
      have ea : ∀ x j, (x < 3 ∨ (8 < x ∧ x < 15) ∨ (21 < x ∧ x < 29) ∨ (29 < x ∧ x < 100) ∨ (108 < x ∧ x < 117) ∨ (120 < x ∧ x < 136) ∨ 139 < x ∨ (x = 3 ∧ j < 5) ∨ (x = 15 ∧ j < 7) ∨ (x = 29 ∧ j ≠ 2) ∨ ((x = 100 ∨ x = 105 ∨ x = 117 ∨ x = 136) ∧ j < 4)) → a' x j = a x j := fun x j q => by rw [fr3 _ _ (by omega), if_neg (by omega), fr2 _ _ (by omega), fr1 _ _ (by omega)]
      have er : ∀ x j, 3 ≤ x → x ≤ 8 → a' x j = m1 x j := fun x j q1 q2 => by rw [fr3 _ _ (by omega), if_neg (by omega), fr2 _ _ (by omega)]
      have es : ∀ x j, 15 ≤ x → x ≤ 21 → a' x j = m2 x j := fun x j q1 q2 => by rw [fr3 _ _ (by omega), if_neg (by omega)]
      have e29 : a' 29 2 = 0 := by rw [fr3 _ _ (by omega), if_pos ⟨rfl, rfl⟩]
      have eb : ∀ x j, x ≠ 150 → x ≠ 155 → ¬ (x = 148 ∧ j = 23) → b' x j = b1 x j := fun x j q1 q2 q3 => FB' x j (by omega)
      have hRo : Ro a' b' 3 150 0 := by
        refine Ro_cp wr (fun j q1 q2 => ?_) (fun i j q1 q2 q3 q4 => ?_) (fun j q1 q2 => ?_)
        · rw [er _ _ (by omega) (by omega)]; exact f2 j (by omega) q2
        · rw [er _ _ (by omega) (by omega)]; exact f3 i j (by omega) q2 q3 q4
        · rw [Int.zero_add, vb1 j q1 (by omega)]
      have hSn : Sn a' b' 3 15 150 0 := by
        refine Sn_cp ws ?_ wr.2.1.2.2 (fun f f0 f1 => (wr.2.2.2.2 f f0 f1).2.2) (fun f f0 f1 => ⟨?_, ?_⟩) ⟨?_, ?_⟩ (fun j q1 q2 => ?_) (fun i j q1 q2 q3 q4 => ?_) (fun j q1 q2 => ?_) (fun j q1 q2 => Or.inr ?_)
        · rw [er _ _ (by omega) (by omega)]; exact f2 7 (by decide) (by decide)
        · rw [er _ _ (by omega) (by omega)]; exact f3 3 f (by decide) (by decide) f0 f1
        · rw [er _ _ (by omega) (by omega)]; exact f3 4 f (by decide) (by decide) f0 f1
        · rw [es _ _ (by omega) (by omega), g2]; exact fr1 _ _ (by omega)
        · rw [es _ _ (by omega) (by omega), g3]; exact fr1 _ _ (by omega)
        · rw [es _ _ (by omega) (by omega), g4 j q1 q2]; exact fr1 _ _ (by omega)
        · rw [es _ _ (by omega) (by omega), g5 i j q1 q2 q3 q4]; exact fr1 _ _ (by omega)
        · rw [es _ _ (by omega) (by omega), g6 j q1 q2]; exact fr1 _ _ (by omega)
        · rw [Int.zero_add, vb1 j (by omega) (by omega)]
      obtain ⟨⟨u1, u2, u3, u4⟩, ⟨u5, u6⟩, ⟨u7, u8, u9⟩, u10, u11⟩ := hU
      refine ⟨⟨⟨?_, ?_, ?_, ?_⟩, ⟨⟨?_, ?_, ?_, ?_, y5, y6, ?_⟩, hRo, hSn⟩, ⟨⟨?_, ?_, fun i i0 i8 => ?_, fun i i0 i8 => ?_⟩, ⟨?_, ?_⟩, ⟨?_, ?_, ?_⟩, ?_, fun j q1 q2 => ?_⟩⟩, ?_, LayI_fr hI fun x j q => ea x j (by omega), LayJ_fr ⟨j1, j2, j3, j4⟩ fun j q1 q2 => eb _ _ (by decide) (by decide) (by omega), fun i x0 x1 => ?_⟩
      · rw [ea _ _ (by omega)]; exact d1
      · rw [ea _ _ (by omega)]; exact d2
      · rw [ea _ _ (by omega)]; exact d3
      · rw [ea _ _ (by omega)]; exact d4
      · exact LRo_fr y1 fun j _ _ => ea _ _ (by omega)
      · exact LSt_fr y2 fun j _ _ => ea _ _ (by omega)
      · rw [ea _ _ (by omega)]; exact y3
      · rw [eb _ _ (by decide) (by decide) (by decide)]; exact y4
      · rw [es _ _ (by decide) (by decide), fr2 _ _ (by omega), fr1 _ _ (by omega)]; exact y7
      · rw [ea _ _ (by omega)]; exact u1
      · rw [ea _ _ (by omega)]; exact u2
      · rw [ea _ _ (by omega)]; exact u3 i i0 i8
      · exact LSt_fr (u4 i i0 i8) fun j _ _ => ea _ _ (by omega)
      · rw [ea _ _ (by omega)]; exact u5
      · rw [ea _ _ (by omega)]; exact u6
      · rw [e29, vb3]
      · rw [e29]; decide
      · rw [e29]; decide
      · rw [eb _ _ (by decide) (by decide) (by decide)]; exact u10
      · rw [e29] at q2; omega
      · refine Nm_cp wn wr.1.2.2 wr.2.1.2.2 (fun j q1 q2 => ?_) (fun i j q1 q2 q3 q4 => ?_) (fun j q1 q2 => ?_)
        · rw [er _ _ (by omega) (by omega)]; exact f2 j (by omega) (by omega)
        · rw [er _ _ (by omega) (by omega)]; exact f3 i j q1 (by omega) q3 q4
        · rw [Int.zero_add, vb2 j q1 q2]
      · exact Ik_fr (hK i x0 x1) (fun x j q1 q2 _ _ => ea x j (by omega)) (fun j q1 q2 => eb _ _ (by decide) (by decide) (by omega)) (fun j q1 q2 => eb _ _ (by decide) (by decide) (by omega)) (eb _ _ (by decide) (by decide) (by omega))
end
section
/-! An office read: all that is so begins anew, alike. -/
set_option maxRecDepth 16384 in
def Pof (x k : Int) : Prop := PRo 3 x k ∨ PSt 15 x k ∨ ((x = 100 ∨ x = 105 ∨ x = 117 ∨ x = 136) ∧ (k = 4 ∨ k = 5)) ∨ (x = 29 ∧ k = 2)
set_option maxRecDepth 16384 in
theorem off_cls {X : KO} {ρ : Nat → Int32} {y m9 m12 m15 a' : MM} (h1 : y 0 1 = 3) (h2 : y 0 2 = 9) (h3 : y 0 3 = 15) (h4 : y 0 4 = 22) (h5 : y 0 5 = 29) (h11 : S11 y) (l3 : LRo y 3) (l9 : LRo y 9) (s15 : LSt y 15) (s22 : LSt y 22) (r9 : Run X ρ 67 [(1, y 0 1), (1, y 0 2)] y [] m9) (r12 : Run X ρ 113 [(1, m9 0 3), (1, m9 0 4)] m9 [] m12) (r15 : Run X ρ 89 [(1, m12 0 11)] m12 [] m15) (r18 : Run X ρ 161 [(1, m15 0 5)] m15 [] a') : Fr Pof y a' ∧ (∀ k, 5 ≤ k → k ≤ 8 → a' 3 k = y 9 k) ∧ (∀ i k, 1 ≤ i → i ≤ 5 → 0 ≤ k → k < 8 → a' (3 + i) k = y (9 + i) k) ∧ (a' 15 7 = y 22 7 ∧ a' 15 8 = y 22 8) ∧ (∀ k, 0 ≤ k → k < 64 → a' 16 k = y 23 k) ∧ (∀ i k, 2 ≤ i → i ≤ 5 → 0 ≤ k → k < 8 → a' (15 + i) k = y (22 + i) k) ∧ (∀ k, 0 ≤ k → k < 24 → a' 21 k = y 28 k) ∧ a' 29 2 = 0 := by
  rw [h1, h2] at r9
  obtain ⟨-, F9, w9, v9⟩ := A67 l3 l9 (by decide) r9
  have e9 : ∀ x k, x < 3 ∨ 8 < x ∨ (x = 3 ∧ k < 5) → m9 x k = y x k := fun x k q => F9 x k (by unfold PRo; omega)
  rw [e9 0 3 (by omega), e9 0 4 (by omega), h3, h4] at r12
  have t15 : LSt m9 15 := LSt_fr s15 fun k _ _ => e9 _ _ (by omega)
  have t22 : LSt m9 22 := LSt_fr s22 fun k _ _ => e9 _ _ (by omega)
  obtain ⟨-, F12, ⟨w12, w12'⟩, v1, v2, v6⟩ := A113 t15 t22 (by decide) r12
  have e12 : ∀ x k, x < 15 ∨ 21 < x ∨ (x = 15 ∧ k < 7) → m12 x k = m9 x k := fun x k q => F12 x k (by unfold PSt; omega)
  rw [e12 0 11 (by omega), e9 0 11 (by omega)] at r15
  obtain ⟨-, q15⟩ := d89 r15
  have h11 : y 0 11 = 100 ∨ y 0 11 = 105 ∨ y 0 11 = 117 ∨ y 0 11 = 136 := h11
  have e15 : ∀ x k, (x ≠ 100 ∧ x ≠ 105 ∧ x ≠ 117 ∧ x ≠ 136) ∨ (k ≠ 4 ∧ k ≠ 5) → m15 x k = m12 x k := fun x k q => by
    rw [q15]
    unfold g89
    by_cases c : x = y 0 11
    · rw [mu_k (by omega), mu_k (by omega)]
    · rw [mu_a c, mu_a c]
  rw [e15 0 5 (by omega), e12 0 5 (by omega), e9 0 5 (by omega), h5] at r18
  obtain ⟨-, q18⟩ := d161 r18
  have q18 : a' = mu m15 29 2 0 := q18
  have e18 : ∀ x k, ¬ (x = 29 ∧ k = 2) → a' x k = m15 x k := fun x k q => by
    rw [q18]
    exact if_neg q
  refine ⟨fun x k hn => ?_, fun k k0 k1 => ?_, fun i k i0 i1 k0 k1 => ?_, ⟨?_, ?_⟩, fun k k0 k1 => ?_, fun i k i0 i1 k0 k1 => ?_, fun k k0 k1 => ?_, ?_⟩
  · unfold Pof at hn
    rw [e18 x k (by omega), e15 x k (by omega), F12 x k (fun q => hn (Or.inr (Or.inl q))), F9 x k (fun q => hn (Or.inl q))]
  · rw [e18 _ _ (by omega), e15 _ _ (by omega), e12 _ _ (by omega)]; exact w9 k k0 k1
  · rw [e18 _ _ (by omega), e15 _ _ (by omega), e12 _ _ (by omega)]; exact v9 i k i0 i1 k0 k1
  · rw [e18 _ _ (by omega), e15 _ _ (by omega), w12]; exact e9 _ _ (by omega)
  · rw [e18 _ _ (by omega), e15 _ _ (by omega), w12']; exact e9 _ _ (by omega)
  · rw [e18 _ _ (by omega), e15 _ _ (by omega)]; exact (v1 k k0 k1).trans (e9 _ _ (by omega))
  · rw [e18 _ _ (by omega), e15 _ _ (by omega)]; exact (v2 i k i0 i1 k0 k1).trans (e9 _ _ (by omega))
  · rw [e18 _ _ (by omega), e15 _ _ (by omega)]; exact (v6 k k0 k1).trans (e9 _ _ (by omega))
  · rw [q18, mu_s]
set_option maxRecDepth 16384 in
/-- the reference's office, read -/
theorem off_mod {m1 b2 : MM} (h14 : m1 148 14 = 150) (F1 : Fr (fun b k => (b = 150 ∧ 0 ≤ k ∧ k < 92) ∨ (b = 155 ∧ 0 ≤ k ∧ k < 16)) b2 m1) (v1 : ∀ k, 0 ≤ k → k < 92 → m1 150 k = s32 (b2 151 k)) (v2 : ∀ k, 0 ≤ k → k < 16 → m1 155 k = b2 156 k) : Fr (fun x k => (x = 150 ∧ 0 ≤ k) ∨ (x = 155 ∧ 0 ≤ k ∧ k < 16) ∨ (x = 148 ∧ k = 23)) b2 (mu (g280 m1 148) 148 23 0) ∧ (∀ k, 0 ≤ k → k < 92 → (mu (g280 m1 148) 148 23 0) 150 k = s32 (b2 151 k)) ∧ (∀ k, 0 ≤ k → k < 16 → (mu (g280 m1 148) 148 23 0) 155 k = b2 156 k) ∧ (mu (g280 m1 148) 148 23 0) 150 92 = 0 ∧ (mu (g280 m1 148) 148 23 0) 150 93 = s32 (b2 151 3) ∧ (∀ k, 0 ≤ k → k < 64 → (mu (g280 m1 148) 148 23 0) 150 (94 + k) = s32 (b2 151 (12 + k))) ∧ (∀ k, 0 ≤ k → k < 24 → (mu (g280 m1 148) 148 23 0) 150 (158 + k) = -1) ∧ (∀ f, 0 ≤ f → f < 8 → (mu (g280 m1 148) 148 23 0) 150 (182 + f) = 0 ∧ (mu (g280 m1 148) 148 23 0) 150 (190 + f) = s32 (b2 151 (84 + f)) ∧ (mu (g280 m1 148) 148 23 0) 150 (198 + f) = -1 ∧ (mu (g280 m1 148) 148 23 0) 150 (206 + f) = 0) ∧ (mu (g280 m1 148) 148 23 0) 148 23 = 0 := by
  obtain ⟨f, x92, x93, xg, xs, xf, -⟩ := g280_ok h14
  have e : ∀ x k, x ≠ 148 → (mu (g280 m1 148) 148 23 0) x k = (g280 m1 148) x k := fun x k q => mu_a q
  refine ⟨fun x k hn => ?_, fun k k0 k1 => ?_, fun k k0 k1 => ?_, ?_, ?_, fun k k0 k1 => ?_, fun k k0 k1 => ?_, fun g g0 g1 => ⟨?_, ?_, ?_, ?_⟩, mu_s _ _ _ _⟩
  · by_cases c : x = 148
    · rw [c] at hn ⊢
      rw [mu_k (by omega), f _ _ (by omega), F1 _ _ (by omega)]
    · rw [e x k c, f _ _ (by omega), F1 _ _ (by omega)]
  · rw [e _ _ (by decide), f _ _ (by omega)]; exact v1 k k0 k1
  · rw [e _ _ (by decide), f _ _ (by omega)]; exact v2 k k0 k1
  · rw [e _ _ (by decide)]; exact x92
  · rw [e _ _ (by decide), x93, v1 3 (by decide) (by decide), s32_s32]
  · rw [e _ _ (by decide), xg k k0 k1, v1 (12 + k) (by omega) (by omega), s32_s32]
  · rw [e _ _ (by decide)]; exact xs k k0 k1
  · rw [e _ _ (by decide)]; exact (xf g g0 g1).1
  · rw [e _ _ (by decide), (xf g g0 g1).2.1, v1 (84 + g) (by omega) (by omega), s32_s32]
  · rw [e _ _ (by decide)]; exact (xf g g0 g1).2.2.1
  · rw [e _ _ (by decide)]; exact (xf g g0 g1).2.2.2
end
