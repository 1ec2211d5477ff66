/-! Restored alike. -/
set_option maxRecDepth 16384 in
theorem restore_pair {a b : MM} (h : C2 a b) (h11 : S11 a) (k : Int) : f28 a 0 k = f265 b 148 k ∧ C2 (g28 a 0 k) (g265 b 148 k) := by
  have h0 : C2 a (mu b 148 0 0) := C2_fr h (fun _ _ _ => rfl) (fun x j q => by
    by_cases c : x = 148
    · rw [c, mu_k (by unfold PJs at q; omega)]
    · rw [mu_a c])
  obtain ⟨-, -, hI, -, -⟩ := h
  unfold f28 g28 f265 g265
  rw [im_ln hI.1.1 hI.1.2.1]
  revert h0
  generalize mu b 148 0 0 = b1
  intro h0
  rcases f209_01 b1 k with ⟨c, d⟩ | ⟨c, d⟩
  · rw [c, if_pos rfl, if_pos rfl]
    by_cases e : k < 0
    · simp only [if_pos e]; exact ⟨trivial, h0⟩
    · have e2 : 2 ≤ k := by omega
      simp only [if_neg e, if_pos e2]; exact ⟨trivial, h0⟩
  · rw [c, if_neg n10, if_neg n10]
    have e : ¬ k < 0 := by omega
    have e2 : ¬ 2 ≤ k := by omega
    simp only [if_neg e, if_neg e2]
    have k0 : 0 ≤ k := by omega
    have k1 : k < 2 := by omega
    rw [im_el hI k0 k1]
    have h0' := h0
    obtain ⟨⟨⟨d1, d2, d3, d4⟩, hS, hU⟩, hN, -, ⟨j1, j2, j3, j4⟩, hK⟩ := h0
    obtain ⟨i1, i2, i3, i4, i5, i6⟩ := hI.2.1 k k0 k1
    obtain ⟨w1, w2⟩ := hK k k0 k1
    rw [j4, w1]
    by_cases w : b1 158 k = 0
    · simp only [if_pos w]
      exact ⟨trivial, h0'⟩
    · simp only [if_neg w]
      refine ⟨trivial, ?_⟩
      rcases w2 with w2 | ⟨wr, wn, ws⟩
      · exact absurd w2 w
      have hS' := hS
      obtain ⟨⟨y1, y2, y3, y4, y5, y6, y7⟩, r, n⟩ := hS
      -- the reference
      rw [B265_27 y4 j1 d]
      dsimp only
      have F1 : Fr (fun x j => x = 150 ∧ 0 ≤ j ∧ j < 456) b1 (fm b1 150 (0 + 0) (0 + 456) (fun j => s32 (b1 152 (456 * k + j)))) := (Fr.rf _ _).fl fun j q1 q2 => ⟨rfl, by omega, by omega⟩
      have v1 : ∀ j, 0 ≤ j → j < 456 → (fm b1 150 (0 + 0) (0 + 456) (fun j => s32 (b1 152 (456 * k + j)))) 150 j = s32 (b1 152 (456 * k + j)) := fun j q1 q2 => fm_i (by omega) (by omega)
      revert F1 v1
      generalize fm b1 150 (0 + 0) (0 + 456) (fun j => s32 (b1 152 (456 * k + j))) = n1
      intro F1 v1
      have w19 : n1 148 19 = 155 := by rw [F1 _ _ (by omega)]; exact j2
      have w21 : n1 148 21 = 157 := by rw [F1 _ _ (by omega)]; exact j3
      rw [B265_60 w19 w21 d]
      dsimp only
      have FB' : Fr (fun x j => (x = 150 ∧ 0 ≤ j ∧ j < 456) ∨ (x = 155 ∧ 0 ≤ j ∧ j < 16) ∨ (x = 148 ∧ j = 23)) b1 (mu (fm n1 155 (0 + 0) (0 + 16) (fun j => n1 157 (16 * k + j))) 148 23 0) := by
        have F1' : Fr (fun x j => (x = 150 ∧ 0 ≤ j ∧ j < 456) ∨ (x = 155 ∧ 0 ≤ j ∧ j < 16) ∨ (x = 148 ∧ j = 23)) b1 n1 := F1.mo fun x j q => Or.inl q
        have F2' : Fr (fun x j => (x = 150 ∧ 0 ≤ j ∧ j < 456) ∨ (x = 155 ∧ 0 ≤ j ∧ j < 16) ∨ (x = 148 ∧ j = 23)) b1 (fm n1 155 (0 + 0) (0 + 16) (fun j => n1 157 (16 * k + j))) := F1'.fl (fun j q1 q2 => Or.inr (Or.inl ⟨rfl, by omega, by omega⟩))
        exact F2'.mu (Or.inr (Or.inr ⟨rfl, rfl⟩))
      have vb1 : ∀ j, 0 ≤ j → j < 456 → (mu (fm n1 155 (0 + 0) (0 + 16) (fun j => n1 157 (16 * k + j))) 148 23 0) 150 j = s32 (b1 152 (456 * k + j)) := fun j q1 q2 => by rw [mu_a (by decide), fm_n (by decide)]; exact v1 j q1 q2
      have vb2 : ∀ j, 0 ≤ j → j < 16 → (mu (fm n1 155 (0 + 0) (0 + 16) (fun j => n1 157 (16 * k + j))) 148 23 0) 155 j = b1 157 (16 * k + j) := fun j q1 q2 => by
        rw [mu_a (by decide), fm_i (by omega) (by omega), F1 157 _ (by omega)]
      have vb3 : (mu (fm n1 155 (0 + 0) (0 + 16) (fun j => n1 157 (16 * k + j))) 148 23 0) 148 23 = 0 := mu_s _ _ _ _
      revert FB' vb1 vb2 vb3
      generalize mu (fm n1 155 (0 + 0) (0 + 16) (fun j => n1 157 (16 * k + j))) 148 23 0 = b'
      intro FB' vb1 vb2 vb3
      clear v1 F1 w19 w21
      -- the class
      rw [d1, i1]
      obtain ⟨f1, f2, f3⟩ := c67 (m := a) (x := 3) (y := 111 + 19 * k) y1 i4 (by omega)
      have fr1 : ∀ x j, (x < 3 ∨ 8 < x ∨ (x = 3 ∧ j < 5)) → (g67 a 3 (111 + 19 * k)) x j = a x j := fun x j q => f1 x j (by unfold PRo; omega)
      revert f2 f3 fr1
      clear f1
      generalize g67 a 3 (111 + 19 * k) = m1
      intro f2 f3 fr1
      have hI1 : LayI m1 := LayI_fr hI fun x j q => fr1 x j (by omega)
      have t1 : m1 (110 + 19 * k) 1 = 122 + 19 * k := by rw [fr1 _ _ (by omega)]; exact i2
      have t3 : m1 0 3 = 15 := by rw [fr1 _ _ (by omega)]; exact d2
      rw [im_el hI1 k0 k1, t1, t3]
      have z5 : LSt m1 (122 + 19 * k) := LSt_fr i5 fun j _ _ => fr1 _ _ (by omega)
      have z2 : LSt m1 15 := LSt_fr y2 fun j _ _ => fr1 _ _ (by omega)
      obtain ⟨g1, ⟨g2, g3⟩, g4, g5, g6⟩ := c113 (m := m1) (x := 15) (y := 122 + 19 * k) z2 z5 (by omega)
      have fr2 : ∀ x j, (x < 15 ∨ 21 < x ∨ (x = 15 ∧ j < 7) ∨ j < 0) → (g113 m1 15 (122 + 19 * k)) x j = m1 x j := fun x j q => g1 x j (by unfold PSt; omega)
      revert g2 g3 g4 g5 g6 fr2
      clear g1
      generalize g113 m1 15 (122 + 19 * k) = m2
      intro g2 g3 g4 g5 g6 fr2
      have hI2 : LayI m2 := LayI_fr hI1 fun x j q => fr2 x j (by omega)
      have t2 : m2 (110 + 19 * k) 2 = 117 + 19 * k := by rw [fr2 _ _ (by omega), fr1 _ _ (by omega)]; exact i3
      rw [im_el hI2 k0 k1, t2]
      have z6 : LSe m2 (117 + 19 * k) := LSe_fr i6 fun j _ _ => by rw [fr2 _ _ (by omega), fr1 _ _ (by omega)]
      have t11 : m2 0 11 = a 0 11 := by rw [fr2 _ _ (by omega), fr1 _ _ (by omega)]
      have z7 : LSe m2 (m2 0 11) := by
        rw [t11]
        rcases h11 with q | q | q | q <;> rw [q]
        · exact hI2.2.2.1
        · exact hI2.2.2.2.1
        · exact (hI2.2.1 0 (by decide) (by decide)).2.2.2.2.2
        · exact (hI2.2.1 1 (by decide) (by decide)).2.2.2.2.2
      have h11' : m2 0 11 = 100 ∨ m2 0 11 = 105 ∨ m2 0 11 = 117 ∨ m2 0 11 = 136 := by rw [t11]; exact h11
      have s1 := c88f (m := m2) (x := m2 0 11) (y := 117 + 19 * k) z7 z6 (by omega)
      have s5 : (g88 m2 (m2 0 11) (117 + 19 * k)) 0 5 = 29 := by rw [s1 _ _ (by unfold PSe; omega), fr2 _ _ (by omega), fr1 _ _ (by omega)]; exact d3
      unfold g161
      rw [s5]
      have fr3 : ∀ x j, (x < 100 ∨ (108 < x ∧ x < 117) ∨ (120 < x ∧ x < 136) ∨ 139 < x ∨ ((x = 100 ∨ x = 105 ∨ x = 117 ∨ x = 136) ∧ j < 4)) → (mu (g88 m2 (m2 0 11) (117 + 19 * k)) 29 2 0) x j = if x = 29 ∧ j = 2 then 0 else m2 x j := fun x j q => by
        by_cases c : x = 29 ∧ j = 2
        · rw [if_pos c, c.1, c.2, mu_s]
        · rw [if_neg c]
          have : (mu (g88 m2 (m2 0 11) (117 + 19 * k)) 29 2 0) x j = (g88 m2 (m2 0 11) (117 + 19 * k)) x j := if_neg c
          rw [this]
          exact s1 x j (by unfold PSe; omega)
      revert fr3
      clear s1 s5
      generalize mu (g88 m2 (m2 0 11) (117 + 19 * k)) 29 2 0 = a'
      intro fr3
      -- all of it
      have ea : ∀ x j, (x < 3 ∨ (8 < x ∧ x < 15) ∨ (21 < x ∧ x < 29) ∨ (29 < x ∧ x < 100) ∨ (108 < x ∧ x < 117) ∨ (120 < x ∧ x < 136) ∨ 139 < x ∨ (x = 3 ∧ j < 5) ∨ (x = 15 ∧ j < 7) ∨ (x = 29 ∧ j ≠ 2) ∨ ((x = 100 ∨ x = 105 ∨ x = 117 ∨ x = 136) ∧ j < 4)) → a' x j = a x j := fun x j q => by rw [fr3 _ _ (by omega), if_neg (by omega), fr2 _ _ (by omega), fr1 _ _ (by omega)]
      have er : ∀ x j, 3 ≤ x → x ≤ 8 → a' x j = m1 x j := fun x j q1 q2 => by rw [fr3 _ _ (by omega), if_neg (by omega), fr2 _ _ (by omega)]
      have es : ∀ x j, 15 ≤ x → x ≤ 21 → a' x j = m2 x j := fun x j q1 q2 => by rw [fr3 _ _ (by omega), if_neg (by omega)]
      have e29 : a' 29 2 = 0 := by rw [fr3 _ _ (by omega), if_pos ⟨rfl, rfl⟩]
      have eb : ∀ x j, x ≠ 150 → x ≠ 155 → ¬ (x = 148 ∧ j = 23) → b' x j = b1 x j := fun x j q1 q2 q3 => FB' x j (by omega)
      have hRo : Ro a' b' 3 150 0 := by
        refine Ro_cp wr (fun j q1 q2 => ?_) (fun i j q1 q2 q3 q4 => ?_) (fun j q1 q2 => ?_)
        · rw [er _ _ (by omega) (by omega)]; exact f2 j (by omega) q2
        · rw [er _ _ (by omega) (by omega)]; exact f3 i j (by omega) q2 q3 q4
        · rw [Int.zero_add, vb1 j q1 (by omega)]
      have hSn : Sn a' b' 3 15 150 0 := by
        refine Sn_cp ws ?_ wr.2.1.2.2 (fun f f0 f1 => (wr.2.2.2.2 f f0 f1).2.2) (fun f f0 f1 => ⟨?_, ?_⟩) ⟨?_, ?_⟩ (fun j q1 q2 => ?_) (fun i j q1 q2 q3 q4 => ?_) (fun j q1 q2 => ?_) (fun j q1 q2 => Or.inr ?_)
        · rw [er _ _ (by omega) (by omega)]; exact f2 7 (by decide) (by decide)
        · rw [er _ _ (by omega) (by omega)]; exact f3 3 f (by decide) (by decide) f0 f1
        · rw [er _ _ (by omega) (by omega)]; exact f3 4 f (by decide) (by decide) f0 f1
        · rw [es _ _ (by omega) (by omega), g2]; exact fr1 _ _ (by omega)
        · rw [es _ _ (by omega) (by omega), g3]; exact fr1 _ _ (by omega)
        · rw [es _ _ (by omega) (by omega), g4 j q1 q2]; exact fr1 _ _ (by omega)
        · rw [es _ _ (by omega) (by omega), g5 i j q1 q2 q3 q4]; exact fr1 _ _ (by omega)
        · rw [es _ _ (by omega) (by omega), g6 j q1 q2]; exact fr1 _ _ (by omega)
        · rw [Int.zero_add, vb1 j (by omega) (by omega)]
      obtain ⟨⟨u1, u2, u3, u4⟩, ⟨u5, u6⟩, ⟨u7, u8, u9⟩, u10, u11⟩ := hU
      refine ⟨⟨⟨?_, ?_, ?_, ?_⟩, ⟨⟨?_, ?_, ?_, ?_, y5, y6, ?_⟩, hRo, hSn⟩, ⟨⟨?_, ?_, fun i i0 i8 => ?_, fun i i0 i8 => ?_⟩, ⟨?_, ?_⟩, ⟨?_, ?_, ?_⟩, ?_, fun j q1 q2 => ?_⟩⟩, ?_, LayI_fr hI fun x j q => ea x j (by omega), LayJ_fr ⟨j1, j2, j3, j4⟩ fun j q1 q2 => eb _ _ (by decide) (by decide) (by omega), fun i x0 x1 => ?_⟩
      · rw [ea _ _ (by omega)]; exact d1
      · rw [ea _ _ (by omega)]; exact d2
      · rw [ea _ _ (by omega)]; exact d3
      · rw [ea _ _ (by omega)]; exact d4
      · exact LRo_fr y1 fun j _ _ => ea _ _ (by omega)
      · exact LSt_fr y2 fun j _ _ => ea _ _ (by omega)
      · rw [ea _ _ (by omega)]; exact y3
      · rw [eb _ _ (by decide) (by decide) (by decide)]; exact y4
      · rw [es _ _ (by decide) (by decide), fr2 _ _ (by omega), fr1 _ _ (by omega)]; exact y7
      · rw [ea _ _ (by omega)]; exact u1
      · rw [ea _ _ (by omega)]; exact u2
      · rw [ea _ _ (by omega)]; exact u3 i i0 i8
      · exact LSt_fr (u4 i i0 i8) fun j _ _ => ea _ _ (by omega)
      · rw [ea _ _ (by omega)]; exact u5
      · rw [ea _ _ (by omega)]; exact u6
      · rw [e29, vb3]
      · rw [e29]; decide
      · rw [e29]; decide
      · rw [eb _ _ (by decide) (by decide) (by decide)]; exact u10
      · rw [e29] at q2; omega
      · refine Nm_cp wn wr.1.2.2 wr.2.1.2.2 (fun j q1 q2 => ?_) (fun i j q1 q2 q3 q4 => ?_) (fun j q1 q2 => ?_)
        · rw [er _ _ (by omega) (by omega)]; exact f2 j (by omega) (by omega)
        · rw [er _ _ (by omega) (by omega)]; exact f3 i j q1 (by omega) q3 q4
        · rw [Int.zero_add, vb2 j q1 q2]
      · exact Ik_fr (hK i x0 x1) (fun x j q1 q2 _ _ => ea x j (by omega)) (fun j q1 q2 => eb _ _ (by decide) (by decide) (by omega)) (fun j q1 q2 => eb _ _ (by decide) (by decide) (by omega)) (eb _ _ (by decide) (by decide) (by omega))
