/-! What is so, copied; acts to be undone. -/
set_option maxRecDepth 16384 in
theorem Sn_cp {a a' b b' : MM} {r r' s s' n n' o o' : Int} (h : Sn a b r s n o) (h7 : a' r' 7 = a r 7) (h8 : a r 7 ≤ 8) (hsr : ∀ f, 0 ≤ f → f < a r 7 → 1 ≤ a (r + 4) f ∧ a (r + 4) f ≤ 9) (hab : ∀ f, 0 ≤ f → f < 8 → a' (r' + 3) f = a (r + 3) f ∧ a' (r' + 4) f = a (r + 4) f) (hs : a' s' 7 = a s 7 ∧ a' s' 8 = a s 8) (h1 : ∀ k, 0 ≤ k → k < 64 → a' (s' + 1) k = a (s + 1) k) (h2 : ∀ i k, 2 ≤ i → i ≤ 5 → 0 ≤ k → k < 8 → a' (s' + i) k = a (s + i) k) (h6 : ∀ k, 0 ≤ k → k < 24 → a' (s' + 6) k = a (s + 6) k) (hb : ∀ k, 92 ≤ k → k < 214 → b' n' (o' + k) = b n (o + k) ∨ b' n' (o' + k) = s32 (b n (o + k))) : Sn a' b' r' s' n' o' := by
  have hb' : ∀ x y v, x - o' = y - o → 92 ≤ y - o → y - o < 214 → b n y = v → s32 v = v → b' n' x = v := fun x y v e1 e2 e3 e4 e5 => by
    have := hb (y - o) e2 e3
    rw [show o' + (y - o) = x by omega, show o + (y - o) = y by omega, e4, e5] at this
    rcases this with q | q <;> exact q
  obtain ⟨⟨d1, d1', d1''⟩, ⟨d2, d2'⟩, d3, d4, d5⟩ := h
  refine ⟨⟨?_, ?_, ?_⟩, ⟨?_, ?_⟩, fun k k0 k1 => ?_, fun p p0 p1 => ?_, fun f f0 f1 => ?_⟩
  · rw [hs.2]; exact (hb' (o' + 92) (o + 92) _ (by omega) (by omega) (by omega) d1.symm (s32_id (by omega) (by omega))).symm
  · rw [hs.2]; exact d1'
  · rw [hs.2]; exact d1''
  · rw [hs.1]; exact (hb' (o' + 93) (o + 93) _ (by omega) (by omega) (by omega) d2.symm d2').symm
  · rw [hs.1]; exact d2'
  · obtain ⟨q1, q2, q3, q4⟩ := d3 k k0 k1
    rw [h1 k k0 k1]
    exact ⟨(hb' (o' + 94 + k) (o + 94 + k) _ (by omega) (by omega) (by omega) q1.symm (s32_id (by omega) (by omega))).symm, q2, q3, q4⟩
  · obtain ⟨⟨q1, q2, q3⟩, q4, q5⟩ := d4 p p0 p1
    rw [h2 2 p (by decide) (by decide) p0 p1, h2 3 p (by decide) (by decide) p0 p1]
    exact ⟨⟨(hb' (o' + 198 + p) (o + 198 + p) _ (by omega) (by omega) (by omega) q1.symm (s32_id (by omega) (by omega))).symm, q2, q3⟩, (hb' (o' + 206 + p) (o + 206 + p) _ (by omega) (by omega) (by omega) q4.symm q5).symm, q5⟩
  · rw [h7] at f1
    obtain ⟨⟨g1, g1', g1''⟩, g2, g3, g4, g5, g6⟩ := d5 f f0 f1
    have hab' := hab f f0 (by omega)
    have e4 := h2 4 f (by decide) (by decide) f0 (by omega)
    have e5 := h2 5 f (by decide) (by decide) f0 (by omega)
    have hs4 := hsr f f0 f1
    have e90 : ∀ v, b n (o + 190 + f) = v → s32 v = v → b' n' (o' + 190 + f) = v := fun v => hb' (o' + 190 + f) (o + 190 + f) v (by omega) (by omega) (by omega)
    refine ⟨⟨?_, ?_, ?_⟩, fun q => ?_, fun q => ?_, fun q q' => ?_, fun k k0 k1 => ?_, ?_⟩
    · rw [e4]; exact (hb' (o' + 182 + f) (o + 182 + f) _ (by omega) (by omega) (by omega) g1.symm (s32_id (by omega) (by omega))).symm
    · rw [e4]; exact g1'
    · rw [e4]; exact g1''
    · rw [e4] at q
      obtain ⟨t1, t2, t3⟩ := g2 q
      rw [e5]
      exact ⟨e90 _ t1 (s32_id (by omega) (by omega)), t2, t3⟩
    · rw [e4] at q
      exact e90 _ (g3 q) (s32_id (by decide) (by decide))
    · rw [e4] at q q'
      rw [hab'.2]
      exact e90 _ (g4 q q') (s32_id (by omega) (by omega))
    · obtain ⟨t1, t2, t3, t4⟩ := g5 k k0 k1
      rw [h6 (3 * f + k) (by omega) (by omega), e4]
      exact ⟨(hb' (o' + 158 + (3 * f + k)) (o + 158 + (3 * f + k)) _ (by omega) (by omega) (by omega) t1.symm (s32_id (by omega) (by omega))).symm, t2, t3, t4⟩
    · rw [h6 (3 * f + 1) (by omega) (by omega), hab'.1]; exact g6
set_option maxRecDepth 16384 in
theorem Ro_cp {a a' b b' : MM} {r r' n n' o o' : Int} (h : Ro a b r n o) (hk : ∀ k, 6 ≤ k → k ≤ 8 → a' r' k = a r k) (hi : ∀ i k, 3 ≤ i → i ≤ 5 → 0 ≤ k → k < 8 → a' (r' + i) k = a (r + i) k) (hb : ∀ k, 0 ≤ k → k < 92 → b' n' (o' + k) = s32 (b n (o + k))) : Ro a' b' r' n' o' := by
  have hb' : ∀ x y, x - o' = y - o → 0 ≤ y - o → y - o < 92 → b' n' x = s32 (b n y) := fun x y e1 e2 e3 => by
    have := hb (y - o) e2 e3
    rw [show o' + (y - o) = x by omega, show o + (y - o) = y by omega] at this
    exact this
  obtain ⟨⟨c1, c2, c3⟩, ⟨c4, c5, c6⟩, ⟨c7, c8⟩, c9, c10⟩ := h
  refine ⟨⟨?_, ?_, ?_⟩, ⟨?_, ?_, ?_⟩, ⟨?_, ?_⟩, fun k k0 k1 => ?_, fun k k0 k1 => ?_⟩
  · rw [hk 6 (by decide) (by decide), hb' o' o (by omega) (by omega) (by omega), ← c1, s32_id (by omega) (by omega)]
  · rw [hk 6 (by decide) (by decide)]; exact c2
  · rw [hk 6 (by decide) (by decide)]; exact c3
  · rw [hk 7 (by decide) (by decide), hb' (o' + 1) (o + 1) (by omega) (by omega) (by omega), ← c4, s32_id (by omega) (by omega)]
  · rw [hk 7 (by decide) (by decide)]; exact c5
  · rw [hk 7 (by decide) (by decide)]; exact c6
  · rw [hk 8 (by decide) (by decide), hb' (o' + 2) (o + 2) (by omega) (by omega) (by omega), ← c7, s32_id (by omega) (by omega)]
  · rw [hk 8 (by decide) (by decide)]; exact c8
  · obtain ⟨q1, q2⟩ := c9 k k0 k1
    rw [hi 5 k (by decide) (by decide) k0 k1, hb' (o' + 4 + k) (o + 4 + k) (by omega) (by omega) (by omega), ← q1]
    exact ⟨q2.symm, q2⟩
  · rw [hk 7 (by decide) (by decide)] at k1
    obtain ⟨⟨q1, q2, q3⟩, q4, q5, q6⟩ := c10 k k0 k1
    rw [hi 3 k (by decide) (by decide) k0 (by omega), hi 4 k (by decide) (by decide) k0 (by omega), hb' (o' + 76 + k) (o + 76 + k) (by omega) (by omega) (by omega), hb' (o' + 84 + k) (o + 84 + k) (by omega) (by omega) (by omega), ← q1, ← q4]
    exact ⟨⟨(s32_id (by omega) (by omega)).symm, q2, q3⟩, (s32_id (by omega) (by omega)).symm, q5, q6⟩
set_option maxRecDepth 16384 in
theorem Nm_cp {a a' b b' : MM} {r r' w w' u u' : Int} (h : Nm a b r w u) (h6 : a r 6 ≤ 8) (h7 : a r 7 ≤ 8) (hk : ∀ k, 6 ≤ k → k ≤ 7 → a' r' k = a r k) (hi : ∀ i k, 1 ≤ i → i ≤ 2 → 0 ≤ k → k < 8 → a' (r' + i) k = a (r + i) k) (hb : ∀ k, 0 ≤ k → k < 16 → b' w' (u' + k) = b w (u + k)) : Nm a' b' r' w' u' := by
  obtain ⟨n1, n2⟩ := h
  refine ⟨fun k k0 k1 => ?_, fun k k0 k1 => ?_⟩
  · rw [hk 6 (by decide) (by decide)] at k1
    rw [hi 1 k (by decide) (by decide) k0 (by omega), hb k k0 (by omega)]
    exact n1 k k0 k1
  · rw [hk 7 (by decide) (by decide)] at k1
    have := hb (8 + k) (by omega) (by omega)
    rw [← Int.add_assoc, ← Int.add_assoc] at this
    rw [hi 2 k (by decide) (by decide) k0 (by omega), this]
    exact n2 k k0 k1
set_option maxRecDepth 16384 in
/-- what is kept to be undone -/
def Un (a b : MM) : Prop := (a 29 0 = 30 ∧ a 30 (-1) = 8 ∧ (∀ i, 0 ≤ i → i < 8 → a 30 i = 31 + 7 * i) ∧ (∀ i, 0 ≤ i → i < 8 → LSt a (31 + 7 * i))) ∧ (0 ≤ a 29 1 ∧ a 29 1 < 8) ∧ (a 29 2 = b 148 23 ∧ 0 ≤ a 29 2 ∧ a 29 2 ≤ 8) ∧ b 148 17 = 153 ∧ (∀ j, 0 ≤ j → j < a 29 2 → Sn a b 3 (31 + 7 * ((a 29 1 + 8 - a 29 2 + j) % 8)) 153 (122 * j - 92))
set_option maxRecDepth 16384 in
theorem Sn_fr {a a' b b' : MM} {r s n o : Int} (h : Sn a b r s n o) (hr : ∀ x k, r ≤ x → x ≤ r + 5 → 0 ≤ k → a' x k = a x k) (hs : ∀ x k, s ≤ x → x ≤ s + 6 → 0 ≤ k → a' x k = a x k) (hb : ∀ k, b' n k = b n k) : Sn a' b' r s n o := by
  have e1 : b' n = b n := funext hb
  obtain ⟨d1, d2, d3, d4, d5⟩ := h
  have hs' : ∀ i k, 0 ≤ i → i ≤ 6 → 0 ≤ k → a' (s + i) k = a (s + i) k := fun i k i0 i6 k0 => hs _ k (by omega) (by omega) k0
  refine ⟨?_, ?_, fun k k0 k1 => ?_, fun p p0 p1 => ?_, fun f f0 f1 => ?_⟩
  · rw [hs s 8 (by omega) (by omega) (by decide), e1]; exact d1
  · rw [hs s 7 (by omega) (by omega) (by decide), e1]; exact d2
  · rw [hs' 1 k (by decide) (by decide) k0, e1]; exact d3 k k0 k1
  · rw [hs' 2 p (by decide) (by decide) p0, hs' 3 p (by decide) (by decide) p0, e1]; exact d4 p p0 p1
  · rw [hr r 7 (by omega) (by omega) (by decide)] at f1
    have q := d5 f f0 f1
    unfold Fo at *
    rw [hs' 4 f (by decide) (by decide) f0, hs' 5 f (by decide) (by decide) f0, hs' 6 (3 * f + 1) (by decide) (by decide) (by omega), hr (r + 3) f (by omega) (by omega) f0, hr (r + 4) f (by omega) (by omega) f0, e1]
    refine ⟨q.1, q.2.1, q.2.2.1, q.2.2.2.1, fun k k0 k1 => ?_, q.2.2.2.2.2⟩
    rw [hs' 6 (3 * f + k) (by decide) (by decide) (by omega)]
    exact q.2.2.2.2.1 k k0 k1
set_option maxRecDepth 16384 in
theorem Un_fr {a a' b b' : MM} (h : Un a b) (ha : ∀ x k, (3 ≤ x ∧ x ≤ 8 ∧ 0 ≤ k) ∨ (29 ≤ x ∧ x ≤ 86) → a' x k = a x k) (hb : ∀ k, b' 153 k = b 153 k) (h23 : b' 148 23 = b 148 23) (h17 : b' 148 17 = b 148 17) : Un a' b' := by
  obtain ⟨⟨u1, u2, u3, u4⟩, ⟨u5, u6⟩, ⟨u7, u8, u9⟩, u10, u11⟩ := h
  have e1 := ha 29 1 (by omega)
  have e2 := ha 29 2 (by omega)
  refine ⟨⟨?_, ?_, fun i i0 i8 => ?_, fun i i0 i8 => ?_⟩, ⟨?_, ?_⟩, ⟨?_, ?_, ?_⟩, ?_, fun j j0 j1 => ?_⟩
  · rw [ha _ _ (by omega)]; exact u1
  · rw [ha _ _ (by omega)]; exact u2
  · rw [ha _ _ (by omega)]; exact u3 i i0 i8
  · obtain ⟨q1, q2, q3, q4, q5, q6⟩ := u4 i i0 i8
    unfold LSt
    rw [ha _ _ (by omega), ha _ _ (by omega), ha _ _ (by omega), ha _ _ (by omega), ha _ _ (by omega), ha _ _ (by omega)]
    exact ⟨q1, q2, q3, q4, q5, q6⟩
  · rw [e1]; exact u5
  · rw [e1]; exact u6
  · rw [e2, h23]; exact u7
  · rw [e2]; exact u8
  · rw [e2]; exact u9
  · rw [h17]; exact u10
  · rw [e2] at j1
    rw [e1, e2]
    exact Sn_fr (u11 j j0 j1) (fun x k x0 x1 k0 => ha x k (by omega)) (fun x k x0 x1 k0 => ha x k (by omega)) hb
