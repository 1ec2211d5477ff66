/-! Images: kept and restored alike. -/
set_option maxRecDepth 16384 in
theorem Ro_fr {a a' b b' : MM} {r n o : Int} (h : Ro a b r n o) (ha : ∀ x k, r ≤ x → x ≤ r + 5 → 0 ≤ k → a' x k = a x k) (hb : ∀ k, b' n k = b n k) : Ro a' b' r n o := by
  have e1 : b' n = b n := funext hb
  obtain ⟨c1, c2, c3, c4, c5⟩ := h
  have e6 := ha r 6 (by omega) (by omega) (by decide)
  have e7 := ha r 7 (by omega) (by omega) (by decide)
  have e8 := ha r 8 (by omega) (by omega) (by decide)
  refine ⟨?_, ?_, ?_, fun k k0 k1 => ?_, fun k k0 k1 => ?_⟩
  · rw [e6, e1]; exact c1
  · rw [e7, e1]; exact c2
  · rw [e8, e1]; exact c3
  · rw [ha _ k (by omega) (by omega) k0, e1]; exact c4 k k0 k1
  · rw [e7] at k1
    rw [ha (r + 3) k (by omega) (by omega) k0, ha (r + 4) k (by omega) (by omega) k0, e1]; exact c5 k k0 k1
set_option maxRecDepth 16384 in
theorem Nm_fr {a a' b b' : MM} {r w u : Int} (h : Nm a b r w u) (ha : ∀ x k, r ≤ x → x ≤ r + 5 → 0 ≤ k → a' x k = a x k) (hb : ∀ k, b' w k = b w k) : Nm a' b' r w u := by
  have e1 : b' w = b w := funext hb
  obtain ⟨c1, c2⟩ := h
  have e6 := ha r 6 (by omega) (by omega) (by decide)
  have e7 := ha r 7 (by omega) (by omega) (by decide)
  refine ⟨fun k k0 k1 => ?_, fun k k0 k1 => ?_⟩
  · rw [e6] at k1
    rw [ha _ k (by omega) (by omega) k0, e1]; exact c1 k k0 k1
  · rw [e7] at k1
    rw [ha _ k (by omega) (by omega) k0, e1]; exact c2 k k0 k1
set_option maxRecDepth 16384 in
/-- an image's places -/
def LI (a : MM) (k : Int) : Prop := a (110 + 19 * k) 0 = 111 + 19 * k ∧ a (110 + 19 * k) 1 = 122 + 19 * k ∧ a (110 + 19 * k) 2 = 117 + 19 * k ∧ LRo a (111 + 19 * k) ∧ LSt a (122 + 19 * k) ∧ LSe a (117 + 19 * k)
set_option maxRecDepth 16384 in
def LayI (a : MM) : Prop := (a 0 6 = 87 ∧ a 87 (-1) = 2 ∧ ∀ k, 0 ≤ k → k < 2 → a 87 k = 110 + 19 * k) ∧ (∀ k, 0 ≤ k → k < 2 → LI a k) ∧ LSe a 100 ∧ LSe a 105 ∧ LSt a 22 ∧ a 22 0 = 3 ∧ a 24 (-1) = 8
set_option maxRecDepth 16384 in
/-- the sentence that is so -/
def S11 (a : MM) : Prop := a 0 11 = 100 ∨ a 0 11 = 105 ∨ a 0 11 = 117 ∨ a 0 11 = 136
set_option maxRecDepth 16384 in
def LayJ (b : MM) : Prop := b 148 16 = 152 ∧ b 148 19 = 155 ∧ b 148 21 = 157 ∧ b 148 22 = 158
set_option maxRecDepth 16384 in
def Ik (a b : MM) (k : Int) : Prop := a (110 + 19 * k) 3 = b 158 k ∧ (b 158 k = 0 ∨ (Ro a b (111 + 19 * k) 152 (456 * k) ∧ Nm a b (111 + 19 * k) 157 (16 * k) ∧ Sn a b (111 + 19 * k) (122 + 19 * k) 152 (456 * k)))
set_option maxRecDepth 16384 in
/-- all that is so: now, what can be undone, images -/
def C2 (a b : MM) : Prop := C1 a b ∧ Nm a b 3 155 0 ∧ LayI a ∧ LayJ b ∧ ∀ k, 0 ≤ k → k < 2 → Ik a b k
set_option maxRecDepth 16384 in
theorem Ik_fr {a a' b b' : MM} {k : Int} (h : Ik a b k) (ha : ∀ x j, 110 + 19 * k ≤ x → x ≤ 128 + 19 * k → x ≤ 116 + 19 * k ∨ 122 + 19 * k ≤ x → 0 ≤ j → a' x j = a x j) (h1 : ∀ j, 456 * k ≤ j → j < 456 * k + 456 → b' 152 j = b 152 j) (h2 : ∀ j, 16 * k ≤ j → j < 16 * k + 16 → b' 157 j = b 157 j) (h3 : b' 158 k = b 158 k) : Ik a' b' k := by
  obtain ⟨e, h⟩ := h
  refine ⟨by rw [ha _ _ (by omega) (by omega) (by omega) (by decide), h3]; exact e, ?_⟩
  rw [h3]
  rcases h with h | ⟨p, q, r⟩
  · exact Or.inl h
  · have p5 := p.2.2.2.2
    have p7 := p.2.1
    refine Or.inr ⟨?_, ?_, ?_⟩
    · obtain ⟨c1, c2, c3, c4, c5⟩ := p
      refine ⟨?_, ?_, ?_, fun j j0 j1 => ?_, fun j j0 j1 => ?_⟩
      · rw [ha _ 6 (by omega) (by omega) (by omega) (by decide), h1 _ (by omega) (by omega)]; exact c1
      · rw [ha _ 7 (by omega) (by omega) (by omega) (by decide), h1 _ (by omega) (by omega)]; exact c2
      · rw [ha _ 8 (by omega) (by omega) (by omega) (by decide), h1 _ (by omega) (by omega)]; exact c3
      · rw [ha _ j (by omega) (by omega) (by omega) j0, h1 _ (by omega) (by omega)]; exact c4 j j0 j1
      · rw [ha _ 7 (by omega) (by omega) (by omega) (by decide)] at j1
        rw [ha (111 + 19 * k + 3) j (by omega) (by omega) (by omega) j0, ha (111 + 19 * k + 4) j (by omega) (by omega) (by omega) j0, h1 _ (by omega) (by omega), h1 _ (by omega) (by omega)]; exact c5 j j0 j1
    · exact Nm_cp q p.1.2.2 p7.2.2 (fun j j0 j1 => ha _ _ (by omega) (by omega) (by omega) (by omega)) (fun i j i0 i1 j0 j1 => ha _ _ (by omega) (by omega) (by omega) (by omega)) (fun j j0 j1 => h2 _ (by omega) (by omega))
    · exact Sn_cp r (ha _ _ (by omega) (by omega) (by omega) (by decide)) p7.2.2 (fun f f0 f1 => (p5 f f0 f1).2.2) (fun f f0 f1 => ⟨ha _ _ (by omega) (by omega) (by omega) f0, ha _ _ (by omega) (by omega) (by omega) f0⟩) ⟨ha _ _ (by omega) (by omega) (by omega) (by decide), ha _ _ (by omega) (by omega) (by omega) (by decide)⟩ (fun j j0 j1 => ha _ _ (by omega) (by omega) (by omega) j0) (fun i j i0 i1 j0 j1 => ha _ _ (by omega) (by omega) (by omega) j0) (fun j j0 j1 => ha _ _ (by omega) (by omega) (by omega) j0) (fun j j0 j1 => Or.inl (h1 _ (by omega) (by omega)))
set_option maxRecDepth 16384 in
/-- places that all that is so rests on -/
def PCs (x k : Int) : Prop := (x = 0 ∧ 1 ≤ k ∧ k ≤ 6) ∨ (3 ≤ x ∧ x ≤ 8 ∧ 0 ≤ k) ∨ (15 ≤ x ∧ x ≤ 21) ∨ (x = 22 ∧ 0 ≤ k ∧ k ≤ 6) ∨ (x = 24 ∧ k = -1) ∨ (29 ≤ x ∧ x ≤ 87) ∨ ((x = 100 ∨ x = 105) ∧ 0 ≤ k ∧ k ≤ 2) ∨ (((110 ≤ x ∧ x ≤ 116) ∨ (122 ≤ x ∧ x ≤ 135) ∨ (141 ≤ x ∧ x ≤ 147)) ∧ 0 ≤ k) ∨ ((x = 117 ∨ x = 136) ∧ 0 ≤ k ∧ k ≤ 2)
set_option maxRecDepth 16384 in
def PJs (x k : Int) : Prop := (x = 148 ∧ (k = 14 ∨ (16 ≤ k ∧ k ≤ 23))) ∨ x = 150 ∨ x = 152 ∨ x = 153 ∨ x = 155 ∨ x = 157 ∨ x = 158
set_option maxRecDepth 16384 in
theorem LSt_fr {a a' : MM} {s : Int} (h : LSt a s) (e : ∀ k, 1 ≤ k → k ≤ 6 → a' s k = a s k) : LSt a' s := by
  obtain ⟨q1, q2, q3, q4, q5, q6⟩ := h
  unfold LSt
  rw [e _ (by decide) (by decide), e _ (by decide) (by decide), e _ (by decide) (by decide), e _ (by decide) (by decide), e _ (by decide) (by decide), e _ (by decide) (by decide)]
  exact ⟨q1, q2, q3, q4, q5, q6⟩
set_option maxRecDepth 16384 in
theorem LRo_fr {a a' : MM} {s : Int} (h : LRo a s) (e : ∀ k, 0 ≤ k → k ≤ 4 → a' s k = a s k) : LRo a' s := by
  obtain ⟨q1, q2, q3, q4, q5⟩ := h
  unfold LRo
  rw [e _ (by decide) (by decide), e _ (by decide) (by decide), e _ (by decide) (by decide), e _ (by decide) (by decide), e _ (by decide) (by decide)]
  exact ⟨q1, q2, q3, q4, q5⟩
set_option maxRecDepth 16384 in
theorem LSe_fr {a a' : MM} {s : Int} (h : LSe a s) (e : ∀ k, 0 ≤ k → k ≤ 2 → a' s k = a s k) : LSe a' s := by
  obtain ⟨q1, q2, q3⟩ := h
  unfold LSe
  rw [e _ (by decide) (by decide), e _ (by decide) (by decide), e _ (by decide) (by decide)]
  exact ⟨q1, q2, q3⟩
set_option maxRecDepth 16384 in
theorem LayI_fr {a a' : MM} (h : LayI a) (e : ∀ x k, (x = 0 ∧ k = 6) ∨ x = 87 ∨ ((x = 110 ∨ x = 129) ∧ 0 ≤ k ∧ k ≤ 2) ∨ ((x = 111 ∨ x = 130) ∧ 0 ≤ k ∧ k ≤ 4) ∨ ((x = 122 ∨ x = 141) ∧ 1 ≤ k ∧ k ≤ 6) ∨ ((x = 117 ∨ x = 136 ∨ x = 100 ∨ x = 105) ∧ 0 ≤ k ∧ k ≤ 2) ∨ (x = 22 ∧ 0 ≤ k ∧ k ≤ 6) ∨ (x = 24 ∧ k = -1) → a' x k = a x k) : LayI a' := by
  obtain ⟨⟨h1, h2, h3⟩, h4, h6, h7, h8, h9, h10⟩ := h
  refine ⟨⟨?_, ?_, fun k k0 k1 => ?_⟩, fun k k0 k1 => ?_, ?_, ?_, ?_, ?_, ?_⟩
  · rw [e _ _ (by omega)]; exact h1
  · rw [e _ _ (by omega)]; exact h2
  · rw [e _ _ (by omega)]; exact h3 k k0 k1
  · obtain ⟨q1, q2, q3, q4, q5, q6⟩ := h4 k k0 k1
    refine ⟨?_, ?_, ?_, LRo_fr q4 fun j j0 j1 => e _ _ (by omega), LSt_fr q5 fun j j0 j1 => e _ _ (by omega), LSe_fr q6 fun j j0 j1 => e _ _ (by omega)⟩
    · rw [e _ _ (by omega)]; exact q1
    · rw [e _ _ (by omega)]; exact q2
    · rw [e _ _ (by omega)]; exact q3
  · exact LSe_fr h6 fun j j0 j1 => e _ _ (by omega)
  · exact LSe_fr h7 fun j j0 j1 => e _ _ (by omega)
  · exact LSt_fr h8 fun j j0 j1 => e _ _ (by omega)
  · rw [e _ _ (by omega)]; exact h9
  · rw [e _ _ (by omega)]; exact h10
set_option maxRecDepth 16384 in
theorem LayJ_fr {b b' : MM} (h : LayJ b) (e : ∀ k, 16 ≤ k → k ≤ 22 → b' 148 k = b 148 k) : LayJ b' := by
  obtain ⟨h1, h2, h3, h4⟩ := h
  unfold LayJ
  rw [e _ (by decide) (by decide), e _ (by decide) (by decide), e _ (by decide) (by decide), e _ (by decide) (by decide)]
  exact ⟨h1, h2, h3, h4⟩
set_option maxRecDepth 16384 in
theorem C1_fr {a a' b b' : MM} (h : C1 a b) (ha : ∀ x k, (x = 0 ∧ 1 ≤ k ∧ k ≤ 6) ∨ (3 ≤ x ∧ x ≤ 8 ∧ 0 ≤ k) ∨ (15 ≤ x ∧ x ≤ 21) ∨ (29 ≤ x ∧ x ≤ 86) → a' x k = a x k) (hb : ∀ k, b' 150 k = b 150 k) (hb2 : ∀ k, b' 153 k = b 153 k) (hb3 : b' 148 14 = b 148 14 ∧ b' 148 23 = b 148 23 ∧ b' 148 17 = b 148 17) : C1 a' b' := by
  obtain ⟨⟨h1, h2, h3, h4⟩, hs, hu⟩ := h
  refine ⟨⟨?_, ?_, ?_, ?_⟩, ?_, Un_fr hu (fun x k q => ha x k (by omega)) hb2 hb3.2.1 hb3.2.2⟩
  · rw [ha _ _ (by omega)]; exact h1
  · rw [ha _ _ (by omega)]; exact h2
  · rw [ha _ _ (by omega)]; exact h3
  · rw [ha _ _ (by omega)]; exact h4
  · have e15 : ∀ x k, 15 ≤ x → x ≤ 21 → a' x k = a x k := fun x k x0 x1 => ha x k (by omega)
    have e3 : ∀ x k, 3 ≤ x → x ≤ 8 → 0 ≤ k → a' x k = a x k := fun x k x0 x1 k0 => ha x k (by omega)
    obtain ⟨⟨y1, y2, y3, y4, y5, y6, y7⟩, r, n⟩ := hs
    exact ⟨⟨LRo_fr y1 fun k k0 k1 => e3 _ _ (by decide) (by decide) k0, LSt_fr y2 fun k k0 k1 => e15 _ _ (by decide) (by decide), by rw [e15 _ _ (by decide) (by decide)]; exact y3, by rw [hb3.1]; exact y4, y5, y6, by rw [e15 _ _ (by decide) (by decide)]; exact y7⟩, Ro_fr r (fun x k x0 x1 k0 => e3 x k (by omega) (by omega) k0) hb, Sn_fr n (fun x k x0 x1 k0 => e3 x k (by omega) (by omega) k0) (fun x k x0 x1 k0 => e15 x k (by omega) (by omega)) hb⟩
set_option maxRecDepth 16384 in
theorem C2_fr {a a' b b' : MM} (h : C2 a b) (ha : ∀ x k, PCs x k → a' x k = a x k) (hb : ∀ x k, PJs x k → b' x k = b x k) : C2 a' b' := by
  obtain ⟨h1, h2, h3, h4, h5⟩ := h
  refine ⟨C1_fr h1 (fun x k q => ha x k (by unfold PCs; omega)) (fun k => hb _ _ (by unfold PJs; omega)) (fun k => hb _ _ (by unfold PJs; omega)) ⟨hb _ _ (by unfold PJs; omega), hb _ _ (by unfold PJs; omega), hb _ _ (by unfold PJs; omega)⟩, Nm_fr h2 (fun x k x0 x1 k0 => ha x k (by unfold PCs; omega)) (fun k => hb _ _ (by unfold PJs; omega)), LayI_fr h3 (fun x k q => ha x k (by unfold PCs; omega)), LayJ_fr h4 (fun k k0 k1 => hb _ _ (by unfold PJs; omega)), fun k k0 k1 => Ik_fr (h5 k k0 k1) (fun x j x0 x1 x2 j0 => ha x j (by unfold PCs; omega)) (fun j _ _ => hb _ _ (by unfold PJs; omega)) (fun j _ _ => hb _ _ (by unfold PJs; omega)) (hb _ _ (by unfold PJs; omega))⟩
set_option maxRecDepth 16384 in
/-- what keeps the state keeps the whole -/
theorem C2_1 {a a' b b' : MM} (h : C2 a b) (p : C1p a b a' b') : C2 a' b' := by
  obtain ⟨h1, h2, h3, h4, h5⟩ := h
  obtain ⟨p1, fa, fb⟩ := p
  have ha : ∀ x k, x < 15 ∨ (22 ≤ x ∧ x < 29) ∨ 86 < x → a' x k = a x k := fun x k q => fa x k (by unfold FA Qd Qa Qu; omega)
  have hb : ∀ x k, x = 152 ∨ x = 155 ∨ x = 157 ∨ x = 158 ∨ (x = 148 ∧ 16 ≤ k ∧ k ≤ 22) → b' x k = b x k := fun x k q => fb x k (by unfold FB; omega)
  exact ⟨p1, Nm_fr h2 (fun x k x0 x1 k0 => ha x k (by omega)) (fun k => hb _ _ (by omega)), LayI_fr h3 (fun x k q => ha x k (by omega)), LayJ_fr h4 (fun k k0 k1 => hb _ _ (by omega)), fun k k0 k1 => Ik_fr (h5 k k0 k1) (fun x j x0 x1 x2 j0 => ha x j (by omega)) (fun j _ _ => hb _ _ (by omega)) (fun j _ _ => hb _ _ (by omega)) (hb _ _ (by omega))⟩
set_option maxRecDepth 16384 in
theorem jbst_1 (t : Int) : jbst t 1 = 1 := by
  rw [jbst_eq]
  cases Nat.beq t.toNat 2 <;> decide
set_option maxRecDepth 16384 in
theorem f209_01 (m : MM) (k : Int) : (f209 m k 0 1 = 0 ∧ (k < 0 ∨ 1 < k)) ∨ (f209 m k 0 1 = 1 ∧ (k = 0 ∨ k = 1)) := by
  unfold f209
  by_cases c : k < 0
  · rw [if_pos c]; exact Or.inl ⟨rfl, Or.inl c⟩
  · rw [if_neg c]
    by_cases d : 1 < k
    · rw [if_pos d]; exact Or.inl ⟨rfl, Or.inr d⟩
    · rw [if_neg d]; exact Or.inr ⟨rfl, by omega⟩
set_option maxRecDepth 16384 in
theorem im_ln {m : MM} (h1 : m 0 6 = 87) (h2 : m 87 (-1) = 2) : (if m 0 6 = 1000050 then 30 else s32 (m (m 0 6) (-1))) = 2 := by
  rw [h1, if_neg (by decide), h2, s32_id (by decide) (by decide)]
set_option maxRecDepth 16384 in
theorem im_el {m : MM} (h : LayI m) {k : Int} (k0 : 0 ≤ k) (k1 : k < 2) : (if m 0 6 = 1000050 then 1000100 + k else m (m 0 6) k) = 110 + 19 * k := by
  rw [h.1.1, if_neg (by decide)]
  exact h.1.2.2 k k0 k1
set_option maxRecDepth 16384 in
theorem image_pair {a b : MM} (h : C2 a b) (h11 : S11 a) (k : Int) : f18 a 0 k = f205 b 148 k ∧ C2 (g18 a 0 k) (g205 b 148 k) := by
  have h0 : C2 a (mu b 148 0 0) := C2_fr h (fun _ _ _ => rfl) (fun x j q => by
    by_cases c : x = 148
    · rw [c, mu_k (by unfold PJs at q; omega)]
    · rw [mu_a c])
  obtain ⟨-, -, hI, -, -⟩ := h
  unfold f18 g18 f205 g205
  rw [im_ln hI.1.1 hI.1.2.1]
  revert h0
  generalize mu b 148 0 0 = b1
  intro h0
  rcases f209_01 b1 k with ⟨c, d⟩ | ⟨c, d⟩
  · rw [c, if_pos rfl, if_pos rfl]
    by_cases e : k < 0
    · simp only [if_pos e]; exact ⟨trivial, h0⟩
    · have e2 : ¬ k < 2 := by omega
      simp only [if_neg e, if_neg e2]; exact ⟨trivial, h0⟩
  · rw [c, if_neg n10, if_neg n10]
    have e : ¬ k < 0 := by omega
    have e2 : k < 2 := by omega
    simp only [if_neg e, if_pos e2]
    refine ⟨trivial, ?_⟩
    have k0 : 0 ≤ k := by omega
    rw [im_el hI k0 e2]
    obtain ⟨⟨⟨d1, d2, d3, d4⟩, hS, hU⟩, hN, -, ⟨j1, j2, j3, j4⟩, hK⟩ := h0
    obtain ⟨i1, i2, i3, i4, i5, i6⟩ := hI.2.1 k k0 e2
    have hS' := hS
    obtain ⟨⟨y1, y2, y3, y4, y5, y6, y7⟩, r, n⟩ := hS
    -- the reference
    rw [B205_18 y4 j1 d]
    dsimp only
    have F1 : Fr (fun x j => x = 152 ∧ 456 * k ≤ j ∧ j < 456 * k + 456) b1 (fm b1 152 (456 * k + 0) (456 * k + 456) (fun j => s32 (b1 150 (j - 456 * k)))) := (Fr.rf _ _).fl fun j q1 q2 => ⟨rfl, by omega, by omega⟩
    have v1 : ∀ j, 0 ≤ j → j < 456 → (fm b1 152 (456 * k + 0) (456 * k + 456) (fun j => s32 (b1 150 (j - 456 * k)))) 152 (456 * k + j) = s32 (b1 150 j) := fun j q1 q2 => by
      rw [fm_i (by omega) (by omega)]
      congr 2
      omega
    revert F1 v1
    generalize fm b1 152 (456 * k + 0) (456 * k + 456) (fun j => s32 (b1 150 (j - 456 * k))) = n1
    intro F1 v1
    have w19 : n1 148 19 = 155 := by rw [F1 _ _ (by omega)]; exact j2
    have w21 : n1 148 21 = 157 := by rw [F1 _ _ (by omega)]; exact j3
    have w22 : n1 148 22 = 158 := by rw [F1 _ _ (by omega)]; exact j4
    rw [B205_51 w19 w21 d]
    dsimp only
    rw [fm_n (b := 148) (by decide), w22, jbst_1]
    have FB' : Fr (fun x j => (x = 152 ∧ 456 * k ≤ j ∧ j < 456 * k + 456) ∨ (x = 157 ∧ 16 * k ≤ j ∧ j < 16 * k + 16) ∨ (x = 158 ∧ j = k)) b1 (mu (fm n1 157 (16 * k + 0) (16 * k + 16) (fun j => n1 155 (j - 16 * k))) 158 k 1) := by
      have F1' : Fr (fun x j => (x = 152 ∧ 456 * k ≤ j ∧ j < 456 * k + 456) ∨ (x = 157 ∧ 16 * k ≤ j ∧ j < 16 * k + 16) ∨ (x = 158 ∧ j = k)) b1 n1 := F1.mo fun x j q => Or.inl q
      have F2' : Fr (fun x j => (x = 152 ∧ 456 * k ≤ j ∧ j < 456 * k + 456) ∨ (x = 157 ∧ 16 * k ≤ j ∧ j < 16 * k + 16) ∨ (x = 158 ∧ j = k)) b1 (fm n1 157 (16 * k + 0) (16 * k + 16) (fun j => n1 155 (j - 16 * k))) := F1'.fl (fun j q1 q2 => Or.inr (Or.inl ⟨rfl, by omega, by omega⟩))
      exact F2'.mu (Or.inr (Or.inr ⟨rfl, rfl⟩))
    have vb1 : ∀ j, 0 ≤ j → j < 456 → (mu (fm n1 157 (16 * k + 0) (16 * k + 16) (fun j => n1 155 (j - 16 * k))) 158 k 1) 152 (456 * k + j) = s32 (b1 150 j) := fun j q1 q2 => by rw [mu_a (by decide), fm_n (by decide)]; exact v1 j q1 q2
    have vb2 : ∀ j, 0 ≤ j → j < 16 → (mu (fm n1 157 (16 * k + 0) (16 * k + 16) (fun j => n1 155 (j - 16 * k))) 158 k 1) 157 (16 * k + j) = b1 155 j := fun j q1 q2 => by
      rw [mu_a (by decide), fm_i (by omega) (by omega), F1 155 _ (by omega)]
      congr 1
      omega
    have vb3 : (mu (fm n1 157 (16 * k + 0) (16 * k + 16) (fun j => n1 155 (j - 16 * k))) 158 k 1) 158 k = 1 := mu_s _ _ _ _
    revert FB' vb1 vb2 vb3
    generalize mu (fm n1 157 (16 * k + 0) (16 * k + 16) (fun j => n1 155 (j - 16 * k))) 158 k 1 = b'
    intro FB' vb1 vb2 vb3
    clear v1 F1 w19 w21 w22
    -- the class
    unfold g57
    rw [d1, d2, i1]
    obtain ⟨f1, f2, f3⟩ := c67 (m := a) (x := 111 + 19 * k) (y := 3) i4 y1 (by omega)
    have fr1 : ∀ x j, x < 111 + 19 * k ∨ 116 + 19 * k < x ∨ (x = 111 + 19 * k ∧ j < 5) → (g67 a (111 + 19 * k) 3) x j = a x j := fun x j q => f1 x j (by unfold PRo; omega)
    revert f2 f3 fr1
    clear f1
    generalize g67 a (111 + 19 * k) 3 = m1
    intro f2 f3 fr1
    have t1 : m1 (110 + 19 * k) 1 = 122 + 19 * k := by rw [fr1 _ _ (by omega)]; exact i2
    rw [t1]
    have z5 : LSt m1 (122 + 19 * k) := LSt_fr i5 fun j _ _ => fr1 _ _ (by omega)
    have z2 : LSt m1 15 := LSt_fr y2 fun j _ _ => fr1 _ _ (by omega)
    obtain ⟨g1, ⟨g2, g3⟩, g4, g5, g6⟩ := c113 (m := m1) (x := 122 + 19 * k) (y := 15) z5 z2 (by omega)
    have fr2 : ∀ x j, x < 122 + 19 * k ∨ 128 + 19 * k < x ∨ (x = 122 + 19 * k ∧ j < 7) → (g113 m1 (122 + 19 * k) 15) x j = m1 x j := fun x j q => g1 x j (by unfold PSt; omega)
    revert g2 g3 g4 g5 g6 fr2
    clear g1
    generalize g113 m1 (122 + 19 * k) 15 = m2
    intro g2 g3 g4 g5 g6 fr2
    have t2 : m2 (110 + 19 * k) 2 = 117 + 19 * k := by rw [fr2 _ _ (by omega), fr1 _ _ (by omega)]; exact i3
    rw [t2]
    have z6 : LSe m2 (117 + 19 * k) := LSe_fr i6 fun j _ _ => by rw [fr2 _ _ (by omega), fr1 _ _ (by omega)]
    have z7 : LSe m2 (a 0 11) := by
      have fe : ∀ x j, (x = 100 ∨ x = 105 ∨ x = 117 ∨ x = 136) → m2 x j = a x j := fun x j q => by rw [fr2 _ _ (by omega), fr1 _ _ (by omega)]
      rcases h11 with q | q | q | q <;> rw [q]
      · exact LSe_fr hI.2.2.1 fun j _ _ => fe _ _ (by omega)
      · exact LSe_fr hI.2.2.2.1 fun j _ _ => fe _ _ (by omega)
      · exact LSe_fr (hI.2.1 0 (by decide) (by decide)).2.2.2.2.2 fun j _ _ => fe _ _ (by omega)
      · exact LSe_fr (hI.2.1 1 (by decide) (by decide)).2.2.2.2.2 fun j _ _ => fe _ _ (by omega)
    have s1 := c88f (m := m2) (x := 117 + 19 * k) (y := a 0 11) z6 z7 (by unfold S11 at h11; omega)
    have fr3 : ∀ x j, x < 117 + 19 * k ∨ 120 + 19 * k < x ∨ (x = 117 + 19 * k ∧ j < 4) → (mu (g88 m2 (117 + 19 * k) (a 0 11)) (110 + 19 * k) 3 1) x j = if x = 110 + 19 * k ∧ j = 3 then 1 else m2 x j := fun x j q => by
      by_cases c : x = 110 + 19 * k ∧ j = 3
      · rw [if_pos c, c.1, c.2, mu_s]
      · rw [if_neg c]
        have : (mu (g88 m2 (117 + 19 * k) (a 0 11)) (110 + 19 * k) 3 1) x j = (g88 m2 (117 + 19 * k) (a 0 11)) x j := if_neg c
        rw [this]
        exact s1 x j (by unfold PSe; omega)
    revert fr3
    clear s1
    generalize mu (g88 m2 (117 + 19 * k) (a 0 11)) (110 + 19 * k) 3 1 = a'
    intro fr3
    -- all of it
    have ea : ∀ x j, x < 110 + 19 * k ∨ 128 + 19 * k < x → a' x j = a x j := fun x j q => by rw [fr3 _ _ (by omega), if_neg (by omega), fr2 _ _ (by omega), fr1 _ _ (by omega)]
    have er : ∀ x j, 111 + 19 * k ≤ x → x ≤ 116 + 19 * k → a' x j = m1 x j := fun x j q1 q2 => by rw [fr3 _ _ (by omega), if_neg (by omega), fr2 _ _ (by omega)]
    have es : ∀ x j, 122 + 19 * k ≤ x → x ≤ 128 + 19 * k → a' x j = m2 x j := fun x j q1 q2 => by rw [fr3 _ _ (by omega), if_neg (by omega)]
    have eb : ∀ x j, x ≠ 152 → x ≠ 157 → x ≠ 158 → b' x j = b1 x j := fun x j q1 q2 q3 => FB' x j (by omega)
    refine ⟨C1_fr ⟨⟨d1, d2, d3, d4⟩, hS', hU⟩ (fun x j q => ea x j (by omega)) (fun j => eb _ _ (by decide) (by decide) (by decide)) (fun j => eb _ _ (by decide) (by decide) (by decide)) ⟨eb _ _ (by decide) (by decide) (by decide), eb _ _ (by decide) (by decide) (by decide), eb _ _ (by decide) (by decide) (by decide)⟩, Nm_fr hN (fun x j q1 q2 _ => ea x j (by omega)) (fun j => eb _ _ (by decide) (by decide) (by decide)), ?_, ⟨?_, ?_, ?_, ?_⟩, fun i x0 x1 => ?_⟩
    · refine LayI_fr hI fun x j q => ?_
      by_cases q2 : x < 110 + 19 * k ∨ 128 + 19 * k < x
      · exact ea x j q2
      · by_cases q3 : 122 + 19 * k ≤ x
        · rw [es x j q3 (by omega), fr2 _ _ (by omega), fr1 _ _ (by omega)]
        · rw [fr3 _ _ (by omega), if_neg (by omega), fr2 _ _ (by omega), fr1 _ _ (by omega)]
    · rw [eb _ _ (by decide) (by decide) (by decide)]; exact j1
    · rw [eb _ _ (by decide) (by decide) (by decide)]; exact j2
    · rw [eb _ _ (by decide) (by decide) (by decide)]; exact j3
    · rw [eb _ _ (by decide) (by decide) (by decide)]; exact j4
    · by_cases q : i = k
      · rw [q]
        refine ⟨?_, Or.inr ⟨?_, ?_, ?_⟩⟩
        · rw [fr3 _ _ (by omega), if_pos ⟨rfl, rfl⟩, vb3]
        · refine Ro_cp r (fun j q1 q2 => ?_) (fun i j q1 q2 q3 q4 => ?_) (fun j q1 q2 => ?_)
          · rw [er _ _ (by omega) (by omega)]; exact f2 j (by omega) q2
          · rw [er _ _ (by omega) (by omega)]; exact f3 i j (by omega) q2 q3 q4
          · rw [vb1 j q1 (by omega), Int.zero_add]
        · refine Nm_cp hN hS'.p.2.2 hS'.f.2.2 (fun j q1 q2 => ?_) (fun i j q1 q2 q3 q4 => ?_) (fun j q1 q2 => ?_)
          · rw [er _ _ (by omega) (by omega)]; exact f2 j (by omega) (by omega)
          · rw [er _ _ (by omega) (by omega)]; exact f3 i j q1 (by omega) q3 q4
          · rw [vb2 j q1 q2, Int.zero_add]
        · have em : ∀ x j, x < 29 → m1 x j = a x j := fun x j q => fr1 x j (by omega)
          refine Sn_cp n ?_ hS'.f.2.2 (fun f f0 f1 => (hS'.sp f0 f1).2) (fun f f0 f1 => ⟨?_, ?_⟩) ⟨?_, ?_⟩ (fun j q1 q2 => ?_) (fun i j q1 q2 q3 q4 => ?_) (fun j q1 q2 => ?_) (fun j q1 q2 => Or.inr ?_)
          · rw [er _ _ (by omega) (by omega)]; exact f2 7 (by decide) (by decide)
          · rw [er _ _ (by omega) (by omega)]; exact f3 3 f (by decide) (by decide) f0 f1
          · rw [er _ _ (by omega) (by omega)]; exact f3 4 f (by decide) (by decide) f0 f1
          · rw [es _ _ (by omega) (by omega), g2]; exact em _ _ (by decide)
          · rw [es _ _ (by omega) (by omega), g3]; exact em _ _ (by decide)
          · rw [es _ _ (by omega) (by omega), g4 j q1 q2]; exact em _ _ (by decide)
          · rw [es _ _ (by omega) (by omega), g5 i j q1 q2 q3 q4]; exact em _ _ (by omega)
          · rw [es _ _ (by omega) (by omega), g6 j q1 q2]; exact em _ _ (by decide)
          · rw [vb1 j (by omega) (by omega), Int.zero_add]
      · exact Ik_fr (hK i x0 x1) (fun x j q1 q2 _ _ => ea x j (by omega)) (fun j q1 q2 => FB' _ _ (by omega)) (fun j q1 q2 => FB' _ _ (by omega)) (FB' _ _ (by omega))
