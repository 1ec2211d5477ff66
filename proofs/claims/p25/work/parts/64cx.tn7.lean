/-! When. -/
set_option maxRecDepth 16384 in
theorem lp {P Q R : Int} {x y : Int} (h : x = y) : (if x ≤ P then x else Q) = (if y ≤ P then y else Q) := by rw [h]
set_option maxRecDepth 16384 in
theorem q118 {a b : MM} {s : Int} (h : Sx a b s) {f : Int} (f0 : 0 ≤ f) (f1 : f < a 3 7) : f118 a s f = (if b 150 (s32 (182 + f)) < 2 then (if b 150 (s32 (182 + f)) = 0 then (if f165 b 148 f 1 = 0 then (if f165 b 148 f 0 = 0 then -1 else (if s32 (s32 (b 150 92 + b 150 (s32 (190 + f))) + 1) ≤ 400 then s32 (s32 (b 150 92 + b 150 (s32 (190 + f))) + 1) else -1)) else (if s32 (b 150 92 + b 150 (s32 (190 + f))) ≤ 400 then s32 (b 150 92 + b 150 (s32 (190 + f))) else -1)) else (if s32 (b 150 92 + b 150 (s32 (190 + f))) ≤ 400 then s32 (b 150 92 + b 150 (s32 (190 + f))) else -1)) else -1) := by
  obtain ⟨e, e0, e8⟩ := h.f
  have hd := h.day
  have hsp := h.sp f0 f1
  have q := q127 h f0 f1
  obtain ⟨-, -, -, -, hFo⟩ := h.2.2
  obtain ⟨⟨g1, g2, g3⟩, g4, g5, g6, -⟩ := hFo f f0 f1
  rw [Int.zero_add] at g1 g4 g5 g6
  have hs0 := h.le
  obtain ⟨-, -, -, r3, -⟩ := h.1.1
  have l5 : a s 5 = s + 5 := h.1.2.1.2.2.2.2.1
  have e72 : ¬ f72 a 3 f = 0 := fun z => by
    rw [q72 h f] at z
    exact (q208i h).mp z ⟨f0, f1⟩
  have e85 : f85 a 3 f = a 7 f := by
    have r3' : a 3 3 = 7 := by first | exact r3 | omega
    unfold f85
    rw [if_neg e72, r3']
  have h190 : s32 (190 + f) = 190 + f := s32_id (by omega) (by omega)
  rw [q.2, h190, ← hd.1]
  unfold f118 f114
  rw [q.1, q115 h f0 f1, hs0, e85, l5]
  by_cases t0 : a (s + 4) f = 0
  · have g := g6 (by omega) (by omega)
    have g : b 150 (190 + f) = a 7 f := by first | exact g | (rw [g]; rfl)
    rw [if_pos t0, if_neg (by omega : ¬ a (s + 4) f = 1), if_neg (by omega : ¬ a (s + 4) f = 2), if_pos (by omega : a (s + 4) f < 2), if_pos t0, g]
    by_cases d1 : f165 b 148 f 1 = 0
    · rw [if_pos d1, if_pos d1]
      by_cases d0 : f165 b 148 f 0 = 0
      · rw [if_pos d0, if_pos rfl, if_pos d0]
      · rw [if_neg d0, if_neg (by decide), if_neg d0]
        have e1 : s32 (s32 (a s 8 + 1) + a 7 f) = s32 (s32 (a s 8 + a 7 f) + 1) := by
          rw [s32_id (z := a s 8 + 1) (by omega) (by omega), s32_id (z := a s 8 + a 7 f) (by omega) (by omega)]
          congr 1
          omega
        rw [e1]
    · rw [if_neg d1, if_neg d1, if_neg (by decide)]
      have e1 : s32 (s32 (a s 8 + 0) + a 7 f) = s32 (a s 8 + a 7 f) := by
        rw [Int.add_zero, s32_id (z := a s 8) (by omega) (by omega)]
      rw [e1]
  · rw [if_neg t0]
    by_cases t1 : a (s + 4) f = 1
    · have g := g4 t1
      rw [if_pos t1, if_pos t1, if_pos (by omega : a (s + 4) f < 2), if_neg t0, g.1]
      have e1 : s32 (s32 (a s 8 + 0) + a (s + 5) f) = s32 (a s 8 + a (s + 5) f) := by
        rw [Int.add_zero, s32_id (z := a s 8) (by omega) (by omega)]
      rw [e1]
    · rw [if_neg t1, if_neg (by omega : ¬ a (s + 4) f < 2)]
set_option maxRecDepth 16384 in
theorem when_q {a b : MM} (h : C2 a b) (f : Int) : f38 a 0 f = f289 b 148 f := by
  have hT : C2 a (mu b 148 0 0) := C2_fr3 h (fun _ _ _ => rfl) (fun x k q _ => by
    by_cases c : x = 148
    · exact mu_k (by unfold PJs at q; omega)
    · exact mu_a c)
  unfold f38 f289
  generalize mu b 148 0 0 = c at hT
  have hS := hT.1.2.1
  have h1 : a 0 1 = 3 := hT.1.1.1
  have h3 : a 0 3 = 15 := hT.1.1.2.1
  rw [h1, h3, q72 hS f, hS.bn]
  by_cases c0 : f208 c 148 f = 0
  · rw [if_pos c0, if_pos c0]
  · rw [if_neg c0, if_neg c0]
    have cf : 0 ≤ f ∧ f < a 3 7 := by
      by_cases q : 0 ≤ f ∧ f < a 3 7
      · exact q
      · exact absurd ((q208i hS).mpr q) c0
    exact q118 hS cf.1 cf.2
