/-! Cover. -/
set_option maxRecDepth 16384 in
theorem C2_93 {m b : MM} (h : C2 m b) (k v : Int) : C2 (mu m 93 k v) b := C2_fr3 h (fun x j q => mu_a (by unfold PCs at q; omega)) (fun _ _ _ _ => rfl)
set_option maxRecDepth 16384 in
theorem shl2 {i j : Int} (i0 : 0 ≤ i) (i8 : i < 8) (j0 : 0 ≤ j) (j8 : j < 8) : jand (jshl 1 i) (jshl 1 j) = 0 ↔ ¬ i = j := by
  have key : ∀ i : Nat, i < 8 → ∀ j : Nat, j < 8 → (o32 (fun a b => a &&& b) (o32 (fun a b => a <<< (b &&& 31)) 1 (i : Int)) (o32 (fun a b => a <<< (b &&& 31)) 1 (j : Int)) = 0 ↔ ¬ (i : Int) = (j : Int)) := by decide
  obtain ⟨n, rfl⟩ : ∃ n : Nat, i = (n : Int) := ⟨i.toNat, by omega⟩
  obtain ⟨k, rfl⟩ : ∃ k : Nat, j = (k : Int) := ⟨j.toNat, by omega⟩
  rw [jand_eq, jshl_eq, jshl_eq]
  exact key n (by omega) k (by omega)
set_option maxRecDepth 16384 in
/-- what is wanted for whom, listed -/
theorem q43 {a b : MM} (h : C2 a b) (hA : a 92 0 = 93) : (C2 (g43 a 92 15) b ∧ (g43 a 92 15) 92 0 = 93) ∧ (∀ j, 0 ≤ j → j < b 150 1 → ∀ M, jand ((g43 a 92 15) 93 j) M = 0 ↔ f201 b 148 j M = 0) ∧ (∀ j, 0 ≤ j → j < 8 → (jand (f43 a 92 15) (jshl 1 j) = 0 ↔ ¬ (j < b 150 1 ∧ ¬ f204 b 148 j = -1))) := by
  have hf := h.1.2.1.f
  unfold f43 g43 L43_4
  refine Lp_ind (f := K43_4 a 92 15 0 0) (P := fun x => 0 ≤ x.2.1 ∧ x.2.1 ≤ b 150 1 ∧ (C2 x.2.2 b ∧ x.2.2 92 0 = 93) ∧ (∀ j, 0 ≤ j → j < x.2.1 → ∀ M, jand (x.2.2 93 j) M = 0 ↔ f201 b 148 j M = 0) ∧ (∀ j, 0 ≤ j → j < 8 → (jand x.1 (jshl 1 j) = 0 ↔ ¬ (j < x.2.1 ∧ ¬ f204 b 148 j = -1)))) (Q := fun t => (C2 t.2.2.2.2 b ∧ t.2.2.2.2 92 0 = 93) ∧ (∀ j, 0 ≤ j → j < b 150 1 → ∀ M, jand (t.2.2.2.2 93 j) M = 0 ↔ f201 b 148 j M = 0) ∧ (∀ j, 0 ≤ j → j < 8 → (jand t.2.2.1 (jshl 1 j) = 0 ↔ ¬ (j < b 150 1 ∧ ¬ f204 b 148 j = -1)))) (fun x => (b 150 1 - x.2.1).toNat) ?_ (0, 0, a) ⟨Int.le_refl _, by dsimp only; omega, ⟨h, hA⟩, fun j j0 j1 => by dsimp only at j1; omega, fun j j0 j8 => ⟨fun _ q => by have := q.1; dsimp only at this; omega, fun _ => jand_0 _⟩⟩
  rintro ⟨x, i, m⟩ ⟨c2, c3, ⟨c4, c5⟩, c6, c7⟩
  dsimp only at c2 c3 c4 c5 c6 c7
  have hS := c4.1.2.1
  have hfm := hS.f
  have eA : K43_4 a 92 15 0 0 (x, i, m) = S43_4 m 92 15 x i := rfl
  rw [eA]
  unfold S43_4
  rw [hS.le, c5]
  by_cases c : m 3 7 ≤ i
  · rw [if_pos c]
    have : i = b 150 1 := by omega
    rw [this] at c6 c7
    exact Or.inr ⟨_, rfl, ⟨c4, c5⟩, c6, c7⟩
  · rw [if_neg c, if_neg (by omega : ¬ 8 ≤ i), s32_id (z := i + 1) (by omega) (by omega), f144_s hS]
    have d4 : C2 (mu m 93 i (f144 m 15 i)) b := C2_93 c4 _ _
    have d5 : (mu m 93 i (f144 m 15 i)) 92 0 = 93 := (mu_a (by decide)).trans c5
    have d6 : ∀ j, 0 ≤ j → j < i + 1 → ∀ M, jand ((mu m 93 i (f144 m 15 i)) 93 j) M = 0 ↔ f201 b 148 j M = 0 := fun j j0 j1 M => by
      by_cases d : j = i
      · rw [d, mu_s]
        exact served_eq hS (fun p p0 p1 => by
          rw [jand_c]
          exact (has_ok b M p p0 (by have := hS.p; omega)).symm) c2 (by omega)
      · rw [mu_k d]
        exact c6 j j0 (by omega) M
    have q := q128 d4.1.2.1 (f := i) c2 (by have := d4.1.2.1.f; omega)
    rw [q]
    left
    by_cases d : f204 b 148 i = -1
    · rw [if_pos d]
      refine ⟨_, rfl, ⟨by dsimp only; omega, by dsimp only; omega, ⟨d4, d5⟩, d6, fun j j0 j8 => ?_⟩, by dsimp only; omega⟩
      dsimp only
      rw [c7 j j0 j8]
      exact ⟨fun w v => w ⟨by
        by_cases z : j = i
        · exact absurd d (z ▸ v.2)
        · omega, v.2⟩, fun w v => w ⟨by omega, v.2⟩⟩
    · rw [if_neg d]
      refine ⟨_, rfl, ⟨by dsimp only; omega, by dsimp only; omega, ⟨d4, d5⟩, d6, fun j j0 j8 => ?_⟩, by dsimp only; omega⟩
      dsimp only
      rw [jor_jand0, c7 j j0 j8, shl2 c2 (by omega) j0 j8]
      constructor
      · rintro ⟨w1, w2⟩ ⟨v1, v2⟩
        exact w1 ⟨by omega, v2⟩
      · intro w
        exact ⟨fun v => w ⟨by omega, v.2⟩, fun z => w ⟨by omega, z ▸ d⟩⟩
set_option maxRecDepth 16384 in
/-- all that wait are served by these -/
def Al (b : MM) (k : Int) : Prop := ∀ j, 0 ≤ j → j < b 150 1 → ¬ f204 b 148 j = -1 → ¬ f201 b 148 j k = 0
set_option maxRecDepth 16384 in
theorem q40 {m b : MM} (hC : C2 m b) (hA : m 92 0 = 93) {x k : Int} (h1 : ∀ j, 0 ≤ j → j < b 150 1 → ∀ M, jand (m 93 j) M = 0 ↔ f201 b 148 j M = 0) (h2 : ∀ j, 0 ≤ j → j < 8 → (jand x (jshl 1 j) = 0 ↔ ¬ (j < b 150 1 ∧ ¬ f204 b 148 j = -1))) : f40 m 92 k x = 0 ↔ ¬ Al b k := by
  have hf := hC.1.2.1.f
  unfold f40
  have key : ∀ t : Nat × Int × Int, ((t.1 = 1 ∧ Al b k) ∨ (t.1 = 2 ∧ t.2.1 = 0 ∧ ¬ Al b k)) → ((if t.1 = 1 then (1 : Int) else t.2.1) = 0 ↔ ¬ Al b k) := by
    rintro t (⟨t1, t2⟩ | ⟨t1, t2, t3⟩)
    · rw [if_pos t1]
      exact ⟨fun q => absurd q (by decide), fun q => absurd t2 q⟩
    · rw [if_neg (by omega), t2]
      exact ⟨fun _ => t3, fun _ => rfl⟩
  refine key _ ?_
  unfold L40_2
  refine Lp_ind (f := K40_2 m 92 k x 0) (P := fun i => 0 ≤ i ∧ i ≤ 8 ∧ ∀ j, 0 ≤ j → j < i → j < b 150 1 → ¬ f204 b 148 j = -1 → ¬ f201 b 148 j k = 0) (Q := fun t => (t.1 = 1 ∧ Al b k) ∨ (t.1 = 2 ∧ t.2.1 = 0 ∧ ¬ Al b k)) (fun i => (8 - i).toNat) ?_ 0 ⟨Int.le_refl _, by decide, fun j j0 j1 => by omega⟩
  rintro i ⟨c2, c3, c4⟩
  have eA : K40_2 m 92 k x 0 i = S40_2 m 92 k x i := rfl
  rw [eA]
  unfold S40_2
  rw [hA]
  by_cases c : 8 ≤ i
  · rw [if_pos c]
    exact Or.inr ⟨_, rfl, Or.inl ⟨rfl, fun j j0 j1 j2 => c4 j j0 (by omega) j1 j2⟩⟩
  · rw [if_neg c, s32_id (z := i + 1) (by omega) (by omega)]
    have g := h2 i c2 (by omega)
    by_cases d : jand x (jshl 1 i) = 0
    · rw [if_pos d]
      have g := g.mp d
      exact Or.inl ⟨_, rfl, ⟨by omega, by omega, fun j j0 j1 j2 j3 => by
        by_cases z : j = i
        · exact absurd ⟨z ▸ j2, z ▸ j3⟩ g
        · exact c4 j j0 (by omega) j2 j3⟩, by omega⟩
    · rw [if_neg d]
      have g : i < b 150 1 ∧ ¬ f204 b 148 i = -1 := by
        by_cases z : i < b 150 1 ∧ ¬ f204 b 148 i = -1
        · exact z
        · exact absurd (g.mpr z) d
      by_cases e : jand (m 93 i) k = 0
      · rw [if_pos e]
        exact Or.inr ⟨_, rfl, Or.inr ⟨rfl, rfl, fun w => w i c2 g.1 g.2 ((h1 i c2 g.1 k).mp e)⟩⟩
      · rw [if_neg e]
        exact Or.inl ⟨_, rfl, ⟨by omega, by omega, fun j j0 j1 j2 j3 => by
          by_cases z : j = i
          · rw [z]
            exact fun w => e ((h1 i c2 g.1 k).mpr w)
          · exact c4 j j0 (by omega) j2 j3⟩, by omega⟩
set_option maxRecDepth 16384 in
theorem q271 {b : MM} (hb : b 148 14 = 150) (h0 : 0 ≤ b 150 1) (h8 : b 150 1 ≤ 8) (k z : Int) : f271 b 148 k = (L178_9 b 148 0 0 z).2.2.1 ↔ Al b k := by
  unfold f271 L271_4 L178_9
  refine Lp_sim (f := K271_4 b 148 k 0 0) (f' := K178_9 b 148 0 0 z) (P := fun x y => x.2 = y.2 ∧ 0 ≤ x.2 ∧ x.2 ≤ b 150 1 ∧ 0 ≤ x.1 ∧ x.1 ≤ y.1 ∧ y.1 ≤ x.2 ∧ (x.1 = y.1 ↔ ∀ j, 0 ≤ j → j < x.2 → ¬ f204 b 148 j = -1 → ¬ f201 b 148 j k = 0)) (Q := fun t t' => t.2.2.1 = t'.2.2.1 ↔ Al b k) (fun x => (b 150 1 - x.2).toNat) ?_ (0, 0) (0, 0) ⟨rfl, Int.le_refl _, h0, Int.le_refl _, Int.le_refl _, Int.le_refl _, ⟨fun _ j j0 j1 => by dsimp only at j1; omega, fun _ => rfl⟩⟩
  rintro ⟨x, i⟩ ⟨y, j⟩ ⟨c1, c2, c3, c4, c5, c6, c7⟩
  dsimp only at c1 c2 c3 c4 c5 c6 c7
  subst c1
  have eA : K271_4 b 148 k 0 0 (x, i) = S271_4 b 148 k x i := rfl
  have eB : K178_9 b 148 0 0 z (y, i) = S178_9 b 148 y i z := rfl
  rw [eA, eB]
  unfold S271_4 S178_9 f206
  rw [hb]
  by_cases c : b 150 1 ≤ i
  · rw [if_pos c, if_pos c]
    have : i = b 150 1 := by omega
    rw [this] at c7
    exact Or.inr ⟨_, _, rfl, rfl, c7⟩
  · rw [if_neg c, if_neg c, s32_id (z := i + 1) (by omega) (by omega), s32_id (z := x + 1) (by omega) (by omega), s32_id (z := y + 1) (by omega) (by omega)]
    left
    by_cases d : f204 b 148 i = -1
    · simp only [if_pos d]
      rw [if_neg (by decide : ¬ (1 : Int) = 0), if_neg (by decide : ¬ (1 : Int) = 0)]
      refine ⟨_, _, rfl, rfl, ⟨rfl, by dsimp only; omega, by dsimp only; omega, c4, c5, by dsimp only; omega, ?_⟩, by dsimp only; omega⟩
      dsimp only
      rw [c7]
      exact ⟨fun w j j0 j1 j2 => w j j0 (by
        by_cases q : j = i
        · exact absurd d (q ▸ j2)
        · omega) j2, fun w j j0 j1 => w j j0 (by omega)⟩
    · simp only [if_neg d]
      rw [if_pos trivial, if_pos trivial]
      by_cases g : f201 b 148 i k = 0
      · rw [if_pos g]
        refine ⟨_, _, rfl, rfl, ⟨rfl, by dsimp only; omega, by dsimp only; omega, c4, by dsimp only; omega, by dsimp only; omega, ?_⟩, by dsimp only; omega⟩
        dsimp only
        exact ⟨fun w => by omega, fun w => absurd g (w i c2 (by omega) d)⟩
      · rw [if_neg g]
        refine ⟨_, _, rfl, rfl, ⟨rfl, by dsimp only; omega, by dsimp only; omega, by dsimp only; omega, by dsimp only; omega, by dsimp only; omega, ?_⟩, by dsimp only; omega⟩
        dsimp only
        have r : x + 1 = y + 1 ↔ x = y := by omega
        rw [r, c7]
        exact ⟨fun w j j0 j1 j2 => by
          by_cases q : j = i
          · rw [q]; exact g
          · exact w j j0 (by omega) j2, fun w j j0 j1 => w j j0 (by omega)⟩
