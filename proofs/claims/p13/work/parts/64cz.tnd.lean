/-! Fits, both. -/
set_option maxRecDepth 16384 in
theorem q192i (c : MM) (n k : Int) (k0 : 0 ≤ k) (k3 : k ≤ 940) : ((L192_45 c 148 n k 0 0 0 0).1 = 1 ∧ ∀ i, 0 ≤ i → i < k → ¬ (c (c 148 1)) i = (c (c 148 1)) k) ∨ ((L192_45 c 148 n k 0 0 0 0).1 = 2 ∧ (L192_45 c 148 n k 0 0 0 0).2.1 = -1 ∧ ∃ i, 0 ≤ i ∧ i < k ∧ (c (c 148 1)) i = (c (c 148 1)) k) := by
  unfold L192_45
  refine Lp_ind (f := K192_45 c 148 n k 0 0 0 0) (P := fun x => 0 ≤ x ∧ x ≤ k ∧ ∀ i, 0 ≤ i → i < x → ¬ (c (c 148 1)) i = (c (c 148 1)) k) (Q := fun t => (t.1 = 1 ∧ ∀ i, 0 ≤ i → i < k → ¬ (c (c 148 1)) i = (c (c 148 1)) k) ∨ (t.1 = 2 ∧ t.2.1 = -1 ∧ ∃ i, 0 ≤ i ∧ i < k ∧ (c (c 148 1)) i = (c (c 148 1)) k)) (fun x => (k - x).toNat) ?_ 0 ⟨Int.le_refl _, k0, fun i i0 i1 => by omega⟩
  rintro i ⟨c2, c3, c4⟩
  have eB : K192_45 c 148 n k 0 0 0 0 i = S192_45 c 148 n k i 0 0 0 := rfl
  rw [eB]
  unfold S192_45
  by_cases d : k ≤ i
  · rw [if_pos d]
    exact Or.inr ⟨_, rfl, Or.inl ⟨rfl, fun j j0 j1 => c4 j j0 (by omega)⟩⟩
  · rw [if_neg d, s32_id (z := i + 1) (by omega) (by omega)]
    by_cases e : (c (c 148 1)) i = (c (c 148 1)) k
    · rw [if_pos e]
      exact Or.inr ⟨_, rfl, Or.inr ⟨rfl, rfl, i, c2, by omega, e⟩⟩
    · rw [if_neg e]
      exact Or.inl ⟨_, rfl, ⟨by omega, by omega, fun j j0 j1 => by
        by_cases z : j = i
        · rw [z]; exact e
        · exact c4 j j0 (by omega)⟩, by omega⟩
set_option maxRecDepth 16384 in
/-- those on the tape, checked -/
def Tv (a c : MM) (n : Int) : Prop := (∀ j, 0 ≤ j → j < n → 0 ≤ c 149 j ∧ c 149 j < a 3 6) ∧ (∀ i j, 0 ≤ i → i < j → j < n → ¬ c 149 i = c 149 j)
set_option maxRecDepth 16384 in
theorem q42 {a c : MM} (h : Sx a c 15) {n : Int} (hn : a 1 1 = n) (n0 : 0 ≤ n) (n9 : n ≤ 940) (h10 : a 1 0 = 2) (hl : a 2 (-1) = 940) (h149 : c 148 1 = 149) (hT : ∀ j, 0 ≤ j → j < n → jand (a 2 j) 255 = c 149 j) : ((L42_23 a 92 1 15 0 0 0).1 = 1 ∧ (L192_23 c 148 n 0 0 0 0 0).1 = 1 ∧ (∀ p, 0 ≤ p → p < 8 → (jand ((L42_23 a 92 1 15 0 0 0).2.2.1) (jshl 1 p) = 0 ↔ ¬ ∃ j, 0 ≤ j ∧ j < n ∧ c 149 j = p)) ∧ Tv a c n) ∨ (¬ (L42_23 a 92 1 15 0 0 0).1 = 1 ∧ ¬ (L192_23 c 148 n 0 0 0 0 0).1 = 1 ∧ (L42_23 a 92 1 15 0 0 0).2.1 = -1 ∧ (L192_23 c 148 n 0 0 0 0 0).2.1 = -1) := by
  have hp := h.p
  have e159 : ∀ i, 0 ≤ i → i < n → f159 a 1 i = c 149 i := fun i i0 i1 => by
    unfold f159
    rw [if_neg (by omega), hn, if_neg (by omega), h10, hl, if_neg (by decide : ¬ (2 : Int) = 1000050), s32_id (z := 940) (by decide) (by decide), if_neg (by omega)]
    exact hT i i0 i1
  unfold L42_23 L192_23
  refine Lp_sim (f := K42_23 a 92 1 15 0 0 0) (f' := K192_23 c 148 n 0 0 0 0 0) (P := fun u v => u.2.1 = v.1 ∧ 0 ≤ v.1 ∧ v.1 ≤ n ∧ (∀ p, 0 ≤ p → p < 8 → (jand u.1 (jshl 1 p) = 0 ↔ ¬ ∃ j, 0 ≤ j ∧ j < v.1 ∧ c 149 j = p)) ∧ Tv a c v.1) (Q := fun t t' => (t.1 = 1 ∧ t'.1 = 1 ∧ (∀ p, 0 ≤ p → p < 8 → (jand t.2.2.1 (jshl 1 p) = 0 ↔ ¬ ∃ j, 0 ≤ j ∧ j < n ∧ c 149 j = p)) ∧ Tv a c n) ∨ (¬ t.1 = 1 ∧ ¬ t'.1 = 1 ∧ t.2.1 = -1 ∧ t'.2.1 = -1)) (fun u => (n - u.2.1).toNat) ?_ (0, 0, 0) (0, 0) ⟨rfl, Int.le_refl _, n0, fun p _ _ => ⟨fun _ ⟨j, j0, j1, _⟩ => by dsimp only at j1; omega, fun _ => jand_0 _⟩, ⟨fun j j0 j1 => by dsimp only at j1; omega, fun i j i0 i1 j1 => by dsimp only at j1; omega⟩⟩
  rintro ⟨y, i, z⟩ ⟨v1, v2⟩ ⟨c1, c2, c3, c4, c5⟩
  dsimp only at c1 c2 c3 c4 c5
  subst c1
  have eA : K42_23 a 92 1 15 0 0 0 (y, i, z) = S42_23 a 92 1 15 y i z := rfl
  have eB : K192_23 c 148 n 0 0 0 0 0 (i, v2) = S192_23 c 148 n i v2 0 0 0 := rfl
  rw [eA, eB]
  unfold S42_23 S192_23
  rw [hn, h.le, h149]
  by_cases d : n ≤ i
  · rw [if_pos d, if_pos d]
    have : i = n := by omega
    rw [this] at c4 c5
    exact Or.inr ⟨_, _, rfl, rfl, Or.inl ⟨rfl, rfl, c4, c5⟩⟩
  · rw [if_neg d, if_neg d, e159 i c2 (by omega), q73 h, s32_id (z := i + 1) (by omega) (by omega)]
    by_cases e : f213 c 148 (c 149 i) = 0
    · rw [if_pos e, if_pos e]
      exact Or.inr ⟨_, _, rfl, rfl, Or.inr ⟨(fun q => absurd q (by decide : ¬ (2 : Nat) = 1)), (fun q => absurd q (by decide : ¬ (2 : Nat) = 1)), rfl, rfl⟩⟩
    · have hv : 0 ≤ c 149 i ∧ c 149 i < a 3 6 := by
        by_cases q : 0 ≤ c 149 i ∧ c 149 i < a 3 6
        · exact q
        · exact absurd ((q213i h).mpr q) e
      rw [if_neg e, if_neg e]
      have g := c4 (c 149 i) hv.1 (by omega)
      rcases q192i c n i c2 (by omega) with ⟨w1, w2⟩ | ⟨w1, w2, w3⟩
      · rw [h149] at w2
        have free : jand y (jshl 1 (c 149 i)) = 0 := g.mpr (fun ⟨j, j0, j1, j2⟩ => w2 j j0 j1 j2)
        rw [if_pos free, if_pos w1]
        refine Or.inl ⟨_, _, rfl, rfl, ⟨rfl, by dsimp only; omega, by dsimp only; omega, fun p p0 p8 => ?_, ⟨fun j j0 j1 => ?_, fun k j k0 k1 j1 => ?_⟩⟩, by dsimp only; omega⟩
        · dsimp only
          rw [jor_jand0, c4 p p0 p8, shl2 hv.1 (by omega) p0 p8]
          constructor
          · rintro ⟨x1, x2⟩ ⟨j, j0, j1, j2⟩
            by_cases z : j = i
            · exact x2 (z ▸ j2)
            · exact x1 ⟨j, j0, by omega, j2⟩
          · intro x
            exact ⟨fun ⟨j, j0, j1, j2⟩ => x ⟨j, j0, by omega, j2⟩, fun q => x ⟨i, c2, by omega, q⟩⟩
        · dsimp only at j1
          by_cases z : j = i
          · rw [z]; exact hv
          · exact c5.1 j j0 (by omega)
        · dsimp only at j1
          by_cases z : j = i
          · rw [z]; exact w2 k k0 (by omega)
          · exact c5.2 k j k0 k1 (by omega)
      · rw [h149] at w3
        have held : ¬ jand y (jshl 1 (c 149 i)) = 0 := fun q => g.mp q w3
        rw [if_neg held, if_neg (by omega), w2]
        exact Or.inr ⟨_, _, rfl, rfl, Or.inr ⟨(fun q => absurd q (by decide : ¬ (2 : Nat) = 1)), (fun q => absurd q (by decide : ¬ (2 : Nat) = 1)), rfl, rfl⟩⟩
set_option maxRecDepth 16384 in
theorem f131_234 {a c : MM} (h : Sx a c 15) {p f : Int} (p0 : 0 ≤ p) (p1 : p < a 3 6) (f0 : 0 ≤ f) (f1 : f < a 3 7) : f234 c 148 p f (f203 c 148 f) = f131 a 15 p f := by
  unfold f131
  rw [q133 h p0 p1 f0 f1, q110 h f0 f1]
set_option maxRecDepth 16384 in
theorem fits_l {a c : MM} (h : Sx a c 15) {n x : Int} (n0 : 0 ≤ n) (n3 : n ≤ 3) (h149 : c 148 1 = 149) (hx : ∀ p, 0 ≤ p → p < 8 → (jand x (jshl 1 p) = 0 ↔ ¬ ∃ j, 0 ≤ j ∧ j < n ∧ c 149 j = p)) (hv : Tv a c n) : (L42_82 a 92 1 15 x 0 0).2.2.1 = (L192_83 c 148 n 0 0 0 0 0).2.2.1 := by
  obtain ⟨e, e0, e8⟩ := h.f
  have hp := h.p
  unfold L42_82 L192_83
  refine Lp_sim (f := K42_82 a 92 1 15 x 0 0) (f' := K192_83 c 148 n 0 0 0 0 0) (P := fun u v => u = v ∧ 0 ≤ u.2 ∧ u.2 ≤ a 3 7) (Q := fun t t' => t.2.2.1 = t'.2.2.1) (fun u => (a 3 7 - u.2).toNat) ?_ (0, 0) (0, 0) ⟨rfl, Int.le_refl _, e0⟩
  rintro ⟨y, i⟩ ⟨z, j⟩ ⟨c1, c2, c3⟩
  cases c1
  dsimp only at c2 c3
  have eA : K42_82 a 92 1 15 x 0 0 (y, i) = S42_82 a 92 1 15 x y i := rfl
  have eB : K192_83 c 148 n 0 0 0 0 0 (y, i) = S192_83 c 148 n y i 0 0 0 := rfl
  rw [eA, eB]
  unfold S42_82 S192_83
  rw [h.le, h.bn, ← e]
  by_cases d : a 3 7 ≤ i
  · rw [if_pos d, if_pos d]
    exact Or.inr ⟨_, _, rfl, rfl, rfl⟩
  · rw [if_neg d, if_neg d, s32_id (z := i + 1) (by omega) (by omega)]
    have k1 := q39 (b := c) (a := a) (s := 15) (f := i) (x := x) (S := fun p => ∃ j, 0 ≤ j ∧ j < n ∧ c 149 j = p) hx
    have k2 := q193 (b := c) (f := i) (n := n) (P := fun j => f131 a 15 (c 149 j) i) (by omega) n0 (fun j j0 j1 => by
      rw [h149]
      exact f131_234 h (hv.1 j j0 j1).1 (hv.1 j j0 j1).2 c2 (by omega)) (fun j j0 j1 => by
      unfold f131
      rcases f133_r (a := a) (s := 15) (u := f110 a 15 i) (p := c 149 j) (f := i) with q | q | q | q
      · exact Or.inl q
      · exact Or.inr (by omega)
      · exact Or.inr (by omega)
      · exact Or.inr (by omega))
    have k3 := Ok_T (P := fun p => f131 a 15 p i) (S := fun p => ∃ j, 0 ≤ j ∧ j < n ∧ c 149 j = p) (T := fun j => c 149 j) (n := n) (fun j j0 j1 => ⟨(hv.1 j j0 j1).1, by have := (hv.1 j j0 j1).2; omega⟩) hv.2 (fun p _ _ => Iff.rfl)
    have k4 : f39 a x i 15 = 0 ↔ f193 c 148 i n = 0 := k1.trans ((not_congr k3).trans k2.symm)
    left
    by_cases g : f193 c 148 i n = 0
    · rw [if_pos g, if_pos (k4.mpr g)]
      exact ⟨_, _, rfl, rfl, ⟨rfl, by dsimp only; omega, by dsimp only; omega⟩, by dsimp only; omega⟩
    · rw [if_neg g, if_neg (fun q => g (k4.mp q))]
      exact ⟨_, _, rfl, rfl, ⟨rfl, by dsimp only; omega, by dsimp only; omega⟩, by dsimp only; omega⟩
set_option maxRecDepth 16384 in
theorem fits_q {a b : MM} (h : C2 a b) (h8 : a 0 8 = 92) (h0 : a 0 0 = 1) (h10 : a 1 0 = 2) (hl : a 2 (-1) = 940) (hb1 : b 148 1 = 149) {u : Int} (hT : TapeR a b u) : f16 a 0 = f192 b 148 := by
  obtain ⟨t1, t2, t3, t4, t5⟩ := hT
  have hC : C2 a (g283 (mu b 148 0 0) 148) := C2_fr3 h (fun _ _ _ => rfl) (fun x k q _ => by
    unfold g283
    by_cases c : x = 148
    · rw [mu_k (by unfold PJs at q; omega), mu_k (by unfold PJs at q; omega)]
    · rw [mu_a c, mu_a c])
  have e283 : f283 (mu b 148 0 0) 148 = u := by
    unfold f283
    exact (mu_k (by decide)).trans t2
  have hc1 : (g283 (mu b 148 0 0) 148) 148 1 = 149 := by
    unfold g283
    exact (mu_k (by decide)).trans ((mu_k (by decide)).trans hb1)
  have hcT : ∀ j, 0 ≤ j → j < u → jand (a 2 j) 255 = (g283 (mu b 148 0 0) 148) 149 j := fun j j0 j1 => (t5 j j0 j1).trans (by
    unfold g283
    exact ((mu_a (by decide)).trans (mu_a (by decide))).symm)
  have h3 : a 0 3 = 15 := h.1.1.2.1
  unfold f16 f192
  rw [e283, h8, h0, h3]
  generalize g283 (mu b 148 0 0) 148 = c at hC hc1 hcT
  have hS := hC.1.2.1
  unfold f42 f209
  rw [t1]
  by_cases d1 : u < 1
  · rw [if_pos d1, if_pos d1, if_pos rfl]
  · by_cases d2 : u ≤ 3
    · rw [if_neg d1, if_pos d2, if_neg d1, if_neg (by omega : ¬ 3 < u), if_neg (by decide : ¬ (1 : Int) = 0)]
      rcases q42 hS t1 t3 t4 h10 hl hc1 hcT with ⟨k1, k2, k3, k4⟩ | ⟨k1, k2, k3, k4⟩
      · rw [if_pos k1, if_pos k2, fits_l hS t3 d2 hc1 k3 k4]
        split <;> first
          | assumption
          | rfl
      · rw [if_neg k1, if_neg k2, k3, k4]
    · rw [if_neg d1, if_neg d2, if_neg d1, if_pos (by omega : 3 < u), if_pos rfl]
