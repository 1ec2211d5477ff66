/-! A book judged or lived. -/
set_option maxRecDepth 16384 in
theorem q119 {a b : MM} {s : Int} (h : Sx a b s) (w : Int) : f119 a s w = f286 b 148 w := by
  obtain ⟨e, e0, e8⟩ := h.f
  have hb := h.bn
  have hs0 := h.1.2.2.1
  unfold f119 f286 L119_4 L286_4
  refine Lp_sim (f := K119_4 a s w 0 0) (f' := K286_4 b 148 w 0 0) (P := fun x y => x = y ∧ 0 ≤ x.2 ∧ x.2 ≤ a 3 7) (Q := fun t t' => t.2.2.1 = t'.2.2.1) (fun x => (a 3 7 - x.2).toNat) ?_ (0, 0) (0, 0) ⟨rfl, Int.le_refl _, e0⟩
  rintro ⟨x, i⟩ ⟨y, j⟩ ⟨c1, c2, c3⟩
  cases c1
  dsimp only at c2 c3
  have eA : K119_4 a s w 0 0 (x, i) = S119_4 a s w x i := rfl
  have eB : K286_4 b 148 w 0 0 (x, i) = S286_4 b 148 w x i := rfl
  rw [eA, eB]
  unfold S119_4 S286_4
  rw [hs0, hb, ← e]
  by_cases c : a 3 7 ≤ i
  · rw [if_pos c, if_pos c]
    exact Or.inr ⟨_, _, rfl, rfl, rfl⟩
  · have q := q127 h (f := i) c2 (by omega)
    rw [if_neg c, if_neg c, q.1, q.2, s32_id (z := i + 1) (by omega) (by omega)]
    by_cases d : a (s + 4) i = w
    · rw [if_pos d]
      exact Or.inl ⟨_, _, rfl, rfl, ⟨rfl, by dsimp only; omega, by dsimp only; omega⟩, by dsimp only; omega⟩
    · rw [if_neg d]
      exact Or.inl ⟨_, _, rfl, rfl, ⟨rfl, by dsimp only; omega, by dsimp only; omega⟩, by dsimp only; omega⟩
set_option maxRecDepth 16384 in
/-- a line alike: why not, what becomes of it -/
theorem lineG {a b : MM} {s : Int} (h : Sx a b s) (hl : BLay a b) {i : Int} (i0 : 0 ≤ i) (i1 : i < 40) (hv : Lv a b i) : (f146 a s (a 97 i) (a 98 i) (a 99 i) = 0 ∧ f196 b 148 (3 * i) = 0 ∧ Gx a b (g135 a s (a 97 i) (a 98 i) (a 99 i)) (g196 b 148 (3 * i)) s) ∨ (f146 a s (a 97 i) (a 98 i) (a 99 i) ≠ 0 ∧ f196 b 148 (3 * i) = s32 (s32 (a 97 i * 10) + f146 a s (a 97 i) (a 98 i) (a 99 i)) ∧ f196 b 148 (3 * i) ≠ 0 ∧ g196 b 148 (3 * i) = b) := by
  obtain ⟨h1, h2, h3, h4⟩ := hv
  have hd := h.day
  unfold f196 g196
  rw [hl.2, s32_id (z := 3 * i + 1) (by omega) (by omega), s32_id (z := 3 * i + 2) (by omega) (by omega), ← h1, ← h2, ← h3, h.bn, ← hd.1]
  rcases h4 with h4 | ⟨h4, h5, h6⟩
  · have e := q146 h h4
    have n7 : ¬ a 97 i = 7 := by
      unfold Is at h4
      omega
    rw [if_neg n7, if_neg n7, ← e]
    by_cases c : f146 a s (a 97 i) (a 98 i) (a 99 i) = 0
    · rw [if_pos c, if_pos c]
      exact Or.inl ⟨c, rfl, p_act h h4 c⟩
    · rw [if_neg c, if_neg c]
      have r : 0 ≤ f146 a s (a 97 i) (a 98 i) (a 99 i) ∧ f146 a s (a 97 i) (a 98 i) (a 99 i) ≤ 3 := by
        have key : ∀ act x y, (act = 0 ∨ act = 1 ∨ act = 2 ∨ act = 3 ∨ act = 4 ∨ act = 5 ∨ act = 6) → 0 ≤ f146 a s act x y ∧ f146 a s act x y ≤ 3 := fun act x y q => by
          rcases q with rfl | rfl | rfl | rfl | rfl | rfl | rfl
          · rw [f146_0]; split
            · split
              · split <;> decide
              · decide
            · decide
          · rw [f146_1]; split
            · decide
            · split <;> decide
          · rw [f146_2]; split
            · decide
            · split <;> decide
          · rw [f146_3]; split <;> decide
          · rw [f146_4]; split <;> decide
          · rw [f146_5]; split
            · decide
            · split <;> decide
          · rw [f146_6]; split <;> decide
        refine key _ _ _ ?_
        unfold Is at h4
        omega
      have ra : 0 ≤ a 97 i ∧ a 97 i ≤ 6 := by
        unfold Is at h4
        omega
      rw [show (10 : Int) * a 97 i = a 97 i * 10 by omega, s32_id (z := a 97 i * 10) (by omega) (by omega), s32_id (z := a 97 i * 10 + f146 a s (a 97 i) (a 98 i) (a 99 i)) (by omega) (by omega)]
      exact Or.inr ⟨c, rfl, by omega, rfl⟩
  · rw [if_pos h4, if_pos h4, h4]
    have e7 : f146 a s 7 (a 98 i) (a 99 i) = if a 98 i ≤ s32 (400 - a s 8) then 0 else 1 := rfl
    rw [e7, s32_id (z := 400 - a s 8) (by omega) (by omega), s32_id (z := a s 8 + a 98 i) (by omega) (by omega)]
    by_cases c : a 98 i ≤ 400 - a s 8
    · have c' : a s 8 + a 98 i ≤ 400 := by omega
      rw [if_pos c, if_pos c', if_pos c']
      refine Or.inl ⟨rfl, rfl, ?_⟩
      have e : f220 b (a 98 i) (400 - a s 8) = a 98 i := by
        unfold f220
        split <;> omega
      unfold g237
      rw [h.bn, ← hd.1, s32_id (z := 400 - a s 8) (by omega) (by omega), e, g135_7]
      exact p_days h (by omega) c
    · have c' : ¬ a s 8 + a 98 i ≤ 400 := by omega
      rw [if_neg c, if_neg c', if_neg c', s32_id (z := 7 * 10) (by decide) (by decide), s32_id (z := 7 * 10 + 1) (by decide) (by decide)]
      exact Or.inr ⟨by decide, rfl, by decide, rfl⟩
set_option maxRecDepth 16384 in
/-- places that a book gone through changes -/
def Qg (s x k : Int) : Prop := Qa s x k ∨ (x = 96 ∧ (k = 5 ∨ k = 6))
set_option maxRecDepth 16384 in
/-- where going through ends -/
def GE (X : KO) (ρ : Nat → Int32) (lv s cnt : Int) (a b : MM) (t : Nat × Int × (Int × Int × Int × MM)) (o : Instr × List (Nat × Int) × MM) : Prop := ∃ (M' : Nat) (n' : MM) (k w : Int), MR X ρ 4 0 0 qP171 M' 73 [148, lv, k, w] [] n' o ∧ Sx t.2.2.2.2.2 n' s ∧ Fr (Qg s) a t.2.2.2.2.2 ∧ Fr Qb b n' ∧ 0 ≤ k ∧ k ≤ cnt ∧ t.2.2.2.2.2 96 6 = k ∧ t.2.2.2.2.2 96 5 = w ∧ ((w = 0 ∧ k = cnt ∧ t.2.2.1 = -1) ∨ (w ≠ 0 ∧ t.2.2.1 = k)) ∧ (k = 0 → ∀ x j, ¬ (x = 96 ∧ (j = 5 ∨ j = 6)) → t.2.2.2.2.2 x j = a x j)
set_option maxRecDepth 16384 in
theorem loopG {X : KO} {ρ : Nat → Int32} {lv s cnt : Int} {o : Instr × List (Nat × Int) × MM} {m00 a b : MM} (hs : s = 15 ∨ s = 22) (q1 q2 q3 : Int) : ∀ (K M : Nat) (k v : Int) (m n : MM), Sx m n s → BLay m n → m 96 3 = cnt → n 148 38 = cnt → 0 ≤ k → k ≤ cnt → cnt ≤ 40 → cnt - k < (K : Int) → (∀ i, 0 ≤ i → i < cnt → Lv m n i) → m 96 6 = k → m 96 5 = 0 → Fr (Qg s) a m → Fr Qb b n → (k = 0 → ∀ x j, ¬ (x = 96 ∧ (j = 5 ∨ j = 6)) → m x j = a x j) → MR X ρ 4 0 0 qP171 M 73 [148, lv, k, 0] [] n o → GE X ρ lv s cnt a b (Lp (K47_19 m00 96 s q1 q2 q3) (-1, k, v, m)) o := by
  intro K
  induction K with
  | zero => intro M k v m n _ _ _ _ k0 k1 _ hK; omega
  | succ K ih =>
    intro M k v m n h hl e3 e38 k0 k1 c40 hK hv e6 e5 fa fb hz rb
    have eA : K47_19 m00 96 s q1 q2 q3 (-1, k, v, m) = S47_19 m 96 s (-1) k v := rfl
    by_cases c : cnt ≤ k
    · have e : S47_19 m 96 s (-1) k v = .inr (1, 0, (-1, k, v, m)) := by
        unfold S47_19
        rw [e3, if_pos c]
      rw [Lp_inr (eA.trans e)]
      exact ⟨M, n, k, 0, rb, h, fa, fb, k0, k1, e6, e5, Or.inl ⟨rfl, by omega, rfl⟩, hz⟩
    · rcases k171_73 rb with ⟨d, _⟩ | ⟨-, B⟩
      · omega
      · rcases B with ⟨-, y74, ey, B⟩ | ⟨d, _⟩
        · rw [s32_id (z := 3 * k) (by omega) (by omega)] at ey B
          have hl' := hl
          obtain ⟨⟨l0, l1, l2, -⟩, -⟩ := hl'
          rcases lineG h hl k0 (by omega) (hv k k0 (by omega)) with ⟨w1, w2, w3⟩ | ⟨w1, w2, w3, w4⟩
          · have G6 : (g135 m s (m 97 k) (m 98 k) (m 99 k)) 96 6 = k := by rw [w3.2.1 _ _ (by unfold Qa; omega)]; exact e6
            have e : S47_19 m 96 s (-1) k v = .inl (-1, k + 1, 0, mu (g135 m s (m 97 k) (m 98 k) (m 99 k)) 96 6 (k + 1)) := by
              unfold S47_19
              rw [e3, l0, l1, l2, w1, if_neg c, if_neg (show ¬ 40 ≤ k by omega), if_pos rfl, if_pos rfl, G6, s32_id (z := k + 1) (by omega) (by omega)]
            rw [Lp_inl (eA.trans e)]
            rcases B with ⟨_, N77, -, B⟩ | ⟨d, _⟩
            · rw [w2, s32_id (z := k + 1) (by omega) (by omega), ey] at B
              have hS2 : Sx (mu (g135 m s (m 97 k) (m 98 k) (m 99 k)) 96 6 (k + 1)) (g196 n 148 (3 * k)) s := Sx_fr w3.1 (fun x j q _ => mu_a (by omega)) (fun x j q1 q2 => mu_a (by omega)) rfl (fun _ => rfl)
              have fm1 : Fr (Qg s) m (mu (g135 m s (m 97 k) (m 98 k) (m 99 k)) 96 6 (k + 1)) := (w3.2.1.mo fun x j q => Or.inl q).mu (Or.inr ⟨rfl, Or.inr rfl⟩)
              have ex : ∀ x j, (96 ≤ x ∧ x ≤ 99 ∧ ¬ (x = 96 ∧ (j = 5 ∨ j = 6))) ∨ x = 3 → (mu (g135 m s (m 97 k) (m 98 k) (m 99 k)) 96 6 (k + 1)) x j = m x j := fun x j q => fm1 x j (by unfold Qg Qa; omega)
              have ey' : ∀ x j, x = 148 ∨ x = 164 → (g196 n 148 (3 * k)) x j = n x j := fun x j q => w3.2.2 x j (by unfold Qb; omega)
              refine ih N77 (k + 1) 0 _ _ hS2 ?_ ?_ ?_ (by omega) (by omega) c40 (by omega) (fun i i0 i1 => ?_) (mu_s _ _ _ _) ?_ (fa.tr fm1) (fb.tr w3.2.2) (fun q => by omega) B
              · obtain ⟨⟨z1, z2, z3, z4, z5, z6⟩, z7⟩ := hl
                refine ⟨⟨?_, ?_, ?_, ?_, ?_, ?_⟩, ?_⟩
                · rw [ex _ _ (by omega)]; exact z1
                · rw [ex _ _ (by omega)]; exact z2
                · rw [ex _ _ (by omega)]; exact z3
                · rw [ex _ _ (by omega)]; exact z4
                · rw [ex _ _ (by omega)]; exact z5
                · rw [ex _ _ (by omega)]; exact z6
                · rw [ey' _ _ (by omega)]; exact z7
              · rw [ex _ _ (by omega)]; exact e3
              · rw [ey' _ _ (by omega)]; exact e38
              · have q := hv i i0 i1
                unfold Lv Is at *
                rw [ex 97 i (by omega), ex 98 i (by omega), ex 99 i (by omega), ex 3 6 (by omega), ex 3 7 (by omega), ey' 164 _ (by omega), ey' 164 _ (by omega), ey' 164 _ (by omega)]
                exact q
              · rw [mu_k (by decide), w3.2.1 _ _ (by unfold Qa; omega)]; exact e5
            · exact absurd w2 d
          · have e : S47_19 m 96 s (-1) k v = .inl (k, k + 1, f146 m s (m 97 k) (m 98 k) (m 99 k), mu m 96 5 (s32 (s32 (m 97 k * 10) + f146 m s (m 97 k) (m 98 k) (m 99 k)))) := by
              unfold S47_19
              rw [e3, l0, l1, l2, if_neg c, if_neg (show ¬ 40 ≤ k by omega), if_pos rfl, if_neg w1, s32_id (z := k + 1) (by omega) (by omega)]
            rw [Lp_inl (eA.trans e)]
            have e2 : K47_19 m00 96 s q1 q2 q3 (k, k + 1, f146 m s (m 97 k) (m 98 k) (m 99 k), mu m 96 5 (s32 (s32 (m 97 k * 10) + f146 m s (m 97 k) (m 98 k) (m 99 k)))) = .inr (1, 0, (k, k + 1, f146 m s (m 97 k) (m 98 k) (m 99 k), mu m 96 5 (s32 (s32 (m 97 k * 10) + f146 m s (m 97 k) (m 98 k) (m 99 k))))) := by
              show S47_19 (mu m 96 5 (s32 (s32 (m 97 k * 10) + f146 m s (m 97 k) (m 98 k) (m 99 k)))) 96 s k (k + 1) (f146 m s (m 97 k) (m 98 k) (m 99 k)) = _
              unfold S47_19
              by_cases c2 : (mu m 96 5 (s32 (s32 (m 97 k * 10) + f146 m s (m 97 k) (m 98 k) (m 99 k)))) 96 3 ≤ k + 1
              · rw [if_pos c2]
              · rw [if_neg c2]
                by_cases c3 : 40 ≤ k + 1
                · rw [if_pos c3]
                · rw [if_neg c3, if_neg (show ¬ k = -1 by omega)]
            rw [Lp_inr e2]
            rcases B with ⟨d, _⟩ | ⟨_, N76, -, B⟩
            · exact absurd d w3
            · rw [ey, w4] at B
              refine ⟨N76, n, k, f196 n 148 (3 * k), B, Sx_fr h (fun x j q _ => mu_a (by omega)) (fun x j q1 q2 => mu_a (by omega)) rfl (fun _ => rfl), fa.mu (Or.inr ⟨rfl, Or.inl rfl⟩), fb, k0, k1, ?_, ?_, Or.inr ⟨w3, rfl⟩, fun q x j q2 => ?_⟩
              · dsimp only; rw [mu_k (by decide)]; exact e6
              · dsimp only; rw [mu_s]; exact w2.symm
              · dsimp only
                by_cases q3 : x = 96
                · rw [q3, mu_k (by omega)]; exact hz q 96 j (by omega)
                · rw [mu_a q3]; exact hz q x j q2
        · exact absurd rfl d
