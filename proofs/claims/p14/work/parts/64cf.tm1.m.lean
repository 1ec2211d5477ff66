section
/-! Tokens of a book: names looked up, numbers, marks. -/
set_option maxRecDepth 16384 in
def TS (X : KO) (t : Int → Int) (L most : Int) (a b : MM) : Prop := PR X t L most a b ∧ a 1 9 = 0 ∧ b 148 10 = 0
set_option maxRecDepth 16384 in
theorem goT {X : KO} {ρ : Nat → Int32} {t : Int → Int} {L most : Int} {a a' b b' : MM} {rl rl' : List (Nat × Int)} (hX : XW X) (h : PR0 t L most a b) (h9 : a 1 9 = 0) (h10 : b 148 10 = 0) (ha : Run X ρ 148 [(1, 1)] a rl a') (hb : Run X ρ 195 [(1, 148)] b rl' b') : TS X t L most a' b' ∧ Fr P148 a a' ∧ Fr P195 b b' := by
  obtain ⟨p1, f1, f2, -, -⟩ := next_ok hX h ha hb
  exact ⟨⟨p1, by rw [f1 1 9 (by unfold P148; omega)]; exact h9, by rw [f2 148 10 (by unfold P195; omega)]; exact h10⟩, f1, f2⟩
set_option maxRecDepth 16384 in
theorem markT {X : KO} {ρ : Nat → Int32} {t : Int → Int} {L most : Int} {a a' b b' : MM} {rl rl' : List (Nat × Int)} (hX : XW X) (h : TS X t L most a b) (ha : Run X ρ 160 [(1, 1), (1, 59)] a rl a') (hb : Run X ρ 245 [(1, 148)] b rl' b') : Fr PT a a' ∧ Fr PM b b' ∧ ((rl = [(1, 0)] ∧ rl' = [(1, 0)] ∧ FL a' b') ∨ (rl = [(1, 1)] ∧ rl' = [(1, 1)] ∧ TS X t L most a' b')) := by
  obtain ⟨N, ig, ha⟩ := Run_CR ha rfl
  obtain ⟨M, ig', hb⟩ := Run_CR hb rfl
  have ha : MR X ρ 2 0 0 qP160 N 0 [1, 59] [] a (ig, rl, a') := ha
  have hb : MR X ρ 1 0 0 qP245 M 0 [148] [] b (ig', rl', b') := hb
  obtain ⟨⟨p0, p1⟩, h9, h10⟩ := h
  have e := mark_ok p1 59
  have A := i160_0 ha
  have B := i245_0 hb
  rw [f168_0] at B
  rw [← e] at B
  rcases A with ⟨c, A⟩ | ⟨c, m8, r8, A⟩
  · rcases B with ⟨d, B⟩ | ⟨d, B⟩
    · cases A; cases B
      exact ⟨Fr_158 _ _, Fr_168 _ _, Or.inl ⟨rfl, rfl, bad_ok p1 (by decide) (Or.inl rfl)⟩⟩
    · exact absurd c d
  · rcases B with ⟨d, B⟩ | ⟨d, m9, r9, B⟩
    · exact absurd d c
    · cases A; cases B
      obtain ⟨s, f1, f2⟩ := goT hX p0 h9 h10 r8 r9
      exact ⟨f1.PT, f2.PM, Or.inr ⟨rfl, rfl, s⟩⟩
set_option maxRecDepth 16384 in
theorem i153 (a : MM) : f153 a 1 = 0 ∨ f153 a 1 = 1 := by
  unfold f153
  split
  · split
    · exact Or.inr rfl
    · exact Or.inl rfl
  · exact Or.inl rfl
set_option maxRecDepth 16384 in
/-- what the class finds: 1 no name, 3 a name not told, or the one -/
def LKa (a a' : MM) (rl : List (Nat × Int)) (u : Int → Int) (n : Int) : Prop := (f153 a 1 = 0 ∧ rl = [(1, -1)] ∧ a' = g158 a 1 1) ∨ (f153 a 1 = 1 ∧ rl = [(1, -1)] ∧ a' = g158 a 1 3 ∧ Fnd u n (a 1 7) (-1)) ∨ (f153 a 1 = 1 ∧ ∃ v, rl = [(1, v)] ∧ a' = a ∧ v ≠ -1 ∧ 0 ≤ v ∧ v < n ∧ Fnd u n (a 1 7) v)
set_option maxRecDepth 16384 in
theorem Fnd_r {u : Int → Int} {n x v : Int} (h : Fnd u n x v) (hv : v ≠ -1) : 0 ≤ v ∧ v < n := by
  rcases h with ⟨e, -⟩ | ⟨e1, e2, -⟩
  · exact absurd e hv
  · exact ⟨e1, e2⟩
set_option maxRecDepth 16384 in
theorem lookP {X : KO} {ρ : Nat → Int32} {a a' : MM} {rl : List (Nat × Int)} (l0 : a 3 0 = 4) (n0 : 0 ≤ a 3 6) (n8 : a 3 6 ≤ 8) (ha : Run X ρ 76 [(1, 3), (1, 1)] a rl a') : LKa a a' rl (fun k => a 4 k) (a 3 6) := by
  obtain ⟨N, ig, ha⟩ := Run_CR ha rfl
  have ha : MR X ρ 3 0 0 qP76 N 0 [3, 1, 0] [] a (ig, rl, a') := ha
  rcases i76_0 ha with ⟨c, A⟩ | ⟨c, v, m20, r20, A⟩
  · cases A
    exact Or.inl ⟨c, rfl, rfl⟩
  · have hn : f153 a 1 = 1 := (i153 a).resolve_left c
    obtain ⟨g1, w, g2, g3⟩ := A75 n0 n8 r20
    cases g2; have g1 := g1.symm; subst g1
    rw [l0] at g3
    rcases A with ⟨c1, A⟩ | ⟨c1, A⟩
    · subst c1
      rcases A with ⟨c2, A⟩ | ⟨c2, A⟩
      · exact absurd c2 c
      · cases A
        exact Or.inr (Or.inl ⟨hn, rfl, rfl, g3⟩)
    · cases A
      obtain ⟨q1, q2⟩ := Fnd_r g3 c1
      exact Or.inr (Or.inr ⟨hn, _, rfl, rfl, c1, q1, q2, g3⟩)
set_option maxRecDepth 16384 in
theorem lookF {X : KO} {ρ : Nat → Int32} {a a' : MM} {rl : List (Nat × Int)} (l1 : a 3 1 = 5) (n0 : 0 ≤ a 3 7) (n8 : a 3 7 ≤ 8) (ha : Run X ρ 71 [(1, 3), (1, 1)] a rl a') : LKa a a' rl (fun k => a 5 k) (a 3 7) := by
  obtain ⟨N, ig, ha⟩ := Run_CR ha rfl
  have ha : MR X ρ 3 0 0 qP71 N 0 [3, 1, 0] [] a (ig, rl, a') := ha
  rcases k71_0 ha with ⟨c, y, e, A⟩ | ⟨c, v, m20, r20, A⟩
  · cases A
    exact Or.inl ⟨c, rfl, e⟩
  · have hn : f153 a 1 = 1 := (i153 a).resolve_left c
    obtain ⟨g1, w, g2, g3⟩ := A70 n0 n8 r20
    cases g2; have g1 := g1.symm; subst g1
    rw [l1] at g3
    rcases A with ⟨c1, A⟩ | ⟨c1, A⟩
    · subst c1
      rcases A with ⟨c2, -⟩ | ⟨c2, y, e, A⟩
      · exact absurd c2 c
      · cases A
        exact Or.inr (Or.inl ⟨hn, rfl, e, g3⟩)
    · cases A
      obtain ⟨q1, q2⟩ := Fnd_r g3 c1
      exact Or.inr (Or.inr ⟨hn, _, rfl, rfl, c1, q1, q2, g3⟩)
set_option maxRecDepth 16384 in
/-- what the reference finds -/
def LKb (X : KO) (ρ : Nat → Int32) (a b b' : MM) (rl' : List (Nat × Int)) (u : Int → Int) (n : Int) : Prop := (f153 a 1 = 0 ∧ rl' = [(1, 0)] ∧ b' = g168 b 148 1) ∨ (f153 a 1 = 1 ∧ NRel (a 1 7) (b 148 12) ∧ rl' = [(1, 0)] ∧ b' = g168 (mu b 148 13 (-1)) 148 3 ∧ Fnd u n (b 148 12) (-1)) ∨ (f153 a 1 = 1 ∧ NRel (a 1 7) (b 148 12) ∧ ∃ v, v ≠ -1 ∧ rl' = [(1, 1)] ∧ Run X ρ 195 [(1, 148)] (mu b 148 13 v) [] b' ∧ Fnd u n (b 148 12) v)
set_option maxRecDepth 16384 in
theorem named {X : KO} {ρ : Nat → Int32} {a b b' : MM} {rl' : List (Nat × Int)} {base n : Int} (hT : TKR X a b) (w19 : b 148 19 = 155) (b0 : 0 ≤ base) (b8 : base ≤ 8) (n0 : 0 ≤ n) (n8 : n ≤ 8) (hb : Run X ρ 251 [(1, 148), (1, base), (1, n)] b rl' b') : LKb X ρ a b b' rl' (fun k => b 155 (base + k)) n := by
  obtain ⟨N, ig, hb⟩ := Run_CR hb rfl
  have hb : MR X ρ 3 0 0 qP251 N 0 [148, base, n] [] b (ig, rl', b') := hb
  obtain ⟨v4, m2, r2, -, B⟩ := k251_0 hb
  obtain ⟨e1, e2, e3, e4⟩ := name_ok hT r2
  cases e1; have e2 := e2.symm; subst e2
  rcases B with ⟨c, y, e, B⟩ | ⟨c, v9, m7, r7, y, e, B⟩
  · rw [f168_0] at B
    cases B
    exact Or.inl ⟨c, rfl, e⟩
  · have hn : f153 a 1 = 1 := e3.resolve_right c
    rw [w19] at r7
    obtain ⟨g4, w', g5, g6⟩ := B190 b0 b8 n0 n8 r7
    cases g5; have g4 := g4.symm; subst g4
    rw [e, mu_s] at B
    rcases B with ⟨c1, y2, e5, B⟩ | ⟨c1, m13, r13, B⟩
    · subst c1
      rw [f168_0] at B
      cases B
      exact Or.inr (Or.inl ⟨hn, e4 hn, rfl, e5, g6⟩)
    · cases B
      exact Or.inr (Or.inr ⟨hn, e4 hn, _, c1, rfl, r13, g6⟩)
set_option maxRecDepth 16384 in
theorem numT {X : KO} {ρ : Nat → Int32} {t : Int → Int} {L most : Int} {a b b' : MM} {rl' : List (Nat × Int)} {lo hi : Int} (hlo : 0 ≤ lo) (h : TS X t L most a b) (hb : Run X ρ 254 [(1, 148), (1, lo), (1, hi)] b rl' b') : (f156 a 1 lo hi = -1 ∧ rl' = [(1, 0)] ∧ FL (g156 a 1 lo hi) b' ∧ Fr PT a (g156 a 1 lo hi) ∧ Fr PM b b') ∨ (∃ v, f156 a 1 lo hi = v ∧ lo ≤ v ∧ v ≤ hi ∧ v < 1000 ∧ g156 a 1 lo hi = a ∧ rl' = [(1, 1)] ∧ Run X ρ 195 [(1, 148)] (mu b 148 13 v) [] b') := by
  obtain ⟨M, ig', hb⟩ := Run_CR hb rfl
  have hb : MR X ρ 3 0 0 qP254 M 0 [148, lo, hi] [] b (ig', rl', b') := hb
  obtain ⟨⟨p0, p1⟩, h9, h10⟩ := h
  have B := i254_0 hb
  have hno : ¬ a 1 4 = 2 → ¬ b 148 7 = 3 → (f156 a 1 lo hi = -1 ∧ rl' = [(1, 0)] ∧ FL (g156 a 1 lo hi) b' ∧ Fr PT a (g156 a 1 lo hi) ∧ Fr PM b b') := fun ha hb => by
    have e1 : f156 a 1 lo hi = -1 := by unfold f156; rw [if_neg ha]
    have e2 : g156 a 1 lo hi = g158 a 1 1 := by unfold g156; rw [if_neg ha]
    rcases B with ⟨d, _⟩ | ⟨d, B⟩
    · exact absurd d hb
    · rw [f168_0] at B
      cases B
      rw [e1, e2]
      exact ⟨rfl, rfl, bad_ok p1 (by decide) (Or.inl rfl), Fr_158 _ _, Fr_168 _ _⟩
  rcases p1.2.2 with ⟨h1, h2⟩ | ⟨h1, h2⟩ | ⟨h1, h2, -⟩ | ⟨h1, h2, h3, h4, h5⟩ | ⟨h1, h2, -⟩
  · exact Or.inl (hno (by omega) (by omega))
  · exact Or.inl (hno (by omega) (by omega))
  · exact Or.inl (hno (by omega) (by omega))
  · rcases B with ⟨d, B⟩ | ⟨d, _⟩
    · have e209 : f209 b (b 148 8) lo hi = 0 ↔ ¬ (lo ≤ a 1 6 ∧ a 1 6 ≤ hi) := by
        unfold f209
        rw [← h3]
        by_cases q1 : a 1 6 < lo
        · rw [if_pos q1]; exact ⟨fun _ => by omega, fun _ => rfl⟩
        · rw [if_neg q1]
          by_cases q2 : hi < a 1 6
          · rw [if_pos q2]; exact ⟨fun _ => by omega, fun _ => rfl⟩
          · rw [if_neg q2]; exact ⟨fun q => absurd q (by decide), fun q => by omega⟩
      rcases B with ⟨d1, B⟩ | ⟨d1, m9, r9, B⟩
      · rw [f168_0] at B
        cases B
        have hq := e209.mp d1
        left
        have e1 : f156 a 1 lo hi = -1 := by
          unfold f156
          rw [if_pos h1]
          by_cases q1 : a 1 6 < lo
          · rw [if_pos q1]
          · rw [if_neg q1, if_neg (by omega)]
        have e2 : g156 a 1 lo hi = g158 a 1 2 := by
          unfold g156
          rw [if_pos h1]
          by_cases q1 : a 1 6 < lo
          · rw [if_pos q1]
          · rw [if_neg q1, if_neg (by omega)]
        rw [e1, e2]
        exact ⟨rfl, rfl, bad_ok p1 (by decide) (Or.inr (by omega)), Fr_158 _ _, Fr_168 _ _⟩
      · cases B
        have hq := Classical.not_not.mp (fun z => d1 (e209.mpr z))
        right
        have e1 : f156 a 1 lo hi = a 1 6 := by
          unfold f156
          rw [if_pos h1, if_neg (by omega), if_pos (by omega)]
        have e2 : g156 a 1 lo hi = a := by
          unfold g156
          rw [if_pos h1, if_neg (by omega), if_pos (by omega)]
        rw [← h3] at r9
        exact ⟨a 1 6, e1, by omega, by omega, by omega, e2, rfl, r9⟩
    · exact absurd h2 d
  · exact Or.inl (hno (by omega) (by omega))
end
section
/-! A book's line, what is done. -/
set_option maxRecDepth 16384 in
def BLay (a b : MM) : Prop := (a 96 0 = 97 ∧ a 96 1 = 98 ∧ a 96 2 = 99 ∧ a 97 (-1) = 40 ∧ a 98 (-1) = 40 ∧ a 99 (-1) = 40) ∧ b 148 36 = 164
set_option maxRecDepth 16384 in
def BS (X : KO) (t : Int → Int) (L : Int) (a b : MM) : Prop := TS X t L 400 a b ∧ C2 a b ∧ BLay a b
set_option maxRecDepth 16384 in
def WA (x k : Int) : Prop := (x = 1 ∧ 3 ≤ k) ∨ (97 ≤ x ∧ x ≤ 99 ∧ 0 ≤ k) ∨ (x = 96 ∧ k = 3)
set_option maxRecDepth 16384 in
def WB (x k : Int) : Prop := (x = 148 ∧ 5 ≤ k ∧ k ≤ 13) ∨ (x = 164 ∧ 0 ≤ k)
set_option maxRecDepth 16384 in
theorem C2_w {a a' b b' : MM} (h : C2 a b) (fa : Fr WA a a') (fb : Fr WB b b') : C2 a' b' := C2_fr h (fun x k q => fa x k (by unfold PCs at q; unfold WA; omega)) (fun x k q => fb x k (by unfold PJs at q; unfold WB; omega))
set_option maxRecDepth 16384 in
theorem BLay_w {a a' b b' : MM} (h : BLay a b) (fa : Fr WA a a') (fb : Fr WB b b') : BLay a' b' := by
  obtain ⟨⟨h1, h2, h3, h4, h5, h6⟩, h7⟩ := h
  refine ⟨⟨?_, ?_, ?_, ?_, ?_, ?_⟩, ?_⟩
  · rw [fa _ _ (by unfold WA; omega)]; exact h1
  · rw [fa _ _ (by unfold WA; omega)]; exact h2
  · rw [fa _ _ (by unfold WA; omega)]; exact h3
  · rw [fa _ _ (by unfold WA; omega)]; exact h4
  · rw [fa _ _ (by unfold WA; omega)]; exact h5
  · rw [fa _ _ (by unfold WA; omega)]; exact h6
  · rw [fb _ _ (by unfold WB; omega)]; exact h7
set_option maxRecDepth 16384 in
theorem g48_ok {m : MM} {row v : Int} (hr : row = 97 ∨ row = 98 ∨ row = 99) (hl : m row (-1) = 40) (n0 : 0 ≤ m 96 3) (n1 : m 96 3 < 40) : g48 m 96 row v = mu m row (m 96 3) (s32 v) := by
  unfold g48
  have hc : ¬ row = 1000050 := by omega
  have h0 : ¬ m 96 3 < 0 := by omega
  rw [if_neg h0, if_neg hc, hl, s32_id (z := 40) (by decide) (by decide), if_neg (by omega)]
set_option maxRecDepth 16384 in
/-- class's places of a line, reference's -/
def Va (n x k : Int) : Prop := (x = 1 ∧ 3 ≤ k) ∨ ((x = 97 ∨ x = 98 ∨ x = 99) ∧ k = n)
set_option maxRecDepth 16384 in
theorem PM_wb {b b' : MM} (h : Fr PM b b') : Fr WB b b' := h.mo fun x k q => Or.inl q
set_option maxRecDepth 16384 in
theorem PT_wa {a a' : MM} (h : Fr PT a a') : Fr WA a a' := h.mo fun x k q => Or.inl q
set_option maxRecDepth 16384 in
/-- a token further, something written on the way -/
theorem stepT {X : KO} {ρ : Nat → Int32} {t : Int → Int} {L : Int} {a y a' b z b' : MM} (hX : XW X) (h : BS X t L a b) (fy : Fr (fun x k => 97 ≤ x ∧ x ≤ 99 ∧ 0 ≤ k) a y) (fz : Fr (fun x k => (x = 164 ∧ 0 ≤ k) ∨ (x = 148 ∧ k = 13)) b z) (ra : Run X ρ 148 [(1, 1)] y [] a') (rb : Run X ρ 195 [(1, 148)] z [] b') : BS X t L a' b' ∧ Fr P148 y a' ∧ Fr P195 z b' ∧ Fr WA a a' ∧ Fr WB b b' := by
  obtain ⟨⟨⟨p0, p1⟩, h9, h10⟩, hc, hl⟩ := h
  have q0 : PR0 t L 400 y z := PR0_fr p0 fy fz (fun k q => by omega) (fun k q => by omega) (fun k _ _ q => by omega) (fun k q => by omega)
  obtain ⟨s, f1, f2⟩ := goT hX q0 (by rw [fy 1 9 (by omega)]; exact h9) (by rw [fz 148 10 (by omega)]; exact h10) ra rb
  have fa : Fr WA a a' := (fy.mo fun x k q => Or.inr (Or.inl q)).tr (f1.mo fun x k q => Or.inl ⟨q.1, q.2.1⟩)
  have fb : Fr WB b b' := (fz.mo fun x k q => by unfold WB; omega).tr (f2.mo fun x k q => by unfold P195 at q; unfold WB; omega)
  exact ⟨⟨s, C2_w hc fa fb, BLay_w hl fa fb⟩, f1, f2, fa, fb⟩
set_option maxRecDepth 16384 in
/-- a name read and kept -/
theorem nameT {X : KO} {ρ : Nat → Int32} {t : Int → Int} {L : Int} {a m2 a' b m4 : MM} {rl : List (Nat × Int)} {u u' : Int → Int} {n row v4 v6 : Int} (hX : XW X) (h : BS X t L a b) (c0 : 0 ≤ a 96 3) (c1 : a 96 3 < 40) (hr : row = 97 ∨ row = 98 ∨ row = 99) (n8 : n ≤ 8) (hu : ∀ k, 0 ≤ k → k < n → NRel (u k) (u' k)) (A : LKa a m2 [(1, v4)] u n) (A' : (v4 = -1 ∧ rl = [(1, 0)] ∧ a' = m2) ∨ (v4 ≠ -1 ∧ rl = [(1, 1)] ∧ Run X ρ 148 [(1, 1)] (g48 m2 96 row v4) [] a')) (B : LKb X ρ a b m4 [(1, v6)] u' n) : Fr WB b m4 ∧ ((rl = [(1, 0)] ∧ v6 = 0 ∧ FL a' m4 ∧ Fr WA a a') ∨ (rl = [(1, 1)] ∧ v6 = 1 ∧ ∃ v, 0 ≤ v ∧ v < n ∧ BS X t L a' m4 ∧ m4 148 13 = v ∧ a' row (a 96 3) = v ∧ Fr (fun x k => (x = 1 ∧ 3 ≤ k) ∨ (x = row ∧ k = a 96 3)) a a' ∧ Fr PM b m4)) := by
  have hh := h
  obtain ⟨⟨⟨p0, p1⟩, h9, h10⟩, hc, hl⟩ := h
  have hrow : a row (-1) = 40 := by
    obtain ⟨⟨-, -, -, e4, e5, e6⟩, -⟩ := hl
    rcases hr with r | r | r <;> rw [r] <;> assumption
  rcases A with ⟨k1, k2, k3⟩ | ⟨k1, k2, k3, k4⟩ | ⟨k1, v, k2, k3, kn, k4, k5, k6⟩
  · injection k2 with k2
    injection k2 with _ k2
    rcases A' with ⟨e1, e2, e3⟩ | ⟨e1, -⟩
    · rcases B with ⟨-, q2, q3⟩ | ⟨q1, -⟩ | ⟨q1, -⟩
      · injection q2 with q2
        injection q2 with _ q2
        rw [e3, k3, q3]
        exact ⟨PM_wb (Fr_168 _ _), Or.inl ⟨e2, q2, bad_ok p1 (by decide) (Or.inl rfl), PT_wa (Fr_158 _ _)⟩⟩
      · omega
      · omega
    · exact absurd k2 e1
  · injection k2 with k2
    injection k2 with _ k2
    rcases A' with ⟨e1, e2, e3⟩ | ⟨e1, -⟩
    · rcases B with ⟨q1, -⟩ | ⟨-, qn, q2, q3, q4⟩ | ⟨-, qn, v', q1, q2, q3, q4⟩
      · omega
      · injection q2 with q2
        injection q2 with _ q2
        rw [e3, k3, q3]
        have hT : TKR X a (mu b 148 13 (-1)) := TKR_fr p1 (Fr.rf (fun _ _ => False) _) ((Fr.rf (fun x k => x = 148 ∧ k = 13) _).mu ⟨rfl, rfl⟩) (fun _ q => q) (fun k _ _ q => by omega)
        exact ⟨PM_wb (((Fr.rf _ _).mu ⟨rfl, by decide, by decide⟩).tr (Fr_168 _ _)), Or.inl ⟨e2, q2, bad_ok hT (by decide) (Or.inr (name_kind k1)), PT_wa (Fr_158 _ _)⟩⟩
      · exact absurd (Fnd_u (fun k x0 x1 => NRel_iff (hu k x0 x1) qn) k4 q4).symm q1
    · exact absurd k2 e1
  · injection k2 with k2
    injection k2 with _ k2
    rcases A' with ⟨e1, -⟩ | ⟨e1, e2, e3⟩
    · omega
    · rcases B with ⟨q1, -⟩ | ⟨-, qn, q2, q3, q4⟩ | ⟨-, qn, v', q1, q2, q3, q4⟩
      · omega
      · exact absurd (Fnd_u (fun k x0 x1 => NRel_iff (hu k x0 x1) qn) k6 q4) kn
      · injection q2 with q2
        injection q2 with _ q2
        have ev := Fnd_u (fun k x0 x1 => NRel_iff (hu k x0 x1) qn) k6 q4
        rw [k3, k2, g48_ok hr hrow c0 c1, s32_id (z := v) (by omega) (by omega)] at e3
        rw [← ev] at q3
        have fy : Fr (fun x k => 97 ≤ x ∧ x ≤ 99 ∧ 0 ≤ k) a (mu a row (a 96 3) v) := (Fr.rf _ _).mu ⟨by omega, by omega, c0⟩
        obtain ⟨s1, f1, f2, fa, fb⟩ := stepT hX hh fy ((Fr.rf _ _).mu (Or.inr ⟨rfl, rfl⟩)) e3 q3
        have fy2 : Fr (fun x k => (x = 1 ∧ 3 ≤ k) ∨ (x = row ∧ k = a 96 3)) a (mu a row (a 96 3) v) := (Fr.rf _ _).mu (Or.inr ⟨rfl, rfl⟩)
        refine ⟨fb, Or.inr ⟨e2, q2, v, k4, k5, s1, ?_, ?_, fy2.tr (f1.mo fun x k q => Or.inl ⟨q.1, q.2.1⟩), ?_⟩⟩
        · rw [f2 148 13 (by unfold P195; omega), mu_s]
        · rw [f1 row _ (by unfold P148; omega), mu_s]
        · exact ((Fr.rf _ _).mu ⟨rfl, by decide, by decide⟩).tr f2.PM
set_option maxRecDepth 16384 in
/-- a person's name, a form's name: into a row -/
theorem persT {X : KO} {ρ : Nat → Int32} {t : Int → Int} {L : Int} {a a' b m4 : MM} {rl : List (Nat × Int)} {row v6 : Int} (hX : XW X) (h : BS X t L a b) (c0 : 0 ≤ a 96 3) (c1 : a 96 3 < 40) (hr : row = 97 ∨ row = 98 ∨ row = 99) (ra : Run X ρ 54 [(1, 96), (1, 1), (1, 3), (1, row)] a rl a') (rb : Run X ρ 259 [(1, 148)] b [(1, v6)] m4) : Fr WB b m4 ∧ ((rl = [(1, 0)] ∧ v6 = 0 ∧ FL a' m4 ∧ Fr WA a a') ∨ (rl = [(1, 1)] ∧ v6 = 1 ∧ ∃ v, 0 ≤ v ∧ v < a 3 6 ∧ BS X t L a' m4 ∧ m4 148 13 = v ∧ a' row (a 96 3) = v ∧ Fr (fun x k => (x = 1 ∧ 3 ≤ k) ∨ (x = row ∧ k = a 96 3)) a a' ∧ Fr PM b m4)) := by
  have hC := h.2.1
  have hp := hC.1.2.1.p
  obtain ⟨N, ig, ra⟩ := Run_CR ra rfl
  have ra : MR X ρ 5 0 0 qP54 N 0 [96, 1, 3, row, 0] [] a (ig, rl, a') := ra
  obtain ⟨M, ig', rb⟩ := Run_CR rb rfl
  have rb : MR X ρ 1 0 0 qP259 M 0 [148] [] b (ig', [(1, v6)], m4) := rb
  obtain ⟨v5, m5, r5, -, e5⟩ := k259_0 rb
  cases e5
  rw [hC.1.2.1.bn, ← hp.1] at r5
  have B := named h.1.1.2 hC.2.2.2.1.2.1 (by decide) (by decide) hp.2.1 hp.2.2 r5
  obtain ⟨v4, m2, r2, A'⟩ := k54_0 ra
  have A := lookP (h.2.1.1.2.1.1.1.1) hp.2.1 hp.2.2 r2
  refine nameT hX h c0 c1 hr hp.2.2 (fun k k0 k1 => ?_) A ?_ B
  · rw [Int.zero_add]
    have := hC.2.1.1 k k0 k1
    rw [Int.zero_add] at this
    exact this
  · rcases A' with ⟨e, A'⟩ | ⟨e, y, e2, m13, r13, A'⟩
    · cases A'; exact Or.inl ⟨e, rfl, rfl⟩
    · cases A'
      rw [e2] at r13
      exact Or.inr ⟨e, rfl, r13⟩
set_option maxRecDepth 16384 in
theorem formT {X : KO} {ρ : Nat → Int32} {t : Int → Int} {L : Int} {a a' b m4 : MM} {rl : List (Nat × Int)} {row v6 : Int} (hX : XW X) (h : BS X t L a b) (c0 : 0 ≤ a 96 3) (c1 : a 96 3 < 40) (hr : row = 97 ∨ row = 98 ∨ row = 99) (ra : Run X ρ 52 [(1, 96), (1, 1), (1, 3), (1, row)] a rl a') (rb : Run X ρ 248 [(1, 148)] b [(1, v6)] m4) : Fr WB b m4 ∧ ((rl = [(1, 0)] ∧ v6 = 0 ∧ FL a' m4 ∧ Fr WA a a') ∨ (rl = [(1, 1)] ∧ v6 = 1 ∧ ∃ v, 0 ≤ v ∧ v < a 3 7 ∧ BS X t L a' m4 ∧ m4 148 13 = v ∧ a' row (a 96 3) = v ∧ Fr (fun x k => (x = 1 ∧ 3 ≤ k) ∨ (x = row ∧ k = a 96 3)) a a' ∧ Fr PM b m4)) := by
  have hC := h.2.1
  have hp := hC.1.2.1.f
  obtain ⟨N, ig, ra⟩ := Run_CR ra rfl
  have ra : MR X ρ 5 0 0 qP52 N 0 [96, 1, 3, row, 0] [] a (ig, rl, a') := ra
  obtain ⟨M, ig', rb⟩ := Run_CR rb rfl
  have rb : MR X ρ 1 0 0 qP248 M 0 [148] [] b (ig', [(1, v6)], m4) := rb
  obtain ⟨v5, m5, r5, -, e5⟩ := k248_0 rb
  cases e5
  rw [hC.1.2.1.bn, ← hp.1] at r5
  have B := named h.1.1.2 hC.2.2.2.1.2.1 (by decide) (by decide) hp.2.1 hp.2.2 r5
  obtain ⟨v4, m2, r2, A'⟩ := k52_0 ra
  have A := lookF (h.2.1.1.2.1.1.1.2.1) hp.2.1 hp.2.2 r2
  refine nameT hX h c0 c1 hr hp.2.2 (fun k k0 k1 => ?_) A ?_ B
  · have := hC.2.1.2 k k0 k1
    rw [Int.zero_add] at this
    exact this
  · rcases A' with ⟨e, A'⟩ | ⟨e, y, e2, m13, r13, A'⟩
    · cases A'; exact Or.inl ⟨e, rfl, rfl⟩
    · cases A'
      rw [e2] at r13
      exact Or.inr ⟨e, rfl, r13⟩
set_option maxRecDepth 16384 in
theorem L244_ok {b : MM} {at_ : Int} : (f217 b 148 8 ≠ 0 ∧ (L244_3 b 148 at_ 8).2.2 = 8) ∨ (f217 b 148 8 = 0 ∧ f217 b 148 9 ≠ 0 ∧ (L244_3 b 148 at_ 8).2.2 = 9) ∨ (f217 b 148 8 = 0 ∧ f217 b 148 9 = 0 ∧ f217 b 148 10 ≠ 0 ∧ (L244_3 b 148 at_ 8).2.2 = 10) ∨ (f217 b 148 8 = 0 ∧ f217 b 148 9 = 0 ∧ f217 b 148 10 = 0 ∧ f217 b 148 11 ≠ 0 ∧ (L244_3 b 148 at_ 8).2.2 = 11) ∨ (f217 b 148 8 = 0 ∧ f217 b 148 9 = 0 ∧ f217 b 148 10 = 0 ∧ f217 b 148 11 = 0 ∧ f217 b 148 12 ≠ 0 ∧ (L244_3 b 148 at_ 8).2.2 = 12) ∨ (f217 b 148 8 = 0 ∧ f217 b 148 9 = 0 ∧ f217 b 148 10 = 0 ∧ f217 b 148 11 = 0 ∧ f217 b 148 12 = 0 ∧ (L244_3 b 148 at_ 8).2.2 = 13) := by
  have st : ∀ k, k ≤ 12 → 8 ≤ k → K244_3 b 148 at_ 8 k = if f217 b 148 k = 0 then .inl (k + 1) else .inr (1, 0, k) := fun k k1 k0 => by
    show S244_3 b 148 at_ k = _
    unfold S244_3
    rw [if_neg (by omega), s32_id (z := k + 1) (by omega) (by omega)]
  have e13 : Lp (K244_3 b 148 at_ 8) 13 = (1, 0, 13) := Lp_inr (by
    show S244_3 b 148 at_ 13 = _
    unfold S244_3
    rw [if_pos (by decide)])
  have s8 := st 8 (by decide) (by decide)
  have s9 := st 9 (by decide) (by decide)
  have s10 := st 10 (by decide) (by decide)
  have s11 := st 11 (by decide) (by decide)
  have s12 := st 12 (by decide) (by decide)
  unfold L244_3
  by_cases c8 : f217 b 148 8 = 0
  · rw [if_pos c8] at s8
    rw [Lp_inl s8, show (8 + 1 : Int) = 9 from rfl]
    right
    by_cases c9 : f217 b 148 9 = 0
    · rw [if_pos c9] at s9
      rw [Lp_inl s9, show (9 + 1 : Int) = 10 from rfl]
      right
      by_cases c10 : f217 b 148 10 = 0
      · rw [if_pos c10] at s10
        rw [Lp_inl s10, show (10 + 1 : Int) = 11 from rfl]
        right
        by_cases c11 : f217 b 148 11 = 0
        · rw [if_pos c11] at s11
          rw [Lp_inl s11, show (11 + 1 : Int) = 12 from rfl]
          right
          by_cases c12 : f217 b 148 12 = 0
          · rw [if_pos c12] at s12
            rw [Lp_inl s12, show (12 + 1 : Int) = 13 from rfl, e13]
            exact Or.inr ⟨c8, c9, c10, c11, c12, rfl⟩
          · rw [if_neg c12] at s12
            rw [Lp_inr s12]
            exact Or.inl ⟨c8, c9, c10, c11, c12, rfl⟩
        · rw [if_neg c11] at s11
          rw [Lp_inr s11]
          exact Or.inl ⟨c8, c9, c10, c11, rfl⟩
      · rw [if_neg c10] at s10
        rw [Lp_inr s10]
        exact Or.inl ⟨c8, c9, c10, rfl⟩
    · rw [if_neg c9] at s9
      rw [Lp_inr s9]
      exact Or.inl ⟨c8, c9, rfl⟩
  · rw [if_neg c8] at s8
    rw [Lp_inr s8]
    exact Or.inl ⟨c8, rfl⟩
end
section
/-! A book's line. -/
set_option maxRecDepth 16384 in
def Vb (n x k : Int) : Prop := (x = 148 ∧ 5 ≤ k ∧ k ≤ 13) ∨ (x = 164 ∧ 3 * n ≤ k ∧ k ≤ 3 * n + 2)
set_option maxRecDepth 16384 in
theorem Va_wa {n : Int} (n0 : 0 ≤ n) {a a' : MM} (h : Fr (Va n) a a') : Fr WA a a' := h.mo fun x k q => by unfold Va at q; unfold WA; omega
set_option maxRecDepth 16384 in
theorem Vb_wb {n : Int} (n0 : 0 ≤ n) {b b' : MM} (h : Fr (Vb n) b b') : Fr WB b b' := h.mo fun x k q => by unfold Vb at q; unfold WB; omega
set_option maxRecDepth 16384 in
theorem PM_vb {n : Int} {b b' : MM} (h : Fr PM b b') : Fr (Vb n) b b' := h.mo fun x k q => Or.inl q
set_option maxRecDepth 16384 in
theorem actT {X : KO} {ρ : Nat → Int32} {t : Int → Int} {L : Int} {a m6 b m4 : MM} {v act : Int} (hX : XW X) (h : BS X t L a b) (c0 : 0 ≤ a 96 3) (c1 : a 96 3 < 40) (a0 : 0 ≤ act) (a4 : act ≤ 7) (ra : Run X ρ 56 [(1, 96), (1, 1), (1, act)] a [(1, v)] m6) (rb : Run X ρ 195 [(1, 148)] (mu b 164 (3 * a 96 3) act) [] m4) : v = 1 ∧ BS X t L m6 m4 ∧ m6 97 (a 96 3) = act ∧ m4 164 (3 * a 96 3) = act ∧ Fr (Va (a 96 3)) a m6 ∧ Fr (Vb (a 96 3)) b m4 ∧ m6 98 (a 96 3) = a 98 (a 96 3) ∧ m4 164 (3 * a 96 3 + 1) = b 164 (3 * a 96 3 + 1) ∧ m6 99 (a 96 3) = a 99 (a 96 3) ∧ m4 164 (3 * a 96 3 + 2) = b 164 (3 * a 96 3 + 2) ∧ m6 96 3 = a 96 3 := by
  obtain ⟨N, ig, ra⟩ := Run_CR ra rfl
  have ra : MR X ρ 3 0 0 qP56 N 0 [96, 1, act] [] a (ig, [(1, v)], m6) := ra
  obtain ⟨y, e, m8, r8, A⟩ := k56_0 ra
  cases A
  rw [h.2.2.1.1, g48_ok (Or.inl rfl) h.2.2.1.2.2.2.1 c0 c1, s32_id (z := act) (by omega) (by omega)] at e
  rw [e] at r8
  have fy : Fr (fun x k => 97 ≤ x ∧ x ≤ 99 ∧ 0 ≤ k) a (mu a 97 (a 96 3) act) := (Fr.rf _ _).mu ⟨by decide, by decide, c0⟩
  have fz : Fr (fun x k => (x = 164 ∧ 0 ≤ k) ∨ (x = 148 ∧ k = 13)) b (mu b 164 (3 * a 96 3) act) := (Fr.rf _ _).mu (Or.inl ⟨rfl, by omega⟩)
  obtain ⟨s, f1, f2, fa, fb⟩ := stepT hX h fy fz r8 rb
  have fy2 : Fr (Va (a 96 3)) a (mu a 97 (a 96 3) act) := (Fr.rf _ _).mu (Or.inr ⟨Or.inl rfl, rfl⟩)
  have fz2 : Fr (Vb (a 96 3)) b (mu b 164 (3 * a 96 3) act) := (Fr.rf _ _).mu (Or.inr ⟨rfl, by omega, by omega⟩)
  refine ⟨rfl, s, ?_, ?_, fy2.tr (f1.mo fun x k q => Or.inl ⟨q.1, q.2.1⟩), fz2.tr (f2.mo fun x k q => by unfold P195 at q; unfold Vb; omega), ?_, ?_, ?_, ?_, ?_⟩
  · rw [f1 _ _ (by unfold P148; omega), mu_s]
  · rw [f2 _ _ (by unfold P195; omega), mu_s]
  · rw [f1 _ _ (by unfold P148; omega), mu_a (by decide)]
  · rw [f2 _ _ (by unfold P195; omega), mu_k (by omega)]
  · rw [f1 _ _ (by unfold P148; omega), mu_a (by decide)]
  · rw [f2 _ _ (by unfold P195; omega), mu_k (by omega)]
  · rw [f1 _ _ (by unfold P148; omega), mu_a (by decide)]
set_option maxRecDepth 16384 in
/-- a line's values, so far as its deed -/
def Dv (a b : MM) (n P F : Int) : Prop := a 97 n = b 164 (3 * n) ∧ a 99 n = b 164 (3 * n + 2) ∧ ((a 97 n = 0 ∧ 0 ≤ a 99 n ∧ a 99 n < F) ∨ ((a 97 n = 1 ∨ a 97 n = 2) ∧ 0 ≤ a 99 n ∧ a 99 n < P) ∨ (a 97 n = 3 ∨ a 97 n = 4))
set_option maxRecDepth 16384 in
theorem keepT {X : KO} {t : Int → Int} {L : Int} {a b : MM} {at_ v : Int} (h : BS X t L a b) (a0 : 0 ≤ at_) (v0 : 0 ≤ v) (v9 : v < 1000) (e13 : b 148 13 = v) : g218 b 148 at_ 1 = mu b 164 at_ v ∧ f218 b 148 at_ 1 = 1 ∧ BS X t L a (mu b 164 at_ v) := by
  refine ⟨?_, rfl, ?_⟩
  · unfold g218
    rw [if_neg (by decide), h.2.2.2, e13, s32_id (z := v) (by omega) (by omega)]
  · have fz : Fr (fun x k => x = 164 ∧ 0 ≤ k) b (mu b 164 at_ v) := (Fr.rf _ _).mu ⟨rfl, a0⟩
    obtain ⟨⟨⟨p0, p1⟩, h9, h10⟩, hc, hl⟩ := h
    exact ⟨⟨⟨PR0_fr p0 (Fr.rf (fun _ _ => False) _) fz (fun _ q => q) (fun _ q => q) (fun k _ _ q => by omega) (fun k q => by omega), TKR_fr p1 (Fr.rf (fun _ _ => False) _) fz (fun _ q => q) (fun k _ _ q => by omega)⟩, h9, by rw [mu_a (by decide)]; exact h10⟩, C2_w hc (Fr.rf _ _) (fz.mo fun x k q => Or.inr q), BLay_w hl (Fr.rf _ _) (fz.mo fun x k q => Or.inr q)⟩
set_option maxRecDepth 16384 in
theorem deedT {X : KO} {ρ : Nat → Int32} {t : Int → Int} {L : Int} {a a' b b' : MM} {rl : List (Nat × Int)} {v6 : Int} (hX : XW X) (hS : XS X) (h : BS X t L a b) (c0 : 0 ≤ a 96 3) (c1 : a 96 3 < 40) (z1 : a 99 (a 96 3) = 0) (z2 : b 164 (3 * a 96 3 + 2) = 0) (ra : Run X ρ 51 [(1, 96), (1, 1), (1, 3)] a rl a') (rb : Run X ρ 244 [(1, 148), (1, 3 * a 96 3)] b [(1, v6)] b') : Fr WA a a' ∧ Fr WB b b' ∧ ((rl = [(1, 0)] ∧ v6 = 0 ∧ FL a' b') ∨ (rl = [(1, 1)] ∧ v6 = 1 ∧ BS X t L a' b' ∧ Dv a' b' (a 96 3) (a 3 6) (a 3 7) ∧ Fr (Va (a 96 3)) a a' ∧ Fr (Vb (a 96 3)) b b' ∧ a' 98 (a 96 3) = a 98 (a 96 3) ∧ b' 164 (3 * a 96 3 + 1) = b 164 (3 * a 96 3 + 1) ∧ a' 96 3 = a 96 3)) := by
  have p1 := h.1.1.2
  obtain ⟨N, ig, ra⟩ := Run_CR ra rfl
  have ra : MR X ρ 3 0 0 qP51 N 0 [96, 1, 3] [] a (ig, rl, a') := ra
  obtain ⟨M, ig', rb⟩ := Run_CR rb rfl
  have rb : MR X ρ 3 0 0 qP244 M 0 [148, 3 * a 96 3, 0] [] b (ig', [(1, v6)], b') := rb
  have A := k51_0 ra
  have B := k244_0 rb
  have w8 : f155 X a 1 1000001 = f217 b 148 8 := word_ok hS p1 (s := 0) (by decide)
  have w9 : f155 X a 1 1000002 = f217 b 148 9 := word_ok hS p1 (s := 1) (by decide)
  have w10 : f155 X a 1 1000003 = f217 b 148 10 := word_ok hS p1 (s := 2) (by decide)
  have w11 : f155 X a 1 1000004 = f217 b 148 11 := word_ok hS p1 (s := 3) (by decide)
  have w12 : f155 X a 1 1000005 = f217 b 148 12 := word_ok hS p1 (s := 4) (by decide)
  rw [w8, w9, w10, w11, w12] at A
  have hL := L244_ok (b := b) (at_ := 3 * a 96 3)
  revert B
  generalize (L244_3 b 148 (3 * a 96 3) 8).2.2 = w at hL ⊢
  intro B
  rw [h.2.2.2] at B
  -- the class's way, by the word
  have x0 : s32 (s32 (w - 8)) = w - 8 := by rw [s32_id (z := w - 8) (by omega) (by omega), s32_id (z := w - 8) (by omega) (by omega)]
  rw [x0] at B
  by_cases cw : w ≤ 12
  · rcases B with ⟨-, y2, ey, m4, r4, B⟩ | ⟨d, -⟩
    · rw [ey] at r4
      -- the act
      have hact : ∀ (v66 : Int) (m66 : MM), Run X ρ 56 [(1, 96), (1, 1), (1, w - 8)] a [(1, v66)] m66 → v66 = 1 ∧ BS X t L m66 m4 ∧ m66 97 (a 96 3) = w - 8 ∧ m4 164 (3 * a 96 3) = w - 8 ∧ Fr (Va (a 96 3)) a m66 ∧ Fr (Vb (a 96 3)) b m4 ∧ m66 98 (a 96 3) = a 98 (a 96 3) ∧ m4 164 (3 * a 96 3 + 1) = b 164 (3 * a 96 3 + 1) ∧ m66 99 (a 96 3) = a 99 (a 96 3) ∧ m4 164 (3 * a 96 3 + 2) = b 164 (3 * a 96 3 + 2) ∧ m66 96 3 = a 96 3 := fun v66 m66 r => actT hX h c0 c1 (by omega) (by omega) r r4
      have x2 : s32 (3 * a 96 3 + 2) = 3 * a 96 3 + 2 := s32_id (by omega) (by omega)
      rw [x2] at B
      -- nothing more
      have fin34 : (w = 11 ∨ w = 12) → ∀ (v66 : Int) (m66 : MM), Run X ρ 56 [(1, 96), (1, 1), (1, w - 8)] a [(1, v66)] m66 → (ig, rl, a') = ((.ireturn, [(1, v66)], m66) : Instr × List (Nat × Int) × MM) → Fr WA a a' ∧ Fr WB b b' ∧ ((rl = [(1, 0)] ∧ v6 = 0 ∧ FL a' b') ∨ (rl = [(1, 1)] ∧ v6 = 1 ∧ BS X t L a' b' ∧ Dv a' b' (a 96 3) (a 3 6) (a 3 7) ∧ Fr (Va (a 96 3)) a a' ∧ Fr (Vb (a 96 3)) b b' ∧ a' 98 (a 96 3) = a 98 (a 96 3) ∧ b' 164 (3 * a 96 3 + 1) = b 164 (3 * a 96 3 + 1) ∧ a' 96 3 = a 96 3)) := fun hw v66 m66 r e => by
        obtain ⟨k1, k2, k3, k4, k5, k6, k7, k8, k9, k10, k11⟩ := hact v66 m66 r
        cases e
        rcases B with ⟨e, -⟩ | ⟨-, B⟩
        · omega
        · rcases B with ⟨-, B⟩ | ⟨e, -⟩
          · cases B
            exact ⟨Va_wa c0 k5, Vb_wb c0 k6, Or.inr ⟨by rw [k1], rfl, k2, ⟨by rw [k3, k4], by rw [k9, k10, z1, z2], Or.inr (Or.inr (by omega))⟩, k5, k6, k7, k8, k11⟩⟩
          · omega
      -- a person
      have fin12 : (w = 9 ∨ w = 10) → ∀ (v66 : Int) (m66 : MM), Run X ρ 56 [(1, 96), (1, 1), (1, w - 8)] a [(1, v66)] m66 → (((v66 = 0) ∧ ((ig, rl, a') = ((.ireturn, [(1, 0)], m66) : Instr × List (Nat × Int) × MM))) ∨ (¬ (v66 = 0) ∧ (∃ v53 m51, Run X ρ 54 [(1, 96), (1, 1), (1, 3), (1, m66 96 2)] m66 [(1, v53)] m51 ∧ (v53 = 0 ∨ v53 = 1) ∧ (((v53 = 0) ∧ ((ig, rl, a') = ((.ireturn, [(1, 0)], m51) : Instr × List (Nat × Int) × MM))) ∨ (¬ (v53 = 0) ∧ ((ig, rl, a') = ((.ireturn, [(1, 1)], m51) : Instr × List (Nat × Int) × MM))))))) → Fr WA a a' ∧ Fr WB b b' ∧ ((rl = [(1, 0)] ∧ v6 = 0 ∧ FL a' b') ∨ (rl = [(1, 1)] ∧ v6 = 1 ∧ BS X t L a' b' ∧ Dv a' b' (a 96 3) (a 3 6) (a 3 7) ∧ Fr (Va (a 96 3)) a a' ∧ Fr (Vb (a 96 3)) b b' ∧ a' 98 (a 96 3) = a 98 (a 96 3) ∧ b' 164 (3 * a 96 3 + 1) = b 164 (3 * a 96 3 + 1) ∧ a' 96 3 = a 96 3)) := fun hw v66 m66 r A => by
        obtain ⟨k1, k2, k3, k4, k5, k6, k7, k8, k9, k10, k11⟩ := hact v66 m66 r
        rcases A with ⟨e, -⟩ | ⟨-, v53, m51, r54, -, A⟩
        · omega
        · rcases B with ⟨e, -⟩ | ⟨-, B⟩
          · omega
          · rcases B with ⟨e, -⟩ | ⟨-, v11, m9, r9, -, y17, ey17, B⟩
            · omega
            · rw [k2.2.2.1.2.2.1] at r54
              obtain ⟨fb, P⟩ := persT hX k2 (by rw [k11]; exact c0) (by rw [k11]; exact c1) (Or.inr (Or.inr rfl)) r54 r9
              rw [k11] at P
              have p6 : m66 3 6 = a 3 6 := k5 3 6 (by unfold Va; omega)
              rcases P with ⟨q1, q2, q3, q4⟩ | ⟨q1, q2, v, q3, q4, q5, q6, q7, q8, q9⟩
              · injection q1 with q1
                injection q1 with _ q1
                rcases A with ⟨_, A⟩ | ⟨e, _⟩
                · cases A
                  rw [q2] at ey17 B
                  have ey17 : y17 = m9 := ey17
                  rcases B with ⟨_, B⟩ | ⟨e, _⟩
                  · cases B
                    rw [ey17]
                    exact ⟨(Va_wa c0 k5).tr q4, (Vb_wb c0 k6).tr fb, Or.inl ⟨rfl, rfl, q3⟩⟩
                  · exact absurd rfl e
                · exact absurd q1 e
              · injection q1 with q1
                injection q1 with _ q1
                rcases A with ⟨e, _⟩ | ⟨_, A⟩
                · omega
                · cases A
                  rw [q2] at ey17 B
                  have pp := h.2.1.1.2.1.p
                  obtain ⟨g1, g2, g3⟩ := keepT (at_ := 3 * a 96 3 + 2) q5 (by omega) q3 (by omega) q6
                  rw [g2] at B
                  rw [g1] at ey17
                  rcases B with ⟨e, _⟩ | ⟨_, B⟩
                  · exact absurd e (by decide)
                  · cases B
                    rw [ey17]
                    have fva : Fr (Va (a 96 3)) m66 a' := q8.mo fun x k q => by unfold Va; omega
                    have fvb : Fr (Vb (a 96 3)) m4 (mu m9 164 (3 * a 96 3 + 2) v) := (PM_vb q9).mu (Or.inr ⟨rfl, by omega, by omega⟩)
                    have e97 : a' 97 (a 96 3) = m66 97 (a 96 3) := q8 _ _ (by omega)
                    have e98 : a' 98 (a 96 3) = m66 98 (a 96 3) := q8 _ _ (by omega)
                    have e963 : a' 96 3 = m66 96 3 := q8 _ _ (by omega)
                    have f0 : (mu m9 164 (3 * a 96 3 + 2) v) 164 (3 * a 96 3) = m4 164 (3 * a 96 3) := by rw [mu_k (by omega), q9 _ _ (by unfold PM; omega)]
                    have f1 : (mu m9 164 (3 * a 96 3 + 2) v) 164 (3 * a 96 3 + 1) = m4 164 (3 * a 96 3 + 1) := by rw [mu_k (by omega), q9 _ _ (by unfold PM; omega)]
                    exact ⟨(Va_wa c0 k5).tr (Va_wa c0 fva), (Vb_wb c0 k6).tr (Vb_wb c0 fvb), Or.inr ⟨rfl, rfl, g3, ⟨by rw [e97, f0, k3, k4], by rw [q7, mu_s], Or.inr (Or.inl ⟨by rw [e97, k3]; rcases hw with q | q <;> rw [q] <;> decide, by rw [q7]; exact q3, by rw [q7, ← p6]; exact q4⟩)⟩, k5.tr fva, k6.tr fvb, by rw [e98, k7], by rw [f1, k8], by rw [e963, k11]⟩⟩
      rcases hL with ⟨g8, gw⟩ | ⟨g8, g9, gw⟩ | ⟨g8, g9, g10, gw⟩ | ⟨g8, g9, g10, g11, gw⟩ | ⟨g8, g9, g10, g11, g12, gw⟩ | ⟨g8, g9, g10, g11, g12, gw⟩
      · -- signs: a form
        rcases A with ⟨e, -⟩ | ⟨-, v68, m66, r66, -, A⟩
        · exact absurd e g8
        · have r66' : Run X ρ 56 [(1, 96), (1, 1), (1, w - 8)] a [(1, v68)] m66 := by rw [gw]; exact r66
          obtain ⟨k1, k2, k3, k4, k5, k6, k7, k8, k9, k10, k11⟩ := hact v68 m66 r66'
          rcases A with ⟨e, -⟩ | ⟨-, v53, m51, r54, -, A⟩
          · omega
          · rcases B with ⟨-, v22, m20, r20, -, y28, ey28, B⟩ | ⟨e, -⟩
            · rw [k2.2.2.1.2.2.1] at r54
              obtain ⟨fb, P⟩ := formT hX k2 (by rw [k11]; exact c0) (by rw [k11]; exact c1) (Or.inr (Or.inr rfl)) r54 r20
              rw [k11] at P
              have p6 : m66 3 7 = a 3 7 := k5 3 7 (by unfold Va; omega)
              rcases P with ⟨q1, q2, q3, q4⟩ | ⟨q1, q2, v, q3, q4, q5, q6, q7, q8, q9⟩
              · injection q1 with q1
                injection q1 with _ q1
                rcases A with ⟨_, A⟩ | ⟨e, _⟩
                · cases A
                  rw [q2] at ey28 B
                  have ey28 : y28 = m20 := ey28
                  have B : (ig', [(1, v6)], b') = ((.ireturn, [(1, 0)], y28) : Instr × List (Nat × Int) × MM) := B
                  cases B
                  rw [ey28]
                  exact ⟨(Va_wa c0 k5).tr q4, (Vb_wb c0 k6).tr fb, Or.inl ⟨rfl, rfl, q3⟩⟩
                · exact absurd q1 e
              · injection q1 with q1
                injection q1 with _ q1
                rcases A with ⟨e, _⟩ | ⟨_, A⟩
                · omega
                · cases A
                  rw [q2] at ey28 B
                  have pp := h.2.1.1.2.1.f
                  obtain ⟨g1, g2, g3⟩ := keepT (at_ := 3 * a 96 3 + 2) q5 (by omega) q3 (by omega) q6
                  rw [g2] at B
                  rw [g1] at ey28
                  cases B
                  rw [ey28]
                  have fva : Fr (Va (a 96 3)) m66 a' := q8.mo fun x k q => by unfold Va; omega
                  have fvb : Fr (Vb (a 96 3)) m4 (mu m20 164 (3 * a 96 3 + 2) v) := (PM_vb q9).mu (Or.inr ⟨rfl, by omega, by omega⟩)
                  have e97 : a' 97 (a 96 3) = m66 97 (a 96 3) := q8 _ _ (by omega)
                  have e98 : a' 98 (a 96 3) = m66 98 (a 96 3) := q8 _ _ (by omega)
                  have e963 : a' 96 3 = m66 96 3 := q8 _ _ (by omega)
                  have f0 : (mu m20 164 (3 * a 96 3 + 2) v) 164 (3 * a 96 3) = m4 164 (3 * a 96 3) := by rw [mu_k (by omega), q9 _ _ (by unfold PM; omega)]
                  have f1 : (mu m20 164 (3 * a 96 3 + 2) v) 164 (3 * a 96 3 + 1) = m4 164 (3 * a 96 3 + 1) := by rw [mu_k (by omega), q9 _ _ (by unfold PM; omega)]
                  exact ⟨(Va_wa c0 k5).tr (Va_wa c0 fva), (Vb_wb c0 k6).tr (Vb_wb c0 fvb), Or.inr ⟨rfl, rfl, g3, ⟨by rw [e97, f0, k3, k4], by rw [q7, mu_s], Or.inl ⟨by rw [e97, k3, gw]; rfl, by rw [q7]; exact q3, by rw [q7, ← p6]; exact q4⟩⟩, k5.tr fva, k6.tr fvb, by rw [e98, k7], by rw [f1, k8], by rw [e963, k11]⟩⟩
            · omega
      · rcases A with ⟨-, A⟩ | ⟨e, -⟩
        · rcases A with ⟨e, -⟩ | ⟨-, v58, m56, r56, -, A⟩
          · exact absurd e g9
          · exact fin12 (Or.inl gw) v58 m56 (by rw [gw]; exact r56) A
        · exact absurd g8 e
      · rcases A with ⟨-, A⟩ | ⟨e, -⟩
        · rcases A with ⟨-, A⟩ | ⟨e, -⟩
          · rcases A with ⟨e, -⟩ | ⟨-, v58, m56, r56, -, A⟩
            · exact absurd e g10
            · exact fin12 (Or.inr gw) v58 m56 (by rw [gw]; exact r56) A
          · exact absurd g9 e
        · exact absurd g8 e
      · rcases A with ⟨-, A⟩ | ⟨e, -⟩
        · rcases A with ⟨-, A⟩ | ⟨e, -⟩
          · rcases A with ⟨-, A⟩ | ⟨e, -⟩
            · rcases A with ⟨e, -⟩ | ⟨-, v58, m56, r56, -, A⟩
              · exact absurd e g11
              · exact fin34 (Or.inl gw) v58 m56 (by rw [gw]; exact r56) A
            · exact absurd g10 e
          · exact absurd g9 e
        · exact absurd g8 e
      · rcases A with ⟨-, A⟩ | ⟨e, -⟩
        · rcases A with ⟨-, A⟩ | ⟨e, -⟩
          · rcases A with ⟨-, A⟩ | ⟨e, -⟩
            · rcases A with ⟨-, A⟩ | ⟨e, -⟩
              · rcases A with ⟨e, -⟩ | ⟨-, v58, m56, r56, -, A⟩
                · exact absurd e g12
                · exact fin34 (Or.inr gw) v58 m56 (by rw [gw]; exact r56) A
              · exact absurd g11 e
            · exact absurd g10 e
          · exact absurd g9 e
        · exact absurd g8 e
      · omega
    · exact absurd cw d
  · rcases B with ⟨d, -⟩ | ⟨-, y34, ey, B⟩
    · exact absurd d cw
    · rcases hL with ⟨g8, gw⟩ | ⟨g8, g9, gw⟩ | ⟨g8, g9, g10, gw⟩ | ⟨g8, g9, g10, g11, gw⟩ | ⟨g8, g9, g10, g11, g12, gw⟩ | ⟨g8, g9, g10, g11, g12, gw⟩
      · omega
      · omega
      · omega
      · omega
      · omega
      · rcases A with ⟨-, A⟩ | ⟨e, -⟩
        · rcases A with ⟨-, A⟩ | ⟨e, -⟩
          · rcases A with ⟨-, A⟩ | ⟨e, -⟩
            · rcases A with ⟨-, A⟩ | ⟨e, -⟩
              · rcases A with ⟨-, y36, ey36, A⟩ | ⟨e, -⟩
                · rw [f168_0] at B
                  cases B
                  have A : (ig, rl, a') = ((.ireturn, [(1, 0)], y36) : Instr × List (Nat × Int) × MM) := A
                  cases A
                  rw [ey, ey36]
                  exact ⟨PT_wa (Fr_158 _ _), PM_wb (Fr_168 _ _), Or.inl ⟨rfl, rfl, bad_ok p1 (by decide) (Or.inl rfl)⟩⟩
                · exact absurd g12 e
              · exact absurd g11 e
            · exact absurd g10 e
          · exact absurd g9 e
        · exact absurd g8 e
end
section
/-! A book's line, all of it. -/
set_option maxRecDepth 16384 in
theorem word_one {b : MM} {i j : Nat} (hi : i < 30) (hj : j < 30) (h1 : f217 b 148 (i : Int) ≠ 0) (h2 : f217 b 148 (j : Int) ≠ 0) : i = j := by
  have key : ∀ k : Nat, k < 30 → f217 b 148 (k : Int) ≠ 0 → b 148 12 = p27 (wl k) := fun k hk h => by
    unfold f217 at h
    rw [f291_w b k hk] at h
    by_cases c7 : b 148 7 = 2
    · by_cases e : b 148 12 = p27 (wl k)
      · exact e
      · by_cases d : p27 (wl k) < b 148 12
        · simp [c7, d] at h
        · simp [c7, d, e] at h
    · simp [c7] at h
  have e := (key i hi h1).symm.trans (key j hj h2)
  have w1 := wl_ok i hi
  have w2 := wl_ok j hj
  have N1 : NRel (p32 (wl i)) (p27 (wl i)) := ⟨_, w1.1, w1.2.1, w1.2.2, rfl, rfl⟩
  have N2 : NRel (p32 (wl j)) (p27 (wl j)) := ⟨_, w2.1, w2.2.1, w2.2.2, rfl, rfl⟩
  exact wl_inj _ _ hi hj (p32_inj _ _ w1.1 w2.1 ((NRel_iff N1 N2).mpr e))
set_option maxRecDepth 16384 in
theorem beginT {X : KO} {ρ : Nat → Int32} {t : Int → Int} {L : Int} {a m b : MM} {v act : Int} (h : BS X t L a b) (c0 : 0 ≤ a 96 3) (ra : Run X ρ 45 [(1, 96), (1, 1), (1, act)] a [(1, v)] m) : (40 ≤ a 96 3 ∧ v = 0 ∧ m = g158 a 1 4) ∨ (a 96 3 < 40 ∧ v = 1 ∧ Run X ρ 148 [(1, 1)] (mu (mu a 97 (a 96 3) (s32 act)) 99 (a 96 3) 0) [] m) := by
  obtain ⟨N, ig, ra⟩ := Run_CR ra rfl
  have ra : MR X ρ 3 0 0 qP45 N 0 [96, 1, act] [] a (ig, [(1, v)], m) := ra
  rcases k45_0 ra with ⟨c, -⟩ | ⟨-, A⟩
  · omega
  · rcases A with ⟨c, y9, e9, y10, e10, m12, r12, A⟩ | ⟨c, y, e, A⟩
    · cases A
      have x0 : a 96 0 = 97 := h.2.2.1.1
      have x2 : y9 96 2 = 99 := by rw [e9, x0, mu_a (by decide)]; exact h.2.2.1.2.2.1
      have x3 : y9 96 3 = a 96 3 := by rw [e9, x0, mu_a (by decide)]
      rw [x2, x3, e9, x0, s32_0] at e10
      rw [e10] at r12
      exact Or.inr ⟨c, rfl, r12⟩
    · have A : (ig, [(1, v)], m) = ((.ireturn, [(1, 0)], y) : Instr × List (Nat × Int) × MM) := A
      cases A
      exact Or.inl ⟨by omega, rfl, e⟩
set_option maxRecDepth 16384 in
/-- the line begun, on both sides -/
theorem headT {X : KO} {ρ : Nat → Int32} {t : Int → Int} {L : Int} {a m25 b : MM} {v act b1 b2 b3 b5 : Int} {M : Nat} {o : Instr × List (Nat × Int) × MM} (hX : XW X) (h : BS X t L a b) (c0 : 0 ≤ a 96 3) (c40 : a 96 3 ≤ 40) (e38 : b 148 38 = a 96 3) (hk : a 1 4 ≠ 4) (hact : (act = 5 ∧ b1 ≠ 0) ∨ (act = 6 ∧ b1 = 0 ∧ b2 ≠ 0) ∨ (act = 7 ∧ b1 = 0 ∧ b2 = 0)) (ra : Run X ρ 45 [(1, 96), (1, 1), (1, act)] a [(1, v)] m25) (rb : MR X ρ 6 0 0 qP241 M 86 [148, b1, b2, b3, 0, b5] [] b o) : (v = 0 ∧ FL m25 o.2.2 ∧ o.2.1 = [(1, 0)] ∧ Fr WA a m25 ∧ Fr WB b o.2.2) ∨ (v = 1 ∧ a 96 3 < 40 ∧ ∃ (m5 : MM) (M' : Nat), MR X ρ 6 0 0 qP241 M' 185 [148, b1, b2, b3, 0, 3 * a 96 3] [] m5 o ∧ BS X t L m25 m5 ∧ m25 97 (a 96 3) = act ∧ m5 164 (3 * a 96 3) = act ∧ m25 99 (a 96 3) = 0 ∧ m5 164 (3 * a 96 3 + 2) = 0 ∧ Fr (Va (a 96 3)) a m25 ∧ Fr (Vb (a 96 3)) b m5 ∧ m25 96 3 = a 96 3) := by
  have B := k241_86 rb
  rw [e38, h.2.2.2] at B
  rcases beginT h c0 ra with ⟨c, e1, e2⟩ | ⟨c, e1, r12⟩
  · rcases B with ⟨-, y, ey, B⟩ | ⟨d, -⟩
    · rw [f168_0] at B
      rw [B]
      refine Or.inl ⟨e1, ?_, rfl, ?_, ?_⟩
      · rw [e2, ey]; exact bad_ok h.1.1.2 (by decide) (Or.inr hk)
      · rw [e2]; exact PT_wa (Fr_158 _ _)
      · rw [ey]; exact PM_wb (Fr_168 _ _)
    · omega
  · rcases B with ⟨d, -⟩ | ⟨-, B⟩
    · omega
    · right
      have B : ∃ (M' : Nat), MR X ρ 6 0 0 qP241 M' 135 [148, b1, b2, b3, 0, 3 * a 96 3] [] (mu b 164 (3 * a 96 3) act) o := by
        have x3 : s32 (3 * a 96 3) = 3 * a 96 3 := s32_id (by omega) (by omega)
        have x5 : s32 5 = 5 := s32_id (by decide) (by decide)
        have x6 : s32 6 = 6 := s32_id (by decide) (by decide)
        have x7 : s32 7 = 7 := s32_id (by decide) (by decide)
        rw [x3, x5, x6, x7] at B
        rcases hact with ⟨q1, q2⟩ | ⟨q1, q2, q3⟩ | ⟨q1, q2, q3⟩
        · rcases B with ⟨d, -⟩ | ⟨-, y, ey, B⟩
          · exact absurd d q2
          · rw [q1, ← ey]; exact ⟨_, B⟩
        · rcases B with ⟨-, B⟩ | ⟨d, -⟩
          · rcases B with ⟨d, -⟩ | ⟨-, y, ey, B⟩
            · exact absurd d q3
            · rw [q1, ← ey]; exact ⟨_, B⟩
          · exact absurd q2 d
        · rcases B with ⟨-, B⟩ | ⟨d, -⟩
          · rcases B with ⟨-, y, ey, B⟩ | ⟨d, -⟩
            · rw [q1, ← ey]; exact ⟨_, B⟩
            · exact absurd q3 d
          · exact absurd q2 d
      obtain ⟨M1, B⟩ := B
      rcases k241_135 B with ⟨-, y2, e2, y3, e3, m5, r5, B⟩ | ⟨d, -⟩
      · have w36 : (mu b 164 (3 * a 96 3) act) 148 36 = 164 := by rw [mu_a (by decide)]; exact h.2.2.2
        have w36' : y2 148 36 = 164 := by rw [e2, w36, mu_a (by decide)]; exact w36
        rw [w36] at e2
        have x1 : s32 (3 * a 96 3 + 1) = 3 * a 96 3 + 1 := s32_id (by omega) (by omega)
        have x2 : s32 (3 * a 96 3 + 2) = 3 * a 96 3 + 2 := s32_id (by omega) (by omega)
        rw [x1, s32_0] at e2
        rw [w36', x2, s32_0, e2] at e3
        rw [e3] at r5
        have xa : s32 act = act := s32_id (by omega) (by omega)
        rw [xa] at r12
        have fy : Fr (fun x k => 97 ≤ x ∧ x ≤ 99 ∧ 0 ≤ k) a (mu (mu a 97 (a 96 3) act) 99 (a 96 3) 0) := ((Fr.rf _ _).mu ⟨by decide, by decide, c0⟩).mu ⟨by decide, by decide, c0⟩
        have fz : Fr (fun x k => (x = 164 ∧ 0 ≤ k) ∨ (x = 148 ∧ k = 13)) b (mu (mu (mu b 164 (3 * a 96 3) act) 164 (3 * a 96 3 + 1) 0) 164 (3 * a 96 3 + 2) 0) := (((Fr.rf _ _).mu (Or.inl ⟨rfl, by omega⟩)).mu (Or.inl ⟨rfl, by omega⟩)).mu (Or.inl ⟨rfl, by omega⟩)
        obtain ⟨s, f1, f2, fa, fb⟩ := stepT hX h fy fz r12 r5
        have fy2 : Fr (Va (a 96 3)) a (mu (mu a 97 (a 96 3) act) 99 (a 96 3) 0) := ((Fr.rf _ _).mu (Or.inr ⟨Or.inl rfl, rfl⟩)).mu (Or.inr ⟨Or.inr (Or.inr rfl), rfl⟩)
        have fz2 : Fr (Vb (a 96 3)) b (mu (mu (mu b 164 (3 * a 96 3) act) 164 (3 * a 96 3 + 1) 0) 164 (3 * a 96 3 + 2) 0) := (((Fr.rf _ _).mu (Or.inr ⟨rfl, by omega, by omega⟩)).mu (Or.inr ⟨rfl, by omega, by omega⟩)).mu (Or.inr ⟨rfl, by omega, by omega⟩)
        refine ⟨e1, c, m5, _, B, s, ?_, ?_, ?_, ?_, fy2.tr (f1.mo fun x k q => Or.inl ⟨q.1, q.2.1⟩), fz2.tr (f2.mo fun x k q => by unfold P195 at q; unfold Vb; omega), ?_⟩
        · rw [f1 _ _ (by unfold P148; omega), mu_a (by decide), mu_s]
        · rw [f2 _ _ (by unfold P195; omega), mu_k (by omega), mu_k (by omega), mu_s]
        · rw [f1 _ _ (by unfold P148; omega), mu_s]
        · rw [f2 _ _ (by unfold P195; omega), mu_s]
        · rw [f1 _ _ (by unfold P148; omega), mu_a (by decide), mu_a (by decide)]
      · exact absurd rfl d
set_option maxRecDepth 16384 in
/-- the line's end -/
theorem endT {X : KO} {ρ : Nat → Int32} {t : Int → Int} {L : Int} {a a' b b' : MM} {v w : Int} (hX : XW X) (h : BS X t L a b) (c0 : 0 ≤ a 96 3) (c1 : a 96 3 < 40) (ra : Run X ρ 46 [(1, 96), (1, 1)] a [(1, v)] a') (rb : Run X ρ 245 [(1, 148)] b [(1, w)] b') : Fr (fun x k => (x = 1 ∧ 3 ≤ k) ∨ (x = 96 ∧ k = 3)) a a' ∧ Fr PM b b' ∧ ((v = 0 ∧ w = 0 ∧ FL a' b') ∨ (v = 1 ∧ w = 1 ∧ BS X t L a' b' ∧ a' 96 3 = a 96 3 + 1)) := by
  obtain ⟨N, ig, ra⟩ := Run_CR ra rfl
  have ra : MR X ρ 2 0 0 qP46 N 0 [96, 1] [] a (ig, [(1, v)], a') := ra
  obtain ⟨y1, e1, v5, m3, r3, -, A⟩ := k46_0 ra
  cases A
  rw [s32_id (z := a 96 3 + 1) (by omega) (by omega)] at e1
  rw [e1] at r3
  have fy : Fr (fun x k => x = 96 ∧ k = 3) a (mu a 96 3 (a 96 3 + 1)) := (Fr.rf _ _).mu ⟨rfl, rfl⟩
  obtain ⟨⟨⟨p0, p1⟩, h9, h10⟩, hc, hl⟩ := h
  have s : TS X t L 400 (mu a 96 3 (a 96 3 + 1)) b := ⟨⟨PR0_fr p0 fy (Fr.rf (fun _ _ => False) _) (fun k q => by omega) (fun k q => by omega) (fun _ _ _ q => q) (fun _ q => q), TKR_fr p1 fy (Fr.rf (fun _ _ => False) _) (fun k q => by omega) (fun _ _ _ q => q)⟩, by rw [mu_a (by decide)]; exact h9, h10⟩
  obtain ⟨f1, f2, P⟩ := markT hX s r3 rb
  have fa : Fr (fun x k => (x = 1 ∧ 3 ≤ k) ∨ (x = 96 ∧ k = 3)) a a' := (fy.mo fun x k q => Or.inr q).tr (f1.mo fun x k q => Or.inl q)
  have fwa : Fr WA a a' := fa.mo fun x k q => by unfold WA; omega
  refine ⟨fa, f2, ?_⟩
  rcases P with ⟨q1, q2, q3⟩ | ⟨q1, q2, q3⟩
  · injection q1 with q1
    injection q1 with _ q1
    injection q2 with q2
    injection q2 with _ q2
    exact Or.inl ⟨q1, q2, q3⟩
  · injection q1 with q1
    injection q1 with _ q1
    injection q2 with q2
    injection q2 with _ q2
    refine Or.inr ⟨q1, q2, ⟨q3, C2_w hc fwa (PM_wb f2), BLay_w hl fwa (PM_wb f2)⟩, ?_⟩
    rw [f1 96 3 (by unfold PT; omega), mu_s]
set_option maxRecDepth 16384 in
/-- a line, alike and valid -/
def Lv (a b : MM) (i : Int) : Prop := a 97 i = b 164 (3 * i) ∧ a 98 i = b 164 (3 * i + 1) ∧ a 99 i = b 164 (3 * i + 2) ∧ (Is a (a 97 i) (a 98 i) (a 99 i) ∨ (a 97 i = 7 ∧ 1 ≤ a 98 i ∧ a 98 i ≤ 60))
set_option maxRecDepth 16384 in
def LR (X : KO) (t : Int → Int) (L : Int) (a a' b b' : MM) (rl rl' : List (Nat × Int)) : Prop := Fr WA a a' ∧ Fr WB b b' ∧ ((rl = [(1, 0)] ∧ rl' = [(1, 0)] ∧ FL a' b') ∨ (rl = [(1, 1)] ∧ rl' = [(1, 1)] ∧ a 96 3 < 40 ∧ BS X t L a' b' ∧ a' 96 3 = a 96 3 + 1 ∧ Lv a' b' (a 96 3) ∧ Fr (fun x k => Va (a 96 3) x k ∨ (x = 96 ∧ k = 3)) a a' ∧ Fr (Vb (a 96 3)) b b'))
end
section
/-! A book's line, by its first word. -/
set_option maxRecDepth 16384 in
theorem one_eq {v : Int} {w : Int} (h : [((1 : Nat), v)] = [(1, w)]) : v = w := by
  injection h with h
  injection h
set_option maxRecDepth 16384 in
theorem voidT {X : KO} {ρ : Nat → Int32} {t : Int → Int} {L : Int} {a m25 a' b b' : MM} {rl rl' : List (Nat × Int)} {v act b1 b2 b5 : Int} {M : Nat} {ig ig' : Instr} (hX : XW X) (h : BS X t L a b) (c0 : 0 ≤ a 96 3) (c40 : a 96 3 ≤ 40) (e38 : b 148 38 = a 96 3) (hk : a 1 4 ≠ 4) (hact : (act = 5 ∧ b1 ≠ 0) ∨ (act = 6 ∧ b1 = 0 ∧ b2 ≠ 0)) (ra : Run X ρ 45 [(1, 96), (1, 1), (1, act)] a [(1, v)] m25) (A : ((v = 0) ∧ ((ig, rl, a') = ((.ireturn, [(1, 0)], m25) : Instr × List (Nat × Int) × MM))) ∨ (¬ (v = 0) ∧ (∃ v68 m66, Run X ρ 52 [(1, 96), (1, 1), (1, 3), (1, m25 96 1)] m25 [(1, v68)] m66 ∧ (v68 = 0 ∨ v68 = 1) ∧ (((v68 = 0) ∧ ((ig, rl, a') = ((.ireturn, [(1, 0)], m66) : Instr × List (Nat × Int) × MM))) ∨ (¬ (v68 = 0) ∧ (∃ v73 m71, Run X ρ 46 [(1, 96), (1, 1)] m66 [(1, v73)] m71 ∧ (v73 = 0 ∨ v73 = 1) ∧ (((v73 = 0) ∧ ((ig, rl, a') = ((.ireturn, [(1, 0)], m71) : Instr × List (Nat × Int) × MM))) ∨ (¬ (v73 = 0) ∧ ((ig, rl, a') = ((.ireturn, [(1, 1)], m71) : Instr × List (Nat × Int) × MM))))))))))  (rb : MR X ρ 6 0 0 qP241 M 86 [148, b1, b2, 0, 0, b5] [] b (ig', rl', b')) : LR X t L a a' b b' rl rl' := by
  rcases headT hX h c0 c40 e38 hk (hact.elim Or.inl (fun q => Or.inr (Or.inl q))) ra rb with ⟨k1, k2, k3, k4, k5⟩ | ⟨k1, k2, m5, M', B, k3, k4, k5, k6, k7, k8, k9, k10⟩
  · rcases A with ⟨_, A⟩ | ⟨e, _⟩
    · cases A
      have k3 : rl' = [(1, 0)] := k3
      exact ⟨k4, k5, Or.inl ⟨rfl, k3, k2⟩⟩
    · exact absurd k1 e
  · rcases A with ⟨e, _⟩ | ⟨_, v68, m66, r68, -, A⟩
    · omega
    · rw [k3.2.2.1.2.1] at r68
      rcases k241_185 B with ⟨-, B⟩ | ⟨e, _⟩
      · rcases B with ⟨-, v6, m4, r4, -, y12, ey, B⟩ | ⟨e, _⟩
        · obtain ⟨fb, P⟩ := formT hX k3 (by rw [k10]; exact c0) (by rw [k10]; exact k2) (Or.inr (Or.inl rfl)) r68 r4
          rw [k10] at P
          have x1 : s32 (3 * a 96 3 + 1) = 3 * a 96 3 + 1 := s32_id (by omega) (by omega)
          rw [x1] at ey B
          have p7 : m25 3 7 = a 3 7 := k8 3 7 (by unfold Va; omega)
          rcases P with ⟨q1, q2, q3, q4⟩ | ⟨q1, q2, u, q3, q4, q5, q6, q7, q8, q9⟩
          · have q1 := one_eq q1
            rcases A with ⟨_, A⟩ | ⟨e, _⟩
            · cases A
              rw [q2] at ey B
              have ey : y12 = m4 := ey
              rcases B with ⟨_, B⟩ | ⟨e, _⟩
              · cases B
                rw [ey]
                exact ⟨(Va_wa c0 k8).tr q4, (Vb_wb c0 k9).tr fb, Or.inl ⟨rfl, rfl, q3⟩⟩
              · exact absurd rfl e
            · exact absurd q1 e
          · have q1 := one_eq q1
            rcases A with ⟨e, _⟩ | ⟨_, v73, m71, r73, -, A⟩
            · omega
            · rw [q2] at ey B
              have pp := h.2.1.1.2.1.f
              obtain ⟨g1, g2, g3⟩ := keepT (at_ := 3 * a 96 3 + 1) q5 (by omega) q3 (by omega) q6
              rw [g2] at B
              rw [g1] at ey
              rcases B with ⟨e, _⟩ | ⟨_, v17, m15, r17, -, B⟩
              · exact absurd e (by decide)
              · rw [ey] at r17
                have e963 : m66 96 3 = a 96 3 := by rw [q8 _ _ (by omega), k10]
                obtain ⟨fe, fe2, E⟩ := endT hX g3 (by rw [e963]; exact c0) (by rw [e963]; exact k2) r73 r17
                have fva : Fr (Va (a 96 3)) a m66 := k8.tr (q8.mo fun x k q => by unfold Va; omega)
                have fvb : Fr (Vb (a 96 3)) b (mu m4 164 (3 * a 96 3 + 1) u) := k9.tr ((PM_vb q9).mu (Or.inr ⟨rfl, by omega, by omega⟩))
                have fa2 : Fr (fun x k => Va (a 96 3) x k ∨ (x = 96 ∧ k = 3)) a m71 := (fva.mo fun x k q => Or.inl q).tr (fe.mo fun x k q => by unfold Va; omega)
                have fb2 : Fr (Vb (a 96 3)) b m15 := fvb.tr (PM_vb fe2)
                have fwa : Fr WA a m71 := fa2.mo fun x k q => by unfold Va at q; unfold WA; omega
                have fwb : Fr WB b m15 := Vb_wb c0 fb2
                rcases E with ⟨z1, z2, z3⟩ | ⟨z1, z2, z3, z4⟩
                · rcases A with ⟨_, A⟩ | ⟨e, _⟩
                  · cases A
                    rcases B with ⟨_, B⟩ | ⟨e, _⟩
                    · cases B
                      exact ⟨fwa, fwb, Or.inl ⟨rfl, rfl, z3⟩⟩
                    · exact absurd z2 e
                  · exact absurd z1 e
                · rcases A with ⟨e, _⟩ | ⟨_, A⟩
                  · omega
                  · cases A
                    rcases B with ⟨e, _⟩ | ⟨_, B⟩
                    · omega
                    · cases B
                      have t97 : a' 97 (a 96 3) = act := by rw [fe _ _ (by omega), q8 _ _ (by omega), k4]
                      have t98 : a' 98 (a 96 3) = u := by rw [fe _ _ (by omega), q7]
                      have t99 : a' 99 (a 96 3) = 0 := by rw [fe _ _ (by omega), q8 _ _ (by omega), k6]
                      have u0 : b' 164 (3 * a 96 3) = act := by rw [fe2 _ _ (by unfold PM; omega), mu_k (by omega), q9 _ _ (by unfold PM; omega), k5]
                      have u1 : b' 164 (3 * a 96 3 + 1) = u := by rw [fe2 _ _ (by unfold PM; omega), mu_s]
                      have u2 : b' 164 (3 * a 96 3 + 2) = 0 := by rw [fe2 _ _ (by unfold PM; omega), mu_k (by omega), q9 _ _ (by unfold PM; omega), k7]
                      have t37 : a' 3 7 = a 3 7 := fa2 3 7 (by unfold Va; omega)
                      refine ⟨fwa, fwb, Or.inr ⟨rfl, rfl, k2, z3, by rw [z4, e963], ⟨by rw [t97, u0], by rw [t98, u1], by rw [t99, u2], Or.inl ?_⟩, fa2, fb2⟩⟩
                      rw [t97, t98, t99]
                      exact Or.inr (Or.inr (Or.inr ⟨by omega, q3, by omega⟩))
        · exact absurd rfl e
      · exact absurd rfl e
set_option maxRecDepth 16384 in
theorem dayT {X : KO} {ρ : Nat → Int32} {t : Int → Int} {L : Int} {a m25 a' b b' : MM} {rl rl' : List (Nat × Int)} {v b3 b5 : Int} {M : Nat} {ig ig' : Instr} (hX : XW X) (h : BS X t L a b) (c0 : 0 ≤ a 96 3) (c40 : a 96 3 ≤ 40) (e38 : b 148 38 = a 96 3) (hk : a 1 4 ≠ 4) (h3 : b3 ≠ 0) (ra : Run X ρ 45 [(1, 96), (1, 1), (1, 7)] a [(1, v)] m25) (A : ((v = 0) ∧ ((ig, rl, a') = ((.ireturn, [(1, 0)], m25) : Instr × List (Nat × Int) × MM))) ∨ (¬ (v = 0) ∧ (∃ v68 m66, Run X ρ 50 [(1, 96), (1, 1)] m25 [(1, v68)] m66 ∧ (v68 = 0 ∨ v68 = 1) ∧ (((v68 = 0) ∧ ((ig, rl, a') = ((.ireturn, [(1, 0)], m66) : Instr × List (Nat × Int) × MM))) ∨ (¬ (v68 = 0) ∧ (∃ v73 m71, Run X ρ 46 [(1, 96), (1, 1)] m66 [(1, v73)] m71 ∧ (v73 = 0 ∨ v73 = 1) ∧ (((v73 = 0) ∧ ((ig, rl, a') = ((.ireturn, [(1, 0)], m71) : Instr × List (Nat × Int) × MM))) ∨ (¬ (v73 = 0) ∧ ((ig, rl, a') = ((.ireturn, [(1, 1)], m71) : Instr × List (Nat × Int) × MM))))))))))  (rb : MR X ρ 6 0 0 qP241 M 86 [148, 0, 0, b3, 0, b5] [] b (ig', rl', b')) : LR X t L a a' b b' rl rl' := by
  rcases headT hX h c0 c40 e38 hk (Or.inr (Or.inr ⟨rfl, rfl, rfl⟩)) ra rb with ⟨k1, k2, k3, k4, k5⟩ | ⟨k1, k2, m5, M', B, k3, k4, k5, k6, k7, k8, k9, k10⟩
  · rcases A with ⟨_, A⟩ | ⟨e, _⟩
    · cases A
      have k3 : rl' = [(1, 0)] := k3
      exact ⟨k4, k5, Or.inl ⟨rfl, k3, k2⟩⟩
    · exact absurd k1 e
  · rcases A with ⟨e, _⟩ | ⟨_, v68, m66, r68, -, A⟩
    · omega
    · rcases k241_185 B with ⟨-, B⟩ | ⟨e, _⟩
      · rcases B with ⟨e, _⟩ | ⟨-, v22, m4, r4, -, y12, ey, B⟩
        · exact absurd e h3
        · have x1 : s32 (3 * a 96 3 + 1) = 3 * a 96 3 + 1 := s32_id (by omega) (by omega)
          rw [x1] at ey B
          obtain ⟨N5, ig5, r68⟩ := Run_CR r68 rfl
          have r68 : MR X ρ 3 0 0 qP50 N5 0 [96, 1, 0] [] m25 (ig5, [(1, v68)], m66) := r68
          obtain ⟨y6, e6, C⟩ := k50_0 r68
          rcases numT (by decide) k3.1 r4 with ⟨q1, q2, q3, q4, q5⟩ | ⟨u, q1, q2, q3, q4, q5, q6, q7⟩
          · rcases C with ⟨_, C⟩ | ⟨e, _⟩
            · cases C
              have q2 := one_eq q2
              rcases A with ⟨_, A⟩ | ⟨e, _⟩
              · cases A
                rw [q2] at ey B
                have ey : y12 = m4 := ey
                rcases B with ⟨_, B⟩ | ⟨e, _⟩
                · cases B
                  rw [ey, e6]
                  exact ⟨(Va_wa c0 k8).tr (PT_wa q4), (Vb_wb c0 k9).tr (PM_wb q5), Or.inl ⟨rfl, rfl, q3⟩⟩
                · exact absurd rfl e
              · exact absurd rfl e
            · exact absurd q1 e
          · have q6 := one_eq q6
            rcases C with ⟨e, _⟩ | ⟨_, y13, e13, m15, r15, C⟩
            · omega
            · cases C
              rcases A with ⟨e, _⟩ | ⟨_, v73, m71, r73, -, A⟩
              · exact absurd e (by decide)
              · rw [e6, q5, q1, k3.2.2.1.2.1, g48_ok (Or.inr (Or.inl rfl)) k3.2.2.1.2.2.2.2.1 (by rw [k10]; exact c0) (by rw [k10]; exact k2), s32_id (z := u) (by omega) (by omega), k10] at e13
                rw [e13] at r15
                have fy : Fr (fun x k => 97 ≤ x ∧ x ≤ 99 ∧ 0 ≤ k) m25 (mu m25 98 (a 96 3) u) := (Fr.rf _ _).mu ⟨by decide, by decide, c0⟩
                have fz : Fr (fun x k => (x = 164 ∧ 0 ≤ k) ∨ (x = 148 ∧ k = 13)) m5 (mu m5 148 13 u) := (Fr.rf _ _).mu (Or.inr ⟨rfl, rfl⟩)
                obtain ⟨s, f1, f2, -, -⟩ := stepT hX k3 fy fz r15 q7
                have e13' : m4 148 13 = u := by rw [f2 _ _ (by unfold P195; omega), mu_s]
                rw [q6] at ey B
                obtain ⟨g1, g2, g3⟩ := keepT (at_ := 3 * a 96 3 + 1) s (by omega) (by omega) (by omega) e13'
                rw [g2] at B
                rw [g1] at ey
                rcases B with ⟨e, _⟩ | ⟨_, v33, m31, r33, -, B⟩
                · exact absurd e (by decide)
                · rw [ey] at r33
                  have e963 : m66 96 3 = a 96 3 := by rw [f1 _ _ (by unfold P148; omega), mu_a (by decide), k10]
                  obtain ⟨fe, fe2, E⟩ := endT hX g3 (by rw [e963]; exact c0) (by rw [e963]; exact k2) r73 r33
                  have fy2 : Fr (Va (a 96 3)) m25 (mu m25 98 (a 96 3) u) := (Fr.rf _ _).mu (Or.inr ⟨Or.inr (Or.inl rfl), rfl⟩)
                  have fva : Fr (Va (a 96 3)) a m66 := k8.tr (fy2.tr (f1.mo fun x k q => Or.inl ⟨q.1, q.2.1⟩))
                  have fpm : Fr PM m5 m4 := ((Fr.rf _ _).mu ⟨rfl, by decide, by decide⟩).tr f2.PM
                  have fvb : Fr (Vb (a 96 3)) b (mu m4 164 (3 * a 96 3 + 1) u) := k9.tr ((PM_vb fpm).mu (Or.inr ⟨rfl, by omega, by omega⟩))
                  have fa2 : Fr (fun x k => Va (a 96 3) x k ∨ (x = 96 ∧ k = 3)) a m71 := (fva.mo fun x k q => Or.inl q).tr (fe.mo fun x k q => by unfold Va; omega)
                  have fb2 : Fr (Vb (a 96 3)) b m31 := fvb.tr (PM_vb fe2)
                  have fwa : Fr WA a m71 := fa2.mo fun x k q => by unfold Va at q; unfold WA; omega
                  have fwb : Fr WB b m31 := Vb_wb c0 fb2
                  rcases E with ⟨z1, z2, z3⟩ | ⟨z1, z2, z3, z4⟩
                  · rcases A with ⟨_, A⟩ | ⟨e, _⟩
                    · cases A
                      rcases B with ⟨_, B⟩ | ⟨e, _⟩
                      · cases B
                        exact ⟨fwa, fwb, Or.inl ⟨rfl, rfl, z3⟩⟩
                      · exact absurd z2 e
                    · exact absurd z1 e
                  · rcases A with ⟨e, _⟩ | ⟨_, A⟩
                    · omega
                    · cases A
                      rcases B with ⟨e, _⟩ | ⟨_, B⟩
                      · omega
                      · cases B
                        have t97 : a' 97 (a 96 3) = 7 := by rw [fe _ _ (by omega), f1 _ _ (by unfold P148; omega), mu_a (by decide), k4]
                        have t98 : a' 98 (a 96 3) = u := by rw [fe _ _ (by omega), f1 _ _ (by unfold P148; omega), mu_s]
                        have t99 : a' 99 (a 96 3) = 0 := by rw [fe _ _ (by omega), f1 _ _ (by unfold P148; omega), mu_a (by decide), k6]
                        have u0 : b' 164 (3 * a 96 3) = 7 := by rw [fe2 _ _ (by unfold PM; omega), mu_k (by omega), fpm _ _ (by unfold PM; omega), k5]
                        have u1 : b' 164 (3 * a 96 3 + 1) = u := by rw [fe2 _ _ (by unfold PM; omega), mu_s]
                        have u2 : b' 164 (3 * a 96 3 + 2) = 0 := by rw [fe2 _ _ (by unfold PM; omega), mu_k (by omega), fpm _ _ (by unfold PM; omega), k7]
                        exact ⟨fwa, fwb, Or.inr ⟨rfl, rfl, k2, z3, by rw [z4, e963], ⟨by rw [t97, u0], by rw [t98, u1], by rw [t99, u2], Or.inr ⟨t97, by omega, by omega⟩⟩, fa2, fb2⟩⟩
      · exact absurd rfl e
end
section
/-! A book's line that a person begins; every line. -/
set_option maxRecDepth 16384 in
theorem keepA {X : KO} {t : Int → Int} {L : Int} {a b : MM} {n v : Int} (h : BS X t L a b) (n0 : 0 ≤ n) : BS X t L (mu a 98 n v) b := by
  have fy : Fr (fun x k => x = 98 ∧ 0 ≤ k) a (mu a 98 n v) := (Fr.rf _ _).mu ⟨rfl, n0⟩
  have fwa : Fr WA a (mu a 98 n v) := fy.mo fun x k q => by unfold WA; omega
  obtain ⟨⟨⟨p0, p1⟩, h9, h10⟩, hc, hl⟩ := h
  exact ⟨⟨⟨PR0_fr p0 fy (Fr.rf (fun _ _ => False) _) (fun k q => by omega) (fun k q => by omega) (fun _ _ _ q => q) (fun _ q => q), TKR_fr p1 fy (Fr.rf (fun _ _ => False) _) (fun k q => by omega) (fun _ _ _ q => q)⟩, by rw [mu_a (by decide)]; exact h9, h10⟩, C2_w hc fwa (Fr.rf _ _), BLay_w hl fwa (Fr.rf _ _)⟩
set_option maxRecDepth 16384 in
theorem deedLine {X : KO} {ρ : Nat → Int32} {t : Int → Int} {L : Int} {a m25 a' b m14 b' : MM} {rl rl' : List (Nat × Int)} {v M : Nat} {u : Int} {ig ig' : Instr} (hX : XW X) (hS : XS X) (c0 : 0 ≤ a 96 3) (k2 : a 96 3 < 40) (h : BS X t L m25 m14) (e3 : m25 96 3 = a 96 3) (u0 : 0 ≤ u) (u1 : u < a 3 6) (z99 : m25 99 (a 96 3) = 0) (z1 : m14 164 (3 * a 96 3 + 1) = u) (z2 : m14 164 (3 * a 96 3 + 2) = 0) (fa : Fr (Va (a 96 3)) a m25) (fb : Fr (Vb (a 96 3)) b m14) (A : ∃ y34, y34 = g48 m25 96 (m25 96 1) u ∧ (∃ v38 m36, Run X ρ 51 [(1, 96), (1, 1), (1, 3)] y34 [(1, v38)] m36 ∧ (v38 = 0 ∨ v38 = 1) ∧ (((v38 = 0) ∧ ((ig, rl, a') = ((.ireturn, [(1, 0)], m36) : Instr × List (Nat × Int) × MM))) ∨ (¬ (v38 = 0) ∧ (∃ v43 m41, Run X ρ 46 [(1, 96), (1, 1)] m36 [(1, v43)] m41 ∧ (v43 = 0 ∨ v43 = 1) ∧ (((v43 = 0) ∧ ((ig, rl, a') = ((.ireturn, [(1, 0)], m41) : Instr × List (Nat × Int) × MM))) ∨ (¬ (v43 = 0) ∧ ((ig, rl, a') = ((.ireturn, [(1, 1)], m41) : Instr × List (Nat × Int) × MM))))))))) (rb : MR X ρ 6 0 0 qP241 M 185 [148, 0, 0, 0, 1, 3 * a 96 3] [] m14 (ig', rl', b')) : LR X t L a a' b b' rl rl' := by
  obtain ⟨y34, e34, v38, m36, r36, -, A⟩ := A
  rw [h.2.2.1.2.1, g48_ok (Or.inr (Or.inl rfl)) h.2.2.1.2.2.2.2.1 (by rw [e3]; exact c0) (by rw [e3]; exact k2), e3] at e34
  have pp : a 3 6 ≤ 8 := by
    have := h.2.1.1.2.1.p
    rw [fa 3 6 (by unfold Va; omega)] at this
    exact this.2.2
  rw [s32_id (z := u) (by omega) (by omega)] at e34
  have h2 := keepA (n := a 96 3) (v := u) h c0
  rw [← e34] at h2
  have f98 : Fr (Va (a 96 3)) m25 y34 := by rw [e34]; exact (Fr.rf _ _).mu (Or.inr ⟨Or.inr (Or.inl rfl), rfl⟩)
  have e34n : y34 96 3 = a 96 3 := by rw [e34, mu_a (by decide)]; exact e3
  rcases k241_185 rb with ⟨e, _⟩ | ⟨-, v38', m36', r36', -, B⟩
  · exact absurd e (by decide)
  · rw [← e34n] at r36'
    obtain ⟨fwa, fwb, D⟩ := deedT hX hS h2 (by rw [e34n]; exact c0) (by rw [e34n]; exact k2) (by rw [e34n, e34, mu_a (by decide)]; exact z99) (by rw [e34n]; exact z2) r36 r36'
    rw [e34n] at D
    have fwa0 : Fr WA a y34 := (Va_wa c0 fa).tr (Va_wa c0 f98)
    rcases D with ⟨q1, q2, q3⟩ | ⟨q1, q2, q3, q4, q5, q6, q7, q8, q9⟩
    · have q1 := one_eq q1
      rcases A with ⟨_, A⟩ | ⟨e, _⟩
      · cases A
        rcases B with ⟨_, B⟩ | ⟨e, _⟩
        · cases B
          exact ⟨fwa0.tr fwa, (Vb_wb c0 fb).tr fwb, Or.inl ⟨rfl, rfl, q3⟩⟩
        · exact absurd q2 e
      · exact absurd q1 e
    · have q1 := one_eq q1
      rcases A with ⟨e, _⟩ | ⟨_, v43, m41, r41, -, A⟩
      · omega
      · rcases B with ⟨e, _⟩ | ⟨_, v43', m41', r41', -, B⟩
        · omega
        · obtain ⟨fe, fe2, E⟩ := endT hX q3 (by rw [q9]; exact c0) (by rw [q9]; exact k2) r41 r41'
          have fva : Fr (Va (a 96 3)) a m36 := fa.tr (f98.tr q5)
          have fvb : Fr (Vb (a 96 3)) b m36' := fb.tr q6
          have fa2 : Fr (fun x k => Va (a 96 3) x k ∨ (x = 96 ∧ k = 3)) a m41 := (fva.mo fun x k q => Or.inl q).tr (fe.mo fun x k q => by unfold Va; omega)
          have fb2 : Fr (Vb (a 96 3)) b m41' := fvb.tr (PM_vb fe2)
          have fwa2 : Fr WA a m41 := fa2.mo fun x k q => by unfold Va at q; unfold WA; omega
          have fwb2 : Fr WB b m41' := Vb_wb c0 fb2
          rcases E with ⟨z1', z2', z3'⟩ | ⟨z1', z2', z3', z4'⟩
          · rcases A with ⟨_, A⟩ | ⟨e, _⟩
            · cases A
              rcases B with ⟨_, B⟩ | ⟨e, _⟩
              · cases B
                exact ⟨fwa2, fwb2, Or.inl ⟨rfl, rfl, z3'⟩⟩
              · exact absurd z2' e
            · exact absurd z1' e
          · rcases A with ⟨e, _⟩ | ⟨_, A⟩
            · omega
            · cases A
              rcases B with ⟨e, _⟩ | ⟨_, B⟩
              · omega
              · cases B
                obtain ⟨d1, d2, d3⟩ := q4
                have t97 : a' 97 (a 96 3) = m36 97 (a 96 3) := fe _ _ (by omega)
                have t98 : a' 98 (a 96 3) = u := by rw [fe _ _ (by omega), q7, e34, mu_s]
                have t99 : a' 99 (a 96 3) = m36 99 (a 96 3) := fe _ _ (by omega)
                have u0' : b' 164 (3 * a 96 3) = m36' 164 (3 * a 96 3) := fe2 _ _ (by unfold PM; omega)
                have u1' : b' 164 (3 * a 96 3 + 1) = u := by rw [fe2 _ _ (by unfold PM; omega), q8, z1]
                have u2' : b' 164 (3 * a 96 3 + 2) = m36' 164 (3 * a 96 3 + 2) := fe2 _ _ (by unfold PM; omega)
                have p6 : a' 3 6 = a 3 6 := fa2 3 6 (by unfold Va; omega)
                have p7 : a' 3 7 = a 3 7 := fa2 3 7 (by unfold Va; omega)
                have p6' : y34 3 6 = a 3 6 := by rw [e34, mu_a (by decide)]; exact fa 3 6 (by unfold Va; omega)
                have p7' : y34 3 7 = a 3 7 := by rw [e34, mu_a (by decide)]; exact fa 3 7 (by unfold Va; omega)
                rw [p6', p7'] at d3
                refine ⟨fwa2, fwb2, Or.inr ⟨rfl, rfl, k2, z3', by rw [z4', q9], ⟨by rw [t97, u0']; exact d1, by rw [t98, u1'], by rw [t99, u2']; exact d2, Or.inl ?_⟩, fa2, fb2⟩⟩
                rw [t97, t98, t99]
                unfold Is
                rw [p6, p7]
                rcases d3 with ⟨w1, w2, w3⟩ | ⟨w1, w2, w3⟩ | w1
                · exact Or.inl ⟨w1, u0, u1, w2, w3⟩
                · exact Or.inr (Or.inl ⟨w1, u0, u1, w2, w3⟩)
                · exact Or.inr (Or.inr (Or.inl ⟨w1, u0, u1⟩))
set_option maxRecDepth 16384 in
theorem lineT {X : KO} {ρ : Nat → Int32} {t : Int → Int} {L : Int} {a a' b b' : MM} {rl rl' : List (Nat × Int)} (hX : XW X) (hS : XS X) (h : BS X t L a b) (c0 : 0 ≤ a 96 3) (c40 : a 96 3 ≤ 40) (e38 : b 148 38 = a 96 3) (ra : Run X ρ 53 [(1, 96), (1, 1), (1, 3)] a rl a') (rb : Run X ρ 241 [(1, 148)] b rl' b') : LR X t L a a' b b' rl rl' := by
  have p1 := h.1.1.2
  obtain ⟨N, ig, ra⟩ := Run_CR ra rfl
  have ra : MR X ρ 4 0 0 qP53 N 0 [96, 1, 3, 0] [] a (ig, rl, a') := ra
  obtain ⟨M, ig', rb⟩ := Run_CR rb rfl
  have rb : MR X ρ 6 0 0 qP241 M 0 [148, 0, 0, 0, 0, 0] [] b (ig', rl', b') := rb
  have A := k53_0 ra
  have B := k241_0 rb
  have w13 : f155 X a 1 1000006 = f217 b 148 13 := word_ok hS p1 (s := 5) (by decide)
  have w14 : f155 X a 1 1000007 = f217 b 148 14 := word_ok hS p1 (s := 6) (by decide)
  have w15 : f155 X a 1 1000008 = f217 b 148 15 := word_ok hS p1 (s := 7) (by decide)
  have kw : ∀ s, ¬ f155 X a 1 s = 0 → a 1 4 ≠ 4 := fun s q => by have := word_kind q; omega
  have o13 : f217 b 148 13 ≠ 0 → f217 b 148 14 = 0 ∧ f217 b 148 15 = 0 := fun q => ⟨Classical.byContradiction fun q2 => absurd (word_one (i := 13) (j := 14) (by decide) (by decide) q q2) (by decide), Classical.byContradiction fun q2 => absurd (word_one (i := 13) (j := 15) (by decide) (by decide) q q2) (by decide)⟩
  have o14 : f217 b 148 14 ≠ 0 → f217 b 148 15 = 0 := fun q => Classical.byContradiction fun q2 => absurd (word_one (i := 14) (j := 15) (by decide) (by decide) q q2) (by decide)
  by_cases g13 : f217 b 148 13 = 0
  · rcases A with ⟨-, A⟩ | ⟨e, _⟩
    · rcases B with ⟨-, B⟩ | ⟨e, _⟩
      · by_cases g14 : f217 b 148 14 = 0
        · rcases A with ⟨-, A⟩ | ⟨e, _⟩
          · rcases B with ⟨-, B⟩ | ⟨e, _⟩
            · by_cases g15 : f217 b 148 15 = 0
              · -- a person
                rcases A with ⟨-, v22, m20, r20, A⟩ | ⟨e, _⟩
                · rcases B with ⟨-, B⟩ | ⟨e, _⟩
                  · rw [g13, g14, g15] at B
                    have hC := h.2.1
                    have hp := hC.1.2.1.p
                    have K := lookP (hC.1.2.1.1.1.1) hp.2.1 hp.2.2 r20
                    rcases k241_40 B with ⟨e, _⟩ | ⟨-, v5, m3, r3, -, B⟩
                    · exact absurd e (by decide)
                    · obtain ⟨s1, s2, s3, s4⟩ := name_ok p1 r3
                      have s1 := one_eq s1
                      have s2 := s2.symm
                      subst s2
                      rcases B with ⟨e5, y, ey, B⟩ | ⟨e5, v10, m8, r8, B⟩
                      · rw [f168_0] at B
                        cases B
                        rcases K with ⟨x1, x2, x3⟩ | ⟨x1, -⟩ | ⟨x1, -⟩
                        · have x2 := one_eq x2
                          rcases A with ⟨_, A⟩ | ⟨e, _⟩
                          · cases A
                            rw [x3, ey]
                            exact ⟨PT_wa (Fr_158 _ _), PM_wb (Fr_168 _ _), Or.inl ⟨rfl, rfl, bad_ok p1 (by decide) (Or.inl rfl)⟩⟩
                          · exact absurd x2 e
                        · omega
                        · omega
                      · have hn : f153 a 1 = 1 := (i153 a).resolve_left (by omega)
                        rw [hC.2.2.2.1.2.1, hC.1.2.1.bn, ← hp.1] at r8
                        obtain ⟨g4, w', g5, g6⟩ := B190 (by decide) (by decide) hp.2.1 hp.2.2 r8
                        have g5 := one_eq g5
                        have g4 := g4.symm
                        subst g4
                        have hrel : ∀ k, 0 ≤ k → k < a 3 6 → (a 4 k = a 1 7 ↔ b 155 (0 + k) = b 148 12) := fun k k0 k1 => NRel_iff (hC.2.1.1 k k0 k1) (s4 hn)
                        rcases K with ⟨x1, -⟩ | ⟨-, x2, x3, x4⟩ | ⟨-, u, x2, x3, xn, x4, x5, x6⟩
                        · omega
                        · have x2 := one_eq x2
                          have ev := Fnd_u hrel x4 g6
                          rcases A with ⟨_, A⟩ | ⟨e, _⟩
                          · cases A
                            rcases B with ⟨_, y, ey, B⟩ | ⟨e, _⟩
                            · rw [f168_0] at B
                              cases B
                              rw [x3, ey]
                              exact ⟨PT_wa (Fr_158 _ _), PM_wb (Fr_168 _ _), Or.inl ⟨rfl, rfl, bad_ok p1 (by decide) (Or.inr (name_kind hn))⟩⟩
                            · omega
                          · exact absurd x2 e
                        · have x2 := one_eq x2
                          have ev := Fnd_u hrel x6 g6
                          rcases A with ⟨e, _⟩ | ⟨_, v27, m25, r25, -, A⟩
                          · omega
                          · rcases B with ⟨e, _⟩ | ⟨_, B⟩
                            · omega
                            · rw [x3] at r25
                              have B := k241_86 B
                              rw [e38, h.2.2.2] at B
                              rcases beginT h c0 r25 with ⟨c, e1, e2⟩ | ⟨c, e1, r12⟩
                              · rcases B with ⟨-, y, ey, B⟩ | ⟨d, _⟩
                                · rw [f168_0] at B
                                  cases B
                                  rcases A with ⟨_, A⟩ | ⟨e, _⟩
                                  · cases A
                                    rw [e2, ey]
                                    exact ⟨PT_wa (Fr_158 _ _), PM_wb (Fr_168 _ _), Or.inl ⟨rfl, rfl, bad_ok p1 (by decide) (Or.inr (name_kind hn))⟩⟩
                                  · exact absurd e1 e
                                · omega
                              · rcases B with ⟨d, _⟩ | ⟨-, B⟩
                                · omega
                                · rcases B with ⟨-, B⟩ | ⟨d, _⟩
                                  · rcases B with ⟨-, y4, ey4, B⟩ | ⟨d, _⟩
                                    · have x7 : s32 (3 * a 96 3) = 3 * a 96 3 := s32_id (by omega) (by omega)
                                      have x7' : s32 7 = 7 := s32_id (by decide) (by decide)
                                      rw [x7] at B
                                      rw [x7, x7'] at ey4
                                      have f4 : ∀ k, y4 148 k = b 148 k := fun k => by rw [ey4, mu_a (by decide)]
                                      have f4' : ∀ x k, x ≠ 164 → y4 x k = b x k := fun x k q => by rw [ey4, mu_a q]
                                      rcases k241_135 B with ⟨e, _⟩ | ⟨-, v10', m8', r8', y11, ey11, y12, ey12, m14, r14, B⟩
                                      · exact absurd e (by decide)
                                      · rw [f4 19, f4 14, f4 12, hC.2.2.2.1.2.1, hC.1.2.1.bn, f4' 150 0 (by decide), ← hp.1] at r8'
                                        obtain ⟨g4', w2, g5', g6'⟩ := B190 (by decide) (by decide) hp.2.1 hp.2.2 r8'
                                        have g5' := one_eq g5'
                                        have g6'' : Fnd (fun k => b 155 (0 + k)) (a 3 6) (b 148 12) w2 := by
                                          have e : (fun k => y4 155 (0 + k)) = (fun k => b 155 (0 + k)) := funext fun k => f4' 155 _ (by decide)
                                          rw [e] at g6'
                                          exact g6'
                                        have ew : u = w2 := Fnd_u hrel x6 g6''
                                        rw [g4', f4 36, h.2.2.2, g5', ← ew, s32_id (z := u) (by omega) (by omega), s32_id (z := 3 * a 96 3 + 1) (by omega) (by omega)] at ey11
                                        have w36 : y11 148 36 = 164 := by rw [ey11, mu_a (by decide), f4 36]; exact h.2.2.2
                                        rw [w36, s32_0, s32_id (z := 3 * a 96 3 + 2) (by omega) (by omega)] at ey12
                                        rcases A with ⟨e, _⟩ | ⟨_, A⟩
                                        · omega
                                        · have fy : Fr (fun x k => 97 ≤ x ∧ x ≤ 99 ∧ 0 ≤ k) a (mu (mu a 97 (a 96 3) (s32 (-1))) 99 (a 96 3) 0) := ((Fr.rf _ _).mu ⟨by decide, by decide, c0⟩).mu ⟨by decide, by decide, c0⟩
                                          have fz : Fr (fun x k => (x = 164 ∧ 0 ≤ k) ∨ (x = 148 ∧ k = 13)) b y12 := by
                                            rw [ey12, ey11, ey4]
                                            exact (((Fr.rf _ _).mu (Or.inl ⟨rfl, by omega⟩)).mu (Or.inl ⟨rfl, by omega⟩)).mu (Or.inl ⟨rfl, by omega⟩)
                                          obtain ⟨s, f1, f2, -, -⟩ := stepT hX h fy fz r12 r14
                                          have fy2 : Fr (Va (a 96 3)) a (mu (mu a 97 (a 96 3) (s32 (-1))) 99 (a 96 3) 0) := ((Fr.rf _ _).mu (Or.inr ⟨Or.inl rfl, rfl⟩)).mu (Or.inr ⟨Or.inr (Or.inr rfl), rfl⟩)
                                          have fz2 : Fr (Vb (a 96 3)) b y12 := by
                                            rw [ey12, ey11, ey4]
                                            exact (((Fr.rf _ _).mu (Or.inr ⟨rfl, by omega, by omega⟩)).mu (Or.inr ⟨rfl, by omega, by omega⟩)).mu (Or.inr ⟨rfl, by omega, by omega⟩)
                                          have t3 : m25 96 3 = a 96 3 := by rw [f1 _ _ (by unfold P148; omega), mu_a (by decide), mu_a (by decide)]
                                          have t99 : m25 99 (a 96 3) = 0 := by rw [f1 _ _ (by unfold P148; omega), mu_s]
                                          have t1 : m14 164 (3 * a 96 3 + 1) = u := by rw [f2 _ _ (by unfold P195; omega), ey12, mu_k (by omega), ey11, mu_s]
                                          have t2 : m14 164 (3 * a 96 3 + 2) = 0 := by rw [f2 _ _ (by unfold P195; omega), ey12, mu_s]
                                          rw [x2] at A
                                          exact deedLine (v := 0) hX hS c0 c s t3 x4 x5 t99 t1 t2 (fy2.tr (f1.mo fun x k q => Or.inl ⟨q.1, q.2.1⟩)) (fz2.tr (f2.mo fun x k q => by unfold P195 at q; unfold Vb; omega)) A B
                                    · exact absurd rfl d
                                  · exact absurd rfl d
                  · exact absurd g15 e
                · rw [w15] at e; exact absurd g15 e
              · rcases A with ⟨e, _⟩ | ⟨e, v48, m46, r46, -, A⟩
                · rw [w15] at e; exact absurd e g15
                · rcases B with ⟨e', _⟩ | ⟨-, B⟩
                  · exact absurd e' g15
                  · rw [g13, g14] at B
                    rcases k241_40 B with ⟨-, B⟩ | ⟨e', _⟩
                    · exact dayT hX h c0 c40 e38 (kw _ e) g15 r46 A B
                    · exact absurd rfl e'
            · exact absurd g14 e
          · rw [w14] at e; exact absurd g14 e
        · rcases A with ⟨e, _⟩ | ⟨e, v48, m46, r46, -, A⟩
          · rw [w14] at e; exact absurd e g14
          · rcases B with ⟨e', _⟩ | ⟨-, B⟩
            · exact absurd e' g14
            · rw [g13, o14 g14] at B
              rcases k241_40 B with ⟨-, B⟩ | ⟨e', _⟩
              · exact voidT hX h c0 c40 e38 (kw _ e) (Or.inr ⟨rfl, rfl, g14⟩) r46 A B
              · exact absurd rfl e'
      · exact absurd g13 e
    · rw [w13] at e; exact absurd g13 e
  · rcases A with ⟨e, _⟩ | ⟨e, v48, m46, r46, -, A⟩
    · rw [w13] at e; exact absurd e g13
    · rcases B with ⟨e', _⟩ | ⟨-, B⟩
      · exact absurd e' g13
      · rw [(o13 g13).2] at B
        rcases k241_40 B with ⟨-, B⟩ | ⟨e', _⟩
        · exact voidT hX h c0 c40 e38 (kw _ e) (Or.inl ⟨rfl, g13⟩) r46 A B
        · exact absurd rfl e'
end
section
/-! A book read. -/
set_option maxRecDepth 16384 in
def Wb (x k : Int) : Prop := WB x k ∨ (x = 148 ∧ k = 38)
set_option maxRecDepth 16384 in
theorem C2_wb {a a' b b' : MM} (h : C2 a b) (fa : Fr WA a a') (fb : Fr Wb b b') : C2 a' b' := C2_fr h (fun x k q => fa x k (by unfold PCs at q; unfold WA; omega)) (fun x k q => fb x k (by unfold PJs at q; unfold Wb WB; omega))
set_option maxRecDepth 16384 in
theorem BS_38 {X : KO} {t : Int → Int} {L : Int} {a b : MM} (h : BS X t L a b) (v : Int) : BS X t L a (mu b 148 38 v) := by
  have fz : Fr (fun x k => x = 148 ∧ k = 38) b (mu b 148 38 v) := (Fr.rf _ _).mu ⟨rfl, rfl⟩
  obtain ⟨⟨⟨p0, p1⟩, h9, h10⟩, hc, hl1, hl2⟩ := h
  exact ⟨⟨⟨PR0_fr p0 (Fr.rf (fun _ _ => False) _) fz (fun _ q => q) (fun _ q => q) (fun k _ _ q => by omega) (fun k q => by omega), TKR_fr p1 (Fr.rf (fun _ _ => False) _) fz (fun _ q => q) (fun k _ _ q => by omega)⟩, h9, by rw [mu_k (by decide)]; exact h10⟩, C2_wb hc (Fr.rf _ _) (fz.mo fun x k q => Or.inr q), hl1, by rw [mu_k (by decide)]; exact hl2⟩
set_option maxRecDepth 16384 in
theorem Lv_fr {a a' b b' : MM} {n i : Int} (h : Lv a b i) (i0 : 0 ≤ i) (hi : i < n) (fa : Fr (fun x k => Va n x k ∨ (x = 96 ∧ k = 3)) a a') (fb : Fr (fun x k => Vb n x k ∨ (x = 148 ∧ k = 38)) b b') : Lv a' b' i := by
  obtain ⟨h1, h2, h3, h4⟩ := h
  unfold Lv
  rw [fa 97 i (by unfold Va; omega), fa 98 i (by unfold Va; omega), fa 99 i (by unfold Va; omega), fb _ (3 * i) (by unfold Vb; omega), fb _ (3 * i + 1) (by unfold Vb; omega), fb _ (3 * i + 2) (by unfold Vb; omega)]
  refine ⟨h1, h2, h3, ?_⟩
  unfold Is at *
  rw [fa 3 6 (by unfold Va; omega), fa 3 7 (by unfold Va; omega)]
  exact h4
set_option maxRecDepth 16384 in
/-- where the reading ends -/
def RE (X : KO) (ρ : Nat → Int32) (t : Int → Int) (L lv : Int) (a a' b : MM) (o : Instr × List (Nat × Int) × MM) : Prop := Fr WA a a' ∧ ((FL a' o.2.2 ∧ o.2.1 = [(1, s32 (-2 - o.2.2 148 11))] ∧ Fr Wb b o.2.2) ∨ (∃ (M' : Nat) (b' : MM), BS X t L a' b' ∧ a' 96 3 = b' 148 38 ∧ 0 ≤ a' 96 3 ∧ a' 96 3 ≤ 40 ∧ (∀ i, 0 ≤ i → i < a' 96 3 → Lv a' b' i) ∧ MR X ρ 4 0 0 qP171 M' 73 [148, lv, 0, 0] [] (g219 b' 148) o ∧ Fr Wb b b'))
set_option maxRecDepth 16384 in
theorem loopT {X : KO} {ρ : Nat → Int32} {t : Int → Int} {L lv : Int} {a' : MM} {rl : List (Nat × Int)} {ig : Instr} {o : Instr × List (Nat × Int) × MM} (hX : XW X) (hS : XS X) : ∀ (K N M : Nat) (n : Int) (a b : MM), BS X t L a b → a 96 3 = n → b 148 38 = n → 0 ≤ n → n ≤ 40 → 41 - n ≤ (K : Int) → (∀ i, 0 ≤ i → i < n → Lv a b i) → MR X ρ 5 0 0 qP55 N 17 [96, 1, 3, 1, n] [] a (ig, rl, a') → MR X ρ 4 0 0 qP171 M 30 [148, lv, 0, 0] [] b o → RE X ρ t L lv a a' b o := by
  intro K
  induction K with
  | zero => intro N M n a b _ _ _ _ h40 hK; omega
  | succ K ih =>
    intro N M n a b h en en' n0 n40 hK hv ra rb
    have A := k55_17 ra
    have B := k171_30 rb
    have ek : a 1 4 = 0 ↔ b 148 7 = 0 := by
      rcases h.1.1.2.2.2 with ⟨e1, e2⟩ | ⟨e1, e2⟩ | ⟨e1, e2, -⟩ | ⟨e1, e2, -⟩ | ⟨e1, e2, -⟩ <;> omega
    rcases A with ⟨e, _⟩ | ⟨_, A⟩
    · omega
    · rcases A with ⟨e, _⟩ | ⟨_, A⟩
      · exact absurd e (by decide)
      · rcases A with ⟨e, A⟩ | ⟨e, v7, m5, r5, -, N8, -, A⟩
        · have A : a' = a := congrArg (fun z => z.2.2) A
          rcases B with ⟨-, y, ey, B⟩ | ⟨d, _⟩
          · rw [ey] at B
            rw [A]
            exact ⟨Fr.rf _ _, Or.inr ⟨_, b, h, by rw [en, en'], by rw [en]; exact n0, by rw [en]; exact n40, by rw [en]; exact hv, B, Fr.rf _ _⟩⟩
          · exact absurd (ek.mp e) d
        · rcases B with ⟨d, _⟩ | ⟨-, v11, m9, r9, -, B⟩
          · exact absurd (ek.mpr d) e
          · obtain ⟨fwa, fwb, D⟩ := lineT hX hS h (by rw [en]; exact n0) (by rw [en]; exact n40) (by rw [en, en']) r5 r9
            rcases D with ⟨q1, q2, q3⟩ | ⟨q1, q2, q3, q4, q5, q6, q7, q8⟩
            · have q1 := one_eq q1
              have q2 := one_eq q2
              rcases B with ⟨_, B⟩ | ⟨d, _⟩
              · rw [q1] at A
                rcases k55_17 A with ⟨_, A⟩ | ⟨_, A⟩
                · have A : a' = m5 := congrArg (fun z => z.2.2) A
                  rw [A, B]
                  exact ⟨fwa, Or.inl ⟨q3, rfl, fwb.mo fun x k q => Or.inl q⟩⟩
                · rcases A with ⟨_, A⟩ | ⟨d, _⟩
                  · have A : a' = m5 := congrArg (fun z => z.2.2) A
                    rw [A, B]
                    exact ⟨fwa, Or.inl ⟨q3, rfl, fwb.mo fun x k q => Or.inl q⟩⟩
                  · exact absurd rfl d
              · exact absurd q2 d
            · have q1 := one_eq q1
              have q2 := one_eq q2
              rw [en] at q3 q5 q6 q7 q8
              rcases B with ⟨d, _⟩ | ⟨_, y13, e13, N14, -, B⟩
              · omega
              · have e38 : m9 148 38 = n := by rw [q8 _ _ (by unfold Vb; omega)]; exact en'
                rw [e38, s32_id (z := n + 1) (by omega) (by omega)] at e13
                rw [q1, s32_id (z := n + 1) (by omega) (by omega)] at A
                have h2 := BS_38 q4 (n + 1)
                rw [← e13] at h2
                have fb2 : Fr (fun x k => Vb n x k ∨ (x = 148 ∧ k = 38)) b y13 := by
                  rw [e13]
                  exact (q8.mo fun x k q => Or.inl q).mu (Or.inr ⟨rfl, rfl⟩)
                have fb3 : Fr (fun x k => Vb (n + 1) x k ∨ (x = 148 ∧ k = 38)) m9 y13 := by
                  rw [e13]
                  exact (Fr.rf _ _).mu (Or.inr ⟨rfl, rfl⟩)
                obtain ⟨R1, R2⟩ := ih N8 N14 (n + 1) m5 y13 h2 q5 (by rw [e13, mu_s]) (by omega) (by omega) (by omega) (fun i i0 i1 => by
                  by_cases c : i = n
                  · rw [c]
                    exact Lv_fr (n := n + 1) q6 n0 (by omega) (Fr.rf _ _) fb3
                  · exact Lv_fr (hv i i0 (by omega)) i0 (by omega) q7 fb2) A B
                have fwb2 : Fr Wb b y13 := fb2.mo fun x k q => by unfold Vb at q; unfold Wb WB; omega
                refine ⟨fwa.tr R1, ?_⟩
                rcases R2 with ⟨z1, z2, z3⟩ | ⟨M', b', z1, z2, z3, z4, z5, z6, z7⟩
                · exact Or.inl ⟨z1, z2, fwb2.tr z3⟩
                · exact Or.inr ⟨M', b', z1, z2, z3, z4, z5, z6, fwb2.tr z7⟩
set_option maxRecDepth 16384 in
/-- what reading a book may change ahead of its lines -/
def Wa2 (x k : Int) : Prop := WA x k ∨ (x = 1 ∧ 2 ≤ k)
set_option maxRecDepth 16384 in
def Wb2 (x k : Int) : Prop := (x = 148 ∧ 0 ≤ k ∧ k ≤ 13) ∨ (x = 148 ∧ k = 38) ∨ (x = 164 ∧ 0 ≤ k)
set_option maxRecDepth 16384 in
theorem C2_w2 {a a' b b' : MM} (h : C2 a b) (fa : Fr Wa2 a a') (fb : Fr Wb2 b b') : C2 a' b' := C2_fr h (fun x k q => fa x k (by unfold PCs at q; unfold Wa2 WA; omega)) (fun x k q => fb x k (by unfold PJs at q; unfold Wb2; omega))
set_option maxRecDepth 16384 in
theorem readT {X : KO} {ρ : Nat → Int32} {L lv : Int} {a a' b : MM} {rl : List (Nat × Int)} {o : Instr × List (Nat × Int) × MM} {M : Nat} (hX : XW X) (hS : XS X) (hc : C2 a b) (hl : BLay a b) (hT : TapeR a b L) (t0 : a 1 0 = 2) (t1 : a 2 (-1) = 940) (u1 : b 148 1 = 149) (hlv : lv = 0 ∨ lv = 1) (ra : Run X ρ 55 [(1, 96), (1, 1), (1, 3)] a rl a') (rb : MR X ρ 4 0 0 qP171 M 0 [148, lv, 0, 0] [] b o) : Fr Wa2 a a' ∧ ((FL a' o.2.2 ∧ o.2.1 = [(1, s32 (-2 - o.2.2 148 11))] ∧ Fr Wb2 b o.2.2) ∨ (∃ (M' : Nat) (b' : MM), BS X (fun j => b 149 j) L a' b' ∧ a' 96 3 = b' 148 38 ∧ 0 ≤ a' 96 3 ∧ a' 96 3 ≤ 40 ∧ (∀ i, 0 ≤ i → i < a' 96 3 → Lv a' b' i) ∧ MR X ρ 4 0 0 qP171 M' 73 [148, lv, 0, 0] [] (g219 b' 148) o ∧ Fr Wb2 b b' ∧ b' 148 2 = 0)) := by
  obtain ⟨v1, v2, v3, v4, v5⟩ := hT
  obtain ⟨N, ig, ra⟩ := Run_CR ra rfl
  have ra : MR X ρ 5 0 0 qP55 N 0 [96, 1, 3, 0, 0] [] a (ig, rl, a') := ra
  obtain ⟨y1, e1, m3, r3, A⟩ := k55_0 ra
  obtain ⟨y1', e1', B⟩ := k171_0 rb
  rcases B with ⟨d, _⟩ | ⟨-, m9, r9, y11, e11, B⟩
  · exfalso
    unfold f209 at d
    rw [if_neg (by omega), if_neg (by omega)] at d
    exact absurd d (by decide)
  · -- the class begins
    obtain ⟨N8, ig8, r8⟩ := Run_CR r3 rfl
    have r8 : MR X ρ 2 0 0 qP149 N8 0 [1, 400] [] y1 (ig8, [], m3) := r8
    obtain ⟨m8', r8b, e⟩ := i149_0 r8
    have e : m3 = m8' := congrArg (fun z => z.2.2) e
    subst e
    clear r8
    -- the reference begins
    obtain ⟨Nb, igb, rb1⟩ := Run_CR r9 rfl
    have rb1 : MR X ρ 2 0 0 qP169 Nb 0 [148, 400] [] y1' (igb, [], m9) := rb1
    obtain ⟨mb', rb2, e⟩ := i169_0 rb1
    have e : m9 = mb' := congrArg (fun z => z.2.2) e
    subst e
    clear rb1
    have ef : f283 (mu y1' 148 0 0) 148 = L := by
      show (mu y1' 148 0 0) 148 2 = L
      rw [mu_k (by decide), e1', mu_k (by decide)]
      exact v2
    have eg : g283 (mu y1' 148 0 0) 148 = mu (mu y1' 148 0 0) 148 2 0 := rfl
    rw [ef, eg] at rb2
    have Fb : Fr (fun x k => x = 148 ∧ (k = 0 ∨ k = 2 ∨ k = 3 ∨ k = 4 ∨ k = 10 ∨ k = 5)) b (mu (mu (mu (mu (mu (mu y1' 148 0 0) 148 2 0) 148 3 L) 148 4 400) 148 10 0) 148 5 0) := by
      rw [e1']
      exact (((((((Fr.rf _ _).mu ⟨rfl, by omega⟩).mu ⟨rfl, by omega⟩).mu ⟨rfl, by omega⟩).mu ⟨rfl, by omega⟩).mu ⟨rfl, by omega⟩).mu ⟨rfl, by omega⟩).mu ⟨rfl, by omega⟩
    have y3 : (mu (mu (mu (mu (mu (mu y1' 148 0 0) 148 2 0) 148 3 L) 148 4 400) 148 10 0) 148 5 0) 148 3 = L := by rw [mu_k (by decide), mu_k (by decide), mu_k (by decide), mu_s]
    have y4 : (mu (mu (mu (mu (mu (mu y1' 148 0 0) 148 2 0) 148 3 L) 148 4 400) 148 10 0) 148 5 0) 148 4 = 400 := by rw [mu_k (by decide), mu_k (by decide), mu_s]
    have y10 : (mu (mu (mu (mu (mu (mu y1' 148 0 0) 148 2 0) 148 3 L) 148 4 400) 148 10 0) 148 5 0) 148 10 = 0 := by rw [mu_k (by decide), mu_s]
    have y5 : (mu (mu (mu (mu (mu (mu y1' 148 0 0) 148 2 0) 148 3 L) 148 4 400) 148 10 0) 148 5 0) 148 5 = 0 := mu_s _ _ _ _
    have y2 : (mu (mu (mu (mu (mu (mu y1' 148 0 0) 148 2 0) 148 3 L) 148 4 400) 148 10 0) 148 5 0) 148 2 = 0 := by rw [mu_k (by decide), mu_k (by decide), mu_k (by decide), mu_k (by decide), mu_s]
    revert rb2 Fb y3 y4 y10 y5 y2
    generalize (mu (mu (mu (mu (mu (mu y1' 148 0 0) 148 2 0) 148 3 L) 148 4 400) 148 10 0) 148 5 0) = b0
    intro rb2 Fb y3 y4 y10 y5 y2
    have Fa : Fr (fun x k => (x = 1 ∧ (k = 2 ∨ k = 3 ∨ k = 9 ∨ k = 10)) ∨ (x = 96 ∧ k = 3)) a (mu (mu (mu (mu y1 1 2 400) 1 3 0) 1 9 0) 1 10 0) := by
      rw [e1]
      exact (((((Fr.rf _ _).mu (Or.inr ⟨rfl, rfl⟩)).mu (Or.inl ⟨rfl, by omega⟩)).mu (Or.inl ⟨rfl, by omega⟩)).mu (Or.inl ⟨rfl, by omega⟩)).mu (Or.inl ⟨rfl, by omega⟩)
    have x2 : (mu (mu (mu (mu y1 1 2 400) 1 3 0) 1 9 0) 1 10 0) 1 2 = 400 := by rw [mu_k (by decide), mu_k (by decide), mu_k (by decide), mu_s]
    have x3 : (mu (mu (mu (mu y1 1 2 400) 1 3 0) 1 9 0) 1 10 0) 1 3 = 0 := by rw [mu_k (by decide), mu_k (by decide), mu_s]
    have x9 : (mu (mu (mu (mu y1 1 2 400) 1 3 0) 1 9 0) 1 10 0) 1 9 = 0 := by rw [mu_k (by decide), mu_s]
    have x96 : (mu (mu (mu (mu y1 1 2 400) 1 3 0) 1 9 0) 1 10 0) 96 3 = 0 := by rw [mu_a (by decide), mu_a (by decide), mu_a (by decide), mu_a (by decide), e1, mu_s]
    revert r8b Fa x2 x3 x9 x96
    generalize (mu (mu (mu (mu y1 1 2 400) 1 3 0) 1 9 0) 1 10 0) = a0
    intro r8b Fa x2 x3 x9 x96
    have p0 : PR0 (fun j => b 149 j) L 400 a0 b0 := by
      refine ⟨⟨by rw [Fa 1 0 (by omega)]; exact t0, by rw [Fa 1 1 (by omega)]; exact v1, v3, v4, by rw [Fa 2 _ (by omega)]; exact t1, fun j j1 j2 => by rw [Fa 2 _ (by omega)]; exact v5 j j1 j2⟩, ⟨by rw [Fb 148 1 (by omega)]; exact u1, y3, v3, v4, fun j j1 j2 => by rw [Fb 149 j (by omega)]⟩, x2, y4, by rw [x3, y5], by omega, by omega⟩
    obtain ⟨s, f1, f2⟩ := goT hX p0 x9 y10 r8b rb2
    have fa1 : Fr Wa2 a m3 := (Fa.mo fun x k q => by unfold Wa2 WA; omega).tr (f1.mo fun x k q => by unfold P148 at q; unfold Wa2 WA; omega)
    have fb1 : Fr Wb2 b m9 := (Fb.mo fun x k q => by unfold Wb2; omega).tr (f2.mo fun x k q => by unfold P195 at q; unfold Wb2; omega)
    have hc1 := C2_w2 hc fa1 fb1
    have hl1 : BLay m3 m9 := by
      obtain ⟨⟨h1, h2, h3, h4, h5, h6⟩, h7⟩ := hl
      have ef : ∀ x k, (x = 96 ∧ k ≠ 3) ∨ (97 ≤ x ∧ k < 0) → m3 x k = a x k := fun x k q => by rw [f1 x k (by unfold P148; omega), Fa x k (by omega)]
      refine ⟨⟨?_, ?_, ?_, ?_, ?_, ?_⟩, ?_⟩
      · rw [ef _ _ (by omega)]; exact h1
      · rw [ef _ _ (by omega)]; exact h2
      · rw [ef _ _ (by omega)]; exact h3
      · rw [ef _ _ (by omega)]; exact h4
      · rw [ef _ _ (by omega)]; exact h5
      · rw [ef _ _ (by omega)]; exact h6
      · rw [fb1 _ _ (by unfold Wb2; omega)]; exact h7
    have h2 := BS_38 (⟨s, hc1, hl1⟩ : BS X (fun j => b 149 j) L m3 m9) 0
    rw [← e11] at h2
    have fb2 : Fr Wb2 b y11 := by rw [e11]; exact fb1.mu (Or.inr (Or.inl ⟨rfl, rfl⟩))
    have w2 : y11 148 2 = 0 := by rw [e11, mu_k (by decide), f2 _ _ (by unfold P195; omega)]; exact y2
    obtain ⟨R1, R2⟩ := loopT hX hS 41 N M 0 m3 y11 h2 (by rw [f1 _ _ (by unfold P148; omega)]; exact x96) (by rw [e11, mu_s]) (by decide) (by decide) (by decide) (fun i i0 i1 => by omega) A B
    refine ⟨fa1.tr (R1.mo fun x k q => Or.inl q), ?_⟩
    rcases R2 with ⟨z1, z2, z3⟩ | ⟨M', b', z1, z2, z3, z4, z5, z6, z7⟩
    · exact Or.inl ⟨z1, z2, fb2.tr (z3.mo fun x k q => by unfold Wb WB at q; unfold Wb2; omega)⟩
    · exact Or.inr ⟨M', b', z1, z2, z3, z4, z5, z6, fb2.tr (z7.mo fun x k q => by unfold Wb WB at q; unfold Wb2; omega), by rw [z7 _ _ (by unfold Wb WB; omega)]; exact w2⟩
end
section
/-! A book judged or lived. -/
set_option maxRecDepth 16384 in
theorem q119 {a b : MM} {s : Int} (h : Sx a b s) (w : Int) : f119 a s w = f286 b 148 w := by
  obtain ⟨e, e0, e8⟩ := h.f
  have hb := h.bn
  have hs0 := h.1.2.2.1
  unfold f119 f286 L119_4 L286_4
  refine Lp_sim (f := K119_4 a s w 0 0) (f' := K286_4 b 148 w 0 0) (P := fun x y => x = y ∧ 0 ≤ x.2 ∧ x.2 ≤ a 3 7) (Q := fun t t' => t.2.2.1 = t'.2.2.1) (fun x => (a 3 7 - x.2).toNat) ?_ (0, 0) (0, 0) ⟨rfl, Int.le_refl _, e0⟩
  rintro ⟨x, i⟩ ⟨y, j⟩ ⟨c1, c2, c3⟩
  cases c1
  dsimp only at c2 c3
  have eA : K119_4 a s w 0 0 (x, i) = S119_4 a s w x i := rfl
  have eB : K286_4 b 148 w 0 0 (x, i) = S286_4 b 148 w x i := rfl
  rw [eA, eB]
  unfold S119_4 S286_4
  rw [hs0, hb, ← e]
  by_cases c : a 3 7 ≤ i
  · rw [if_pos c, if_pos c]
    exact Or.inr ⟨_, _, rfl, rfl, rfl⟩
  · have q := q127 h (f := i) c2 (by omega)
    rw [if_neg c, if_neg c, q.1, q.2, s32_id (z := i + 1) (by omega) (by omega)]
    by_cases d : a (s + 4) i = w
    · rw [if_pos d]
      exact Or.inl ⟨_, _, rfl, rfl, ⟨rfl, by dsimp only; omega, by dsimp only; omega⟩, by dsimp only; omega⟩
    · rw [if_neg d]
      exact Or.inl ⟨_, _, rfl, rfl, ⟨rfl, by dsimp only; omega, by dsimp only; omega⟩, by dsimp only; omega⟩
set_option maxRecDepth 16384 in
/-- a line alike: why not, what becomes of it -/
theorem lineG {a b : MM} {s : Int} (h : Sx a b s) (hl : BLay a b) {i : Int} (i0 : 0 ≤ i) (i1 : i < 40) (hv : Lv a b i) : (f146 a s (a 97 i) (a 98 i) (a 99 i) = 0 ∧ f196 b 148 (3 * i) = 0 ∧ Gx a b (g135 a s (a 97 i) (a 98 i) (a 99 i)) (g196 b 148 (3 * i)) s) ∨ (f146 a s (a 97 i) (a 98 i) (a 99 i) ≠ 0 ∧ f196 b 148 (3 * i) = s32 (s32 (a 97 i * 10) + f146 a s (a 97 i) (a 98 i) (a 99 i)) ∧ f196 b 148 (3 * i) ≠ 0 ∧ g196 b 148 (3 * i) = b) := by
  obtain ⟨h1, h2, h3, h4⟩ := hv
  have hd := h.day
  unfold f196 g196
  rw [hl.2, s32_id (z := 3 * i + 1) (by omega) (by omega), s32_id (z := 3 * i + 2) (by omega) (by omega), ← h1, ← h2, ← h3, h.bn, ← hd.1]
  rcases h4 with h4 | ⟨h4, h5, h6⟩
  · have e := q146 h h4
    have n7 : ¬ a 97 i = 7 := by
      unfold Is at h4
      omega
    rw [if_neg n7, if_neg n7, ← e]
    by_cases c : f146 a s (a 97 i) (a 98 i) (a 99 i) = 0
    · rw [if_pos c, if_pos c]
      exact Or.inl ⟨c, rfl, p_act h h4 c⟩
    · rw [if_neg c, if_neg c]
      have r : 0 ≤ f146 a s (a 97 i) (a 98 i) (a 99 i) ∧ f146 a s (a 97 i) (a 98 i) (a 99 i) ≤ 3 := by
        have key : ∀ act x y, (act = 0 ∨ act = 1 ∨ act = 2 ∨ act = 3 ∨ act = 4 ∨ act = 5 ∨ act = 6) → 0 ≤ f146 a s act x y ∧ f146 a s act x y ≤ 3 := fun act x y q => by
          rcases q with rfl | rfl | rfl | rfl | rfl | rfl | rfl
          · rw [f146_0]; split
            · split
              · split <;> decide
              · decide
            · decide
          · rw [f146_1]; split
            · decide
            · split <;> decide
          · rw [f146_2]; split
            · decide
            · split <;> decide
          · rw [f146_3]; split <;> decide
          · rw [f146_4]; split <;> decide
          · rw [f146_5]; split
            · decide
            · split <;> decide
          · rw [f146_6]; split <;> decide
        refine key _ _ _ ?_
        unfold Is at h4
        omega
      have ra : 0 ≤ a 97 i ∧ a 97 i ≤ 6 := by
        unfold Is at h4
        omega
      rw [show (10 : Int) * a 97 i = a 97 i * 10 by omega, s32_id (z := a 97 i * 10) (by omega) (by omega), s32_id (z := a 97 i * 10 + f146 a s (a 97 i) (a 98 i) (a 99 i)) (by omega) (by omega)]
      exact Or.inr ⟨c, rfl, by omega, rfl⟩
  · rw [if_pos h4, if_pos h4, h4]
    have e7 : f146 a s 7 (a 98 i) (a 99 i) = if a 98 i ≤ s32 (400 - a s 8) then 0 else 1 := rfl
    rw [e7, s32_id (z := 400 - a s 8) (by omega) (by omega), s32_id (z := a s 8 + a 98 i) (by omega) (by omega)]
    by_cases c : a 98 i ≤ 400 - a s 8
    · have c' : a s 8 + a 98 i ≤ 400 := by omega
      rw [if_pos c, if_pos c', if_pos c']
      refine Or.inl ⟨rfl, rfl, ?_⟩
      have e : f220 b (a 98 i) (400 - a s 8) = a 98 i := by
        unfold f220
        split <;> omega
      unfold g237
      rw [h.bn, ← hd.1, s32_id (z := 400 - a s 8) (by omega) (by omega), e, g135_7]
      exact p_days h (by omega) c
    · have c' : ¬ a s 8 + a 98 i ≤ 400 := by omega
      rw [if_neg c, if_neg c', if_neg c', s32_id (z := 7 * 10) (by decide) (by decide), s32_id (z := 7 * 10 + 1) (by decide) (by decide)]
      exact Or.inr ⟨by decide, rfl, by decide, rfl⟩
set_option maxRecDepth 16384 in
/-- places that a book gone through changes -/
def Qg (s x k : Int) : Prop := Qa s x k ∨ (x = 96 ∧ (k = 5 ∨ k = 6))
set_option maxRecDepth 16384 in
/-- where going through ends -/
def GE (X : KO) (ρ : Nat → Int32) (lv s cnt : Int) (a b : MM) (t : Nat × Int × (Int × Int × Int × MM)) (o : Instr × List (Nat × Int) × MM) : Prop := ∃ (M' : Nat) (n' : MM) (k w : Int), MR X ρ 4 0 0 qP171 M' 73 [148, lv, k, w] [] n' o ∧ Sx t.2.2.2.2.2 n' s ∧ Fr (Qg s) a t.2.2.2.2.2 ∧ Fr Qb b n' ∧ 0 ≤ k ∧ k ≤ cnt ∧ t.2.2.2.2.2 96 6 = k ∧ t.2.2.2.2.2 96 5 = w ∧ ((w = 0 ∧ k = cnt ∧ t.2.2.1 = -1) ∨ (w ≠ 0 ∧ t.2.2.1 = k)) ∧ (k = 0 → ∀ x j, ¬ (x = 96 ∧ (j = 5 ∨ j = 6)) → t.2.2.2.2.2 x j = a x j)
set_option maxRecDepth 16384 in
theorem loopG {X : KO} {ρ : Nat → Int32} {lv s cnt : Int} {o : Instr × List (Nat × Int) × MM} {m00 a b : MM} (hs : s = 15 ∨ s = 22) (q1 q2 q3 : Int) : ∀ (K M : Nat) (k v : Int) (m n : MM), Sx m n s → BLay m n → m 96 3 = cnt → n 148 38 = cnt → 0 ≤ k → k ≤ cnt → cnt ≤ 40 → cnt - k < (K : Int) → (∀ i, 0 ≤ i → i < cnt → Lv m n i) → m 96 6 = k → m 96 5 = 0 → Fr (Qg s) a m → Fr Qb b n → (k = 0 → ∀ x j, ¬ (x = 96 ∧ (j = 5 ∨ j = 6)) → m x j = a x j) → MR X ρ 4 0 0 qP171 M 73 [148, lv, k, 0] [] n o → GE X ρ lv s cnt a b (Lp (K47_19 m00 96 s q1 q2 q3) (-1, k, v, m)) o := by
  intro K
  induction K with
  | zero => intro M k v m n _ _ _ _ k0 k1 _ hK; omega
  | succ K ih =>
    intro M k v m n h hl e3 e38 k0 k1 c40 hK hv e6 e5 fa fb hz rb
    have eA : K47_19 m00 96 s q1 q2 q3 (-1, k, v, m) = S47_19 m 96 s (-1) k v := rfl
    by_cases c : cnt ≤ k
    · have e : S47_19 m 96 s (-1) k v = .inr (1, 0, (-1, k, v, m)) := by
        unfold S47_19
        rw [e3, if_pos c]
      rw [Lp_inr (eA.trans e)]
      exact ⟨M, n, k, 0, rb, h, fa, fb, k0, k1, e6, e5, Or.inl ⟨rfl, by omega, rfl⟩, hz⟩
    · rcases k171_73 rb with ⟨d, _⟩ | ⟨-, B⟩
      · omega
      · rcases B with ⟨-, y74, ey, B⟩ | ⟨d, _⟩
        · rw [s32_id (z := 3 * k) (by omega) (by omega)] at ey B
          have hl' := hl
          obtain ⟨⟨l0, l1, l2, -⟩, -⟩ := hl'
          rcases lineG h hl k0 (by omega) (hv k k0 (by omega)) with ⟨w1, w2, w3⟩ | ⟨w1, w2, w3, w4⟩
          · have G6 : (g135 m s (m 97 k) (m 98 k) (m 99 k)) 96 6 = k := by rw [w3.2.1 _ _ (by unfold Qa; omega)]; exact e6
            have e : S47_19 m 96 s (-1) k v = .inl (-1, k + 1, 0, mu (g135 m s (m 97 k) (m 98 k) (m 99 k)) 96 6 (k + 1)) := by
              unfold S47_19
              rw [e3, l0, l1, l2, w1, if_neg c, if_neg (show ¬ 40 ≤ k by omega), if_pos rfl, if_pos rfl, G6, s32_id (z := k + 1) (by omega) (by omega)]
            rw [Lp_inl (eA.trans e)]
            rcases B with ⟨_, N77, -, B⟩ | ⟨d, _⟩
            · rw [w2, s32_id (z := k + 1) (by omega) (by omega), ey] at B
              have hS2 : Sx (mu (g135 m s (m 97 k) (m 98 k) (m 99 k)) 96 6 (k + 1)) (g196 n 148 (3 * k)) s := Sx_fr w3.1 (fun x j q _ => mu_a (by omega)) (fun x j q1 q2 => mu_a (by omega)) rfl (fun _ => rfl)
              have fm1 : Fr (Qg s) m (mu (g135 m s (m 97 k) (m 98 k) (m 99 k)) 96 6 (k + 1)) := (w3.2.1.mo fun x j q => Or.inl q).mu (Or.inr ⟨rfl, Or.inr rfl⟩)
              have ex : ∀ x j, (96 ≤ x ∧ x ≤ 99 ∧ ¬ (x = 96 ∧ (j = 5 ∨ j = 6))) ∨ x = 3 → (mu (g135 m s (m 97 k) (m 98 k) (m 99 k)) 96 6 (k + 1)) x j = m x j := fun x j q => fm1 x j (by unfold Qg Qa; omega)
              have ey' : ∀ x j, x = 148 ∨ x = 164 → (g196 n 148 (3 * k)) x j = n x j := fun x j q => w3.2.2 x j (by unfold Qb; omega)
              refine ih N77 (k + 1) 0 _ _ hS2 ?_ ?_ ?_ (by omega) (by omega) c40 (by omega) (fun i i0 i1 => ?_) (mu_s _ _ _ _) ?_ (fa.tr fm1) (fb.tr w3.2.2) (fun q => by omega) B
              · obtain ⟨⟨z1, z2, z3, z4, z5, z6⟩, z7⟩ := hl
                refine ⟨⟨?_, ?_, ?_, ?_, ?_, ?_⟩, ?_⟩
                · rw [ex _ _ (by omega)]; exact z1
                · rw [ex _ _ (by omega)]; exact z2
                · rw [ex _ _ (by omega)]; exact z3
                · rw [ex _ _ (by omega)]; exact z4
                · rw [ex _ _ (by omega)]; exact z5
                · rw [ex _ _ (by omega)]; exact z6
                · rw [ey' _ _ (by omega)]; exact z7
              · rw [ex _ _ (by omega)]; exact e3
              · rw [ey' _ _ (by omega)]; exact e38
              · have q := hv i i0 i1
                unfold Lv Is at *
                rw [ex 97 i (by omega), ex 98 i (by omega), ex 99 i (by omega), ex 3 6 (by omega), ex 3 7 (by omega), ey' 164 _ (by omega), ey' 164 _ (by omega), ey' 164 _ (by omega)]
                exact q
              · rw [mu_k (by decide), w3.2.1 _ _ (by unfold Qa; omega)]; exact e5
            · exact absurd w2 d
          · have e : S47_19 m 96 s (-1) k v = .inl (k, k + 1, f146 m s (m 97 k) (m 98 k) (m 99 k), mu m 96 5 (s32 (s32 (m 97 k * 10) + f146 m s (m 97 k) (m 98 k) (m 99 k)))) := by
              unfold S47_19
              rw [e3, l0, l1, l2, if_neg c, if_neg (show ¬ 40 ≤ k by omega), if_pos rfl, if_neg w1, s32_id (z := k + 1) (by omega) (by omega)]
            rw [Lp_inl (eA.trans e)]
            have e2 : K47_19 m00 96 s q1 q2 q3 (k, k + 1, f146 m s (m 97 k) (m 98 k) (m 99 k), mu m 96 5 (s32 (s32 (m 97 k * 10) + f146 m s (m 97 k) (m 98 k) (m 99 k)))) = .inr (1, 0, (k, k + 1, f146 m s (m 97 k) (m 98 k) (m 99 k), mu m 96 5 (s32 (s32 (m 97 k * 10) + f146 m s (m 97 k) (m 98 k) (m 99 k))))) := by
              show S47_19 (mu m 96 5 (s32 (s32 (m 97 k * 10) + f146 m s (m 97 k) (m 98 k) (m 99 k)))) 96 s k (k + 1) (f146 m s (m 97 k) (m 98 k) (m 99 k)) = _
              unfold S47_19
              by_cases c2 : (mu m 96 5 (s32 (s32 (m 97 k * 10) + f146 m s (m 97 k) (m 98 k) (m 99 k)))) 96 3 ≤ k + 1
              · rw [if_pos c2]
              · rw [if_neg c2]
                by_cases c3 : 40 ≤ k + 1
                · rw [if_pos c3]
                · rw [if_neg c3, if_neg (show ¬ k = -1 by omega)]
            rw [Lp_inr e2]
            rcases B with ⟨d, _⟩ | ⟨_, N76, -, B⟩
            · exact absurd d w3
            · rw [ey, w4] at B
              refine ⟨N76, n, k, f196 n 148 (3 * k), B, Sx_fr h (fun x j q _ => mu_a (by omega)) (fun x j q1 q2 => mu_a (by omega)) rfl (fun _ => rfl), fa.mu (Or.inr ⟨rfl, Or.inl rfl⟩), fb, k0, k1, ?_, ?_, Or.inr ⟨w3, rfl⟩, fun q x j q2 => ?_⟩
              · dsimp only; rw [mu_k (by decide)]; exact e6
              · dsimp only; rw [mu_s]; exact w2.symm
              · dsimp only
                by_cases q3 : x = 96
                · rw [q3, mu_k (by omega)]; exact hz q 96 j (by omega)
                · rw [mu_a q3]; exact hz q x j q2
        · exact absurd rfl d
end
