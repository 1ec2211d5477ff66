/-! A book's line, what is done. -/
set_option maxRecDepth 16384 in
def BLay (a b : MM) : Prop := (a 96 0 = 97 ∧ a 96 1 = 98 ∧ a 96 2 = 99 ∧ a 97 (-1) = 40 ∧ a 98 (-1) = 40 ∧ a 99 (-1) = 40) ∧ b 148 36 = 164
set_option maxRecDepth 16384 in
def BS (X : KO) (t : Int → Int) (L : Int) (a b : MM) : Prop := TS X t L 400 a b ∧ C2 a b ∧ BLay a b
set_option maxRecDepth 16384 in
def WA (x k : Int) : Prop := (x = 1 ∧ 3 ≤ k) ∨ (97 ≤ x ∧ x ≤ 99 ∧ 0 ≤ k) ∨ (x = 96 ∧ k = 3)
set_option maxRecDepth 16384 in
def WB (x k : Int) : Prop := (x = 148 ∧ 5 ≤ k ∧ k ≤ 13) ∨ (x = 164 ∧ 0 ≤ k)
set_option maxRecDepth 16384 in
theorem C2_w {a a' b b' : MM} (h : C2 a b) (fa : Fr WA a a') (fb : Fr WB b b') : C2 a' b' := C2_fr h (fun x k q => fa x k (by unfold PCs at q; unfold WA; omega)) (fun x k q => fb x k (by unfold PJs at q; unfold WB; omega))
set_option maxRecDepth 16384 in
theorem BLay_w {a a' b b' : MM} (h : BLay a b) (fa : Fr WA a a') (fb : Fr WB b b') : BLay a' b' := by
  obtain ⟨⟨h1, h2, h3, h4, h5, h6⟩, h7⟩ := h
  refine ⟨⟨?_, ?_, ?_, ?_, ?_, ?_⟩, ?_⟩
  · rw [fa _ _ (by unfold WA; omega)]; exact h1
  · rw [fa _ _ (by unfold WA; omega)]; exact h2
  · rw [fa _ _ (by unfold WA; omega)]; exact h3
  · rw [fa _ _ (by unfold WA; omega)]; exact h4
  · rw [fa _ _ (by unfold WA; omega)]; exact h5
  · rw [fa _ _ (by unfold WA; omega)]; exact h6
  · rw [fb _ _ (by unfold WB; omega)]; exact h7
set_option maxRecDepth 16384 in
theorem g48_ok {m : MM} {row v : Int} (hr : row = 97 ∨ row = 98 ∨ row = 99) (hl : m row (-1) = 40) (n0 : 0 ≤ m 96 3) (n1 : m 96 3 < 40) : g48 m 96 row v = mu m row (m 96 3) (s32 v) := by
  unfold g48
  have hc : ¬ row = 1000050 := by omega
  have h0 : ¬ m 96 3 < 0 := by omega
  rw [if_neg h0, if_neg hc, hl, s32_id (z := 40) (by decide) (by decide), if_neg (by omega)]
set_option maxRecDepth 16384 in
/-- class's places of a line, reference's -/
def Va (n x k : Int) : Prop := (x = 1 ∧ 3 ≤ k) ∨ ((x = 97 ∨ x = 98 ∨ x = 99) ∧ k = n)
set_option maxRecDepth 16384 in
theorem PM_wb {b b' : MM} (h : Fr PM b b') : Fr WB b b' := h.mo fun x k q => Or.inl q
set_option maxRecDepth 16384 in
theorem PT_wa {a a' : MM} (h : Fr PT a a') : Fr WA a a' := h.mo fun x k q => Or.inl q
set_option maxRecDepth 16384 in
/-- a token further, something written on the way -/
theorem stepT {X : KO} {ρ : Nat → Int32} {t : Int → Int} {L : Int} {a y a' b z b' : MM} (hX : XW X) (h : BS X t L a b) (fy : Fr (fun x k => 97 ≤ x ∧ x ≤ 99 ∧ 0 ≤ k) a y) (fz : Fr (fun x k => (x = 164 ∧ 0 ≤ k) ∨ (x = 148 ∧ k = 13)) b z) (ra : Run X ρ 148 [(1, 1)] y [] a') (rb : Run X ρ 195 [(1, 148)] z [] b') : BS X t L a' b' ∧ Fr P148 y a' ∧ Fr P195 z b' ∧ Fr WA a a' ∧ Fr WB b b' := by
  obtain ⟨⟨⟨p0, p1⟩, h9, h10⟩, hc, hl⟩ := h
  have q0 : PR0 t L 400 y z := PR0_fr p0 fy fz (fun k q => by omega) (fun k q => by omega) (fun k _ _ q => by omega) (fun k q => by omega)
  obtain ⟨s, f1, f2⟩ := goT hX q0 (by rw [fy 1 9 (by omega)]; exact h9) (by rw [fz 148 10 (by omega)]; exact h10) ra rb
  have fa : Fr WA a a' := (fy.mo fun x k q => Or.inr (Or.inl q)).tr (f1.mo fun x k q => Or.inl ⟨q.1, q.2.1⟩)
  have fb : Fr WB b b' := (fz.mo fun x k q => by unfold WB; omega).tr (f2.mo fun x k q => by unfold P195 at q; unfold WB; omega)
  exact ⟨⟨s, C2_w hc fa fb, BLay_w hl fa fb⟩, f1, f2, fa, fb⟩
set_option maxRecDepth 16384 in
/-- a name read and kept -/
theorem nameT {X : KO} {ρ : Nat → Int32} {t : Int → Int} {L : Int} {a m2 a' b m4 : MM} {rl : List (Nat × Int)} {u u' : Int → Int} {n row v4 v6 : Int} (hX : XW X) (h : BS X t L a b) (c0 : 0 ≤ a 96 3) (c1 : a 96 3 < 40) (hr : row = 97 ∨ row = 98 ∨ row = 99) (n8 : n ≤ 8) (hu : ∀ k, 0 ≤ k → k < n → NRel (u k) (u' k)) (A : LKa a m2 [(1, v4)] u n) (A' : (v4 = -1 ∧ rl = [(1, 0)] ∧ a' = m2) ∨ (v4 ≠ -1 ∧ rl = [(1, 1)] ∧ Run X ρ 148 [(1, 1)] (g48 m2 96 row v4) [] a')) (B : LKb X ρ a b m4 [(1, v6)] u' n) : Fr WB b m4 ∧ ((rl = [(1, 0)] ∧ v6 = 0 ∧ FL a' m4 ∧ Fr WA a a') ∨ (rl = [(1, 1)] ∧ v6 = 1 ∧ ∃ v, 0 ≤ v ∧ v < n ∧ BS X t L a' m4 ∧ m4 148 13 = v ∧ a' row (a 96 3) = v ∧ Fr (fun x k => (x = 1 ∧ 3 ≤ k) ∨ (x = row ∧ k = a 96 3)) a a' ∧ Fr PM b m4)) := by
  have hh := h
  obtain ⟨⟨⟨p0, p1⟩, h9, h10⟩, hc, hl⟩ := h
  have hrow : a row (-1) = 40 := by
    obtain ⟨⟨-, -, -, e4, e5, e6⟩, -⟩ := hl
    rcases hr with r | r | r <;> rw [r] <;> assumption
  rcases A with ⟨k1, k2, k3⟩ | ⟨k1, k2, k3, k4⟩ | ⟨k1, v, k2, k3, kn, k4, k5, k6⟩
  · injection k2 with k2
    injection k2 with _ k2
    rcases A' with ⟨e1, e2, e3⟩ | ⟨e1, -⟩
    · rcases B with ⟨-, q2, q3⟩ | ⟨q1, -⟩ | ⟨q1, -⟩
      · injection q2 with q2
        injection q2 with _ q2
        rw [e3, k3, q3]
        exact ⟨PM_wb (Fr_168 _ _), Or.inl ⟨e2, q2, bad_ok p1 (by decide) (Or.inl rfl), PT_wa (Fr_158 _ _)⟩⟩
      · omega
      · omega
    · exact absurd k2 e1
  · injection k2 with k2
    injection k2 with _ k2
    rcases A' with ⟨e1, e2, e3⟩ | ⟨e1, -⟩
    · rcases B with ⟨q1, -⟩ | ⟨-, qn, q2, q3, q4⟩ | ⟨-, qn, v', q1, q2, q3, q4⟩
      · omega
      · injection q2 with q2
        injection q2 with _ q2
        rw [e3, k3, q3]
        have hT : TKR X a (mu b 148 13 (-1)) := TKR_fr p1 (Fr.rf (fun _ _ => False) _) ((Fr.rf (fun x k => x = 148 ∧ k = 13) _).mu ⟨rfl, rfl⟩) (fun _ q => q) (fun k _ _ q => by omega)
        exact ⟨PM_wb (((Fr.rf _ _).mu ⟨rfl, by decide, by decide⟩).tr (Fr_168 _ _)), Or.inl ⟨e2, q2, bad_ok hT (by decide) (Or.inr (name_kind k1)), PT_wa (Fr_158 _ _)⟩⟩
      · exact absurd (Fnd_u (fun k x0 x1 => NRel_iff (hu k x0 x1) qn) k4 q4).symm q1
    · exact absurd k2 e1
  · injection k2 with k2
    injection k2 with _ k2
    rcases A' with ⟨e1, -⟩ | ⟨e1, e2, e3⟩
    · omega
    · rcases B with ⟨q1, -⟩ | ⟨-, qn, q2, q3, q4⟩ | ⟨-, qn, v', q1, q2, q3, q4⟩
      · omega
      · exact absurd (Fnd_u (fun k x0 x1 => NRel_iff (hu k x0 x1) qn) k6 q4) kn
      · injection q2 with q2
        injection q2 with _ q2
        have ev := Fnd_u (fun k x0 x1 => NRel_iff (hu k x0 x1) qn) k6 q4
        rw [k3, k2, g48_ok hr hrow c0 c1, s32_id (z := v) (by omega) (by omega)] at e3
        rw [← ev] at q3
        have fy : Fr (fun x k => 97 ≤ x ∧ x ≤ 99 ∧ 0 ≤ k) a (mu a row (a 96 3) v) := (Fr.rf _ _).mu ⟨by omega, by omega, c0⟩
        obtain ⟨s1, f1, f2, fa, fb⟩ := stepT hX hh fy ((Fr.rf _ _).mu (Or.inr ⟨rfl, rfl⟩)) e3 q3
        have fy2 : Fr (fun x k => (x = 1 ∧ 3 ≤ k) ∨ (x = row ∧ k = a 96 3)) a (mu a row (a 96 3) v) := (Fr.rf _ _).mu (Or.inr ⟨rfl, rfl⟩)
        refine ⟨fb, Or.inr ⟨e2, q2, v, k4, k5, s1, ?_, ?_, fy2.tr (f1.mo fun x k q => Or.inl ⟨q.1, q.2.1⟩), ?_⟩⟩
        · rw [f2 148 13 (by unfold P195; omega), mu_s]
        · rw [f1 row _ (by unfold P148; omega), mu_s]
        · exact ((Fr.rf _ _).mu ⟨rfl, by decide, by decide⟩).tr f2.PM
set_option maxRecDepth 16384 in
/-- a person's name, a form's name: into a row -/
theorem persT {X : KO} {ρ : Nat → Int32} {t : Int → Int} {L : Int} {a a' b m4 : MM} {rl : List (Nat × Int)} {row v6 : Int} (hX : XW X) (h : BS X t L a b) (c0 : 0 ≤ a 96 3) (c1 : a 96 3 < 40) (hr : row = 97 ∨ row = 98 ∨ row = 99) (ra : Run X ρ 54 [(1, 96), (1, 1), (1, 3), (1, row)] a rl a') (rb : Run X ρ 259 [(1, 148)] b [(1, v6)] m4) : Fr WB b m4 ∧ ((rl = [(1, 0)] ∧ v6 = 0 ∧ FL a' m4 ∧ Fr WA a a') ∨ (rl = [(1, 1)] ∧ v6 = 1 ∧ ∃ v, 0 ≤ v ∧ v < a 3 6 ∧ BS X t L a' m4 ∧ m4 148 13 = v ∧ a' row (a 96 3) = v ∧ Fr (fun x k => (x = 1 ∧ 3 ≤ k) ∨ (x = row ∧ k = a 96 3)) a a' ∧ Fr PM b m4)) := by
  have hC := h.2.1
  have hp := hC.1.2.1.p
  obtain ⟨N, ig, ra⟩ := Run_CR ra rfl
  have ra : MR X ρ 5 0 0 qP54 N 0 [96, 1, 3, row, 0] [] a (ig, rl, a') := ra
  obtain ⟨M, ig', rb⟩ := Run_CR rb rfl
  have rb : MR X ρ 1 0 0 qP259 M 0 [148] [] b (ig', [(1, v6)], m4) := rb
  obtain ⟨v5, m5, r5, -, e5⟩ := k259_0 rb
  cases e5
  rw [hC.1.2.1.bn, ← hp.1] at r5
  have B := named h.1.1.2 hC.2.2.2.1.2.1 (by decide) (by decide) hp.2.1 hp.2.2 r5
  obtain ⟨v4, m2, r2, A'⟩ := k54_0 ra
  have A := lookP (h.2.1.1.2.1.1.1.1) hp.2.1 hp.2.2 r2
  refine nameT hX h c0 c1 hr hp.2.2 (fun k k0 k1 => ?_) A ?_ B
  · rw [Int.zero_add]
    have := hC.2.1.1 k k0 k1
    rw [Int.zero_add] at this
    exact this
  · rcases A' with ⟨e, A'⟩ | ⟨e, y, e2, m13, r13, A'⟩
    · cases A'; exact Or.inl ⟨e, rfl, rfl⟩
    · cases A'
      rw [e2] at r13
      exact Or.inr ⟨e, rfl, r13⟩
set_option maxRecDepth 16384 in
theorem formT {X : KO} {ρ : Nat → Int32} {t : Int → Int} {L : Int} {a a' b m4 : MM} {rl : List (Nat × Int)} {row v6 : Int} (hX : XW X) (h : BS X t L a b) (c0 : 0 ≤ a 96 3) (c1 : a 96 3 < 40) (hr : row = 97 ∨ row = 98 ∨ row = 99) (ra : Run X ρ 52 [(1, 96), (1, 1), (1, 3), (1, row)] a rl a') (rb : Run X ρ 248 [(1, 148)] b [(1, v6)] m4) : Fr WB b m4 ∧ ((rl = [(1, 0)] ∧ v6 = 0 ∧ FL a' m4 ∧ Fr WA a a') ∨ (rl = [(1, 1)] ∧ v6 = 1 ∧ ∃ v, 0 ≤ v ∧ v < a 3 7 ∧ BS X t L a' m4 ∧ m4 148 13 = v ∧ a' row (a 96 3) = v ∧ Fr (fun x k => (x = 1 ∧ 3 ≤ k) ∨ (x = row ∧ k = a 96 3)) a a' ∧ Fr PM b m4)) := by
  have hC := h.2.1
  have hp := hC.1.2.1.f
  obtain ⟨N, ig, ra⟩ := Run_CR ra rfl
  have ra : MR X ρ 5 0 0 qP52 N 0 [96, 1, 3, row, 0] [] a (ig, rl, a') := ra
  obtain ⟨M, ig', rb⟩ := Run_CR rb rfl
  have rb : MR X ρ 1 0 0 qP248 M 0 [148] [] b (ig', [(1, v6)], m4) := rb
  obtain ⟨v5, m5, r5, -, e5⟩ := k248_0 rb
  cases e5
  rw [hC.1.2.1.bn, ← hp.1] at r5
  have B := named h.1.1.2 hC.2.2.2.1.2.1 (by decide) (by decide) hp.2.1 hp.2.2 r5
  obtain ⟨v4, m2, r2, A'⟩ := k52_0 ra
  have A := lookF (h.2.1.1.2.1.1.1.2.1) hp.2.1 hp.2.2 r2
  refine nameT hX h c0 c1 hr hp.2.2 (fun k k0 k1 => ?_) A ?_ B
  · have := hC.2.1.2 k k0 k1
    rw [Int.zero_add] at this
    exact this
  · rcases A' with ⟨e, A'⟩ | ⟨e, y, e2, m13, r13, A'⟩
    · cases A'; exact Or.inl ⟨e, rfl, rfl⟩
    · cases A'
      rw [e2] at r13
      exact Or.inr ⟨e, rfl, r13⟩
set_option maxRecDepth 16384 in
theorem L244_ok {b : MM} {at_ : Int} : (f217 b 148 8 ≠ 0 ∧ (L244_3 b 148 at_ 8).2.2 = 8) ∨ (f217 b 148 8 = 0 ∧ f217 b 148 9 ≠ 0 ∧ (L244_3 b 148 at_ 8).2.2 = 9) ∨ (f217 b 148 8 = 0 ∧ f217 b 148 9 = 0 ∧ f217 b 148 10 ≠ 0 ∧ (L244_3 b 148 at_ 8).2.2 = 10) ∨ (f217 b 148 8 = 0 ∧ f217 b 148 9 = 0 ∧ f217 b 148 10 = 0 ∧ f217 b 148 11 ≠ 0 ∧ (L244_3 b 148 at_ 8).2.2 = 11) ∨ (f217 b 148 8 = 0 ∧ f217 b 148 9 = 0 ∧ f217 b 148 10 = 0 ∧ f217 b 148 11 = 0 ∧ f217 b 148 12 ≠ 0 ∧ (L244_3 b 148 at_ 8).2.2 = 12) ∨ (f217 b 148 8 = 0 ∧ f217 b 148 9 = 0 ∧ f217 b 148 10 = 0 ∧ f217 b 148 11 = 0 ∧ f217 b 148 12 = 0 ∧ (L244_3 b 148 at_ 8).2.2 = 13) := by
  have st : ∀ k, k ≤ 12 → 8 ≤ k → K244_3 b 148 at_ 8 k = if f217 b 148 k = 0 then .inl (k + 1) else .inr (1, 0, k) := fun k k1 k0 => by
    show S244_3 b 148 at_ k = _
    unfold S244_3
    rw [if_neg (by omega), s32_id (z := k + 1) (by omega) (by omega)]
  have e13 : Lp (K244_3 b 148 at_ 8) 13 = (1, 0, 13) := Lp_inr (by
    show S244_3 b 148 at_ 13 = _
    unfold S244_3
    rw [if_pos (by decide)])
  have s8 := st 8 (by decide) (by decide)
  have s9 := st 9 (by decide) (by decide)
  have s10 := st 10 (by decide) (by decide)
  have s11 := st 11 (by decide) (by decide)
  have s12 := st 12 (by decide) (by decide)
  unfold L244_3
  by_cases c8 : f217 b 148 8 = 0
  · rw [if_pos c8] at s8
    rw [Lp_inl s8, show (8 + 1 : Int) = 9 from rfl]
    right
    by_cases c9 : f217 b 148 9 = 0
    · rw [if_pos c9] at s9
      rw [Lp_inl s9, show (9 + 1 : Int) = 10 from rfl]
      right
      by_cases c10 : f217 b 148 10 = 0
      · rw [if_pos c10] at s10
        rw [Lp_inl s10, show (10 + 1 : Int) = 11 from rfl]
        right
        by_cases c11 : f217 b 148 11 = 0
        · rw [if_pos c11] at s11
          rw [Lp_inl s11, show (11 + 1 : Int) = 12 from rfl]
          right
          by_cases c12 : f217 b 148 12 = 0
          · rw [if_pos c12] at s12
            rw [Lp_inl s12, show (12 + 1 : Int) = 13 from rfl, e13]
            exact Or.inr ⟨c8, c9, c10, c11, c12, rfl⟩
          · rw [if_neg c12] at s12
            rw [Lp_inr s12]
            exact Or.inl ⟨c8, c9, c10, c11, c12, rfl⟩
        · rw [if_neg c11] at s11
          rw [Lp_inr s11]
          exact Or.inl ⟨c8, c9, c10, c11, rfl⟩
      · rw [if_neg c10] at s10
        rw [Lp_inr s10]
        exact Or.inl ⟨c8, c9, c10, rfl⟩
    · rw [if_neg c9] at s9
      rw [Lp_inr s9]
      exact Or.inl ⟨c8, c9, rfl⟩
  · rw [if_neg c8] at s8
    rw [Lp_inr s8]
    exact Or.inl ⟨c8, rfl⟩
