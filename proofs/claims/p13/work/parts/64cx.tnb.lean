/-! Fits: forms that some could sign together. -/
set_option maxRecDepth 16384 in
theorem B3_and (u v w : Bool) {k : Int} (k0 : 0 ≤ k) (k3 : k < 3) : jand (B3 u v w) (jshl 1 k) = 0 ↔ (if k = 0 then u else if k = 1 then v else w) = false := by
  have key : ∀ u v w : Bool, ∀ k : Nat, k < 3 → (o32 (fun a b => a &&& b) (B3 u v w) (o32 (fun a b => a <<< (b &&& 31)) 1 (k : Int)) = 0 ↔ (if (k : Int) = 0 then u else if (k : Int) = 1 then v else w) = false) := by decide
  obtain ⟨n, rfl⟩ : ∃ n : Nat, k = (n : Int) := ⟨k.toNat, by omega⟩
  rw [jand_eq, jshl_eq]
  exact key u v w n (by omega)
set_option maxRecDepth 16384 in
theorem dB_f {p : Prop} : dB p = false ↔ ¬ p := ⟨fun h q => by rw [dB_t.mpr q] at h; exact absurd h (by decide), fun h => by
  cases q : dB p with
  | false => rfl
  | true => exact absurd (dB_t.mp q) h⟩
set_option maxRecDepth 16384 in
/-- the mask of some numbers below 3 -/
noncomputable def Mk (W : Int → Prop) : Int := B3 (dB (W 0)) (dB (W 1)) (dB (W 2))
set_option maxRecDepth 16384 in
theorem Mk_and {W : Int → Prop} {k : Int} (k0 : 0 ≤ k) (k3 : k < 3) : jand (Mk W) (jshl 1 k) = 0 ↔ ¬ W k := by
  unfold Mk
  rw [B3_and _ _ _ k0 k3]
  have : k = 0 ∨ k = 1 ∨ k = 2 := by omega
  rcases this with rfl | rfl | rfl
  · exact dB_f
  · exact dB_f
  · exact dB_f
set_option maxRecDepth 16384 in
theorem Mk_or {W V : Int → Prop} {k : Int} (k0 : 0 ≤ k) (k3 : k < 3) (h : ∀ j, 0 ≤ j → j < 3 → (V j ↔ (W j ∨ k = j))) : jor (Mk W) (jshl 1 k) = Mk V := by
  have e : ∀ j, 0 ≤ j → j < 3 → (dB (W j) || decide (k = j)) = dB (V j) := fun j j0 j3 => dB_or ((h j j0 j3).trans ⟨fun q => q.imp id (fun q => decide_eq_true q), fun q => q.imp id (fun q => of_decide_eq_true q)⟩)
  unfold Mk
  rw [B3_or _ _ _ k0 k3, e 0 (by decide) (by decide), e 1 (by decide) (by decide), e 2 (by decide) (by decide)]
set_option maxRecDepth 16384 in
theorem Mk_c {W V : Int → Prop} (h : ∀ j, 0 ≤ j → j < 3 → (V j ↔ W j)) : Mk W = Mk V := by
  unfold Mk
  rw [dB_c (h 0 (by decide) (by decide)), dB_c (h 1 (by decide) (by decide)), dB_c (h 2 (by decide) (by decide))]
set_option maxRecDepth 16384 in
theorem Mk_0 {W : Int → Prop} (h : ∀ j, ¬ W j) : 0 = Mk W := by
  unfold Mk
  rw [dB_f.mpr (h 0), dB_f.mpr (h 1), dB_f.mpr (h 2)]
  rfl
set_option maxRecDepth 16384 in
/-- a list of parts: all there, no two the same -/
def Ok (P : Int → Int) (S : Int → Prop) (n : Int) : Prop := (∀ p, 0 ≤ p → p < n → S p → ¬ P p = -1) ∧ (∀ p q, 0 ≤ p → p < q → q < n → S p → S q → ¬ P p = P q)
set_option maxRecDepth 16384 in
def Wk (P : Int → Int) (S : Int → Prop) (i k : Int) : Prop := ∃ p, 0 ≤ p ∧ p < i ∧ S p ∧ P p = k
set_option maxRecDepth 16384 in
theorem Ok_no {P : Int → Int} {S : Int → Prop} {i : Int} (h : ¬ S i) : Ok P S (i + 1) ↔ Ok P S i := ⟨fun ⟨q1, q2⟩ => ⟨fun p p0 p1 => q1 p p0 (by omega), fun p q p0 p1 p2 => q2 p q p0 p1 (by omega)⟩, fun ⟨q1, q2⟩ => ⟨fun p p0 p1 hp => by
  by_cases d : p = i
  · exact absurd (d ▸ hp) h
  · exact q1 p p0 (by omega) hp, fun p q p0 p1 p2 hp hq => by
  by_cases d : q = i
  · exact absurd (d ▸ hq) h
  · exact q2 p q p0 p1 (by omega) hp hq⟩⟩
set_option maxRecDepth 16384 in
theorem Ok_yes {P : Int → Int} {S : Int → Prop} {i : Int} (i0 : 0 ≤ i) (h : S i) : Ok P S (i + 1) ↔ (Ok P S i ∧ ¬ P i = -1 ∧ ¬ Wk P S i (P i)) := ⟨fun ⟨q1, q2⟩ => ⟨⟨fun p p0 p1 => q1 p p0 (by omega), fun p q p0 p1 p2 => q2 p q p0 p1 (by omega)⟩, q1 i i0 (by omega) h, fun ⟨p, p0, p1, p2, p3⟩ => q2 p i p0 p1 (by omega) p2 h p3⟩, fun ⟨⟨q1, q2⟩, q3, q4⟩ => ⟨fun p p0 p1 hp => by
  by_cases d : p = i
  · rw [d]; exact q3
  · exact q1 p p0 (by omega) hp, fun p q p0 p1 p2 hp hq => by
  by_cases d : q = i
  · rw [d]
    exact fun e => q4 ⟨p, p0, by omega, hp, e⟩
  · exact q2 p q p0 p1 (by omega) hp hq⟩⟩
set_option maxRecDepth 16384 in
theorem Ok_le {P : Int → Int} {S : Int → Prop} {i n : Int} (hi : i ≤ n) (h : Ok P S n) : Ok P S i := ⟨fun p p0 p1 => h.1 p p0 (by omega), fun p q p0 p1 p2 => h.2 p q p0 p1 (by omega)⟩
set_option maxRecDepth 16384 in
theorem q39 {a b : MM} {s f x : Int} {S : Int → Prop} (hS : ∀ p, 0 ≤ p → p < 8 → (jand x (jshl 1 p) = 0 ↔ ¬ S p)) : f39 a x f s = 0 ↔ ¬ Ok (fun p => f131 a s p f) S 8 := by
  have r : ∀ p, f131 a s p f = -1 ∨ (0 ≤ f131 a s p f ∧ f131 a s p f < 3) := fun p => by
    unfold f131
    rcases f133_r (a := a) (s := s) (u := f110 a s f) (p := p) (f := f) with h | h | h | h
    · exact Or.inl h
    · exact Or.inr (by omega)
    · exact Or.inr (by omega)
    · exact Or.inr (by omega)
  unfold f39
  generalize hP : (fun p => f131 a s p f) = P
  have hP' : ∀ p, f131 a s p f = P p := fun p => congrFun hP p
  have key : ∀ t : Nat × Int × (Int × Int × Int), ((t.1 = 1 ∧ Ok P S 8) ∨ (t.1 = 2 ∧ t.2.1 = 0 ∧ ¬ Ok P S 8)) → ((if t.1 = 1 then (1 : Int) else t.2.1) = 0 ↔ ¬ Ok P S 8) := by
    rintro t (⟨t1, t2⟩ | ⟨t1, t2, t3⟩)
    · rw [if_pos t1]
      exact ⟨fun q => absurd q (by decide), fun q => absurd t2 q⟩
    · rw [if_neg (by omega), t2]
      exact ⟨fun _ => t3, fun _ => rfl⟩
  refine key _ ?_
  unfold L39_5
  refine Lp_ind (f := K39_5 a x f s 0 0 0) (P := fun y => 0 ≤ y.2.1 ∧ y.2.1 ≤ 8 ∧ y.1 = Mk (Wk P S y.2.1) ∧ Ok P S y.2.1) (Q := fun t => (t.1 = 1 ∧ Ok P S 8) ∨ (t.1 = 2 ∧ t.2.1 = 0 ∧ ¬ Ok P S 8)) (fun y => (8 - y.2.1).toNat) ?_ (0, 0, 0) ⟨Int.le_refl _, by decide, Mk_0 (fun j ⟨p, p0, p1, _⟩ => by dsimp only at p1; omega), ⟨fun p p0 p1 => by dsimp only at p1; omega, fun p q p0 p1 p2 => by dsimp only at p2; omega⟩⟩
  rintro ⟨y, i, z⟩ ⟨c2, c3, c4, c5⟩
  dsimp only at c2 c3 c4 c5
  have eA : K39_5 a x f s 0 0 0 (y, i, z) = S39_5 a x f s y i z := rfl
  rw [eA]
  unfold S39_5
  by_cases c : 8 ≤ i
  · rw [if_pos c]
    have : i = 8 := by omega
    rw [this] at c5
    exact Or.inr ⟨_, rfl, Or.inl ⟨rfl, c5⟩⟩
  · rw [if_neg c, s32_id (z := i + 1) (by omega) (by omega), hP']
    have g := hS i c2 (by omega)
    have hr := r i
    rw [hP'] at hr
    by_cases d : jand x (jshl 1 i) = 0
    · rw [if_pos d]
      have n := g.mp d
      refine Or.inl ⟨_, rfl, ⟨by dsimp only; omega, by dsimp only; omega, ?_, (Ok_no n).mpr c5⟩, by dsimp only; omega⟩
      dsimp only
      rw [c4]
      exact Mk_c (fun k _ _ => ⟨fun ⟨p, p0, p1, p2, p3⟩ => ⟨p, p0, by
        by_cases e : p = i
        · exact absurd (e ▸ p2) n
        · omega, p2, p3⟩, fun ⟨p, p0, p1, p2⟩ => ⟨p, p0, by omega, p2⟩⟩)
    · rw [if_neg d]
      have n : S i := by
        by_cases e : S i
        · exact e
        · exact absurd (g.mpr e) d
      by_cases e1 : P i = -1
      · rw [if_pos e1]
        exact Or.inr ⟨_, rfl, Or.inr ⟨rfl, rfl, fun w => w.1 i c2 (by omega) n e1⟩⟩
      · rw [if_neg e1]
        have hr : 0 ≤ P i ∧ P i < 3 := hr.elim (fun q => absurd q e1) id
        by_cases e2 : jand y (jshl 1 (P i)) = 0
        · rw [if_pos e2]
          have w := e2
          rw [c4, Mk_and hr.1 hr.2] at w
          refine Or.inl ⟨_, rfl, ⟨by dsimp only; omega, by dsimp only; omega, ?_, (Ok_yes c2 n).mpr ⟨c5, e1, w⟩⟩, by dsimp only; omega⟩
          dsimp only
          rw [c4]
          exact Mk_or hr.1 hr.2 (fun k _ _ => ⟨fun ⟨p, p0, p1, p2, p3⟩ => by
            by_cases e : p = i
            · exact Or.inr (e ▸ p3)
            · exact Or.inl ⟨p, p0, by omega, p2, p3⟩, fun q => by
            rcases q with ⟨p, p0, p1, p2⟩ | q
            · exact ⟨p, p0, by omega, p2⟩
            · exact ⟨i, c2, by omega, n, q⟩⟩)
        · rw [if_neg e2]
          have w := e2
          rw [c4, Mk_and hr.1 hr.2] at w
          exact Or.inr ⟨_, rfl, Or.inr ⟨rfl, rfl, fun v => w (fun q => ((Ok_yes c2 n).mp (Ok_le (by omega) v)).2.2 q)⟩⟩
