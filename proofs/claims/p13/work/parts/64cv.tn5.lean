/-! Questions: when. -/
set_option maxRecDepth 16384 in
/-- three bits -/
def B3 (u v w : Bool) : Int := (if u then 1 else 0) + (if v then 2 else 0) + (if w then 4 else 0)
set_option maxRecDepth 16384 in
theorem B3_inj {u v w u' v' w' : Bool} (h : B3 u v w = B3 u' v' w') : u = u' ∧ v = v' ∧ w = w' := by
  revert h
  cases u <;> cases v <;> cases w <;> cases u' <;> cases v' <;> cases w' <;> decide
set_option maxRecDepth 16384 in
theorem B3_or (u v w : Bool) {k : Int} (k0 : 0 ≤ k) (k3 : k < 3) : jor (B3 u v w) (jshl 1 k) = B3 (u || decide (k = 0)) (v || decide (k = 1)) (w || decide (k = 2)) := by
  have key : ∀ u v w : Bool, ∀ k : Nat, k < 3 → o32 (fun a b => a ||| b) (B3 u v w) (o32 (fun a b => a <<< (b &&& 31)) 1 (k : Int)) = B3 (u || decide ((k : Int) = 0)) (v || decide ((k : Int) = 1)) (w || decide ((k : Int) = 2)) := by decide
  obtain ⟨n, rfl⟩ : ∃ n : Nat, k = (n : Int) := ⟨k.toNat, by omega⟩
  rw [jor_eq, jshl_eq]
  exact key u v w n (by omega)
set_option maxRecDepth 16384 in
theorem B3_or0 (u v w : Bool) : jor (B3 u v w) 0 = B3 u v w := by
  have key : ∀ u v w : Bool, o32 (fun a b => a ||| b) (B3 u v w) 0 = B3 u v w := by decide
  rw [jor_eq]
  exact key u v w
set_option maxRecDepth 16384 in
noncomputable def dB (p : Prop) : Bool := @decide p (Classical.propDecidable p)
set_option maxRecDepth 16384 in
theorem dB_t {p : Prop} : dB p = true ↔ p := by
  unfold dB
  exact @decide_eq_true_iff p (Classical.propDecidable p)
set_option maxRecDepth 16384 in
theorem dB_c {p q : Prop} (h : p ↔ q) : dB p = dB q := by
  have : p = q := propext h
  rw [this]
set_option maxRecDepth 16384 in
theorem dB_or {p : Prop} {x : Bool} {q : Prop} (h : q ↔ (p ∨ x = true)) : (dB p || x) = dB q := by
  rw [dB_c h]
  by_cases c : p
  · rw [dB_t.mpr c, dB_t.mpr (Or.inl c)]
    rfl
  · cases x with
    | true =>
      rw [dB_t.mpr (Or.inr rfl)]
      exact Bool.or_true _
    | false =>
      rw [Bool.or_false]
      exact dB_c ⟨Or.inl, fun z => z.elim id (fun q => absurd q Bool.false_ne_true)⟩
set_option maxRecDepth 16384 in
theorem f133_r {a : MM} {s u p f : Int} : f133 a s u p f = -1 ∨ f133 a s u p f = 0 ∨ f133 a s u p f = 1 ∨ f133 a s u p f = 2 := by
  unfold f133
  (repeat' split) <;> simp
set_option maxRecDepth 16384 in
/-- a part that can be signed: which, and its slot is empty -/
theorem f132_r {a : MM} {s p f : Int} : f132 a s p f = -1 ∨ ((f132 a s p f = 0 ∨ f132 a s p f = 1 ∨ f132 a s p f = 2) ∧ f142 a s f (f132 a s p f) = -1) := by
  by_cases c : f127 a s f = 0 ∧ f126 a s p f = 0 ∧ f142 a s f (f133 a s (f128 a s f) p f) = -1
  · have e : f132 a s p f = f133 a s (f128 a s f) p f := by
      unfold f132
      rw [if_pos c.1, if_pos c.2.1, if_pos c.2.2]
    rw [e]
    rcases f133_r (a := a) (s := s) (u := f128 a s f) (p := p) (f := f) with h | h | h | h
    · exact Or.inl h
    · exact Or.inr ⟨Or.inl h, c.2.2⟩
    · exact Or.inr ⟨Or.inr (Or.inl h), c.2.2⟩
    · exact Or.inr ⟨Or.inr (Or.inr h), c.2.2⟩
  · left
    unfold f132
    split
    · split
      · split
        · exact absurd ⟨by assumption, by assumption, by assumption⟩ c
        · rfl
      · rfl
    · rfl
set_option maxRecDepth 16384 in
/-- someone ahead of i can sign at k; today too -/
def Cs (a : MM) (s f i k : Int) : Prop := ∃ j, 0 ≤ j ∧ j < i ∧ f132 a s j f = k
set_option maxRecDepth 16384 in
def Ct (a : MM) (s f i k : Int) : Prop := ∃ j, 0 ≤ j ∧ j < i ∧ f132 a s j f = k ∧ f141 a s j = -1
set_option maxRecDepth 16384 in
theorem Cs_s {a : MM} {s f i k : Int} (i0 : 0 ≤ i) : Cs a s f (i + 1) k ↔ (Cs a s f i k ∨ f132 a s i f = k) := ⟨fun ⟨j, j0, j1, j2⟩ => by
  by_cases d : j = i
  · rw [d] at j2; exact Or.inr j2
  · exact Or.inl ⟨j, j0, by omega, j2⟩, fun h => by
  rcases h with ⟨j, j0, j1, j2⟩ | h
  · exact ⟨j, j0, by omega, j2⟩
  · exact ⟨i, i0, by omega, h⟩⟩
set_option maxRecDepth 16384 in
theorem Ct_s {a : MM} {s f i k : Int} (i0 : 0 ≤ i) : Ct a s f (i + 1) k ↔ (Ct a s f i k ∨ (f132 a s i f = k ∧ f141 a s i = -1)) := ⟨fun ⟨j, j0, j1, j2⟩ => by
  by_cases d : j = i
  · rw [d] at j2; exact Or.inr j2
  · exact Or.inl ⟨j, j0, by omega, j2⟩, fun h => by
  rcases h with ⟨j, j0, j1, j2⟩ | h
  · exact ⟨j, j0, by omega, j2⟩
  · exact ⟨i, i0, by omega, h⟩⟩
set_option maxRecDepth 16384 in
theorem q115a {a b : MM} {s : Int} (h : Sx a b s) (f : Int) : (L115_7 a s f 0 0 0 0).2.2.1 = B3 (dB (Cs a s f (a 3 6) 0)) (dB (Cs a s f (a 3 6) 1)) (dB (Cs a s f (a 3 6) 2)) ∧ (L115_7 a s f 0 0 0 0).2.2.2.1 = B3 (dB (Ct a s f (a 3 6) 0)) (dB (Ct a s f (a 3 6) 1)) (dB (Ct a s f (a 3 6) 2)) := by
  obtain ⟨e, e0, e8⟩ := h.p
  have hs0 := h.le
  have z1 : ∀ k, dB (Cs a s f 0 k) = false := fun k => by
    cases q : dB (Cs a s f 0 k) with
    | false => rfl
    | true => obtain ⟨j, j0, j1, -⟩ := dB_t.mp q; omega
  have z2 : ∀ k, dB (Ct a s f 0 k) = false := fun k => by
    cases q : dB (Ct a s f 0 k) with
    | false => rfl
    | true => obtain ⟨j, j0, j1, -⟩ := dB_t.mp q; omega
  unfold L115_7
  refine Lp_ind (f := K115_7 a s f 0 0 0 0) (P := fun x => 0 ≤ x.2.2.1 ∧ x.2.2.1 ≤ a 3 6 ∧ x.1 = B3 (dB (Cs a s f x.2.2.1 0)) (dB (Cs a s f x.2.2.1 1)) (dB (Cs a s f x.2.2.1 2)) ∧ x.2.1 = B3 (dB (Ct a s f x.2.2.1 0)) (dB (Ct a s f x.2.2.1 1)) (dB (Ct a s f x.2.2.1 2))) (Q := fun t => t.2.2.1 = B3 (dB (Cs a s f (a 3 6) 0)) (dB (Cs a s f (a 3 6) 1)) (dB (Cs a s f (a 3 6) 2)) ∧ t.2.2.2.1 = B3 (dB (Ct a s f (a 3 6) 0)) (dB (Ct a s f (a 3 6) 1)) (dB (Ct a s f (a 3 6) 2))) (fun x => (a 3 6 - x.2.2.1).toNat) ?_ (0, 0, 0, 0) ⟨Int.le_refl _, e0, by dsimp only; rw [z1, z1, z1]; rfl, by dsimp only; rw [z2, z2, z2]; rfl⟩
  rintro ⟨x, y, i, w⟩ ⟨c2, c3, c4, c5⟩
  dsimp only at c2 c3 c4 c5
  have eA : K115_7 a s f 0 0 0 0 (x, y, i, w) = S115_7 a s f x y i w := rfl
  rw [eA]
  unfold S115_7
  rw [hs0]
  by_cases c : a 3 6 ≤ i
  · rw [if_pos c]
    have : i = a 3 6 := by omega
    rw [this] at c4 c5
    exact Or.inr ⟨_, rfl, c4, c5⟩
  · rw [if_neg c, s32_id (z := i + 1) (by omega) (by omega)]
    left
    rcases f132_r (a := a) (s := s) (p := i) (f := f) with d | ⟨d, -⟩
    · rw [if_pos d]
      have k1 : ∀ k, 0 ≤ k → dB (Cs a s f (i + 1) k) = dB (Cs a s f i k) := fun k k0 => dB_c ((Cs_s c2).trans ⟨fun q => q.elim id (fun q => by omega), Or.inl⟩)
      have k2 : ∀ k, 0 ≤ k → dB (Ct a s f (i + 1) k) = dB (Ct a s f i k) := fun k k0 => dB_c ((Ct_s c2).trans ⟨fun q => q.elim id (fun q => by omega), Or.inl⟩)
      refine ⟨_, rfl, ⟨by dsimp only; omega, by dsimp only; omega, ?_, ?_⟩, by dsimp only; omega⟩
      · dsimp only
        rw [k1 0 (by decide), k1 1 (by decide), k1 2 (by decide)]
        exact c4
      · dsimp only
        rw [k2 0 (by decide), k2 1 (by decide), k2 2 (by decide)]
        exact c5
    · rw [if_neg (by omega)]
      have k1 : ∀ k, (dB (Cs a s f i k) || decide (f132 a s i f = k)) = dB (Cs a s f (i + 1) k) := fun k => dB_or ((Cs_s c2).trans ⟨fun q => q.imp id (fun q => decide_eq_true q), fun q => q.imp id (fun q => of_decide_eq_true q)⟩)
      have m1 : jor x (jshl 1 (f132 a s i f)) = B3 (dB (Cs a s f (i + 1) 0)) (dB (Cs a s f (i + 1) 1)) (dB (Cs a s f (i + 1) 2)) := by
        rw [c4, B3_or _ _ _ (by omega) (by omega), k1, k1, k1]
      by_cases t : f141 a s i = -1
      · rw [if_pos t]
        have k2 : ∀ k, (dB (Ct a s f i k) || decide (f132 a s i f = k)) = dB (Ct a s f (i + 1) k) := fun k => dB_or ((Ct_s c2).trans ⟨fun q => q.imp id (fun q => decide_eq_true q.1), fun q => q.imp id (fun q => ⟨of_decide_eq_true q, t⟩)⟩)
        refine ⟨_, rfl, ⟨by dsimp only; omega, by dsimp only; omega, m1, ?_⟩, by dsimp only; omega⟩
        dsimp only
        rw [c5, B3_or _ _ _ (by omega) (by omega), k2, k2, k2]
      · rw [if_neg t]
        have k2 : ∀ k, dB (Ct a s f (i + 1) k) = dB (Ct a s f i k) := fun k => dB_c ((Ct_s c2).trans ⟨fun q => q.elim id (fun q => absurd q.2 t), Or.inl⟩)
        refine ⟨_, rfl, ⟨by dsimp only; omega, by dsimp only; omega, m1, ?_⟩, by dsimp only; omega⟩
        dsimp only
        rw [c5, B3_or0, k2, k2, k2]
set_option maxRecDepth 16384 in
theorem q115b {a : MM} {s f x y : Int} : (L115_74 a s f x y 0 0).2.2.1 = B3 (dB (f142 a s f 0 = -1)) (dB (f142 a s f 1 = -1)) (dB (f142 a s f 2 = -1)) := by
  unfold L115_74
  have st : ∀ (u v w : Bool) (k : Int), 0 ≤ k → k < 3 → Lp (K115_74 a s f x y 0 0) (B3 u v w, k) = Lp (K115_74 a s f x y 0 0) (B3 (u || (dB (f142 a s f k = -1) && decide (k = 0))) (v || (dB (f142 a s f k = -1) && decide (k = 1))) (w || (dB (f142 a s f k = -1) && decide (k = 2))), k + 1) := fun u v w k k0 k3 => by
    refine Lp_inl ?_
    show S115_74 a s f x y (B3 u v w) k = _
    unfold S115_74
    rw [if_neg (by omega), s32_id (z := k + 1) (by omega) (by omega)]
    by_cases d : f142 a s f k = -1
    · rw [if_pos d, B3_or _ _ _ k0 k3, dB_t.mpr d]
      rfl
    · have : dB (f142 a s f k = -1) = false := by
        cases q : dB (f142 a s f k = -1) with
        | false => rfl
        | true => exact absurd (dB_t.mp q) d
      rw [if_neg d, B3_or0, this]
      simp
  have e : ((0 : Int), (0 : Int)) = (B3 false false false, 0) := rfl
  rw [e, st _ _ _ 0 (by decide) (by decide), st _ _ _ (0 + 1) (by decide) (by decide), st _ _ _ (0 + 1 + 1) (by decide) (by decide)]
  rw [Lp_inr (f := K115_74 a s f x y 0 0) (t := (1, 0, (_, 0 + 1 + 1 + 1))) (by
    show S115_74 a s f x y _ (0 + 1 + 1 + 1) = _
    unfold S115_74
    rw [if_pos (by decide)])]
  show B3 _ _ _ = B3 _ _ _
  simp
