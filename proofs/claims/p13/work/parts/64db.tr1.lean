/-! The matching: what both sides go by. -/
set_option maxRecDepth 16384 in
theorem jbst_0 (t : Int) : jbst t 0 = 0 := by
  rw [jbst_eq]
  cases Nat.beq t.toNat 2 <;> decide
set_option maxRecDepth 16384 in
theorem shl24 {i j : Int} (i0 : 0 ≤ i) (i1 : i < 24) (j0 : 0 ≤ j) (j1 : j < 24) : jand (jshl 1 i) (jshl 1 j) = 0 ↔ ¬ i = j := by
  have key : ∀ i : Nat, i < 24 → ∀ j : Nat, j < 24 → (o32 (fun a b => a &&& b) (o32 (fun a b => a <<< (b &&& 31)) 1 (i : Int)) (o32 (fun a b => a <<< (b &&& 31)) 1 (j : Int)) = 0 ↔ ¬ (i : Int) = (j : Int)) := by decide +kernel
  obtain ⟨n, rfl⟩ : ∃ n : Nat, i = (n : Int) := ⟨i.toNat, by omega⟩
  obtain ⟨k, rfl⟩ : ∃ k : Nat, j = (k : Int) := ⟨j.toNat, by omega⟩
  rw [jand_eq, jshl_eq, jshl_eq]
  exact key n (by omega) k (by omega)
set_option maxRecDepth 16384 in
theorem mark24 {t i j : Int} (i0 : 0 ≤ i) (i1 : i < 24) (j0 : 0 ≤ j) (j1 : j < 24) : jand (jor t (jshl 1 i)) (jshl 1 j) = 0 ↔ jand t (jshl 1 j) = 0 ∧ ¬ i = j := by
  rw [jor_jand0, shl24 i0 i1 j0 j1]
set_option maxRecDepth 16384 in
/-- which slot one could have -/
noncomputable def slt (a : MM) (p f : Int) : Int := if f132 a 15 p f = -1 then -1 else 3 * f + f132 a 15 p f
set_option maxRecDepth 16384 in
theorem slt_r {a b : MM} (h : Sx a b 15) {p f : Int} (f0 : 0 ≤ f) (f1 : f < a 3 7) : slt a p f = -1 ∨ (0 ≤ slt a p f ∧ slt a p f < 24) := by
  unfold slt
  by_cases c : f132 a 15 p f = -1
  · rw [if_pos c]; exact Or.inl rfl
  · rw [if_neg c]
    obtain ⟨-, q0, q1, -⟩ := i132 h f0 f1 c
    have := h.f.2.2
    exact Or.inr ⟨by omega, by omega⟩
set_option maxRecDepth 16384 in
def Qx (x k : Int) : Prop := (x = 88 ∧ k = 5) ∨ (x = 90 ∧ 0 ≤ k)
set_option maxRecDepth 16384 in
def Qy (x k : Int) : Prop := (x = 159 ∧ 0 ≤ k) ∨ (x = 161 ∧ 0 ≤ k)
set_option maxRecDepth 16384 in
def Qx2 (x k : Int) : Prop := Qx x k ∨ (x = 91 ∧ 0 ≤ k)
set_option maxRecDepth 16384 in
def Qy2 (x k : Int) : Prop := Qy x k ∨ (x = 160 ∧ 0 ≤ k) ∨ (x = 162 ∧ 0 ≤ k)
set_option maxRecDepth 16384 in
/-- what stays while one matches -/
def MC (a x y : MM) : Prop := (x 88 0 = 89 ∧ x 88 1 = 90 ∧ x 88 2 = 91 ∧ x 88 3 = a 3 6 ∧ x 88 4 = a 3 7 ∧ x 90 (-1) = 24 ∧ x 91 (-1) = 8) ∧ (y 148 25 = 159 ∧ y 148 26 = 160 ∧ y 148 27 = 161 ∧ y 148 28 = 162) ∧ Sx a y 15 ∧ ∀ p f, 0 ≤ p → p < a 3 6 → 0 ≤ f → f < a 3 7 → x 89 (8 * p + f) = if a 17 p = -1 then slt a p f else -1
set_option maxRecDepth 16384 in
theorem MC_fr {a x y x' y' : MM} (h : MC a x y) (hx : Fr Qx2 x x') (hy : Fr Qy2 y y') : MC a x' y' := by
  obtain ⟨⟨h1, h2, h3, h4, h5, h6, h7⟩, ⟨g1, g2, g3, g4⟩, hS, hs⟩ := h
  have ex : ∀ z k, (z ≠ 88 ∨ k ≠ 5) → z ≠ 90 ∨ k < 0 → z ≠ 91 ∨ k < 0 → x' z k = x z k := fun z k q1 q2 q3 => hx z k (by unfold Qx2 Qx; omega)
  have ey : ∀ z k, z = 148 ∨ z = 150 → y' z k = y z k := fun z k q => hy z k (by unfold Qy2 Qy; omega)
  refine ⟨⟨?_, ?_, ?_, ?_, ?_, ?_, ?_⟩, ⟨?_, ?_, ?_, ?_⟩, Sx_b hS (fun k => ey _ _ (by omega)) (ey _ _ (by omega)), fun p f p0 p1 f0 f1 => ?_⟩
  · rw [ex _ _ (by omega) (by omega) (by omega)]; exact h1
  · rw [ex _ _ (by omega) (by omega) (by omega)]; exact h2
  · rw [ex _ _ (by omega) (by omega) (by omega)]; exact h3
  · rw [ex _ _ (by omega) (by omega) (by omega)]; exact h4
  · rw [ex _ _ (by omega) (by omega) (by omega)]; exact h5
  · rw [ex _ _ (by omega) (by omega) (by omega)]; exact h6
  · rw [ex _ _ (by omega) (by omega) (by omega)]; exact h7
  · rw [ey _ _ (by omega)]; exact g1
  · rw [ey _ _ (by omega)]; exact g2
  · rw [ey _ _ (by omega)]; exact g3
  · rw [ey _ _ (by omega)]; exact g4
  · rw [ex _ _ (by omega) (by omega) (by omega)]; exact hs p f p0 p1 f0 f1
set_option maxRecDepth 16384 in
theorem MC_f1 {a x y x' y' : MM} (h : MC a x y) (hx : Fr Qx x x') (hy : Fr Qy y y') : MC a x' y' := MC_fr h (hx.mo fun z k q => Or.inl q) (hy.mo fun z k q => Or.inl q)
set_option maxRecDepth 16384 in
theorem MC_65 {a x y : MM} (h : MC a x y) {p f : Int} (p0 : 0 ≤ p) (p1 : p < a 3 6) (f0 : 0 ≤ f) (f1 : f < a 3 7) : f65 x 88 p f = if a 17 p = -1 then slt a p f else -1 := by
  have hp := h.2.2.1.p.2.2
  have hf := h.2.2.1.f.2.2
  unfold f65
  rw [h.1.1, if_neg (by omega), if_neg (by omega), if_neg (by omega), if_neg (by omega), ad_c (by omega) (by omega) (by omega) (by omega)]
  exact h.2.2.2 p f p0 p1 f0 f1
set_option maxRecDepth 16384 in
theorem MC_275 {a x y : MM} (h : MC a x y) {p f : Int} (p0 : 0 ≤ p) (p1 : p < a 3 6) (f0 : 0 ≤ f) (f1 : f < a 3 7) : f275 y 148 p f = slt a p f := by
  have hf := h.2.2.1.f.2.2
  unfold f275 slt
  rw [← q132 h.2.2.1 p0 p1 f0 f1]
  by_cases c : f132 a 15 p f = -1
  · rw [if_pos c, if_pos c]
  · obtain ⟨-, q0, q1, -⟩ := i132 h.2.2.1 f0 f1 c
    rw [if_neg c, if_neg c, s32_id (z := 3 * f) (by omega) (by omega), s32_id (by omega) (by omega)]
set_option maxRecDepth 16384 in
/-- who holds what, alike -/
def HD (a x y : MM) : Prop := ∀ s, 0 ≤ s → s < 24 → x 90 s = y 159 s ∧ (x 90 s = -1 ∨ (0 ≤ x 90 s ∧ x 90 s < a 3 6 ∧ a 17 (x 90 s) = -1))
abbrev Unt (x : MM) (s : Int) : Prop := jand (x 88 5) (jshl 1 s) = 0
set_option maxRecDepth 16384 in
/-- what was tried or is closed -/
def TD (x y : MM) : Prop := ∀ s, 0 ≤ s → s < 24 → (Unt x s ↔ (y 161 s = 0 ∧ y 162 s = 0))
set_option maxRecDepth 16384 in
def cnt (P : Int → Prop) [DecidablePred P] (n : Nat) : Nat := (List.range n).countP (fun (k : Nat) => decide (P (k : Int)))
set_option maxRecDepth 16384 in
theorem cnt_s (P : Int → Prop) [DecidablePred P] (n : Nat) : cnt P (n + 1) = cnt P n + (if P (n : Int) then 1 else 0) := by
  unfold cnt
  rw [List.range_succ, List.countP_append, List.countP_cons, List.countP_nil]
  by_cases c : P (n : Int)
  · simp [c]
  · simp [c]
set_option maxRecDepth 16384 in
theorem cnt_le {P Q : Int → Prop} [DecidablePred P] [DecidablePred Q] : ∀ (n : Nat), (∀ s, 0 ≤ s → s < (n : Int) → P s → Q s) → cnt P n ≤ cnt Q n := by
  intro n
  induction n with
  | zero => intro _; exact Nat.le_refl _
  | succ n ih =>
    intro h
    have h1 := ih (fun s s0 s1 => h s s0 (by omega))
    have h2 := h n (by omega) (by omega)
    rw [cnt_s, cnt_s]
    by_cases c : P (n : Int)
    · rw [if_pos c, if_pos (h2 c)]; omega
    · rw [if_neg c]; split <;> omega
set_option maxRecDepth 16384 in
theorem cnt_lt {P Q : Int → Prop} [DecidablePred P] [DecidablePred Q] {s0 : Int} : ∀ (n : Nat), (∀ s, 0 ≤ s → s < (n : Int) → P s → Q s) → 0 ≤ s0 → s0 < (n : Int) → ¬ P s0 → Q s0 → cnt P n + 1 ≤ cnt Q n := by
  intro n
  induction n with
  | zero => intro _ a b; omega
  | succ n ih =>
    intro h a b c d
    have h2 := h n (by omega) (by omega)
    rw [cnt_s, cnt_s]
    by_cases e : s0 = (n : Int)
    · subst e
      have h1 := cnt_le n (fun s s0 s1 => h s s0 (by omega))
      rw [if_neg c, if_pos d]; omega
    · have h1 := ih (fun s s0 s1 => h s s0 (by omega)) a (by omega) c d
      by_cases g : P (n : Int)
      · rw [if_pos g, if_pos (h2 g)]; omega
      · rw [if_neg g]; split <;> omega
set_option maxRecDepth 16384 in
theorem cnt_1 {P Q : Int → Prop} [DecidablePred P] [DecidablePred Q] {s0 : Int} : ∀ (n : Nat), (∀ s, 0 ≤ s → s < (n : Int) → s ≠ s0 → P s → Q s) → cnt P n ≤ cnt Q n + 1 := by
  intro n
  induction n with
  | zero => intro _; exact Nat.zero_le _
  | succ n ih =>
    intro h
    rw [cnt_s, cnt_s]
    by_cases e : (n : Int) = s0
    · have h1 := cnt_le n (P := P) (Q := Q) (fun s q0 q1 => h s q0 (by omega) (by omega))
      split <;> split <;> omega
    · have h1 := ih (fun s q0 q1 => h s q0 (by omega))
      have h2 := h n (by omega) (by omega) e
      by_cases g : P (n : Int)
      · rw [if_pos g, if_pos (h2 g)]; omega
      · rw [if_neg g]; split <;> omega
set_option maxRecDepth 16384 in
theorem cnt_0 {P : Int → Prop} [DecidablePred P] : ∀ (n : Nat), (∀ s, 0 ≤ s → s < (n : Int) → ¬ P s) → cnt P n = 0 := by
  intro n
  induction n with
  | zero => intro _; rfl
  | succ n ih =>
    intro h
    rw [cnt_s, ih (fun s q0 q1 => h s q0 (by omega)), if_neg (h n (by omega) (by omega))]
set_option maxRecDepth 16384 in
/-- slots not tried; held and not tried; held -/
noncomputable def cU (x : MM) : Nat := cnt (fun s => Unt x s) 24
set_option maxRecDepth 16384 in
noncomputable def cH (x : MM) : Nat := cnt (fun s => Unt x s ∧ x 90 s ≠ -1) 24
set_option maxRecDepth 16384 in
noncomputable def cA (x : MM) : Nat := cnt (fun s => x 90 s ≠ -1) 24
set_option maxRecDepth 16384 in
theorem cH_le (x : MM) : cH x ≤ cA x := cnt_le 24 (fun s _ _ h => h.2)
