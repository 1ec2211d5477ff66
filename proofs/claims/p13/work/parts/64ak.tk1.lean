/-! Letters and digits: what a run of them spells, five bits or a digit of 27 a letter. -/
set_option maxRecDepth 16384 in
def isLt (c : Int) : Prop := 97 ≤ c ∧ c ≤ 122
set_option maxRecDepth 16384 in
def isDg (c : Int) : Prop := 48 ≤ c ∧ c ≤ 57
set_option maxRecDepth 16384 in
def p32 : List Int → Int := List.foldl (fun v c => v * 32 + (c - 96)) 0
set_option maxRecDepth 16384 in
def p27 : List Int → Int := List.foldl (fun v c => v * 27 + (c - 96)) 0
set_option maxRecDepth 16384 in
def p10 : List Int → Int := List.foldl (fun v c => v * 10 + (c - 48)) 0
set_option maxRecDepth 16384 in
theorem p32_s (cs : List Int) (c : Int) : p32 (cs ++ [c]) = p32 cs * 32 + (c - 96) := by
  unfold p32; rw [List.foldl_append]; rfl
set_option maxRecDepth 16384 in
theorem p27_s (cs : List Int) (c : Int) : p27 (cs ++ [c]) = p27 cs * 27 + (c - 96) := by
  unfold p27; rw [List.foldl_append]; rfl
set_option maxRecDepth 16384 in
theorem p10_s (cs : List Int) (c : Int) : p10 (cs ++ [c]) = p10 cs * 10 + (c - 48) := by
  unfold p10; rw [List.foldl_append]; rfl
set_option maxRecDepth 16384 in
/-- induction from the end -/
theorem snoc_ind {P : List Int → Prop} (h0 : P []) (h1 : ∀ cs c, P cs → P (cs ++ [c])) (cs : List Int) : P cs := by
  have key : ∀ n (l : List Int), l.length = n → P l := by
    intro n
    induction n with
    | zero => intro l hl; rw [List.length_eq_zero_iff.mp hl]; exact h0
    | succ n ih =>
      intro l hl
      have hne : l ≠ [] := fun e => by rw [e] at hl; cases hl
      rw [← List.dropLast_concat_getLast hne]
      exact h1 _ _ (ih _ (by rw [List.length_dropLast, hl]; rfl))
  exact key _ cs rfl
set_option maxRecDepth 16384 in
def allL (cs : List Int) : Prop := ∀ c ∈ cs, isLt c
set_option maxRecDepth 16384 in
theorem allL_s {cs : List Int} {c : Int} : allL (cs ++ [c]) ↔ allL cs ∧ isLt c := by
  unfold allL
  constructor
  · intro h
    exact ⟨fun x hx => h x (List.mem_append_left _ hx), h c (List.mem_append_right _ List.mem_cons_self)⟩
  · intro h x hx
    rcases List.mem_append.mp hx with hx | hx
    · exact h.1 x hx
    · rw [List.mem_singleton.mp hx]; exact h.2
set_option maxRecDepth 16384 in
theorem p32_pos {cs : List Int} : allL cs → 0 ≤ p32 cs ∧ (cs ≠ [] → 0 < p32 cs) := by
  induction cs using snoc_ind with
  | h0 => intro _; exact ⟨Int.le_refl _, fun h => absurd rfl h⟩
  | h1 cs c ih =>
    intro h
    obtain ⟨h1, h2, h3⟩ := allL_s.mp h
    have := (ih h1).1
    rw [p32_s]
    exact ⟨by omega, fun _ => by omega⟩
set_option maxRecDepth 16384 in
theorem p27_pos {cs : List Int} : allL cs → 0 ≤ p27 cs ∧ (cs ≠ [] → 0 < p27 cs) := by
  induction cs using snoc_ind with
  | h0 => intro _; exact ⟨Int.le_refl _, fun h => absurd rfl h⟩
  | h1 cs c ih =>
    intro h
    obtain ⟨h1, h2, h3⟩ := allL_s.mp h
    have := (ih h1).1
    rw [p27_s]
    exact ⟨by omega, fun _ => by omega⟩
set_option maxRecDepth 16384 in
theorem p32_inj : ∀ (cs ds : List Int), allL cs → allL ds → p32 cs = p32 ds → cs = ds := by
  intro cs
  induction cs using snoc_ind with
  | h0 =>
    intro ds _ hd h
    rcases ds.eq_nil_or_concat with rfl | ⟨d, x, rfl⟩ <;> try rw [List.concat_eq_append] at *
    · rfl
    · have := (p32_pos hd).2 (by simp)
      have h0 : p32 [] = 0 := rfl
      omega
  | h1 cs c ih =>
    intro ds hc hd h
    rcases ds.eq_nil_or_concat with rfl | ⟨ds, d, rfl⟩ <;> try rw [List.concat_eq_append] at *
    · have := (p32_pos hc).2 (by simp)
      have h0 : p32 [] = 0 := rfl
      omega
    · obtain ⟨c1, c2, c3⟩ := allL_s.mp hc
      obtain ⟨d1, d2, d3⟩ := allL_s.mp hd
      rw [p32_s, p32_s] at h
      have e1 : p32 cs = p32 ds := by omega
      have e2 : c = d := by omega
      rw [ih ds c1 d1 e1, e2]
set_option maxRecDepth 16384 in
theorem p27_inj : ∀ (cs ds : List Int), allL cs → allL ds → p27 cs = p27 ds → cs = ds := by
  intro cs
  induction cs using snoc_ind with
  | h0 =>
    intro ds _ hd h
    rcases ds.eq_nil_or_concat with rfl | ⟨d, x, rfl⟩ <;> try rw [List.concat_eq_append] at *
    · rfl
    · have := (p27_pos hd).2 (by simp)
      have h0 : p27 [] = 0 := rfl
      omega
  | h1 cs c ih =>
    intro ds hc hd h
    rcases ds.eq_nil_or_concat with rfl | ⟨ds, d, rfl⟩ <;> try rw [List.concat_eq_append] at *
    · have := (p27_pos hc).2 (by simp)
      have h0 : p27 [] = 0 := rfl
      omega
    · obtain ⟨c1, c2, c3⟩ := allL_s.mp hc
      obtain ⟨d1, d2, d3⟩ := allL_s.mp hd
      rw [p27_s, p27_s] at h
      have e1 : p27 cs = p27 ds := by omega
      have e2 : c = d := by omega
      rw [ih ds c1 d1 e1, e2]
set_option maxRecDepth 16384 in
/-- bounds, for at most seven letters -/
theorem p32_lt {cs : List Int} : allL cs → p32 cs < 32 ^ cs.length := by
  induction cs using snoc_ind with
  | h0 => intro _; show (0 : Int) < 1; decide
  | h1 cs c ih =>
    intro h
    obtain ⟨h1, h2, h3⟩ := allL_s.mp h
    have := ih h1
    rw [p32_s, List.length_append, List.length_singleton, Int.pow_succ]
    omega
set_option maxRecDepth 16384 in
theorem p27_lt {cs : List Int} : allL cs → p27 cs < 27 ^ cs.length := by
  induction cs using snoc_ind with
  | h0 => intro _; show (0 : Int) < 1; decide
  | h1 cs c ih =>
    intro h
    obtain ⟨h1, h2, h3⟩ := allL_s.mp h
    have := ih h1
    rw [p27_s, List.length_append, List.length_singleton, Int.pow_succ]
    omega
set_option maxRecDepth 16384 in
theorem pow_le7 (b : Int) (hb : 1 ≤ b) : ∀ n : Nat, n ≤ 7 → b ^ n ≤ b ^ 7 := by
  intro n hn
  obtain ⟨k, hk⟩ : ∃ k, 7 = n + k := ⟨7 - n, by omega⟩
  rw [hk]
  clear hn hk
  induction k with
  | zero => exact Int.le_refl _
  | succ k ih =>
    rw [← Nat.add_assoc, Int.pow_succ]
    have h0 : 0 ≤ b ^ (n + k) := Int.pow_nonneg (by omega)
    have : b ^ (n + k) * 1 ≤ b ^ (n + k) * b := Int.mul_le_mul_of_nonneg_left hb h0
    omega
set_option maxRecDepth 16384 in
theorem p32_7 {cs : List Int} (h : allL cs) (hn : cs.length ≤ 7) : 0 ≤ p32 cs ∧ p32 cs < 34359738368 := by
  have h1 := p32_lt h
  have h2 := pow_le7 32 (by decide) _ hn
  have : (32 : Int) ^ 7 = 34359738368 := by decide
  exact ⟨(p32_pos h).1, by omega⟩
set_option maxRecDepth 16384 in
theorem p27_7 {cs : List Int} (h : allL cs) (hn : cs.length ≤ 7) : 0 ≤ p27 cs ∧ p27 cs < 10460353203 := by
  have h1 := p27_lt h
  have h2 := pow_le7 27 (by decide) _ hn
  have : (27 : Int) ^ 7 = 10460353203 := by decide
  exact ⟨(p27_pos h).1, by omega⟩
set_option maxRecDepth 16384 in
/-- a name in both spellings -/
def NRel (x y : Int) : Prop := ∃ cs, allL cs ∧ cs ≠ [] ∧ cs.length ≤ 7 ∧ x = p32 cs ∧ y = p27 cs
set_option maxRecDepth 16384 in
theorem NRel_iff {x y x' y' : Int} (h : NRel x y) (h' : NRel x' y') : x = x' ↔ y = y' := by
  obtain ⟨cs, c1, c2, c3, rfl, rfl⟩ := h
  obtain ⟨ds, d1, d2, d3, rfl, rfl⟩ := h'
  constructor
  · intro e; rw [p32_inj cs ds c1 d1 e]
  · intro e; rw [p27_inj cs ds c1 d1 e]
/-! a run's counts and numbers -/
set_option maxRecDepth 16384 in
def allD (cs : List Int) : Prop := ∀ c ∈ cs, isDg c
set_option maxRecDepth 16384 in
theorem allD_s {cs : List Int} {c : Int} : allD (cs ++ [c]) ↔ allD cs ∧ isDg c := by
  unfold allD
  constructor
  · intro h
    exact ⟨fun x hx => h x (List.mem_append_left _ hx), h c (List.mem_append_right _ List.mem_cons_self)⟩
  · intro h x hx
    rcases List.mem_append.mp hx with hx | hx
    · exact h.1 x hx
    · rw [List.mem_singleton.mp hx]; exact h.2
set_option maxRecDepth 16384 in
theorem p10_lt {cs : List Int} : allD cs → 0 ≤ p10 cs ∧ p10 cs < 10 ^ cs.length := by
  induction cs using snoc_ind with
  | h0 => intro _; exact ⟨by decide, by show (0 : Int) < 1; decide⟩
  | h1 cs c ih =>
    intro h
    obtain ⟨h1, h2, h3⟩ := allD_s.mp h
    have := ih h1
    rw [p10_s, List.length_append, List.length_singleton, Int.pow_succ]
    omega
set_option maxRecDepth 16384 in
theorem p10_3 {cs : List Int} (h : allD cs) (hn : cs.length ≤ 3) : 0 ≤ p10 cs ∧ p10 cs < 1000 := by
  have h1 := p10_lt h
  have : ∀ n : Nat, n ≤ 3 → (10 : Int) ^ n ≤ 1000 := by decide
  have := this _ hn
  omega
set_option maxRecDepth 16384 in
/-- what lies from a place on -/
def sg (t : Int → Int) (i : Int) (n : Nat) : List Int := (List.range n).map (fun (k : Nat) => t (i + (k : Int)))
set_option maxRecDepth 16384 in
theorem sg_s (t : Int → Int) (i : Int) (n : Nat) : sg t i (n + 1) = sg t i n ++ [t (i + n)] := by
  unfold sg
  rw [List.range_succ, List.map_append]
  rfl
set_option maxRecDepth 16384 in
theorem sg_len (t : Int → Int) (i : Int) (n : Nat) : (sg t i n).length = n := by
  unfold sg
  rw [List.length_map, List.length_range]
set_option maxRecDepth 16384 in
theorem sg_mem {t : Int → Int} {i : Int} {n : Nat} {c : Int} (h : c ∈ sg t i n) : ∃ k : Nat, k < n ∧ c = t (i + k) := by
  unfold sg at h
  obtain ⟨k, hk, rfl⟩ := List.mem_map.mp h
  exact ⟨k, List.mem_range.mp hk, rfl⟩
set_option maxRecDepth 16384 in
theorem sg_at {t : Int → Int} {i : Int} {n k : Nat} (h : k < n) : t (i + k) ∈ sg t i n := by
  unfold sg
  exact List.mem_map.mpr ⟨k, List.mem_range.mpr h, rfl⟩
set_option maxRecDepth 16384 in
theorem sg_congr {t u : Int → Int} {i : Int} {n : Nat} (h : ∀ k : Nat, k < n → t (i + k) = u (i + k)) : sg t i n = sg u i n := by
  unfold sg
  exact List.map_congr_left fun k hk => h k (List.mem_range.mp hk)
set_option maxRecDepth 16384 in
/-- counts of letters and digits -/
def cL (cs : List Int) : Nat := cs.countP (fun c => decide (97 ≤ c ∧ c ≤ 122))
set_option maxRecDepth 16384 in
def cD (cs : List Int) : Nat := cs.countP (fun c => decide (48 ≤ c ∧ c ≤ 57))
set_option maxRecDepth 16384 in
theorem cL_s (cs : List Int) (c : Int) : cL (cs ++ [c]) = cL cs + (if 97 ≤ c ∧ c ≤ 122 then 1 else 0) := by
  unfold cL
  rw [List.countP_append, List.countP_singleton]
  by_cases h : 97 ≤ c ∧ c ≤ 122
  · rw [if_pos h, if_pos (decide_eq_true h)]
  · rw [if_neg h, if_neg (by rw [decide_eq_false h]; decide)]
set_option maxRecDepth 16384 in
theorem cD_s (cs : List Int) (c : Int) : cD (cs ++ [c]) = cD cs + (if 48 ≤ c ∧ c ≤ 57 then 1 else 0) := by
  unfold cD
  rw [List.countP_append, List.countP_singleton]
  by_cases h : 48 ≤ c ∧ c ≤ 57
  · rw [if_pos h, if_pos (decide_eq_true h)]
  · rw [if_neg h, if_neg (by rw [decide_eq_false h]; decide)]
set_option maxRecDepth 16384 in
def anA (c : Int) : Prop := isLt c ∨ isDg c
set_option maxRecDepth 16384 in
theorem allL_c : ∀ cs : List Int, (∀ c ∈ cs, anA c) → cL cs + cD cs = cs.length ∧ (allL cs ↔ cD cs = 0) ∧ (allD cs ↔ cL cs = 0) := by
  intro cs
  induction cs using snoc_ind with
  | h0 => intro _; exact ⟨rfl, ⟨fun _ => rfl, fun _ c hc => by cases hc⟩, ⟨fun _ => rfl, fun _ c hc => by cases hc⟩⟩
  | h1 cs c ih =>
    intro h
    obtain ⟨i1, i2, i3⟩ := ih (fun x hx => h x (List.mem_append_left _ hx))
    have hc : anA c := h c (List.mem_append_right _ List.mem_cons_self)
    rw [cL_s, cD_s, List.length_append, List.length_singleton, allL_s, allD_s, i2, i3]
    unfold anA isLt isDg at hc
    unfold isLt isDg
    rcases hc with hc | hc
    · rw [if_pos hc, if_neg (by omega)]
      omega
    · rw [if_neg (by omega), if_pos hc]
      omega
