/-! Whom to ask. -/
set_option maxRecDepth 16384 in
noncomputable def sm (g : Int → Int) : Nat → Int
  | 0 => 0
  | n + 1 => sm g n + g (n : Int)
set_option maxRecDepth 16384 in
theorem sm_c {g h : Int → Int} : ∀ n : Nat, (∀ j : Int, 0 ≤ j → j < n → g j = h j) → sm g n = sm h n
  | 0, _ => rfl
  | n + 1, q => by
    show sm g n + g (n : Int) = sm h n + h (n : Int)
    rw [sm_c n (fun j j0 j1 => q j j0 (by omega)), q n (by omega) (by omega)]
set_option maxRecDepth 16384 in
theorem sm_z {g : Int → Int} : ∀ m n : Nat, m ≤ n → (∀ j : Int, (m : Int) ≤ j → j < n → g j = 0) → sm g n = sm g m := fun m n h q => by
  obtain ⟨k, rfl⟩ := Nat.exists_eq_add_of_le h
  clear h
  induction k with
  | zero => rfl
  | succ k ih =>
    show sm g (m + k) + g ((m + k : Nat) : Int) = _
    rw [ih (fun j j0 j1 => q j j0 (by omega)), q _ (by omega) (by omega)]
    omega
set_option maxRecDepth 16384 in
theorem sm_b {g : Int → Int} : ∀ n : Nat, (∀ j : Int, 0 ≤ j → j < n → -1 ≤ g j ∧ g j ≤ 1) → -(n : Int) ≤ sm g n ∧ sm g n ≤ n
  | 0, _ => ⟨by show -((0 : Nat) : Int) ≤ 0; decide, by show (0 : Int) ≤ ((0 : Nat) : Int); decide⟩
  | n + 1, q => by
    have := sm_b n (fun j j0 j1 => q j j0 (by omega))
    have := q n (by omega) (by omega)
    show -((n + 1 : Nat) : Int) ≤ sm g n + g (n : Int) ∧ sm g n + g (n : Int) ≤ ((n + 1 : Nat) : Int)
    omega
set_option maxRecDepth 16384 in
theorem sm_l {g h k : Int → Int} : ∀ n : Nat, (∀ j : Int, 0 ≤ j → j < n → g j = 2 * h j - k j) → sm g n = 2 * sm h n - sm k n
  | 0, _ => by
    show (0 : Int) = 2 * 0 - 0
    decide
  | n + 1, q => by
    show sm g n + g (n : Int) = 2 * (sm h n + h (n : Int)) - (sm k n + k (n : Int))
    rw [sm_l n (fun j j0 j1 => q j j0 (by omega)), q n (by omega) (by omega)]
    omega
set_option maxRecDepth 16384 in
/-- of those who might, how many more could than could not -/
noncomputable def gA (P : Int → Int) (x j : Int) : Int := if jand x (jshl 1 j) = 0 then 0 else if P j = -1 then -1 else 1
set_option maxRecDepth 16384 in
noncomputable def gB (P : Int → Int) (x j : Int) : Int := if jand x (jshl 1 j) = 0 then 0 else if P j = -1 then 0 else 1
set_option maxRecDepth 16384 in
noncomputable def gC (x j : Int) : Int := if jand x (jshl 1 j) = 0 then 0 else 1
set_option maxRecDepth 16384 in
theorem g_l (P : Int → Int) (x j : Int) : gA P x j = 2 * gB P x j - gC x j := by
  unfold gA gB gC
  split
  · rfl
  · split <;> rfl
set_option maxRecDepth 16384 in
def csm (x : Int) : Nat → Int
  | 0 => 0
  | n + 1 => csm x n + (if o32 (fun a b => a &&& b) x (o32 (fun a b => a <<< (b &&& 31)) 1 (n : Int)) = 0 then 0 else 1)
set_option maxRecDepth 16384 in
theorem gC_pop {x : Int} (x0 : 0 ≤ x) (x1 : x < 256) : sm (gC x) 8 = cpop x := by
  have key : ∀ k : Nat, k < 256 → csm (k : Int) 8 = cpop (k : Int) := by decide +kernel
  have e : ∀ n : Nat, sm (gC x) n = csm x n := fun n => by
    induction n with
    | zero => rfl
    | succ n ih =>
      show sm (gC x) n + gC x (n : Int) = csm x n + _
      rw [ih]
      unfold gC
      rw [jand_eq, jshl_eq]
  obtain ⟨k, rfl⟩ : ∃ k : Nat, x = (k : Int) := ⟨x.toNat, by omega⟩
  rw [e]
  exact key k (by omega)
set_option maxRecDepth 16384 in
theorem q44i {a c : MM} (h : Sx a c 15) (x z1 z2 p : Int) : (L44_26 a x 15 z1 z2 p 0 0).2.2.1 = sm (gA (fun f => f131 a 15 p f) x) (a 3 7).toNat := by
  obtain ⟨e, e0, e8⟩ := h.f
  unfold L44_26
  refine Lp_ind (f := K44_26 a x 15 z1 z2 p 0 0) (P := fun y => 0 ≤ y.2 ∧ y.2 ≤ a 3 7 ∧ y.1 = sm (gA (fun f => f131 a 15 p f) x) y.2.toNat) (Q := fun t => t.2.2.1 = sm (gA (fun f => f131 a 15 p f) x) (a 3 7).toNat) (fun y => (a 3 7 - y.2).toNat) ?_ (0, 0) ⟨Int.le_refl _, e0, rfl⟩
  rintro ⟨y, i⟩ ⟨c2, c3, c4⟩
  dsimp only at c2 c3 c4
  have eA : K44_26 a x 15 z1 z2 p 0 0 (y, i) = S44_26 a x 15 z1 z2 p y i := rfl
  rw [eA]
  unfold S44_26
  rw [h.le]
  by_cases c : a 3 7 ≤ i
  · rw [if_pos c]
    have : i = a 3 7 := by omega
    rw [this] at c4
    exact Or.inr ⟨_, rfl, c4⟩
  · have hb := sm_b (g := gA (fun f => f131 a 15 p f) x) i.toNat (fun j _ _ => by
      unfold gA
      split
      · omega
      · split <;> omega)
    rw [← c4] at hb
    rw [if_neg c, s32_id (z := i + 1) (by omega) (by omega), s32_id (z := y + (-1)) (by omega) (by omega), s32_id (z := y + 1) (by omega) (by omega)]
    left
    have st : ∀ v, gA (fun f => f131 a 15 p f) x i = v → y + v = sm (gA (fun f => f131 a 15 p f) x) (i + 1).toNat := fun v hv => by
      have e1 : (i + 1).toNat = i.toNat + 1 := by omega
      rw [e1]
      show y + v = sm _ i.toNat + gA (fun f => f131 a 15 p f) x ((i.toNat : Nat) : Int)
      rw [Int.toNat_of_nonneg c2, hv, ← c4]
    by_cases d : jand x (jshl 1 i) = 0
    · rw [if_pos d]
      refine ⟨_, rfl, ⟨by dsimp only; omega, by dsimp only; omega, ?_⟩, by dsimp only; omega⟩
      have := st 0 (by unfold gA; rw [if_pos d])
      rw [Int.add_zero] at this
      exact this
    · rw [if_neg d]
      by_cases g : f131 a 15 p i = -1
      · rw [if_pos g]
        exact ⟨_, rfl, ⟨by dsimp only; omega, by dsimp only; omega, st (-1) (by unfold gA; rw [if_neg d, if_pos g])⟩, by dsimp only; omega⟩
      · rw [if_neg g]
        exact ⟨_, rfl, ⟨by dsimp only; omega, by dsimp only; omega, st 1 (by unfold gA; rw [if_neg d, if_neg g])⟩, by dsimp only; omega⟩
