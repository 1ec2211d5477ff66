section
/-! A form's text: letters put down one by one. -/
set_option maxRecDepth 16384 in
theorem jsh {n : Nat} (hn : n < 34359738368) {s : Int} {k : Nat} (hk : (Int32.ofInt s).toInt64.toUInt64 &&& Int64.toUInt64 63 = UInt64.ofNat k) (k64 : k < 64) : jlushr (n : Int) s = ((n / 2 ^ k : Nat) : Int) := by
  rw [jlushr_eq, hk]
  have e1 : (Int64.ofInt (n : Int)).toUInt64 = UInt64.ofNat n := by
    rw [Int64.ofInt_eq_ofNat]
    rfl
  rw [e1]
  have e2 : (UInt64.ofNat n >>> UInt64.ofNat k).toNat = n / 2 ^ k := by
    rw [UInt64.toNat_shiftRight, UInt64.toNat_ofNat_of_lt' (by show n < 18446744073709551616; omega), UInt64.toNat_ofNat_of_lt' (by show k < 18446744073709551616; omega), Nat.mod_eq_of_lt k64, Nat.shiftRight_eq_div_pow]
  have e3 : n / 2 ^ k ≤ n := Nat.div_le_self _ _
  have e4 : ((UInt64.ofNat n >>> UInt64.ofNat k).toInt64).toInt = (((UInt64.ofNat n >>> UInt64.ofNat k).toNat : Nat) : Int) := by
    show ((UInt64.ofNat n >>> UInt64.ofNat k).toBitVec).toInt = _
    rw [BitVec.toInt_eq_toNat_of_lt (by
      show 2 * (UInt64.ofNat n >>> UInt64.ofNat k).toNat < 18446744073709551616
      rw [e2]; omega)]
    rfl
  rw [e4, e2]
set_option maxRecDepth 16384 in
theorem jl31 (n : Nat) (hn : n < 34359738368) : jand (jl2i (n : Int)) 31 = ((n % 32 : Nat) : Int) := by
  rw [jand_eq, jl2i_eq]
  unfold o32
  have e1 : (Int64.ofInt (n : Int)).toInt32 = Int32.ofNat n := by
    rw [Int64.ofInt_eq_ofNat]
    exact Int64.toInt32_ofNat' (n := n)
  rw [e1, Int32.ofInt_toInt]
  have e2 : (Int32.ofNat n &&& Int32.ofInt 31).toBitVec = BitVec.ofNat 32 (n % 32) := by
    apply BitVec.eq_of_toNat_eq
    show ((BitVec.ofNat 32 n) &&& (BitVec.ofInt 32 31)).toNat = _
    rw [BitVec.toNat_and, BitVec.toNat_ofNat, BitVec.toNat_ofNat]
    have : (BitVec.ofInt 32 31).toNat = 2 ^ 5 - 1 := by decide
    rw [this, Nat.and_two_pow_sub_one_eq_mod, Nat.mod_mod_of_dvd _ (by decide)]
    omega
  show (Int32.ofNat n &&& Int32.ofInt 31).toBitVec.toInt = _
  rw [e2, BitVec.toInt_eq_toNat_of_lt]
  · rw [BitVec.toNat_ofNat]
    omega
  · rw [BitVec.toNat_ofNat]
    omega
set_option maxRecDepth 16384 in
theorem digit {n : Nat} (hn : n < 34359738368) {j : Nat} (hj : j ≤ 6) : jand (jl2i (jlushr (n : Int) (5 * (j : Int)))) 31 = ((n / 32 ^ j % 32 : Nat) : Int) := by
  have e : jlushr (n : Int) (5 * (j : Int)) = ((n / 2 ^ (5 * j) : Nat) : Int) := by
    have hk : (Int32.ofInt (5 * (j : Int))).toInt64.toUInt64 &&& Int64.toUInt64 63 = UInt64.ofNat (5 * j) := by
      have : j = 0 ∨ j = 1 ∨ j = 2 ∨ j = 3 ∨ j = 4 ∨ j = 5 ∨ j = 6 := by omega
      rcases this with rfl | rfl | rfl | rfl | rfl | rfl | rfl <;> decide
    exact jsh hn hk (by omega)
  rw [e, jl31 _ (Nat.lt_of_le_of_lt (Nat.div_le_self _ _) hn), show (2 : Nat) ^ (5 * j) = 32 ^ j from Nat.pow_mul 2 5 j]
end
section
set_option maxRecDepth 16384 in
theorem p32_app (a b : List Int) : p32 (a ++ b) = p32 a * 32 ^ b.length + p32 b := by
  induction b using snoc_ind with
  | h0 => rw [List.append_nil]; show p32 a = p32 a * 32 ^ 0 + 0; omega
  | h1 cs c ih =>
    rw [← List.append_assoc, p32_s, ih, p32_s, List.length_append, List.length_singleton, Int.pow_succ]
    rw [Int.add_mul, Int.mul_assoc, Int.add_assoc]
set_option maxRecDepth 16384 in
/-- put one sign down, on the class's side, on the reference's -/
noncomputable def cP (m : MM) (c : Int) : MM := mu (mu m 95 (m 94 1) c) 94 1 (m 94 1 + 1)
set_option maxRecDepth 16384 in
noncomputable def wP (m : MM) (c : Int) : MM := mu (mu m 163 (m 148 34) c) 148 34 (m 148 34 + 1)
set_option maxRecDepth 16384 in
noncomputable def cF (m : MM) (l : List Int) : MM := l.foldl cP m
set_option maxRecDepth 16384 in
noncomputable def wF (m : MM) (l : List Int) : MM := l.foldl wP m
set_option maxRecDepth 16384 in
theorem cF_app (m : MM) (k l : List Int) : cF m (k ++ l) = cF (cF m k) l := List.foldl_append
set_option maxRecDepth 16384 in
theorem wF_app (m : MM) (k l : List Int) : wF m (k ++ l) = wF (wF m k) l := List.foldl_append
set_option maxRecDepth 16384 in
theorem cF_len : ∀ (l : List Int) (m : MM), (cF m l) 94 1 = m 94 1 + (l.length : Int) := by
  intro l
  induction l with
  | nil => intro m; show m 94 1 = m 94 1 + 0; omega
  | cons c l ih =>
    intro m
    show (cF (cP m c) l) 94 1 = _
    rw [ih]
    unfold cP
    rw [mu_s, List.length_cons]
    omega
set_option maxRecDepth 16384 in
theorem wF_len : ∀ (l : List Int) (m : MM), (wF m l) 148 34 = m 148 34 + (l.length : Int) := by
  intro l
  induction l with
  | nil => intro m; show m 148 34 = m 148 34 + 0; omega
  | cons c l ih =>
    intro m
    show (wF (wP m c) l) 148 34 = _
    rw [ih]
    unfold wP
    rw [mu_s, List.length_cons]
    omega
set_option maxRecDepth 16384 in
def Qcc (n x k : Int) : Prop := (x = 95 ∧ n ≤ k) ∨ (x = 94 ∧ k = 1)
set_option maxRecDepth 16384 in
def Qww (n x k : Int) : Prop := (x = 163 ∧ n ≤ k) ∨ (x = 148 ∧ k = 34)
set_option maxRecDepth 16384 in
theorem cF_fr : ∀ (l : List Int) (m : MM), Fr (Qcc (m 94 1)) m (cF m l) := by
  intro l
  induction l with
  | nil => intro m; exact Fr.rf _ _
  | cons c l ih =>
    intro m
    show Fr (Qcc (m 94 1)) m (cF (cP m c) l)
    have e : cP m c 94 1 = m 94 1 + 1 := by unfold cP; rw [mu_s]
    have h := ih (cP m c)
    rw [e] at h
    have h1 : Fr (Qcc (m 94 1)) m (cP m c) := ((Fr.rf _ _).mu (Or.inl ⟨rfl, Int.le_refl _⟩)).mu (Or.inr ⟨rfl, rfl⟩)
    exact h1.tr (h.mo fun x k q => by unfold Qcc at *; omega)
set_option maxRecDepth 16384 in
theorem wF_fr : ∀ (l : List Int) (m : MM), Fr (Qww (m 148 34)) m (wF m l) := by
  intro l
  induction l with
  | nil => intro m; exact Fr.rf _ _
  | cons c l ih =>
    intro m
    show Fr (Qww (m 148 34)) m (wF (wP m c) l)
    have e : wP m c 148 34 = m 148 34 + 1 := by unfold wP; rw [mu_s]
    have h := ih (wP m c)
    rw [e] at h
    have h1 : Fr (Qww (m 148 34)) m (wP m c) := ((Fr.rf _ _).mu (Or.inl ⟨rfl, Int.le_refl _⟩)).mu (Or.inr ⟨rfl, rfl⟩)
    exact h1.tr (h.mo fun x k q => by unfold Qww at *; omega)
set_option maxRecDepth 16384 in
/-- the texts so far, alike -/
def TX (a b : MM) (n : Int) : Prop := a 94 1 = n ∧ b 148 34 = n ∧ 0 ≤ n ∧ ∀ j, 0 ≤ j → j < n → a 95 j = b 163 j
set_option maxRecDepth 16384 in
theorem TX_F : ∀ (l : List Int) {a b : MM} {n : Int}, TX a b n → TX (cF a l) (wF b l) (n + (l.length : Int)) := by
  intro l
  induction l with
  | nil => intro a b n h; rw [show n + (([] : List Int).length : Int) = n by show n + 0 = n; omega]; exact h
  | cons c l ih =>
    intro a b n h
    obtain ⟨h1, h2, h3, h4⟩ := h
    have : TX (cP a c) (wP b c) (n + 1) := by
      unfold cP wP
      rw [h1, h2]
      refine ⟨mu_s _ _ _ _, mu_s _ _ _ _, by omega, fun j j0 j1 => ?_⟩
      rw [mu_a (a := 94) (b := 95) (by decide), mu_a (a := 148) (b := 163) (by decide)]
      by_cases q : j = n
      · rw [q, mu_s, mu_s]
      · rw [mu_k q, mu_k q]; exact h4 j j0 (by omega)
    have h := ih this
    rw [List.length_cons]
    rw [show n + ((l.length + 1 : Nat) : Int) = n + 1 + (l.length : Int) by omega]
    exact h
set_option maxRecDepth 16384 in
def lay4 (m : MM) : Prop := m 94 0 = 95 ∧ m 95 (-1) = 40
set_option maxRecDepth 16384 in
theorem lay4_F {m : MM} (h : lay4 m) (h0 : 0 ≤ m 94 1) (l : List Int) : lay4 (cF m l) := ⟨by rw [cF_fr l m 94 0 (by unfold Qcc; omega)]; exact h.1, by rw [cF_fr l m 95 (-1) (by unfold Qcc; omega)]; exact h.2⟩
set_option maxRecDepth 16384 in
theorem jcst_id {c : Int} (h0 : 0 ≤ c) (h1 : c < 128) : jcst c = c := by
  rw [jcst_eq]
  have key : ∀ n : Nat, n < 128 → (vp_nar .char (Int32.ofInt (n : Int))).toInt = (n : Int) := by decide +kernel
  have := key c.toNat (by omega)
  rw [show ((c.toNat : Nat) : Int) = c by omega] at this
  exact this
set_option maxRecDepth 16384 in
theorem ji2c_id {c : Int} (h0 : 0 ≤ c) (h1 : c < 128) : ji2c c = c := by
  rw [ji2c_eq]
  have key : ∀ n : Nat, n < 128 → (((Int32.ofInt (n : Int)).toUInt32 % 65536).toInt32).toInt = (n : Int) := by decide +kernel
  have := key c.toNat (by omega)
  rw [show ((c.toNat : Nat) : Int) = c by omega] at this
  exact this
set_option maxRecDepth 16384 in
theorem g103_c {m : MM} (h : lay4 m) (h0 : 0 ≤ m 94 1) (h1 : m 94 1 < 40) {c : Int} (c0 : 0 ≤ c) (c1 : c < 128) : g103 m 94 c = cP m c := by
  unfold g103 cP
  rw [h.1, h.2, if_neg (by omega), if_neg (show ¬ (95 : Int) = 1000050 by decide), s32_id (z := 40) (by decide) (by decide), if_neg (by omega), jcst_id c0 c1, mu_a (a := 95) (b := 94) (by decide), s32_id (by omega) (by omega)]
set_option maxRecDepth 16384 in
theorem g292_c {m : MM} (h : m 148 33 = 163) (h0 : 0 ≤ m 148 34) (h1 : m 148 34 < 1000) {c : Int} (c0 : 0 ≤ c) (c1 : c < 128) : g292 m 148 c = wP m c := by
  unfold g292 wP
  rw [h, s32_id (z := c) (by omega) (by omega), mu_a (a := 163) (b := 148) (by decide), s32_id (by omega) (by omega)]
set_option maxRecDepth 16384 in
/-- the text at a label -/
def txt (t : Int) (L : List Int) : Prop := tlen t = (L.length : Int) ∧ ∀ i : Nat, i < L.length → tchr t (i : Int) = L.getD i 0 ∧ 0 ≤ L.getD i 0 ∧ L.getD i 0 < 128
set_option maxRecDepth 16384 in
def txtb (t : Int) (L : List Int) : Bool := decide (tlen t = (L.length : Int)) && (List.range L.length).all (fun (i : Nat) => decide (tchr t (i : Int) = L.getD i 0) && (decide (0 ≤ L.getD i 0) && decide (L.getD i 0 < 128)))
set_option maxRecDepth 16384 in
theorem txt_b {t : Int} {L : List Int} (h : txtb t L = true) : txt t L := by
  unfold txtb at h
  have h := Bool.and_eq_true_iff.mp h
  refine ⟨of_decide_eq_true h.1, fun i hi => ?_⟩
  have g := List.all_eq_true.mp h.2 i (List.mem_range.mpr hi)
  have g := Bool.and_eq_true_iff.mp g
  have g2 := Bool.and_eq_true_iff.mp g.2
  exact ⟨of_decide_eq_true g.1, of_decide_eq_true g2.1, of_decide_eq_true g2.2⟩
set_option maxRecDepth 16384 in
theorem take_s (L : List Int) {i : Nat} (h : i < L.length) : L.take (i + 1) = L.take i ++ [L.getD i 0] := by
  rw [List.take_add_one, List.getD_eq_getElem?_getD]
  have : L[i]? = some L[i] := List.getElem?_eq_getElem h
  rw [this]
  rfl
set_option maxRecDepth 16384 in
theorem g104_c {m : MM} {t : Int} {L : List Int} (hL : txt t L) (h : lay4 m) (h0 : 0 ≤ m 94 1) (h1 : m 94 1 + (L.length : Int) ≤ 40) : g104 m 94 t = cF m L := by
  obtain ⟨e1, e2⟩ := hL
  unfold g104 L104_2
  refine Lp_ind (f := K104_2 m 94 t 0) (P := fun s => 0 ≤ s.1 ∧ s.1 ≤ (L.length : Int) ∧ s.2 = cF m (L.take s.1.toNat)) (Q := fun s => s.2.2.2 = cF m L) (fun s => ((L.length : Int) - s.1).toNat) ?_ (0, m) ⟨Int.le_refl _, by dsimp only; omega, rfl⟩
  rintro ⟨i, m'⟩ ⟨c1, c2, c3⟩
  dsimp only at c1 c2 c3
  have e : K104_2 m 94 t 0 (i, m') = S104_2 m' 94 t i := rfl
  rw [e]
  unfold S104_2
  rw [e1]
  by_cases c : (L.length : Int) ≤ i
  · rw [if_pos c]
    refine Or.inr ⟨_, rfl, ?_⟩
    dsimp only
    rw [c3, List.take_of_length_le (by omega)]
  · obtain ⟨x1, x2, x3⟩ := e2 i.toNat (by omega)
    rw [show ((i.toNat : Nat) : Int) = i by omega] at x1
    rw [if_neg c, s32_id (z := i + 1) (by omega) (by omega), x1]
    refine Or.inl ⟨_, rfl, ⟨by dsimp only; omega, by dsimp only; omega, ?_⟩, by dsimp only; omega⟩
    dsimp only
    have hl : (cF m (L.take i.toNat)) 94 1 = m 94 1 + i := by
      rw [cF_len, List.length_take_of_le (by omega)]
      omega
    rw [c3, g103_c (lay4_F h h0 _) (by omega) (by omega) x2 x3, show (i + 1).toNat = i.toNat + 1 by omega, take_s L (by omega), cF_app]
    rfl
end
section
set_option maxRecDepth 16384 in
theorem p32_digit {pre suf : List Int} {c : Int} (h : allL (pre ++ c :: suf)) (hn : (pre ++ c :: suf).length ≤ 7) : ((p32 (pre ++ c :: suf)).toNat / 32 ^ suf.length % 32 : Nat) = (c - 96).toNat := by
  have hs : allL suf := fun x hx => h x (List.mem_append_right _ (List.mem_cons_of_mem _ hx))
  have hp : allL pre := fun x hx => h x (List.mem_append_left _ hx)
  have hc : isLt c := h c (List.mem_append_right _ List.mem_cons_self)
  have e : pre ++ c :: suf = (pre ++ [c]) ++ suf := by rw [List.append_assoc]; rfl
  rw [e, p32_app, p32_s]
  have l0 := (p32_pos hs).1
  have l1 := p32_lt hs
  have p0 := (p32_pos hp).1
  unfold isLt at hc
  generalize p32 suf = y at *
  generalize p32 pre = z at *
  have hpw : ((32 ^ suf.length : Nat) : Int) = (32 : Int) ^ suf.length := by rw [Int.natCast_pow]; rfl
  rw [← hpw] at l1 ⊢
  generalize hP : 32 ^ suf.length = P at *
  have hP0 : 0 < P := by rw [← hP]; exact Nat.pow_pos (by decide)
  have e2 : ((z * 32 + (c - 96)) * (P : Int) + y).toNat = (z.toNat * 32 + (c - 96).toNat) * P + y.toNat := by
    have a1 : z = (z.toNat : Int) := by omega
    have a2 : c - 96 = ((c - 96).toNat : Int) := by omega
    have a3 : y = (y.toNat : Int) := by omega
    rw [a1, a2, a3]
    have : (((z.toNat : Int) * 32 + ((c - 96).toNat : Int)) * (P : Int) + (y.toNat : Int)) = (((z.toNat * 32 + (c - 96).toNat) * P + y.toNat : Nat) : Int) := by
      rw [Int.natCast_add, Int.natCast_mul, Int.natCast_add, Int.natCast_mul]
      rfl
    rw [this, Int.toNat_natCast]
    simp only [Int.toNat_natCast]
  rw [e2, Nat.mul_comm _ P, Nat.mul_add_div hP0, Nat.div_eq_of_lt (by omega), Nat.add_zero]
  omega
set_option maxRecDepth 16384 in
theorem p32_digit0 {cs : List Int} (h : allL cs) {j : Nat} (hj : cs.length ≤ j) : ((p32 cs).toNat / 32 ^ j % 32 : Nat) = 0 := by
  have l0 := (p32_pos h).1
  have l1 := p32_lt h
  have hpw : ((32 ^ cs.length : Nat) : Int) = (32 : Int) ^ cs.length := by rw [Int.natCast_pow]; rfl
  have : (p32 cs).toNat < 32 ^ cs.length := by omega
  have : (p32 cs).toNat < 32 ^ j := Nat.lt_of_lt_of_le this (Nat.pow_le_pow_right (by decide) hj)
  rw [Nat.div_eq_of_lt this]
set_option maxRecDepth 16384 in
theorem g102_c {m : MM} {cs : List Int} (hc : allL cs) (hn : cs.length ≤ 7) (h : lay4 m) (h0 : 0 ≤ m 94 1) (h1 : m 94 1 ≤ 33) : g102 m 94 (p32 cs) = cF m cs := by
  have hx := p32_7 hc hn
  have hw : p32 cs = ((p32 cs).toNat : Int) := by omega
  unfold g102 L102_3
  refine Lp_ind (f := K102_3 m 94 (p32 cs) 0 30 0) (P := fun s => ∃ (j : Nat) (pre suf : List Int), j ≤ 7 ∧ s.1 = 5 * (j : Int) - 5 ∧ cs = pre ++ suf ∧ s.2.2 = cF m pre ∧ (suf.length = j ∨ (pre = [] ∧ suf.length ≤ j))) (Q := fun s => s.2.2.2.2 = cF m cs) (fun s => (s.1 + 5).toNat) ?_ (30, 0, m) ⟨7, [], cs, by decide, rfl, rfl, rfl, Or.inr ⟨rfl, hn⟩⟩
  rintro ⟨i, v, m'⟩ ⟨j, pre, suf, j7, c1, c2, c3, c4⟩
  dsimp only at c1 c3
  have e : K102_3 m 94 (p32 cs) 0 30 0 (i, v, m') = S102_3 m' 94 (p32 cs) 0 i v := rfl
  rw [e]
  unfold S102_3
  cases j with
  | zero =>
    rw [if_pos (by omega)]
    refine Or.inr ⟨_, rfl, ?_⟩
    have : suf = [] := by
      apply List.eq_nil_of_length_eq_zero
      omega
    dsimp only
    rw [c3, c2, this, List.append_nil]
  | succ j =>
    have hi : i = 5 * (j : Int) := by omega
    rw [if_neg (by omega), hi, s32_id (z := 5 * (j : Int) + -5) (by omega) (by omega)]
    have hd : jand (jl2i (jlushr (p32 cs) (5 * (j : Int)))) 31 = (((p32 cs).toNat / 32 ^ j % 32 : Nat) : Int) := by
      conv => lhs; rw [hw]
      exact digit (by omega) (by omega)
    rw [hd]
    by_cases q : suf.length ≤ j
    · have hp : pre = [] := by
        rcases c4 with c4 | c4
        · omega
        · exact c4.1
      subst hp
      have : cs.length ≤ j := by rw [c2]; exact q
      rw [p32_digit0 hc this, if_pos (by decide)]
      exact Or.inl ⟨_, rfl, ⟨j, [], suf, by omega, by dsimp only; omega, c2, c3, Or.inr ⟨rfl, q⟩⟩, by dsimp only; omega⟩
    · have hl : suf.length = j + 1 := by
        rcases c4 with c4 | c4
        · exact c4
        · omega
      cases suf with
      | nil => cases hl
      | cons c suf =>
        have hl : suf.length = j := by rw [List.length_cons] at hl; omega
        have hcc : isLt c := hc c (by rw [c2]; exact List.mem_append_right _ List.mem_cons_self)
        have hdd : ((p32 cs).toNat / 32 ^ j % 32 : Nat) = (c - 96).toNat := by
          rw [← hl, c2]
          exact p32_digit (by rw [← c2]; exact hc) (by rw [← c2]; exact hn)
        unfold isLt at hcc
        have hpl : pre.length ≤ 6 := by
          have := congrArg List.length c2
          rw [List.length_append, List.length_cons] at this
          omega
        rw [hdd, if_neg (by omega), s32_id (z := 97 + (((c - 96).toNat : Nat) : Int)) (by omega) (by omega), s32_id (by omega) (by omega), show 97 + (((c - 96).toNat : Nat) : Int) - 1 = c by omega, ji2c_id (by omega) (by omega), c3, g103_c (lay4_F h h0 _) (by rw [cF_len]; omega) (by rw [cF_len]; omega) (by omega) (by omega)]
        refine Or.inl ⟨_, rfl, ⟨j, pre ++ [c], suf, by omega, by dsimp only; omega, by rw [c2, List.append_assoc]; rfl, ?_, Or.inl hl⟩, by dsimp only; omega⟩
        dsimp only
        rw [cF_app]
        rfl
set_option maxRecDepth 16384 in
theorem jldiv27 {z c : Int} (z0 : 0 ≤ z) (z1 : z < 10460353203) (c0 : 0 ≤ c) (c1 : c < 27) : jldiv (z * 27 + c) 27 = z ∧ jl2i (jlrem (z * 27 + c) 27) = c := by
  have t1 : (Int64.ofInt (z * 27 + c)).toInt = z * 27 + c := Int64.toInt_ofInt_of_le (by omega) (by omega)
  have t2 : (Int64.ofInt 27).toInt = 27 := by decide
  have td : (z * 27 + c).tdiv 27 = z := by
    rw [Int.tdiv_eq_ediv_of_nonneg (by omega)]
    omega
  have q : Int64.ofInt (z * 27 + c) / Int64.ofInt 27 = Int64.ofInt z := by
    apply Int64.toInt_inj.mp
    rw [Int64.toInt_div, t1, t2, td, Int64.toInt_ofInt]
  rw [jldiv_eq, jlrem_eq]
  unfold o64
  dsimp only
  rw [q]
  refine ⟨Int64.toInt_ofInt_of_le (by omega) (by omega), ?_⟩
  have e : Int64.ofInt (z * 27 + c) - Int64.ofInt z * Int64.ofInt 27 = Int64.ofInt c := by
    rw [← Int64.ofInt_mul, ← Int64.ofInt_sub]
    congr 1
    omega
  rw [e, jl2i_eq, Int64.ofInt_toInt]
  have : (Int64.ofInt c).toInt32 = Int32.ofInt c := by
    apply Int32.toInt_inj.mp
    rw [Int64.toInt_toInt32, Int64.toInt_ofInt_of_le (by omega) (by omega), Int32.toInt_ofInt]
  rw [this]
  exact Int32.toInt_ofInt_of_le (by omega) (by omega)
set_option maxRecDepth 16384 in
/-- the reference writes a word -/
theorem wW {X : KO} {ρ : Nat → Int32} : ∀ (cs : List Int) {m m' : MM} {rl : List (Nat × Int)}, allL cs → cs ≠ [] → cs.length ≤ 7 → m 148 33 = 163 → 0 ≤ m 148 34 → m 148 34 ≤ 900 → Run X ρ 295 [(1, 148), (2, p27 cs)] m rl m' → m' = wF m cs := by
  intro cs
  induction cs using snoc_ind with
  | h0 => intro m m' rl _ h; exact absurd rfl h
  | h1 pre c ih =>
    intro m m' rl hc _ hn h33 h0 h1 hr
    obtain ⟨N, ig, hr⟩ := Run_CR hr rfl
    have hr : MR X ρ 3 0 0 qP295 N 0 [148, p27 (pre ++ [c]), 0] [] m (ig, rl, m') := hr
    have hA := q295_0 hr
    obtain ⟨hp, hcc⟩ := allL_s.mp hc
    have hl : pre.length ≤ 6 := by rw [List.length_append, List.length_singleton] at hn; omega
    obtain ⟨z0, z1⟩ := p27_7 hp (by omega)
    rw [p27_s] at hA
    unfold isLt at hcc
    obtain ⟨d1, d2⟩ := jldiv27 (c := c - 96) z0 z1 (by omega) (by omega)
    rw [d1, d2, s32_id (z := 96 + (c - 96)) (by omega) (by omega), show 96 + (c - 96) = c by omega] at hA
    have e27 : (wF m pre) 148 34 = m 148 34 + (pre.length : Int) := wF_len _ _
    have e33 : (wF m pre) 148 33 = 163 := by rw [wF_fr pre m 148 33 (by unfold Qww; omega)]; exact h33
    by_cases q : pre = []
    · subst q
      have pz : p27 [] = 0 := rfl
      rw [pz] at hA
      rcases hA with ⟨_, y, ey, B⟩ | ⟨d, _⟩
      · cases B
        rw [ey, g292_c h33 h0 (by omega) (by omega) (by omega)]
        rfl
      · rw [if_neg (by omega), if_neg (by omega)] at d
        exact absurd (by decide) d
    · have := (p27_pos hp).2 q
      rcases hA with ⟨d, _⟩ | ⟨_, m9, r9, y, ey, B⟩
      · split at d
        · omega
        · omega
      · cases B
        have := ih hp q (by omega) h33 h0 h1 r9
        rw [ey, this, g292_c e33 (by omega) (by omega) (by omega) (by omega), wF_app]
        rfl
set_option maxRecDepth 16384 in
/-- a blank and a word -/
theorem wN {X : KO} {ρ : Nat → Int32} {cs : List Int} {m m' : MM} {rl : List (Nat × Int)} {w : Int} (hc : allL cs) (hne : cs ≠ []) (hn : cs.length ≤ 7) (hw : w = p27 cs) (h33 : m 148 33 = 163) (h0 : 0 ≤ m 148 34) (h1 : m 148 34 ≤ 800) (hr : Run X ρ 293 [(1, 148), (2, w)] m rl m') : m' = wF m (32 :: cs) := by
  obtain ⟨N, ig, hr⟩ := Run_CR hr rfl
  have hr : MR X ρ 3 0 0 qP293 N 0 [148, w, 0] [] m (ig, rl, m') := hr
  obtain ⟨y, ey, m8, r8, B⟩ := q293_0 hr
  cases B
  rw [g292_c h33 h0 (by omega) (by decide) (by decide)] at ey
  rw [hw] at r8
  have e1 : y 148 34 = m 148 34 + 1 := by rw [ey]; unfold wP; exact mu_s _ _ _ _
  have e2 : y 148 33 = 163 := by rw [ey]; unfold wP; rw [mu_k (by decide), mu_a (by decide)]; exact h33
  rw [wW cs hc hne hn e2 (by omega) (by omega) r8, ey]
  rfl
end
section
set_option maxRecDepth 16384 in
theorem tx_about : txt 1000201 [32, 97, 98, 111, 117, 116] := txt_b (by decide +kernel)
set_option maxRecDepth 16384 in
theorem tx_hurt : txt 1000202 [32, 104, 117, 114, 116] := txt_b (by decide +kernel)
set_option maxRecDepth 16384 in
theorem tx_third : txt 1000207 [32, 116, 104, 105, 114, 100] := txt_b (by decide +kernel)
set_option maxRecDepth 16384 in
theorem tx_wants : txt 1000208 [32, 119, 97, 110, 116, 115] := txt_b (by decide +kernel)
set_option maxRecDepth 16384 in
theorem tx_clear : txt 1000203 [32, 105, 115, 32, 99, 108, 101, 97, 114] := txt_b (by decide +kernel)
set_option maxRecDepth 16384 in
theorem tx_filed : txt 1000204 [32, 105, 115, 32, 102, 105, 108, 101, 100] := txt_b (by decide +kernel)
set_option maxRecDepth 16384 in
theorem tx_granted : txt 1000205 [32, 105, 115, 32, 103, 114, 97, 110, 116, 101, 100] := txt_b (by decide +kernel)
set_option maxRecDepth 16384 in
theorem tx_void : txt 1000206 [32, 105, 115, 32, 118, 111, 105, 100] := txt_b (by decide +kernel)
set_option maxRecDepth 16384 in
theorem tx_none : txt 1000200 [] := txt_b (by decide +kernel)
set_option maxRecDepth 16384 in
def allLb (cs : List Int) : Bool := cs.all (fun c => decide (97 ≤ c ∧ c ≤ 122))
set_option maxRecDepth 16384 in
theorem allL_b {cs : List Int} (h : allLb cs = true) : allL cs := fun c hc => by
  show 97 ≤ c ∧ c ≤ 122
  exact of_decide_eq_true (List.all_eq_true.mp h c hc)
set_option maxRecDepth 16384 in
theorem sp2 (m : MM) (a b : Int) (ha : 97 ≤ a) (a1 : a ≤ 122) (hb : 97 ≤ b) (b1 : b ≤ 122) : f278 m a b 0 0 0 0 0 = p27 [a, b] := by
  unfold f278
  simp only [Int.le_refl, if_true]
  simp (disch := omega) only [s64_id]
  show 27 * (a - 96) + b - 96 = (0 * 27 + (a - 96)) * 27 + (b - 96)
  omega
set_option maxRecDepth 16384 in
theorem sp4 (m : MM) (a b c d : Int) (ha : 97 ≤ a) (a1 : a ≤ 122) (hb : 97 ≤ b) (b1 : b ≤ 122) (hc : 97 ≤ c) (c1 : c ≤ 122) (hd : 97 ≤ d) (d1 : d ≤ 122) : f278 m a b c d 0 0 0 = p27 [a, b, c, d] := by
  unfold f278
  simp only [Int.le_refl, if_true]
  rw [if_neg (by omega), if_neg (by omega)]
  simp (disch := omega) only [s64_id]
  show _ = (((0 * 27 + (a - 96)) * 27 + (b - 96)) * 27 + (c - 96)) * 27 + (d - 96)
  omega
set_option maxRecDepth 16384 in
theorem sp5 (m : MM) (a b c d e : Int) (ha : 97 ≤ a) (a1 : a ≤ 122) (hb : 97 ≤ b) (b1 : b ≤ 122) (hc : 97 ≤ c) (c1 : c ≤ 122) (hd : 97 ≤ d) (d1 : d ≤ 122) (he : 97 ≤ e) (e1 : e ≤ 122) : f278 m a b c d e 0 0 = p27 [a, b, c, d, e] := by
  unfold f278
  simp only [Int.le_refl, if_true]
  rw [if_neg (by omega), if_neg (by omega), if_neg (by omega)]
  simp (disch := omega) only [s64_id]
  show _ = ((((0 * 27 + (a - 96)) * 27 + (b - 96)) * 27 + (c - 96)) * 27 + (d - 96)) * 27 + (e - 96)
  omega
set_option maxRecDepth 16384 in
theorem sp7 (m : MM) (a b c d e f g : Int) (ha : 97 ≤ a) (a1 : a ≤ 122) (hb : 97 ≤ b) (b1 : b ≤ 122) (hc : 97 ≤ c) (c1 : c ≤ 122) (hd : 97 ≤ d) (d1 : d ≤ 122) (he : 97 ≤ e) (e1 : e ≤ 122) (hf : 97 ≤ f) (f1 : f ≤ 122) (hg : 97 ≤ g) (g1 : g ≤ 122) : f278 m a b c d e f g = p27 [a, b, c, d, e, f, g] := by
  unfold f278
  rw [if_neg (by omega), if_neg (by omega), if_neg (by omega), if_neg (by omega), if_neg (by omega)]
  simp (disch := omega) only [s64_id]
  show _ = ((((((0 * 27 + (a - 96)) * 27 + (b - 96)) * 27 + (c - 96)) * 27 + (d - 96)) * 27 + (e - 96)) * 27 + (f - 96)) * 27 + (g - 96)
  omega
set_option maxRecDepth 16384 in
theorem w13 (m : MM) : f291 m 13 = p27 [118, 111, 105, 100] := by
  have : f291 m 13 = f278 m 118 111 105 100 0 0 0 := by unfold f291; simp only [Int.reduceEq, if_false, if_true]
  rw [this]; exact sp4 _ _ _ _ _ (by decide) (by decide) (by decide) (by decide) (by decide) (by decide) (by decide) (by decide)
set_option maxRecDepth 16384 in
theorem w20 (m : MM) : f291 m 20 = p27 [102, 105, 108, 101, 100] := by
  have : f291 m 20 = f278 m 102 105 108 101 100 0 0 := by unfold f291; simp only [Int.reduceEq, if_false, if_true]
  rw [this]; exact sp5 _ _ _ _ _ _ (by decide) (by decide) (by decide) (by decide) (by decide) (by decide) (by decide) (by decide) (by decide) (by decide)
set_option maxRecDepth 16384 in
theorem w21 (m : MM) : f291 m 21 = p27 [103, 114, 97, 110, 116, 101, 100] := by
  have : f291 m 21 = f278 m 103 114 97 110 116 101 100 := by unfold f291; simp only [Int.reduceEq, if_false, if_true]
  rw [this]; exact sp7 _ _ _ _ _ _ _ _ (by decide) (by decide) (by decide) (by decide) (by decide) (by decide) (by decide) (by decide) (by decide) (by decide) (by decide) (by decide) (by decide) (by decide)
set_option maxRecDepth 16384 in
theorem w23 (m : MM) : f291 m 23 = p27 [99, 108, 101, 97, 114] := by
  have : f291 m 23 = f278 m 99 108 101 97 114 0 0 := by unfold f291; simp only [Int.reduceEq, if_false, if_true]
  rw [this]; exact sp5 _ _ _ _ _ _ (by decide) (by decide) (by decide) (by decide) (by decide) (by decide) (by decide) (by decide) (by decide) (by decide)
set_option maxRecDepth 16384 in
theorem w24 (m : MM) : f291 m 24 = p27 [97, 98, 111, 117, 116] := by
  have : f291 m 24 = f278 m 97 98 111 117 116 0 0 := by unfold f291; simp only [Int.reduceEq, if_false, if_true]
  rw [this]; exact sp5 _ _ _ _ _ _ (by decide) (by decide) (by decide) (by decide) (by decide) (by decide) (by decide) (by decide) (by decide) (by decide)
set_option maxRecDepth 16384 in
theorem wcs {m : MM} {n : Int} (h : m 148 34 = n) (l : List Int) : (wF m l) 148 34 = n + (l.length : Int) := by rw [wF_len, h]
set_option maxRecDepth 16384 in
theorem wF_o {m : MM} (l : List Int) {x k : Int} (h : x ≠ 163) (h2 : ¬ (x = 148 ∧ k = 34)) : (wF m l) x k = m x k := wF_fr l m x k (by unfold Qww; omega)
set_option maxRecDepth 16384 in
/-- the reference tells how a form is -/
theorem wS {X : KO} {ρ : Nat → Int32} {f s : Int} {m m' : MM} {rl : List (Nat × Int)} (f0 : 0 ≤ f) (f8 : f < 8) (h14 : m 148 14 = 150) (hs : m 150 (182 + f) = s) (s0 : 0 ≤ s) (s3 : s ≤ 3) (h33 : m 148 33 = 163) (h0 : 0 ≤ m 148 34) (h1 : m 148 34 ≤ 700) (hr : Run X ρ 294 [(1, 148), (1, f)] m rl m') : m' = wF m (if s = 0 then [32, 105, 115, 32, 99, 108, 101, 97, 114] else if s = 1 then [32, 105, 115, 32, 102, 105, 108, 101, 100] else if s = 2 then [32, 105, 115, 32, 103, 114, 97, 110, 116, 101, 100] else [32, 105, 115, 32, 118, 111, 105, 100]) := by
  obtain ⟨N, ig, hr⟩ := Run_CR hr rfl
  have hr : MR X ρ 2 0 0 qP294 N 0 [148, f] [] m (ig, rl, m') := hr
  obtain ⟨m7, r7, B⟩ := q294_0 hr
  have e7 := wN (cs := [105, 115]) (allL_b (by decide)) (by decide) (by decide) (sp2 _ _ _ (by decide) (by decide) (by decide) (by decide)) h33 h0 (by omega) r7
  have a14 : m7 148 14 = 150 := by rw [e7, wF_o _ (by decide) (by decide)]; exact h14
  have aS : m7 150 (182 + f) = s := by rw [e7, wF_o _ (by decide) (by omega)]; exact hs
  have a33 : m7 148 33 = 163 := by rw [e7, wF_o _ (by decide) (by decide)]; exact h33
  have a34 : m7 148 34 = m 148 34 + 3 := by rw [e7]; exact wcs rfl _
  rw [a14, s32_id (z := 182 + f) (by omega) (by omega), aS] at B
  have fin : ∀ (cs : List Int) (L : List Int) (w : Int), allLb cs = true → cs ≠ [] → cs.length ≤ 7 → w = p27 cs → L = [32, 105, 115] ++ (32 :: cs) → Run X ρ 293 [(1, 148), (2, w)] m7 [] m' → m' = wF m L := fun cs L w q1 q2 q3 q4 q5 q6 => by
    rw [wN (allL_b q1) q2 q3 q4 a33 (by omega) (by omega) q6, e7, q5, wF_app]
  rcases B with ⟨c, m8, r8, B⟩ | ⟨c, ⟨d, m8, r8, B⟩ | ⟨d, m8, r8, B⟩⟩
  · cases B
    rw [if_pos c]
    exact fin [99, 108, 101, 97, 114] _ _ (by decide) (by decide) (by decide) (w23 _) rfl r8
  · cases B
    rw [if_neg (by omega), if_neg (by omega), if_neg (by omega)]
    exact fin [118, 111, 105, 100] _ _ (by decide) (by decide) (by decide) (w13 _) rfl r8
  · cases B
    rw [if_neg c]
    rw [s32_id (z := 19 + s) (by omega) (by omega)] at r8
    by_cases q : s = 1
    · subst q
      rw [if_pos rfl]
      exact fin [102, 105, 108, 101, 100] _ _ (by decide) (by decide) (by decide) (w20 _) rfl r8
    · have q : s = 2 := by omega
      subst q
      rw [if_neg (by decide), if_pos rfl]
      exact fin [103, 114, 97, 110, 116, 101, 100] _ _ (by decide) (by decide) (by decide) (w21 _) rfl r8
set_option maxRecDepth 16384 in
/-- all that is so while a text is written -/
def SS (a b : MM) (n : Int) : Prop := Sx a b 15 ∧ TX a b n ∧ lay4 a ∧ b 148 33 = 163
set_option maxRecDepth 16384 in
theorem SS_F {a b : MM} {n : Int} (h : SS a b n) (L : List Int) : SS (cF a L) (wF b L) (n + (L.length : Int)) := by
  obtain ⟨h1, h2, h3, h4⟩ := h
  have h0 : 0 ≤ a 94 1 := by rw [h2.1]; exact h2.2.2.1
  exact ⟨Sx_fr h1 (fun x k q _ => cF_fr L a x k (by unfold Qcc; omega)) (fun x k q1 q2 => cF_fr L a x k (by unfold Qcc; omega)) (wF_o _ (by decide) (by decide)) (fun k => wF_o _ (by decide) (by omega)), TX_F L h2, lay4_F h3 h0 L, by rw [wF_o _ (by decide) (by decide)]; exact h4⟩
set_option maxRecDepth 16384 in
theorem SS_put {a b : MM} {n : Int} {t : Int} {L : List Int} (h : SS a b n) (hL : txt t L) (hn : n + (L.length : Int) ≤ 40) : SS (g104 a 94 t) (wF b L) (n + (L.length : Int)) := by
  rw [g104_c hL h.2.2.1 (by rw [h.2.1.1]; exact h.2.1.2.2.1) (by rw [h.2.1.1]; exact hn)]
  exact SS_F h L
end
