/-! The class's tape read: a run of letters and digits. -/
set_option maxRecDepth 16384 in
theorem mu_s (m : MM) (a k v : Int) : mu m a k v a k = v := if_pos ⟨rfl, rfl⟩
set_option maxRecDepth 16384 in
theorem mu_k {m : MM} {a k v b j : Int} (h : j ≠ k) : mu m a k v b j = m b j := if_neg (fun q => h q.2)
set_option maxRecDepth 16384 in
theorem mu_a {m : MM} {a k v b j : Int} (h : b ≠ a) : mu m a k v b j = m b j := if_neg (fun q => h q.1)
set_option maxRecDepth 16384 in
/-- nothing changed but some places -/
def Fr (P : Int → Int → Prop) (m m' : MM) : Prop := ∀ a k, ¬ P a k → m' a k = m a k
set_option maxRecDepth 16384 in
theorem Fr.rf (P : Int → Int → Prop) (m : MM) : Fr P m m := fun _ _ _ => rfl
set_option maxRecDepth 16384 in
theorem Fr.tr {P : Int → Int → Prop} {m m1 m2 : MM} (h1 : Fr P m m1) (h2 : Fr P m1 m2) : Fr P m m2 := fun a k h => (h2 a k h).trans (h1 a k h)
set_option maxRecDepth 16384 in
theorem Fr.mo {P Q : Int → Int → Prop} {m m1 : MM} (h : Fr P m m1) (hq : ∀ a k, P a k → Q a k) : Fr Q m m1 := fun a k hn => h a k (fun p => hn (hq a k p))
set_option maxRecDepth 16384 in
theorem Fr.mu {P : Int → Int → Prop} {m m1 : MM} (h : Fr P m m1) {a k v : Int} (hp : P a k) : Fr P m (mu m1 a k v) := fun b j hn => by
  show (if b = a ∧ j = k then v else m1 b j) = m b j
  rw [if_neg]
  · exact h b j hn
  · rintro ⟨rfl, rfl⟩
    exact hn hp
set_option maxRecDepth 16384 in
theorem f154_i (m : MM) (c : Int) : f154 m c = 0 ↔ ¬ isLt c := by
  unfold f154 isLt
  split
  · constructor
    · intro _; omega
    · intro _; rfl
  · split
    · constructor
      · intro _; omega
      · intro _; rfl
    · constructor
      · intro h; exact absurd h (by decide)
      · intro h; omega
set_option maxRecDepth 16384 in
theorem f151_i (m : MM) (c : Int) : f151 m c = 0 ↔ ¬ isDg c := by
  unfold f151 isDg
  split
  · constructor
    · intro _; omega
    · intro _; rfl
  · split
    · constructor
      · intro _; omega
      · intro _; rfl
    · constructor
      · intro h; exact absurd h (by decide)
      · intro h; omega
set_option maxRecDepth 16384 in
/-- the class's tape holds t, so long -/
def TA (m : MM) (t : Int → Int) (L : Int) : Prop := m 1 0 = 2 ∧ m 1 1 = L ∧ 0 ≤ L ∧ L ≤ 940 ∧ m 2 (-1) = 940 ∧ ∀ j, 0 ≤ j → j < L → jand (m 2 j) 255 = t j
set_option maxRecDepth 16384 in
theorem TA_mu {m : MM} {t : Int → Int} {L k v : Int} (h : TA m t L) (h0 : k ≠ 0) (h1 : k ≠ 1) : TA (mu m 1 k v) t L := by
  obtain ⟨a1, a2, a3, a4, a5, a6⟩ := h
  refine ⟨by rw [mu_k (fun e => h0 e.symm)]; exact a1, by rw [mu_k (fun e => h1 e.symm)]; exact a2, a3, a4, by rw [mu_a (by decide)]; exact a5, fun j hj hl => by rw [mu_a (by decide)]; exact a6 j hj hl⟩
set_option maxRecDepth 16384 in
theorem TA_fr {P : Int → Int → Prop} {m m' : MM} {t : Int → Int} {L : Int} (h : TA m t L) (hf : Fr P m m') (h0 : ¬ P 1 0) (h1 : ¬ P 1 1) (h2 : ∀ j, ¬ P 2 j) : TA m' t L := by
  obtain ⟨a1, a2, a3, a4, a5, a6⟩ := h
  exact ⟨by rw [hf _ _ h0]; exact a1, by rw [hf _ _ h1]; exact a2, a3, a4, by rw [hf _ _ (h2 _)]; exact a5, fun j hj hl => by rw [hf _ _ (h2 _)]; exact a6 j hj hl⟩
set_option maxRecDepth 16384 in
theorem signAt_in {m : MM} {t : Int → Int} {L i : Int} (h : TA m t L) (h0 : 0 ≤ i) (h1 : i < L) : f159 m 1 i = t i := by
  obtain ⟨a1, a2, a3, a4, a5, a6⟩ := h
  unfold f159
  rw [if_neg (by omega), if_neg (by rw [a2]; omega), a1, a5]
  rw [if_neg]
  · exact a6 i h0 h1
  · rw [if_neg (by decide), s32_id (by decide) (by decide)]
    omega
set_option maxRecDepth 16384 in
theorem signAt_out {m : MM} {t : Int → Int} {L i : Int} (h : TA m t L) (h1 : L ≤ i) : f159 m 1 i = -1 := by
  obtain ⟨a1, a2, a3, a4, a5, a6⟩ := h
  unfold f159
  by_cases c : i < 0
  · rw [if_pos c]
  · rw [if_neg c, if_pos (by rw [a2]; omega)]
set_option maxRecDepth 16384 in
/-- the words' letters -/
def wls : List (List Int) := [[112, 101, 114, 115, 111, 110], [114, 101, 116, 105, 114, 101, 100], [103, 114, 117, 100, 103, 101], [115, 104, 121], [102, 111, 114, 109], [114, 117, 108, 101], [100, 114, 97, 119, 101, 114], [97, 110, 121], [115, 105, 103, 110, 115], [115, 111, 102, 116, 101, 110, 115], [114, 101, 115, 101, 110, 116, 115], [114, 101, 116, 105, 114, 101, 115], [114, 101, 116, 117, 114, 110, 115], [118, 111, 105, 100], [108, 111, 100, 103, 101], [100, 97, 121], [111, 114], [97, 110, 100], [110, 111, 116], [111, 112, 101, 110], [102, 105, 108, 101, 100], [103, 114, 97, 110, 116, 101, 100], [118, 111, 105, 100, 101, 100], [99, 108, 101, 97, 114], [97, 98, 111, 117, 116], [104, 117, 114, 116, 115], [115, 105, 103, 110, 101, 100], [112, 97, 114, 116, 115], [100, 97, 121, 115], [110, 117, 109, 98, 101, 114]]
set_option maxRecDepth 16384 in
def wl (i : Nat) : List Int := wls.getD i []
set_option maxRecDepth 16384 in
theorem wl_ok : ∀ i : Nat, i < 30 → allL (wl i) ∧ wl i ≠ [] ∧ (wl i).length ≤ 7 := by
  have h : wls.all (fun l => l.all (fun c => decide (97 ≤ c) && decide (c ≤ 122)) && (!l.isEmpty && Nat.ble l.length 7)) = true := by decide
  have hl : wls.length = 30 := rfl
  intro i hi
  have hm : wl i ∈ wls := by
    unfold wl
    rw [List.getD_eq_getElem?_getD, List.getElem?_eq_getElem (by omega)]
    exact List.getElem_mem _
  have h1 := List.all_eq_true.mp h _ hm
  simp only [Bool.and_eq_true, Bool.not_eq_true'] at h1
  obtain ⟨h2, h3, h4⟩ := h1
  refine ⟨fun c hc => ?_, (fun e => by rw [e] at h3; cases h3), Nat.le_of_ble_eq_true h4⟩
  have h5 := Bool.and_eq_true_iff.mp (List.all_eq_true.mp h2 c hc)
  exact ⟨of_decide_eq_true h5.1, of_decide_eq_true h5.2⟩
set_option maxRecDepth 16384 in
theorem wl_inj : ∀ i j : Nat, i < 30 → j < 30 → wl i = wl j → i = j := by
  have h : ∀ i : Fin 30, ∀ j : Fin 30, wl i.val = wl j.val → i = j := by decide +kernel
  intro i j hi hj e
  exact congrArg Fin.val (h ⟨i, hi⟩ ⟨j, hj⟩ e)
set_option maxRecDepth 16384 in
/-- what is known of the words outside -/
def XW (X : KO) : Prop := ∀ i : Nat, i < 30 → (X.2 (1000100 + i)).toInt = p32 (wl i)
set_option maxRecDepth 16384 in
/-- what a run's letters mean -/
def Mean (v : Int) (x : Int) : Prop := (∃ i : Nat, i < 30 ∧ v = 1000100 + (i : Int) ∧ x = p32 (wl i)) ∨ (v = -1 ∧ ∀ i : Nat, i < 30 → x ≠ p32 (wl i))
set_option maxRecDepth 16384 in
theorem A150 {X : KO} {ρ : Nat → Int32} {m m' : MM} {rl : List (Nat × Int)} (hX : XW X) (h8 : m 1 8 = -1) (h : Run X ρ 150 [(1, 1)] m rl m') : rl = [] ∧ Fr (fun a k => a = 1 ∧ k = 8) m m' ∧ Mean (m' 1 8) (m 1 7) := by
  have hrl := Run_v h rfl
  refine ⟨hrl, ?_⟩
  obtain ⟨N, ig, h⟩ := Run_CR h rfl
  have h : MR X ρ 2 0 0 qP150 N 0 [1, 0] [] m (ig, rl, m') := h
  have h := i150_0 h
  have key : ∀ (N : Nat) (m1 : MM) (i : Nat), MR X ρ 2 0 0 qP150 N 2 [1, (i : Int)] [] m1 (ig, rl, m') → i ≤ 30 → Fr (fun a k => a = 1 ∧ k = 8) m m1 → ((∃ j : Nat, j < i ∧ m1 1 8 = 1000100 + (j : Int) ∧ m 1 7 = p32 (wl j)) ∨ (m1 1 8 = -1 ∧ ∀ j : Nat, j < i → m 1 7 ≠ p32 (wl j))) → Fr (fun a k => a = 1 ∧ k = 8) m m' ∧ Mean (m' 1 8) (m 1 7) := by
    intro N
    induction N with
    | zero =>
      intro m1 i h hi hf hM
      rcases i150_2 h with ⟨c, h⟩ | ⟨c, h⟩
      · cases h
        have : i = 30 := by omega
        subst this
        exact ⟨hf, hM⟩
      · rcases h with ⟨c2, _⟩ | ⟨c2, h⟩
        · omega
        rcases h with ⟨_, N', e, _⟩ | ⟨_, N', e, _⟩ <;> cases e
    | succ N ih =>
      intro m1 i h hi hf hM
      rcases i150_2 h with ⟨c, h⟩ | ⟨c, h⟩
      · cases h
        have : i = 30 := by omega
        subst this
        exact ⟨hf, hM⟩
      · have e7 : m1 1 7 = m 1 7 := hf 1 7 (by omega)
        have ew : (X.2 (1000100 + (i : Int)).toNat).toInt = p32 (wl i) := by
          rw [← hX i (by omega)]
          congr 2
        have en : s32 ((i : Int) + 1) = ((i + 1 : Nat) : Int) := by rw [s32_id (by omega) (by omega)]; rfl
        rcases h with ⟨c2, _⟩ | ⟨c2, h⟩
        · omega
        rw [ew, e7, en] at h
        rcases h with ⟨c3, N', e, h⟩ | ⟨c3, N', e, h⟩
        · cases e
          have e1 : p32 (wl i) = m 1 7 := by
            by_cases d1 : m 1 7 < p32 (wl i)
            · rw [if_pos d1] at c3; cases c3
            · rw [if_neg d1] at c3
              by_cases d2 : p32 (wl i) = m 1 7
              · exact d2
              · rw [if_neg d2] at c3; cases c3
          refine ih _ (i + 1) h (by omega) (hf.mu ⟨rfl, rfl⟩) (Or.inl ⟨i, by omega, mu_s _ _ _ _, e1.symm⟩)
        · cases e
          have e1 : m 1 7 ≠ p32 (wl i) := by
            intro d
            rw [if_neg (by omega), if_pos d.symm] at c3
            exact c3 rfl
          refine ih _ (i + 1) h (by omega) hf ?_
          rcases hM with ⟨j, j1, j2, j3⟩ | ⟨j1, j2⟩
          · exact Or.inl ⟨j, by omega, j2, j3⟩
          · refine Or.inr ⟨j1, fun j hj => ?_⟩
            by_cases d : j = i
            · rw [d]; exact e1
            · exact j2 j (by omega)
  exact key N m 0 h (by omega) (Fr.rf _ _) (Or.inr ⟨h8, fun j hj => absurd hj (by omega)⟩)
