/-! An office begun, on the reference's side. -/
set_option maxRecDepth 16384 in
theorem s32_0 : s32 0 = 0 := s32_id (by decide) (by decide)
set_option maxRecDepth 16384 in
theorem s32_m1 : s32 (-1) = -1 := s32_id (by decide) (by decide)
set_option maxRecDepth 16384 in
theorem g232_ok {m : MM} {f : Int} (h14 : m 148 14 = 150) (h0 : 0 ≤ f) (h8 : f < 8) : Fr (fun b k => b = 150 ∧ ((158 + 3 * f ≤ k ∧ k < 161 + 3 * f) ∨ k = 182 + f ∨ k = 190 + f)) m (g232 m 148 f) ∧ (∀ k, 158 + 3 * f ≤ k → k < 161 + 3 * f → g232 m 148 f 150 k = -1) ∧ g232 m 148 f 150 (182 + f) = 0 ∧ g232 m 148 f 150 (190 + f) = s32 (m 150 (84 + f)) := by
  unfold g232
  rw [B232_2 h14 h0 h8]
  dsimp only
  have w : fm m 150 (158 + 3 * f + 0) (158 + 3 * f + 3) (fun _ => s32 (-1)) 148 14 = 150 := by rw [fm_n (by decide)]; exact h14
  rw [w, s32_id (z := 182 + f) (by omega) (by omega), s32_id (z := 190 + f) (by omega) (by omega), s32_id (z := 84 + f) (by omega) (by omega), mu_a (b := 148) (by decide), w, mu_k (by omega), fm_o (by omega), s32_0, s32_m1]
  refine ⟨(((Fr.rf _ _).fl (fun j h1 h2 => ⟨rfl, Or.inl (by omega)⟩)).mu ⟨rfl, Or.inr (Or.inl rfl)⟩).mu ⟨rfl, Or.inr (Or.inr rfl)⟩, fun k k1 k2 => ?_, ?_, mu_s _ _ _ _⟩
  · rw [mu_k (by omega), mu_k (by omega), fm_i (by omega) (by omega)]
  · rw [mu_k (by omega), mu_s]
set_option maxRecDepth 16384 in
def POp (b k : Int) : Prop := b = 150 ∧ 158 ≤ k ∧ k < 198
set_option maxRecDepth 16384 in
theorem B280_70 {m : MM} (h14 : m 148 14 = 150) : ∃ m', L280_70 m 148 0 = (1, 0, (8, m')) ∧ Fr POp m m' ∧ (∀ k, 158 ≤ k → k < 182 → m' 150 k = -1) ∧ ∀ f, 0 ≤ f → f < 8 → m' 150 (182 + f) = 0 ∧ m' 150 (190 + f) = s32 (m 150 (84 + f)) := by
  unfold L280_70
  refine Lp_ind (f := K280_70 m 148 0) (P := fun s => 0 ≤ s.1 ∧ s.1 ≤ 8 ∧ Fr POp m s.2 ∧ (∀ k, 158 ≤ k → k < 158 + 3 * s.1 → s.2 150 k = -1) ∧ ∀ f, 0 ≤ f → f < s.1 → s.2 150 (182 + f) = 0 ∧ s.2 150 (190 + f) = s32 (m 150 (84 + f))) (Q := fun z => ∃ m', z = (1, 0, (8, m')) ∧ Fr POp m m' ∧ (∀ k, 158 ≤ k → k < 182 → m' 150 k = -1) ∧ ∀ f, 0 ≤ f → f < 8 → m' 150 (182 + f) = 0 ∧ m' 150 (190 + f) = s32 (m 150 (84 + f))) (fun s => (8 - s.1).toNat) ?_ (0, m) ⟨Int.le_refl _, show (0 : Int) ≤ 8 by decide, Fr.rf _ _, fun k k1 k2 => absurd (show k < 158 + 3 * 0 from k2) (by omega), fun f f1 f2 => absurd (show f < 0 from f2) (by omega)⟩
  rintro ⟨i, mm⟩ ⟨h0, h8, hF, hk, hf⟩
  have h0 : 0 ≤ i := h0
  have h8 : i ≤ 8 := h8
  have hF : Fr POp m mm := hF
  show (∃ t, S280_70 mm 148 i = .inl t ∧ _) ∨ (∃ t, S280_70 mm 148 i = .inr t ∧ _)
  unfold S280_70
  by_cases c : 8 ≤ i
  · have : i = 8 := by omega
    subst this
    rw [if_pos c]
    exact Or.inr ⟨_, rfl, mm, rfl, hF, hk, hf⟩
  · rw [if_neg c, s32_id (z := i + 1) (by omega) (by omega)]
    have w14 : mm 148 14 = 150 := by rw [hF 148 14 (by unfold POp; omega)]; exact h14
    obtain ⟨F1, g1, g2, g3⟩ := g232_ok w14 h0 (by omega)
    refine Or.inl ⟨_, rfl, ⟨by show 0 ≤ i + 1; omega, by show i + 1 ≤ 8; omega, hF.tr (F1.mo (fun b k q => by unfold POp; omega)), fun k k1 k2 => ?_, fun f f1 f2 => ?_⟩, ?_⟩
    · show g232 mm 148 i 150 k = -1
      have k2 : k < 158 + 3 * (i + 1) := k2
      by_cases d : k < 158 + 3 * i
      · rw [F1 150 k (by omega)]; exact hk k k1 d
      · exact g1 k (by omega) (by omega)
    · have f2 : f < i + 1 := f2
      show g232 mm 148 i 150 (182 + f) = 0 ∧ g232 mm 148 i 150 (190 + f) = s32 (m 150 (84 + f))
      by_cases d : f = i
      · subst d
        refine ⟨g2, ?_⟩
        rw [g3, show mm 150 (84 + f) = m 150 (84 + f) from hF 150 (84 + f) (by unfold POp; omega)]
      · obtain ⟨e1, e2⟩ := hf f f1 (show f < i by omega)
        have e1 : mm 150 (182 + f) = 0 := e1
        have e2 : mm 150 (190 + f) = s32 (m 150 (84 + f)) := e2
        rw [F1 150 (182 + f) (by omega), F1 150 (190 + f) (by omega)]
        exact ⟨e1, e2⟩
    · show (8 - (i + 1)).toNat < (8 - i).toNat
      omega
set_option maxRecDepth 16384 in
/-- how it begins: the place of what is so -/
theorem g280_ok {m : MM} (h14 : m 148 14 = 150) : Fr (fun b k => b = 150 ∧ 92 ≤ k ∧ k < 456) m (g280 m 148) ∧ g280 m 148 150 92 = 0 ∧ g280 m 148 150 93 = s32 (m 150 3) ∧ (∀ k, 0 ≤ k → k < 64 → g280 m 148 150 (94 + k) = s32 (m 150 (12 + k))) ∧ (∀ k, 0 ≤ k → k < 24 → g280 m 148 150 (158 + k) = -1) ∧ (∀ k, 0 ≤ k → k < 8 → g280 m 148 150 (182 + k) = 0 ∧ g280 m 148 150 (190 + k) = s32 (m 150 (84 + k)) ∧ g280 m 148 150 (198 + k) = -1 ∧ g280 m 148 150 (206 + k) = 0) ∧ (∀ k, 214 ≤ k → k < 456 → g280 m 148 150 k = 0) := by
  unfold g280
  rw [B280_3 h14]
  dsimp only
  have w1 : fm m 150 (0 + 92) (0 + 456) (fun _ => s32 0) 148 14 = 150 := by rw [fm_n (by decide)]; exact h14
  have F1 : Fr (fun b k => b = 150 ∧ 92 ≤ k ∧ k < 456) m (fm m 150 (0 + 92) (0 + 456) (fun _ => s32 0)) := (Fr.rf _ _).fl (fun j h1 h2 => ⟨rfl, by omega, by omega⟩)
  have v1 : ∀ k, 92 ≤ k → k < 456 → fm m 150 (0 + 92) (0 + 456) (fun _ => s32 0) 150 k = 0 := fun k k1 k2 => by rw [fm_i (by omega) (by omega), s32_0]
  rw [w1, F1 150 3 (by omega)]
  revert w1 F1 v1
  generalize fm m 150 (0 + 92) (0 + 456) (fun _ => s32 0) = a1
  intro w1 F1 v1
  have w2 : mu a1 150 93 (s32 (m 150 3)) 148 14 = 150 := by rw [mu_a (by decide)]; exact w1
  rw [B280_38 w2]
  dsimp only
  have F2 : Fr (fun b k => b = 150 ∧ 92 ≤ k ∧ k < 158) a1 (fm (mu a1 150 93 (s32 (m 150 3))) 150 (94 + 0) (94 + 64) (fun j => s32 (mu a1 150 93 (s32 (m 150 3)) 150 (j - 82)))) := ((Fr.rf _ _).mu ⟨rfl, by omega, by omega⟩).fl (fun j h1 h2 => ⟨rfl, by omega, by omega⟩)
  have v93 : (fm (mu a1 150 93 (s32 (m 150 3))) 150 (94 + 0) (94 + 64) (fun j => s32 (mu a1 150 93 (s32 (m 150 3)) 150 (j - 82)))) 150 93 = s32 (m 150 3) := by rw [fm_o (by omega), mu_s]
  have v92 : (fm (mu a1 150 93 (s32 (m 150 3))) 150 (94 + 0) (94 + 64) (fun j => s32 (mu a1 150 93 (s32 (m 150 3)) 150 (j - 82)))) 150 92 = 0 := by rw [fm_o (by omega), mu_k (by omega), v1 92 (by omega) (by omega)]
  have vG : ∀ k, 0 ≤ k → k < 64 → (fm (mu a1 150 93 (s32 (m 150 3))) 150 (94 + 0) (94 + 64) (fun j => s32 (mu a1 150 93 (s32 (m 150 3)) 150 (j - 82)))) 150 (94 + k) = s32 (m 150 (12 + k)) := fun k k1 k2 => by
    rw [fm_i (by omega) (by omega), mu_k (by omega), F1 150 (94 + k - 82) (by omega)]
    congr 2
    omega
  have w3 : (fm (mu a1 150 93 (s32 (m 150 3))) 150 (94 + 0) (94 + 64) (fun j => s32 (mu a1 150 93 (s32 (m 150 3)) 150 (j - 82)))) 148 14 = 150 := by rw [F2 148 14 (by omega)]; exact w1
  revert F2 v93 v92 vG w3
  generalize (fm (mu a1 150 93 (s32 (m 150 3))) 150 (94 + 0) (94 + 64) (fun j => s32 (mu a1 150 93 (s32 (m 150 3)) 150 (j - 82)))) = a2
  intro F2 v93 v92 vG w3
  obtain ⟨a3, e3, F3, vS, vH⟩ := B280_70 w3
  rw [e3]
  dsimp only
  have w4 : a3 148 14 = 150 := by rw [F3 148 14 (by unfold POp; omega)]; exact w3
  rw [B280_89 w4]
  dsimp only
  have F4 : Fr (fun b k => b = 150 ∧ 198 ≤ k ∧ k < 206) a3 (fm a3 150 (198 + 0) (198 + 8) (fun _ => s32 (-1))) := (Fr.rf _ _).fl (fun j h1 h2 => ⟨rfl, by omega, by omega⟩)
  have vT : ∀ k, 0 ≤ k → k < 8 → fm a3 150 (198 + 0) (198 + 8) (fun _ => s32 (-1)) 150 (198 + k) = -1 := fun k k1 k2 => by rw [fm_i (by omega) (by omega), s32_m1]
  revert F4 vT
  generalize fm a3 150 (198 + 0) (198 + 8) (fun _ => s32 (-1)) = a4
  intro F4 vT
  refine ⟨((F1.tr (F2.mo (fun b k q => by omega))).tr (F3.mo (fun b k q => by unfold POp at q; omega))).tr (F4.mo (fun b k q => by omega)), ?_, ?_, fun k k1 k2 => ?_, fun k k1 k2 => ?_, fun k k1 k2 => ?_, fun k k1 k2 => ?_⟩
  · rw [F4 150 92 (by omega), F3 150 92 (by unfold POp; omega)]; exact v92
  · rw [F4 150 93 (by omega), F3 150 93 (by unfold POp; omega)]; exact v93
  · rw [F4 150 (94 + k) (by omega), F3 150 (94 + k) (by unfold POp; omega)]; exact vG k k1 k2
  · rw [F4 150 (158 + k) (by omega)]; exact vS (158 + k) (by omega) (by omega)
  · obtain ⟨q1, q2⟩ := vH k k1 k2
    refine ⟨?_, ?_, vT k k1 k2, ?_⟩
    · rw [F4 150 (182 + k) (by omega)]; exact q1
    · rw [F4 150 (190 + k) (by omega), q2, F2 150 (84 + k) (by omega), F1 150 (84 + k) (by omega)]
    · rw [F4 150 (206 + k) (by omega), F3 150 (206 + k) (by unfold POp; omega), F2 150 (206 + k) (by omega)]; exact v1 _ (by omega) (by omega)
  · rw [F4 150 k (by omega), F3 150 k (by unfold POp; omega), F2 150 k (by omega)]; exact v1 _ (by omega) (by omega)
set_option maxRecDepth 16384 in
/-- the office's last part: what is read is so -/
theorem B230_tail {X : KO} {ρ : Nat → Int32} {N : Nat} {m : MM} {o : Instr × List (Nat × Int) × MM} {n : Int} (h14 : m 148 14 = 150) (h15 : m 148 15 = 151) (h19 : m 148 19 = 155) (h20 : m 148 20 = 156) (h : MR X ρ 3 0 0 qP230 N 71 [148, n, 0] [] m o) : ∃ m1, o.2.1 = [(1, n)] ∧ o.2.2 = mu (g280 m1 148) 148 23 0 ∧ Fr (fun b k => (b = 150 ∧ 0 ≤ k ∧ k < 92) ∨ (b = 155 ∧ 0 ≤ k ∧ k < 16)) m m1 ∧ (∀ k, 0 ≤ k → k < 92 → m1 150 k = s32 (m 151 k)) ∧ (∀ k, 0 ≤ k → k < 16 → m1 155 k = m 156 k) := by
  have h := l230_71 (Nat.le_refl _) h
  rw [B230_71 h14 h15] at h
  dsimp only at h
  have h := q230_95 h
  have h := l230_97 (Nat.le_refl _) h
  have F1 : Fr (fun b k => b = 150 ∧ 0 ≤ k ∧ k < 92) m (fm m 150 (0 + 0) (0 + 92) (fun j => s32 (m 151 j))) := (Fr.rf _ _).fl (fun j h1 h2 => ⟨rfl, by omega, by omega⟩)
  have v1 : ∀ k, 0 ≤ k → k < 92 → fm m 150 (0 + 0) (0 + 92) (fun j => s32 (m 151 j)) 150 k = s32 (m 151 k) := fun k k1 k2 => fm_i (by omega) (by omega)
  revert h F1 v1
  generalize fm m 150 (0 + 0) (0 + 92) (fun j => s32 (m 151 j)) = a1
  intro h F1 v1
  rw [B230_97 (by rw [F1 148 19 (by omega)]; exact h19) (by rw [F1 148 20 (by omega)]; exact h20)] at h
  dsimp only at h
  obtain ⟨m3, r, e⟩ := q230_121 h
  obtain ⟨-, e2⟩ := d280 r
  refine ⟨fm a1 155 (0 + 0) (0 + 16) (fun j => a1 156 j), by rw [e], by rw [e, e2], (F1.mo (fun b k q => Or.inl q)).fl (fun j h1 h2 => Or.inr ⟨rfl, by omega, by omega⟩), fun k k1 k2 => ?_, fun k k1 k2 => ?_⟩
  · rw [fm_n (by decide)]; exact v1 k k1 k2
  · rw [fm_i (by omega) (by omega), F1 156 k (by omega)]
