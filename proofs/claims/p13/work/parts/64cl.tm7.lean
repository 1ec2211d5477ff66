/-! A book read. -/
set_option maxRecDepth 16384 in
def Wb (x k : Int) : Prop := WB x k ∨ (x = 148 ∧ k = 38)
set_option maxRecDepth 16384 in
theorem C2_wb {a a' b b' : MM} (h : C2 a b) (fa : Fr WA a a') (fb : Fr Wb b b') : C2 a' b' := C2_fr h (fun x k q => fa x k (by unfold PCs at q; unfold WA; omega)) (fun x k q => fb x k (by unfold PJs at q; unfold Wb WB; omega))
set_option maxRecDepth 16384 in
theorem BS_38 {X : KO} {t : Int → Int} {L : Int} {a b : MM} (h : BS X t L a b) (v : Int) : BS X t L a (mu b 148 38 v) := by
  have fz : Fr (fun x k => x = 148 ∧ k = 38) b (mu b 148 38 v) := (Fr.rf _ _).mu ⟨rfl, rfl⟩
  obtain ⟨⟨⟨p0, p1⟩, h9, h10⟩, hc, hl1, hl2⟩ := h
  exact ⟨⟨⟨PR0_fr p0 (Fr.rf (fun _ _ => False) _) fz (fun _ q => q) (fun _ q => q) (fun k _ _ q => by omega) (fun k q => by omega), TKR_fr p1 (Fr.rf (fun _ _ => False) _) fz (fun _ q => q) (fun k _ _ q => by omega)⟩, h9, by rw [mu_k (by decide)]; exact h10⟩, C2_wb hc (Fr.rf _ _) (fz.mo fun x k q => Or.inr q), hl1, by rw [mu_k (by decide)]; exact hl2⟩
set_option maxRecDepth 16384 in
theorem Lv_fr {a a' b b' : MM} {n i : Int} (h : Lv a b i) (i0 : 0 ≤ i) (hi : i < n) (fa : Fr (fun x k => Va n x k ∨ (x = 96 ∧ k = 3)) a a') (fb : Fr (fun x k => Vb n x k ∨ (x = 148 ∧ k = 38)) b b') : Lv a' b' i := by
  obtain ⟨h1, h2, h3, h4⟩ := h
  unfold Lv
  rw [fa 97 i (by unfold Va; omega), fa 98 i (by unfold Va; omega), fa 99 i (by unfold Va; omega), fb _ (3 * i) (by unfold Vb; omega), fb _ (3 * i + 1) (by unfold Vb; omega), fb _ (3 * i + 2) (by unfold Vb; omega)]
  refine ⟨h1, h2, h3, ?_⟩
  unfold Is at *
  rw [fa 3 6 (by unfold Va; omega), fa 3 7 (by unfold Va; omega)]
  exact h4
set_option maxRecDepth 16384 in
/-- where the reading ends -/
def RE (X : KO) (ρ : Nat → Int32) (t : Int → Int) (L lv : Int) (a a' b : MM) (o : Instr × List (Nat × Int) × MM) : Prop := Fr WA a a' ∧ ((FL a' o.2.2 ∧ o.2.1 = [(1, s32 (-2 - o.2.2 148 11))] ∧ Fr Wb b o.2.2) ∨ (∃ (M' : Nat) (b' : MM), BS X t L a' b' ∧ a' 96 3 = b' 148 38 ∧ 0 ≤ a' 96 3 ∧ a' 96 3 ≤ 40 ∧ (∀ i, 0 ≤ i → i < a' 96 3 → Lv a' b' i) ∧ MR X ρ 4 0 0 qP171 M' 73 [148, lv, 0, 0] [] (g219 b' 148) o ∧ Fr Wb b b'))
set_option maxRecDepth 16384 in
theorem loopT {X : KO} {ρ : Nat → Int32} {t : Int → Int} {L lv : Int} {a' : MM} {rl : List (Nat × Int)} {ig : Instr} {o : Instr × List (Nat × Int) × MM} (hX : XW X) (hS : XS X) : ∀ (K N M : Nat) (n : Int) (a b : MM), BS X t L a b → a 96 3 = n → b 148 38 = n → 0 ≤ n → n ≤ 40 → 41 - n ≤ (K : Int) → (∀ i, 0 ≤ i → i < n → Lv a b i) → MR X ρ 5 0 0 qP55 N 17 [96, 1, 3, 1, n] [] a (ig, rl, a') → MR X ρ 4 0 0 qP171 M 30 [148, lv, 0, 0] [] b o → RE X ρ t L lv a a' b o := by
  intro K
  induction K with
  | zero => intro N M n a b _ _ _ _ h40 hK; omega
  | succ K ih =>
    intro N M n a b h en en' n0 n40 hK hv ra rb
    have A := k55_17 ra
    have B := k171_30 rb
    have ek : a 1 4 = 0 ↔ b 148 7 = 0 := by
      rcases h.1.1.2.2.2 with ⟨e1, e2⟩ | ⟨e1, e2⟩ | ⟨e1, e2, -⟩ | ⟨e1, e2, -⟩ | ⟨e1, e2, -⟩ <;> omega
    rcases A with ⟨e, _⟩ | ⟨_, A⟩
    · omega
    · rcases A with ⟨e, _⟩ | ⟨_, A⟩
      · exact absurd e (by decide)
      · rcases A with ⟨e, A⟩ | ⟨e, v7, m5, r5, -, N8, -, A⟩
        · have A : a' = a := congrArg (fun z => z.2.2) A
          rcases B with ⟨-, y, ey, B⟩ | ⟨d, _⟩
          · rw [ey] at B
            rw [A]
            exact ⟨Fr.rf _ _, Or.inr ⟨_, b, h, by rw [en, en'], by rw [en]; exact n0, by rw [en]; exact n40, by rw [en]; exact hv, B, Fr.rf _ _⟩⟩
          · exact absurd (ek.mp e) d
        · rcases B with ⟨d, _⟩ | ⟨-, v11, m9, r9, -, B⟩
          · exact absurd (ek.mpr d) e
          · obtain ⟨fwa, fwb, D⟩ := lineT hX hS h (by rw [en]; exact n0) (by rw [en]; exact n40) (by rw [en, en']) r5 r9
            rcases D with ⟨q1, q2, q3⟩ | ⟨q1, q2, q3, q4, q5, q6, q7, q8⟩
            · have q1 := one_eq q1
              have q2 := one_eq q2
              rcases B with ⟨_, B⟩ | ⟨d, _⟩
              · rw [q1] at A
                rcases k55_17 A with ⟨_, A⟩ | ⟨_, A⟩
                · have A : a' = m5 := congrArg (fun z => z.2.2) A
                  rw [A, B]
                  exact ⟨fwa, Or.inl ⟨q3, rfl, fwb.mo fun x k q => Or.inl q⟩⟩
                · rcases A with ⟨_, A⟩ | ⟨d, _⟩
                  · have A : a' = m5 := congrArg (fun z => z.2.2) A
                    rw [A, B]
                    exact ⟨fwa, Or.inl ⟨q3, rfl, fwb.mo fun x k q => Or.inl q⟩⟩
                  · exact absurd rfl d
              · exact absurd q2 d
            · have q1 := one_eq q1
              have q2 := one_eq q2
              rw [en] at q3 q5 q6 q7 q8
              rcases B with ⟨d, _⟩ | ⟨_, y13, e13, N14, -, B⟩
              · omega
              · have e38 : m9 148 38 = n := by rw [q8 _ _ (by unfold Vb; omega)]; exact en'
                rw [e38, s32_id (z := n + 1) (by omega) (by omega)] at e13
                rw [q1, s32_id (z := n + 1) (by omega) (by omega)] at A
                have h2 := BS_38 q4 (n + 1)
                rw [← e13] at h2
                have fb2 : Fr (fun x k => Vb n x k ∨ (x = 148 ∧ k = 38)) b y13 := by
                  rw [e13]
                  exact (q8.mo fun x k q => Or.inl q).mu (Or.inr ⟨rfl, rfl⟩)
                have fb3 : Fr (fun x k => Vb (n + 1) x k ∨ (x = 148 ∧ k = 38)) m9 y13 := by
                  rw [e13]
                  exact (Fr.rf _ _).mu (Or.inr ⟨rfl, rfl⟩)
                obtain ⟨R1, R2⟩ := ih N8 N14 (n + 1) m5 y13 h2 q5 (by rw [e13, mu_s]) (by omega) (by omega) (by omega) (fun i i0 i1 => by
                  by_cases c : i = n
                  · rw [c]
                    exact Lv_fr (n := n + 1) q6 n0 (by omega) (Fr.rf _ _) fb3
                  · exact Lv_fr (hv i i0 (by omega)) i0 (by omega) q7 fb2) A B
                have fwb2 : Fr Wb b y13 := fb2.mo fun x k q => by unfold Vb at q; unfold Wb WB; omega
                refine ⟨fwa.tr R1, ?_⟩
                rcases R2 with ⟨z1, z2, z3⟩ | ⟨M', b', z1, z2, z3, z4, z5, z6, z7⟩
                · exact Or.inl ⟨z1, z2, fwb2.tr z3⟩
                · exact Or.inr ⟨M', b', z1, z2, z3, z4, z5, z6, fwb2.tr z7⟩
set_option maxRecDepth 16384 in
/-- what reading a book may change ahead of its lines -/
def Wa2 (x k : Int) : Prop := WA x k ∨ (x = 1 ∧ 2 ≤ k)
set_option maxRecDepth 16384 in
def Wb2 (x k : Int) : Prop := (x = 148 ∧ 0 ≤ k ∧ k ≤ 13) ∨ (x = 148 ∧ k = 38) ∨ (x = 164 ∧ 0 ≤ k)
set_option maxRecDepth 16384 in
theorem C2_w2 {a a' b b' : MM} (h : C2 a b) (fa : Fr Wa2 a a') (fb : Fr Wb2 b b') : C2 a' b' := C2_fr h (fun x k q => fa x k (by unfold PCs at q; unfold Wa2 WA; omega)) (fun x k q => fb x k (by unfold PJs at q; unfold Wb2; omega))
set_option maxRecDepth 16384 in
theorem readT {X : KO} {ρ : Nat → Int32} {L lv : Int} {a a' b : MM} {rl : List (Nat × Int)} {o : Instr × List (Nat × Int) × MM} {M : Nat} (hX : XW X) (hS : XS X) (hc : C2 a b) (hl : BLay a b) (hT : TapeR a b L) (t0 : a 1 0 = 2) (t1 : a 2 (-1) = 940) (u1 : b 148 1 = 149) (hlv : lv = 0 ∨ lv = 1) (ra : Run X ρ 55 [(1, 96), (1, 1), (1, 3)] a rl a') (rb : MR X ρ 4 0 0 qP171 M 0 [148, lv, 0, 0] [] b o) : Fr Wa2 a a' ∧ ((FL a' o.2.2 ∧ o.2.1 = [(1, s32 (-2 - o.2.2 148 11))] ∧ Fr Wb2 b o.2.2) ∨ (∃ (M' : Nat) (b' : MM), BS X (fun j => b 149 j) L a' b' ∧ a' 96 3 = b' 148 38 ∧ 0 ≤ a' 96 3 ∧ a' 96 3 ≤ 40 ∧ (∀ i, 0 ≤ i → i < a' 96 3 → Lv a' b' i) ∧ MR X ρ 4 0 0 qP171 M' 73 [148, lv, 0, 0] [] (g219 b' 148) o ∧ Fr Wb2 b b' ∧ b' 148 2 = 0)) := by
  obtain ⟨v1, v2, v3, v4, v5⟩ := hT
  obtain ⟨N, ig, ra⟩ := Run_CR ra rfl
  have ra : MR X ρ 5 0 0 qP55 N 0 [96, 1, 3, 0, 0] [] a (ig, rl, a') := ra
  obtain ⟨y1, e1, m3, r3, A⟩ := k55_0 ra
  obtain ⟨y1', e1', B⟩ := k171_0 rb
  rcases B with ⟨d, _⟩ | ⟨-, m9, r9, y11, e11, B⟩
  · exfalso
    unfold f209 at d
    rw [if_neg (by omega), if_neg (by omega)] at d
    exact absurd d (by decide)
  · -- the class begins
    obtain ⟨N8, ig8, r8⟩ := Run_CR r3 rfl
    have r8 : MR X ρ 2 0 0 qP149 N8 0 [1, 400] [] y1 (ig8, [], m3) := r8
    obtain ⟨m8', r8b, e⟩ := i149_0 r8
    have e : m3 = m8' := congrArg (fun z => z.2.2) e
    subst e
    clear r8
    -- the reference begins
    obtain ⟨Nb, igb, rb1⟩ := Run_CR r9 rfl
    have rb1 : MR X ρ 2 0 0 qP169 Nb 0 [148, 400] [] y1' (igb, [], m9) := rb1
    obtain ⟨mb', rb2, e⟩ := i169_0 rb1
    have e : m9 = mb' := congrArg (fun z => z.2.2) e
    subst e
    clear rb1
    have ef : f283 (mu y1' 148 0 0) 148 = L := by
      show (mu y1' 148 0 0) 148 2 = L
      rw [mu_k (by decide), e1', mu_k (by decide)]
      exact v2
    have eg : g283 (mu y1' 148 0 0) 148 = mu (mu y1' 148 0 0) 148 2 0 := rfl
    rw [ef, eg] at rb2
    have Fb : Fr (fun x k => x = 148 ∧ (k = 0 ∨ k = 2 ∨ k = 3 ∨ k = 4 ∨ k = 10 ∨ k = 5)) b (mu (mu (mu (mu (mu (mu y1' 148 0 0) 148 2 0) 148 3 L) 148 4 400) 148 10 0) 148 5 0) := by
      rw [e1']
      exact (((((((Fr.rf _ _).mu ⟨rfl, by omega⟩).mu ⟨rfl, by omega⟩).mu ⟨rfl, by omega⟩).mu ⟨rfl, by omega⟩).mu ⟨rfl, by omega⟩).mu ⟨rfl, by omega⟩).mu ⟨rfl, by omega⟩
    have y3 : (mu (mu (mu (mu (mu (mu y1' 148 0 0) 148 2 0) 148 3 L) 148 4 400) 148 10 0) 148 5 0) 148 3 = L := by rw [mu_k (by decide), mu_k (by decide), mu_k (by decide), mu_s]
    have y4 : (mu (mu (mu (mu (mu (mu y1' 148 0 0) 148 2 0) 148 3 L) 148 4 400) 148 10 0) 148 5 0) 148 4 = 400 := by rw [mu_k (by decide), mu_k (by decide), mu_s]
    have y10 : (mu (mu (mu (mu (mu (mu y1' 148 0 0) 148 2 0) 148 3 L) 148 4 400) 148 10 0) 148 5 0) 148 10 = 0 := by rw [mu_k (by decide), mu_s]
    have y5 : (mu (mu (mu (mu (mu (mu y1' 148 0 0) 148 2 0) 148 3 L) 148 4 400) 148 10 0) 148 5 0) 148 5 = 0 := mu_s _ _ _ _
    have y2 : (mu (mu (mu (mu (mu (mu y1' 148 0 0) 148 2 0) 148 3 L) 148 4 400) 148 10 0) 148 5 0) 148 2 = 0 := by rw [mu_k (by decide), mu_k (by decide), mu_k (by decide), mu_k (by decide), mu_s]
    revert rb2 Fb y3 y4 y10 y5 y2
    generalize (mu (mu (mu (mu (mu (mu y1' 148 0 0) 148 2 0) 148 3 L) 148 4 400) 148 10 0) 148 5 0) = b0
    intro rb2 Fb y3 y4 y10 y5 y2
    have Fa : Fr (fun x k => (x = 1 ∧ (k = 2 ∨ k = 3 ∨ k = 9 ∨ k = 10)) ∨ (x = 96 ∧ k = 3)) a (mu (mu (mu (mu y1 1 2 400) 1 3 0) 1 9 0) 1 10 0) := by
      rw [e1]
      exact (((((Fr.rf _ _).mu (Or.inr ⟨rfl, rfl⟩)).mu (Or.inl ⟨rfl, by omega⟩)).mu (Or.inl ⟨rfl, by omega⟩)).mu (Or.inl ⟨rfl, by omega⟩)).mu (Or.inl ⟨rfl, by omega⟩)
    have x2 : (mu (mu (mu (mu y1 1 2 400) 1 3 0) 1 9 0) 1 10 0) 1 2 = 400 := by rw [mu_k (by decide), mu_k (by decide), mu_k (by decide), mu_s]
    have x3 : (mu (mu (mu (mu y1 1 2 400) 1 3 0) 1 9 0) 1 10 0) 1 3 = 0 := by rw [mu_k (by decide), mu_k (by decide), mu_s]
    have x9 : (mu (mu (mu (mu y1 1 2 400) 1 3 0) 1 9 0) 1 10 0) 1 9 = 0 := by rw [mu_k (by decide), mu_s]
    have x96 : (mu (mu (mu (mu y1 1 2 400) 1 3 0) 1 9 0) 1 10 0) 96 3 = 0 := by rw [mu_a (by decide), mu_a (by decide), mu_a (by decide), mu_a (by decide), e1, mu_s]
    revert r8b Fa x2 x3 x9 x96
    generalize (mu (mu (mu (mu y1 1 2 400) 1 3 0) 1 9 0) 1 10 0) = a0
    intro r8b Fa x2 x3 x9 x96
    have p0 : PR0 (fun j => b 149 j) L 400 a0 b0 := by
      refine ⟨⟨by rw [Fa 1 0 (by omega)]; exact t0, by rw [Fa 1 1 (by omega)]; exact v1, v3, v4, by rw [Fa 2 _ (by omega)]; exact t1, fun j j1 j2 => by rw [Fa 2 _ (by omega)]; exact v5 j j1 j2⟩, ⟨by rw [Fb 148 1 (by omega)]; exact u1, y3, v3, v4, fun j j1 j2 => by rw [Fb 149 j (by omega)]⟩, x2, y4, by rw [x3, y5], by omega, by omega⟩
    obtain ⟨s, f1, f2⟩ := goT hX p0 x9 y10 r8b rb2
    have fa1 : Fr Wa2 a m3 := (Fa.mo fun x k q => by unfold Wa2 WA; omega).tr (f1.mo fun x k q => by unfold P148 at q; unfold Wa2 WA; omega)
    have fb1 : Fr Wb2 b m9 := (Fb.mo fun x k q => by unfold Wb2; omega).tr (f2.mo fun x k q => by unfold P195 at q; unfold Wb2; omega)
    have hc1 := C2_w2 hc fa1 fb1
    have hl1 : BLay m3 m9 := by
      obtain ⟨⟨h1, h2, h3, h4, h5, h6⟩, h7⟩ := hl
      have ef : ∀ x k, (x = 96 ∧ k ≠ 3) ∨ (97 ≤ x ∧ k < 0) → m3 x k = a x k := fun x k q => by rw [f1 x k (by unfold P148; omega), Fa x k (by omega)]
      refine ⟨⟨?_, ?_, ?_, ?_, ?_, ?_⟩, ?_⟩
      · rw [ef _ _ (by omega)]; exact h1
      · rw [ef _ _ (by omega)]; exact h2
      · rw [ef _ _ (by omega)]; exact h3
      · rw [ef _ _ (by omega)]; exact h4
      · rw [ef _ _ (by omega)]; exact h5
      · rw [ef _ _ (by omega)]; exact h6
      · rw [fb1 _ _ (by unfold Wb2; omega)]; exact h7
    have h2 := BS_38 (⟨s, hc1, hl1⟩ : BS X (fun j => b 149 j) L m3 m9) 0
    rw [← e11] at h2
    have fb2 : Fr Wb2 b y11 := by rw [e11]; exact fb1.mu (Or.inr (Or.inl ⟨rfl, rfl⟩))
    have w2 : y11 148 2 = 0 := by rw [e11, mu_k (by decide), f2 _ _ (by unfold P195; omega)]; exact y2
    obtain ⟨R1, R2⟩ := loopT hX hS 41 N M 0 m3 y11 h2 (by rw [f1 _ _ (by unfold P148; omega)]; exact x96) (by rw [e11, mu_s]) (by decide) (by decide) (by decide) (fun i i0 i1 => by omega) A B
    refine ⟨fa1.tr (R1.mo fun x k q => Or.inl q), ?_⟩
    rcases R2 with ⟨z1, z2, z3⟩ | ⟨M', b', z1, z2, z3, z4, z5, z6, z7⟩
    · exact Or.inl ⟨z1, z2, fb2.tr (z3.mo fun x k q => by unfold Wb WB at q; unfold Wb2; omega)⟩
    · exact Or.inr ⟨M', b', z1, z2, z3, z4, z5, z6, fb2.tr (z7.mo fun x k q => by unfold Wb WB at q; unfold Wb2; omega), by rw [z7 _ _ (by unfold Wb WB; omega)]; exact w2⟩
