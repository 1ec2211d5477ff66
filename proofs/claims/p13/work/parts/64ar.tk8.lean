/-! Bits; the lines of an office. -/
set_option maxRecDepth 16384 in
theorem bt (x : BitVec 32) (i : Nat) (hi : i < 31) : (x &&& BitVec.twoPow 32 i = 0#32) ↔ ¬ ((x.sshiftRight i) &&& 1#32 = 1#32) := by
  have h1 : (x &&& BitVec.twoPow 32 i = 0#32) ↔ x.getLsbD i = false := by
    rw [BitVec.and_twoPow]
    cases h : x.getLsbD i with
    | false => simp
    | true =>
      simp only [if_true]
      constructor
      · intro e
        have := congrArg (fun z => z.getLsbD i) e
        simp [BitVec.getLsbD_twoPow] at this
        omega
      · intro e; cases e
  have h2 : ((x.sshiftRight i) &&& 1#32 = 1#32) ↔ x.getLsbD i = true := by
    rw [BitVec.and_one_eq_setWidth_ofBool_getLsbD, BitVec.getLsbD_sshiftRight]
    have e : (!decide (32 ≤ 0) && if i + 0 < 32 then x.getLsbD (i + 0) else x.msb) = x.getLsbD i := by
      rw [if_pos (by omega)]; simp
    rw [e]
    cases x.getLsbD i <;> simp
  rw [h1, h2]
  cases x.getLsbD i <;> simp
set_option maxRecDepth 16384 in
theorem i32_z {x : Int32} : x.toInt = 0 ↔ x.toBitVec = 0#32 := by
  rw [show (0 : Int) = (0 : Int32).toInt from by decide, Int32.toInt_inj, ← Int32.toBitVec_inj]
  rfl
set_option maxRecDepth 16384 in
theorem i32_one {x : Int32} : x.toInt = 1 ↔ x.toBitVec = 1#32 := by
  rw [show (1 : Int) = (1 : Int32).toInt from by decide, Int32.toInt_inj, ← Int32.toBitVec_inj]
  rfl
set_option maxRecDepth 16384 in
theorem bit_q (X : Int32) (q : Int) (i : Nat) (hi : i < 31) (h1 : (Int32.ofInt 1 <<< (Int32.ofInt q &&& 31)).toBitVec = BitVec.twoPow 32 i) (h2 : (Int32.ofInt q &&& 31).toBitVec.smod 32 = BitVec.ofNat 32 i) : (X &&& (Int32.ofInt 1 <<< (Int32.ofInt q &&& 31))).toInt = 0 ↔ ¬ ((X >>> (Int32.ofInt q &&& 31)) &&& Int32.ofInt 1).toInt = 1 := by
  rw [i32_z, i32_one, Int32.toBitVec_and, h1, Int32.toBitVec_and, Int32.toBitVec_shiftRight, h2]
  have e : X.toBitVec.sshiftRight' (BitVec.ofNat 32 i) = X.toBitVec.sshiftRight i := by
    show X.toBitVec.sshiftRight (BitVec.ofNat 32 i).toNat = _
    rw [BitVec.toNat_ofNat, Nat.mod_eq_of_lt (by omega)]
  rw [e]
  exact bt _ i hi
set_option maxRecDepth 16384 in
theorem has_ok (m : MM) (x q : Int) (h0 : 0 ≤ q) (h8 : q < 8) : f199 m x q = 0 ↔ jand x (jshl 1 q) = 0 := by
  have key : jand x (jshl 1 q) = 0 ↔ ¬ jand (jshr x q) 1 = 1 := by
    rw [jand_eq, jand_eq, jshl_eq, jshr_eq]
    unfold o32
    rw [Int32.ofInt_toInt, Int32.ofInt_toInt]
    obtain ⟨i, rfl⟩ : ∃ i : Nat, q = (i : Int) := ⟨q.toNat, by omega⟩
    have hi : i < 8 := by omega
    match i, hi with
    | 0, _ => exact bit_q _ _ 0 (by decide) (by decide) (by decide)
    | 1, _ => exact bit_q _ _ 1 (by decide) (by decide) (by decide)
    | 2, _ => exact bit_q _ _ 2 (by decide) (by decide) (by decide)
    | 3, _ => exact bit_q _ _ 3 (by decide) (by decide) (by decide)
    | 4, _ => exact bit_q _ _ 4 (by decide) (by decide) (by decide)
    | 5, _ => exact bit_q _ _ 5 (by decide) (by decide) (by decide)
    | 6, _ => exact bit_q _ _ 6 (by decide) (by decide) (by decide)
    | 7, _ => exact bit_q _ _ 7 (by decide) (by decide) (by decide)
    | n + 8, h => omega
  rw [key]
  unfold f199
  by_cases c : jand (jshr x q) 1 = 1
  · rw [if_pos c]; exact ⟨fun h => absurd h (by decide), fun h => absurd c h⟩
  · rw [if_neg c]; exact ⟨fun _ => c, fun _ => rfl⟩
set_option maxRecDepth 16384 in
theorem s32_jor (a b : Int) : s32 (jor a b) = jor a b := by
  rw [jor_eq]
  unfold o32
  exact s32_id (Int32.le_toInt _) (Int32.toInt_lt _)
set_option maxRecDepth 16384 in
/-- what lines may change -/
def VA (a k : Int) : Prop := (a = 1 ∧ 3 ≤ k) ∨ (a = 9 ∧ 5 ≤ k) ∨ (10 ≤ a ∧ a ≤ 14 ∧ 0 ≤ k) ∨ (a = 22 ∧ k = 7) ∨ (a = 23 ∧ 0 ≤ k)
set_option maxRecDepth 16384 in
def VB (a k : Int) : Prop := (a = 148 ∧ 5 ≤ k ∧ k ≤ 13) ∨ (a = 148 ∧ k = 24) ∨ (a = 151 ∧ 0 ≤ k) ∨ (a = 156 ∧ 0 ≤ k)
set_option maxRecDepth 16384 in
theorem Fr.va {a a' : MM} (h : Fr (fun a k => a = 1 ∧ 3 ≤ k) a a') : Fr VA a a' := h.mo (fun x k q => Or.inl q)
set_option maxRecDepth 16384 in
theorem Fr.vb {a a' : MM} (h : Fr (fun a k => a = 148 ∧ 5 ≤ k ∧ k ≤ 13) a a') : Fr VB a a' := h.mo (fun x k q => Or.inl q)
set_option maxRecDepth 16384 in
/-- how a line ends on both sides: at a fault, or at the mark -/
def LE (X : KO) (ρ : Nat → Int32) (t : Int → Int) (L : Int) (a a' b b1 : MM) (rl rl' : List (Nat × Int)) : Prop := (rl = [(1, 0)] ∧ rl' = [(1, 0)] ∧ FL a' b1 ∧ Fr VA a a' ∧ Fr VB b b1) ∨ (rl' = [(1, 1)] ∧ Fr VB b b1 ∧ ∃ a1, Fr VA a a1 ∧ Prog a a1 ∧ ST X t L 900 a1 b1 ∧ Run X ρ 160 [(1, 1), (1, 59)] a1 rl a')
set_option maxRecDepth 16384 in
theorem FL_fr {a a' b : MM} (h : FL a b) (h1 : a' 1 9 = a 1 9) (h2 : a' 1 10 = a 1 10) : FL a' b := by
  unfold FL
  rw [h1, h2]
  exact h
set_option maxRecDepth 16384 in
theorem rule_line {X : KO} {ρ : Nat → Int32} {t : Int → Int} {L : Int} {a a' b b1 : MM} {rl rl' : List (Nat × Int)} (hX : XW X) (hS : XS X) (h : ST X t L 900 a b) (h4 : a 1 4 ≠ 4) (ha : Run X ρ 81 [(1, 9), (1, 1)] a rl a') (hb : Run X ρ 260 [(1, 148)] b rl' b1) : LE X ρ t L a a' b b1 rl rl' := by
  obtain ⟨N, ig, ha⟩ := Run_CR ha rfl
  obtain ⟨M, ig', hb⟩ := Run_CR hb rfl
  have ha : MR X ρ 2 0 0 qP81 N 0 [9, 1] [] a (ig, rl, a') := ha
  have hb : MR X ρ 1 0 0 qP260 M 0 [148] [] b (ig', rl', b1) := hb
  obtain ⟨⟨p0, p1⟩, hR, h9, h10⟩ := h
  have A := i81_0 ha
  have B := i260_0 hb
  have hrt : a 9 5 = b 148 24 := hR.2.2.2.2.2.2.2.1
  rw [← hrt] at B
  rcases A with ⟨c, m3, r3, A⟩ | ⟨c, A⟩
  · rcases B with ⟨d, m3', r3', B⟩ | ⟨d, _⟩
    · -- the reference notes the rule ahead of the next token
      have e0 : PR0 t L 900 a (mu b 148 24 1) := PR0_fr p0 (Fr.rf (fun _ _ => False) _) ((Fr.rf (fun x k => x = 148 ∧ k = 24) _).mu ⟨rfl, rfl⟩) (fun _ q => q) (fun _ q => q) (fun k _ _ q => by omega) (fun k q => by omega)
      obtain ⟨⟨q0, q1⟩, f1, f2, -, -⟩ := next_ok hX e0 r3 r3'
      -- behind the token: rosters alike but for the rule
      have f2' : Fr VB b m3' := ((Fr.rf VB b).mu (v := 1) (Or.inr (Or.inl ⟨rfl, rfl⟩))).tr f2.PM.vb
      have f1' : Fr VA a m3 := f1.PT.va
      have hR0 : RR a b := hR
      obtain ⟨⟨l1, l2, l3, l4, l5, l6⟩, ⟨l7, l8⟩, ⟨c1, c2, c3, c4, c5, c6⟩, ⟨n1, n2⟩, hg, hs, hf, ⟨r1, r2, r3x, r4⟩⟩ := hR
      have ea : ∀ x k, x ≠ 1 → m3 x k = a x k := fun x k hx => f1.PT x k (fun q => hx q.1)
      have eb : ∀ x k, x ≠ 148 → m3' x k = b x k := fun x k hx => by rw [f2.PM x k (fun q => hx q.1), mu_a hx]
      have eb24 : m3' 148 24 = 1 := by rw [f2.PM 148 24 (fun q => by have := q.2.2; omega), mu_s]
      have eb15 : m3' 148 15 = 151 := by rw [f2.PM 148 15 (fun q => by have := q.2.2; omega), mu_k (by decide)]; exact l7
      have eb20 : m3' 148 20 = 156 := by rw [f2.PM 148 20 (fun q => by have := q.2.2; omega), mu_k (by decide)]; exact l8
      have g9 : m3 1 9 = 0 := by rw [f1 1 9 (by unfold P148; omega)]; exact h9
      have g10 : m3' 148 10 = 0 := by rw [f2 148 10 (by unfold P195; omega), mu_k (by decide)]; exact h10
      have w1 := word_ok hS q1 (s := 14) (by decide)
      have w2 := word_ok hS q1 (s := 15) (by decide)
      have w1 : f155 X m3 1 1000015 = f217 m3' 148 6 := w1
      have w2 : f155 X m3 1 1000016 = f217 m3' 148 7 := w2
      rw [← w1, ← w2] at B
      -- once the rule is written on both sides
      have hfin : ∀ (v : Int) (ma mb : MM), v = f155 X m3 1 1000016 → Run X ρ 148 [(1, 1)] (mu (mu m3 9 5 1) 9 8 (f155 X (mu m3 9 5 1) 1 1000016)) [] ma → Run X ρ 195 [(1, 148)] (mu m3' 151 2 v) [] mb → Run X ρ 160 [(1, 1), (1, 59)] ma rl a' → b1 = mb → rl' = [(1, 1)] → LE X ρ t L a a' b b1 rl rl' := by
        intro v ma mb hv ra rb rm e1 e2
        subst e1
        have hw : f155 X (mu m3 9 5 1) 1 1000016 = v := by
          rw [hv]
          unfold f155
          rw [mu_a (by decide), mu_a (by decide)]
        rw [hw] at ra
        have fa : Fr (fun x k => x = 9 ∧ (k = 5 ∨ k = 8)) m3 (mu (mu m3 9 5 1) 9 8 v) := ((Fr.rf _ _).mu ⟨rfl, Or.inl rfl⟩).mu ⟨rfl, Or.inr rfl⟩
        have fb : Fr (fun x k => x = 151 ∧ k = 2) m3' (mu m3' 151 2 v) := (Fr.rf _ _).mu ⟨rfl, rfl⟩
        have p0' : PR0 t L 900 (mu (mu m3 9 5 1) 9 8 v) (mu m3' 151 2 v) := PR0_fr q0 fa fb (fun k q => by omega) (fun k q => by omega) (fun k _ _ q => by omega) (fun k q => by omega)
        have hR' : RR (mu (mu m3 9 5 1) 9 8 v) (mu m3' 151 2 v) := by
          have ea' : ∀ x k, x ≠ 1 → ¬ (x = 9 ∧ (k = 5 ∨ k = 8)) → (mu (mu m3 9 5 1) 9 8 v) x k = a x k := fun x k hx hn => by rw [fa x k hn]; exact ea x k hx
          have eb' : ∀ x k, x ≠ 148 → ¬ (x = 151 ∧ k = 2) → (mu m3' 151 2 v) x k = b x k := fun x k hx hn => by rw [fb x k hn]; exact eb x k hx
          have e96 := ea' 9 6 (by decide) (by decide)
          have e97 := ea' 9 7 (by decide) (by decide)
          refine ⟨⟨?_, ?_, ?_, ?_, ?_, ?_⟩, ⟨?_, ?_⟩, ⟨?_, ?_, ?_, ?_, ?_, ?_⟩, ⟨fun k k1 k2 => ?_, fun k k1 k2 => ?_⟩, fun k k1 k2 => ?_, fun k k1 k2 => ?_, fun k k1 k2 => ?_, ⟨?_, ?_, ?_, ?_⟩⟩
          · rw [ea' _ _ (by decide) (by decide)]; exact l1
          · rw [ea' _ _ (by decide) (by decide)]; exact l2
          · rw [ea' _ _ (by decide) (by decide)]; exact l3
          · rw [ea' _ _ (by decide) (by decide)]; exact l4
          · rw [ea' _ _ (by decide) (by decide)]; exact l5
          · rw [ea' _ _ (by decide) (by decide)]; exact l6
          · rw [mu_a (by decide)]; exact eb15
          · rw [mu_a (by decide)]; exact eb20
          · rw [e96, eb' _ _ (by decide) (by decide)]; exact c1
          · rw [e96]; exact c2
          · rw [e96]; exact c3
          · rw [e97, eb' _ _ (by decide) (by decide)]; exact c4
          · rw [e97]; exact c5
          · rw [e97]; exact c6
          · rw [e96] at k2; rw [ea' _ _ (by decide) (by omega), eb' _ _ (by decide) (by omega)]; exact n1 k k1 k2
          · rw [e97] at k2; rw [ea' _ _ (by decide) (by omega), eb' _ _ (by decide) (by omega)]; exact n2 k k1 k2
          · rw [ea' _ _ (by decide) (by omega), eb' _ _ (by decide) (by omega)]; exact hg k k1 k2
          · rw [ea' _ _ (by decide) (by omega), eb' _ _ (by decide) (by omega)]; exact hs k k1 k2
          · rw [e97] at k2; rw [ea' _ _ (by decide) (by omega), ea' _ _ (by decide) (by omega), eb' _ _ (by decide) (by omega), eb' _ _ (by decide) (by omega)]; exact hf k k1 k2
          · rw [mu_k (by decide), mu_s, mu_a (by decide), eb24]
          · rw [mu_s, mu_s]
          · rw [ea' _ _ (by decide) (by decide), eb' _ _ (by decide) (by decide)]; exact r3x
          · rw [mu_k (by decide), mu_s]; exact Or.inr rfl
        have hP : Prog a ma := by
          have z1 := mon_ok hX p0 r3
          have z2 := mon_ok hX p0' ra
          unfold Prog at *
          rw [mu_a (by decide), mu_a (by decide)] at z2
          exact ⟨by omega, fun y1 y2 => by have := z2.2 y1 y2; omega⟩
        obtain ⟨s, g1, g2⟩ := nextST hX p0' hR' (by rw [mu_a (by decide), mu_a (by decide)]; exact g9) (by rw [mu_a (by decide)]; exact g10) ra rb
        exact Or.inr ⟨e2, (f2'.tr (fb.mo (fun x k q => Or.inr (Or.inr (Or.inl ⟨q.1, by omega⟩))))).tr g2.vb, ma, (f1'.tr (fa.mo (fun x k q => Or.inr (Or.inl ⟨q.1, by omega⟩)))).tr g1.va, hP, s, rm⟩
      have w01 : f155 X m3 1 1000016 = 0 ∨ f155 X m3 1 1000016 = 1 := by
        unfold f155
        split
        · split
          · exact Or.inr rfl
          · exact Or.inl rfl
        · exact Or.inl rfl
      rw [eb15] at B
      have z0 : s32 (0 : Int) = 0 := s32_id (by decide) (by decide)
      have z1 : s32 (1 : Int) = 1 := s32_id (by decide) (by decide)
      rw [z0, z1] at B
      rcases A with ⟨c1', A⟩ | ⟨c1', m17, r17, v22, m20, r20, _, A⟩
      · rcases B with ⟨d1, B⟩ | ⟨d1, _⟩
        · rcases A with ⟨c2', A⟩ | ⟨c2', m35, r35, v40, m38, r38, _, A⟩
          · rcases B with ⟨d2, B⟩ | ⟨d2, _⟩
            · rw [f168_0] at B
              cases A; cases B
              exact Or.inl ⟨rfl, rfl, bad_ok q1 (by decide) (Or.inl rfl), f1'.tr (Fr_158 _ _).va, f2'.tr (Fr_168 _ _).vb⟩
            · exact absurd c2' d2
          · rcases B with ⟨d2, _⟩ | ⟨d2, m36, r36, B⟩
            · exact absurd d2 c2'
            · cases A; cases B
              exact hfin 1 m35 _ (w01.resolve_left c2').symm r35 r36 r38 rfl rfl
        · exact absurd c1' d1
      · rcases B with ⟨d1, _⟩ | ⟨d1, B⟩
        · exact absurd d1 c1'
        · cases A
          rcases B with ⟨d2, m18, r18, B⟩ | ⟨d2, m21, r21, B⟩
          · cases B
            exact hfin 0 m17 _ d2.symm r17 r18 r20 rfl rfl
          · cases B
            exact hfin 1 m17 _ (w01.resolve_left d2).symm r17 r21 r20 rfl rfl
    · exact absurd c d
  · rcases B with ⟨d, _⟩ | ⟨d, B⟩
    · exact absurd d c
    · rw [f168_0] at B
      cases A; cases B
      exact Or.inl ⟨rfl, rfl, bad_ok p1 (by decide) (Or.inr h4), (Fr_158 _ _).va, (Fr_168 _ _).vb⟩
