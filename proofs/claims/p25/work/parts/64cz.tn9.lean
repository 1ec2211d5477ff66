/-! Cover: how many they are, the least. -/
set_option maxRecDepth 16384 in
def cpop (a : Int) : Int := 
  let sh := fun a b => o32 (fun a b => (a.toUInt32 >>> (b.toUInt32 &&& Int32.toUInt32 31)).toInt32) a b
  let an := fun a b => o32 (fun a b => a &&& b) a b
  let s := fun z => (Int32.ofInt z).toInt
  let x1 := s (a - an (sh a 1) 1431655765)
  let x2 := s (an x1 858993459 + an (sh x1 2) 858993459)
  let x3 := an (s (x2 + sh x2 4)) 252645135
  let x4 := s (x3 + sh x3 8)
  an (s (x4 + sh x4 16)) 63
set_option maxRecDepth 16384 in
def qpop (s : Int × Int) : (Int × Int) ⊕ (Nat × Int × (Int × Int)) := if s.2 = 0 then .inr (1, 0, (s.1, s.2)) else .inl ((Int32.ofInt (s.1 + 1)).toInt, o32 (fun a b => a &&& b) s.2 (Int32.ofInt (s.2 - 1)).toInt)
set_option maxRecDepth 16384 in
theorem pop_all : ∀ k : Nat, k < 256 → lrun qpop 9 (0, (k : Int)) = some (1, 0, (cpop (k : Int), 0)) ∧ 0 ≤ cpop (k : Int) := by decide +kernel
set_option maxRecDepth 16384 in
theorem f170_k (m : MM) {k : Int} (k0 : 0 ≤ k) (k1 : k < 256) : f170 m k = cpop k ∧ 0 ≤ cpop k := by
  obtain ⟨n, rfl⟩ : ∃ n : Nat, k = (n : Int) := ⟨k.toNat, by omega⟩
  obtain ⟨h1, h2⟩ := pop_all n (by omega)
  refine ⟨?_, h2⟩
  unfold f170 L170_4
  have e : K170_4 m (n : Int) 0 (n : Int) = qpop := by
    funext s
    show S170_4 m (n : Int) s.1 s.2 = qpop s
    unfold S170_4 qpop
    rw [s32_eq, s32_eq, jand_eq]
  rw [e, Lp_of h1]
set_option maxRecDepth 16384 in
theorem f296_k (m : MM) {k : Int} : f296 m k = cpop k := by
  unfold f296 cpop
  simp only [s32_eq, jand_eq, jushr_eq]
set_option maxRecDepth 16384 in
theorem shl8 {n : Int} (n0 : 0 ≤ n) (n8 : n ≤ 8) : 0 ≤ jshl 1 n ∧ jshl 1 n ≤ 256 := by
  have key : ∀ n : Nat, n < 9 → 0 ≤ o32 (fun a b => a <<< (b &&& 31)) 1 (n : Int) ∧ o32 (fun a b => a <<< (b &&& 31)) 1 (n : Int) ≤ 256 := by decide
  obtain ⟨k, rfl⟩ : ∃ k : Nat, n = (k : Int) := ⟨n.toNat, by omega⟩
  rw [jshl_eq]
  exact key k (by omega)
set_option maxRecDepth 16384 in
theorem cover_l {a b m : MM} {x : Int} (hC : C2 m b) (hA : m 92 0 = 93) (h1 : ∀ j, 0 ≤ j → j < b 150 1 → ∀ M, jand (m 93 j) M = 0 ↔ f201 b 148 j M = 0) (h2 : ∀ j, 0 ≤ j → j < 8 → (jand x (jshl 1 j) = 0 ↔ ¬ (j < b 150 1 ∧ ¬ f204 b 148 j = -1))) : (L41_14 m 92 15 x (-1) (-1) 0 0).2.2.2.1 = (if (L178_40 b 148 ((L178_9 b 148 0 0 0).2.2.1) (-1) 0).2.2.1 = -1 then -1 else f170 b ((L178_40 b 148 ((L178_9 b 148 0 0 0).2.2.1) (-1) 0).2.2.1)) := by
  have hS := hC.1.2.1
  have hp := hS.p
  have hf := hS.f
  have hs8 := shl8 hp.2.1 hp.2.2
  have al : ∀ k, f40 m 92 k x = 0 ↔ ¬ f271 b 148 k = (L178_9 b 148 0 0 0).2.2.1 := fun k => by
    rw [q40 hC hA h1 h2, q271 hS.bn (by omega) (by omega) k 0]
  generalize hT : (L178_9 b 148 0 0 0).2.2.1 = T at al
  unfold L41_14 L178_40
  refine Lp_sim (f := K41_14 m 92 15 x (-1) (-1) 0 0) (f' := K178_40 b 148 T (-1) 0) (P := fun u v => u.2.2.1 = v.2 ∧ 0 ≤ v.2 ∧ v.2 ≤ jshl 1 (m 3 6) ∧ ((u.2.1 = -1 ∧ v.1 = -1) ∨ (0 ≤ v.1 ∧ v.1 < 256 ∧ u.2.1 = cpop v.1))) (Q := fun t t' => t.2.2.2.1 = (if t'.2.2.1 = -1 then -1 else f170 b t'.2.2.1)) (fun u => (jshl 1 (m 3 6) - u.2.2.1).toNat) ?_ (-1, -1, 0, 0) (-1, 0) ⟨rfl, Int.le_refl _, by dsimp only; omega, Or.inl ⟨rfl, rfl⟩⟩
  rintro ⟨u1, u2, i, u4⟩ ⟨v, j⟩ ⟨c1, c2, c3, c4⟩
  dsimp only at c1 c2 c3 c4
  subst c1
  have eA : K41_14 m 92 15 x (-1) (-1) 0 0 (u1, u2, i, u4) = S41_14 m 92 15 x u1 u2 i u4 := rfl
  have eB : K178_40 b 148 T (-1) 0 (v, i) = S178_40 b 148 T v i := rfl
  rw [eA, eB]
  unfold S41_14 S178_40
  rw [hS.le, hS.bn, ← hp.1]
  by_cases c : jshl 1 (m 3 6) ≤ i
  · rw [if_pos c, if_pos c]
    refine Or.inr ⟨_, _, rfl, rfl, ?_⟩
    dsimp only
    rcases c4 with ⟨d1, d2⟩ | ⟨d1, d2, d3⟩
    · rw [if_pos d2]; exact d1
    · rw [if_neg (by omega), (f170_k b d1 d2).1]; exact d3
  · have hi := f170_k b (k := i) c2 (by omega)
    rw [if_neg c, if_neg c, s32_id (z := i + 1) (by omega) (by omega), f296_k, hi.1]
    left
    rcases c4 with ⟨d1, d2⟩ | ⟨d1, d2, d3⟩
    · rw [if_pos d1, if_pos d2]
      by_cases g : f271 b 148 i = T
      · rw [if_pos g, if_neg (fun w => (al i).mp w g)]
        exact ⟨_, _, rfl, rfl, ⟨rfl, by dsimp only; omega, by dsimp only; omega, Or.inr ⟨c2, by dsimp only; omega, rfl⟩⟩, by dsimp only; omega⟩
      · rw [if_neg g, if_pos ((al i).mpr g)]
        exact ⟨_, _, rfl, rfl, ⟨rfl, by dsimp only; omega, by dsimp only; omega, Or.inl ⟨d1, d2⟩⟩, by dsimp only; omega⟩
    · have hv := f170_k b d1 d2
      rw [if_neg (by omega : ¬ u2 = -1), if_neg (by omega : ¬ v = -1), hv.1, d3]
      by_cases w : cpop v ≤ cpop i
      · rw [if_pos w, if_pos w]
        exact ⟨_, _, rfl, rfl, ⟨rfl, by dsimp only; omega, by dsimp only; omega, Or.inr ⟨d1, d2, rfl⟩⟩, by dsimp only; omega⟩
      · rw [if_neg w, if_neg w]
        by_cases g : f271 b 148 i = T
        · rw [if_pos g, if_neg (fun w => (al i).mp w g)]
          exact ⟨_, _, rfl, rfl, ⟨rfl, by dsimp only; omega, by dsimp only; omega, Or.inr ⟨c2, by dsimp only; omega, rfl⟩⟩, by dsimp only; omega⟩
        · rw [if_neg g, if_pos ((al i).mpr g)]
          exact ⟨_, _, rfl, rfl, ⟨rfl, by dsimp only; omega, by dsimp only; omega, Or.inr ⟨d1, d2, rfl⟩⟩, by dsimp only; omega⟩
set_option maxRecDepth 16384 in
theorem cover_q {a b : MM} (h : C2 a b) (h8 : a 0 8 = 92) (hA : a 92 0 = 93) : f8 a 0 = f178 b 148 := by
  have hT : C2 a (mu b 148 0 0) := C2_fr3 h (fun _ _ _ => rfl) (fun x k q _ => by
    by_cases c : x = 148
    · exact mu_k (by unfold PJs at q; omega)
    · exact mu_a c)
  unfold f8 f178
  generalize mu b 148 0 0 = c at hT
  have h3 : a 0 3 = 15 := hT.1.1.2.1
  obtain ⟨⟨g1, g2⟩, g3, g4⟩ := q43 hT hA
  have key := cover_l (a := a) g1 g2 g3 g4
  rw [h8, h3]
  unfold f41
  rw [key]
  generalize (L178_40 c 148 ((L178_9 c 148 0 0 0).2.2.1) (-1) 0).2.2.1 = v
  by_cases d : v = -1
  · rw [if_pos d, if_pos rfl, if_pos d]
  · rw [if_neg d, if_neg d]
    split <;> rfl
