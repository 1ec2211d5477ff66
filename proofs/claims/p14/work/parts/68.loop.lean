/-! The law's loop, round by round. -/
def wind (xs : List Int32) (i u : Int) : Nat → Int := fun v => if v = 0 then (xs.length : Int) else if v = 1 then i else if v < 8 then (match xs[(i + ((v - 2 : Nat) : Int)).toNat]? with
  | some x => x.toInt
  | none => 0) else u
def rgx (xs : List Int32) : List (Int × Int) := xs.map (fun x => (x.toInt, x.toInt))
def TGL (X : KO) (xs : List Int32) (k : KF) : Prop := ∃ pc2 lo2 w2 c2 s2, RN (callL X 70) X (rgx xs) (xs.length + 1) 7 kRc0 kRs0 qPL k (.ireturn, (pc2, lo2, [.inl (.int 1)], w2, c2, s2)) ∧ Nat.ble c2 kRc0 = true ∧ Nat.ble s2 kRs0 = true ∧ kTW qEnv w2 ∧ qIa w2
theorem kev_out {e : KE} {k : Nat} (h : (khd e).2.2 ≤ k) : kev e k = none := by
  have hb : ∀ n, n ≤ k → Nat.blt k n = false := fun n hn => by
    cases q : Nat.blt k n with
    | false => rfl
    | true => exact absurd (Nat.blt_eq.mp q) (Nat.not_lt.mpr hn)
  rcases e with ⟨t, n, ⟨l, d⟩ | ⟨l, d⟩ | l⟩ | ⟨ci, fs⟩
  · show (bif Nat.blt k n then _ else none) = _
    rw [hb n h]; rfl
  · show (bif Nat.blt k n then _ else none) = _
    rw [hb n h]; rfl
  · show (bif Nat.blt k n then _ else none) = _
    rw [hb n h]; rfl
  · exact List.getElem?_eq_none h
theorem wval_out {E : TEnv} {w : KW} (hw : kTW E w) {a k : Nat} (ha : a < E.1) (hk : (E.2.2 (E.2.1 a)).1.2.2 ≤ k) : wval w a k = none := by
  obtain ⟨e, h1, h2, -⟩ := hw.2 a ha
  unfold wval
  rw [h1]
  exact kev_out (by rw [h2]; exact hk)
theorem qModA_cov : (List.range 168).all (fun a => qModA.any (fun q => Nat.beq q.1 (qEnv.2.1 a) && (Nat.beq q.2.1 0 && Nat.beq (q.2.2 + 1) (qEnv.2.2 (qEnv.2.1 a)).1.2.2))) = true := by decide +kernel
theorem qModA_all {w w' : KW} (h : kTW qEnv w) (h' : kTW qEnv w') : kFr qEnv qModA w w' := by
  intro a k ha hk
  by_cases hs : k < (qEnv.2.2 (qEnv.2.1 a)).1.2.2
  · exfalso
    obtain ⟨q, hq, hb⟩ := List.any_eq_true.mp (List.all_eq_true.mp qModA_cov a (List.mem_range.mpr ha))
    simp only [Bool.and_eq_true] at hb
    obtain ⟨b1, b2, b3⟩ := hb
    have b1 := kb_t b1
    have b2 := kb_t b2
    have b3 := kb_t b3
    exact hk ⟨q, hq, b1, by omega, by omega⟩
  · rw [wval_out h ha (Nat.not_lt.mp hs), wval_out h' ha (Nat.not_lt.mp hs)]
theorem TGL_to {X : KO} {xs : List Int32} {k : KF} (h : TGL X xs k) {ρ0 : Nat → Int} {w0 : KW} (hw0 : kTW qEnv w0) : TG qEnv qPh (callL X 70) X qModA (rgx xs) (xs.length + 1) 7 kRc0 kRs0 (some .boolean) qPL qPostL 9 ρ0 w0 k := by
  obtain ⟨pc2, lo2, w2, c2, s2, h1, h2, h3, h4, h5⟩ := h
  refine ⟨.ireturn, _, h1, h2, h3, h4, qModA_all hw0 h4, some (.inl (.int 1)), rfl, _, List.mem_cons_self, ρ0, fun _ _ => rfl, Nat.le_refl _, ⟨⟨fun q hq => absurd hq List.not_mem_nil, fun q hq => absurd hq List.not_mem_nil, fun f hf => absurd hf List.not_mem_nil, ⟨fun t h => absurd h List.not_mem_nil, Int.le_refl _⟩, ⟨fun t h => absurd h List.not_mem_nil, Int.le_refl _⟩⟩, ⟨fun j x (hj : none = some x) => (nomatch hj), rfl⟩, ⟨⟨fun t h => absurd h List.not_mem_nil, rfl⟩, trivial⟩, ⟨fun q hq => absurd hq List.not_mem_nil, qIa_to h5⟩⟩⟩
theorem kretx_bool {ig : Instr} {st : List KV} {r : Option KV} (h : kretx (some .boolean) ig st = some r) : ig = .ireturn ∧ st = r.toList := by
  unfold kretx at h
  split at h
  · cases h
  · split at h
    · exact absurd ‹some FieldType.boolean = some FieldType.int› (fun h => by cases h)
    · have hq := kcond_inv h
      clear h
      obtain ⟨-, h⟩ := hq
      cases h
      exact ⟨rfl, rfl⟩
    · exact absurd ‹some FieldType.boolean = some FieldType.byte› (fun h => by cases h)
    · cases h
  · split at h
    · exact absurd ‹some FieldType.boolean = some FieldType.byte› (fun h => by cases h)
    · cases h
  · split at h
    · exact absurd ‹some FieldType.boolean = some FieldType.long› (fun h => by cases h)
    · cases h
  · cases h
theorem TGL_of {X : KO} {xs : List Int32} {k : KF} {ρ0 : Nat → Int} {w0 : KW} (h : TG qEnv qPh (callL X 70) X qModA (rgx xs) (xs.length + 1) 7 kRc0 kRs0 (some .boolean) qPL qPostL 9 ρ0 w0 k) : TGL X xs k := by
  obtain ⟨ig, ⟨pc2, lo2, st2, w2, c2, s2⟩, h1, h2, h3, h4, -, r, h6, P, h7, ρ', -, -, h10⟩ := h
  have hP := List.mem_singleton.mp h7
  rw [hP] at h10
  have h6 : kretx (some .boolean) ig st2 = some r := h6
  obtain ⟨rfl, e⟩ := kretx_bool h6
  have h11 : aSt qEnv 9 ρ' [.inl (1, [])] r.toList := h10.2.2.1
  rw [← e] at h11
  obtain ⟨v, s', rfl, hv, hs⟩ := aSt_cons h11
  have hv2 : v = .inl (.int 1) := hv.2
  have hs2 := aSt_nil hs
  subst hv2; subst hs2
  exact ⟨pc2, lo2, w2, c2, s2, h1, h2, h3, h4, qIa_of h10.2.2.2.2 (fun e h => absurd h List.not_mem_nil)⟩
theorem i32_rng (x : Int32) : -2147483648 ≤ x.toInt ∧ x.toInt ≤ 2147483647 := ⟨i32_lo x, i32_hi x⟩
theorem wind_w {xs : List Int32} {i u : Int} {v : Nat} (h1 : 2 ≤ v) (h2 : v < 8) : -2147483648 ≤ wind xs i u v ∧ wind xs i u v ≤ 2147483647 := by
  unfold wind
  rw [if_neg (by omega), if_neg (by omega), if_pos h2]
  split
  · exact i32_rng _
  · decide
theorem wind_sc {xs : List Int32} {i u : Int} : kScA true 9 (wind xs i u) (rgx xs) (xs.length + 1) := by
  intro _
  refine ⟨by decide, by unfold rgx; rw [List.length_map], by unfold rgx; rw [List.length_map]; rfl, fun q hq => ?_, fun j q hj hq => ?_⟩
  · obtain ⟨x, -, rfl⟩ := List.mem_map.mp hq
    rfl
  · have hq : (rgx xs)[(i + (j : Int)).toNat]? = some q := hq
    unfold rgx at hq
    rw [List.getElem?_map] at hq
    unfold wind
    rw [if_neg (by omega), if_neg (by omega), if_pos (by omega), Nat.add_sub_cancel_left]
    cases hx : xs[(i + (j : Int)).toNat]? with
    | none => rw [hx] at hq; cases hq
    | some x => rw [hx] at hq; cases hq; rfl
theorem rng0 {xs : List Int32} (hlen : xs.length ≤ 3072) {i u : Int} (hi : 0 ≤ i) (hi2 : i ≤ (xs.length : Int)) (hu : 0 ≤ u) (hu2 : u ≤ 940) : kRG (wind xs i u) qS0.2.1 := by
  intro q hq
  have hq : q ∈ ([(8, (0, 940)), (7, (-2147483648, 2147483647)), (6, (-2147483648, 2147483647)), (5, (-2147483648, 2147483647)), (4, (-2147483648, 2147483647)), (3, (-2147483648, 2147483647)), (2, (-2147483648, 2147483647)), (1, (0, 3072)), (0, (0, 3072))] : RG) := hq
  simp only [List.mem_cons, List.not_mem_nil, or_false] at hq
  rcases hq with rfl | rfl | rfl | rfl | rfl | rfl | rfl | rfl | rfl
  · exact ⟨hu, hu2⟩
  · exact wind_w (by decide) (by decide)
  · exact wind_w (by decide) (by decide)
  · exact wind_w (by decide) (by decide)
  · exact wind_w (by decide) (by decide)
  · exact wind_w (by decide) (by decide)
  · exact wind_w (by decide) (by decide)
  · refine ⟨hi, ?_⟩
    show i ≤ 3072
    omega
  · refine ⟨Int.natCast_nonneg _, ?_⟩
    show (xs.length : Int) ≤ 3072
    omega
/-- the head of the loop, told plainly -/
def HeadAt (n : Nat) (ρ : Nat → Int) (i u : Int) (k : KF) : Prop := k.1 = 23 ∧ (klook k.2.1 0 = some (.inl (.ref 1000000)) ∧ klook k.2.1 1 = some (.inl (.ref 0)) ∧ klook k.2.1 2 = some (.inl (.ref 148)) ∧ klook k.2.1 3 = some (.inl (.ref 167)) ∧ klook k.2.1 4 = some (.inl (.int (Int32.ofInt i))) ∧ kokL 168 k.2.1 = true) ∧ k.2.2.1 = [] ∧ (wval k.2.2.2.1 1 1 = some (.inl (.int (Int32.ofInt u))) ∧ wval k.2.2.2.1 148 2 = some (.inl (.int (Int32.ofInt u)))) ∧ kTW qEnv k.2.2.2.1 ∧ qIa k.2.2.2.1 ∧ (k.2.2.2.2.1 : Int) ≤ 168 + i ∧ (k.2.2.2.2.2 : Int) ≤ 7728 + i
theorem lev_i1 (ρ : Nat → Int) (c : Int) (v : Nat) : lev ρ (c, [(v, 1)]) = c + ρ v := by
  show c + (1 * ρ v + 0) = c + ρ v
  omega
theorem lev_c0 (ρ : Nat → Int) (c : Int) : lev ρ (c, []) = c := by
  show c + 0 = c
  omega
theorem lev_d (ρ : Nat → Int) (c : Int) (v u : Nat) : lev ρ (c, [(v, 1), (u, -1)]) = c + ρ v - ρ u := by
  show c + (1 * ρ v + (-1 * ρ u + 0)) = c + ρ v - ρ u
  omega
theorem lwf1 {n v : Nat} {c a : Int} (h : v < n) : lwf n (c, [(v, a)]) := fun t ht => by rw [List.mem_singleton.mp ht]; exact h
/-- the head as an abstract state -/
theorem head_to {xs : List Int32} (hlen : xs.length ≤ 3072) {n : Nat} {ρ : Nat → Int} {i u : Int} {k : KF} (h : HeadAt n ρ i u k) (hi : 0 ≤ i) (hi2 : i ≤ (xs.length : Int)) (hu : 0 ≤ u) (hu2 : u ≤ 940) : aGS qEnv qPh (wind xs i u) qS0 k := by
  obtain ⟨h1, ⟨l0, l1, l2, l3, l4, l5⟩, h3, ⟨t1, t2⟩, h5, h6, h7, h8⟩ := h
  have hr : ∀ (n : Nat) (m : Nat), kokN 168 m = true → aR qEnv n (wind xs i u) (.inr (2, m)) (.inl (.ref m)) := fun n m hm => ⟨(show (2 : Nat) ≠ 0 by decide), (vOK2 (t := (2, (m : Int), 0)) rfl).mpr ⟨rfl, hm⟩⟩
  have w8 : ∀ x : KV, x = .inl (.int (Int32.ofInt u)) → aR qEnv 9 (wind xs i u) (.inl (0, [(8, 1)])) x := fun x hx => ⟨lwf1 (by decide), by rw [lev_i1, hx]; show _ = (Sum.inl (Value.int (Int32.ofInt (0 + u))) : KV); rw [Int.zero_add]⟩
  refine ⟨⟨?_, rng0 hlen hi hi2 hu hu2, fun f hf => ?_, ⟨lwf1 (by decide), ?_⟩, ⟨lwf1 (by decide), ?_⟩⟩, ⟨fun j a hj => ?_, l5⟩, ?_, ⟨fun q hq => ?_, qIa_to h6⟩⟩
  · have : qS0.2.1.all (fun q => Nat.blt q.1 qS0.1) = true := by decide
    exact fun q hq => Nat.blt_eq.mp (List.all_eq_true.mp this q hq)
  · rw [List.mem_singleton.mp hf]
    refine ⟨fun t ht => ?_, ?_⟩
    · have ht : t ∈ ([(0, 1), (1, -1)] : List (Nat × Int)) := ht
      simp only [List.mem_cons, List.not_mem_nil, or_false] at ht
      rcases ht with rfl | rfl <;> decide
    · rw [lev_d]
      show 0 ≤ 0 + (xs.length : Int) - i
      omega
  · show _ ≤ lev (wind xs i u) (168, [(1, 1)])
    rw [lev_i1]; exact h7
  · show _ ≤ lev (wind xs i u) (7728, [(1, 1)])
    rw [lev_i1]; exact h8
  · match j, hj with
    | 0, hj => cases hj; exact ⟨_, l0, hr _ _ rfl⟩
    | 1, hj => cases hj; exact ⟨_, l1, hr _ _ rfl⟩
    | 2, hj => cases hj; exact ⟨_, l2, hr _ _ rfl⟩
    | 3, hj => cases hj; exact ⟨_, l3, hr _ _ rfl⟩
    | 4, hj =>
      cases hj
      refine ⟨_, l4, lwf1 (by decide), ?_⟩
      rw [lev_i1]
      show _ = (Sum.inl (Value.int (Int32.ofInt (0 + i))) : KV)
      rw [Int.zero_add]
    | n + 5, hj => cases (show (none : Option AV) = some a from hj)
  · rw [h3]; trivial
  · have hq : q ∈ ([((1, (1, [])), .inl (0, [(8, 1)])), ((148, (2, [])), .inl (0, [(8, 1)]))] : TC) := hq
    simp only [List.mem_cons, List.not_mem_nil, or_false] at hq
    rcases hq with rfl | rfl
    · exact ⟨fun t h => absurd h List.not_mem_nil, Or.inr ⟨by decide, by rw [lev_c0]; decide, _, by rw [lev_c0]; exact t1, w8 _ rfl⟩⟩
    · exact ⟨fun t h => absurd h List.not_mem_nil, Or.inr ⟨by decide, by rw [lev_c0]; decide, _, by rw [lev_c0]; exact t2, w8 _ rfl⟩⟩
/-- the next head -/
theorem head_of {ρ : Nat → Int} {k : KF} (hk : k.1 = 23) (hT : kTW qEnv k.2.2.2.1) (h : aGS qEnv qPh ρ qSN k) : HeadAt 0 ρ (ρ 1 + 6) (ρ 9) k ∧ 0 ≤ ρ 9 ∧ ρ 9 ≤ 940 ∧ ρ 1 + 6 ≤ ρ 0 := by
  obtain ⟨⟨b1, b2, b3, ⟨b4, b5⟩, ⟨b6, b7⟩⟩, ⟨l1, l2⟩, s1, ⟨t1, t2⟩⟩ := h
  have hr : ∀ (m : Nat) (v : KV), aR qEnv 10 ρ (.inr (2, m)) v → v = .inl (.ref m) := fun m v hv => ((vOK2 (t := (2, (m : Int), 0)) rfl).mp hv.2).1
  have g9 := b2 (9, (0, 940)) List.mem_cons_self
  have gc := (b3 (-6, [(0, 1), (1, -1)]) List.mem_cons_self).2
  rw [lev_d] at gc
  have b5 : (k.2.2.2.2.1 : Int) ≤ lev ρ (174, [(1, 1)]) := b5
  have b7 : (k.2.2.2.2.2 : Int) ≤ lev ρ (7734, [(1, 1)]) := b7
  rw [lev_i1] at b5 b7
  obtain ⟨v0, g0, a0⟩ := l1 0 (.inr (2, 1000000)) rfl
  obtain ⟨v1, g1, a1⟩ := l1 1 (.inr (2, 0)) rfl
  obtain ⟨v2, g2, a2⟩ := l1 2 (.inr (2, 148)) rfl
  obtain ⟨v3, g3, a3⟩ := l1 3 (.inr (2, 167)) rfl
  obtain ⟨v4, g4, a4⟩ := l1 4 (.inl (6, [(1, 1)])) rfl
  rw [hr _ _ a0] at g0
  rw [hr _ _ a1] at g1
  rw [hr _ _ a2] at g2
  rw [hr _ _ a3] at g3
  have e4 : v4 = .inl (.int (Int32.ofInt (lev ρ (6, [(1, 1)])))) := a4.2
  rw [e4, lev_i1, Int.add_comm] at g4
  have hw : ∀ (a : Nat) (c : Int), ((a, (c, [])), (Sum.inl (0, [(9, 1)]) : AV)) ∈ qSN.2.2.2.2.2.1 → a < 2000000 → wval k.2.2.2.1 a c.toNat = some (.inl (.int (Int32.ofInt (ρ 9)))) := by
    intro a c hm ha
    obtain ⟨-, q⟩ := t1 _ hm
    rcases q with q | ⟨-, -, v, q1, q2⟩
    · exact absurd q (Nat.not_le.mpr ha)
    · have q1 : wval k.2.2.2.1 a (lev ρ (c, [])).toNat = some v := q1
      rw [lev_c0] at q1
      have q3 : v = .inl (.int (Int32.ofInt (lev ρ (0, [(9, 1)])))) := q2.2
      rw [q3, lev_i1, Int.zero_add] at q1
      exact q1
  refine ⟨⟨hk, ⟨g0, g1, g2, g3, g4, l2⟩, aSt_nil s1, ⟨hw 1 1 List.mem_cons_self (by decide), hw 148 2 (List.mem_cons_of_mem _ List.mem_cons_self) (by decide)⟩, hT, qIa_of t2 (fun e he => ?_), by omega, by omega⟩, g9.1, g9.2, by omega⟩
  have he : e ∈ ([((1, (1, [])), .inl (0, [(9, 1)])), ((148, (2, [])), .inl (0, [(9, 1)]))] : TC) := he
  simp only [List.mem_cons, List.not_mem_nil, or_false] at he
  rcases he with rfl | rfl <;> decide
theorem qGL_wf : ∀ q ∈ qGL.1, apwf 9 q.2.1 = true := by decide +kernel
theorem qPostL_wf : ∀ P ∈ qPostL, apwf 0 P = true ∧ 9 ≤ P.1 := by decide +kernel
