/-! All that is so, over the law's steps. -/
set_option maxRecDepth 16384 in
theorem C2_fr3 {a a' b b' : MM} (h : C2 a b) (ha : ∀ x k, PCs x k → a' x k = a x k) (hb : ∀ x k, PJs x k → ¬ (x = 150 ∧ 214 ≤ k) → b' x k = b x k) : C2 a' b' := by
  have hS := h.1.2.1
  refine C2_sn h ha (fun x k q1 q2 => hb x k q1 (by omega)) ?_
  exact Sn_cp hS.2.2 (ha _ _ (by unfold PCs; omega)) hS.f.2.2 (fun f f0 f1 => (hS.sp f0 f1).2) (fun f f0 f1 => ⟨ha _ _ (by unfold PCs; omega), ha _ _ (by unfold PCs; omega)⟩) ⟨ha _ _ (by unfold PCs; omega), ha _ _ (by unfold PCs; omega)⟩ (fun j q1 q2 => ha _ _ (by unfold PCs; omega)) (fun i j q1 q2 q3 q4 => ha _ _ (by unfold PCs; omega)) (fun j q1 q2 => ha _ _ (by unfold PCs; omega)) (fun j q1 q2 => Or.inl (hb _ _ (by unfold PJs; omega) (by omega)))
set_option maxRecDepth 16384 in
/-- of a label: from where to where it matters -/
def rng (a : Nat) : Nat × Nat × Bool := if a = 0 then (1, 6, true) else if 3 ≤ a ∧ a ≤ 8 then (0, 0, false) else if 15 ≤ a ∧ a ≤ 21 then (0, 0, false) else if a = 22 then (0, 6, true) else if 29 ≤ a ∧ a ≤ 87 then (0, 0, false) else if a = 100 ∨ a = 105 ∨ a = 117 ∨ a = 136 then (0, 2, true) else if (110 ≤ a ∧ a ≤ 116) ∨ (122 ≤ a ∧ a ≤ 135) ∨ (141 ≤ a ∧ a ≤ 147) then (0, 0, false) else if a = 148 then (14, 23, true) else if a = 150 then (0, 213, true) else if a = 152 ∨ a = 153 ∨ a = 155 ∨ a = 157 ∨ a = 158 then (0, 0, false) else (1, 0, true)
set_option maxRecDepth 16384 in
def inr_ (a k : Nat) : Prop := (rng a).1 ≤ k ∧ ((rng a).2.2 = true → k ≤ (rng a).2.1)
set_option maxRecDepth 16384 in
def c2ok (ms : MOD) : Bool := (List.range 168).all (fun a => ms.all (fun q => !(Nat.beq q.1 (qEnv.2.1 a)) || (Nat.blt q.2.2 (rng a).1 || ((rng a).2.2 && (Nat.blt (rng a).2.1 q.2.1 || Nat.blt (rng a).2.1 (rng a).1)))))
set_option maxRecDepth 16384 in
theorem c2ok_n {ms : MOD} (h : c2ok ms = true) {a k : Nat} (ha : a < 168) (hk : inr_ a k) : ¬ kmod qEnv ms a k := by
  rintro ⟨q, hq, h1, h2, h3⟩
  have h4 := List.all_eq_true.mp (List.all_eq_true.mp h a (List.mem_range.mpr ha)) q hq
  rw [h1, Nat.beq_refl] at h4
  simp only [Bool.not_true, Bool.false_or] at h4
  rcases Bool.or_eq_true_iff.mp h4 with h5 | h5
  · have := Nat.blt_eq.mp h5
    have := hk.1
    omega
  · obtain ⟨h6, h7⟩ := Bool.and_eq_true_iff.mp h5
    have := hk.2 h6
    have := hk.1
    rcases Bool.or_eq_true_iff.mp h7 with h7 | h7
    · have := Nat.blt_eq.mp h7
      omega
    · have := Nat.blt_eq.mp h7
      omega
set_option maxRecDepth 16384 in
theorem wm_neg {w0 w : KW} (h0 : kTW qEnv w0) (h1 : kTW qEnv w) {a : Nat} (ha : a < 168) {k : Int} (hk : k < 0) : wm zr w (a : Int) k = wm zr w0 (a : Int) k := by
  obtain ⟨e0, x0, y0, -⟩ := h0.2 a ha
  obtain ⟨e1, x1, y1, -⟩ := h1.2 a ha
  have hd : khd e1 = khd e0 := y1.trans y0.symm
  unfold wm
  rw [if_pos (Int.natCast_nonneg _), if_pos (Int.natCast_nonneg _), Int.toNat_natCast, x0, x1]
  by_cases c : k = -1
  · rw [if_pos c, if_pos c]
    rcases e0 with ⟨t0, n0, ⟨l0, d0⟩ | ⟨l0, d0⟩ | l0⟩ | ⟨c0, f0⟩ <;> rcases e1 with ⟨t1, n1, ⟨l1, d1⟩ | ⟨l1, d1⟩ | l1⟩ | ⟨c1, f1⟩
    all_goals first
      | rfl
      | (have e := congrArg (fun z => z.2.2) hd; exact congrArg Int.ofNat e)
      | (exfalso; have e := congrArg Prod.fst hd; simp [khd] at e)
      | skip
  · rw [if_neg c, if_neg c]
    by_cases c2 : k = -2
    · rw [if_pos c2, if_pos c2]
      rcases e0 with ⟨t0, n0, ⟨l0, d0⟩ | ⟨l0, d0⟩ | l0⟩ | ⟨c0, f0⟩ <;> rcases e1 with ⟨t1, n1, ⟨l1, d1⟩ | ⟨l1, d1⟩ | l1⟩ | ⟨c1, f1⟩
      all_goals first
        | rfl
        | (have e := congrArg (fun z => z.2.1) hd; exact congrArg Int.ofNat e)
        | (exfalso; have e := congrArg Prod.fst hd; simp [khd] at e)
        | skip
    · rw [if_neg c2, if_neg c2, if_neg (by omega), if_neg (by omega)]
set_option maxRecDepth 16384 in
theorem wm_kF {ms : MOD} {w0 w : KW} (h0 : kTW qEnv w0) (h1 : kTW qEnv w) (hF : kFr qEnv ms w0 w) (hb : c2ok ms = true) {x k : Int} (x0 : 0 ≤ x) (x1 : x < 168) (hk : 0 ≤ k → inr_ x.toNat k.toNat) : wm zr w x k = wm zr w0 x k := by
  obtain ⟨a, rfl⟩ : ∃ a : Nat, x = (a : Int) := ⟨x.toNat, by omega⟩
  by_cases c : 0 ≤ k
  · obtain ⟨j, rfl⟩ : ∃ j : Nat, k = (j : Int) := ⟨k.toNat, by omega⟩
    have := hk c
    rw [Int.toNat_natCast, Int.toNat_natCast] at this
    exact wm_fr (hF a j (by show a < 168; omega) (c2ok_n hb (by omega) this))
  · exact wm_neg h0 h1 (by omega) (by omega)
set_option maxRecDepth 16384 in
theorem PCs_in {x k : Int} (h : PCs x k) : 0 ≤ x ∧ x < 148 ∧ (0 ≤ k → inr_ x.toNat k.toNat) := by
  have hx : 0 ≤ x ∧ x < 148 := by unfold PCs at h; omega
  refine ⟨hx.1, hx.2, fun hk => ?_⟩
  unfold PCs at h
  unfold inr_ rng
  (repeat' split) <;> simp <;> omega
set_option maxRecDepth 16384 in
theorem PJs_in {x k : Int} (h : PJs x k) (h2 : ¬ (x = 150 ∧ 214 ≤ k)) : 148 ≤ x ∧ x < 168 ∧ (0 ≤ k → inr_ x.toNat k.toNat) := by
  have hx : 148 ≤ x ∧ x < 168 := by unfold PJs at h; omega
  refine ⟨hx.1, hx.2, fun hk => ?_⟩
  unfold PJs at h
  unfold inr_ rng
  (repeat' split) <;> simp <;> omega
set_option maxRecDepth 16384 in
/-- the whole, where nothing of it is touched -/
theorem C2_kF {ms ms' : MOD} {wa wb wa' wb' : KW} (h : C2 (wm zr wa) (wm zr wb)) (ha0 : kTW qEnv wa) (ha1 : kTW qEnv wa') (hb0 : kTW qEnv wb) (hb1 : kTW qEnv wb') (hFa : kFr qEnv ms wa wa') (hFb : kFr qEnv ms' wb wb') (hm : c2ok ms = true) (hm' : c2ok ms' = true) : C2 (wm zr wa') (wm zr wb') := C2_fr3 h (fun x k q => by
  obtain ⟨q1, q2, q3⟩ := PCs_in q
  exact wm_kF ha0 ha1 hFa hm q1 (by omega) q3) (fun x k q q' => by
  obtain ⟨q1, q2, q3⟩ := PJs_in q q'
  exact wm_kF hb0 hb1 hFb hm' (by omega) q2 q3)
set_option maxRecDepth 16384 in
def lok (ms : MOD) (a : Nat) : Bool := ms.all (fun q => !(Nat.beq q.1 (qEnv.2.1 a)) || (Nat.blt q.2.2 (rng a).1 || ((rng a).2.2 && (Nat.blt (rng a).2.1 q.2.1 || Nat.blt (rng a).2.1 (rng a).1))))
set_option maxRecDepth 16384 in
def pcok (ms : MOD) : Bool := (List.range 148).all (lok ms)
set_option maxRecDepth 16384 in
def pjok (ms : MOD) : Bool := (List.range 168).all (fun a => Nat.blt a 148 || lok ms a)
set_option maxRecDepth 16384 in
theorem lok_n {ms : MOD} {a k : Nat} (h4 : lok ms a = true) (hk : inr_ a k) : ¬ kmod qEnv ms a k := by
  rintro ⟨q, hq, h1, h2, h3⟩
  have h4 := List.all_eq_true.mp h4 q hq
  rw [h1, Nat.beq_refl] at h4
  simp only [Bool.not_true, Bool.false_or] at h4
  rcases Bool.or_eq_true_iff.mp h4 with h5 | h5
  · have := Nat.blt_eq.mp h5
    have := hk.1
    omega
  · obtain ⟨h6, h7⟩ := Bool.and_eq_true_iff.mp h5
    have := hk.2 h6
    have := hk.1
    rcases Bool.or_eq_true_iff.mp h7 with h7 | h7
    · have := Nat.blt_eq.mp h7
      omega
    · have := Nat.blt_eq.mp h7
      omega
set_option maxRecDepth 16384 in
theorem wm_lF {ms : MOD} {w0 w : KW} (h0 : kTW qEnv w0) (h1 : kTW qEnv w) (hF : kFr qEnv ms w0 w) {x k : Int} (x0 : 0 ≤ x) (x1 : x < 168) (hb : lok ms x.toNat = true) (hk : 0 ≤ k → inr_ x.toNat k.toNat) : wm zr w x k = wm zr w0 x k := by
  obtain ⟨a, rfl⟩ : ∃ a : Nat, x = (a : Int) := ⟨x.toNat, by omega⟩
  rw [Int.toNat_natCast] at hb hk
  by_cases c : 0 ≤ k
  · obtain ⟨j, rfl⟩ : ∃ j : Nat, k = (j : Int) := ⟨k.toNat, by omega⟩
    have := hk c
    rw [Int.toNat_natCast] at this
    exact wm_fr (hF a j (by show a < 168; omega) (lok_n hb this))
  · exact wm_neg h0 h1 (by omega) (by omega)
set_option maxRecDepth 16384 in
theorem C2_ab {ms ms' : MOD} {wa wb wa' wb' : KW} (h : C2 (wm zr wa) (wm zr wb)) (ha0 : kTW qEnv wa) (ha1 : kTW qEnv wa') (hb0 : kTW qEnv wb) (hb1 : kTW qEnv wb') (hFa : kFr qEnv ms wa wa') (hFb : kFr qEnv ms' wb wb') (hm : pcok ms = true) (hm' : pjok ms' = true) : C2 (wm zr wa') (wm zr wb') := C2_fr3 h (fun x k q => by
  obtain ⟨q1, q2, q3⟩ := PCs_in q
  exact wm_lF ha0 ha1 hFa q1 (by omega) (List.all_eq_true.mp hm _ (List.mem_range.mpr (by omega))) q3) (fun x k q q' => by
  obtain ⟨q1, q2, q3⟩ := PJs_in q q'
  have := List.all_eq_true.mp hm' x.toNat (List.mem_range.mpr (by omega))
  rcases Bool.or_eq_true_iff.mp this with h5 | h5
  · have := Nat.blt_eq.mp h5
    omega
  · exact wm_lF hb0 hb1 hFb (by omega) q2 h5 q3)
set_option maxRecDepth 16384 in
theorem kFr_nil {ms : MOD} {w0 w : KW} (h : kFr qEnv [] w0 w) : kFr qEnv ms w0 w := fun a k ha _ => h a k ha (fun ⟨q, hq, _⟩ => absurd hq List.not_mem_nil)
