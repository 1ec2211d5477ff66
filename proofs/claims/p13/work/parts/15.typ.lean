/-! What the cells hold by their kinds, and what an abstract value stands for. -/
/-- a kind of value: 0 an int of a range, 1 a long, 2 one label, 3 a label of a kind, 4 such a one or null -/
abbrev VT : Type := Nat × Int × Int
/-- a kind of cell: its head, its places' kinds from a place on -/
abbrev CTy : Type := (Nat × Nat × Nat) × List (Nat × VT)
/-- how many labels, the kind of a label, the kinds -/
abbrev TEnv : Type := Nat × (Nat → Nat) × (Nat → CTy)
abbrev AV : Type := LF ⊕ (Nat × Nat)
abbrev TC : Type := List ((Nat × LF) × AV)
def ksg : List (Nat × VT) → Nat → VT
  | [], _ => (9, 0, 0)
  | q :: l, k => match l with
    | [] => q.2
    | r :: _ => bif Nat.blt k r.1 then q.2 else ksg l k
def ksall (lo hi : Int) (p : VT → Bool) : List (Nat × VT) → Bool
  | [] => p (9, 0, 0)
  | q :: l => match l with
    | [] => p q.2
    | r :: _ => bif ile r.1 lo then ksall lo hi p l else bif ile r.1 hi then p q.2 && ksall lo hi p l else p q.2
theorem ksall_ok {p : VT → Bool} {lo hi : Int} : ∀ (l : List (Nat × VT)), ksall lo hi p l = true → ∀ k : Nat, lo ≤ (k : Int) → (k : Int) ≤ hi → p (ksg l k) = true := by
  intro l
  induction l with
  | nil => intro h k _ _; exact h
  | cons q l ih =>
    intro h k h1 h2
    cases l with
    | nil => exact h
    | cons r t =>
      have h : (bif ile r.1 lo then ksall lo hi p (r :: t) else bif ile r.1 hi then p q.2 && ksall lo hi p (r :: t) else p q.2) = true := h
      show p (bif Nat.blt k r.1 then q.2 else ksg (r :: t) k) = true
      cases e1 : ile r.1 lo with
      | true =>
        have := ile_ok e1
        have e2 : Nat.blt k r.1 = false := by
          cases e2 : Nat.blt k r.1 with
          | false => rfl
          | true => have := Nat.ble_eq.mp e2; omega
        rw [e2]
        rw [e1] at h
        exact ih h k h1 h2
      | false =>
        rw [e1] at h
        cases e3 : ile r.1 hi with
        | true =>
          rw [e3] at h
          have h : (p q.2 && ksall lo hi p (r :: t)) = true := h
          have h := Bool.and_eq_true_iff.mp h
          cases Nat.blt k r.1 with
          | true => exact h.1
          | false => exact ih h.2 k h1 h2
        | false =>
          rw [e3] at h
          have := ile_no e3
          have e2 : Nat.blt k r.1 = true := Nat.ble_eq.mpr (by omega)
          rw [e2]
          exact h
/-- the words that a line can begin with, as the reference packs them -/
def kLS : List Int64 := [444208, 6675647, 2968]
def lBig : Nat := 1000000000000000000000000000000
/-- a long: 0 any, 1 none of these words, from 2 on one number, far behind: less than a power of 27 -/
def lOK (n : Nat) (x : Int64) : Prop := match n with
  | 0 => True
  | 1 => x ∉ kLS
  | m + 2 => (lBig ≤ m ∧ x.toInt < 27 ^ (m - lBig)) ∨ (m < lBig ∧ x = Int64.ofNat m)
def vOK (E : TEnv) (t : VT) (v : KV) : Prop := match t.1 with
  | 0 => ∃ x : Int32, v = .inl (.int x) ∧ t.2.1 ≤ x.toInt ∧ x.toInt ≤ t.2.2
  | 1 => ∃ x, v = .inl (.long x) ∧ lOK t.2.1.toNat x
  | 2 => v = .inl (.ref t.2.1.toNat) ∧ kokN E.1 t.2.1.toNat = true
  | 3 => ∃ a, v = .inl (.ref a) ∧ kokN E.1 a = true ∧ E.2.1 a = t.2.1.toNat
  | 4 => v = .inl .null ∨ ∃ a, v = .inl (.ref a) ∧ kokN E.1 a = true ∧ E.2.1 a = t.2.1.toNat
  | 5 => v = .inl .null
  | _ => False
/-- a kind within another -/
def vsub (E : TEnv) (t u : VT) : Bool := match u.1 with
  | 0 => Nat.beq t.1 0 && (ile u.2.1 t.2.1 && ile t.2.2 u.2.2)
  | 1 => Nat.beq t.1 1 && (Nat.beq u.2.1.toNat 0 || Nat.beq t.2.1.toNat u.2.1.toNat)
  | 2 => Nat.beq t.1 2 && Nat.beq t.2.1.toNat u.2.1.toNat
  | 3 => (Nat.beq t.1 3 && Nat.beq t.2.1.toNat u.2.1.toNat) || (Nat.beq t.1 2 && Nat.beq (E.2.1 t.2.1.toNat) u.2.1.toNat)
  | 4 => Nat.beq t.1 5 || (Nat.beq t.1 3 || Nat.beq t.1 4) && Nat.beq t.2.1.toNat u.2.1.toNat
  | 5 => Nat.beq t.1 5
  | _ => false
theorem vOK0 {E : TEnv} {t : VT} {v : KV} (h : t.1 = 0) : vOK E t v ↔ ∃ x : Int32, v = .inl (.int x) ∧ t.2.1 ≤ x.toInt ∧ x.toInt ≤ t.2.2 := by
  unfold vOK; rw [h]; exact Iff.rfl
theorem vOK1 {E : TEnv} {t : VT} {v : KV} (h : t.1 = 1) : vOK E t v ↔ ∃ x, v = .inl (.long x) ∧ lOK t.2.1.toNat x := by
  unfold vOK; rw [h]; exact Iff.rfl
theorem vOK2 {E : TEnv} {t : VT} {v : KV} (h : t.1 = 2) : vOK E t v ↔ v = .inl (.ref t.2.1.toNat) ∧ kokN E.1 t.2.1.toNat = true := by
  unfold vOK; rw [h]; exact Iff.rfl
theorem vOK3 {E : TEnv} {t : VT} {v : KV} (h : t.1 = 3) : vOK E t v ↔ ∃ a, v = .inl (.ref a) ∧ kokN E.1 a = true ∧ E.2.1 a = t.2.1.toNat := by
  unfold vOK; rw [h]; exact Iff.rfl
theorem vOK4 {E : TEnv} {t : VT} {v : KV} (h : t.1 = 4) : vOK E t v ↔ (v = .inl .null ∨ ∃ a, v = .inl (.ref a) ∧ kokN E.1 a = true ∧ E.2.1 a = t.2.1.toNat) := by
  unfold vOK; rw [h]; exact Iff.rfl
theorem vOK5 {E : TEnv} {t : VT} {v : KV} (h : t.1 = 5) : vOK E t v ↔ v = .inl .null := by
  unfold vOK; rw [h]; exact Iff.rfl
theorem vsub_ok {E : TEnv} {t u : VT} {v : KV} (h : vsub E t u = true) (hv : vOK E t v) : vOK E u v := by
  unfold vsub at h
  split at h
  · rename_i hu
    have h := Bool.and_eq_true_iff.mp h
    have h2 := Bool.and_eq_true_iff.mp h.2
    obtain ⟨x, e, a, b⟩ := (vOK0 (kb_t h.1)).mp hv
    have := ile_ok h2.1
    have := ile_ok h2.2
    exact (vOK0 hu).mpr ⟨x, e, by omega, by omega⟩
  · rename_i hu
    have h := Bool.and_eq_true_iff.mp h
    obtain ⟨x, e, hx⟩ := (vOK1 (kb_t h.1)).mp hv
    refine (vOK1 hu).mpr ⟨x, e, ?_⟩
    rcases Bool.or_eq_true_iff.mp h.2 with q | q
    · rw [kb_t q]; exact trivial
    · rw [← kb_t q]; exact hx
  · rename_i hu
    have h := Bool.and_eq_true_iff.mp h
    have := (vOK2 (kb_t h.1)).mp hv
    rw [kb_t h.2] at this
    exact (vOK2 hu).mpr this
  · rename_i hu
    rcases Bool.or_eq_true_iff.mp h with h | h
    · have h := Bool.and_eq_true_iff.mp h
      obtain ⟨a, e, b, c⟩ := (vOK3 (kb_t h.1)).mp hv
      exact (vOK3 hu).mpr ⟨a, e, b, c.trans (kb_t h.2)⟩
    · have h := Bool.and_eq_true_iff.mp h
      obtain ⟨e, b⟩ := (vOK2 (kb_t h.1)).mp hv
      exact (vOK3 hu).mpr ⟨_, e, b, kb_t h.2⟩
  · rename_i hu
    rcases Bool.or_eq_true_iff.mp h with h | h
    · exact (vOK4 hu).mpr (Or.inl ((vOK5 (kb_t h)).mp hv))
    have h := Bool.and_eq_true_iff.mp h
    rcases Bool.or_eq_true_iff.mp h.1 with h1 | h1
    · obtain ⟨a, e, b, c⟩ := (vOK3 (kb_t h1)).mp hv
      exact (vOK4 hu).mpr (Or.inr ⟨a, e, b, c.trans (kb_t h.2)⟩)
    · rcases (vOK4 (kb_t h1)).mp hv with e | ⟨a, e, b, c⟩
      · exact (vOK4 hu).mpr (Or.inl e)
      · exact (vOK4 hu).mpr (Or.inr ⟨a, e, b, c.trans (kb_t h.2)⟩)
  · rename_i hu
    exact (vOK5 hu).mpr ((vOK5 (kb_t h)).mp hv)
  · cases h
theorem vOK_tag {E : TEnv} {t : VT} {v : KV} (h : vOK E t v) : t.1 = 0 ∨ t.1 = 1 ∨ t.1 = 2 ∨ t.1 = 3 ∨ t.1 = 4 ∨ t.1 = 5 := by
  unfold vOK at h
  split at h
  · exact Or.inl ‹_›
  · exact Or.inr (Or.inl ‹_›)
  · exact Or.inr (Or.inr (Or.inl ‹_›))
  · exact Or.inr (Or.inr (Or.inr (Or.inl ‹_›)))
  · exact Or.inr (Or.inr (Or.inr (Or.inr (Or.inl ‹_›))))
  · exact Or.inr (Or.inr (Or.inr (Or.inr (Or.inr ‹_›))))
  · exact h.elim
/-- what an abstract value stands for -/
def aR (E : TEnv) (n : Nat) (ρ : Nat → Int) : AV → KV → Prop
  | .inl f, v => lwf n f ∧ v = .inl (.int (Int32.ofInt (lev ρ f)))
  | .inr q, v => q.1 ≠ 0 ∧ vOK E (q.1, (q.2 : Int), 0) v
theorem aR_up {E : TEnv} {n m : Nat} {ρ ρ' : Nat → Int} (h : ∀ i, i < n → ρ' i = ρ i) (hm : n ≤ m) {a : AV} {v : KV} (ha : aR E n ρ a v) : aR E m ρ' a v := by
  rcases a with f | q
  · exact ⟨lwf_up ha.1 hm, by rw [lev_ag h ha.1]; exact ha.2⟩
  · exact ha
theorem aR_ok {E : TEnv} {n : Nat} {ρ : Nat → Int} {a : AV} {v : KV} (h : aR E n ρ a v) : kokV E.1 v = true := by
  rcases a with f | q
  · rw [h.2]; rfl
  · obtain ⟨h0, h⟩ := h
    rcases vOK_tag h with e | e | e | e | e | e
    · exact absurd e h0
    · obtain ⟨x, rfl, -⟩ := (vOK1 e).mp h; rfl
    · obtain ⟨rfl, k⟩ := (vOK2 e).mp h; exact k
    · obtain ⟨a, rfl, k, _⟩ := (vOK3 e).mp h; exact k
    · rcases (vOK4 e).mp h with rfl | ⟨a, rfl, k, _⟩
      · rfl
      · exact k
    · rw [(vOK5 e).mp h]; rfl
def acat : AV → Nat
  | .inl _ => 1
  | .inr q => bif Nat.beq q.1 1 then 2 else 1
theorem aR_cat {E : TEnv} {n : Nat} {ρ : Nat → Int} {a : AV} {v : KV} (h : aR E n ρ a v) : kcat v = acat a := by
  rcases a with f | q
  · rw [h.2]; rfl
  · obtain ⟨h0, h⟩ := h
    obtain ⟨q1, q2⟩ := q
    rcases vOK_tag h with e | e | e | e | e | e <;> have e : q1 = _ := e
    · exact absurd e h0
    · subst e; obtain ⟨x, rfl, -⟩ := (vOK1 rfl).mp h; rfl
    · subst e; obtain ⟨rfl, k⟩ := (vOK2 rfl).mp h; rfl
    · subst e; obtain ⟨a, rfl, k, _⟩ := (vOK3 rfl).mp h; rfl
    · subst e
      rcases (vOK4 rfl).mp h with rfl | ⟨a, rfl, k, _⟩ <;> rfl
    · subst e; rw [(vOK5 rfl).mp h]; rfl
/-! cells -/
def khd : KE → Nat × Nat × Nat
  | .inl (t, n, .inl _) => (0, t, n)
  | .inl (t, n, .inr (.inl _)) => (1, t, n)
  | .inl (t, n, .inr (.inr _)) => (2, t, n)
  | .inr (ci, fs) => (9, ci, fs.length)
def kev : KE → Nat → Option KV
  | .inl (_, n, .inl (l, d)), k => bif Nat.blt k n then some (kofI (kget l d k)) else none
  | .inl (_, n, .inr (.inl (l, d))), k => bif Nat.blt k n then some (.inl (.long (kget l d k))) else none
  | .inl (_, n, .inr (.inr l)), k => bif Nat.blt k n then some (kofR (kget l none k)) else none
  | .inr (_, fs), k => fs[k]?
def wval (w : KW) (a k : Nat) : Option KV := match kwg w a with
  | some e => kev e k
  | none => none
def kTW (E : TEnv) (w : KW) : Prop := kfr 0 w = E.1 ∧ ∀ a, a < E.1 → ∃ e, kwg w a = some e ∧ khd e = (E.2.2 (E.2.1 a)).1 ∧ ∀ k, k < (E.2.2 (E.2.1 a)).1.2.2 → ∃ v, kev e k = some v ∧ vOK E (ksg (E.2.2 (E.2.1 a)).2 k) v
abbrev MOD : Type := List (Nat × Nat × Nat)
def kmod (E : TEnv) (ms : MOD) (a k : Nat) : Prop := ∃ q ∈ ms, q.1 = E.2.1 a ∧ q.2.1 ≤ k ∧ k ≤ q.2.2
/-- all is as it was, but what is told -/
def kFr (E : TEnv) (ms : MOD) (w0 w : KW) : Prop := ∀ a k, a < E.1 → ¬ kmod E ms a k → wval w a k = wval w0 a k
theorem kFr.rf (E : TEnv) (ms : MOD) (w : KW) : kFr E ms w w := fun _ _ _ _ => rfl
theorem kFr.tr {E : TEnv} {ms : MOD} {w0 w1 w2 : KW} (h1 : kFr E ms w0 w1) (h2 : kFr E ms w1 w2) : kFr E ms w0 w2 := fun a k ha hk => (h2 a k ha hk).trans (h1 a k ha hk)
def kmsub (a b : MOD) : Bool := a.all (fun q => b.any (fun r => Nat.beq q.1 r.1 && (Nat.ble r.2.1 q.2.1 && Nat.ble q.2.2 r.2.2)))
theorem kmsub_ok {E : TEnv} {a b : MOD} (h : kmsub a b = true) {x k : Nat} (hm : kmod E a x k) : kmod E b x k := by
  obtain ⟨q, hq, h1, h2, h3⟩ := hm
  obtain ⟨r, hr, h4⟩ := List.any_eq_true.mp (List.all_eq_true.mp h q hq)
  have h4 := Bool.and_eq_true_iff.mp h4
  have h5 := Bool.and_eq_true_iff.mp h4.2
  have := Nat.ble_eq.mp h5.1
  have := Nat.ble_eq.mp h5.2
  exact ⟨r, hr, by rw [← kb_t h4.1]; exact h1, by omega, by omega⟩
theorem kFr.sub {E : TEnv} {a b : MOD} {w0 w1 : KW} (h : kmsub a b = true) (hf : kFr E a w0 w1) : kFr E b w0 w1 := fun x k hx hk => hf x k hx (fun q => hk (kmsub_ok h q))
/-! told rows: their records are of one of some kinds; a record under way is marked -/
/-- a kind of record: (offset, c0, ci, cv): 0 ≤ c0 + ci * i + cv * the value there -/
abbrev QA : Type := List (Nat × Int × Int × Int)
/-- label, base, stride, how many, kinds -/
abbrev QI : Type := Nat × Nat × Nat × Nat × List QA
/-- with the marks' labels -/
abbrev PHI : Type := List (Nat × QI)
def qAlt (w : KW) (a p : Nat) (i : Int) (al : QA) : Prop := ∀ z ∈ al, ∃ x : Int32, wval w a (p + z.1) = some (.inl (.int x)) ∧ 0 ≤ z.2.1 + z.2.2.1 * i + z.2.2.2 * x.toInt
def qRec (w : KW) (q : QI) (i : Nat) : Prop := ∃ al ∈ q.2.2.2.2, qAlt w q.1 (q.2.1 + q.2.2.1 * i) i al
def qI (ph : PHI) (ρ : Nat → Int) (tc : TC) (w : KW) : Prop := ∀ p ∈ ph, ∀ i : Nat, i < p.2.2.2.2.1 → (∃ e ∈ tc, e.1.1 = p.1 ∧ lev ρ e.1.2 = (i : Int)) ∨ qRec w p.2 i
/-- what is known of the places -/
def tcE (E : TEnv) (n : Nat) (ρ : Nat → Int) (tc : TC) (w : KW) : Prop := ∀ q ∈ tc, lwf n q.1.2 ∧ (2000000 ≤ q.1.1 ∨ (q.1.1 < E.1 ∧ 0 ≤ lev ρ q.1.2 ∧ ∃ v, wval w q.1.1 (lev ρ q.1.2).toNat = some v ∧ aR E n ρ q.2 v))
def tcR (E : TEnv) (ph : PHI) (n : Nat) (ρ : Nat → Int) (tc : TC) (w : KW) : Prop := tcE E n ρ tc w ∧ qI ph ρ tc w
theorem tcE_up {E : TEnv} {n m : Nat} {ρ ρ' : Nat → Int} (h : ∀ i, i < n → ρ' i = ρ i) (hm : n ≤ m) {tc : TC} {w : KW} (ha : tcE E n ρ tc w) : tcE E m ρ' tc w := fun q hq => by
  obtain ⟨h0, h1⟩ := ha q hq
  refine ⟨lwf_up h0 hm, ?_⟩
  rcases h1 with h1 | ⟨h1, h2, v, h3, h4⟩
  · exact Or.inl h1
  · refine Or.inr ⟨h1, ?_, v, ?_, aR_up h hm h4⟩
    · rw [lev_ag h h0]; exact h2
    · rw [lev_ag h h0]; exact h3
theorem qI_up {E : TEnv} {ph : PHI} {n : Nat} {ρ ρ' : Nat → Int} (h : ∀ i, i < n → ρ' i = ρ i) {tc : TC} {w : KW} (ht : tcE E n ρ tc w) (ha : qI ph ρ tc w) : qI ph ρ' tc w := fun p hp i hi => by
  rcases ha p hp i hi with ⟨e, h1, h2, h3⟩ | h1
  · exact Or.inl ⟨e, h1, h2, by rw [lev_ag h (ht e h1).1]; exact h3⟩
  · exact Or.inr h1
theorem tcR_up {E : TEnv} {ph : PHI} {n m : Nat} {ρ ρ' : Nat → Int} (h : ∀ i, i < n → ρ' i = ρ i) (hm : n ≤ m) {tc : TC} {w : KW} (ha : tcR E ph n ρ tc w) : tcR E ph m ρ' tc w := ⟨tcE_up h hm ha.1, qI_up h ha.1 ha.2⟩
/-! a place written -/
def kput1 : KE → Nat → KV → KE
  | .inl (t, n, .inl (l, d)), k, v => .inl (t, n, .inl (kset l k (ktoI v), d))
  | .inl (t, n, .inr (.inl (l, d))), k, v => .inl (t, n, .inr (.inl (kset l k (match v with
    | .inl (.long x) => x
    | _ => 0), d)))
  | .inl (t, n, .inr (.inr l)), k, v => .inl (t, n, .inr (.inr (kset l k (match v with
    | .inl (.ref a) => some a
    | _ => none))))
  | .inr (ci, fs), k, v => .inr (ci, fs.set k v)
/-- a value that a cell of this head can hold -/
def kcan (h : Nat) (v : KV) : Prop := match h with
  | 0 => ∃ x, v = .inl (.int x)
  | 1 => ∃ x, v = .inl (.long x)
  | 2 => v = .inl .null ∨ ∃ a, v = .inl (.ref a)
  | _ => True
theorem khd_put (e : KE) (k : Nat) (v : KV) : khd (kput1 e k v) = khd e := by
  rcases e with ⟨t, n, (⟨l, d⟩ | ⟨l, d⟩ | l)⟩ | ⟨ci, fs⟩ <;> try rfl
  show (9, ci, (fs.set k v).length) = (9, ci, fs.length)
  rw [List.length_set]
theorem kev_put {e : KE} {k : Nat} {v : KV} (hk : k < (khd e).2.2) (hv : kcan (khd e).1 v) (j : Nat) : kev (kput1 e k v) j = if j = k then some v else kev e j := by
  rcases e with ⟨t, n, (⟨l, d⟩ | ⟨l, d⟩ | l)⟩ | ⟨ci, fs⟩
  · obtain ⟨x, rfl⟩ := hv
    have hk : k < n := hk
    show (bif Nat.blt j n then some (kofI (kget (kset l k (.inl x)) d j)) else none) = if j = k then some (.inl (.int x)) else (bif Nat.blt j n then some (kofI (kget l d j)) else none)
    rw [kget_set]
    by_cases h : j = k
    · subst h
      rw [if_pos rfl, if_pos rfl, show Nat.blt j n = true from Nat.ble_eq.mpr hk]
      rfl
    · rw [if_neg h, if_neg h]
  · obtain ⟨x, rfl⟩ := hv
    have hk : k < n := hk
    show (bif Nat.blt j n then some (Sum.inl (.long (kget (kset l k x) d j)) : KV) else none) = if j = k then some (Sum.inl (.long x) : KV) else (bif Nat.blt j n then some (Sum.inl (.long (kget l d j)) : KV) else none)
    rw [kget_set]
    by_cases h : j = k
    · subst h
      rw [if_pos rfl, if_pos rfl, show Nat.blt j n = true from Nat.ble_eq.mpr hk]
      rfl
    · rw [if_neg h, if_neg h]
  · have hk : k < n := hk
    have hv : v = .inl .null ∨ ∃ a, v = .inl (.ref a) := hv
    have key : ∀ o : Option Nat, (bif Nat.blt j n then some (kofR (kget (kset l k o) none j)) else none) = if j = k then some (kofR o) else (bif Nat.blt j n then some (kofR (kget l none j)) else none) := fun o => by
      rw [kget_set]
      by_cases h : j = k
      · subst h
        rw [if_pos rfl, if_pos rfl, show Nat.blt j n = true from Nat.ble_eq.mpr hk]
        rfl
      · rw [if_neg h, if_neg h]
    rcases hv with rfl | ⟨a, rfl⟩
    · exact key none
    · exact key (some a)
  · have hk : k < fs.length := hk
    show (fs.set k v)[j]? = if j = k then some v else fs[j]?
    rw [List.getElem?_set]
    by_cases h : j = k
    · subst h
      rw [if_pos rfl, if_pos rfl, if_pos hk]
    · rw [if_neg (fun q => h q.symm), if_neg h]
theorem kwg_kws {w : KW} {a : Nat} {e e' : KE} (h : kwg w a = some e) (b : Nat) : kwg (kws w a e') b = if b = a then some e' else kwg w b := by
  unfold kwg at h
  split at h
  · rename_i ch hc
    have hl := (List.getElem?_eq_some_iff.mp hc).1
    have hl2 := (List.getElem?_eq_some_iff.mp h).1
    unfold kws kwg
    rw [hc]
    simp only
    rw [List.getElem?_set]
    by_cases h1 : a / 16 = b / 16
    · rw [if_pos h1, if_pos hl]
      simp only
      rw [List.getElem?_set]
      by_cases h2 : a % 16 = b % 16
      · rw [if_pos h2, if_pos hl2, if_pos (by omega)]
      · rw [if_neg h2, if_neg (by intro q; subst q; exact h2 rfl), ← h1, hc]
    · rw [if_neg h1, if_neg (by intro q; subst q; exact h1 rfl)]
  · cases h
theorem wval_put {w : KW} {a k : Nat} {e : KE} {v : KV} (h : kwg w a = some e) (hk : k < (khd e).2.2) (hv : kcan (khd e).1 v) (b j : Nat) : wval (kws w a (kput1 e k v)) b j = if b = a ∧ j = k then some v else wval w b j := by
  unfold wval
  rw [kwg_kws h]
  by_cases h1 : b = a
  · subst h1
    rw [if_pos rfl, h]
    simp only
    rw [kev_put hk hv]
    by_cases h2 : j = k
    · rw [if_pos h2, if_pos ⟨trivial, h2⟩]
    · rw [if_neg h2, if_neg (fun q => h2 q.2)]
  · rw [if_neg h1, if_neg (fun q => h1 q.1)]
theorem kTW_put {E : TEnv} {w : KW} {a k : Nat} {e : KE} {v : KV} (hw : kTW E w) (ha : a < E.1) (h : kwg w a = some e) (hk : k < (khd e).2.2) (hc : kcan (khd e).1 v) (hv : vOK E (ksg (E.2.2 (E.2.1 a)).2 k) v) : kTW E (kws w a (kput1 e k v)) := by
  refine ⟨by rw [kfr_set]; exact hw.1, fun b hb => ?_⟩
  rw [kwg_kws h]
  by_cases h1 : b = a
  · subst h1
    rw [if_pos rfl]
    obtain ⟨e0, h2, h3, h4⟩ := hw.2 b hb
    rw [h] at h2
    cases h2
    refine ⟨_, rfl, by rw [khd_put]; exact h3, fun j hj => ?_⟩
    rw [kev_put hk hc]
    by_cases h2 : j = k
    · subst h2
      rw [if_pos rfl]
      exact ⟨v, rfl, hv⟩
    · rw [if_neg h2]
      exact h4 j hj
  · rw [if_neg h1]
    exact hw.2 b hb
theorem kFr_put {E : TEnv} {ms : MOD} {w : KW} {a k : Nat} {e : KE} {v : KV} (h : kwg w a = some e) (hk : k < (khd e).2.2) (hc : kcan (khd e).1 v) (hm : kmod E ms a k) : kFr E ms w (kws w a (kput1 e k v)) := fun b j hb hn => by
  rw [wval_put h hk hc, if_neg]
  rintro ⟨rfl, rfl⟩
  exact hn hm
theorem wval_ty {E : TEnv} {w : KW} (hw : kTW E w) {a k : Nat} (ha : a < E.1) (hk : k < (E.2.2 (E.2.1 a)).1.2.2) : ∃ e v, kwg w a = some e ∧ khd e = (E.2.2 (E.2.1 a)).1 ∧ kev e k = some v ∧ wval w a k = some v ∧ vOK E (ksg (E.2.2 (E.2.1 a)).2 k) v := by
  obtain ⟨e, h1, h2, h3⟩ := hw.2 a ha
  obtain ⟨v, h4, h5⟩ := h3 k hk
  refine ⟨e, v, h1, h2, h4, ?_, h5⟩
  unfold wval
  rw [h1]
  exact h4
