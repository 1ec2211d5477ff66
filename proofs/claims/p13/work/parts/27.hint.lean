/-! Cases told apart: by a number, a label, a word, a record's kind. -/
/-- kind; where (0: a local, 1: a known place); numbers; labels; a told row's mark -/
abbrev AH : Type := Nat × (Nat × Nat × LF) × List Int × List Nat × Nat
def asrc (S : AS) (s : Nat × Nat × LF) : Option LF := match (bif Nat.beq s.1 0 then alook S.2.2.2.1 s.2.1 else atget S.2.2.2.2.2.1 s.2.1 s.2.2) with
  | some (.inl f) => some f
  | _ => none
def aset (S : AS) (s : Nat × Nat × LF) (a : AV) : AS := bif Nat.beq s.1 0 then (S.1, S.2.1, S.2.2.1, (s.2.1, a) :: S.2.2.2.1, S.2.2.2.2.1, S.2.2.2.2.2.1, S.2.2.2.2.2.2.1, S.2.2.2.2.2.2.2)
  else (S.1, S.2.1, S.2.2.1, S.2.2.2.1, S.2.2.2.2.1, ((s.2.1, s.2.2), a) :: S.2.2.2.2.2.1, S.2.2.2.2.2.2.1, S.2.2.2.2.2.2.2)
def aq (S : AS) (q : RG × List LF) : AS := (S.1, q.1, q.2, S.2.2.2.1, S.2.2.2.2.1, S.2.2.2.2.2.1, S.2.2.2.2.2.2.1, S.2.2.2.2.2.2.2)
/-- a form of one number only: the number -/
def acsub (S : AS) (s : Nat × Nat × LF) (f : LF) : AS := match f.2, lub S.2.1 f, lub S.2.1 (lfneg f) with
  | _ :: _, some b, some a => bif iz (a + b) && f.2.all (fun t => iz (t.2 - 1) || iz (t.2 + 1)) then aset S s (.inl (lfc b)) else S
  | _, _, _ => S
def asplit (three : Bool) (s : Nat × Nat × LF) : List Int → AS → List AS
  | [], S => (match asrc S s with
    | some f => [acsub S s f]
    | none => [S])
  | c :: l, S => (match asrc S s with
    | some f => (match aas 3 (lfadd f (lfc (- c))) S.2.1 S.2.2.1 with
        | some q => [acsub (aq S q) s f]
        | none => []) ++ ((bif three then (match aas 0 (lfadd f (lfc (- c))) S.2.1 S.2.2.1 with
        | some q => [aset (aq S q) s (.inl (lfc c))]
        | none => []) else []) ++ (match aas (bif three then 4 else 2) (lfadd f (lfc (- c))) S.2.1 S.2.2.1 with
        | some q => asplit three s l (aq S q)
        | none => []))
    | none => [S])
def atouches (E : TEnv) (a : Nat) : List LF → AS → Option AS
  | [], S => some S
  | f :: l, S => bif lwfb S.1 f then (match atouch E a f S with
    | some S' => atouches E a l S'
    | none => none) else none
/-- two facts that can't both hold -/
def aconf (S : AS) : Bool := S.2.2.1.any (fun f => S.2.2.1.any (fun g => match lub S.2.1 (lfadd f g) with
  | some b => !ile 0 b
  | none => false))
/-- a record's kind told -/
def aalt (q : QI) (r : LF) : QA → AS → Option AS
  | [], S => some S
  | z :: l, S => match atget S.2.2.2.2.2.1 q.1 (lfadd (lfmul (q.2.2.1 : Int) r) (lfc ((q.2.1 + z.1 : Nat) : Int))) with
    | some (.inl g) => bif l32 S.2.1 g then (match lasm S.2.1 S.2.2.1 (lfadd (lfadd (lfc z.2.1) (lfmul z.2.2.1 r)) (lfmul z.2.2.2 g)) with
      | some x => aalt q r l (aq S x)
      | none => none) else aalt q r l S
    | _ => aalt q r l S
def aopen (E : TEnv) (p : Nat × QI) (offs : List Nat) (r : LF) (S : AS) : Option (List AS) := bif lwfb S.1 r && (S.2.2.2.2.2.1.all (fun e => !Nat.beq e.1.1 p.1) && Nat.blt p.2.1 E.1) then (match atouches E p.2.1 (offs.map (fun o => lfadd (lfmul (p.2.2.2.1 : Int) r) (lfc ((p.2.2.1 + o : Nat) : Int)))) S with
  | some S' => some (p.2.2.2.2.2.filterMap (fun al => aalt p.2 r al S'))
  | none => none) else none
def ahint (E : TEnv) (ph : PHI) (h : AH) (S : AS) : Option (List AS) := match h.1 with
  | 0 => bif Nat.beq h.2.1.1 0 then some (asplit false h.2.1 h.2.2.1 S) else bif Nat.blt h.2.1.2.1 E.1 then (match atouches E h.2.1.2.1 [h.2.1.2.2] S with
    | some S' => some (asplit false h.2.1 h.2.2.1 S')
    | none => none) else none
  | 1 => bif Nat.beq h.2.1.1 0 then some (asplit true h.2.1 h.2.2.1 S) else bif Nat.blt h.2.1.2.1 E.1 then (match atouches E h.2.1.2.1 [h.2.1.2.2] S with
    | some S' => some (asplit true h.2.1 h.2.2.1 S')
    | none => none) else none
  | 2 => (match alook S.2.2.2.1 h.2.1.2.1 with
    | some (.inr (3, t)) => bif Nat.blt t 60 && (List.range E.1).all (fun a => !Nat.beq (E.2.1 a) t || h.2.2.2.1.any (fun l => Nat.beq l a)) then
        some (h.2.2.2.1.map (fun l => aset S (0, h.2.1.2.1, lfc 0) (.inr (2, l)))) else none
    | _ => some [S])
  | 3 => (match atouches E h.2.1.2.1 [h.2.1.2.2] S with
    | some S' => (match atget S'.2.2.2.2.2.1 h.2.1.2.1 h.2.1.2.2 with
      | some (.inr (1, _)) => bif Nat.blt h.2.1.2.1 E.1 && kLS.all (fun z => h.2.2.2.1.any (fun c => decide (z = Int64.ofNat c))) then
          some (aset S' (1, h.2.1.2) (.inr (1, 1)) :: h.2.2.2.1.map (fun c => aset S' (1, h.2.1.2) (.inr (1, lenc c)))) else none
      | _ => none)
    | none => none)
  | 4 => (match h.2.2.1, asrc S h.2.1, ph.find? (fun p => Nat.beq p.1 h.2.2.2.2) with
    | c :: m :: cond, some f, some p => (match (match cond with
        | [j, v] => (match alook S.2.2.2.1 j.toNat with
          | some (.inl g) => lfeq g (lfc v)
          | _ => false)
        | _ => true), sdiv f c m with
      | true, some r => bif lle S.2.1 S.2.2.1 (lfneg r) && lle S.2.1 S.2.2.1 (lfadd r (lfc (1 - (p.2.2.2.2.1 : Int)))) then aopen E p h.2.2.2.1 r S else some [S]
      | _, _ => some [S])
    | _, _, _ => some [S])
  | 5 => bif aconf S then some [] else some [S]
  | _ => none
section HINT
variable {E : TEnv} {ph : PHI} {k : KF}
theorem aUp.rf {ρ : Nat → Int} {S : AS} (h : aGS E ph ρ S k) : aUp E ph ρ S.1 S k := ⟨ρ, fun _ _ => rfl, Nat.le_refl _, h⟩
theorem aUp.st {ρ : Nat → Int} {S S' : AS} (hn : S'.1 = S.1) (h : aGS E ph ρ S' k) : aUp E ph ρ S.1 S' k := ⟨ρ, fun _ _ => rfl, by rw [hn]; exact Nat.le_refl _, h⟩
theorem aGS_q {ρ : Nat → Int} {S : AS} {q : RG × List LF} (h : aGS E ph ρ S k) (hq : aB S.1 q.1 q.2 S.2.2.2.2.2.2.1 S.2.2.2.2.2.2.2 ρ k.2.2.2.2.1 k.2.2.2.2.2) : aGS E ph ρ (aq S q) k := ⟨hq, h.2⟩
def hsk (E : TEnv) (n : Nat) (s : Nat × Nat × LF) : Prop := s.1 = 0 ∨ (s.2.1 < E.1 ∧ lwf n s.2.2)
theorem asrc_ok (hE : kEok E) {ρ : Nat → Int} {S : AS} {s : Nat × Nat × LF} {f : LF} (hk : hsk E S.1 s) (h : aGS E ph ρ S k) (hs : asrc S s = some f) : lwf S.1 f ∧ ∀ (q : RG × List LF) (a : AV), aB S.1 q.1 q.2 S.2.2.2.2.2.2.1 S.2.2.2.2.2.2.2 ρ k.2.2.2.2.1 k.2.2.2.2.2 → aR E S.1 ρ a (.inl (.int (Int32.ofInt (lev ρ f)))) → aGS E ph ρ (aset (aq S q) s a) k := by
  unfold asrc at hs
  cases e : Nat.beq s.1 0 with
  | true =>
    rw [e] at hs
    simp only [cond_true] at hs
    split at hs
    · rename_i g hg
      cases hs
      obtain ⟨v, h1, h2⟩ := h.2.1.1 _ _ hg
      rw [h2.2] at h1
      refine ⟨h2.1, fun q a hq ha => ?_⟩
      unfold aset
      rw [e]
      refine ⟨hq, ⟨fun j b hj => ?_, h.2.1.2⟩, h.2.2⟩
      have hj : (bif Nat.beq s.2.1 j then some a else alook S.2.2.2.1 j) = some b := hj
      cases e2 : Nat.beq s.2.1 j with
      | true =>
        rw [e2] at hj
        cases hj
        rw [← kb_t e2]
        exact ⟨_, h1, ha⟩
      | false =>
        rw [e2] at hj
        exact h.2.1.1 j b hj
    · cases hs
  | false =>
    rw [e] at hs
    simp only [cond_false] at hs
    split at hs
    · rename_i g hg
      cases hs
      obtain ⟨q1, q2⟩ : s.2.1 < E.1 ∧ lwf S.1 s.2.2 := by
        rcases hk with hk | hk
        · exact absurd hk (kb_f e)
        · exact hk
      obtain ⟨k', m1, m2⟩ := atget_ok _ hg
      obtain ⟨m3, m4⟩ := h.2.2.2.1 _ m1
      have ke := lfeq_ok m2 ρ
      rcases m4 with m4 | ⟨-, m6, v, m7, m8⟩
      · have m4 : 2000000 ≤ s.2.1 := m4
        have := hE.1
        omega
      · have m6 : 0 ≤ lev ρ k' := m6
        have m7 : wval k.2.2.2.1 s.2.1 (lev ρ k').toNat = some v := m7
        rw [ke] at m6 m7
        refine ⟨m8.1, fun q a hq ha => ?_⟩
        unfold aset
        rw [e]
        have m9 := m8.2
        subst m9
        exact ⟨hq, h.2.1, h.2.2.1, tcR_cons h.2.2.2 q1 q2 m6 m7 ha⟩
    · cases hs
theorem acsub_ok (hE : kEok E) {ρ : Nat → Int} {S : AS} {s : Nat × Nat × LF} {f : LF} (hk : hsk E S.1 s) (h : aGS E ph ρ S k) (hs : asrc S s = some f) {q : RG × List LF} (hq : aB S.1 q.1 q.2 S.2.2.2.2.2.2.1 S.2.2.2.2.2.2.2 ρ k.2.2.2.2.1 k.2.2.2.2.2) : aGS E ph ρ (acsub (aq S q) s f) k ∧ (acsub (aq S q) s f).1 = S.1 := by
  obtain ⟨h1, h2⟩ := asrc_ok hE hk h hs
  unfold acsub
  split
  · rename_i b a _ hb ha
    cases e : iz (a + b) && f.2.all (fun t => iz (t.2 - 1) || iz (t.2 + 1)) with
    | false => exact ⟨⟨hq, h.2⟩, rfl⟩
    | true =>
      have e := Bool.and_eq_true_iff.mp e
      have e1 := iz_ok e.1
      have l1 := lub_ok hq.2.1 hb
      have l2 := lub_ok hq.2.1 ha
      rw [lev_neg] at l2
      refine ⟨h2 q _ hq ⟨lwf_c _ _, ?_⟩, ?_⟩
      · rw [lev_c, show lev ρ f = b by omega]
      · simp only [cond_true]
        unfold aset
        cases Nat.beq s.1 0 <;> rfl
  · exact ⟨⟨hq, h.2⟩, rfl⟩
theorem aset_n (S : AS) (s : Nat × Nat × LF) (a : AV) : (aset S s a).1 = S.1 := by
  unfold aset
  cases Nat.beq s.1 0 <;> rfl
theorem asrc_q (S : AS) (s : Nat × Nat × LF) (q : RG × List LF) : asrc (aq S q) s = asrc S s := rfl
theorem asplit_ok (hE : kEok E) {three : Bool} {s : Nat × Nat × LF} {ρ : Nat → Int} : ∀ (l : List Int) (S : AS), hsk E S.1 s → aGS E ph ρ S k → ∃ S' ∈ asplit three s l S, aGS E ph ρ S' k ∧ S'.1 = S.1 := by
  intro l
  induction l with
  | nil =>
    intro S hk h
    unfold asplit
    split
    · rename_i f hf
      exact ⟨_, List.mem_cons_self, acsub_ok (q := (S.2.1, S.2.2.1)) hE hk h hf h.1⟩
    · exact ⟨_, List.mem_cons_self, h, rfl⟩
  | cons c l ih =>
    intro S hk h
    unfold asplit
    split
    · rename_i f hf
      obtain ⟨h1, h2⟩ := asrc_ok hE hk h hf
      have hd : lwf S.1 (lfadd f (lfc (- c))) := lwf_add h1 (lwf_c _ _)
      have hv : lev ρ (lfadd f (lfc (- c))) = lev ρ f - c := by rw [lev_add, lev_c]; omega
      by_cases c1 : lev ρ f < c
      · obtain ⟨q, q1, q2⟩ := aas_ok h.1 hd (k := 3) (by show lev ρ _ < 0; rw [hv]; omega)
        rw [q1]
        exact ⟨_, List.mem_append_left _ List.mem_cons_self, acsub_ok hE hk h hf q2⟩
      · cases three with
        | true =>
          by_cases c2 : lev ρ f = c
          · obtain ⟨q, q1, q2⟩ := aas_ok h.1 hd (k := 0) (by show lev ρ _ = 0; rw [hv]; omega)
            refine ⟨aset (aq S q) s (.inl (lfc c)), List.mem_append_right _ (List.mem_append_left _ ?_), h2 q _ q2 ⟨lwf_c _ _, by rw [lev_c, c2]⟩, aset_n _ _ _⟩
            simp only [cond_true]
            rw [q1]
            exact List.mem_cons_self
          · obtain ⟨q, q1, q2⟩ := aas_ok h.1 hd (k := 4) (by show 0 < lev ρ _; rw [hv]; omega)
            obtain ⟨S', s1, s2, s3⟩ := ih (aq S q) hk (aGS_q h q2)
            refine ⟨S', List.mem_append_right _ (List.mem_append_right _ ?_), s2, s3⟩
            simp only [cond_true]
            rw [q1]
            exact s1
        | false =>
          obtain ⟨q, q1, q2⟩ := aas_ok h.1 hd (k := 2) (by show 0 ≤ lev ρ _; rw [hv]; omega)
          obtain ⟨S', s1, s2, s3⟩ := ih (aq S q) hk (aGS_q h q2)
          refine ⟨S', List.mem_append_right _ (List.mem_append_right _ ?_), s2, s3⟩
          simp only [cond_false]
          rw [q1]
          exact s1
    · exact ⟨_, List.mem_cons_self, h, rfl⟩
theorem atouches_ok (hT : kTW E k.2.2.2.1) {a : Nat} : ∀ (l : List LF) (S S' : AS) (ρ : Nat → Int), aGS E ph ρ S k → atouches E a l S = some S' → aUp E ph ρ S.1 S' k ∧ S'.2.2.2.1 = S.2.2.2.1 ∧ S'.2.2.2.2.1 = S.2.2.2.2.1 ∧ ∀ f ∈ l, lwf S'.1 f := by
  intro l
  induction l with
  | nil =>
    intro S S' ρ h hs
    cases hs
    exact ⟨aUp.rf h, rfl, rfl, fun f hf => by cases hf⟩
  | cons f l ih =>
    intro S S' ρ h hs
    unfold atouches at hs
    obtain ⟨hw, hs⟩ := kcond_inv hs
    have hw := lwfb_ok hw
    split at hs
    · rename_i S1 h1
      obtain ⟨⟨ρ1, a1, a2, a3⟩, a4, a5⟩ := atouch_ok hT h hw h1
      obtain ⟨⟨ρ2, b1, b2, b3⟩, b4, b5, b6⟩ := ih S1 S' ρ1 a3 hs
      refine ⟨⟨ρ2, fun i hi => by rw [b1 i (by omega), a1 i hi], Nat.le_trans a2 b2, b3⟩, b4.trans a4, b5.trans a5, fun g hg => ?_⟩
      cases hg with
      | head => exact lwf_up hw (Nat.le_trans a2 b2)
      | tail _ hg => exact b6 g hg
    · cases hs
theorem aalt_ok (hE : kEok E) {q : QI} (hq : q.1 < E.1) {r : LF} {ρ : Nat → Int} {i : Nat} (hi : (i : Int) = lev ρ r) : ∀ (l : QA) (S : AS), lwf S.1 r → aGS E ph ρ S k → qAlt k.2.2.2.1 q.1 (q.2.1 + q.2.2.1 * i) i l → ∃ S', aalt q r l S = some S' ∧ aGS E ph ρ S' k ∧ S'.1 = S.1 := by
  intro l
  induction l with
  | nil => intro S _ h _; exact ⟨S, rfl, h, rfl⟩
  | cons z l ih =>
    intro S hr h ha
    have hl : qAlt k.2.2.2.1 q.1 (q.2.1 + q.2.2.1 * i) i l := fun z hz => ha z (List.mem_cons_of_mem _ hz)
    unfold aalt
    split
    · rename_i g hg
      cases hb : l32 S.2.1 g with
      | false => exact ih S hr h hl
      | true =>
        obtain ⟨x, x1, x2⟩ := tcE_get hE hq h.2.2.2.1 hg
        obtain ⟨y, y1, y2⟩ := ha z List.mem_cons_self
        have b := l32_ok h.1.2.1 hb
        have e1 : (lev ρ (lfadd (lfmul (q.2.2.1 : Int) r) (lfc ((q.2.1 + z.1 : Nat) : Int)))).toNat = q.2.1 + q.2.2.1 * i + z.1 := by
          rw [lev_add, lev_mul, lev_c, ← hi, Int.natCast_add, ← Int.natCast_mul]
          omega
        rw [e1, y1] at x1
        have e2 : (.inl (.int y) : KV) = x := Option.some.inj x1
        rw [x2.2] at e2
        have e3 : y = Int32.ofInt (lev ρ g) := by injection e2 with e2; injection e2
        rw [e3, i32_of b.1 b.2] at y2
        have hw : lwf S.1 (lfadd (lfadd (lfc z.2.1) (lfmul z.2.2.1 r)) (lfmul z.2.2.2 g)) := lwf_add (lwf_add (lwf_c _ _) (lwf_mul hr)) (lwf_mul x2.1)
        obtain ⟨p, p1, p2, p3⟩ := lasm_ok h.1.2.1 h.1.2.2.1 hw (by rw [lev_add, lev_add, lev_c, lev_mul, lev_mul, ← hi]; exact y2)
        simp only [cond_true]
        rw [p1]
        exact ih (aq S p) hr (aGS_q h ⟨lasm_k h.1.1 p1, p2, p3, h.1.2.2.2⟩) hl
    · exact ih S hr h hl
theorem aconf_no {ρ : Nat → Int} {S : AS} (hG : aGS E ph ρ S k) : aconf S = false := by
  cases h : aconf S with
  | false => rfl
  | true =>
    exfalso
    unfold aconf at h
    obtain ⟨f, hf, h⟩ := List.any_eq_true.mp h
    obtain ⟨g, hg, h⟩ := List.any_eq_true.mp h
    split at h
    · rename_i b hb
      have h1 := lub_ok hG.1.2.1 hb
      rw [lev_add] at h1
      have h2 := (hG.1.2.2.1 f hf).2
      have h3 := (hG.1.2.2.1 g hg).2
      cases q : ile 0 b with
      | true => rw [q] at h; cases h
      | false =>
        have h4 := ile_no q
        omega
    · cases h
theorem ahint_ok (hE : kEok E) (hT : kTW E k.2.2.2.1) {h : AH} {S : AS} {L : List AS} {ρ : Nat → Int} (hG : aGS E ph ρ S k) (hh : ahint E ph h S = some L) : ∃ S' ∈ L, aUp E ph ρ S.1 S' k := by
  have sp : ∀ three : Bool, (bif Nat.beq h.2.1.1 0 then some (asplit three h.2.1 h.2.2.1 S) else bif Nat.blt h.2.1.2.1 E.1 then (match atouches E h.2.1.2.1 [h.2.1.2.2] S with
      | some S' => some (asplit three h.2.1 h.2.2.1 S')
      | none => none) else none) = some L → ∃ S' ∈ L, aUp E ph ρ S.1 S' k := fun three hh => by
    cases e : Nat.beq h.2.1.1 0 with
    | true =>
      rw [e] at hh
      cases hh
      obtain ⟨S', s1, s2, s3⟩ := asplit_ok (three := three) hE h.2.2.1 S (Or.inl (kb_t e)) hG
      exact ⟨S', s1, aUp.st s3 s2⟩
    | false =>
      rw [e] at hh
      simp only [cond_false] at hh
      obtain ⟨hl, hh⟩ := kcond_inv hh
      split at hh
      · rename_i S1 h1
        cases hh
        obtain ⟨⟨ρ1, a1, a2, a3⟩, -, -, a6⟩ := atouches_ok hT _ S S1 ρ hG h1
        obtain ⟨S', s1, s2, s3⟩ := asplit_ok (three := three) hE h.2.2.1 S1 (Or.inr ⟨Nat.ble_eq.mp hl, a6 _ List.mem_cons_self⟩) a3
        exact ⟨S', s1, ρ1, a1, by rw [s3]; exact a2, s2⟩
      · cases hh
  unfold ahint at hh
  split at hh
  · exact sp false hh
  · exact sp true hh
  · split at hh
    · rename_i t ht
      obtain ⟨hb, hh⟩ := kcond_inv hh
      cases hh
      have hb := Bool.and_eq_true_iff.mp hb
      obtain ⟨v, v1, v2⟩ := hG.2.1.1 _ _ ht
      obtain ⟨a, rfl, g1, g2⟩ := (vOK3 (t := (3, (t : Int), 0)) rfl).mp v2.2
      have g2 : E.2.1 a = t := g2
      have ha : a < E.1 := by
        refine Nat.lt_of_not_le fun z => ?_
        have hb : t < 60 := Nat.ble_eq.mp hb.1
        rcases hE.2.2 a z with ⟨h3, -⟩ | h3 <;> omega
      have h3 := List.all_eq_true.mp hb.2 a (List.mem_range.mpr ha)
      rw [kb_r g2] at h3
      obtain ⟨l, l1, l2⟩ := List.any_eq_true.mp (show h.2.2.2.1.any (fun l => Nat.beq l a) = true from h3)
      have l2 := kb_t l2
      subst l2
      refine ⟨_, List.mem_map.mpr ⟨l, l1, rfl⟩, aUp.st rfl ⟨hG.1, ⟨fun j b hj => ?_, hG.2.1.2⟩, hG.2.2⟩⟩
      have hj : (bif Nat.beq h.2.1.2.1 j then some (.inr (2, l)) else alook S.2.2.2.1 j) = some b := hj
      cases e2 : Nat.beq h.2.1.2.1 j with
      | true =>
        rw [e2] at hj
        cases hj
        rw [← kb_t e2]
        exact ⟨_, v1, fun q => (nomatch q), (vOK2 (t := (2, (l : Int), 0)) rfl).mpr ⟨rfl, g1⟩⟩
      | false =>
        rw [e2] at hj
        exact hG.2.1.1 j b hj
    · cases hh
      exact ⟨S, List.mem_cons_self, aUp.rf hG⟩
  · split at hh
    · rename_i S1 h1
      split at hh
      · rename_i m hm
        obtain ⟨hb, hh⟩ := kcond_inv hh
        cases hh
        have hb := Bool.and_eq_true_iff.mp hb
        have ha : h.2.1.2.1 < E.1 := Nat.ble_eq.mp hb.1
        obtain ⟨⟨ρ1, a1, a2, a3⟩, -, -, a6⟩ := atouches_ok hT _ S S1 ρ hG h1
        obtain ⟨k', m1, m2⟩ := atget_ok _ hm
        obtain ⟨m3, m4⟩ := a3.2.2.2.1 _ m1
        have ke := lfeq_ok m2 ρ1
        rcases m4 with m4 | ⟨-, m6, v, m7, m8⟩
        · have m4 : 2000000 ≤ h.2.1.2.1 := m4
          have := hE.1
          omega
        · have m6 : 0 ≤ lev ρ1 k' := m6
          have m7 : wval k.2.2.2.1 h.2.1.2.1 (lev ρ1 k').toNat = some v := m7
          rw [ke] at m6 m7
          obtain ⟨x, rfl, -⟩ := aR1_long m8
          have fin : ∀ c, lOK c x → aGS E ph ρ1 (aset S1 (1, h.2.1.2) (.inr (1, c))) k := fun c hc => ⟨a3.1, a3.2.1, a3.2.2.1, tcR_cons a3.2.2.2 ha (a6 _ List.mem_cons_self) m6 m7 (aR_longE c hc)⟩
          by_cases hx : x ∈ kLS
          · obtain ⟨c, c1, c2⟩ := List.any_eq_true.mp (List.all_eq_true.mp hb.2 x hx)
            have c2 := of_decide_eq_true c2
            exact ⟨_, List.mem_cons_of_mem _ (List.mem_map.mpr ⟨c, c1, rfl⟩), ρ1, a1, a2, fin (lenc c) (by rw [c2]; exact lenc_ok c)⟩
          · exact ⟨_, List.mem_cons_self, ρ1, a1, a2, fin 1 hx⟩
      · cases hh
    · cases hh
  · split at hh
    · rename_i c m cond f p _ hf hfind
      split at hh
      · rename_i r _ hr
        cases e : lle S.2.1 S.2.2.1 (lfneg r) && lle S.2.1 S.2.2.1 (lfadd r (lfc (1 - (p.2.2.2.2.1 : Int)))) with
        | false =>
          rw [e] at hh
          cases hh
          exact ⟨S, List.mem_cons_self, aUp.rf hG⟩
        | true =>
          rw [e] at hh
          simp only [cond_true] at hh
          simp only [Bool.and_eq_true] at e
          obtain ⟨e1, e2⟩ := e
          have hp : p ∈ ph := List.mem_of_find?_eq_some hfind
          have l1 := lle_ok hG.1.2.1 hG.1.2.2.1 e1
          have l2 := lle_ok hG.1.2.1 hG.1.2.2.1 e2
          rw [lev_neg] at l1
          rw [lev_add, lev_c] at l2
          unfold aopen at hh
          obtain ⟨hb, hh⟩ := kcond_inv hh
          simp only [Bool.and_eq_true] at hb
          obtain ⟨b1, b2, b3⟩ := hb
          split at hh
          · rename_i S1 h1
            cases hh
            obtain ⟨⟨ρ1, a1, a2, a3⟩, -, -, -⟩ := atouches_ok hT _ S S1 ρ hG h1
            have hrw := lwfb_ok b1
            have hir : ((lev ρ r).toNat : Int) = lev ρ1 r := by rw [lev_ag a1 hrw]; omega
            rcases hG.2.2.2.2 p hp (lev ρ r).toNat (by omega) with ⟨e, q1, q2, -⟩ | ⟨al, q1, q2⟩
            · have := List.all_eq_true.mp b2 e q1
              rw [kb_r q2] at this
              cases this
            · obtain ⟨S', s1, s2, s3⟩ := aalt_ok hE (Nat.ble_eq.mp b3) hir al S1 (lwf_up hrw a2) a3 q2
              exact ⟨S', List.mem_filterMap.mpr ⟨al, q1, s1⟩, ρ1, a1, by rw [s3]; exact a2, s2⟩
          · cases hh
      · cases hh
        exact ⟨S, List.mem_cons_self, aUp.rf hG⟩
    · cases hh
      exact ⟨S, List.mem_cons_self, aUp.rf hG⟩
  · rw [aconf_no hG] at hh
    cases hh
    exact ⟨S, List.mem_cons_self, aUp.rf hG⟩
  · cases hh
end HINT
