/-! Linear forms over numbered unknowns, their ranges, facts about them. -/
abbrev LF : Type := Int × List (Nat × Int)
abbrev RG : Type := List (Nat × (Int × Int))
def lsum (ρ : Nat → Int) : List (Nat × Int) → Int
  | [] => 0
  | t :: l => t.2 * ρ t.1 + lsum ρ l
def lev (ρ : Nat → Int) (f : LF) : Int := f.1 + lsum ρ f.2
def iz (x : Int) : Bool := match x with
  | .ofNat n => Nat.beq n 0
  | .negSucc _ => false
theorem iz_ok {x : Int} (h : iz x = true) : x = 0 := by
  unfold iz at h
  split at h
  · rename_i n
    rw [kb_t h]
    rfl
  · cases h
def lput (i : Nat) (c : Int) : List (Nat × Int) → List (Nat × Int)
  | [] => [(i, c)]
  | t :: l => bif Nat.beq t.1 i then (bif iz (t.2 + c) then l else (i, t.2 + c) :: l) else t :: lput i c l
theorem lput_ev (ρ : Nat → Int) (i : Nat) (c : Int) (l : List (Nat × Int)) : lsum ρ (lput i c l) = c * ρ i + lsum ρ l := by
  induction l with
  | nil => rfl
  | cons t l ih =>
    unfold lput
    cases h : Nat.beq t.1 i with
    | true =>
      have e := kb_t h
      cases h2 : iz (t.2 + c) with
      | true =>
        have e2 := iz_ok h2
        show lsum ρ l = c * ρ i + (t.2 * ρ t.1 + lsum ρ l)
        have e3 : t.2 = - c := by omega
        rw [e, e3, Int.neg_mul]
        omega
      | false =>
        show (t.2 + c) * ρ i + lsum ρ l = c * ρ i + (t.2 * ρ t.1 + lsum ρ l)
        rw [e, Int.add_mul]
        omega
    | false =>
      show t.2 * ρ t.1 + lsum ρ (lput i c l) = c * ρ i + (t.2 * ρ t.1 + lsum ρ l)
      rw [ih]
      omega
def lputs : List (Nat × Int) → List (Nat × Int) → List (Nat × Int)
  | [], l => l
  | t :: r, l => lputs r (lput t.1 t.2 l)
theorem lputs_ev (ρ : Nat → Int) : ∀ (r l : List (Nat × Int)), lsum ρ (lputs r l) = lsum ρ r + lsum ρ l := by
  intro r
  induction r with
  | nil => intro l; show lsum ρ l = 0 + lsum ρ l; omega
  | cons t r ih =>
    intro l
    show lsum ρ (lputs r (lput t.1 t.2 l)) = t.2 * ρ t.1 + lsum ρ r + lsum ρ l
    rw [ih, lput_ev]
    omega
def lfadd (f g : LF) : LF := (f.1 + g.1, lputs g.2 f.2)
def lmul (c : Int) : List (Nat × Int) → List (Nat × Int)
  | [] => []
  | t :: l => (t.1, c * t.2) :: lmul c l
def lfmul (c : Int) (f : LF) : LF := bif iz c then (0, []) else (c * f.1, lmul c f.2)
theorem lmul_ev (ρ : Nat → Int) (c : Int) (l : List (Nat × Int)) : lsum ρ (lmul c l) = c * lsum ρ l := by
  induction l with
  | nil => show (0 : Int) = c * 0; omega
  | cons t l ih =>
    show c * t.2 * ρ t.1 + lsum ρ (lmul c l) = c * (t.2 * ρ t.1 + lsum ρ l)
    rw [ih, Int.mul_add, Int.mul_assoc]
theorem lev_add (ρ : Nat → Int) (f g : LF) : lev ρ (lfadd f g) = lev ρ f + lev ρ g := by
  show f.1 + g.1 + lsum ρ (lputs g.2 f.2) = f.1 + lsum ρ f.2 + (g.1 + lsum ρ g.2)
  rw [lputs_ev]
  omega
theorem lev_mul (ρ : Nat → Int) (c : Int) (f : LF) : lev ρ (lfmul c f) = c * lev ρ f := by
  unfold lfmul
  cases h : iz c with
  | true =>
    rw [iz_ok h]
    show (0 : Int) + 0 = 0 * _
    omega
  | false =>
    show c * f.1 + lsum ρ (lmul c f.2) = c * (f.1 + lsum ρ f.2)
    rw [lmul_ev, Int.mul_add]
def lfneg (f : LF) : LF := lfmul (-1) f
theorem lev_neg (ρ : Nat → Int) (f : LF) : lev ρ (lfneg f) = - lev ρ f := by
  unfold lfneg
  rw [lev_mul]
  omega
def lfsub (f g : LF) : LF := lfadd f (lfneg g)
theorem lev_sub (ρ : Nat → Int) (f g : LF) : lev ρ (lfsub f g) = lev ρ f - lev ρ g := by
  unfold lfsub
  rw [lev_add, lev_neg]
  omega
def lfc (c : Int) : LF := (c, [])
theorem lev_c (ρ : Nat → Int) (c : Int) : lev ρ (lfc c) = c := by
  show c + 0 = c
  omega
def lfv (i : Nat) : LF := (0, [(i, 1)])
theorem lev_v (ρ : Nat → Int) (i : Nat) : lev ρ (lfv i) = ρ i := by
  show 0 + (1 * ρ i + 0) = ρ i
  omega
/-! which unknowns a form has -/
def lwl (n : Nat) (l : List (Nat × Int)) : Prop := ∀ t ∈ l, t.1 < n
def lwf (n : Nat) (f : LF) : Prop := lwl n f.2
theorem lwl_put {n i : Nat} {c : Int} (hi : i < n) {l : List (Nat × Int)} (h : lwl n l) : lwl n (lput i c l) := by
  induction l with
  | nil =>
    intro t ht
    cases ht with
    | head => exact hi
    | tail _ q => cases q
  | cons t l ih =>
    have hl : lwl n l := fun x hx => h x (List.mem_cons_of_mem _ hx)
    unfold lput
    cases Nat.beq t.1 i with
    | true =>
      cases iz (t.2 + c) with
      | true => exact hl
      | false =>
        intro x hx
        cases hx with
        | head => exact hi
        | tail _ q => exact hl x q
    | false =>
      intro x hx
      cases hx with
      | head => exact h _ List.mem_cons_self
      | tail _ q => exact ih hl x q
theorem lwl_puts {n : Nat} : ∀ (r l : List (Nat × Int)), lwl n r → lwl n l → lwl n (lputs r l) := by
  intro r
  induction r with
  | nil => intro l _ h; exact h
  | cons t r ih =>
    intro l hr hl
    exact ih _ (fun x hx => hr x (List.mem_cons_of_mem _ hx)) (lwl_put (hr t List.mem_cons_self) hl)
theorem lwf_add {n : Nat} {f g : LF} (hf : lwf n f) (hg : lwf n g) : lwf n (lfadd f g) := lwl_puts _ _ hg hf
theorem lwl_mul {n : Nat} {c : Int} {l : List (Nat × Int)} (h : lwl n l) : lwl n (lmul c l) := by
  induction l with
  | nil => intro t ht; cases ht
  | cons t l ih =>
    intro x hx
    cases hx with
    | head => exact h t List.mem_cons_self
    | tail _ q => exact ih (fun y hy => h y (List.mem_cons_of_mem _ hy)) x q
theorem lwf_mul {n : Nat} {c : Int} {f : LF} (hf : lwf n f) : lwf n (lfmul c f) := by
  unfold lfmul
  cases iz c with
  | true => intro t ht; cases ht
  | false => exact lwl_mul hf
theorem lwf_neg {n : Nat} {f : LF} (hf : lwf n f) : lwf n (lfneg f) := lwf_mul hf
theorem lwf_sub {n : Nat} {f g : LF} (hf : lwf n f) (hg : lwf n g) : lwf n (lfsub f g) := lwf_add hf (lwf_neg hg)
theorem lwf_c (n : Nat) (c : Int) : lwf n (lfc c) := fun t ht => by cases ht
theorem lwf_v {n i : Nat} (h : i < n) : lwf n (lfv i) := fun t ht => by
  cases ht with
  | head => exact h
  | tail _ q => cases q
theorem lwf_up {n m : Nat} {f : LF} (hf : lwf n f) (h : n ≤ m) : lwf m f := fun t ht => Nat.lt_of_lt_of_le (hf t ht) h
theorem lsum_ag {n : Nat} {ρ ρ' : Nat → Int} (h : ∀ i, i < n → ρ' i = ρ i) {l : List (Nat × Int)} (hl : lwl n l) : lsum ρ' l = lsum ρ l := by
  induction l with
  | nil => rfl
  | cons t l ih =>
    show t.2 * ρ' t.1 + lsum ρ' l = t.2 * ρ t.1 + lsum ρ l
    rw [h _ (hl t List.mem_cons_self), ih (fun x hx => hl x (List.mem_cons_of_mem _ hx))]
theorem lev_ag {n : Nat} {ρ ρ' : Nat → Int} (h : ∀ i, i < n → ρ' i = ρ i) {f : LF} (hf : lwf n f) : lev ρ' f = lev ρ f := by
  unfold lev
  rw [lsum_ag h hf]
/-! ranges -/
def kRG (ρ : Nat → Int) (rg : RG) : Prop := ∀ q ∈ rg, q.2.1 ≤ ρ q.1 ∧ ρ q.1 ≤ q.2.2
def rget : RG → Nat → Option (Int × Int)
  | [], _ => none
  | q :: l, i => bif Nat.beq q.1 i then some q.2 else rget l i
theorem rget_ok {ρ : Nat → Int} {rg : RG} (h : kRG ρ rg) {i : Nat} {r : Int × Int} (hg : rget rg i = some r) : r.1 ≤ ρ i ∧ ρ i ≤ r.2 := by
  induction rg with
  | nil => cases hg
  | cons q l ih =>
    unfold rget at hg
    cases e : Nat.beq q.1 i with
    | true =>
      rw [e] at hg
      have e1 := kb_t e
      cases hg
      rw [← e1]
      exact h q List.mem_cons_self
    | false =>
      rw [e] at hg
      exact ih (fun x hx => h x (List.mem_cons_of_mem _ hx)) hg
def ile (a b : Int) : Bool := match b - a with
  | .ofNat _ => true
  | .negSucc _ => false
theorem ile_ok {a b : Int} (h : ile a b = true) : a ≤ b := by
  unfold ile at h
  split at h
  · rename_i n hn
    have : b - a = (n : Int) := hn
    omega
  · cases h
theorem ile_no {a b : Int} (h : ile a b = false) : b < a := by
  unfold ile at h
  split at h
  · cases h
  · rename_i n hn
    have : b - a = Int.negSucc n := hn
    omega
def lubs (rg : RG) : List (Nat × Int) → Int → Option Int
  | [], a => some a
  | t :: l, a => match rget rg t.1 with
    | some r => lubs rg l (a + (bif ile 0 t.2 then t.2 * r.2 else t.2 * r.1))
    | none => none
def lub (rg : RG) (f : LF) : Option Int := lubs rg f.2 f.1
theorem lubs_ok {ρ : Nat → Int} {rg : RG} (h : kRG ρ rg) : ∀ (l : List (Nat × Int)) (a b : Int), lubs rg l a = some b → a + lsum ρ l ≤ b := by
  intro l
  induction l with
  | nil => intro a b hb; cases hb; show a + 0 ≤ a; omega
  | cons t l ih =>
    intro a b hb
    unfold lubs at hb
    split at hb
    · rename_i r hr
      have h1 := rget_ok h hr
      have h2 := ih _ _ hb
      show a + (t.2 * ρ t.1 + lsum ρ l) ≤ b
      have h3 : t.2 * ρ t.1 ≤ (bif ile 0 t.2 then t.2 * r.2 else t.2 * r.1) := by
        cases e : ile 0 t.2 with
        | true => exact Int.mul_le_mul_of_nonneg_left h1.2 (ile_ok e)
        | false => exact Int.mul_le_mul_of_nonpos_left (Int.le_of_lt (ile_no e)) h1.1
      omega
    · cases hb
theorem lub_ok {ρ : Nat → Int} {rg : RG} (h : kRG ρ rg) {f : LF} {b : Int} (hb : lub rg f = some b) : lev ρ f ≤ b := lubs_ok h _ _ _ hb
/-- a form is at most 0 -/
def lb0 (rg : RG) (f : LF) : Bool := match lub rg f with
  | some b => ile b 0
  | none => false
theorem lb0_ok {ρ : Nat → Int} {rg : RG} (h : kRG ρ rg) {f : LF} (hb : lb0 rg f = true) : lev ρ f ≤ 0 := by
  unfold lb0 at hb
  split at hb
  · rename_i b e
    have := lub_ok h e
    have := ile_ok hb
    omega
  · cases hb
def kCS (n : Nat) (ρ : Nat → Int) (cs : List LF) : Prop := ∀ f ∈ cs, lwf n f ∧ 0 ≤ lev ρ f
def lenle : List (Nat × Int) → List (Nat × Int) → Bool
  | [], _ => true
  | _ :: _, [] => false
  | _ :: a, _ :: b => lenle a b
/-- at most 0, by so many facts at most -/
def lleN (rg : RG) (cs : List LF) : Nat → LF → Bool
  | 0, f => lb0 rg f
  | d + 1, f => lb0 rg f || (match f.2 with
    | [] => false
    | _ => cs.any (fun g => (fun h : LF => lenle h.2 f.2 && lleN rg cs d h) (lfadd f g)))
def lenlt : List (Nat × Int) → List (Nat × Int) → Bool
  | _, [] => false
  | [], _ :: _ => true
  | _ :: a, _ :: b => lenlt a b
/-- facts added, each once, where they take unknowns away -/
def lleG : List LF → LF → LF
  | [], f => f
  | g :: l, f => (fun h : LF => lleG l (bif lenlt h.2 f.2 then h else f)) (lfadd f g)
def lfew (f : LF) : Bool := lenle f.2 [(0, 0), (0, 0), (0, 0), (0, 0), (0, 0), (0, 0)]
def lle (rg : RG) (cs : List LF) (f : LF) : Bool := lb0 rg f || ((fun h => lfew h && lleN rg cs 4 h) (lleG cs f) || (lfew f && lleN rg cs 4 f))
theorem lleG_ok {n : Nat} {ρ : Nat → Int} : ∀ (cs : List LF) (f : LF), kCS n ρ cs → lev ρ f ≤ lev ρ (lleG cs f) := by
  intro cs
  induction cs with
  | nil => intro f _; exact Int.le_refl _
  | cons g l ih =>
    intro f h
    have hl : kCS n ρ l := fun x hx => h x (List.mem_cons_of_mem _ hx)
    have hg := (h g List.mem_cons_self).2
    show lev ρ f ≤ lev ρ (lleG l (bif lenlt (lfadd f g).2 f.2 then lfadd f g else f))
    cases lenlt (lfadd f g).2 f.2 with
    | true =>
      have := ih (lfadd f g) hl
      rw [lev_add] at this
      simp only [cond_true]
      omega
    | false => exact ih f hl
theorem lleN_ok {n : Nat} {ρ : Nat → Int} {rg : RG} {cs : List LF} (h : kRG ρ rg) (hc : kCS n ρ cs) : ∀ (d : Nat) (f : LF), lleN rg cs d f = true → lev ρ f ≤ 0 := by
  intro d
  induction d with
  | zero => intro f hb; exact lb0_ok h hb
  | succ d ih =>
    intro f hb
    unfold lleN at hb
    rcases Bool.or_eq_true_iff.mp hb with hb | hb
    · exact lb0_ok h hb
    · split at hb
      · cases hb
      · obtain ⟨g, hg, hb⟩ := List.any_eq_true.mp hb
        have h1 := ih _ (Bool.and_eq_true_iff.mp hb).2
        rw [lev_add] at h1
        have := (hc g hg).2
        omega
theorem lle_ok {n : Nat} {ρ : Nat → Int} {rg : RG} {cs : List LF} (h : kRG ρ rg) (hc : kCS n ρ cs) {f : LF} (hb : lle rg cs f = true) : lev ρ f ≤ 0 := by
  rcases Bool.or_eq_true_iff.mp hb with hb | hb
  · exact lb0_ok h hb
  · rcases Bool.or_eq_true_iff.mp hb with hb | hb
    · have h1 := lleN_ok h hc 4 _ (Bool.and_eq_true_iff.mp hb).2
      have h2 := lleG_ok cs f hc
      omega
    · exact lleN_ok h hc 4 f (Bool.and_eq_true_iff.mp hb).2
/-- a fact more: 0 ≤ f. None: it can't be. -/
def lnar1 (rg : RG) (f : LF) (t : Nat × Int) : RG := match rget rg t.1, lub rg (lfadd f (0, [(t.1, - t.2)])) with
  | some r, some b => bif ile 1 t.2 then (bif ile (- (b / t.2)) r.1 then rg else (t.1, (- (b / t.2), r.2)) :: rg) else bif ile t.2 (-1) then (bif ile r.2 (b / (- t.2)) then rg else (t.1, (r.1, b / (- t.2))) :: rg) else rg
  | _, _ => rg
theorem lnar1_ok {ρ : Nat → Int} {rg : RG} (h : kRG ρ rg) {f : LF} (hf : 0 ≤ lev ρ f) (t : Nat × Int) : kRG ρ (lnar1 rg f t) := by
  unfold lnar1
  split
  · rename_i r b hr hb
    have h1 := rget_ok h hr
    have h2 := lub_ok h hb
    rw [lev_add] at h2
    have h3 : lev ρ (0, [(t.1, - t.2)]) = - (t.2 * ρ t.1) := by
      show 0 + (- t.2 * ρ t.1 + 0) = _
      rw [Int.neg_mul]
      omega
    rw [h3] at h2
    cases e1 : ile 1 t.2 with
    | true =>
      have e1 := ile_ok e1
      have h4 : - ρ t.1 ≤ b / t.2 := by
        refine Int.le_ediv_of_mul_le (by omega) ?_
        rw [Int.neg_mul, Int.mul_comm]
        omega
      cases ile (- (b / t.2)) r.1 with
      | true => exact h
      | false =>
        intro q hq
        cases hq with
        | head =>
          refine ⟨?_, h1.2⟩
          show - (b / t.2) ≤ ρ t.1
          omega
        | tail _ hq => exact h q hq
    | false =>
      cases e3 : ile t.2 (-1) with
      | true =>
        have e3 := ile_ok e3
        have h4 : ρ t.1 ≤ b / (- t.2) := by
          refine Int.le_ediv_of_mul_le (by omega) ?_
          rw [Int.mul_neg, Int.mul_comm]
          omega
        cases ile r.2 (b / (- t.2)) with
        | true => exact h
        | false =>
          intro q hq
          cases hq with
          | head =>
            refine ⟨h1.1, ?_⟩
            show ρ t.1 ≤ b / (- t.2)
            exact h4
          | tail _ hq => exact h q hq
      | false => exact h
  · exact h
def lnar (f : LF) : List (Nat × Int) → RG → RG
  | [], rg => rg
  | t :: l, rg => lnar f l (lnar1 rg f t)
theorem lnar_ok {ρ : Nat → Int} {f : LF} (hf : 0 ≤ lev ρ f) : ∀ (l : List (Nat × Int)) (rg : RG), kRG ρ rg → kRG ρ (lnar f l rg) := by
  intro l
  induction l with
  | nil => intro rg h; exact h
  | cons t l ih => intro rg h; exact ih _ (lnar1_ok h hf t)
def lasm (rg : RG) (cs : List LF) (f : LF) : Option (RG × List LF) := match lub rg f with
  | some b => bif ile 0 b then some (lnar f f.2 rg, match f.2 with
    | [] => cs
    | [_] => cs
    | _ => f :: cs) else none
  | none => some (rg, cs)
theorem lasm_ok {n : Nat} {ρ : Nat → Int} {rg : RG} {cs : List LF} (h : kRG ρ rg) (hc : kCS n ρ cs) {f : LF} (hw : lwf n f) (hf : 0 ≤ lev ρ f) : ∃ q, lasm rg cs f = some q ∧ kRG ρ q.1 ∧ kCS n ρ q.2 := by
  unfold lasm
  split
  · rename_i b hb
    have h1 := lub_ok h hb
    cases e : ile 0 b with
    | false =>
      have := ile_no e
      omega
    | true =>
      refine ⟨_, rfl, lnar_ok hf _ _ h, ?_⟩
      dsimp only
      split
      · exact hc
      · exact hc
      · intro g hg
        cases hg with
        | head => exact ⟨hw, hf⟩
        | tail _ hg => exact hc g hg
  · exact ⟨_, rfl, h, hc⟩
/-- not equal 0: an end of a range goes -/
def lne (rg : RG) (f : LF) : RG := match f.2 with
  | [t] => (match rget rg t.1 with
    | some r => bif iz (t.2 - 1) then (bif iz (f.1 + r.1) then (t.1, (r.1 + 1, r.2)) :: rg else bif iz (f.1 + r.2) then (t.1, (r.1, r.2 - 1)) :: rg else rg)
      else bif iz (t.2 + 1) then (bif iz (f.1 - r.1) then (t.1, (r.1 + 1, r.2)) :: rg else bif iz (f.1 - r.2) then (t.1, (r.1, r.2 - 1)) :: rg else rg) else rg
    | none => rg)
  | _ => rg
theorem lne_ok {ρ : Nat → Int} {rg : RG} (h : kRG ρ rg) {f : LF} (hf : lev ρ f ≠ 0) : kRG ρ (lne rg f) := by
  unfold lne
  split
  · rename_i t ht
    have he : lev ρ f = f.1 + t.2 * ρ t.1 := by
      unfold lev
      rw [ht]
      show f.1 + (t.2 * ρ t.1 + 0) = _
      omega
    split
    · rename_i r hr
      have h1 := rget_ok h hr
      have add : ∀ a b : Int, a ≤ ρ t.1 → ρ t.1 ≤ b → kRG ρ ((t.1, (a, b)) :: rg) := fun a b q1 q2 q hq => by
        cases hq with
        | head => exact ⟨q1, q2⟩
        | tail _ hq => exact h q hq
      cases e1 : iz (t.2 - 1) with
      | true =>
        have e2 : t.2 = 1 := by have := iz_ok e1; omega
        rw [he, e2] at hf
        cases e3 : iz (f.1 + r.1) with
        | true =>
          have := iz_ok e3
          exact add _ _ (by omega) h1.2
        | false =>
          cases e4 : iz (f.1 + r.2) with
          | true =>
            have := iz_ok e4
            exact add _ _ h1.1 (by omega)
          | false => exact h
      | false =>
        cases e5 : iz (t.2 + 1) with
        | true =>
          have e2 : t.2 = -1 := by have := iz_ok e5; omega
          rw [he, e2] at hf
          cases e3 : iz (f.1 - r.1) with
          | true =>
            have := iz_ok e3
            exact add _ _ (by omega) h1.2
          | false =>
            cases e4 : iz (f.1 - r.2) with
            | true =>
              have := iz_ok e4
              exact add _ _ h1.1 (by omega)
            | false => exact h
        | false => exact h
    · exact h
  · exact h
/-- empty ranges -/
def lbad (rg : RG) : Bool := match rg with
  | [] => false
  | q :: _ => !ile q.2.1 q.2.2
theorem lbad_ok {ρ : Nat → Int} {rg : RG} (h : kRG ρ rg) : lbad rg = false := by
  cases rg with
  | nil => rfl
  | cons q l =>
    have h1 := h q List.mem_cons_self
    show (!ile q.2.1 q.2.2) = false
    cases e : ile q.2.1 q.2.2 with
    | true => rfl
    | false =>
      have := ile_no e
      omega
/-- within the ints -/
def l32 (rg : RG) (f : LF) : Bool := lb0 rg (lfadd f (lfc (-2147483647))) && lb0 rg (lfadd (lfneg f) (lfc (-2147483648)))
theorem l32_ok {ρ : Nat → Int} {rg : RG} (h : kRG ρ rg) {f : LF} (hb : l32 rg f = true) : -2147483648 ≤ lev ρ f ∧ lev ρ f ≤ 2147483647 := by
  have hb := Bool.and_eq_true_iff.mp hb
  have h1 := lb0_ok h hb.1
  have h2 := lb0_ok h hb.2
  rw [lev_add, lev_c] at h1 h2
  rw [lev_neg] at h2
  omega
theorem i32_of {x : Int} (h1 : -2147483648 ≤ x) (h2 : x ≤ 2147483647) : (Int32.ofInt x).toInt = x := by
  rw [Int32.toInt_ofInt]
  have e : ((Int32.size : Nat) : Int) = 4294967296 := rfl
  exact Int.bmod_eq_of_le (by omega) (by omega)
theorem i32_to (x : Int32) : Int32.ofInt x.toInt = x := Int32.ofInt_toInt x
theorem i32_lo (x : Int32) : -2147483648 ≤ x.toInt := Int32.le_toInt x
theorem i32_hi (x : Int32) : x.toInt ≤ 2147483647 := by
  have := Int32.toInt_lt x
  omega
/-- two forms, the same; two forms, never the same -/
def lfeq (f g : LF) : Bool := match (lfsub f g).2 with
  | [] => iz (lfsub f g).1
  | _ => false
def lfne (f g : LF) : Bool := match (lfsub f g).2 with
  | [] => !iz (lfsub f g).1
  | _ => false
theorem lfeq_ok {f g : LF} (h : lfeq f g = true) (ρ : Nat → Int) : lev ρ f = lev ρ g := by
  have e := lev_sub ρ f g
  unfold lfeq at h
  split at h
  · rename_i hd
    have h1 : lev ρ (lfsub f g) = (lfsub f g).1 := by
      unfold lev
      rw [hd]
      show _ + 0 = _
      omega
    rw [iz_ok h] at h1
    omega
  · cases h
theorem iz_no {x : Int} (h : iz x = false) : x ≠ 0 := fun e => by
  subst e
  cases h
theorem lfne_ok {f g : LF} (h : lfne f g = true) (ρ : Nat → Int) : lev ρ f ≠ lev ρ g := by
  have e := lev_sub ρ f g
  unfold lfne at h
  split at h
  · rename_i hd
    have h1 : lev ρ (lfsub f g) = (lfsub f g).1 := by
      unfold lev
      rw [hd]
      show _ + 0 = _
      omega
    have h2 : iz (lfsub f g).1 = false := by
      cases q : iz (lfsub f g).1 with
      | false => rfl
      | true => rw [q] at h; cases h
    have := iz_no h2
    omega
  · cases h
