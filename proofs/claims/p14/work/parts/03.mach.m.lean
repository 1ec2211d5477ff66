section
/-! A small machine of the writer's own: values whose references are labels, cells as lists, ints that are known or an input with a range. -/
abbrev KS : Type := Nat ⊕ ((Nat → Int32) → Int32)
abbrev KI : Type := Int32 ⊕ KS
abbrev KV : Type := Value ⊕ KS
/-- an array: the kind of its elements, its length, what it holds -/
abbrev KA : Type := Nat × Nat × ((List (Nat × KI) × KI) ⊕ (List (Nat × Int64) × Int64) ⊕ List (Nat × Option Nat))
abbrev KE : Type := KA ⊕ (Nat × List KV)
/-- the cells, sixteen to a row; a cell's label is its place -/
abbrev KW : Type := List (List KE)
/-- place, locals, stack, cells, how many cells and slots were made -/
abbrev KF : Type := Nat × List (Nat × KV) × List KV × KW × Nat × Nat
/-- an instruction's resolved operands -/
abbrev KX : Type := Nat × Nat × Nat × Nat × Nat
abbrev KEnt : Type := Nat × Instr × KX
/-- a method: name, code, locals, answer's type, the cells and slots that it may make, its instructions -/
abbrev KMeth : Type := MethodName × ByteArray × Nat × Option FieldType × Nat × Nat × List KEnt
def kS (ρ : Nat → Int32) : KS → Int32
  | .inl i => ρ i
  | .inr f => f ρ
def kI (ρ : Nat → Int32) : KI → Int32
  | .inl x => x
  | .inr z => kS ρ z
def kV (ad : Nat → Nat) (ρ : Nat → Int32) : KV → Value
  | .inl v => match v with
    | .ref i => .ref (ad i)
    | w => w
  | .inr z => .int (kS ρ z)
def kcat : KV → Nat
  | .inl v => v.category
  | .inr _ => 1
theorem kV_cat (ad : Nat → Nat) (ρ : Nat → Int32) (v : KV) : (kV ad ρ v).category = kcat v := by
  rcases v with v | z
  · cases v <;> rfl
  · rfl
def kisI : KV → Bool
  | .inl v => match v with
    | .int _ => true
    | _ => false
  | .inr _ => true
def kiv (ρ : Nat → Int32) : KV → Int32
  | .inl v => match v with
    | .int x => x
    | _ => 0
  | .inr z => kS ρ z
theorem kisI_eq {ad : Nat → Nat} {ρ : Nat → Int32} {v : KV} (h : kisI v = true) : kV ad ρ v = .int (kiv ρ v) := by
  rcases v with v | z
  · cases v <;> first | rfl | cases h
  · rfl
/-- lists by key -/
def kget {α : Type} : List (Nat × α) → α → Nat → α
  | [], d, _ => d
  | q :: l, d, j => bif Nat.beq q.1 j then q.2 else kget l d j
def kdel {α : Type} : List (Nat × α) → Nat → List (Nat × α)
  | [], _ => []
  | q :: l, j => bif Nat.beq q.1 j then l else q :: kdel l j
def kset {α : Type} (l : List (Nat × α)) (j : Nat) (v : α) : List (Nat × α) := (j, v) :: kdel l j
theorem kb_t {i j : Nat} (h : Nat.beq i j = true) : i = j := Nat.eq_of_beq_eq_true h
theorem kb_f {i j : Nat} (h : Nat.beq i j = false) : ¬ i = j := Nat.ne_of_beq_eq_false h
theorem kb_r {i j : Nat} (h : i = j) : Nat.beq i j = true := by subst h; exact Nat.beq_refl i
theorem kb_n {i j : Nat} (h : ¬ i = j) : Nat.beq i j = false := by
  cases q : Nat.beq i j with
  | false => rfl
  | true => exact absurd (kb_t q) h
theorem kget_del {α : Type} (l : List (Nat × α)) (d : α) {j k : Nat} (h : ¬ k = j) : kget (kdel l j) d k = kget l d k := by
  induction l with
  | nil => rfl
  | cons q l ih =>
    unfold kdel
    cases e : Nat.beq q.1 j with
    | true =>
      have e1 := kb_t e
      show kget l d k = (bif Nat.beq q.1 k then q.2 else kget l d k)
      rw [kb_n (i := q.1) (j := k) (by omega)]
      rfl
    | false =>
      show (bif Nat.beq q.1 k then q.2 else kget (kdel l j) d k) = (bif Nat.beq q.1 k then q.2 else kget l d k)
      rw [ih]
theorem kget_set {α : Type} (l : List (Nat × α)) (d : α) (j k : Nat) (v : α) : kget (kset l j v) d k = if k = j then v else kget l d k := by
  show (bif Nat.beq j k then v else kget (kdel l j) d k) = _
  by_cases h : k = j
  · rw [if_pos h, kb_r h.symm]
    rfl
  · rw [if_neg h, kb_n (fun q => h q.symm), ← kget_del l d h]
    rfl
def klook : List (Nat × KV) → Nat → Option KV
  | [], _ => none
  | q :: l, j => bif Nat.beq q.1 j then some q.2 else klook l j
theorem klook_mem {l : List (Nat × KV)} {j : Nat} {v : KV} (h : klook l j = some v) : (j, v) ∈ l := by
  induction l with
  | nil => cases h
  | cons q l ih =>
    unfold klook at h
    cases e : Nat.beq q.1 j with
    | true =>
      rw [e] at h
      have e1 := kb_t e
      cases h
      rw [← e1]
      exact List.mem_cons_self
    | false =>
      rw [e] at h
      exact List.mem_cons_of_mem _ (ih h)
/-- what the lists stand for -/
def kL (ad : Nat → Nat) (ρ : Nat → Int32) (lo : List (Nat × KV)) : List (Nat × Value) := lo.map (fun q => (q.1, kV ad ρ q.2))
def kflt : List (Nat × KV) → Nat → List (Nat × KV)
  | [], _ => []
  | q :: l, i => bif Nat.beq q.1 i then kflt l i else bif Nat.beq (q.1 + 1) i && Nat.beq (kcat q.2) 2 then kflt l i else q :: kflt l i
theorem kb_b (i j : Nat) : (i == j) = Nat.beq i j := by
  by_cases h : i = j
  · rw [kb_r h]
    exact beq_iff_eq.mpr h
  · rw [kb_n h]
    exact beq_eq_false_iff_ne.mpr h
theorem kflt_eq (lo : List (Nat × KV)) (i : Nat) : kflt lo i = lo.filter (fun q => !(q.1 == i) && !(q.1 + 1 == i && kcat q.2 == 2)) := by
  induction lo with
  | nil => rfl
  | cons q l ih =>
    rw [List.filter_cons, ← ih]
    show (bif Nat.beq q.1 i then kflt l i else bif Nat.beq (q.1 + 1) i && Nat.beq (kcat q.2) 2 then kflt l i else q :: kflt l i) = _
    rw [kb_b, kb_b, kb_b]
    cases Nat.beq q.1 i <;> cases Nat.beq (q.1 + 1) i <;> cases Nat.beq (kcat q.2) 2 <;> rfl
def klo (lo : List (Nat × KV)) (i : Nat) (v : KV) : List (Nat × KV) := (i, v) :: kflt lo i
def klo2 (lo : List (Nat × KV)) (i : Nat) (v : KV) : List (Nat × KV) := (i, v) :: lo.filter (fun q => !(q.1 == i) && (!(q.1 == i + 1) && !(q.1 + 1 == i && kcat q.2 == 2)))
theorem klo_c (ad : Nat → Nat) (ρ : Nat → Int32) (lo : List (Nat × KV)) (i : Nat) (v : KV) : (i, kV ad ρ v) :: (kL ad ρ lo).filter (fun q => !(q.1 == i) && !(q.1 + 1 == i && q.2.category == 2)) = kL ad ρ (klo lo i v) := by
  unfold kL klo
  rw [kflt_eq, List.map_cons, List.filter_map]
  congr 2
  apply List.filter_congr
  intro q _
  simp only [Function.comp_apply, kV_cat]
theorem klo2_c (ad : Nat → Nat) (ρ : Nat → Int32) (lo : List (Nat × KV)) (i : Nat) (v : KV) : (i, kV ad ρ v) :: (kL ad ρ lo).filter (fun q => !(q.1 == i) && (!(q.1 == i + 1) && !(q.1 + 1 == i && q.2.category == 2))) = kL ad ρ (klo2 lo i v) := by
  unfold kL klo2
  rw [List.map_cons, List.filter_map]
  congr 2
  apply List.filter_congr
  intro q _
  simp only [Function.comp_apply, kV_cat]
theorem kL_get {ad : Nat → Nat} {ρ : Nat → Int32} {lo : List (Nat × KV)} {nL j : Nat} {ls : Array Slot} {v : KV} (h : lv_has ls nL (kL ad ρ lo)) (hk : klook lo j = some v) : ls[j]? = some (.val (kV ad ρ v)) :=
  h.2.2 (j, kV ad ρ v) (List.mem_map.mpr ⟨(j, v), klook_mem hk, rfl⟩)
def kE (dA : Nat → ClassId) (ad : Nat → Nat) (ρ : Nat → Int32) : KE → va_E
  | .inl (t, n, .inl (l, d)) => .inl (dA t, n, .inl (fun j => kI ρ (kget l d j)))
  | .inl (t, n, .inr (.inl (l, d))) => .inl (dA t, n, .inr (.inl (fun j => kget l d j)))
  | .inl (t, n, .inr (.inr l)) => .inl (dA t, n, .inr (.inr (.inr (.inr (fun j => (kget l none j).map ad)))))
  | .inr (ci, fs) => .inr (ci, fs.map (kV ad ρ))
def kWc (dA : Nat → ClassId) (ad : Nat → Nat) (ρ : Nat → Int32) : Nat → List KE → va_W
  | _, [] => []
  | b, e :: t => (ad b, kE dA ad ρ e) :: kWc dA ad ρ (b + 1) t
def kWf (dA : Nat → ClassId) (ad : Nat → Nat) (ρ : Nat → Int32) : Nat → KW → va_W
  | _, [] => []
  | i, ch :: t => kWc dA ad ρ (16 * i) ch ++ kWf dA ad ρ (i + 1) t
def kW (dA : Nat → ClassId) (ad : Nat → Nat) (ρ : Nat → Int32) (w : KW) : va_W := kWf dA ad ρ 0 w
def kwg (w : KW) (n : Nat) : Option KE := match w[n / 16]? with
  | some ch => ch[n % 16]?
  | none => none
def kws (w : KW) (n : Nat) (e : KE) : KW := match w[n / 16]? with
  | some ch => w.set (n / 16) (ch.set (n % 16) e)
  | none => w
/-- the next label -/
def kfr : Nat → KW → Nat
  | i, [] => 16 * i
  | i, ch :: t => match t with
    | [] => bif Nat.blt ch.length 16 then 16 * i + ch.length else 16 * (i + 1)
    | _ => kfr (i + 1) t
def kwp (e : KE) : KW → KW
  | [] => [[e]]
  | ch :: t => match t with
    | [] => bif Nat.blt ch.length 16 then [ch ++ [e]] else [ch, [e]]
    | _ => ch :: kwp e t
theorem kWc_get {dA : Nat → ClassId} {ad : Nat → Nat} {ρ : Nat → Int32} : ∀ (ch : List KE) (b j : Nat) {e : KE}, ch[j]? = some e → (kWc dA ad ρ b ch)[j]? = some (ad (b + j), kE dA ad ρ e) ∧ ∀ e' : KE, (kWc dA ad ρ b ch).set j (ad (b + j), kE dA ad ρ e') = kWc dA ad ρ b (ch.set j e') := by
  intro ch
  induction ch with
  | nil => intro b j e h; simp at h
  | cons x t ih =>
    intro b j e h
    cases j with
    | zero =>
      cases h
      exact ⟨rfl, fun _ => rfl⟩
    | succ j =>
      obtain ⟨h1, h2⟩ := ih (b + 1) j (e := e) h
      have ea : b + 1 + j = b + (j + 1) := by omega
      rw [ea] at h1 h2
      exact ⟨h1, fun e' => by
        show (ad b, kE dA ad ρ x) :: (kWc dA ad ρ (b + 1) t).set j _ = (ad b, kE dA ad ρ x) :: kWc dA ad ρ (b + 1) (t.set j e')
        rw [h2]⟩
theorem kWf_get {dA : Nat → ClassId} {ad : Nat → Nat} {ρ : Nat → Int32} : ∀ (w : KW) (i k j : Nat) {ch : List KE} {e : KE}, w[k]? = some ch → ch[j]? = some e → ∃ q : Nat, (kWf dA ad ρ i w)[q]? = some (ad (16 * (i + k) + j), kE dA ad ρ e) ∧ ∀ e' : KE, (kWf dA ad ρ i w).set q (ad (16 * (i + k) + j), kE dA ad ρ e') = kWf dA ad ρ i (w.set k (ch.set j e')) := by
  intro w
  induction w with
  | nil => intro i k j ch e h; simp at h
  | cons x t ih =>
    intro i k j ch e h he
    cases k with
    | zero =>
      cases h
      obtain ⟨h1, h2⟩ := kWc_get (dA := dA) (ad := ad) (ρ := ρ) x (16 * i) j he
      have hl := (List.getElem?_eq_some_iff.mp h1).1
      refine ⟨j, ?_, fun e' => ?_⟩
      · show (kWc dA ad ρ (16 * i) x ++ kWf dA ad ρ (i + 1) t)[j]? = _
        rw [List.getElem?_append_left hl]
        exact h1
      · show (kWc dA ad ρ (16 * i) x ++ kWf dA ad ρ (i + 1) t).set j _ = kWc dA ad ρ (16 * i) (x.set j e') ++ kWf dA ad ρ (i + 1) t
        rw [List.set_append, if_pos hl, ← h2]
        rfl
    | succ k =>
      obtain ⟨q, h1, h2⟩ := ih (i + 1) k j (ch := ch) (e := e) h he
      have ea : i + 1 + k = i + (k + 1) := by omega
      rw [ea] at h1 h2
      refine ⟨(kWc dA ad ρ (16 * i) x).length + q, ?_, fun e' => ?_⟩
      · show (kWc dA ad ρ (16 * i) x ++ kWf dA ad ρ (i + 1) t)[_]? = _
        rw [List.getElem?_append_right (Nat.le_add_right _ _), Nat.add_sub_cancel_left]
        exact h1
      · show (kWc dA ad ρ (16 * i) x ++ kWf dA ad ρ (i + 1) t).set _ _ = kWc dA ad ρ (16 * i) x ++ kWf dA ad ρ (i + 1) (t.set k (ch.set j e'))
        rw [List.set_append, if_neg (by omega), Nat.add_sub_cancel_left, h2]
theorem kW_get {dA : Nat → ClassId} {ad : Nat → Nat} {ρ : Nat → Int32} {w : KW} {n : Nat} {e : KE} (h : kwg w n = some e) : ∃ q : Nat, (kW dA ad ρ w)[q]? = some (ad n, kE dA ad ρ e) ∧ ∀ e' : KE, (kW dA ad ρ w).set q (ad n, kE dA ad ρ e') = kW dA ad ρ (kws w n e') := by
  unfold kwg at h
  cases hc : w[n / 16]? with
  | none => rw [hc] at h; cases h
  | some ch =>
    rw [hc] at h
    obtain ⟨q, h1, h2⟩ := kWf_get (dA := dA) (ad := ad) (ρ := ρ) w 0 (n / 16) (n % 16) hc h
    have ea : 16 * (0 + n / 16) + n % 16 = n := by omega
    rw [ea] at h1 h2
    refine ⟨q, h1, fun e' => ?_⟩
    unfold kws
    rw [hc]
    exact h2 e'
def kup (ad : Nat → Nat) (n q : Nat) : Nat → Nat := fun j => if j = n then q else ad j
/-- labels that are in use: below n, or those of things outside -/
def kokN (n i : Nat) : Bool := Nat.blt i n || Nat.ble 1000000 i
def kokV (n : Nat) : KV → Bool
  | .inl v => match v with
    | .ref i => kokN n i
    | _ => true
  | .inr _ => true
def kokE (n : Nat) : KE → Bool
  | .inl (_, _, .inl _) => true
  | .inl (_, _, .inr (.inl _)) => true
  | .inl (_, _, .inr (.inr l)) => l.all (fun q => match q.2 with
    | some i => kokN n i
    | none => true)
  | .inr (_, fs) => fs.all (kokV n)
def kokS (n : Nat) (st : List KV) : Bool := st.all (kokV n)
def kokL (n : Nat) (lo : List (Nat × KV)) : Bool := lo.all (fun q => kokV n q.2)
def kokW (n : Nat) (w : KW) : Bool := w.all (fun ch => Nat.ble ch.length 16 && ch.all (kokE n))
/-- two ways to read labels that agree on those in use -/
def kExt (n : Nat) (ad ad' : Nat → Nat) : Prop := ∀ i, i < n ∨ 1000000 ≤ i → ad' i = ad i
theorem kExt.rf (n : Nat) (ad : Nat → Nat) : kExt n ad ad := fun _ _ => rfl
theorem kExt.tr {n m : Nat} {a b c : Nat → Nat} (h : kExt n a b) (h2 : kExt m b c) (hm : n ≤ m) : kExt n a c := fun i hi => (h2 i (hi.imp (fun q => Nat.lt_of_lt_of_le q hm) id)).trans (h i hi)
theorem kExt.up {n : Nat} {ad : Nat → Nat} (q : Nat) (hn : n < 1000000) : kExt n ad (kup ad n q) := fun i hi => by
  unfold kup
  rw [if_neg (by omega)]
theorem kokN_p {n i : Nat} (h : kokN n i = true) : i < n ∨ 1000000 ≤ i := by
  unfold kokN at h
  rcases Bool.or_eq_true_iff.mp h with h | h
  · exact Or.inl (Nat.ble_eq.mp h)
  · exact Or.inr (Nat.ble_eq.mp h)
theorem kV_ext {n : Nat} {ad ad' : Nat → Nat} {ρ : Nat → Int32} {v : KV} (h : kExt n ad ad') (hv : kokV n v = true) : kV ad' ρ v = kV ad ρ v := by
  rcases v with v | z
  · cases v <;> first | rfl | skip
    rename_i i
    show Value.ref (ad' i) = Value.ref (ad i)
    rw [h i (kokN_p hv)]
  · rfl
theorem kS_ext {n : Nat} {ad ad' : Nat → Nat} {ρ : Nat → Int32} {st : List KV} (h : kExt n ad ad') (hv : kokS n st = true) : st.map (kV ad' ρ) = st.map (kV ad ρ) :=
  List.map_congr_left fun v hm => kV_ext h (List.all_eq_true.mp hv v hm)
theorem kL_ext {n : Nat} {ad ad' : Nat → Nat} {ρ : Nat → Int32} {lo : List (Nat × KV)} (h : kExt n ad ad') (hv : kokL n lo = true) : kL ad' ρ lo = kL ad ρ lo :=
  List.map_congr_left fun q hm => by rw [kV_ext h (List.all_eq_true.mp hv q hm)]
theorem kget_ext {n : Nat} {ad ad' : Nat → Nat} (h : kExt n ad ad') (l : List (Nat × Option Nat)) (hl : l.all (fun q => match q.2 with
    | some i => kokN n i
    | none => true) = true) (j : Nat) : (kget l none j).map ad' = (kget l none j).map ad := by
  induction l with
  | nil => rfl
  | cons q l ih =>
    rw [List.all_cons, Bool.and_eq_true] at hl
    show (bif Nat.beq q.1 j then q.2 else kget l none j).map ad' = (bif Nat.beq q.1 j then q.2 else kget l none j).map ad
    cases Nat.beq q.1 j with
    | false => exact ih hl.2
    | true =>
      obtain ⟨k, o⟩ := q
      cases o with
      | none => rfl
      | some i =>
        show some (ad' i) = some (ad i)
        rw [h i (kokN_p hl.1)]
theorem kE_ext {dA : Nat → ClassId} {n : Nat} {ad ad' : Nat → Nat} {ρ : Nat → Int32} {e : KE} (h : kExt n ad ad') (hv : kokE n e = true) : kE dA ad' ρ e = kE dA ad ρ e := by
  rcases e with ⟨t, k, (⟨l, d⟩ | ⟨l, d⟩ | l)⟩ | ⟨ci, fs⟩
  · rfl
  · rfl
  · show (Sum.inl (dA t, k, .inr (.inr (.inr (.inr (fun j => (kget l none j).map ad'))))) : va_E) = .inl (dA t, k, .inr (.inr (.inr (.inr (fun j => (kget l none j).map ad)))))
    rw [show (fun j => (kget l none j).map ad') = (fun j => (kget l none j).map ad) from funext fun j => kget_ext h l hv j]
  · show (Sum.inr (ci, fs.map (kV ad' ρ)) : va_E) = .inr (ci, fs.map (kV ad ρ))
    rw [kS_ext h hv]
theorem kfr_ge : ∀ (w : KW) (i : Nat), 16 * i ≤ kfr i w := by
  intro w
  induction w with
  | nil => intro i; exact Nat.le_refl _
  | cons ch t ih =>
    intro i
    cases t with
    | nil =>
      show 16 * i ≤ (bif Nat.blt ch.length 16 then 16 * i + ch.length else 16 * (i + 1))
      cases Nat.blt ch.length 16
      · show 16 * i ≤ 16 * (i + 1)
        omega
      · show 16 * i ≤ 16 * i + ch.length
        omega
    | cons c2 t =>
      have := ih (i + 1)
      show 16 * i ≤ kfr (i + 1) (c2 :: t)
      omega
theorem kWc_ext {dA : Nat → ClassId} {n : Nat} {ad ad' : Nat → Nat} {ρ : Nat → Int32} (h : kExt n ad ad') : ∀ (ch : List KE) (b : Nat), b + ch.length ≤ n → ch.all (kokE n) = true → kWc dA ad' ρ b ch = kWc dA ad ρ b ch := by
  intro ch
  induction ch with
  | nil => intro b _ _; rfl
  | cons e t ih =>
    intro b hb hk
    rw [List.all_cons, Bool.and_eq_true] at hk
    rw [List.length_cons] at hb
    show (ad' b, kE dA ad' ρ e) :: kWc dA ad' ρ (b + 1) t = (ad b, kE dA ad ρ e) :: kWc dA ad ρ (b + 1) t
    rw [ih (b + 1) (by omega) hk.2, h b (Or.inl (by omega)), kE_ext h hk.1]
theorem kWf_ext {dA : Nat → ClassId} {n : Nat} {ad ad' : Nat → Nat} {ρ : Nat → Int32} (h : kExt n ad ad') : ∀ (w : KW) (i : Nat), kfr i w ≤ n → kokW n w = true → kWf dA ad' ρ i w = kWf dA ad ρ i w := by
  intro w
  induction w with
  | nil => intro i _ _; rfl
  | cons ch t ih =>
    intro i hn hk
    unfold kokW at hk
    rw [List.all_cons, Bool.and_eq_true, Bool.and_eq_true] at hk
    obtain ⟨⟨k1, k2⟩, k3⟩ := hk
    have k1 := Nat.ble_eq.mp k1
    show kWc dA ad' ρ (16 * i) ch ++ kWf dA ad' ρ (i + 1) t = kWc dA ad ρ (16 * i) ch ++ kWf dA ad ρ (i + 1) t
    cases t with
    | nil =>
      rw [kWc_ext h ch (16 * i) ?_ k2]
      · rfl
      · revert hn
        show (bif Nat.blt ch.length 16 then 16 * i + ch.length else 16 * (i + 1)) ≤ n → _
        cases Nat.blt ch.length 16
        · show 16 * (i + 1) ≤ n → _
          omega
        · show 16 * i + ch.length ≤ n → _
          omega
    | cons c2 t =>
      have hn2 : kfr (i + 1) (c2 :: t) ≤ n := hn
      have hg := kfr_ge (c2 :: t) (i + 1)
      rw [kWc_ext h ch (16 * i) (by omega) k2, ih (i + 1) hn2 k3]
theorem kW_ext {dA : Nat → ClassId} {n : Nat} {ad ad' : Nat → Nat} {ρ : Nat → Int32} {w : KW} (h : kExt n ad ad') (hn : kfr 0 w ≤ n) (hv : kokW n w = true) : kW dA ad' ρ w = kW dA ad ρ w := kWf_ext h w 0 hn hv
theorem kWc_push (dA : Nat → ClassId) (ad : Nat → Nat) (ρ : Nat → Int32) (e : KE) : ∀ (ch : List KE) (b : Nat), kWc dA ad ρ b (ch ++ [e]) = kWc dA ad ρ b ch ++ [(ad (b + ch.length), kE dA ad ρ e)] := by
  intro ch
  induction ch with
  | nil => intro b; rfl
  | cons x t ih =>
    intro b
    show (ad b, kE dA ad ρ x) :: kWc dA ad ρ (b + 1) (t ++ [e]) = (ad b, kE dA ad ρ x) :: (kWc dA ad ρ (b + 1) t ++ [(ad (b + (x :: t).length), kE dA ad ρ e)])
    rw [ih, List.length_cons]
    rw [show b + 1 + t.length = b + (t.length + 1) by omega]
theorem kWf_push (dA : Nat → ClassId) (ad : Nat → Nat) (ρ : Nat → Int32) (e : KE) : ∀ (w : KW) (i : Nat), kWf dA ad ρ i (kwp e w) = kWf dA ad ρ i w ++ [(ad (kfr i w), kE dA ad ρ e)] := by
  intro w
  induction w with
  | nil => intro i; rfl
  | cons ch t ih =>
    intro i
    cases t with
    | nil =>
      show kWf dA ad ρ i (bif Nat.blt ch.length 16 then [ch ++ [e]] else [ch, [e]]) = kWc dA ad ρ (16 * i) ch ++ [] ++ [(ad (bif Nat.blt ch.length 16 then 16 * i + ch.length else 16 * (i + 1)), kE dA ad ρ e)]
      cases Nat.blt ch.length 16
      · show kWc dA ad ρ (16 * i) ch ++ ((ad (16 * (i + 1)), kE dA ad ρ e) :: []) = _
        rw [List.append_nil]
        rfl
      · show kWc dA ad ρ (16 * i) (ch ++ [e]) ++ [] = _
        rw [kWc_push, List.append_nil, List.append_nil]
        rfl
    | cons c2 t =>
      show kWc dA ad ρ (16 * i) ch ++ kWf dA ad ρ (i + 1) (kwp e (c2 :: t)) = kWc dA ad ρ (16 * i) ch ++ kWf dA ad ρ (i + 1) (c2 :: t) ++ [(ad (kfr (i + 1) (c2 :: t)), kE dA ad ρ e)]
      rw [ih, List.append_assoc]
theorem kfr_push (e : KE) : ∀ (w : KW) (i : Nat), kfr i (kwp e w) = kfr i w + 1 := by
  intro w
  induction w with
  | nil => intro i; rfl
  | cons ch t ih =>
    intro i
    cases t with
    | nil =>
      cases q : Nat.blt ch.length 16 with
      | false =>
        have e1 : kwp e [ch] = [ch, [e]] := by show (bif Nat.blt ch.length 16 then [ch ++ [e]] else [ch, [e]]) = _; rw [q]; rfl
        have e2 : kfr i [ch] = 16 * (i + 1) := by show (bif Nat.blt ch.length 16 then 16 * i + ch.length else 16 * (i + 1)) = _; rw [q]; rfl
        rw [e1, e2]
        rfl
      | true =>
        have hl : ch.length + 1 ≤ 16 := Nat.ble_eq.mp q
        have e1 : kwp e [ch] = [ch ++ [e]] := by show (bif Nat.blt ch.length 16 then [ch ++ [e]] else [ch, [e]]) = _; rw [q]; rfl
        have e2 : kfr i [ch] = 16 * i + ch.length := by show (bif Nat.blt ch.length 16 then 16 * i + ch.length else 16 * (i + 1)) = _; rw [q]; rfl
        rw [e1, e2]
        show (bif Nat.blt (ch ++ [e]).length 16 then 16 * i + (ch ++ [e]).length else 16 * (i + 1)) = _
        rw [List.length_append, List.length_singleton]
        cases q2 : Nat.blt (ch.length + 1) 16 with
        | true => show 16 * i + (ch.length + 1) = _; omega
        | false =>
          have : ¬ (ch.length + 1 + 1 ≤ 16) := fun h => by
            have := Nat.ble_eq.mpr h
            exact absurd (this.symm.trans q2) (by decide)
          show 16 * (i + 1) = _
          omega
    | cons c2 t =>
      have h := ih (i + 1)
      have e0 : ∃ a b, kwp e (c2 :: t) = a :: b := by
        cases t with
        | nil =>
          show ∃ a b, (bif Nat.blt c2.length 16 then [c2 ++ [e]] else [c2, [e]]) = a :: b
          cases Nat.blt c2.length 16
          · exact ⟨_, _, rfl⟩
          · exact ⟨_, _, rfl⟩
        | cons c3 t => exact ⟨_, _, rfl⟩
      obtain ⟨a, b, e0⟩ := e0
      show kfr i (ch :: kwp e (c2 :: t)) = kfr (i + 1) (c2 :: t) + 1
      rw [← h, e0]
      rfl
theorem kW_push {dA : Nat → ClassId} {ad : Nat → Nat} {ρ : Nat → Int32} {w : KW} (q : Nat) (e : KE) (hn : kfr 0 w < 1000000) (hw : kokW (kfr 0 w) w = true) (he : kE dA (kup ad (kfr 0 w) q) ρ e = kE dA ad ρ e) : kW dA ad ρ w ++ [(q, kE dA ad ρ e)] = kW dA (kup ad (kfr 0 w) q) ρ (kwp e w) := by
  have h1 := kW_ext (dA := dA) (ρ := ρ) (kExt.up (ad := ad) q hn) (Nat.le_refl _) hw
  show _ = kWf dA (kup ad (kfr 0 w) q) ρ 0 (kwp e w)
  rw [kWf_push, he]
  have h2 : kWf dA (kup ad (kfr 0 w) q) ρ 0 w = kW dA ad ρ w := h1
  rw [h2]
  congr 2
  unfold kup
  rw [if_pos rfl]
/-- ranges of the inputs, and what compares within them -/
def krg (rg : List (Int × Int)) : KV → Option (Int × Int)
  | .inl v => match v with
    | .int x => some (x.toInt, x.toInt)
    | _ => none
  | .inr z => match z with
    | .inl i => rg[i]?
    | .inr _ => none
def kRg (rg : List (Int × Int)) (ρ : Nat → Int32) : Prop := ∀ i lo hi, rg[i]? = some (lo, hi) → lo ≤ (ρ i).toInt ∧ (ρ i).toInt ≤ hi
theorem krg_ok {rg : List (Int × Int)} {ρ : Nat → Int32} (hr : kRg rg ρ) {v : KV} {lo hi : Int} (h : krg rg v = some (lo, hi)) : lo ≤ (kiv ρ v).toInt ∧ (kiv ρ v).toInt ≤ hi := by
  rcases v with v | (i | f)
  · cases v <;> first | cases h | skip
    exact ⟨Int.le_refl _, Int.le_refl _⟩
  · exact hr i lo hi h
  · cases h
def klt (rg : List (Int × Int)) (a b : KV) : Option Bool := match krg rg a, krg rg b with
  | some (al, ah), some (bl, bh) => bif decide (ah < bl) then some true else bif decide (bh ≤ al) then some false else none
  | _, _ => none
def keq (rg : List (Int × Int)) (a b : KV) : Option Bool := match krg rg a, krg rg b with
  | some (al, ah), some (bl, bh) => bif decide (ah < bl) || decide (bh < al) then some false else bif decide (al = ah) && (decide (bl = bh) && decide (al = bl)) then some true else none
  | _, _ => none
theorem klt_ok {rg : List (Int × Int)} {ρ : Nat → Int32} (hr : kRg rg ρ) {a b : KV} {r : Bool} (h : klt rg a b = some r) : (r = true ↔ kiv ρ a < kiv ρ b) := by
  unfold klt at h
  cases ha : krg rg a with
  | none => rw [ha] at h; cases h
  | some x =>
    cases hb : krg rg b with
    | none => rw [ha, hb] at h; cases h
    | some y =>
      obtain ⟨al, ah⟩ := x
      obtain ⟨bl, bh⟩ := y
      rw [ha, hb] at h
      dsimp only at h
      have h1 := krg_ok hr ha
      have h2 := krg_ok hr hb
      rw [Int32.lt_iff_toInt_lt]
      by_cases c1 : ah < bl
      · rw [decide_eq_true c1] at h
        cases h
        exact ⟨fun _ => by omega, fun _ => rfl⟩
      · rw [decide_eq_false c1] at h
        by_cases c2 : bh ≤ al
        · rw [decide_eq_true c2] at h
          cases h
          exact ⟨fun q => absurd q Bool.false_ne_true, fun _ => by omega⟩
        · rw [decide_eq_false c2] at h
          cases h
theorem keq_ok {rg : List (Int × Int)} {ρ : Nat → Int32} (hr : kRg rg ρ) {a b : KV} {r : Bool} (h : keq rg a b = some r) : (r = true ↔ kiv ρ a = kiv ρ b) := by
  unfold keq at h
  cases ha : krg rg a with
  | none => rw [ha] at h; cases h
  | some x =>
    cases hb : krg rg b with
    | none => rw [ha, hb] at h; cases h
    | some y =>
      obtain ⟨al, ah⟩ := x
      obtain ⟨bl, bh⟩ := y
      rw [ha, hb] at h
      dsimp only at h
      have h1 := krg_ok hr ha
      have h2 := krg_ok hr hb
      rw [← Int32.toInt_inj]
      by_cases c1 : ah < bl ∨ bh < al
      · have e : (decide (ah < bl) || decide (bh < al)) = true := by
          rcases c1 with c | c
          · rw [decide_eq_true c]; rfl
          · rw [decide_eq_true c, Bool.or_true]
        rw [e] at h
        cases h
        exact ⟨fun q => absurd q Bool.false_ne_true, fun _ => by omega⟩
      · have e : (decide (ah < bl) || decide (bh < al)) = false := by
          rw [decide_eq_false (fun q => c1 (Or.inl q)), decide_eq_false (fun q => c1 (Or.inr q))]; rfl
        rw [e] at h
        by_cases c2 : al = ah ∧ bl = bh ∧ al = bl
        · have e2 : (decide (al = ah) && (decide (bl = bh) && decide (al = bl))) = true := by
            rw [decide_eq_true c2.1, decide_eq_true c2.2.1, decide_eq_true c2.2.2]; rfl
          rw [e2] at h
          cases h
          exact ⟨fun _ => by omega, fun _ => rfl⟩
        · have e2 : (decide (al = ah) && (decide (bl = bh) && decide (al = bl))) = false := by
            cases q1 : decide (al = ah) <;> cases q2 : decide (bl = bh) <;> cases q3 : decide (al = bl) <;> first | rfl | exact absurd ⟨of_decide_eq_true q1, of_decide_eq_true q2, of_decide_eq_true q3⟩ c2
          rw [e2] at h
          cases h
theorem kfr_lens : ∀ (w w' : KW) (i : Nat), w.map List.length = w'.map List.length → kfr i w = kfr i w' := by
  intro w
  induction w with
  | nil =>
    intro w' i h
    cases w' with
    | nil => rfl
    | cons a t => cases h
  | cons ch t ih =>
    intro w' i h
    cases w' with
    | nil => cases h
    | cons ch' t' =>
      rw [List.map_cons, List.map_cons] at h
      have h1 := (List.cons.inj h).1
      have h2 := (List.cons.inj h).2
      cases t with
      | nil =>
        cases t' with
        | nil =>
          show (bif Nat.blt ch.length 16 then 16 * i + ch.length else 16 * (i + 1)) = (bif Nat.blt ch'.length 16 then 16 * i + ch'.length else 16 * (i + 1))
          rw [h1]
        | cons a b => cases h2
      | cons c2 t =>
        cases t' with
        | nil => cases h2
        | cons c2' t' => exact ih (c2' :: t') (i + 1) h2
theorem kfr_set (w : KW) (n : Nat) (e : KE) (i : Nat) : kfr i (kws w n e) = kfr i w := by
  unfold kws
  split
  · rename_i ch hc
    apply kfr_lens
    apply List.ext_getElem?
    intro j
    rw [List.getElem?_map, List.getElem?_map, List.getElem?_set]
    by_cases h : n / 16 = j
    · subst h
      have hl := (List.getElem?_eq_some_iff.mp hc).1
      simp only [if_true, hl, hc, Option.map_some, List.length_set]
    · rw [if_neg h]
  · rfl
end
section
/-! One step of the small machine. -/
/-- an instruction's length; 0: any -/
def klen : Instr → Nat
  | .bipush _ => 2 | .sipush _ => 3 | .iload _ => 2 | .aload _ => 2 | .istore _ => 2 | .astore _ => 2 | .lload _ => 2 | .lstore _ => 2
  | .iinc _ _ => 3 | .goto _ => 3 | .ifCond _ _ => 3 | .if_icmp _ _ => 3 | .if_acmp _ _ => 3 | .getfield _ => 3 | .putfield _ => 3 | .getstatic _ => 3
  | .new _ => 3 | .anewarray _ => 3 | .newarray _ => 2 | .invokevirtual _ => 3 | .invokespecial _ => 3 | .invokestatic _ => 3 | .ldc _ => 2 | .ldc2_w _ => 3 | .ldc_w _ => 3
  | .tableswitch _ _ _ _ => 0 | .lookupswitch _ _ => 0 | .ifnull _ => 3 | .ifnonnull _ => 3
  | _ => 1
def kdec (cc : ByteArray) (e : KEnt) : Bool := match decode cc e.1 with
  | .ok r => decide (r.1 = e.2.1) && (Nat.beq (klen e.2.1) 0 || Nat.beq r.2 (klen e.2.1))
  | _ => false
theorem kdec_ok {cc : ByteArray} {e : KEnt} (h : kdec cc e = true) : ∃ len, decode cc e.1 = .ok (e.2.1, len) ∧ (klen e.2.1 = 0 ∨ len = klen e.2.1) := by
  unfold kdec at h
  split at h
  · rename_i r hr
    have h1 := Bool.and_eq_true_iff.mp h
    have h2 := of_decide_eq_true h1.1
    refine ⟨r.2, by rw [hr, ← h2], ?_⟩
    rcases Bool.or_eq_true_iff.mp h1.2 with q | q
    · exact Or.inl (kb_t q)
    · exact Or.inr (kb_t q)
  · cases h
/-- a jump's target -/
def ktg (pc : Nat) (off : Int) : Option Nat := match (pc : Int) + off with
  | .ofNat t => some t
  | .negSucc _ => none
theorem ktg_ok {pc t : Nat} {off : Int} (h : ktg pc off = some t) : (pc : Int) + off = (t : Int) := by
  unfold ktg at h
  split at h
  · rename_i t' ht
    cases h
    exact ht
  · cases h
def kisR : KV → Bool
  | .inl v => match v with
    | .ref _ => true
    | _ => false
  | .inr _ => false
theorem kisR_eq {v : KV} (h : kisR v = true) : ∃ a, v = .inl (.ref a) := by
  rcases v with v | z
  · cases v <;> first | exact ⟨_, rfl⟩ | cases h
  · cases h
def kisQ : KV → Bool
  | .inl v => match v with
    | .ref _ => true
    | .null => true
    | _ => false
  | .inr _ => false
theorem kisQ_eq {v : KV} (h : kisQ v = true) : (∃ a, v = .inl (.ref a)) ∨ v = .inl .null := by
  rcases v with v | z
  · cases v <;> first | exact Or.inl ⟨_, rfl⟩ | exact Or.inr rfl | cases h
  · cases h
def kld (ok : KV → Bool) (i len : Nat) (pc : Nat) (lo : List (Nat × KV)) (st : List KV) (w : KW) (c s : Nat) : Option KF := match klook lo i with
  | some v => bif ok v then some (pc + len, lo, v :: st, w, c, s) else none
  | none => none
def kst (ok : KV → Bool) (i len nL : Nat) (pc : Nat) (lo : List (Nat × KV)) (st : List KV) (w : KW) (c s : Nat) : Option KF := match st with
  | v :: rest => bif ok v && Nat.blt i nL then some (pc + len, klo lo i v, rest, w, c, s) else none
  | [] => none
def kinc (i : Nat) (n : Int) (nL : Nat) (pc : Nat) (lo : List (Nat × KV)) (st : List KV) (w : KW) (c s : Nat) : Option KF := match klook lo i with
  | some (.inl (.int x)) => bif Nat.blt i nL then some (pc + 3, klo lo i (.inl (.int (x + Int32.ofInt n))), st, w, c, s) else none
  | _ => none
def kop2 (f : Int32 → Int32 → Int32) (a b : KV) : KV := match a with
  | .inl va => match va with
    | .int x => match b with
      | .inl vb => match vb with
        | .int y => .inl (.int (f x y))
        | _ => .inr (.inr (fun ρ => f (kiv ρ a) (kiv ρ b)))
      | .inr _ => .inr (.inr (fun ρ => f (kiv ρ a) (kiv ρ b)))
    | _ => .inr (.inr (fun ρ => f (kiv ρ a) (kiv ρ b)))
  | .inr _ => .inr (.inr (fun ρ => f (kiv ρ a) (kiv ρ b)))
theorem kop2_ok (f : Int32 → Int32 → Int32) (a b : KV) (ad : Nat → Nat) (ρ : Nat → Int32) : kV ad ρ (kop2 f a b) = .int (f (kiv ρ a) (kiv ρ b)) := by
  rcases a with va | za
  · cases va <;> first | rfl | skip
    rcases b with vb | zb
    · cases vb <;> rfl
    · rfl
  · rfl
def kop1 (f : Int32 → Int32) (a : KV) : KV := match a with
  | .inl va => match va with
    | .int x => .inl (.int (f x))
    | _ => .inr (.inr (fun ρ => f (kiv ρ a)))
  | .inr _ => .inr (.inr (fun ρ => f (kiv ρ a)))
theorem kop1_ok (f : Int32 → Int32) (a : KV) (ad : Nat → Nat) (ρ : Nat → Int32) : kV ad ρ (kop1 f a) = .int (f (kiv ρ a)) := by
  rcases a with va | za
  · cases va <;> rfl
  · rfl
def kbin (f : Int32 → Int32 → Int32) (pc : Nat) (lo : List (Nat × KV)) (st : List KV) (w : KW) (c s : Nat) : Option KF := match st with
  | y :: x :: rest => bif kisI x && kisI y then some (pc + 1, lo, kop2 f x y :: rest, w, c, s) else none
  | _ => none
def kun (f : Int32 → Int32) (pc : Nat) (lo : List (Nat × KV)) (st : List KV) (w : KW) (c s : Nat) : Option KF := match st with
  | x :: rest => bif kisI x then some (pc + 1, lo, kop1 f x :: rest, w, c, s) else none
  | _ => none
/-- iand: the first input and 63 is known -/
def kisO : KV → Bool
  | .inr (.inl i) => Nat.beq i 0
  | _ => false
def kis63 : KV → Bool
  | .inl (.int y) => decide (y = 63)
  | _ => false
def kand (ks : Option Int32) (pc : Nat) (lo : List (Nat × KV)) (st : List KV) (w : KW) (c s : Nat) : Option KF := match st with
  | y :: x :: rest => bif kisO x && kis63 y then (match ks with
    | some v => some (pc + 1, lo, .inl (.int v) :: rest, w, c, s)
    | none => none) else kbin (fun a b => a &&& b) pc lo st w c s
  | _ => none
def kbr (o : Option Nat) (r : Option Bool) (pc : Nat) (lo : List (Nat × KV)) (st : List KV) (w : KW) (c s : Nat) : Option KF := match o with
  | some t => match r with
    | some b => match b with
      | true => some (t, lo, st, w, c, s)
      | false => some (pc + 3, lo, st, w, c, s)
    | none => none
  | none => none
def kcond (rg : List (Int × Int)) (cnd : Jvm.ClassFile.Cond) (a b : KV) : Option Bool := match cnd with
  | .eq => keq rg a b
  | .ne => (keq rg a b).map not
  | .lt => klt rg a b
  | .ge => (klt rg a b).map not
  | .gt => klt rg b a
  | .le => (klt rg b a).map not
def kif (rg : List (Int × Int)) (cnd : Jvm.ClassFile.Cond) (off : Int) (pc : Nat) (lo : List (Nat × KV)) (st : List KV) (w : KW) (c s : Nat) : Option KF := match st with
  | x :: rest => bif kisI x then kbr (ktg pc off) (kcond rg cnd x (.inl (.int 0))) pc lo rest w c s else none
  | _ => none
def kicmp (rg : List (Int × Int)) (cnd : Jvm.ClassFile.Cond) (off : Int) (pc : Nat) (lo : List (Nat × KV)) (st : List KV) (w : KW) (c s : Nat) : Option KF := match st with
  | y :: x :: rest => bif kisI x && kisI y then kbr (ktg pc off) (kcond rg cnd x y) pc lo rest w c s else none
  | _ => none
def krf : KV → Option (Option Nat)
  | .inl v => match v with
    | .null => some none
    | .ref i => some (some i)
    | _ => none
  | .inr _ => none
def kreq (a b : KV) : Option Bool := match krf a, krf b with
  | some none, some none => some true
  | some none, some (some _) => some false
  | some (some _), some none => some false
  | some (some i), some (some j) => bif Nat.beq i j then some true else none
  | _, _ => none
def kacmp (cnd : Jvm.ClassFile.ACond) (off : Int) (pc : Nat) (lo : List (Nat × KV)) (st : List KV) (w : KW) (c s : Nat) : Option KF := match st with
  | y :: x :: rest => kbr (ktg pc off) (match cnd with
    | .eq => kreq x y
    | .ne => (kreq x y).map not) pc lo rest w c s
  | _ => none
def ksw (rg : List (Int × Int)) (dflt lw hg : Int) (offs : Array Int) (pc : Nat) (lo : List (Nat × KV)) (st : List KV) (w : KW) (c s : Nat) : Option KF := match st with
  | v :: rest => match krg rg v with
    | some (a, b) => bif decide (b < lw) || decide (hg < a) then (match ktg pc dflt with
        | some t => some (t, lo, rest, w, c, s)
        | none => none)
      else bif decide (a = b) then (match offs.toList[(a - lw).toNat]? with
        | some off => match ktg pc off with
          | some t => some (t, lo, rest, w, c, s)
          | none => none
        | none => none) else none
    | none => none
  | _ => none
def kgetf (ci k : Nat) (pc : Nat) (lo : List (Nat × KV)) (st : List KV) (w : KW) (c s : Nat) : Option KF := match st with
  | .inl (.ref a) :: rest => match kwg w a with
    | some (.inr (cj, fs)) => bif Nat.beq cj ci then (match fs[k]? with
      | some v => some (pc + 3, lo, v :: rest, w, c, s)
      | none => none) else none
    | _ => none
  | _ => none
def kfit (ty : FieldType) (v : KV) : Bool := match ty with
  | .int => kisI v
  | .boolean => match v with
    | .inl (.int x) => decide (x = 0) || decide (x = 1)
    | _ => false
  | .long => match v with
    | .inl (.long _) => true
    | _ => false
  | .object _ => match v with
    | .inl (.ref _) => true
    | .inl .null => true
    | _ => false
  | .array _ => match v with
    | .inl (.ref _) => true
    | .inl .null => true
    | _ => false
  | _ => false
def kputf (ci k : Nat) (pc : Nat) (lo : List (Nat × KV)) (st : List KV) (w : KW) (c s : Nat) : Option KF := match st with
  | v :: .inl (.ref a) :: rest => match kwg w a with
    | some (.inr (cj, fs)) => bif Nat.beq cj ci && (Nat.blt k fs.length && kfit (kTy ci k) v) then some (pc + 3, lo, rest, kws w a (.inr (cj, fs.set k v)), c, s) else none
    | _ => none
  | _ => none
def kfresh (c s n Rc Rs : Nat) (lo : List (Nat × KV)) (st : List KV) (w : KW) : Bool := Nat.ble (c + 1) Rc && (Nat.ble (s + n) Rs && (Nat.blt (kfr 0 w) 1000000 && (kokW (kfr 0 w) w && (kokS (kfr 0 w) st && kokL (kfr 0 w) lo))))
def knew (ci Rc Rs : Nat) (pc : Nat) (lo : List (Nat × KV)) (st : List KV) (w : KW) (c s : Nat) : Option KF := match kTys[ci]? with
  | some tys => bif kfresh c s tys.length Rc Rs lo st w then some (pc + 3, lo, .inl (.ref (kfr 0 w)) :: st, kwp (.inr (ci, tys.map (fun t => (.inl (defaultValue t) : KV)))) w, c + 1, s + tys.length) else none
  | none => none
/-- the kinds of arrays -/
def kEl : List FieldType := [.int, .long, .byte, .char, .boolean, .object "TriplicateForms$Standing", .object "TriplicateForms$Image"]
def kElc : List Nat := [99, 99, 99, 99, 99, 7, 2]
def karr0 (t n : Nat) : KA := (t, n, match t with
  | 1 => .inr (.inl ([], 0))
  | 5 => .inr (.inr [])
  | 6 => .inr (.inr [])
  | _ => .inl ([], .inl 0))
def knewa (ref : Bool) (t len Rc Rs : Nat) (pc : Nat) (lo : List (Nat × KV)) (st : List KV) (w : KW) (c s : Nat) : Option KF := match st with
  | .inl (.int n) :: rest => bif !decide (n < 0) && (Nat.blt n.toNatClampNeg 100000 && (kfresh c s n.toNatClampNeg Rc Rs lo rest w && (Nat.blt t 7 && (Nat.ble 5 t == ref)))) then some (pc + len, lo, .inl (.ref (kfr 0 w)) :: rest, kwp (.inl (karr0 t n.toNatClampNeg)) w, c + 1, s + n.toNatClampNeg) else none
  | _ => none
/-- the script (L: its length and one more; 0 where there is none) -/
def kscr : KV → Bool
  | .inl (.ref a) => Nat.beq a 1000000
  | _ => false
def kalen (L : Nat) (pc : Nat) (lo : List (Nat × KV)) (st : List KV) (w : KW) (c s : Nat) : Option KF := match st with
  | v :: rest => bif kscr v && Nat.blt 0 L then some (pc + 1, lo, .inl (.int (Int32.ofNat (L - 1))) :: rest, w, c, s) else (match v with
    | .inl (.ref a) => match kwg w a with
      | some (.inl (t, n, _)) => bif Nat.blt t 7 then some (pc + 1, lo, .inl (.int (Int32.ofNat n)) :: rest, w, c, s) else none
      | _ => none
    | _ => none)
  | _ => none
def kinB (i : Int32) (n : Nat) : Bool := !decide (i < 0) && Nat.blt i.toNatClampNeg n
def kofI : KI → KV
  | .inl x => .inl (.int x)
  | .inr z => .inr z
def ktoI : KV → KI
  | .inl v => match v with
    | .int x => .inl x
    | _ => .inl 0
  | .inr z => .inr z
theorem kofI_ok (ad : Nat → Nat) (ρ : Nat → Int32) (x : KI) : kV ad ρ (kofI x) = .int (kI ρ x) := by
  cases x <;> rfl
theorem ktoI_ok (ρ : Nat → Int32) (v : KV) : kI ρ (ktoI v) = kiv ρ v := by
  rcases v with v | z
  · cases v <;> rfl
  · rfl
def kscl (rg : List (Int × Int)) (j : Nat) : Option KV := match rg[j]? with
  | some (a, b) => bif decide (a = b) then some (.inl (.int (Int32.ofInt a))) else some (.inr (.inl j))
  | none => none
def kald (rg : List (Int × Int)) (L : Nat) (ok : Nat → Bool) (pc : Nat) (lo : List (Nat × KV)) (st : List KV) (w : KW) (c s : Nat) : Option KF := match st with
  | .inl (.int i) :: v :: rest => bif kscr v && kinB i (L - 1) then (match kscl rg i.toNatClampNeg with
      | some x => some (pc + 1, lo, x :: rest, w, c, s)
      | none => none) else (match v with
    | .inl (.ref a) => match kwg w a with
      | some (.inl (t, n, .inl (l, d))) => bif ok t && kinB i n then some (pc + 1, lo, kofI (kget l d i.toNatClampNeg) :: rest, w, c, s) else none
      | _ => none
    | _ => none)
  | _ => none
def klald (pc : Nat) (lo : List (Nat × KV)) (st : List KV) (w : KW) (c s : Nat) : Option KF := match st with
  | .inl (.int i) :: .inl (.ref a) :: rest => match kwg w a with
    | some (.inl (t, n, .inr (.inl (l, d)))) => bif Nat.beq t 1 && kinB i n then some (pc + 1, lo, .inl (.long (kget l d i.toNatClampNeg)) :: rest, w, c, s) else none
    | _ => none
  | _ => none
def kofR : Option Nat → KV
  | none => .inl .null
  | some a => .inl (.ref a)
theorem kofR_ok (ad : Nat → Nat) (ρ : Nat → Int32) (o : Option Nat) : kV ad ρ (kofR o) = va_rf (o.map ad) := by
  cases o <;> rfl
def kaald (pc : Nat) (lo : List (Nat × KV)) (st : List KV) (w : KW) (c s : Nat) : Option KF := match st with
  | .inl (.int i) :: .inl (.ref a) :: rest => match kwg w a with
    | some (.inl (t, n, .inr (.inr l))) => bif (Nat.beq t 5 || Nat.beq t 6) && kinB i n then some (pc + 1, lo, kofR (kget l none i.toNatClampNeg) :: rest, w, c, s) else none
    | _ => none
  | _ => none
def kop1I (f : Int32 → Int32) : KI → KI
  | .inl x => .inl (f x)
  | .inr z => .inr (.inr (fun ρ => f (kS ρ z)))
theorem kop1I_ok (f : Int32 → Int32) (ρ : Nat → Int32) (x : KI) : kI ρ (kop1I f x) = f (kI ρ x) := by
  cases x <;> rfl
def kast (ok : Nat → Bool) (f : Nat → Int32 → Int32) (pc : Nat) (lo : List (Nat × KV)) (st : List KV) (w : KW) (c s : Nat) : Option KF := match st with
  | x :: .inl (.int i) :: .inl (.ref a) :: rest => match kwg w a with
    | some (.inl (t, n, .inl (l, d))) => bif ok t && (kinB i n && kisI x) then some (pc + 1, lo, rest, kws w a (.inl (t, n, .inl (kset l i.toNatClampNeg (kop1I (f t) (ktoI x)), d))), c, s) else none
    | _ => none
  | _ => none
def klast (pc : Nat) (lo : List (Nat × KV)) (st : List KV) (w : KW) (c s : Nat) : Option KF := match st with
  | .inl (.long x) :: .inl (.int i) :: .inl (.ref a) :: rest => match kwg w a with
    | some (.inl (t, n, .inr (.inl (l, d)))) => bif Nat.beq t 1 && kinB i n then some (pc + 1, lo, rest, kws w a (.inl (t, n, .inr (.inl (kset l i.toNatClampNeg x, d)))), c, s) else none
    | _ => none
  | _ => none
def kaast (pc : Nat) (lo : List (Nat × KV)) (st : List KV) (w : KW) (c s : Nat) : Option KF := match st with
  | .inl (.ref r) :: .inl (.int i) :: .inl (.ref a) :: rest => match kwg w a, kwg w r with
    | some (.inl (t, n, .inr (.inr l))), some (.inr (cj, _)) => bif (Nat.beq t 5 && Nat.beq cj 7 || Nat.beq t 6 && Nat.beq cj 2) && kinB i n then some (pc + 1, lo, rest, kws w a (.inl (t, n, .inr (.inr (kset l i.toNatClampNeg (some r))))), c, s) else none
    | _, _ => none
  | _ => none
def kdup (pc : Nat) (lo : List (Nat × KV)) (st : List KV) (w : KW) (c s : Nat) : Option KF := match st with
  | v :: rest => bif Nat.beq (kcat v) 1 then some (pc + 1, lo, v :: v :: rest, w, c, s) else none
  | _ => none
def kdup2 (pc : Nat) (lo : List (Nat × KV)) (st : List KV) (w : KW) (c s : Nat) : Option KF := match st with
  | a :: b :: rest => bif Nat.beq (kcat a) 1 && Nat.beq (kcat b) 1 then some (pc + 1, lo, a :: b :: a :: b :: rest, w, c, s) else none
  | _ => none
def kpop (pc : Nat) (lo : List (Nat × KV)) (st : List KV) (w : KW) (c s : Nat) : Option KF := match st with
  | v :: rest => bif Nat.beq (kcat v) 1 then some (pc + 1, lo, rest, w, c, s) else none
  | _ => none
def kcats (st : List KV) : Nat := (st.map kcat).sum
/-- calls: the method's number, how many arguments, the cells and slots that it may make, the receiver's class -/
def kcallV (call : Nat → List KV → KW → Option (Option KV × KW)) (Rc Rs : Nat) (x : KX) (pc : Nat) (lo : List (Nat × KV)) (st : List KV) (w : KW) (c s : Nat) : Option KF := match st.drop x.2.1 with
  | .inl (.ref b) :: rest => match kwg w b with
    | some (.inr (cj, _)) => bif Nat.beq cj x.2.2.2.2 && (kokL (kfr 0 w) lo && (kokS (kfr 0 w) rest && (Nat.ble (c + x.2.2.1) Rc && (Nat.ble (s + x.2.2.2.1) Rs && Nat.ble (kcats rest) 8)))) then
        (match call x.1 (.inl (.ref b) :: (st.take x.2.1).reverse) w with
        | some (r, w') => some (pc + 3, lo, r.toList ++ rest, w', c + x.2.2.1, s + x.2.2.2.1)
        | none => none) else none
    | _ => none
  | _ => none
def kcallS (call : Nat → List KV → KW → Option (Option KV × KW)) (Rc Rs : Nat) (x : KX) (pc : Nat) (lo : List (Nat × KV)) (st : List KV) (w : KW) (c s : Nat) : Option KF :=
  bif Nat.ble x.2.1 st.length && (kokL (kfr 0 w) lo && (kokS (kfr 0 w) (st.drop x.2.1) && (Nat.ble (c + x.2.2.1) Rc && (Nat.ble (s + x.2.2.2.1) Rs && Nat.ble (kcats (st.drop x.2.1)) 8)))) then
        (match call x.1 (st.take x.2.1).reverse w with
        | some (r, w') => some (pc + 3, lo, r.toList ++ st.drop x.2.1, w', c + x.2.2.1, s + x.2.2.2.1)
        | none => none) else none
def kobj (pc : Nat) (lo : List (Nat × KV)) (st : List KV) (w : KW) (c s : Nat) : Option KF := match st with
  | .inl (.ref _) :: rest => bif Nat.ble (kcats rest) 8 then some (pc + 3, lo, rest, w, c, s) else none
  | _ => none
def kmin (rg : List (Int × Int)) (Rc Rs : Nat) (pc : Nat) (lo : List (Nat × KV)) (st : List KV) (w : KW) (c s : Nat) : Option KF := match st with
  | y :: x :: rest => bif kisI x && (kisI y && (Nat.ble c Rc && (Nat.ble s Rs && Nat.ble (kcats rest) 8))) then (match klt rg y x with
      | some b => some (pc + 3, lo, (bif b then y else x) :: rest, w, c, s)
      | none => none) else none
  | _ => none
def kcopy (pc : Nat) (lo : List (Nat × KV)) (st : List KV) (w : KW) (c s : Nat) : Option KF := match st with
  | .inl (.int n) :: .inl (.int dp) :: .inl (.ref a1) :: .inl (.int sp) :: .inl (.ref a0) :: rest => match kwg w a0, kwg w a1 with
    | some (.inl (t0, n0, e0)), some (.inl (t1, n1, e1)) => bif decide (sp = 0) && (decide (dp = 0) && (!decide (n < 0) && (Nat.beq n.toNatClampNeg n0 && (Nat.beq n0 n1 && (Nat.beq t0 t1 && Nat.ble (kcats rest) 8))))) then
        (match e0, e1 with
        | .inl _, .inl _ => bif Nat.beq t0 0 then some (pc + 3, lo, rest, kws w a1 (.inl (t1, n1, e0)), c, s) else none
        | .inr (.inl _), .inr (.inl _) => bif Nat.beq t0 1 then some (pc + 3, lo, rest, kws w a1 (.inl (t1, n1, e0)), c, s) else none
        | _, _ => none) else none
    | _, _ => none
  | _ => none
def kdo (ig : Instr) : (Nat → List KV → KW → Option (Option KV × KW)) → List (Int × Int) → Option Int32 → Nat → Nat → Nat → Nat → KX → Nat → List (Nat × KV) → List KV → KW → Nat → Nat → Option KF := match ig with
  | .iconst n => fun call rg ks L nL Rc Rs x pc lo st w c s => some (pc + 1, lo, .inl (.int (Int32.ofInt n)) :: st, w, c, s)
  | .bipush n => fun call rg ks L nL Rc Rs x pc lo st w c s => some (pc + 2, lo, .inl (.int (Int8.ofInt n).toInt32) :: st, w, c, s)
  | .sipush n => fun call rg ks L nL Rc Rs x pc lo st w c s => some (pc + 3, lo, .inl (.int (Int16.ofInt n).toInt32) :: st, w, c, s)
  | .lconst n => fun call rg ks L nL Rc Rs x pc lo st w c s => some (pc + 1, lo, .inl (.long (Int64.ofNat n.val)) :: st, w, c, s)
  | .aconst_null => fun call rg ks L nL Rc Rs x pc lo st w c s => some (pc + 1, lo, .inl .null :: st, w, c, s)
  | .iload_n n => fun call rg ks L nL Rc Rs x pc lo st w c s => kld kisI n.val 1 pc lo st w c s
  | .iload n => fun call rg ks L nL Rc Rs x pc lo st w c s => kld kisI n 2 pc lo st w c s
  | .aload_n n => fun call rg ks L nL Rc Rs x pc lo st w c s => kld kisQ n.val 1 pc lo st w c s
  | .aload n => fun call rg ks L nL Rc Rs x pc lo st w c s => kld kisQ n 2 pc lo st w c s
  | .istore_n n => fun call rg ks L nL Rc Rs x pc lo st w c s => kst kisI n.val 1 nL pc lo st w c s
  | .istore n => fun call rg ks L nL Rc Rs x pc lo st w c s => kst kisI n 2 nL pc lo st w c s
  | .astore_n n => fun call rg ks L nL Rc Rs x pc lo st w c s => kst kisQ n.val 1 nL pc lo st w c s
  | .astore n => fun call rg ks L nL Rc Rs x pc lo st w c s => kst kisQ n 2 nL pc lo st w c s
  | .iinc i n => fun call rg ks L nL Rc Rs x pc lo st w c s => kinc i n nL pc lo st w c s
  | .iadd => fun call rg ks L nL Rc Rs x pc lo st w c s => kbin (fun a b => a + b) pc lo st w c s
  | .isub => fun call rg ks L nL Rc Rs x pc lo st w c s => kbin (fun a b => a - b) pc lo st w c s
  | .imul => fun call rg ks L nL Rc Rs x pc lo st w c s => kbin (fun a b => a * b) pc lo st w c s
  | .ishl => fun call rg ks L nL Rc Rs x pc lo st w c s => kbin (fun a b => a <<< (b &&& 31)) pc lo st w c s
  | .iushr => fun call rg ks L nL Rc Rs x pc lo st w c s => kbin (fun a b => (a.toUInt32 >>> (b.toUInt32 &&& Int32.toUInt32 31)).toInt32) pc lo st w c s
  | .iand => fun call rg ks L nL Rc Rs x pc lo st w c s => kand ks pc lo st w c s
  | .i2b => fun call rg ks L nL Rc Rs x pc lo st w c s => kun (fun a => a.toInt8.toInt32) pc lo st w c s
  | .dup => fun call rg ks L nL Rc Rs x pc lo st w c s => kdup pc lo st w c s
  | .dup2 => fun call rg ks L nL Rc Rs x pc lo st w c s => kdup2 pc lo st w c s
  | .pop => fun call rg ks L nL Rc Rs x pc lo st w c s => kpop pc lo st w c s
  | .goto off => fun call rg ks L nL Rc Rs x pc lo st w c s => (match ktg pc off with
    | some t => some (t, lo, st, w, c, s)
    | none => none)
  | .ifCond cnd off => fun call rg ks L nL Rc Rs x pc lo st w c s => kif rg cnd off pc lo st w c s
  | .if_icmp cnd off => fun call rg ks L nL Rc Rs x pc lo st w c s => kicmp rg cnd off pc lo st w c s
  | .if_acmp cnd off => fun call rg ks L nL Rc Rs x pc lo st w c s => kacmp cnd off pc lo st w c s
  | .tableswitch dflt lw hg offs => fun call rg ks L nL Rc Rs x pc lo st w c s => ksw rg dflt lw hg offs pc lo st w c s
  | .getfield _ => fun call rg ks L nL Rc Rs x pc lo st w c s => kgetf x.1 x.2.1 pc lo st w c s
  | .putfield _ => fun call rg ks L nL Rc Rs x pc lo st w c s => kputf x.1 x.2.1 pc lo st w c s
  | .getstatic _ => fun call rg ks L nL Rc Rs x pc lo st w c s => some (pc + 3, lo, .inl (.ref (1000001 + x.1)) :: st, w, c, s)
  | .new _ => fun call rg ks L nL Rc Rs x pc lo st w c s => knew x.1 Rc Rs pc lo st w c s
  | .newarray _ => fun call rg ks L nL Rc Rs x pc lo st w c s => knewa false x.1 2 Rc Rs pc lo st w c s
  | .anewarray _ => fun call rg ks L nL Rc Rs x pc lo st w c s => knewa true x.1 3 Rc Rs pc lo st w c s
  | .arraylength => fun call rg ks L nL Rc Rs x pc lo st w c s => kalen L pc lo st w c s
  | .iaload => fun call rg ks L nL Rc Rs x pc lo st w c s => kald rg L (fun t => Nat.beq t 0) pc lo st w c s
  | .baload => fun call rg ks L nL Rc Rs x pc lo st w c s => kald rg 0 (fun t => Nat.beq t 2 || Nat.beq t 4) pc lo st w c s
  | .laload => fun call rg ks L nL Rc Rs x pc lo st w c s => klald pc lo st w c s
  | .aaload => fun call rg ks L nL Rc Rs x pc lo st w c s => kaald pc lo st w c s
  | .iastore => fun call rg ks L nL Rc Rs x pc lo st w c s => kast (fun t => Nat.beq t 0) (fun _ a => a) pc lo st w c s
  | .bastore => fun call rg ks L nL Rc Rs x pc lo st w c s => kast (fun t => Nat.beq t 2 || Nat.beq t 4) (fun t a => bif Nat.beq t 2 then vp_nar .byte a else vp_nar .boolean a) pc lo st w c s
  | .lastore => fun call rg ks L nL Rc Rs x pc lo st w c s => klast pc lo st w c s
  | .aastore => fun call rg ks L nL Rc Rs x pc lo st w c s => kaast pc lo st w c s
  | .invokevirtual _ => fun call rg ks L nL Rc Rs x pc lo st w c s => kcallV call Rc Rs x pc lo st w c s
  | .invokespecial _ => fun call rg ks L nL Rc Rs x pc lo st w c s => bif Nat.beq x.1 999999 then kobj pc lo st w c s else kcallV call Rc Rs (x.1, x.2.1, x.2.2.1, x.2.2.2.1, x.2.2.2.2 % 100) pc lo st w c s
  | .ldc _ => fun call rg ks L nL Rc Rs x pc lo st w c s => some (pc + 2, lo, .inl (.int (Int32.ofNat x.1)) :: st, w, c, s)
  | .ldc_w _ => fun call rg ks L nL Rc Rs x pc lo st w c s => some (pc + 3, lo, .inl (.int (Int32.ofNat x.1)) :: st, w, c, s)
  | .invokestatic _ => fun call rg ks L nL Rc Rs x pc lo st w c s => bif Nat.beq x.1 999998 then kmin rg Rc Rs pc lo st w c s else bif Nat.beq x.1 999997 then kcopy pc lo st w c s else kcallS call Rc Rs x pc lo st w c s
  | _ => fun _ _ _ _ _ _ _ _ _ _ _ _ _ _ => none
def kend : Instr → Bool
  | .ireturn => true
  | .return_ => true
  | .lreturn => true
  | .areturn => true
  | _ => false
/-- what stands from a place on -/
def kfrom : List KEnt → Nat → List KEnt
  | [], _ => []
  | e :: l, pc => bif Nat.beq e.1 pc then e :: l else kfrom l pc
theorem kfrom_sub {l : List KEnt} {pc : Nat} : ∀ e ∈ kfrom l pc, e ∈ l := by
  induction l with
  | nil => intro e h; cases h
  | cons q l ih =>
    intro e h
    unfold kfrom at h
    cases q1 : Nat.beq q.1 pc with
    | true => rw [q1] at h; exact h
    | false => rw [q1] at h; exact List.mem_cons_of_mem _ (ih e h)
def krun (call : Nat → List KV → KW → Option (Option KV × KW)) (rg : List (Int × Int)) (ks : Option Int32) (L nL Rc Rs : Nat) (prog : List KEnt) : Nat → List KEnt → KF → Option (Instr × KF)
  | 0, _, _ => none
  | n + 1, cur, (pc, lo, st, w, c, s) => match cur with
    | [] => (match kfrom prog pc with
      | [] => none
      | e :: l => krun call rg ks L nL Rc Rs prog n (e :: l) (pc, lo, st, w, c, s))
    | e :: l => bif Nat.beq e.1 pc then
        (bif kend e.2.1 then some (e.2.1, pc, lo, st, w, c, s) else match kdo e.2.1 call rg ks L nL Rc Rs e.2.2 pc lo st w c s with
        | none => none
        | some k => krun call rg ks L nL Rc Rs prog n l k)
      else krun call rg ks L nL Rc Rs prog n [] (pc, lo, st, w, c, s)
def kargs : Nat → List KV → List (Nat × KV)
  | _, [] => []
  | i, v :: vs => (i, v) :: kargs (if kcat v = 2 then i + 2 else i + 1) vs
/-- an answer: none for void -/
def kret (ret : Option FieldType) (ig : Instr) (st : List KV) : Option (Option KV) := match ig with
  | .return_ => match ret, st with
    | none, [] => some none
    | _, _ => none
  | .ireturn => match ret, st with
    | some .int, [v] => bif kisI v then some (some v) else none
    | some .boolean, [.inl (.int x)] => bif decide (x = 0) || decide (x = 1) then some (some (.inl (.int x))) else none
    | _, _ => none
  | _ => none
def kfuel : Nat := 1000000
def kcall (ms : List KMeth) (rg : List (Int × Int)) (ks : Option Int32) : Nat → Nat → List KV → KW → Option (Option KV × KW)
  | 0, _, _, _ => none
  | d + 1, mid, args, w => match ms[mid]? with
    | none => none
    | some (_, _, maxL, ret, mc, mslots, prog) => bif Nat.ble (kcats args) maxL && Nat.blt (kfr 0 w) 1000000 then
        (match krun (kcall ms rg ks d) rg ks 0 maxL mc mslots prog kfuel prog (0, kargs 0 args, [], w, 0, 0) with
        | some (ig, _, _, st, w', c, s) => bif Nat.ble c mc && Nat.ble s mslots then (match kret ret ig st with
          | some r => some (r, w')
          | none => none) else none
        | none => none) else none
end
section
/-! What lies outside: statics, words, texts. -/
/-- outside: which labels are the same thing; the number that a word keeps -/
abbrev KO : Type := (Nat → Nat → Bool) × (Nat → Int64)
abbrev KY : Type := List (String × String × String)
/-- the statics; what is known of the words and texts -/
abbrev KZ : Type := KY × Option KO
def kTxt : List (List Int32) := [[], [32, 97, 98, 111, 117, 116], [32, 104, 117, 114, 116], [32, 105, 115, 32, 99, 108, 101, 97, 114], [32, 105, 115, 32, 102, 105, 108, 101, 100], [32, 105, 115, 32, 103, 114, 97, 110, 116, 101, 100], [32, 105, 115, 32, 118, 111, 105, 100], [32, 116, 104, 105, 114, 100], [32, 119, 97, 110, 116, 115]]
/-- the texts' constants: class, entry, text, number -/
def kLd : List (String × Nat × String × Nat) := [("TriplicateForms$Stamp", 66, "", 0), ("TriplicateForms$Stamp", 64, " about", 1), ("TriplicateForms$Stamp", 68, " hurt", 2), ("TriplicateForms$Stamp", 56, " is clear", 3), ("TriplicateForms$Stamp", 39, " is filed", 4), ("TriplicateForms$Stamp", 45, " is granted", 5), ("TriplicateForms$Stamp", 47, " is void", 6), ("TriplicateForms$Stamp", 70, " third", 7), ("TriplicateForms$Stamp", 58, " wants", 8)]
/-- a text: its String, its bytes -/
def kTx (l : List Int32) (a : Nat) (A : Nat → Prop) (U : State) (H : Heap) : Prop := ∃ v : Nat, va_O "java/lang/String" a A U H ∧ va_OF "java/lang/String" "coder" "B" (.int 0) a A U H ∧ va_OF "java/lang/String" "value" "[B" (.ref v) a A U H ∧ va_T .byte v l.length (fun j => .int (l.getD j 0)) A U H
theorem kTx.moved {l : List Int32} {a : Nat} {A : Nat → Prop} {u U : State} {H : Heap} (hvm : u.vm.Alike U.vm) (h : kTx l a A u H) : kTx l a A U H := by
  obtain ⟨v, h1, h2, h3, h4⟩ := h
  exact ⟨v, va_O.moved hvm h1, va_OF.moved hvm h2, va_OF.moved hvm h3, va_T.moved hvm h4⟩
theorem kTx.kept {l : List Int32} {a : Nat} {A : Nat → Prop} {U : State} {H H1 : Heap} (h : kTx l a A U H) (hq : ∀ a : Nat, a < H.size → ¬ A a → H1[a]? = H[a]?) : kTx l a A U H1 := by
  obtain ⟨v, h1, h2, h3, h4⟩ := h
  exact ⟨v, h1.kept hq, h2.kept hq, h3.kept hq, h4.kept hq⟩
theorem kTx.narrow {l : List Int32} {a : Nat} {A B : Nat → Prop} {U : State} {H : Heap} (h : kTx l a A U H) (hAB : ∀ q, B q → A q) : kTx l a B U H := by
  obtain ⟨v, h1, h2, h3, h4⟩ := h
  exact ⟨v, h1.narrow hAB, h2.narrow hAB, h3.narrow hAB, h4.narrow hAB⟩
def kOx (X : KO) (ad : Nat → Nat) (A : Nat → Prop) (U : State) (H : Heap) : Prop :=
  (∀ i j, 1000000 ≤ i → 1000000 ≤ j → (X.1 i j = true ↔ ad i = ad j)) ∧
  va_T (.object "TriplicateForms$Word") (ad 1000050) 30 (fun j => .ref (ad (1000100 + j))) A U H ∧
  (∀ i, i < 30 → va_OF "TriplicateForms$Word" "letters" "J" (.long (X.2 (1000100 + i))) (ad (1000100 + i)) A U H) ∧
  (∀ i l, kTxt[i]? = some l → kTx l (ad (1000200 + i)) A U H) ∧
  va_Z "java/lang/String" "COMPACT_STRINGS" "Z" (.int 1) A U H ∧
  va_Zq "jdk/internal/util/Preconditions" "SIOOBE_FORMATTER" "Ljava/util/function/BiFunction;" A U H ∧
  (∀ q ∈ kLd, vk_R q.1 q.2.1 q.2.2.1 (ad (1000200 + q.2.2.2)) U) ∧
  va_Nw (.fieldLinkNest "TriplicateForms$Tape" 70 "TriplicateForms" "WORDS" "[LTriplicateForms$Word;" "TriplicateForms") U
def kOuts (zs : KZ) (ad : Nat → Nat) (A : Nat → Prop) (U : State) (H : Heap) : Prop :=
  (∀ (i : Nat) (z : String × String × String), zs.1[i]? = some z → va_Z z.1 z.2.1 z.2.2 (.ref (ad (1000001 + i))) A U H) ∧ (∀ X, zs.2 = some X → kOx X ad A U H)
theorem kOuts.warm {zs : KZ} {ad : Nat → Nat} {A : Nat → Prop} {s U : State} {H : Heap} (hW : s.WarmedH U.vm) (h : kOuts zs ad A s H) : kOuts zs ad A U H :=
  ⟨fun i z hz => (h.1 i z hz).moved hW.alike, fun X hX => by
    obtain ⟨h1, h2, h3, h4, h5, h6, h7, h8⟩ := h.2 X hX
    exact ⟨h1, va_T.moved hW.alike h2, fun i hi => va_OF.moved hW.alike (h3 i hi), fun i l hl => kTx.moved hW.alike (h4 i l hl), h5.moved hW.alike, h6.moved hW.alike, fun q hq => (h7 q hq).warm hW, va_Nw.warmF hW h8⟩⟩
theorem kOuts.same {zs : KZ} {ad : Nat → Nat} {A : Nat → Prop} {u U : State} {H : Heap} (hvm : u.vm = U.vm) (h : kOuts zs ad A u H) : kOuts zs ad A U H := by
  have hv : u.vm.Alike U.vm := by rw [hvm]; exact Vm.Alike.refl _
  exact ⟨fun i z hz => (h.1 i z hz).moved hv, fun X hX => by
    obtain ⟨h1, h2, h3, h4, h5, h6, h7, h8⟩ := h.2 X hX
    exact ⟨h1, va_T.moved hv h2, fun i hi => va_OF.moved hv (h3 i hi), fun i l hl => kTx.moved hv (h4 i l hl), h5.moved hv, h6.moved hv, fun q hq => vk_R.same hvm.symm (h7 q hq), va_Nw.same rfl hvm h8⟩⟩
theorem kOuts.kept {zs : KZ} {ad : Nat → Nat} {A : Nat → Prop} {U : State} {H H1 : Heap} (h : kOuts zs ad A U H) (hq : ∀ a : Nat, a < H.size → ¬ A a → H1[a]? = H[a]?) : kOuts zs ad A U H1 :=
  ⟨fun i z hz => (h.1 i z hz).kept hq, fun X hX => by
    obtain ⟨h1, h2, h3, h4, h5, h6, h7, h8⟩ := h.2 X hX
    exact ⟨h1, h2.kept hq, fun i hi => (h3 i hi).kept hq, fun i l hl => (h4 i l hl).kept hq, h5.kept hq, h6.kept hq, h7, h8⟩⟩
theorem kOuts.narrow {zs : KZ} {ad : Nat → Nat} {A B : Nat → Prop} {U : State} {H : Heap} (h : kOuts zs ad A U H) (hAB : ∀ q, B q → A q) : kOuts zs ad B U H :=
  ⟨fun i z hz => (h.1 i z hz).narrow hAB, fun X hX => by
    obtain ⟨h1, h2, h3, h4, h5, h6, h7, h8⟩ := h.2 X hX
    exact ⟨h1, h2.narrow hAB, fun i hi => (h3 i hi).narrow hAB, fun i l hl => (h4 i l hl).narrow hAB, h5.narrow hAB, h6.narrow hAB, h7, h8⟩⟩
theorem kOuts.by {zs : KZ} {ad ad' : Nat → Nat} {A : Nat → Prop} {U : State} {H : Heap} (h : kOuts zs ad A U H) (ha : ∀ i, 1000000 ≤ i → ad' i = ad i) : kOuts zs ad' A U H := by
  have e : ∀ b i : Nat, 1000000 ≤ b → ad' (b + i) = ad (b + i) := fun b i hb => ha _ (Nat.le_trans hb (Nat.le_add_right _ _))
  refine ⟨fun i z hz => ?_, fun X hX => ?_⟩
  · rw [e 1000001 i (by decide)]
    exact h.1 i z hz
  · obtain ⟨h1, h2, h3, h4, h5, h6, h7, h8⟩ := h.2 X hX
    refine ⟨fun i j hi hj => ?_, ?_, fun i hi => ?_, fun i l hl => ?_, h5, h6, fun q hq => ?_, h8⟩
    · rw [ha i hi, ha j hj]
      exact h1 i j hi hj
    · rw [ha 1000050 (by decide), show (fun j => Value.ref (ad' (1000100 + j))) = (fun j => Value.ref (ad (1000100 + j))) from funext fun j => by rw [e 1000100 j (by decide)]]
      exact h2
    · rw [e 1000100 i (by decide)]
      exact h3 i hi
    · rw [e 1000200 i (by decide)]
      exact h4 i l hl
    · rw [e 1000200 q.2.2.2 (by decide)]
      exact h7 q hq
end
section
/-! What a step of the small machine says of the machine: from the judgement behind it to the judgement ahead of it. -/
def kTyL (dA : Nat → ClassId) : List (ClassId × FieldType) := [(dA 0, .int), (dA 1, .long), (dA 2, .byte), (dA 3, .char), (dA 4, .boolean), (dA 5, .object "TriplicateForms$Standing"), (dA 6, .object "TriplicateForms$Image")]
/-- the words that an instruction needs -/
def kwords (ms : List KMeth) (zs : KY) (own : String) (e : KEnt) : List Cond := match e.2.1 with
  | .getfield i => (match kCl[e.2.2.1]? with
    | some q => [.fieldLink own i (q.2.1 e.2.2.2.1).1 (q.2.1 e.2.2.2.1).2.1 (q.2.1 e.2.2.2.1).2.2.1]
    | none => [])
  | .putfield i => (match kCl[e.2.2.1]? with
    | some q => [.fieldLink own i (q.2.1 e.2.2.2.1).1 (q.2.1 e.2.2.2.1).2.1 (q.2.1 e.2.2.2.1).2.2.1]
    | none => [])
  | .getstatic i => (match zs[e.2.2.1]? with
    | some z => [.fieldLink own i z.1 z.2.1 z.2.2]
    | none => [])
  | .new i => (match kCl[e.2.2.1]? with
    | some q => [.classLink own i q.1, .instantiable q.1 q.2.2, .initialized q.1]
    | none => [])
  | .newarray t => [.arrayClass (newarray.typeOf t)]
  | .anewarray i => (match kEl[e.2.2.1]? with
    | some (.object C) => [.classLink own i C]
    | _ => [])
  | .ldc i => [.constant own i (Int32.ofNat e.2.2.1)]
  | .ldc_w i => [.constant own i (Int32.ofNat e.2.2.1)]
  | .invokevirtual i => (match ms[e.2.2.1]? with
    | some r => [.methodLink own i r.1, .instanceMethod r.1, .selects r.1.cls r.1 r.1, .initialized r.1.cls, .code r.1 r.2.1 r.2.2.1 r.2.2.2.1]
    | none => [])
  | .invokespecial i => bif Nat.beq e.2.2.1 999999 then [.methodLink own i objectInit, .instanceMethod objectInit, .code objectInit ⟨#[0xb1]⟩ 1 none] else (match ms[e.2.2.1]? with
    | some r => (bif Nat.ble 100 e.2.2.2.2.2.2 then [] else [.methodLink own i r.1]) ++ [.instanceMethod r.1, .initialized r.1.cls, .code r.1 r.2.1 r.2.2.1 r.2.2.2.1]
    | none => [])
  | .invokestatic i => bif Nat.beq e.2.2.1 999998 then [.methodLink own i Lib.Math.min.name, .static Lib.Math.min.name, .initialized "java/lang/Math", .code Lib.Math.min.name Lib.Math.min.code 2 (some .int)]
    else bif Nat.beq e.2.2.1 999997 then [.methodLink own i arraycopyName, .native arraycopyName, .static arraycopyName, .initialized "java/lang/System"] else (match ms[e.2.2.1]? with
    | some r => [.methodLink own i r.1, .static r.1, .initialized r.1.cls, .code r.1 r.2.1 r.2.2.1 r.2.2.2.1]
    | none => [])
  | _ => []
def ksideM (ms : List KMeth) (x : KX) (f : KMeth → Bool) : Bool := match ms[x.1]? with
  | some r => decide ((parseMethodDescriptor r.1.desc).map (fun d => d.parameters.length) = some x.2.1) && (Nat.beq r.2.2.2.2.1 x.2.2.1 && (Nat.beq r.2.2.2.2.2.1 x.2.2.2.1 && (decide (r.1.cls ≠ "java/lang/invoke/MethodHandle") && (decide (r.1.cls ≠ "java/lang/invoke/VarHandle") && (Nat.ble r.2.2.1 21 && f r)))))
  | none => false
/-- what else must be so of an instruction -/
def kside (ms : List KMeth) (zs : KY) (own mname : String) (e : KEnt) : Bool := match e.2.1 with
  | .getfield _ => (match kCl[e.2.2.1]? with
    | some q => Nat.blt e.2.2.2.1 q.2.2
    | none => false)
  | .putfield _ => (match kCl[e.2.2.1]? with
    | some q => Nat.blt e.2.2.2.1 q.2.2 && (bif (q.2.1 e.2.2.2.1).2.2.2 then decide (mname = "<init>") && decide ((q.2.1 e.2.2.2.1).1 = own) else true)
    | none => false)
  | .getstatic _ => Nat.blt e.2.2.1 zs.length
  | .new _ => (match kCl[e.2.2.1]?, kTys[e.2.2.1]? with
    | some q, some t => Nat.beq q.2.2 t.length
    | _, _ => false)
  | .newarray t => decide (kEl[e.2.2.1]? = some (newarray.typeOf t))
  | .anewarray _ => Nat.beq e.2.2.1 5 || Nat.beq e.2.2.1 6
  | .invokevirtual _ => ksideM ms e.2.2 (fun r => (match kCl[e.2.2.2.2.2.2]? with
    | some q => decide (q.1 = r.1.cls)
    | none => false))
  | .invokespecial i => Nat.beq e.2.2.1 999999 || ksideM ms e.2.2 (fun r => decide (r.1.name = "<init>") && (decide (r.2.2.2.1 = none) && (!Nat.ble 100 e.2.2.2.2.2.2 || decide ((own, i, r.1) ∈ kNW))))
  | .invokestatic _ => Nat.beq e.2.2.1 999998 || (Nat.beq e.2.2.1 999997 || ksideM ms e.2.2 (fun _ => true))
  | _ => true
/-- what the tables say that is not told by a method's words -/
def kSt (U : State) : Prop := (∀ q ∈ kNW, va_Nw (.methodLinkNest q.1 q.2.1 q.2.2 "TriplicateForms") U) ∧ va_AO "TriplicateForms$Standing" U ∧ va_AO "TriplicateForms$Image" U
theorem kSt.warm {s U : State} (hW : s.WarmedH U.vm) (h : kSt s) : kSt U := ⟨fun q hq => (h.1 q hq).warmM hW, h.2.1.moved hW.alike, h.2.2.moved hW.alike⟩
theorem kSt.same {u U : State} (hvm : u.vm = U.vm) (h : kSt u) : kSt U := ⟨fun q hq => va_Nw.same rfl hvm (h.1 q hq), h.2.1.moved (by rw [hvm]; exact Vm.Alike.refl _), h.2.2.moved (by rw [hvm]; exact Vm.Alike.refl _)⟩
def kFix (p : Program) (s : State) (m : MethodId) (args : Array Value) (meth : Method) (cd : Code) (cc : ByteArray) (nL : Nat) (own mname : String) (D : va_G) (dA : Nat → ClassId) (A : Nat → Prop) (zs : KZ) (ad0 : Nat → Nat) : Prop :=
  p.tables.exec = Jvm.exec ∧ cd.code = cc ∧ cd.maxLocals = nL ∧ s.vm.findClass own = some m.cls ∧ (∀ w ∈ LT, w.before args s = true) ∧ va_K D kCl (kTyL dA) s ∧ (∀ q, s.heap.size ≤ q → A q) ∧ (mname = "<init>" → meth.name = "<init>") ∧
  kOuts zs ad0 A s s.heap ∧
  kSt s
def kAt (s : State) (D : va_G) (dA : Nat → ClassId) (ρ : Nat → Int32) (A : Nat → Prop) (nL : Nat) (ad0 : Nat → Nat) (n0 : Nat) (ad : Nat → Nat) (ls : Array Slot) (lo : List (Nat × KV)) (w : KW) (H : Heap) (locs : List Loc) : Prop :=
  lv_has ls nL (kL ad ρ lo) ∧ va_P D kCl (kW dA ad ρ w) H ∧ va_D A (kW dA ad ρ w) ∧ va_S A s.heap H locs ∧ n0 ≤ kfr 0 w ∧ kExt n0 ad0 ad
def kGo (p : Program) (l : Launch) (e : Env) (R : Room) (s : State) (m : MethodId) (args : Array Value) (below : List Frame) (meth : Method) (cd : Code) (Q : State → Prop) (D : va_G) (dA : Nat → ClassId) (ρ : Nat → Int32) (A : Nat → Prop) (nL : Nat) (ad0 : Nat → Nat) (n0 : Nat) (k : KF) : Prop :=
  ∀ (ad : Nat → Nat) (H : Heap) (locs : List Loc) (ls : Array Slot), kAt s D dA ρ A nL ad0 n0 ad ls k.2.1 k.2.2.2.1 H locs → W p l e R s m args below meth cd H locs k.2.2.2.2.1 k.2.2.2.2.2 Q (F0 m k.1 ls (k.2.2.1.map (kV ad ρ)))
section KROWS
variable {p : Program} {l : Launch} {e : Env} {R : Room} {s : State} {m : MethodId} {args : Array Value} {below : List Frame} {meth : Method} {cd : Code} {Q : State → Prop} {D : va_G} {dA : Nat → ClassId} {ρ : Nat → Int32} {A : Nat → Prop} {nL : Nat} {ad0 : Nat → Nat} {n0 : Nat} {cc : ByteArray} {own mname : String} {zs : KZ} {rg : List (Int × Int)}
variable {pc : Nat} {lo : List (Nat × KV)} {st : List KV} {w : KW} {c sl : Nat} {k : KF}
theorem k_ild {i len : Nat} (hrow : ∀ (ad : Nat → Nat) (H : Heap) (locs : List Loc) (ls : Array Slot) (x : Int32), ls[i]? = some (.val (.int x)) → W p l e R s m args below meth cd H locs c sl Q (F0 m (pc + len) ls (.int x :: st.map (kV ad ρ))) → W p l e R s m args below meth cd H locs c sl Q (F0 m pc ls (st.map (kV ad ρ)))) (h : kld kisI i len pc lo st w c sl = some k) (g : kGo p l e R s m args below meth cd Q D dA ρ A nL ad0 n0 (k)) : kGo p l e R s m args below meth cd Q D dA ρ A nL ad0 n0 ((pc, lo, st, w, c, sl)) := by
  unfold kld at h
  split at h
  · rename_i v hk
    cases hv : kisI v with
    | false => rw [hv] at h; cases h
    | true =>
      rw [hv] at h; cases h
      intro ad H locs ls hat
      have g1 := g ad H locs ls hat
      simp only [List.map_cons] at g1
      rw [kisI_eq hv] at g1
      exact hrow ad H locs ls _ (by rw [kL_get hat.1 hk, kisI_eq hv]) g1
  · cases h
theorem k_ald {i len : Nat} (hrow : ∀ (ad : Nat → Nat) (H : Heap) (locs : List Loc) (ls : Array Slot) (x : Nat), ls[i]? = some (.val (.ref x)) → W p l e R s m args below meth cd H locs c sl Q (F0 m (pc + len) ls (.ref x :: st.map (kV ad ρ))) → W p l e R s m args below meth cd H locs c sl Q (F0 m pc ls (st.map (kV ad ρ))))
    (hrowN : ∀ (ad : Nat → Nat) (H : Heap) (locs : List Loc) (ls : Array Slot), ls[i]? = some (.val .null) → W p l e R s m args below meth cd H locs c sl Q (F0 m (pc + len) ls (.null :: st.map (kV ad ρ))) → W p l e R s m args below meth cd H locs c sl Q (F0 m pc ls (st.map (kV ad ρ)))) (h : kld kisQ i len pc lo st w c sl = some k) (g : kGo p l e R s m args below meth cd Q D dA ρ A nL ad0 n0 (k)) : kGo p l e R s m args below meth cd Q D dA ρ A nL ad0 n0 ((pc, lo, st, w, c, sl)) := by
  unfold kld at h
  split at h
  · rename_i v hk
    cases hv : kisQ v with
    | false => rw [hv] at h; cases h
    | true =>
      rw [hv] at h; cases h
      rcases kisQ_eq hv with ⟨a, rfl⟩ | rfl
      · intro ad H locs ls hat
        exact hrow ad H locs ls _ (kL_get hat.1 hk) (g ad H locs ls hat)
      · intro ad H locs ls hat
        exact hrowN ad H locs ls (kL_get hat.1 hk) (g ad H locs ls hat)
  · cases h
theorem k_ist {i len : Nat} (hrow : ∀ (ad : Nat → Nat) (H : Heap) (locs : List Loc) (ls : Array Slot) (x : Int32) (rest : List Value) (lv lv' : List (Nat × Value)), lv_has ls nL lv → i < nL → (i, Value.int x) :: lv.filter (fun q => !(q.1 == i) && !(q.1 + 1 == i && q.2.category == 2)) = lv' → (∀ ls' : Array Slot, lv_has ls' nL lv' → W p l e R s m args below meth cd H locs c sl Q (F0 m (pc + len) ls' rest)) → W p l e R s m args below meth cd H locs c sl Q (F0 m pc ls (.int x :: rest))) (h : kst kisI i len nL pc lo st w c sl = some k) (g : kGo p l e R s m args below meth cd Q D dA ρ A nL ad0 n0 (k)) : kGo p l e R s m args below meth cd Q D dA ρ A nL ad0 n0 ((pc, lo, st, w, c, sl)) := by
  unfold kst at h
  split at h
  · rename_i v rest
    cases hv : kisI v with
    | false => rw [hv] at h; cases h
    | true =>
      cases hi : Nat.blt i nL with
      | false => rw [hv, hi] at h; cases h
      | true =>
        rw [hv, hi] at h; cases h
        intro ad H locs ls hat
        have e1 := klo_c ad ρ lo i v
        rw [kisI_eq hv] at e1
        simp only [List.map_cons]
        rw [kisI_eq hv]
        exact hrow ad H locs ls _ _ _ _ hat.1 (Nat.ble_eq.mp hi) e1 (fun ls' hl' => g ad H locs ls' ⟨hl', hat.2⟩)
  · cases h
theorem k_ast {i len : Nat} (hrow : ∀ (ad : Nat → Nat) (H : Heap) (locs : List Loc) (ls : Array Slot) (x : Nat) (rest : List Value) (lv lv' : List (Nat × Value)), lv_has ls nL lv → i < nL → (i, Value.ref x) :: lv.filter (fun q => !(q.1 == i) && !(q.1 + 1 == i && q.2.category == 2)) = lv' → (∀ ls' : Array Slot, lv_has ls' nL lv' → W p l e R s m args below meth cd H locs c sl Q (F0 m (pc + len) ls' rest)) → W p l e R s m args below meth cd H locs c sl Q (F0 m pc ls (.ref x :: rest)))
    (hrowN : ∀ (ad : Nat → Nat) (H : Heap) (locs : List Loc) (ls : Array Slot) (rest : List Value) (lv lv' : List (Nat × Value)), lv_has ls nL lv → i < nL → (i, Value.null) :: lv.filter (fun q => !(q.1 == i) && !(q.1 + 1 == i && q.2.category == 2)) = lv' → (∀ ls' : Array Slot, lv_has ls' nL lv' → W p l e R s m args below meth cd H locs c sl Q (F0 m (pc + len) ls' rest)) → W p l e R s m args below meth cd H locs c sl Q (F0 m pc ls (.null :: rest))) (h : kst kisQ i len nL pc lo st w c sl = some k) (g : kGo p l e R s m args below meth cd Q D dA ρ A nL ad0 n0 (k)) : kGo p l e R s m args below meth cd Q D dA ρ A nL ad0 n0 ((pc, lo, st, w, c, sl)) := by
  unfold kst at h
  split at h
  · rename_i v rest
    cases hv : kisQ v with
    | false => rw [hv] at h; cases h
    | true =>
      cases hi : Nat.blt i nL with
      | false => rw [hv, hi] at h; cases h
      | true =>
        rw [hv, hi] at h; cases h
        rcases kisQ_eq hv with ⟨a, rfl⟩ | rfl
        · intro ad H locs ls hat
          exact hrow ad H locs ls _ _ _ _ hat.1 (Nat.ble_eq.mp hi) (klo_c ad ρ lo i (.inl (.ref a))) (fun ls' hl' => g ad H locs ls' ⟨hl', hat.2⟩)
        · intro ad H locs ls hat
          exact hrowN ad H locs ls _ _ _ hat.1 (Nat.ble_eq.mp hi) (klo_c ad ρ lo i (.inl .null)) (fun ls' hl' => g ad H locs ls' ⟨hl', hat.2⟩)
  · cases h
theorem kL_at {ad : Nat → Nat} {lo : List (Nat × KV)} {i : Nat} {v : KV} (hk : klook lo i = some v) : ∃ q : Nat, (kL ad ρ lo)[q]? = some (i, kV ad ρ v) := List.getElem?_of_mem (List.mem_map.mpr ⟨(i, v), klook_mem hk, rfl⟩)
theorem k_inc (F : kFix p s m args meth cd cc nL own mname D dA A zs ad0) {i : Nat} {n : Int} (hd : decode cc pc = .ok (.iinc i n, 3)) (h : kinc i n nL pc lo st w c sl = some k) (g : kGo p l e R s m args below meth cd Q D dA ρ A nL ad0 n0 (k)) : kGo p l e R s m args below meth cd Q D dA ρ A nL ad0 n0 ((pc, lo, st, w, c, sl)) := by
  unfold kinc at h
  split at h
  · rename_i x hk
    cases hi : Nat.blt i nL with
    | false => rw [hi] at h; cases h
    | true =>
      rw [hi] at h; cases h
      intro ad H locs ls hat
      obtain ⟨q, hq⟩ := kL_at (ad := ad) (ρ := ρ) hk
      exact lv_iinc F.1 F.2.1 hd hat.1 hq rfl (Nat.ble_eq.mp hi) (klo_c ad ρ lo i (.inl (.int (x + Int32.ofInt n)))) (fun ls' hl' => g ad H locs ls' ⟨hl', hat.2⟩)
  · cases h
theorem k_bin {f : Int32 → Int32 → Int32} (hrow : ∀ (H : Heap) (locs : List Loc) (ls : Array Slot) (x y : Int32) (rest : List Value), W p l e R s m args below meth cd H locs c sl Q (F0 m (pc + 1) ls (.int (f x y) :: rest)) → W p l e R s m args below meth cd H locs c sl Q (F0 m pc ls (.int y :: .int x :: rest))) (h : kbin f pc lo st w c sl = some k) (g : kGo p l e R s m args below meth cd Q D dA ρ A nL ad0 n0 (k)) : kGo p l e R s m args below meth cd Q D dA ρ A nL ad0 n0 ((pc, lo, st, w, c, sl)) := by
  unfold kbin at h
  split at h
  · rename_i y x rest
    cases hx : kisI x with
    | false => rw [hx] at h; cases h
    | true =>
      cases hy : kisI y with
      | false => rw [hx, hy] at h; cases h
      | true =>
        rw [hx, hy] at h; cases h
        intro ad H locs ls hat
        have g1 := g ad H locs ls hat
        simp only [List.map_cons] at g1 ⊢
        rw [kop2_ok] at g1
        rw [kisI_eq hx, kisI_eq hy]
        exact hrow H locs ls _ _ _ g1
  · cases h
theorem k_un {f : Int32 → Int32} (hrow : ∀ (H : Heap) (locs : List Loc) (ls : Array Slot) (x : Int32) (rest : List Value), W p l e R s m args below meth cd H locs c sl Q (F0 m (pc + 1) ls (.int (f x) :: rest)) → W p l e R s m args below meth cd H locs c sl Q (F0 m pc ls (.int x :: rest))) (h : kun f pc lo st w c sl = some k) (g : kGo p l e R s m args below meth cd Q D dA ρ A nL ad0 n0 (k)) : kGo p l e R s m args below meth cd Q D dA ρ A nL ad0 n0 ((pc, lo, st, w, c, sl)) := by
  unfold kun at h
  split at h
  · rename_i x rest
    cases hx : kisI x with
    | false => rw [hx] at h; cases h
    | true =>
      rw [hx] at h; cases h
      intro ad H locs ls hat
      have g1 := g ad H locs ls hat
      simp only [List.map_cons] at g1 ⊢
      rw [kop1_ok] at g1
      rw [kisI_eq hx]
      exact hrow H locs ls _ _ g1
  · cases h
theorem kisO_eq {v : KV} (h : kisO v = true) : v = .inr (.inl 0) := by
  rcases v with v | (i | f)
  · cases h
  · rw [kb_t (i := i) (j := 0) h]
  · cases h
theorem kis63_eq {v : KV} (h : kis63 v = true) : v = .inl (.int 63) := by
  unfold kis63 at h
  split at h
  · rw [of_decide_eq_true h]
  · cases h
theorem k_and (F : kFix p s m args meth cd cc nL own mname D dA A zs ad0) {ks : Option Int32} (hks : ∀ v, ks = some v → ρ 0 &&& 63 = v) (hd : decode cc pc = .ok (.iand, 1)) (h : kand ks pc lo st w c sl = some k) (g : kGo p l e R s m args below meth cd Q D dA ρ A nL ad0 n0 (k)) : kGo p l e R s m args below meth cd Q D dA ρ A nL ad0 n0 ((pc, lo, st, w, c, sl)) := by
  unfold kand at h
  split at h
  · rename_i y x rest
    cases hb : kisO x && kis63 y with
    | false =>
      rw [hb] at h
      exact k_bin (fun H locs ls x y rest q => lv_iand F.1 F.2.1 hd q) h g
    | true =>
      rw [hb] at h
      simp only [cond_true] at h
      split at h
      · rename_i v
        cases h
        have hb := Bool.and_eq_true_iff.mp hb
        rw [kisO_eq hb.1, kis63_eq hb.2]
        intro ad H locs ls hat
        have g1 := g ad H locs ls hat
        simp only [List.map_cons] at g1 ⊢
        refine lv_iand F.1 F.2.1 hd ?_
        rw [show kV ad ρ (.inl (.int v)) = .int (ρ 0 &&& 63) from by rw [hks v rfl]; rfl] at g1
        exact g1
      · cases h
  · cases h
theorem k_br {r : Option Bool} {P : Prop} {off : Int} {st0 : List KV} (hP : ∀ b, r = some b → (b = true ↔ P)) (hrow : ∀ (ad : Nat → Nat) (H : Heap) (locs : List Loc) (ls : Array Slot) (tgt : Nat), (pc : Int) + off = (tgt : Int) → (P → W p l e R s m args below meth cd H locs c sl Q (F0 m tgt ls (st.map (kV ad ρ)))) → (¬ P → W p l e R s m args below meth cd H locs c sl Q (F0 m (pc + 3) ls (st.map (kV ad ρ)))) → W p l e R s m args below meth cd H locs c sl Q (F0 m pc ls (st0.map (kV ad ρ))))
    (h : kbr (ktg pc off) r pc lo st w c sl = some k) (g : kGo p l e R s m args below meth cd Q D dA ρ A nL ad0 n0 (k)) : kGo p l e R s m args below meth cd Q D dA ρ A nL ad0 n0 ((pc, lo, st0, w, c, sl)) := by
  unfold kbr at h
  split at h
  · rename_i t ht
    split at h
    · rename_i b
      have hp := hP b rfl
      cases b with
      | true =>
        cases h
        intro ad H locs ls hat
        exact hrow ad H locs ls t (ktg_ok ht) (fun _ => g ad H locs ls hat) (fun q => absurd (hp.mp rfl) q)
      | false =>
        cases h
        intro ad H locs ls hat
        exact hrow ad H locs ls t (ktg_ok ht) (fun q => absurd (hp.mpr q) Bool.false_ne_true) (fun _ => g ad H locs ls hat)
    · cases h
  · cases h
end KROWS
end
section
section KROWS2
variable {p : Program} {l : Launch} {e : Env} {R : Room} {s : State} {m : MethodId} {args : Array Value} {below : List Frame} {meth : Method} {cd : Code} {Q : State → Prop} {D : va_G} {dA : Nat → ClassId} {ρ : Nat → Int32} {A : Nat → Prop} {nL : Nat} {ad0 : Nat → Nat} {n0 : Nat} {cc : ByteArray} {own mname : String} {zs : KZ} {rg : List (Int × Int)}
variable {pc : Nat} {lo : List (Nat × KV)} {st : List KV} {w : KW} {c sl : Nat} {k : KF}
theorem kmap_not {o : Option Bool} {b : Bool} (h : o.map not = some b) : ∃ b', o = some b' ∧ b = !b' := by
  cases o with
  | none => cases h
  | some b' => cases h; exact ⟨b', rfl, rfl⟩
theorem kneg {b' b : Bool} {P P' : Prop} (h : b = !b') (h1 : b' = true ↔ P) (hn : P' ↔ ¬ P) : b = true ↔ P' := by
  subst h
  rw [hn, ← h1]
  cases b' <;> simp
def kholds (cnd : Jvm.ClassFile.Cond) (x y : Int32) : Prop := match cnd with
  | .eq => x = y
  | .ne => ¬ x = y
  | .lt => x < y
  | .ge => y ≤ x
  | .gt => y < x
  | .le => x ≤ y
theorem kcond_ok (hr : kRg rg ρ) {cnd : Jvm.ClassFile.Cond} {a b : KV} {r : Bool} (h : kcond rg cnd a b = some r) : r = true ↔ kholds cnd (kiv ρ a) (kiv ρ b) := by
  cases cnd with
  | eq => exact keq_ok hr h
  | ne =>
    obtain ⟨b', h1, h2⟩ := kmap_not h
    exact kneg h2 (keq_ok hr h1) Iff.rfl
  | lt => exact klt_ok hr h
  | ge =>
    obtain ⟨b', h1, h2⟩ := kmap_not h
    exact kneg h2 (klt_ok hr h1) Int32.not_lt.symm
  | gt => exact klt_ok hr h
  | le =>
    obtain ⟨b', h1, h2⟩ := kmap_not h
    exact kneg h2 (klt_ok hr h1) Int32.not_lt.symm
theorem k_icmp (F : kFix p s m args meth cd cc nL own mname D dA A zs ad0) (hr : kRg rg ρ) {cnd : Jvm.ClassFile.Cond} {off : Int} (hd : decode cc pc = .ok (.if_icmp cnd off, 3)) (h : kicmp rg cnd off pc lo st w c sl = some k) (g : kGo p l e R s m args below meth cd Q D dA ρ A nL ad0 n0 (k)) : kGo p l e R s m args below meth cd Q D dA ρ A nL ad0 n0 ((pc, lo, st, w, c, sl)) := by
  unfold kicmp at h
  split at h
  · rename_i y x rest
    cases hx : kisI x with
    | false => rw [hx] at h; cases h
    | true =>
      cases hy : kisI y with
      | false => rw [hx, hy] at h; cases h
      | true =>
        rw [hx, hy] at h
        refine k_br (P := kholds cnd (kiv ρ x) (kiv ρ y)) (fun b hb => kcond_ok hr hb) (fun ad H locs ls tgt ht k1 k2 => ?_) h g
        simp only [List.map_cons]
        rw [kisI_eq hx, kisI_eq hy]
        cases cnd with
        | eq => exact lv_icmp_eq F.1 F.2.1 hd ht k1 k2
        | ne => exact lv_icmp_ne F.1 F.2.1 hd ht k1 (fun q => k2 (fun q2 => q2 q))
        | lt => exact lv_icmp_lt F.1 F.2.1 hd ht k1 k2
        | ge => exact lv_icmp_ge F.1 F.2.1 hd ht k1 k2
        | gt => exact lv_icmp_gt F.1 F.2.1 hd ht k1 k2
        | le => exact lv_icmp_le F.1 F.2.1 hd ht k1 k2
  · cases h
theorem k_if (F : kFix p s m args meth cd cc nL own mname D dA A zs ad0) (hr : kRg rg ρ) {cnd : Jvm.ClassFile.Cond} {off : Int} (hd : decode cc pc = .ok (.ifCond cnd off, 3)) (h : kif rg cnd off pc lo st w c sl = some k) (g : kGo p l e R s m args below meth cd Q D dA ρ A nL ad0 n0 (k)) : kGo p l e R s m args below meth cd Q D dA ρ A nL ad0 n0 ((pc, lo, st, w, c, sl)) := by
  unfold kif at h
  split at h
  · rename_i x rest
    cases hx : kisI x with
    | false => rw [hx] at h; cases h
    | true =>
      rw [hx] at h
      refine k_br (P := kholds cnd (kiv ρ x) 0) (fun b hb => kcond_ok hr hb) (fun ad H locs ls tgt ht k1 k2 => ?_) h g
      simp only [List.map_cons]
      rw [kisI_eq hx]
      cases cnd with
      | eq => exact lv_if_eq F.1 F.2.1 hd ht k1 k2
      | ne => exact lv_if_ne F.1 F.2.1 hd ht k1 (fun q => k2 (fun q2 => q2 q))
      | lt => exact lv_if_lt F.1 F.2.1 hd ht k1 k2
      | ge => exact lv_if_ge F.1 F.2.1 hd ht k1 k2
      | gt => exact lv_if_gt F.1 F.2.1 hd ht k1 k2
      | le => exact lv_if_le F.1 F.2.1 hd ht k1 k2
  · cases h
theorem krf_eq {v : KV} {o : Option Nat} (h : krf v = some o) (ad : Nat → Nat) : kV ad ρ v = va_rf (o.map ad) := by
  rcases v with v | z
  · cases v <;> first | (cases h; rfl) | cases h
  · cases h
theorem kreq_ok {a b : KV} {r : Bool} (h : kreq a b = some r) : ∃ oa ob, krf a = some oa ∧ krf b = some ob ∧ ∀ ad : Nat → Nat, r = true ↔ oa.map ad = ob.map ad := by
  unfold kreq at h
  split at h
  · rename_i h1 h2
    cases h
    exact ⟨_, _, h1, h2, fun ad => ⟨fun _ => rfl, fun _ => rfl⟩⟩
  · rename_i j h1 h2
    cases h
    exact ⟨_, _, h1, h2, fun ad => ⟨fun q => absurd q Bool.false_ne_true, fun q => by cases q⟩⟩
  · rename_i j h1 h2
    cases h
    exact ⟨_, _, h1, h2, fun ad => ⟨fun q => absurd q Bool.false_ne_true, fun q => by cases q⟩⟩
  · rename_i i j h1 h2
    cases q : Nat.beq i j with
    | false => rw [q] at h; cases h
    | true =>
      rw [q] at h; cases h
      have e := kb_t q
      subst e
      exact ⟨_, _, h1, h2, fun ad => ⟨fun _ => rfl, fun _ => rfl⟩⟩
  · cases h
theorem k_acmp (F : kFix p s m args meth cd cc nL own mname D dA A zs ad0) {cnd : Jvm.ClassFile.ACond} {off : Int} (hd : decode cc pc = .ok (.if_acmp cnd off, 3)) (h : kacmp cnd off pc lo st w c sl = some k) (g : kGo p l e R s m args below meth cd Q D dA ρ A nL ad0 n0 (k)) : kGo p l e R s m args below meth cd Q D dA ρ A nL ad0 n0 ((pc, lo, st, w, c, sl)) := by
  unfold kacmp at h
  split at h
  · rename_i y x rest
    cases cnd with
    | eq =>
      dsimp only at h
      cases hq : kreq x y with
      | none =>
        rw [hq] at h
        unfold kbr at h
        split at h <;> cases h
      | some b0 =>
        obtain ⟨ox, oy, h1, h2, h3⟩ := kreq_ok hq
        rw [hq] at h
        refine k_br (P := b0 = true) (fun b hb => by cases hb; exact Iff.rfl) (fun ad H locs ls tgt ht k1 k2 => ?_) h g
        simp only [List.map_cons]
        rw [krf_eq h1 ad, krf_eq h2 ad]
        exact lv_acmp_eq F.1 F.2.1 hd ht (fun q => k1 ((h3 ad).mpr q)) (fun q => k2 (fun b => q ((h3 ad).mp b)))
    | ne =>
      dsimp only at h
      cases hq : kreq x y with
      | none =>
        rw [hq] at h
        unfold kbr at h
        split at h <;> cases h
      | some b0 =>
        obtain ⟨ox, oy, h1, h2, h3⟩ := kreq_ok hq
        rw [hq] at h
        refine k_br (P := ¬ b0 = true) (fun b hb => by cases hb; cases b0 <;> simp) (fun ad H locs ls tgt ht k1 k2 => ?_) h g
        simp only [List.map_cons]
        rw [krf_eq h1 ad, krf_eq h2 ad]
        exact lv_acmp_ne F.1 F.2.1 hd ht (fun q => k1 (fun b => q ((h3 ad).mp b))) (fun q => k2 (fun b => b ((h3 ad).mpr q)))
  · cases h
theorem krg_isI {v : KV} {r : Int × Int} (h : krg rg v = some r) : kisI v = true := by
  rcases v with v | z
  · cases v <;> first | rfl | cases h
  · rfl
theorem k_sw (F : kFix p s m args meth cd cc nL own mname D dA A zs ad0) (hr : kRg rg ρ) {dflt lw hg : Int} {offs : Array Int} {len : Nat} (hd : decode cc pc = .ok (.tableswitch dflt lw hg offs, len)) (h : ksw rg dflt lw hg offs pc lo st w c sl = some k) (g : kGo p l e R s m args below meth cd Q D dA ρ A nL ad0 n0 (k)) : kGo p l e R s m args below meth cd Q D dA ρ A nL ad0 n0 ((pc, lo, st, w, c, sl)) := by
  unfold ksw at h
  split at h
  · rename_i v rest
    split at h
    · rename_i a b hv
      have hI := krg_isI hv
      have hb := krg_ok hr hv
      cases c1 : (decide (b < lw) || decide (hg < a)) with
      | true =>
        rw [c1] at h
        simp only [cond_true] at h
        split at h
        · rename_i t ht
          cases h
          intro ad H locs ls hat
          have g1 := g ad H locs ls hat
          simp only [List.map_cons]
          rw [kisI_eq hI]
          refine lv_tableOut F.1 F.2.1 hd ?_ (ktg_ok ht) g1
          rcases Bool.or_eq_true_iff.mp c1 with q | q
          · have := of_decide_eq_true q; omega
          · have := of_decide_eq_true q; omega
        · cases h
      | false =>
        rw [c1] at h
        simp only [cond_false] at h
        cases c2 : decide (a = b) with
        | false => rw [c2] at h; cases h
        | true =>
          rw [c2] at h
          simp only [cond_true] at h
          have e1 := of_decide_eq_true c2
          split at h
          · rename_i off ho
            split at h
            · rename_i t ht
              cases h
              have c1 := Bool.or_eq_false_iff.mp c1
              have q1 := of_decide_eq_false c1.1
              have q2 := of_decide_eq_false c1.2
              have e2 : (kiv ρ v).toInt = a := by omega
              intro ad H locs ls hat
              have g1 := g ad H locs ls hat
              simp only [List.map_cons]
              rw [kisI_eq hI]
              exact lv_tableIn F.1 F.2.1 hd (by omega) (by omega) (by rw [e2, ← Array.getElem?_toList]; exact ho) (ktg_ok ht) g1
            · cases h
          · cases h
    · cases h
  · cases h
theorem k_getf (F : kFix p s m args meth cd cc nL own mname D dA A zs ad0) {ci k0 i : Nat} {q : vw_C} (hq : kCl[ci]? = some q) (hk : k0 < q.2.2) (hlink : (Cond.fieldLink own i (q.2.1 k0).1 (q.2.1 k0).2.1 (q.2.1 k0).2.2.1) ∈ LT) (hd : decode cc pc = .ok (.getfield i, 3)) (h : kgetf ci k0 pc lo st w c sl = some k) (g : kGo p l e R s m args below meth cd Q D dA ρ A nL ad0 n0 (k)) : kGo p l e R s m args below meth cd Q D dA ρ A nL ad0 n0 ((pc, lo, st, w, c, sl)) := by
  unfold kgetf at h
  split at h
  · rename_i a rest
    split at h
    · rename_i cj fs hw
      cases hc : Nat.beq cj ci with
      | false => rw [hc] at h; cases h
      | true =>
        rw [hc] at h
        simp only [cond_true] at h
        have e := kb_t hc
        subst e
        split at h
        · rename_i v hv
          cases h
          intro ad H locs ls hat
          obtain ⟨q0, h1, -⟩ := kW_get (dA := dA) (ad := ad) (ρ := ρ) hw
          obtain ⟨C, T, N⟩ := q
          exact va_get (ws := kW dA ad ρ w) F.1 F.2.1 F.2.2.2.2.1 (kCl_ok cj _ hq).1 F.2.2.2.1 F.2.2.2.2.2.1 hat.2.1 q0 h1 hq k0 hk (F.2.2.2.2.1 _ hlink) (fun _ h9 => h9) (v := kV ad ρ v) (by rw [List.getElem?_map, hv]; rfl) hd (g ad H locs ls hat)
        · cases h
    · cases h
  · cases h
theorem kfit_ok {ty : FieldType} {v : KV} {ad : Nat → Nat} (h : kfit ty v = true) : narrow ty (kV ad ρ v) = kV ad ρ v ∧ fits ty (kV ad ρ v) = true := by
  unfold kfit at h
  split at h
  · rw [kisI_eq h]
    exact ⟨rfl, rfl⟩
  · split at h
    · rename_i x
      rcases Bool.or_eq_true_iff.mp h with q | q
      · have e := of_decide_eq_true q
        subst e
        exact ⟨rfl, rfl⟩
      · have e := of_decide_eq_true q
        subst e
        exact ⟨rfl, rfl⟩
    · cases h
  · split at h
    · exact ⟨rfl, rfl⟩
    · cases h
  · split at h
    · exact ⟨rfl, rfl⟩
    · exact ⟨rfl, rfl⟩
    · cases h
  · split at h
    · exact ⟨rfl, rfl⟩
    · exact ⟨rfl, rfl⟩
    · cases h
  · cases h
theorem k_putf (F : kFix p s m args meth cd cc nL own mname D dA A zs ad0) {ci k0 i : Nat} {q : vw_C} (hq : kCl[ci]? = some q) (hk : k0 < q.2.2) (hfin : (q.2.1 k0).2.2.2 = false ∨ ((q.2.1 k0).2.2.2 = true ∧ mname = "<init>" ∧ (q.2.1 k0).1 = own)) (hlink : (Cond.fieldLink own i (q.2.1 k0).1 (q.2.1 k0).2.1 (q.2.1 k0).2.2.1) ∈ LT) (hd : decode cc pc = .ok (.putfield i, 3)) (h : kputf ci k0 pc lo st w c sl = some k) (g : kGo p l e R s m args below meth cd Q D dA ρ A nL ad0 n0 (k)) : kGo p l e R s m args below meth cd Q D dA ρ A nL ad0 n0 ((pc, lo, st, w, c, sl)) := by
  unfold kputf at h
  split at h
  · rename_i v a rest
    split at h
    · rename_i cj fs hw
      cases hc : (Nat.beq cj ci && (Nat.blt k0 fs.length && kfit (kTy ci k0) v)) with
      | false => rw [hc] at h; cases h
      | true =>
        rw [hc] at h; cases h
        have hc := Bool.and_eq_true_iff.mp hc
        have hc2 := Bool.and_eq_true_iff.mp hc.2
        have e := kb_t hc.1
        subst e
        intro ad H locs ls hat
        obtain ⟨hl, hP, hD, hS, hn, hE⟩ := hat
        obtain ⟨q0, h1, h2⟩ := kW_get (dA := dA) (ad := ad) (ρ := ρ) hw
        obtain ⟨C, T, N⟩ := q
        obtain ⟨G1, G2, G3⟩ := kCl_ok cj _ hq
        have hf := kfit_ok (ρ := ρ) (ad := ad) hc2.2
        have hlt : k0 < (fs.map (kV ad ρ)).length := by rw [List.length_map]; exact Nat.ble_eq.mp hc2.1
        have e3 : (ad a, (.inr (cj, (fs.map (kV ad ρ)).set k0 (kV ad ρ v)) : va_E)) = (ad a, kE dA ad ρ (.inr (cj, fs.set k0 v))) := by
          show _ = (ad a, (Sum.inr (cj, (fs.set k0 v).map (kV ad ρ)) : va_E))
          rw [List.map_set]
        have kk : ∀ (H1 : Heap) (locs1 : List Loc), va_P D kCl ((kW dA ad ρ w).set q0 (ad a, .inr (cj, (fs.map (kV ad ρ)).set k0 (kV ad ρ v)))) H1 → va_D A ((kW dA ad ρ w).set q0 (ad a, .inr (cj, (fs.map (kV ad ρ)).set k0 (kV ad ρ v)))) → va_S A s.heap H1 locs1 → W p l e R s m args below meth cd H1 locs1 c sl Q (F0 m (pc + 3) ls (rest.map (kV ad ρ))) := by
          intro H1 locs1 p1 p2 p3
          rw [e3, h2] at p1 p2
          exact g ad H1 locs1 ls ⟨hl, p1, p2, p3, by rw [kfr_set]; exact hn, hE⟩
        rcases hfin with hf1 | ⟨hf1, hf2, hf3⟩
        · exact va_put (ws := kW dA ad ρ w) F.1 F.2.1 F.2.2.2.2.1 G1 (kTy cj) G2 G3 F.2.2.2.1 F.2.2.2.2.2.1 hP hD hS q0 h1 hq k0 hk (F.2.2.2.2.1 _ hlink) (fun _ h9 => h9) hf1 (G2 k0 hk) hf.1 hf.2 hlt hd kk
        · exact va_putF (ws := kW dA ad ρ w) F.1 F.2.1 F.2.2.2.2.1 G1 (kTy cj) G2 G3 F.2.2.2.1 F.2.2.2.2.2.1 hP hD hS q0 h1 hq k0 hk (F.2.2.2.2.1 _ hlink) (fun _ h9 => h9) hf1 (F.2.2.2.2.2.2.2.1 hf2) hf3 (G2 k0 hk) hf.1 hf.2 hlt hd kk
    · cases h
  · cases h
end KROWS2
end
section
section KROWS3
variable {p : Program} {l : Launch} {e : Env} {R : Room} {s : State} {m : MethodId} {args : Array Value} {below : List Frame} {meth : Method} {cd : Code} {Q : State → Prop} {D : va_G} {dA : Nat → ClassId} {ρ : Nat → Int32} {A : Nat → Prop} {nL : Nat} {ad0 : Nat → Nat} {n0 : Nat} {cc : ByteArray} {own mname : String} {zs : KZ} {rg : List (Int × Int)}
variable {pc : Nat} {lo : List (Nat × KV)} {st : List KV} {w : KW} {c sl : Nat} {k : KF} {Rc Rs : Nat}
/-- the script, as the law's frame sees it -/
def kSc (s : State) (A : Nat → Prop) (ad0 : Nat → Nat) (ρ : Nat → Int32) (L : Nat) : Prop := 0 < L → ∃ (b : Nat) (xs : Nat → Int32), va_X b (L - 1) xs s s.heap ∧ b < s.heap.size ∧ ¬ A b ∧ ad0 1000000 = b ∧ ∀ j, j < L - 1 → ρ j = xs j
theorem kfresh_ok {n : Nat} (h : kfresh c sl n Rc Rs lo st w = true) : c + 1 ≤ Rc ∧ sl + n ≤ Rs ∧ kfr 0 w < 1000000 ∧ kokW (kfr 0 w) w = true ∧ kokS (kfr 0 w) st = true ∧ kokL (kfr 0 w) lo = true := by
  unfold kfresh at h
  simp only [Bool.and_eq_true] at h
  obtain ⟨h1, h2, h3, h4, h5, h6⟩ := h
  exact ⟨Nat.ble_eq.mp h1, Nat.ble_eq.mp h2, Nat.ble_eq.mp h3, h4, h5, h6⟩
theorem k_born {n : Nat} {x : KE} {pc2 c2 s2 : Nat} {ad : Nat → Nat} {H : Heap} {locs : List Loc} {ls : Array Slot} (hf : kfresh c sl n Rc Rs lo st w = true) (hat : kAt s D dA ρ A nL ad0 n0 ad ls lo w H locs) (hx : ∀ q, kE dA (kup ad (kfr 0 w) q) ρ x = kE dA ad ρ x) (g : kGo p l e R s m args below meth cd Q D dA ρ A nL ad0 n0 ((pc2, lo, .inl (.ref (kfr 0 w)) :: st, kwp x w, c2, s2))) :
    ∀ (q : Nat) (H1 : Heap), va_P D kCl (kW dA ad ρ w ++ [(q, kE dA ad ρ x)]) H1 → va_D A (kW dA ad ρ w ++ [(q, kE dA ad ρ x)]) → va_S A s.heap H1 locs → W p l e R s m args below meth cd H1 locs c2 s2 Q (F0 m pc2 ls (.ref q :: st.map (kV ad ρ))) := by
  intro q H1 p1 p2 p3
  obtain ⟨-, -, h3, h4, h5, h6⟩ := kfresh_ok hf
  obtain ⟨hl, hP, hD, hS, hn, hE⟩ := hat
  rw [kW_push q x h3 h4 (hx q)] at p1 p2
  have hup : kExt (kfr 0 w) ad (kup ad (kfr 0 w) q) := kExt.up q h3
  have g1 := g (kup ad (kfr 0 w) q) H1 locs ls ⟨by rw [kL_ext hup h6]; exact hl, p1, p2, p3, by rw [kfr_push]; exact Nat.le_succ_of_le hn, hE.tr hup hn⟩
  simp only [List.map_cons] at g1
  rw [kS_ext hup h5] at g1
  have e1 : kV (kup ad (kfr 0 w) q) ρ (.inl (.ref (kfr 0 w))) = .ref q := by
    show Value.ref (kup ad (kfr 0 w) q (kfr 0 w)) = _
    unfold kup
    rw [if_pos rfl]
  rw [e1] at g1
  exact g1
theorem kdef_ok (ad : Nat → Nat) (t : FieldType) : kV ad ρ (.inl (defaultValue t)) = defaultValue t := by
  cases t <;> rfl
theorem k_new (F : kFix p s m args meth cd cc nL own mname D dA A zs ad0) (hRc : Rc ≤ R.cells) (hRs : Rs ≤ R.slots) {ci i : Nat} {q : vw_C} {tys : List FieldType} (hq : kCl[ci]? = some q) (ht : kTys[ci]? = some tys) (hN : q.2.2 = tys.length) (h1 : Cond.classLink own i q.1 ∈ LT) (h2 : Cond.instantiable q.1 q.2.2 ∈ LT) (h3 : Cond.initialized q.1 ∈ LT) (hd : decode cc pc = .ok (.new i, 3)) (h : knew ci Rc Rs pc lo st w c sl = some k) (g : kGo p l e R s m args below meth cd Q D dA ρ A nL ad0 n0 (k)) : kGo p l e R s m args below meth cd Q D dA ρ A nL ad0 n0 ((pc, lo, st, w, c, sl)) := by
  unfold knew at h
  rw [ht] at h
  dsimp only at h
  cases hf : kfresh c sl tys.length Rc Rs lo st w with
  | false => rw [hf] at h; cases h
  | true =>
    rw [hf] at h; cases h
    obtain ⟨f1, f2, -⟩ := kfresh_ok hf
    intro ad H locs ls hat
    obtain ⟨C, T, N⟩ := q
    have hN : N = tys.length := hN
    subst hN
    obtain ⟨G1, G2, G3⟩ := kCl_ok ci _ hq
    have hts := F.2.2.2.2.1
    refine va_new (ws := kW dA ad ρ w) (fs := (tys.map (fun t => (.inl (defaultValue t) : KV))).map (kV ad ρ)) F.1 F.2.1 hts G1 (kTy ci) G2 F.2.2.2.1 (hts _ h1) (hts _ h2) (hts _ h3) F.2.2.2.2.2.1 hat.2.1 hat.2.2.1 hat.2.2.2.1 F.2.2.2.2.2.2.1 hq ?_ (Nat.le_trans f1 hRc) (Nat.le_trans f2 hRs) hd (k_born hf hat ?_ g)
    · intro j hj
      have hj : j < tys.length := hj
      unfold vp_V kTy
      simp only [List.getD_eq_getElem?_getD, List.getElem?_map, ht, Option.getD_some, List.getElem?_eq_getElem hj, Option.map_some, kdef_ok]
    · intro q
      show (Sum.inr (ci, (tys.map (fun t => (.inl (defaultValue t) : KV))).map (kV (kup ad (kfr 0 w) q) ρ)) : va_E) = .inr (ci, (tys.map (fun t => (.inl (defaultValue t) : KV))).map (kV ad ρ))
      simp only [List.map_map]
      congr 3
      funext t
      simp only [Function.comp_apply, kdef_ok]
theorem kbl {n : Nat} (h : n < 100000) (b : Nat) (hb : b ≤ 8) : n * b ≤ 536870912 := Nat.le_trans (Nat.mul_le_mul (Nat.le_of_lt h) hb) (by decide)
theorem kra_eq {U : State} {a b : ClassId} {ty : FieldType} (h1 : va_RA U a ty) (h2 : va_RA U b ty) : a = b := by
  cases ty with
  | object C =>
    obtain ⟨_, _, _, _, _, q1⟩ := h1
    obtain ⟨_, _, _, _, _, q2⟩ := h2
    exact Option.some.inj (q1.symm.trans q2)
  | _ => exact Option.some.inj (h1.symm.trans h2)
theorem k_cA {U : State} {t : Nat} {cA : ClassId} {ty : FieldType} (ht : (kTyL dA)[t]? = some (dA t, ty)) (hK : va_K D kCl (kTyL dA) U) (hK2 : va_K D kCl (kTyL dA ++ [(cA, ty)]) U) : cA = dA t :=
  kra_eq (hK2.2 (kTyL dA).length (cA, ty) (by rw [List.getElem?_append_right (Nat.le_refl _), Nat.sub_self]; rfl)).2 (hK.2 t _ ht).2
theorem kEl_ty {t : Nat} {ty : FieldType} (h : kEl[t]? = some ty) : (kTyL dA)[t]? = some (dA t, ty) := by
  match t, h with
  | 0, h => cases h; rfl
  | 1, h => cases h; rfl
  | 2, h => cases h; rfl
  | 3, h => cases h; rfl
  | 4, h => cases h; rfl
  | 5, h => cases h; rfl
  | 6, h => cases h; rfl
  | n + 7, h => simp [kEl] at h
theorem k_newa (F : kFix p s m args meth cd cc nL own mname D dA A zs ad0) (hRc : Rc ≤ R.cells) (hRs : Rs ≤ R.slots) {t : Nat} {at0 : ArrayType} (ht : kEl[t]? = some (newarray.typeOf at0)) (h1 : Cond.arrayClass (newarray.typeOf at0) ∈ LT) (hd : decode cc pc = .ok (.newarray at0, 2)) (h : knewa false t 2 Rc Rs pc lo st w c sl = some k) (g : kGo p l e R s m args below meth cd Q D dA ρ A nL ad0 n0 (k)) : kGo p l e R s m args below meth cd Q D dA ρ A nL ad0 n0 ((pc, lo, st, w, c, sl)) := by
  unfold knewa at h
  split at h
  · rename_i n rest
    cases hb : (!decide (n < 0) && (Nat.blt n.toNatClampNeg 100000 && (kfresh c sl n.toNatClampNeg Rc Rs lo rest w && (Nat.blt t 7 && (Nat.ble 5 t == false))))) with
    | false => rw [hb] at h; cases h
    | true =>
      rw [hb] at h; cases h
      simp only [Bool.and_eq_true, Bool.not_eq_true', decide_eq_false_iff_not] at hb
      obtain ⟨b1, b2, hf, b3, b4⟩ := hb
      have b2 : n.toNatClampNeg < 100000 := Nat.ble_eq.mp b2
      obtain ⟨f1, f2, -⟩ := kfresh_ok hf
      have hts := F.2.2.2.2.1
      intro ad H locs ls hat
      have key : ∀ (a0 : vp_A), (∀ cA : ClassId, vp_cell cA a0 = arrV cA n.toNatClampNeg (fun _ => defaultValue (newarray.typeOf at0))) → kE dA ad ρ (.inl (karr0 t n.toNatClampNeg)) = .inl (dA t, a0) → (∀ q, kE dA (kup ad (kfr 0 w) q) ρ (.inl (karr0 t n.toNatClampNeg)) = kE dA ad ρ (.inl (karr0 t n.toNatClampNeg))) → W p l e R s m args below meth cd H locs c sl Q (F0 m pc ls (((.inl (.int n) :: rest : List KV)).map (kV ad ρ))) := by
        intro a0 ha he hq
        refine va_newa (ws := kW dA ad ρ w) (a0 := a0) F.1 F.2.1 (hts _ h1) rfl F.2.2.2.2.2.1 hat.2.1 hat.2.2.1 hat.2.2.2.1 F.2.2.2.2.2.2.1 ha b1 rfl (kbl b2 _ (by cases at0 <;> decide)) (Nat.le_trans f1 hRc) (Nat.le_trans f2 hRs) hd ?_
        intro q cA H1 hK2 p1 p2 p3
        have ec := k_cA (kEl_ty ht) F.2.2.2.2.2.1 hK2
        subst ec
        rw [← he] at p1 p2
        exact k_born hf hat hq g q H1 p1 p2 p3
      match t, ht with
      | 0, ht => exact key (_, .inl (fun _ => 0)) (fun cA => by rw [← Option.some.inj ht]; rfl) rfl (fun _ => rfl)
      | 1, ht => exact key (_, .inr (.inl (fun _ => 0))) (fun cA => by rw [← Option.some.inj ht]; rfl) rfl (fun _ => rfl)
      | 2, ht => exact key (_, .inl (fun _ => 0)) (fun cA => by rw [← Option.some.inj ht]; rfl) rfl (fun _ => rfl)
      | 3, ht => exact key (_, .inl (fun _ => 0)) (fun cA => by rw [← Option.some.inj ht]; rfl) rfl (fun _ => rfl)
      | 4, ht => exact key (_, .inl (fun _ => 0)) (fun cA => by rw [← Option.some.inj ht]; rfl) rfl (fun _ => rfl)
      | 5, ht => exact absurd b4 (by decide)
      | 6, ht => exact absurd b4 (by decide)
      | n + 7, ht => simp [kEl] at ht
  · cases h
theorem k_newq (F : kFix p s m args meth cd cc nL own mname D dA A zs ad0) (hRc : Rc ≤ R.cells) (hRs : Rs ≤ R.slots) {t i : Nat} {C : String} (ht : kEl[t]? = some (.object C)) (h56 : t = 5 ∨ t = 6) (h1 : Cond.classLink own i C ∈ LT) (h2 : va_AO C s) (hd : decode cc pc = .ok (.anewarray i, 3)) (h : knewa true t 3 Rc Rs pc lo st w c sl = some k) (g : kGo p l e R s m args below meth cd Q D dA ρ A nL ad0 n0 (k)) : kGo p l e R s m args below meth cd Q D dA ρ A nL ad0 n0 ((pc, lo, st, w, c, sl)) := by
  unfold knewa at h
  split at h
  · rename_i n rest
    cases hb : (!decide (n < 0) && (Nat.blt n.toNatClampNeg 100000 && (kfresh c sl n.toNatClampNeg Rc Rs lo rest w && (Nat.blt t 7 && (Nat.ble 5 t == true))))) with
    | false => rw [hb] at h; cases h
    | true =>
      rw [hb] at h; cases h
      simp only [Bool.and_eq_true, Bool.not_eq_true', decide_eq_false_iff_not] at hb
      obtain ⟨b1, b2, hf, b3, b4⟩ := hb
      have b2 : n.toNatClampNeg < 100000 := Nat.ble_eq.mp b2
      obtain ⟨f1, f2, -⟩ := kfresh_ok hf
      have hts := F.2.2.2.2.1
      intro ad H locs ls hat
      have he : ∀ ad : Nat → Nat, kE dA ad ρ (.inl (karr0 t n.toNatClampNeg)) = .inl (dA t, n.toNatClampNeg, .inr (.inr (.inr (.inr (fun _ => none))))) := by
        intro ad
        rcases h56 with rfl | rfl <;> rfl
      refine va_newq (ws := kW dA ad ρ w) F.1 F.2.1 F.2.2.2.1 (hts _ h1) h2 F.2.2.2.2.2.1 hat.2.1 hat.2.2.1 hat.2.2.2.1 F.2.2.2.2.2.2.1 b1 rfl (kbl b2 _ (by decide)) (Nat.le_trans f1 hRc) (Nat.le_trans f2 hRs) hd ?_
      intro q cA H1 hK2 p1 p2 p3
      have ec := k_cA (kEl_ty ht) F.2.2.2.2.2.1 hK2
      subst ec
      rw [← he ad] at p1 p2
      exact k_born hf hat (fun q => by rw [he, he]) g q H1 p1 p2 p3
  · cases h
theorem kscr_eq {v : KV} (h : kscr v = true) : v = .inl (.ref 1000000) := by
  unfold kscr at h
  split at h
  · rw [kb_t h]
  · cases h
theorem k_alen (F : kFix p s m args meth cd cc nL own mname D dA A zs ad0) {L : Nat} (hX : kSc s A ad0 ρ L) (hd : decode cc pc = .ok (.arraylength, 1)) (h : kalen L pc lo st w c sl = some k) (g : kGo p l e R s m args below meth cd Q D dA ρ A nL ad0 n0 (k)) : kGo p l e R s m args below meth cd Q D dA ρ A nL ad0 n0 ((pc, lo, st, w, c, sl)) := by
  unfold kalen at h
  split at h
  · rename_i v rest
    cases hb : kscr v && Nat.blt 0 L with
    | true =>
      rw [hb] at h; cases h
      have hb := Bool.and_eq_true_iff.mp hb
      obtain ⟨b, xs, x1, x2, x3, x4, x5⟩ := hX (Nat.ble_eq.mp hb.2)
      rw [kscr_eq hb.1]
      intro ad H locs ls hat
      have g1 := g ad H locs ls hat
      simp only [List.map_cons] at g1 ⊢
      have e1 : kV ad ρ (.inl (.ref 1000000)) = .ref b := by
        show Value.ref (ad 1000000) = _
        rw [hat.2.2.2.2.2 1000000 (Or.inr (Nat.le_refl _)), x4]
      rw [e1]
      exact va_slen F.1 F.2.1 x1 x2 x3 hat.2.2.2.1 hd g1
    | false =>
      rw [hb] at h
      simp only [cond_false] at h
      split at h
      · rename_i a
        split at h
        · rename_i t n x hw
          cases ht : Nat.blt t 7 with
          | false => rw [ht] at h; cases h
          | true =>
            rw [ht] at h; cases h
            have ht : t < 7 := Nat.ble_eq.mp ht
            intro ad H locs ls hat
            obtain ⟨q0, h1, -⟩ := kW_get (dA := dA) (ad := ad) (ρ := ρ) hw
            have g1 := g ad H locs ls hat
            obtain ⟨ty, hty⟩ : ∃ ty, kEl[t]? = some ty := ⟨kEl[t]'(by show t < 7; exact ht), List.getElem?_eq_getElem _⟩
            rcases x with ⟨l1, d1⟩ | ⟨l1, d1⟩ | l1
            · exact va_alen (ws := kW dA ad ρ w) F.1 F.2.1 F.2.2.2.2.2.1 hat.2.1 q0 t h1 (kEl_ty hty) rfl hd g1
            · exact va_alen (ws := kW dA ad ρ w) F.1 F.2.1 F.2.2.2.2.2.1 hat.2.1 q0 t h1 (kEl_ty hty) rfl hd g1
            · exact va_alen (ws := kW dA ad ρ w) F.1 F.2.1 F.2.2.2.2.2.1 hat.2.1 q0 t h1 (kEl_ty hty) rfl hd g1
        · cases h
      · cases h
  · cases h
theorem kinB_ok {i : Int32} {n : Nat} (h : kinB i n = true) : vp_in i n := by
  unfold kinB at h
  simp only [Bool.and_eq_true, Bool.not_eq_true', decide_eq_false_iff_not] at h
  have h2 : i.toNatClampNeg < n := Nat.ble_eq.mp h.2
  intro q
  rcases q with q | q
  · exact h.1 q
  · omega
theorem kscl_ok (hr : kRg rg ρ) {j : Nat} {x : KV} (h : kscl rg j = some x) (ad : Nat → Nat) : kV ad ρ x = .int (ρ j) := by
  unfold kscl at h
  split at h
  · rename_i a b hab
    have h1 := hr j a b hab
    cases hc : decide (a = b) with
    | true =>
      rw [hc] at h; cases h
      have e := of_decide_eq_true hc
      have e2 : (ρ j).toInt = a := by omega
      show Value.int (Int32.ofInt a) = _
      rw [← e2, Int32.ofInt_toInt]
    | false =>
      rw [hc] at h; cases h
      rfl
  · cases h
theorem k_iald (F : kFix p s m args meth cd cc nL own mname D dA A zs ad0) (hr : kRg rg ρ) {L : Nat} (hX : kSc s A ad0 ρ L) (hd : decode cc pc = .ok (.iaload, 1)) (h : kald rg L (fun t => Nat.beq t 0) pc lo st w c sl = some k) (g : kGo p l e R s m args below meth cd Q D dA ρ A nL ad0 n0 (k)) : kGo p l e R s m args below meth cd Q D dA ρ A nL ad0 n0 ((pc, lo, st, w, c, sl)) := by
  unfold kald at h
  split at h
  · rename_i i v rest
    cases hb : kscr v && kinB i (L - 1) with
    | true =>
      rw [hb] at h
      simp only [cond_true] at h
      split at h
      · rename_i x hx
        cases h
        have hb := Bool.and_eq_true_iff.mp hb
        have hin := kinB_ok hb.2
        have hlt : i.toNatClampNeg < L - 1 := Nat.not_le.mp fun q => hin (Or.inr q)
        obtain ⟨b, xs, x1, x2, x3, x4, x5⟩ := hX (by omega)
        rw [kscr_eq hb.1]
        intro ad H locs ls hat
        have g1 := g ad H locs ls hat
        simp only [List.map_cons] at g1 ⊢
        have e1 : kV ad ρ (.inl (.ref 1000000)) = .ref b := by
          show Value.ref (ad 1000000) = _
          rw [hat.2.2.2.2.2 1000000 (Or.inr (Nat.le_refl _)), x4]
        rw [e1]
        rw [kscl_ok hr hx, x5 _ hlt] at g1
        exact va_sld F.1 F.2.1 x1 x2 x3 hat.2.2.2.1 hin hd g1
      · cases h
    | false =>
      rw [hb] at h
      simp only [cond_false] at h
      split at h
      · rename_i a
        split at h
        · rename_i t n l1 d1 hw
          cases ht : Nat.beq t 0 && kinB i n with
          | false => rw [ht] at h; cases h
          | true =>
            rw [ht] at h; cases h
            have ht := Bool.and_eq_true_iff.mp ht
            have e := kb_t ht.1
            subst e
            intro ad H locs ls hat
            obtain ⟨q0, h1, -⟩ := kW_get (dA := dA) (ad := ad) (ρ := ρ) hw
            have g1 := g ad H locs ls hat
            simp only [List.map_cons] at g1
            rw [kofI_ok] at g1
            exact va_iald (ws := kW dA ad ρ w) F.1 F.2.1 F.2.2.2.2.2.1 hat.2.1 q0 0 h1 rfl (kinB_ok ht.2) hd g1
        · cases h
      · cases h
  · cases h
theorem k_bald (F : kFix p s m args meth cd cc nL own mname D dA A zs ad0) (hd : decode cc pc = .ok (.baload, 1)) (h : kald rg 0 (fun t => Nat.beq t 2 || Nat.beq t 4) pc lo st w c sl = some k) (g : kGo p l e R s m args below meth cd Q D dA ρ A nL ad0 n0 (k)) : kGo p l e R s m args below meth cd Q D dA ρ A nL ad0 n0 ((pc, lo, st, w, c, sl)) := by
  unfold kald at h
  split at h
  · rename_i i v rest
    cases hb : kscr v && kinB i 0 with
    | true =>
      have hb := Bool.and_eq_true_iff.mp hb
      exact absurd (Nat.not_le.mp fun q => kinB_ok hb.2 (Or.inr q)) (Nat.not_lt_zero i.toNatClampNeg)
    | false =>
      rw [hb] at h
      simp only [cond_false] at h
      split at h
      · rename_i a
        split at h
        · rename_i t n l1 d1 hw
          cases ht : (Nat.beq t 2 || Nat.beq t 4) && kinB i n with
          | false => rw [ht] at h; cases h
          | true =>
            rw [ht] at h; cases h
            have ht := Bool.and_eq_true_iff.mp ht
            intro ad H locs ls hat
            obtain ⟨q0, h1, -⟩ := kW_get (dA := dA) (ad := ad) (ρ := ρ) hw
            have g1 := g ad H locs ls hat
            simp only [List.map_cons] at g1
            rw [kofI_ok] at g1
            rcases Bool.or_eq_true_iff.mp ht.1 with q | q
            · have e := kb_t q
              subst e
              exact va_bald (ws := kW dA ad ρ w) F.1 F.2.1 F.2.2.2.2.2.1 hat.2.1 q0 2 h1 rfl (kinB_ok ht.2) hd g1
            · have e := kb_t q
              subst e
              exact va_zald (ws := kW dA ad ρ w) F.1 F.2.1 F.2.2.2.2.2.1 hat.2.1 q0 4 h1 rfl (kinB_ok ht.2) hd g1
        · cases h
      · cases h
  · cases h
theorem k_lald (F : kFix p s m args meth cd cc nL own mname D dA A zs ad0) (hd : decode cc pc = .ok (.laload, 1)) (h : klald pc lo st w c sl = some k) (g : kGo p l e R s m args below meth cd Q D dA ρ A nL ad0 n0 (k)) : kGo p l e R s m args below meth cd Q D dA ρ A nL ad0 n0 ((pc, lo, st, w, c, sl)) := by
  unfold klald at h
  split at h
  · rename_i i a rest
    split at h
    · rename_i t n l1 d1 hw
      cases ht : Nat.beq t 1 && kinB i n with
      | false => rw [ht] at h; cases h
      | true =>
        rw [ht] at h; cases h
        have ht := Bool.and_eq_true_iff.mp ht
        have e := kb_t ht.1
        subst e
        intro ad H locs ls hat
        obtain ⟨q0, h1, -⟩ := kW_get (dA := dA) (ad := ad) (ρ := ρ) hw
        exact va_lald (ws := kW dA ad ρ w) F.1 F.2.1 F.2.2.2.2.2.1 hat.2.1 q0 1 h1 rfl (kinB_ok ht.2) hd (g ad H locs ls hat)
    · cases h
  · cases h
theorem k_aald (F : kFix p s m args meth cd cc nL own mname D dA A zs ad0) (hd : decode cc pc = .ok (.aaload, 1)) (h : kaald pc lo st w c sl = some k) (g : kGo p l e R s m args below meth cd Q D dA ρ A nL ad0 n0 (k)) : kGo p l e R s m args below meth cd Q D dA ρ A nL ad0 n0 ((pc, lo, st, w, c, sl)) := by
  unfold kaald at h
  split at h
  · rename_i i a rest
    split at h
    · rename_i t n l1 hw
      cases ht : (Nat.beq t 5 || Nat.beq t 6) && kinB i n with
      | false => rw [ht] at h; cases h
      | true =>
        rw [ht] at h; cases h
        have ht := Bool.and_eq_true_iff.mp ht
        intro ad H locs ls hat
        obtain ⟨q0, h1, -⟩ := kW_get (dA := dA) (ad := ad) (ρ := ρ) hw
        have g1 := g ad H locs ls hat
        simp only [List.map_cons] at g1
        rw [kofR_ok] at g1
        rcases Bool.or_eq_true_iff.mp ht.1 with q | q
        · have e := kb_t q
          subst e
          exact va_aldq (ws := kW dA ad ρ w) F.1 F.2.1 F.2.2.2.2.2.1 hat.2.1 q0 5 h1 rfl (kinB_ok ht.2) hd g1
        · have e := kb_t q
          subst e
          exact va_aldq (ws := kW dA ad ρ w) F.1 F.2.1 F.2.2.2.2.2.1 hat.2.1 q0 6 h1 rfl (kinB_ok ht.2) hd g1
    · cases h
  · cases h
end KROWS3
end
section
section KROWS4
variable {p : Program} {l : Launch} {e : Env} {R : Room} {s : State} {m : MethodId} {args : Array Value} {below : List Frame} {meth : Method} {cd : Code} {Q : State → Prop} {D : va_G} {dA : Nat → ClassId} {ρ : Nat → Int32} {A : Nat → Prop} {nL : Nat} {ad0 : Nat → Nat} {n0 : Nat} {cc : ByteArray} {own mname : String} {zs : KZ} {rg : List (Int × Int)}
variable {pc : Nat} {lo : List (Nat × KV)} {st : List KV} {w : KW} {c sl : Nat} {k : KF} {Rc Rs : Nat}
/-- a cell was written: what stands behind it -/
theorem k_put {a : Nat} {x' : KE} {pc2 : Nat} {st2 : List KV} {ad : Nat → Nat} {H : Heap} {locs : List Loc} {ls : Array Slot} {q0 : Nat} {v : va_E} (hw2 : ∀ e' : KE, (kW dA ad ρ w).set q0 (ad a, kE dA ad ρ e') = kW dA ad ρ (kws w a e')) (hv : v = kE dA ad ρ x') (hat : kAt s D dA ρ A nL ad0 n0 ad ls lo w H locs) (g : kGo p l e R s m args below meth cd Q D dA ρ A nL ad0 n0 ((pc2, lo, st2, kws w a x', c, sl))) :
    ∀ (H1 : Heap) (locs1 : List Loc), va_P D kCl ((kW dA ad ρ w).set q0 (ad a, v)) H1 → va_D A ((kW dA ad ρ w).set q0 (ad a, v)) → va_S A s.heap H1 locs1 → W p l e R s m args below meth cd H1 locs1 c sl Q (F0 m pc2 ls (st2.map (kV ad ρ))) := by
  intro H1 locs1 p1 p2 p3
  obtain ⟨hl, hP, hD, hS, hn, hE⟩ := hat
  rw [hv, hw2] at p1 p2
  exact g ad H1 locs1 ls ⟨hl, p1, p2, p3, by rw [kfr_set]; exact hn, hE⟩
theorem kset_f (l1 : List (Nat × KI)) (d1 : KI) (j : Nat) (x : KI) (y : Int32) (hy : kI ρ x = y) : upd (fun j => kI ρ (kget l1 d1 j)) j y = fun i => kI ρ (kget (kset l1 j x) d1 i) := by
  funext i
  rw [kget_set]
  show (if i = j then y else kI ρ (kget l1 d1 i)) = _
  by_cases h : i = j
  · rw [if_pos h, if_pos h, hy]
  · rw [if_neg h, if_neg h]
theorem k_iast (F : kFix p s m args meth cd cc nL own mname D dA A zs ad0) (hd : decode cc pc = .ok (.iastore, 1)) (h : kast (fun t => Nat.beq t 0) (fun _ a => a) pc lo st w c sl = some k) (g : kGo p l e R s m args below meth cd Q D dA ρ A nL ad0 n0 (k)) : kGo p l e R s m args below meth cd Q D dA ρ A nL ad0 n0 ((pc, lo, st, w, c, sl)) := by
  unfold kast at h
  split at h
  · rename_i x i a rest
    split at h
    · rename_i t n l1 d1 hw
      cases ht : Nat.beq t 0 && (kinB i n && kisI x) with
      | false => rw [ht] at h; cases h
      | true =>
        rw [ht] at h; cases h
        simp only [Bool.and_eq_true] at ht
        obtain ⟨t1, t2, t3⟩ := ht
        have e := kb_t t1
        subst e
        intro ad H locs ls hat
        obtain ⟨q0, h1, h2⟩ := kW_get (dA := dA) (ad := ad) (ρ := ρ) hw
        simp only [List.map_cons]
        rw [kisI_eq t3]
        refine va_iast (ws := kW dA ad ρ w) F.1 F.2.1 F.2.2.2.2.2.1 hat.2.1 hat.2.2.1 hat.2.2.2.1 q0 0 h1 rfl (kinB_ok t2) hd (k_put h2 ?_ hat g)
        rw [kset_f l1 d1 i.toNatClampNeg (kop1I (fun a => a) (ktoI x)) (kiv ρ x) (by rw [kop1I_ok, ktoI_ok])]
        rfl
    · cases h
  · cases h
theorem k_bast (F : kFix p s m args meth cd cc nL own mname D dA A zs ad0) (hd : decode cc pc = .ok (.bastore, 1)) (h : kast (fun t => Nat.beq t 2 || Nat.beq t 4) (fun t a => bif Nat.beq t 2 then vp_nar .byte a else vp_nar .boolean a) pc lo st w c sl = some k) (g : kGo p l e R s m args below meth cd Q D dA ρ A nL ad0 n0 (k)) : kGo p l e R s m args below meth cd Q D dA ρ A nL ad0 n0 ((pc, lo, st, w, c, sl)) := by
  unfold kast at h
  split at h
  · rename_i x i a rest
    split at h
    · rename_i t n l1 d1 hw
      cases ht : (Nat.beq t 2 || Nat.beq t 4) && (kinB i n && kisI x) with
      | false => rw [ht] at h; cases h
      | true =>
        rw [ht] at h; cases h
        simp only [Bool.and_eq_true] at ht
        obtain ⟨t1, t2, t3⟩ := ht
        intro ad H locs ls hat
        obtain ⟨q0, h1, h2⟩ := kW_get (dA := dA) (ad := ad) (ρ := ρ) hw
        simp only [List.map_cons]
        rw [kisI_eq t3]
        rcases Bool.or_eq_true_iff.mp t1 with q | q
        · have e := kb_t q
          subst e
          refine va_bast (ws := kW dA ad ρ w) F.1 F.2.1 F.2.2.2.2.2.1 hat.2.1 hat.2.2.1 hat.2.2.2.1 q0 2 h1 rfl (kinB_ok t2) hd (k_put h2 ?_ hat g)
          rw [kset_f l1 d1 i.toNatClampNeg (kop1I (fun a => vp_nar .byte a) (ktoI x)) (vp_nar .byte (kiv ρ x)) (by rw [kop1I_ok, ktoI_ok])]
          rfl
        · have e := kb_t q
          subst e
          refine va_zast (ws := kW dA ad ρ w) F.1 F.2.1 F.2.2.2.2.2.1 hat.2.1 hat.2.2.1 hat.2.2.2.1 q0 4 h1 rfl (kinB_ok t2) hd (k_put h2 ?_ hat g)
          rw [kset_f l1 d1 i.toNatClampNeg (kop1I (fun a => vp_nar .boolean a) (ktoI x)) (vp_nar .boolean (kiv ρ x)) (by rw [kop1I_ok, ktoI_ok])]
          rfl
    · cases h
  · cases h
theorem k_last (F : kFix p s m args meth cd cc nL own mname D dA A zs ad0) (hd : decode cc pc = .ok (.lastore, 1)) (h : klast pc lo st w c sl = some k) (g : kGo p l e R s m args below meth cd Q D dA ρ A nL ad0 n0 (k)) : kGo p l e R s m args below meth cd Q D dA ρ A nL ad0 n0 ((pc, lo, st, w, c, sl)) := by
  unfold klast at h
  split at h
  · rename_i x i a rest
    split at h
    · rename_i t n l1 d1 hw
      cases ht : Nat.beq t 1 && kinB i n with
      | false => rw [ht] at h; cases h
      | true =>
        rw [ht] at h; cases h
        have ht := Bool.and_eq_true_iff.mp ht
        have e := kb_t ht.1
        subst e
        intro ad H locs ls hat
        obtain ⟨q0, h1, h2⟩ := kW_get (dA := dA) (ad := ad) (ρ := ρ) hw
        refine va_last (ws := kW dA ad ρ w) F.1 F.2.1 F.2.2.2.2.2.1 hat.2.1 hat.2.2.1 hat.2.2.2.1 q0 1 h1 rfl (kinB_ok ht.2) hd (k_put h2 ?_ hat g)
        show (Sum.inl (dA 1, n, .inr (.inl (vp_updL (fun j => kget l1 d1 j) i.toNatClampNeg x))) : va_E) = .inl (dA 1, n, .inr (.inl (fun j => kget (kset l1 i.toNatClampNeg x) d1 j)))
        rw [show vp_updL (fun j => kget l1 d1 j) i.toNatClampNeg x = (fun j => kget (kset l1 i.toNatClampNeg x) d1 j) from funext fun j => by rw [kget_set]; rfl]
    · cases h
  · cases h
theorem k_aast (F : kFix p s m args meth cd cc nL own mname D dA A zs ad0) (hd : decode cc pc = .ok (.aastore, 1)) (h : kaast pc lo st w c sl = some k) (g : kGo p l e R s m args below meth cd Q D dA ρ A nL ad0 n0 (k)) : kGo p l e R s m args below meth cd Q D dA ρ A nL ad0 n0 ((pc, lo, st, w, c, sl)) := by
  unfold kaast at h
  split at h
  · rename_i r i a rest
    split at h
    · rename_i t n l1 cj fs hw hr
      cases ht : (Nat.beq t 5 && Nat.beq cj 7 || Nat.beq t 6 && Nat.beq cj 2) && kinB i n with
      | false => rw [ht] at h; cases h
      | true =>
        rw [ht] at h; cases h
        have ht := Bool.and_eq_true_iff.mp ht
        intro ad H locs ls hat
        obtain ⟨q0, h1, h2⟩ := kW_get (dA := dA) (ad := ad) (ρ := ρ) hw
        obtain ⟨q1, h3, -⟩ := kW_get (dA := dA) (ad := ad) (ρ := ρ) hr
        have key : kE dA ad ρ (.inl (t, n, .inr (.inr (kset l1 i.toNatClampNeg (some r))))) = .inl (dA t, n, .inr (.inr (.inr (.inr (va_up (fun j => (kget l1 none j).map ad) i.toNatClampNeg (some (ad r))))))) := by
          show (Sum.inl (dA t, n, .inr (.inr (.inr (.inr (fun j => (kget (kset l1 i.toNatClampNeg (some r)) none j).map ad))))) : va_E) = _
          rw [show (fun j => (kget (kset l1 i.toNatClampNeg (some r)) none j).map ad) = va_up (fun j => (kget l1 none j).map ad) i.toNatClampNeg (some (ad r)) from funext fun j => by
            rw [kget_set]
            unfold va_up
            by_cases hj : j = i.toNatClampNeg
            · rw [if_pos hj, if_pos hj]; rfl
            · rw [if_neg hj, if_neg hj]]
        rcases Bool.or_eq_true_iff.mp ht.1 with q | q
        · have q := Bool.and_eq_true_iff.mp q
          have e1 := kb_t q.1
          have e2 := kb_t q.2
          subst e1; subst e2
          exact va_astq (ws := kW dA ad ρ w) (r := ("TriplicateForms$Standing", kT kF7, 10)) F.1 F.2.1 F.2.2.2.2.2.1 hat.2.1 hat.2.2.1 hat.2.2.2.1 q0 5 q1 7 h1 rfl h3 rfl (kinB_ok ht.2) hd (k_put h2 key.symm hat g)
        · have q := Bool.and_eq_true_iff.mp q
          have e1 := kb_t q.1
          have e2 := kb_t q.2
          subst e1; subst e2
          exact va_astq (ws := kW dA ad ρ w) (r := ("TriplicateForms$Image", kT kF2, 4)) F.1 F.2.1 F.2.2.2.2.2.1 hat.2.1 hat.2.2.1 hat.2.2.2.1 q0 6 q1 2 h1 rfl h3 rfl (kinB_ok ht.2) hd (k_put h2 key.symm hat g)
    · cases h
  · cases h
theorem k_dup (F : kFix p s m args meth cd cc nL own mname D dA A zs ad0) (hd : decode cc pc = .ok (.dup, 1)) (h : kdup pc lo st w c sl = some k) (g : kGo p l e R s m args below meth cd Q D dA ρ A nL ad0 n0 (k)) : kGo p l e R s m args below meth cd Q D dA ρ A nL ad0 n0 ((pc, lo, st, w, c, sl)) := by
  unfold kdup at h
  split at h
  · rename_i v rest
    cases hc : Nat.beq (kcat v) 1 with
    | false => rw [hc] at h; cases h
    | true =>
      rw [hc] at h; cases h
      intro ad H locs ls hat
      exact lv_dup F.1 F.2.1 hd ((kV_cat ad ρ v).trans (kb_t hc)) (g ad H locs ls hat)
  · cases h
theorem k_dup2 (F : kFix p s m args meth cd cc nL own mname D dA A zs ad0) (hd : decode cc pc = .ok (.dup2, 1)) (h : kdup2 pc lo st w c sl = some k) (g : kGo p l e R s m args below meth cd Q D dA ρ A nL ad0 n0 (k)) : kGo p l e R s m args below meth cd Q D dA ρ A nL ad0 n0 ((pc, lo, st, w, c, sl)) := by
  unfold kdup2 at h
  split at h
  · rename_i a b rest
    cases hc : Nat.beq (kcat a) 1 && Nat.beq (kcat b) 1 with
    | false => rw [hc] at h; cases h
    | true =>
      rw [hc] at h; cases h
      have hc := Bool.and_eq_true_iff.mp hc
      intro ad H locs ls hat
      exact lv_dup2_11 F.1 F.2.1 hd ((kV_cat ad ρ a).trans (kb_t hc.1)) ((kV_cat ad ρ b).trans (kb_t hc.2)) (g ad H locs ls hat)
  · cases h
theorem k_pop (F : kFix p s m args meth cd cc nL own mname D dA A zs ad0) (hd : decode cc pc = .ok (.pop, 1)) (h : kpop pc lo st w c sl = some k) (g : kGo p l e R s m args below meth cd Q D dA ρ A nL ad0 n0 (k)) : kGo p l e R s m args below meth cd Q D dA ρ A nL ad0 n0 ((pc, lo, st, w, c, sl)) := by
  unfold kpop at h
  split at h
  · rename_i v rest
    cases hc : Nat.beq (kcat v) 1 with
    | false => rw [hc] at h; cases h
    | true =>
      rw [hc] at h; cases h
      intro ad H locs ls hat
      exact lv_pop F.1 F.2.1 hd ((kV_cat ad ρ v).trans (kb_t hc)) (g ad H locs ls hat)
  · cases h
theorem kcats_eq (ad : Nat → Nat) (st : List KV) : ((st.map (kV ad ρ)).map (fun v => v.category)).sum = kcats st := by
  unfold kcats
  rw [List.map_map]
  congr 1
  apply List.map_congr_left
  intro v _
  exact kV_cat ad ρ v
theorem k_obj (F : kFix p s m args meth cd cc nL own mname D dA A zs ad0) (hf : 1 ≤ R.frames) (hl : 40 ≤ R.locals) {i : Nat} (h1 : Cond.methodLink own i objectInit ∈ LT) (h2 : Cond.instanceMethod objectInit ∈ LT) (h3 : Cond.code objectInit ⟨#[0xb1]⟩ 1 none ∈ LT) (hd : decode cc pc = .ok (.invokespecial i, 3)) (h : kobj pc lo st w c sl = some k) (g : kGo p l e R s m args below meth cd Q D dA ρ A nL ad0 n0 (k)) : kGo p l e R s m args below meth cd Q D dA ρ A nL ad0 n0 ((pc, lo, st, w, c, sl)) := by
  unfold kobj at h
  split at h
  · rename_i a rest
    cases hc : Nat.ble (kcats rest) 8 with
    | false => rw [hc] at h; cases h
    | true =>
      rw [hc] at h; cases h
      have hc := Nat.ble_eq.mp hc
      have hts := F.2.2.2.2.1
      intro ad H locs ls hat
      refine W.objInit (a := ad a) (rest := rest.map (kV ad ρ)) F.1 F.2.1 F.2.2.2.1 (hts _ h1) (hts _ h2) (hts _ h3) rfl (by rw [F.2.2.1]; exact hat.1.1) rfl hd hf ?_ (g ad H locs ls hat)
      rw [kcats_eq]
      show 2 * 0 + _ + 12 ≤ _
      omega
  · cases h
theorem k_min (F : kFix p s m args meth cd cc nL own mname D dA A zs ad0) (hr : kRg rg ρ) (hRc : Rc ≤ R.cells) (hRs : Rs ≤ R.slots) (hf : 1 ≤ R.frames) (hl : 40 ≤ R.locals) {i : Nat} (h1 : Cond.methodLink own i Lib.Math.min.name ∈ LT) (h2 : Cond.static Lib.Math.min.name ∈ LT) (h3 : Cond.initialized "java/lang/Math" ∈ LT) (h4 : Cond.code Lib.Math.min.name Lib.Math.min.code 2 (some .int) ∈ LT) (hd : decode cc pc = .ok (.invokestatic i, 3)) (h : kmin rg Rc Rs pc lo st w c sl = some k) (g : kGo p l e R s m args below meth cd Q D dA ρ A nL ad0 n0 (k)) : kGo p l e R s m args below meth cd Q D dA ρ A nL ad0 n0 ((pc, lo, st, w, c, sl)) := by
  unfold kmin at h
  split at h
  · rename_i y x rest
    cases hc : (kisI x && (kisI y && (Nat.ble c Rc && (Nat.ble sl Rs && Nat.ble (kcats rest) 8)))) with
    | false => rw [hc] at h; cases h
    | true =>
      rw [hc] at h
      simp only [cond_true] at h
      split at h
      · rename_i b hb
        cases h
        simp only [Bool.and_eq_true] at hc
        obtain ⟨c1, c2, c3, c4, c5⟩ := hc
        have c3 := Nat.ble_eq.mp c3
        have c4 := Nat.ble_eq.mp c4
        have c5 := Nat.ble_eq.mp c5
        have hts := F.2.2.2.2.1
        have hb := klt_ok hr hb
        intro ad H locs ls hat
        have g1 := g ad H locs ls hat
        simp only [List.map_cons] at g1 ⊢
        rw [kisI_eq c1, kisI_eq c2]
        refine va_mmin F.1 F.2.1 (F.2.2.1.trans hat.1.1.symm) F.2.2.2.1 (hts _ h1) (hts _ h2) (hts _ h3) (hts _ h4) hf (by rw [kcats_eq]; omega) (by omega) (by omega) hd ?_
        cases b with
        | true =>
          rw [if_pos (hb.mp rfl)]
          have e : kV ad ρ (bif true then y else x) = .int (kiv ρ y) := kisI_eq c2
          rw [e] at g1
          exact g1
        | false =>
          rw [if_neg (fun q => absurd (hb.mpr q) Bool.false_ne_true)]
          have e : kV ad ρ (bif false then y else x) = .int (kiv ρ x) := kisI_eq c1
          rw [e] at g1
          exact g1
      · cases h
  · cases h
theorem kcell_i {cA : ClassId} {n : Nat} {f g : Nat → Int32} (h : ∀ j, j < n → f j = g j) : vp_cell cA (n, .inl f) = vp_cell cA (n, .inl g) := by
  have e : (fun j : Fin n => Value.int (f j.val)) = (fun j : Fin n => Value.int (g j.val)) := funext fun j => by rw [h j.val j.isLt]
  show ({ cls := cA, slots := Array.ofFn (n := n) (fun j : Fin n => Value.int (f j.val)), vm := .none } : Cell) = { cls := cA, slots := Array.ofFn (n := n) (fun j : Fin n => Value.int (g j.val)), vm := .none }
  rw [e]
theorem kcell_l {cA : ClassId} {n : Nat} {f g : Nat → Int64} (h : ∀ j, j < n → f j = g j) : vp_cell cA (n, .inr (.inl f)) = vp_cell cA (n, .inr (.inl g)) := by
  have e : (fun j : Fin n => Value.long (f j.val)) = (fun j : Fin n => Value.long (g j.val)) := funext fun j => by rw [h j.val j.isLt]
  show ({ cls := cA, slots := Array.ofFn (n := n) (fun j : Fin n => Value.long (f j.val)), vm := .none } : Cell) = { cls := cA, slots := Array.ofFn (n := n) (fun j : Fin n => Value.long (g j.val)), vm := .none }
  rw [e]
/-- a cell may be told by another list that says the same below its length -/
theorem k_tell {ws : va_W} {a q0 : Nat} {cA : ClassId} {x y : vp_A} {H : Heap} (h : va_P D kCl (ws.set q0 (a, .inl (cA, x))) H) (hxy : vp_cell cA x = vp_cell cA y) : va_P D kCl (ws.set q0 (a, .inl (cA, y))) H := by
  intro k q hq
  rw [List.getElem?_set] at hq
  by_cases hk : q0 = k
  · subst hk
    by_cases hl : q0 < ws.length
    · simp only [if_true, hl] at hq
      cases hq
      have h1 := h q0 (a, .inl (cA, x)) (by rw [List.getElem?_set]; simp [hl])
      show H[a]? = some (vp_cell cA y)
      rw [← hxy]
      exact h1
    · simp [hl] at hq
  · rw [if_neg hk] at hq
    exact h k q (by rw [List.getElem?_set, if_neg hk]; exact hq)
theorem k_apart {A : Nat → Prop} {ws : va_W} {a q0 : Nat} {e1 e2 : va_E} (h : va_D A (ws.set q0 (a, e1))) : va_D A (ws.set q0 (a, e2)) := by
  by_cases hl : q0 < ws.length
  · have h2 := h.set (p := q0) (a := a) (e0 := e1) (e := e2) (by rw [List.getElem?_set]; simp [hl])
    rw [List.set_set] at h2
    exact h2
  · rw [List.set_eq_of_length_le (Nat.not_lt.mp hl)] at h ⊢
    exact h
theorem k_copy (F : kFix p s m args meth cd cc nL own mname D dA A zs ad0) (hf : 1 ≤ R.frames) (hlo : 40 ≤ R.locals) {i : Nat} (h1 : Cond.methodLink own i arraycopyName ∈ LT) (h2 : Cond.native arraycopyName ∈ LT) (h3 : Cond.static arraycopyName ∈ LT) (h4 : Cond.initialized "java/lang/System" ∈ LT) (hd : decode cc pc = .ok (.invokestatic i, 3)) (h : kcopy pc lo st w c sl = some k) (g : kGo p l e R s m args below meth cd Q D dA ρ A nL ad0 n0 (k)) : kGo p l e R s m args below meth cd Q D dA ρ A nL ad0 n0 ((pc, lo, st, w, c, sl)) := by
  unfold kcopy at h
  split at h
  · rename_i n dp a1 sp a0 rest
    split at h
    · rename_i t0 n0' e0 t1 n1 e1 hw0 hw1
      cases hc : (decide (sp = 0) && (decide (dp = 0) && (!decide (n < 0) && (Nat.beq n.toNatClampNeg n0' && (Nat.beq n0' n1 && (Nat.beq t0 t1 && Nat.ble (kcats rest) 8)))))) with
      | false => rw [hc] at h; cases h
      | true =>
        rw [hc] at h
        simp only [Bool.and_eq_true, Bool.not_eq_true', decide_eq_false_iff_not, decide_eq_true_eq] at hc
        obtain ⟨c1, c2, c3, c4, c5, c6, c7⟩ := hc
        have c4 := kb_t c4
        have c5 := kb_t c5
        have c6 := kb_t c6
        have c7 := Nat.ble_eq.mp c7
        subst c1; subst c2; subst c5; subst c6
        have hts := F.2.2.2.2.1
        have z : (0 : Int32).toNatClampNeg = 0 := by decide
        have hloc : ∀ ad : Nat → Nat, ((rest.map (kV ad ρ)).map fun v => v.category).sum + (nativeFrameWords "java/lang/System" "arraycopy" 5 + 11) ≤ R.locals := by
          intro ad
          rw [kcats_eq, show nativeFrameWords "java/lang/System" "arraycopy" 5 = 7 by decide]
          omega
        rcases e0 with ⟨l0, d0⟩ | e0 | e0
        · rcases e1 with ⟨l1, d1⟩ | e1 | e1
          · simp only [cond_true] at h
            cases ht : Nat.beq t0 0 with
            | false => rw [ht] at h; cases h
            | true =>
              rw [ht] at h; cases h
              have e := kb_t ht
              subst e
              intro ad H locs ls hat
              obtain ⟨q0, p1, p2⟩ := kW_get (dA := dA) (ad := ad) (ρ := ρ) hw0
              obtain ⟨q1, p3, p4⟩ := kW_get (dA := dA) (ad := ad) (ρ := ρ) hw1
              refine va_copyi (ws := kW dA ad ρ w) F.1 F.2.1 (F.2.2.1.trans hat.1.1.symm) F.2.2.2.1 (hts _ h1) (hts _ h2) (hts _ h3) (hts _ h4) F.2.2.2.2.2.1 hat.2.1 hat.2.2.1 hat.2.2.2.1 q0 q1 0 0 p1 p3 rfl rfl rfl (by decide) (by decide) c3 (by rw [z]; omega) (by rw [z]; omega) (fun _ _ => rfl) hf (hloc ad) hd ?_
              intro H1 locs1 r1 r2 r3
              refine k_put p4 rfl hat g H1 locs1 (k_tell r1 (kcell_i (fun j hj => ?_))) (k_apart r2) r3
              unfold va_cpy
              rw [z, if_pos ⟨Nat.zero_le _, by omega⟩]
              simp
          · cases h
          · cases h
        · rcases e1 with ⟨l1, d1⟩ | e1 | e1
          · cases h
          · simp only [cond_true] at h
            cases ht : Nat.beq t0 1 with
            | false => rw [ht] at h; cases h
            | true =>
              rw [ht] at h; cases h
              have e := kb_t ht
              subst e
              obtain ⟨l0, d0⟩ := e0
              obtain ⟨l1, d1⟩ := e1
              intro ad H locs ls hat
              obtain ⟨q0, p1, p2⟩ := kW_get (dA := dA) (ad := ad) (ρ := ρ) hw0
              obtain ⟨q1, p3, p4⟩ := kW_get (dA := dA) (ad := ad) (ρ := ρ) hw1
              refine va_copyl (ws := kW dA ad ρ w) F.1 F.2.1 (F.2.2.1.trans hat.1.1.symm) F.2.2.2.1 (hts _ h1) (hts _ h2) (hts _ h3) (hts _ h4) F.2.2.2.2.2.1 hat.2.1 hat.2.2.1 hat.2.2.2.1 q0 q1 1 1 p1 p3 rfl rfl rfl (by decide) (by decide) c3 (by rw [z]; omega) (by rw [z]; omega) (fun _ _ => rfl) hf (hloc ad) hd ?_
              intro H1 locs1 r1 r2 r3
              refine k_put p4 rfl hat g H1 locs1 (k_tell r1 (kcell_l (fun j hj => ?_))) (k_apart r2) r3
              unfold va_cpy
              rw [z, if_pos ⟨Nat.zero_le _, by omega⟩]
              simp
          · cases h
        · rcases e1 with ⟨l1, d1⟩ | e1 | e1 <;> cases h
    · cases h
  · cases h
end KROWS4
end
