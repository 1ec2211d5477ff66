/-! A small machine of the writer's own: values whose references are labels, cells as lists, ints that are known or an input with a range. -/
abbrev KS : Type := Nat ⊕ ((Nat → Int32) → Int32)
abbrev KI : Type := Int32 ⊕ KS
abbrev KV : Type := Value ⊕ KS
/-- an array: the kind of its elements, its length, what it holds -/
abbrev KA : Type := Nat × Nat × ((List (Nat × KI) × KI) ⊕ (List (Nat × Int64) × Int64) ⊕ List (Nat × Option Nat))
abbrev KE : Type := KA ⊕ (Nat × List KV)
/-- the cells, sixteen to a row; a cell's label is its place -/
abbrev KW : Type := List (List KE)
/-- place, locals, stack, cells, how many cells and slots were made -/
abbrev KF : Type := Nat × List (Nat × KV) × List KV × KW × Nat × Nat
/-- an instruction's resolved operands -/
abbrev KX : Type := Nat × Nat × Nat × Nat × Nat
abbrev KEnt : Type := Nat × Instr × KX
/-- a method: name, code, locals, answer's type, the cells and slots that it may make, its instructions -/
abbrev KMeth : Type := MethodName × ByteArray × Nat × Option FieldType × Nat × Nat × List KEnt
def kS (ρ : Nat → Int32) : KS → Int32
  | .inl i => ρ i
  | .inr f => f ρ
def kI (ρ : Nat → Int32) : KI → Int32
  | .inl x => x
  | .inr z => kS ρ z
def kV (ad : Nat → Nat) (ρ : Nat → Int32) : KV → Value
  | .inl v => match v with
    | .ref i => .ref (ad i)
    | w => w
  | .inr z => .int (kS ρ z)
def kcat : KV → Nat
  | .inl v => v.category
  | .inr _ => 1
theorem kV_cat (ad : Nat → Nat) (ρ : Nat → Int32) (v : KV) : (kV ad ρ v).category = kcat v := by
  rcases v with v | z
  · cases v <;> rfl
  · rfl
def kisI : KV → Bool
  | .inl v => match v with
    | .int _ => true
    | _ => false
  | .inr _ => true
def kiv (ρ : Nat → Int32) : KV → Int32
  | .inl v => match v with
    | .int x => x
    | _ => 0
  | .inr z => kS ρ z
theorem kisI_eq {ad : Nat → Nat} {ρ : Nat → Int32} {v : KV} (h : kisI v = true) : kV ad ρ v = .int (kiv ρ v) := by
  rcases v with v | z
  · cases v <;> first | rfl | cases h
  · rfl
/-- lists by key -/
def kget {α : Type} : List (Nat × α) → α → Nat → α
  | [], d, _ => d
  | q :: l, d, j => bif Nat.beq q.1 j then q.2 else kget l d j
def kdel {α : Type} : List (Nat × α) → Nat → List (Nat × α)
  | [], _ => []
  | q :: l, j => bif Nat.beq q.1 j then l else q :: kdel l j
def kset {α : Type} (l : List (Nat × α)) (j : Nat) (v : α) : List (Nat × α) := (j, v) :: kdel l j
theorem kb_t {i j : Nat} (h : Nat.beq i j = true) : i = j := Nat.eq_of_beq_eq_true h
theorem kb_f {i j : Nat} (h : Nat.beq i j = false) : ¬ i = j := Nat.ne_of_beq_eq_false h
theorem kb_r {i j : Nat} (h : i = j) : Nat.beq i j = true := by subst h; exact Nat.beq_refl i
theorem kb_n {i j : Nat} (h : ¬ i = j) : Nat.beq i j = false := by
  cases q : Nat.beq i j with
  | false => rfl
  | true => exact absurd (kb_t q) h
theorem kget_del {α : Type} (l : List (Nat × α)) (d : α) {j k : Nat} (h : ¬ k = j) : kget (kdel l j) d k = kget l d k := by
  induction l with
  | nil => rfl
  | cons q l ih =>
    unfold kdel
    cases e : Nat.beq q.1 j with
    | true =>
      have e1 := kb_t e
      show kget l d k = (bif Nat.beq q.1 k then q.2 else kget l d k)
      rw [kb_n (i := q.1) (j := k) (by omega)]
      rfl
    | false =>
      show (bif Nat.beq q.1 k then q.2 else kget (kdel l j) d k) = (bif Nat.beq q.1 k then q.2 else kget l d k)
      rw [ih]
theorem kget_set {α : Type} (l : List (Nat × α)) (d : α) (j k : Nat) (v : α) : kget (kset l j v) d k = if k = j then v else kget l d k := by
  show (bif Nat.beq j k then v else kget (kdel l j) d k) = _
  by_cases h : k = j
  · rw [if_pos h, kb_r h.symm]
    rfl
  · rw [if_neg h, kb_n (fun q => h q.symm), ← kget_del l d h]
    rfl
def klook : List (Nat × KV) → Nat → Option KV
  | [], _ => none
  | q :: l, j => bif Nat.beq q.1 j then some q.2 else klook l j
theorem klook_mem {l : List (Nat × KV)} {j : Nat} {v : KV} (h : klook l j = some v) : (j, v) ∈ l := by
  induction l with
  | nil => cases h
  | cons q l ih =>
    unfold klook at h
    cases e : Nat.beq q.1 j with
    | true =>
      rw [e] at h
      have e1 := kb_t e
      cases h
      rw [← e1]
      exact List.mem_cons_self
    | false =>
      rw [e] at h
      exact List.mem_cons_of_mem _ (ih h)
/-- what the lists stand for -/
def kL (ad : Nat → Nat) (ρ : Nat → Int32) (lo : List (Nat × KV)) : List (Nat × Value) := lo.map (fun q => (q.1, kV ad ρ q.2))
def kflt : List (Nat × KV) → Nat → List (Nat × KV)
  | [], _ => []
  | q :: l, i => bif Nat.beq q.1 i then kflt l i else bif Nat.beq (q.1 + 1) i && Nat.beq (kcat q.2) 2 then kflt l i else q :: kflt l i
theorem kb_b (i j : Nat) : (i == j) = Nat.beq i j := by
  by_cases h : i = j
  · rw [kb_r h]
    exact beq_iff_eq.mpr h
  · rw [kb_n h]
    exact beq_eq_false_iff_ne.mpr h
theorem kflt_eq (lo : List (Nat × KV)) (i : Nat) : kflt lo i = lo.filter (fun q => !(q.1 == i) && !(q.1 + 1 == i && kcat q.2 == 2)) := by
  induction lo with
  | nil => rfl
  | cons q l ih =>
    rw [List.filter_cons, ← ih]
    show (bif Nat.beq q.1 i then kflt l i else bif Nat.beq (q.1 + 1) i && Nat.beq (kcat q.2) 2 then kflt l i else q :: kflt l i) = _
    rw [kb_b, kb_b, kb_b]
    cases Nat.beq q.1 i <;> cases Nat.beq (q.1 + 1) i <;> cases Nat.beq (kcat q.2) 2 <;> rfl
def klo (lo : List (Nat × KV)) (i : Nat) (v : KV) : List (Nat × KV) := (i, v) :: kflt lo i
def klo2 (lo : List (Nat × KV)) (i : Nat) (v : KV) : List (Nat × KV) := (i, v) :: lo.filter (fun q => !(q.1 == i) && (!(q.1 == i + 1) && !(q.1 + 1 == i && kcat q.2 == 2)))
theorem klo_c (ad : Nat → Nat) (ρ : Nat → Int32) (lo : List (Nat × KV)) (i : Nat) (v : KV) : (i, kV ad ρ v) :: (kL ad ρ lo).filter (fun q => !(q.1 == i) && !(q.1 + 1 == i && q.2.category == 2)) = kL ad ρ (klo lo i v) := by
  unfold kL klo
  rw [kflt_eq, List.map_cons, List.filter_map]
  congr 2
  apply List.filter_congr
  intro q _
  simp only [Function.comp_apply, kV_cat]
theorem klo2_c (ad : Nat → Nat) (ρ : Nat → Int32) (lo : List (Nat × KV)) (i : Nat) (v : KV) : (i, kV ad ρ v) :: (kL ad ρ lo).filter (fun q => !(q.1 == i) && (!(q.1 == i + 1) && !(q.1 + 1 == i && q.2.category == 2))) = kL ad ρ (klo2 lo i v) := by
  unfold kL klo2
  rw [List.map_cons, List.filter_map]
  congr 2
  apply List.filter_congr
  intro q _
  simp only [Function.comp_apply, kV_cat]
theorem kL_get {ad : Nat → Nat} {ρ : Nat → Int32} {lo : List (Nat × KV)} {nL j : Nat} {ls : Array Slot} {v : KV} (h : lv_has ls nL (kL ad ρ lo)) (hk : klook lo j = some v) : ls[j]? = some (.val (kV ad ρ v)) :=
  h.2.2 (j, kV ad ρ v) (List.mem_map.mpr ⟨(j, v), klook_mem hk, rfl⟩)
def kE (dA : Nat → ClassId) (ad : Nat → Nat) (ρ : Nat → Int32) : KE → va_E
  | .inl (t, n, .inl (l, d)) => .inl (dA t, n, .inl (fun j => kI ρ (kget l d j)))
  | .inl (t, n, .inr (.inl (l, d))) => .inl (dA t, n, .inr (.inl (fun j => kget l d j)))
  | .inl (t, n, .inr (.inr l)) => .inl (dA t, n, .inr (.inr (.inr (.inr (fun j => (kget l none j).map ad)))))
  | .inr (ci, fs) => .inr (ci, fs.map (kV ad ρ))
def kWc (dA : Nat → ClassId) (ad : Nat → Nat) (ρ : Nat → Int32) : Nat → List KE → va_W
  | _, [] => []
  | b, e :: t => (ad b, kE dA ad ρ e) :: kWc dA ad ρ (b + 1) t
def kWf (dA : Nat → ClassId) (ad : Nat → Nat) (ρ : Nat → Int32) : Nat → KW → va_W
  | _, [] => []
  | i, ch :: t => kWc dA ad ρ (16 * i) ch ++ kWf dA ad ρ (i + 1) t
def kW (dA : Nat → ClassId) (ad : Nat → Nat) (ρ : Nat → Int32) (w : KW) : va_W := kWf dA ad ρ 0 w
def kwg (w : KW) (n : Nat) : Option KE := match w[n / 16]? with
  | some ch => ch[n % 16]?
  | none => none
def kws (w : KW) (n : Nat) (e : KE) : KW := match w[n / 16]? with
  | some ch => w.set (n / 16) (ch.set (n % 16) e)
  | none => w
/-- the next label -/
def kfr : Nat → KW → Nat
  | i, [] => 16 * i
  | i, ch :: t => match t with
    | [] => bif Nat.blt ch.length 16 then 16 * i + ch.length else 16 * (i + 1)
    | _ => kfr (i + 1) t
def kwp (e : KE) : KW → KW
  | [] => [[e]]
  | ch :: t => match t with
    | [] => bif Nat.blt ch.length 16 then [ch ++ [e]] else [ch, [e]]
    | _ => ch :: kwp e t
theorem kWc_get {dA : Nat → ClassId} {ad : Nat → Nat} {ρ : Nat → Int32} : ∀ (ch : List KE) (b j : Nat) {e : KE}, ch[j]? = some e → (kWc dA ad ρ b ch)[j]? = some (ad (b + j), kE dA ad ρ e) ∧ ∀ e' : KE, (kWc dA ad ρ b ch).set j (ad (b + j), kE dA ad ρ e') = kWc dA ad ρ b (ch.set j e') := by
  intro ch
  induction ch with
  | nil => intro b j e h; simp at h
  | cons x t ih =>
    intro b j e h
    cases j with
    | zero =>
      cases h
      exact ⟨rfl, fun _ => rfl⟩
    | succ j =>
      obtain ⟨h1, h2⟩ := ih (b + 1) j (e := e) h
      have ea : b + 1 + j = b + (j + 1) := by omega
      rw [ea] at h1 h2
      exact ⟨h1, fun e' => by
        show (ad b, kE dA ad ρ x) :: (kWc dA ad ρ (b + 1) t).set j _ = (ad b, kE dA ad ρ x) :: kWc dA ad ρ (b + 1) (t.set j e')
        rw [h2]⟩
theorem kWf_get {dA : Nat → ClassId} {ad : Nat → Nat} {ρ : Nat → Int32} : ∀ (w : KW) (i k j : Nat) {ch : List KE} {e : KE}, w[k]? = some ch → ch[j]? = some e → ∃ q : Nat, (kWf dA ad ρ i w)[q]? = some (ad (16 * (i + k) + j), kE dA ad ρ e) ∧ ∀ e' : KE, (kWf dA ad ρ i w).set q (ad (16 * (i + k) + j), kE dA ad ρ e') = kWf dA ad ρ i (w.set k (ch.set j e')) := by
  intro w
  induction w with
  | nil => intro i k j ch e h; simp at h
  | cons x t ih =>
    intro i k j ch e h he
    cases k with
    | zero =>
      cases h
      obtain ⟨h1, h2⟩ := kWc_get (dA := dA) (ad := ad) (ρ := ρ) x (16 * i) j he
      have hl := (List.getElem?_eq_some_iff.mp h1).1
      refine ⟨j, ?_, fun e' => ?_⟩
      · show (kWc dA ad ρ (16 * i) x ++ kWf dA ad ρ (i + 1) t)[j]? = _
        rw [List.getElem?_append_left hl]
        exact h1
      · show (kWc dA ad ρ (16 * i) x ++ kWf dA ad ρ (i + 1) t).set j _ = kWc dA ad ρ (16 * i) (x.set j e') ++ kWf dA ad ρ (i + 1) t
        rw [List.set_append, if_pos hl, ← h2]
        rfl
    | succ k =>
      obtain ⟨q, h1, h2⟩ := ih (i + 1) k j (ch := ch) (e := e) h he
      have ea : i + 1 + k = i + (k + 1) := by omega
      rw [ea] at h1 h2
      refine ⟨(kWc dA ad ρ (16 * i) x).length + q, ?_, fun e' => ?_⟩
      · show (kWc dA ad ρ (16 * i) x ++ kWf dA ad ρ (i + 1) t)[_]? = _
        rw [List.getElem?_append_right (Nat.le_add_right _ _), Nat.add_sub_cancel_left]
        exact h1
      · show (kWc dA ad ρ (16 * i) x ++ kWf dA ad ρ (i + 1) t).set _ _ = kWc dA ad ρ (16 * i) x ++ kWf dA ad ρ (i + 1) (t.set k (ch.set j e'))
        rw [List.set_append, if_neg (by omega), Nat.add_sub_cancel_left, h2]
theorem kW_get {dA : Nat → ClassId} {ad : Nat → Nat} {ρ : Nat → Int32} {w : KW} {n : Nat} {e : KE} (h : kwg w n = some e) : ∃ q : Nat, (kW dA ad ρ w)[q]? = some (ad n, kE dA ad ρ e) ∧ ∀ e' : KE, (kW dA ad ρ w).set q (ad n, kE dA ad ρ e') = kW dA ad ρ (kws w n e') := by
  unfold kwg at h
  cases hc : w[n / 16]? with
  | none => rw [hc] at h; cases h
  | some ch =>
    rw [hc] at h
    obtain ⟨q, h1, h2⟩ := kWf_get (dA := dA) (ad := ad) (ρ := ρ) w 0 (n / 16) (n % 16) hc h
    have ea : 16 * (0 + n / 16) + n % 16 = n := by omega
    rw [ea] at h1 h2
    refine ⟨q, h1, fun e' => ?_⟩
    unfold kws
    rw [hc]
    exact h2 e'
def kup (ad : Nat → Nat) (n q : Nat) : Nat → Nat := fun j => if j = n then q else ad j
/-- labels that are in use: below n, or those of things outside -/
def kokN (n i : Nat) : Bool := Nat.blt i n || Nat.ble 1000000 i
def kokV (n : Nat) : KV → Bool
  | .inl v => match v with
    | .ref i => kokN n i
    | _ => true
  | .inr _ => true
def kokE (n : Nat) : KE → Bool
  | .inl (_, _, .inl _) => true
  | .inl (_, _, .inr (.inl _)) => true
  | .inl (_, _, .inr (.inr l)) => l.all (fun q => match q.2 with
    | some i => kokN n i
    | none => true)
  | .inr (_, fs) => fs.all (kokV n)
def kokS (n : Nat) (st : List KV) : Bool := st.all (kokV n)
def kokL (n : Nat) (lo : List (Nat × KV)) : Bool := lo.all (fun q => kokV n q.2)
def kokW (n : Nat) (w : KW) : Bool := w.all (fun ch => Nat.ble ch.length 16 && ch.all (kokE n))
/-- two ways to read labels that agree on those in use -/
def kExt (n : Nat) (ad ad' : Nat → Nat) : Prop := ∀ i, i < n ∨ 1000000 ≤ i → ad' i = ad i
theorem kExt.rf (n : Nat) (ad : Nat → Nat) : kExt n ad ad := fun _ _ => rfl
theorem kExt.tr {n m : Nat} {a b c : Nat → Nat} (h : kExt n a b) (h2 : kExt m b c) (hm : n ≤ m) : kExt n a c := fun i hi => (h2 i (hi.imp (fun q => Nat.lt_of_lt_of_le q hm) id)).trans (h i hi)
theorem kExt.up {n : Nat} {ad : Nat → Nat} (q : Nat) (hn : n < 1000000) : kExt n ad (kup ad n q) := fun i hi => by
  unfold kup
  rw [if_neg (by omega)]
theorem kokN_p {n i : Nat} (h : kokN n i = true) : i < n ∨ 1000000 ≤ i := by
  unfold kokN at h
  rcases Bool.or_eq_true_iff.mp h with h | h
  · exact Or.inl (Nat.ble_eq.mp h)
  · exact Or.inr (Nat.ble_eq.mp h)
theorem kV_ext {n : Nat} {ad ad' : Nat → Nat} {ρ : Nat → Int32} {v : KV} (h : kExt n ad ad') (hv : kokV n v = true) : kV ad' ρ v = kV ad ρ v := by
  rcases v with v | z
  · cases v <;> first | rfl | skip
    rename_i i
    show Value.ref (ad' i) = Value.ref (ad i)
    rw [h i (kokN_p hv)]
  · rfl
theorem kS_ext {n : Nat} {ad ad' : Nat → Nat} {ρ : Nat → Int32} {st : List KV} (h : kExt n ad ad') (hv : kokS n st = true) : st.map (kV ad' ρ) = st.map (kV ad ρ) :=
  List.map_congr_left fun v hm => kV_ext h (List.all_eq_true.mp hv v hm)
theorem kL_ext {n : Nat} {ad ad' : Nat → Nat} {ρ : Nat → Int32} {lo : List (Nat × KV)} (h : kExt n ad ad') (hv : kokL n lo = true) : kL ad' ρ lo = kL ad ρ lo :=
  List.map_congr_left fun q hm => by rw [kV_ext h (List.all_eq_true.mp hv q hm)]
theorem kget_ext {n : Nat} {ad ad' : Nat → Nat} (h : kExt n ad ad') (l : List (Nat × Option Nat)) (hl : l.all (fun q => match q.2 with
    | some i => kokN n i
    | none => true) = true) (j : Nat) : (kget l none j).map ad' = (kget l none j).map ad := by
  induction l with
  | nil => rfl
  | cons q l ih =>
    rw [List.all_cons, Bool.and_eq_true] at hl
    show (bif Nat.beq q.1 j then q.2 else kget l none j).map ad' = (bif Nat.beq q.1 j then q.2 else kget l none j).map ad
    cases Nat.beq q.1 j with
    | false => exact ih hl.2
    | true =>
      obtain ⟨k, o⟩ := q
      cases o with
      | none => rfl
      | some i =>
        show some (ad' i) = some (ad i)
        rw [h i (kokN_p hl.1)]
theorem kE_ext {dA : Nat → ClassId} {n : Nat} {ad ad' : Nat → Nat} {ρ : Nat → Int32} {e : KE} (h : kExt n ad ad') (hv : kokE n e = true) : kE dA ad' ρ e = kE dA ad ρ e := by
  rcases e with ⟨t, k, (⟨l, d⟩ | ⟨l, d⟩ | l)⟩ | ⟨ci, fs⟩
  · rfl
  · rfl
  · show (Sum.inl (dA t, k, .inr (.inr (.inr (.inr (fun j => (kget l none j).map ad'))))) : va_E) = .inl (dA t, k, .inr (.inr (.inr (.inr (fun j => (kget l none j).map ad)))))
    rw [show (fun j => (kget l none j).map ad') = (fun j => (kget l none j).map ad) from funext fun j => kget_ext h l hv j]
  · show (Sum.inr (ci, fs.map (kV ad' ρ)) : va_E) = .inr (ci, fs.map (kV ad ρ))
    rw [kS_ext h hv]
theorem kfr_ge : ∀ (w : KW) (i : Nat), 16 * i ≤ kfr i w := by
  intro w
  induction w with
  | nil => intro i; exact Nat.le_refl _
  | cons ch t ih =>
    intro i
    cases t with
    | nil =>
      show 16 * i ≤ (bif Nat.blt ch.length 16 then 16 * i + ch.length else 16 * (i + 1))
      cases Nat.blt ch.length 16
      · show 16 * i ≤ 16 * (i + 1)
        omega
      · show 16 * i ≤ 16 * i + ch.length
        omega
    | cons c2 t =>
      have := ih (i + 1)
      show 16 * i ≤ kfr (i + 1) (c2 :: t)
      omega
theorem kWc_ext {dA : Nat → ClassId} {n : Nat} {ad ad' : Nat → Nat} {ρ : Nat → Int32} (h : kExt n ad ad') : ∀ (ch : List KE) (b : Nat), b + ch.length ≤ n → ch.all (kokE n) = true → kWc dA ad' ρ b ch = kWc dA ad ρ b ch := by
  intro ch
  induction ch with
  | nil => intro b _ _; rfl
  | cons e t ih =>
    intro b hb hk
    rw [List.all_cons, Bool.and_eq_true] at hk
    rw [List.length_cons] at hb
    show (ad' b, kE dA ad' ρ e) :: kWc dA ad' ρ (b + 1) t = (ad b, kE dA ad ρ e) :: kWc dA ad ρ (b + 1) t
    rw [ih (b + 1) (by omega) hk.2, h b (Or.inl (by omega)), kE_ext h hk.1]
theorem kWf_ext {dA : Nat → ClassId} {n : Nat} {ad ad' : Nat → Nat} {ρ : Nat → Int32} (h : kExt n ad ad') : ∀ (w : KW) (i : Nat), kfr i w ≤ n → kokW n w = true → kWf dA ad' ρ i w = kWf dA ad ρ i w := by
  intro w
  induction w with
  | nil => intro i _ _; rfl
  | cons ch t ih =>
    intro i hn hk
    unfold kokW at hk
    rw [List.all_cons, Bool.and_eq_true, Bool.and_eq_true] at hk
    obtain ⟨⟨k1, k2⟩, k3⟩ := hk
    have k1 := Nat.ble_eq.mp k1
    show kWc dA ad' ρ (16 * i) ch ++ kWf dA ad' ρ (i + 1) t = kWc dA ad ρ (16 * i) ch ++ kWf dA ad ρ (i + 1) t
    cases t with
    | nil =>
      rw [kWc_ext h ch (16 * i) ?_ k2]
      · rfl
      · revert hn
        show (bif Nat.blt ch.length 16 then 16 * i + ch.length else 16 * (i + 1)) ≤ n → _
        cases Nat.blt ch.length 16
        · show 16 * (i + 1) ≤ n → _
          omega
        · show 16 * i + ch.length ≤ n → _
          omega
    | cons c2 t =>
      have hn2 : kfr (i + 1) (c2 :: t) ≤ n := hn
      have hg := kfr_ge (c2 :: t) (i + 1)
      rw [kWc_ext h ch (16 * i) (by omega) k2, ih (i + 1) hn2 k3]
theorem kW_ext {dA : Nat → ClassId} {n : Nat} {ad ad' : Nat → Nat} {ρ : Nat → Int32} {w : KW} (h : kExt n ad ad') (hn : kfr 0 w ≤ n) (hv : kokW n w = true) : kW dA ad' ρ w = kW dA ad ρ w := kWf_ext h w 0 hn hv
theorem kWc_push (dA : Nat → ClassId) (ad : Nat → Nat) (ρ : Nat → Int32) (e : KE) : ∀ (ch : List KE) (b : Nat), kWc dA ad ρ b (ch ++ [e]) = kWc dA ad ρ b ch ++ [(ad (b + ch.length), kE dA ad ρ e)] := by
  intro ch
  induction ch with
  | nil => intro b; rfl
  | cons x t ih =>
    intro b
    show (ad b, kE dA ad ρ x) :: kWc dA ad ρ (b + 1) (t ++ [e]) = (ad b, kE dA ad ρ x) :: (kWc dA ad ρ (b + 1) t ++ [(ad (b + (x :: t).length), kE dA ad ρ e)])
    rw [ih, List.length_cons]
    rw [show b + 1 + t.length = b + (t.length + 1) by omega]
theorem kWf_push (dA : Nat → ClassId) (ad : Nat → Nat) (ρ : Nat → Int32) (e : KE) : ∀ (w : KW) (i : Nat), kWf dA ad ρ i (kwp e w) = kWf dA ad ρ i w ++ [(ad (kfr i w), kE dA ad ρ e)] := by
  intro w
  induction w with
  | nil => intro i; rfl
  | cons ch t ih =>
    intro i
    cases t with
    | nil =>
      show kWf dA ad ρ i (bif Nat.blt ch.length 16 then [ch ++ [e]] else [ch, [e]]) = kWc dA ad ρ (16 * i) ch ++ [] ++ [(ad (bif Nat.blt ch.length 16 then 16 * i + ch.length else 16 * (i + 1)), kE dA ad ρ e)]
      cases Nat.blt ch.length 16
      · show kWc dA ad ρ (16 * i) ch ++ ((ad (16 * (i + 1)), kE dA ad ρ e) :: []) = _
        rw [List.append_nil]
        rfl
      · show kWc dA ad ρ (16 * i) (ch ++ [e]) ++ [] = _
        rw [kWc_push, List.append_nil, List.append_nil]
        rfl
    | cons c2 t =>
      show kWc dA ad ρ (16 * i) ch ++ kWf dA ad ρ (i + 1) (kwp e (c2 :: t)) = kWc dA ad ρ (16 * i) ch ++ kWf dA ad ρ (i + 1) (c2 :: t) ++ [(ad (kfr (i + 1) (c2 :: t)), kE dA ad ρ e)]
      rw [ih, List.append_assoc]
theorem kfr_push (e : KE) : ∀ (w : KW) (i : Nat), kfr i (kwp e w) = kfr i w + 1 := by
  intro w
  induction w with
  | nil => intro i; rfl
  | cons ch t ih =>
    intro i
    cases t with
    | nil =>
      cases q : Nat.blt ch.length 16 with
      | false =>
        have e1 : kwp e [ch] = [ch, [e]] := by show (bif Nat.blt ch.length 16 then [ch ++ [e]] else [ch, [e]]) = _; rw [q]; rfl
        have e2 : kfr i [ch] = 16 * (i + 1) := by show (bif Nat.blt ch.length 16 then 16 * i + ch.length else 16 * (i + 1)) = _; rw [q]; rfl
        rw [e1, e2]
        rfl
      | true =>
        have hl : ch.length + 1 ≤ 16 := Nat.ble_eq.mp q
        have e1 : kwp e [ch] = [ch ++ [e]] := by show (bif Nat.blt ch.length 16 then [ch ++ [e]] else [ch, [e]]) = _; rw [q]; rfl
        have e2 : kfr i [ch] = 16 * i + ch.length := by show (bif Nat.blt ch.length 16 then 16 * i + ch.length else 16 * (i + 1)) = _; rw [q]; rfl
        rw [e1, e2]
        show (bif Nat.blt (ch ++ [e]).length 16 then 16 * i + (ch ++ [e]).length else 16 * (i + 1)) = _
        rw [List.length_append, List.length_singleton]
        cases q2 : Nat.blt (ch.length + 1) 16 with
        | true => show 16 * i + (ch.length + 1) = _; omega
        | false =>
          have : ¬ (ch.length + 1 + 1 ≤ 16) := fun h => by
            have := Nat.ble_eq.mpr h
            exact absurd (this.symm.trans q2) (by decide)
          show 16 * (i + 1) = _
          omega
    | cons c2 t =>
      have h := ih (i + 1)
      have e0 : ∃ a b, kwp e (c2 :: t) = a :: b := by
        cases t with
        | nil =>
          show ∃ a b, (bif Nat.blt c2.length 16 then [c2 ++ [e]] else [c2, [e]]) = a :: b
          cases Nat.blt c2.length 16
          · exact ⟨_, _, rfl⟩
          · exact ⟨_, _, rfl⟩
        | cons c3 t => exact ⟨_, _, rfl⟩
      obtain ⟨a, b, e0⟩ := e0
      show kfr i (ch :: kwp e (c2 :: t)) = kfr (i + 1) (c2 :: t) + 1
      rw [← h, e0]
      rfl
theorem kW_push {dA : Nat → ClassId} {ad : Nat → Nat} {ρ : Nat → Int32} {w : KW} (q : Nat) (e : KE) (hn : kfr 0 w < 1000000) (hw : kokW (kfr 0 w) w = true) (he : kE dA (kup ad (kfr 0 w) q) ρ e = kE dA ad ρ e) : kW dA ad ρ w ++ [(q, kE dA ad ρ e)] = kW dA (kup ad (kfr 0 w) q) ρ (kwp e w) := by
  have h1 := kW_ext (dA := dA) (ρ := ρ) (kExt.up (ad := ad) q hn) (Nat.le_refl _) hw
  show _ = kWf dA (kup ad (kfr 0 w) q) ρ 0 (kwp e w)
  rw [kWf_push, he]
  have h2 : kWf dA (kup ad (kfr 0 w) q) ρ 0 w = kW dA ad ρ w := h1
  rw [h2]
  congr 2
  unfold kup
  rw [if_pos rfl]
/-- ranges of the inputs, and what compares within them -/
def krg (rg : List (Int × Int)) : KV → Option (Int × Int)
  | .inl v => match v with
    | .int x => some (x.toInt, x.toInt)
    | _ => none
  | .inr z => match z with
    | .inl i => rg[i]?
    | .inr _ => none
def kRg (rg : List (Int × Int)) (ρ : Nat → Int32) : Prop := ∀ i lo hi, rg[i]? = some (lo, hi) → lo ≤ (ρ i).toInt ∧ (ρ i).toInt ≤ hi
theorem krg_ok {rg : List (Int × Int)} {ρ : Nat → Int32} (hr : kRg rg ρ) {v : KV} {lo hi : Int} (h : krg rg v = some (lo, hi)) : lo ≤ (kiv ρ v).toInt ∧ (kiv ρ v).toInt ≤ hi := by
  rcases v with v | (i | f)
  · cases v <;> first | cases h | skip
    exact ⟨Int.le_refl _, Int.le_refl _⟩
  · exact hr i lo hi h
  · cases h
def klt (rg : List (Int × Int)) (a b : KV) : Option Bool := match krg rg a, krg rg b with
  | some (al, ah), some (bl, bh) => bif decide (ah < bl) then some true else bif decide (bh ≤ al) then some false else none
  | _, _ => none
def keq (rg : List (Int × Int)) (a b : KV) : Option Bool := match krg rg a, krg rg b with
  | some (al, ah), some (bl, bh) => bif decide (ah < bl) || decide (bh < al) then some false else bif decide (al = ah) && (decide (bl = bh) && decide (al = bl)) then some true else none
  | _, _ => none
theorem klt_ok {rg : List (Int × Int)} {ρ : Nat → Int32} (hr : kRg rg ρ) {a b : KV} {r : Bool} (h : klt rg a b = some r) : (r = true ↔ kiv ρ a < kiv ρ b) := by
  unfold klt at h
  cases ha : krg rg a with
  | none => rw [ha] at h; cases h
  | some x =>
    cases hb : krg rg b with
    | none => rw [ha, hb] at h; cases h
    | some y =>
      obtain ⟨al, ah⟩ := x
      obtain ⟨bl, bh⟩ := y
      rw [ha, hb] at h
      dsimp only at h
      have h1 := krg_ok hr ha
      have h2 := krg_ok hr hb
      rw [Int32.lt_iff_toInt_lt]
      by_cases c1 : ah < bl
      · rw [decide_eq_true c1] at h
        cases h
        exact ⟨fun _ => by omega, fun _ => rfl⟩
      · rw [decide_eq_false c1] at h
        by_cases c2 : bh ≤ al
        · rw [decide_eq_true c2] at h
          cases h
          exact ⟨fun q => absurd q Bool.false_ne_true, fun _ => by omega⟩
        · rw [decide_eq_false c2] at h
          cases h
theorem keq_ok {rg : List (Int × Int)} {ρ : Nat → Int32} (hr : kRg rg ρ) {a b : KV} {r : Bool} (h : keq rg a b = some r) : (r = true ↔ kiv ρ a = kiv ρ b) := by
  unfold keq at h
  cases ha : krg rg a with
  | none => rw [ha] at h; cases h
  | some x =>
    cases hb : krg rg b with
    | none => rw [ha, hb] at h; cases h
    | some y =>
      obtain ⟨al, ah⟩ := x
      obtain ⟨bl, bh⟩ := y
      rw [ha, hb] at h
      dsimp only at h
      have h1 := krg_ok hr ha
      have h2 := krg_ok hr hb
      rw [← Int32.toInt_inj]
      by_cases c1 : ah < bl ∨ bh < al
      · have e : (decide (ah < bl) || decide (bh < al)) = true := by
          rcases c1 with c | c
          · rw [decide_eq_true c]; rfl
          · rw [decide_eq_true c, Bool.or_true]
        rw [e] at h
        cases h
        exact ⟨fun q => absurd q Bool.false_ne_true, fun _ => by omega⟩
      · have e : (decide (ah < bl) || decide (bh < al)) = false := by
          rw [decide_eq_false (fun q => c1 (Or.inl q)), decide_eq_false (fun q => c1 (Or.inr q))]; rfl
        rw [e] at h
        by_cases c2 : al = ah ∧ bl = bh ∧ al = bl
        · have e2 : (decide (al = ah) && (decide (bl = bh) && decide (al = bl))) = true := by
            rw [decide_eq_true c2.1, decide_eq_true c2.2.1, decide_eq_true c2.2.2]; rfl
          rw [e2] at h
          cases h
          exact ⟨fun _ => by omega, fun _ => rfl⟩
        · have e2 : (decide (al = ah) && (decide (bl = bh) && decide (al = bl))) = false := by
            cases q1 : decide (al = ah) <;> cases q2 : decide (bl = bh) <;> cases q3 : decide (al = bl) <;> first | rfl | exact absurd ⟨of_decide_eq_true q1, of_decide_eq_true q2, of_decide_eq_true q3⟩ c2
          rw [e2] at h
          cases h
theorem kfr_lens : ∀ (w w' : KW) (i : Nat), w.map List.length = w'.map List.length → kfr i w = kfr i w' := by
  intro w
  induction w with
  | nil =>
    intro w' i h
    cases w' with
    | nil => rfl
    | cons a t => cases h
  | cons ch t ih =>
    intro w' i h
    cases w' with
    | nil => cases h
    | cons ch' t' =>
      rw [List.map_cons, List.map_cons] at h
      have h1 := (List.cons.inj h).1
      have h2 := (List.cons.inj h).2
      cases t with
      | nil =>
        cases t' with
        | nil =>
          show (bif Nat.blt ch.length 16 then 16 * i + ch.length else 16 * (i + 1)) = (bif Nat.blt ch'.length 16 then 16 * i + ch'.length else 16 * (i + 1))
          rw [h1]
        | cons a b => cases h2
      | cons c2 t =>
        cases t' with
        | nil => cases h2
        | cons c2' t' => exact ih (c2' :: t') (i + 1) h2
theorem kfr_set (w : KW) (n : Nat) (e : KE) (i : Nat) : kfr i (kws w n e) = kfr i w := by
  unfold kws
  split
  · rename_i ch hc
    apply kfr_lens
    apply List.ext_getElem?
    intro j
    rw [List.getElem?_map, List.getElem?_map, List.getElem?_set]
    by_cases h : n / 16 = j
    · subst h
      have hl := (List.getElem?_eq_some_iff.mp hc).1
      simp only [if_true, hl, hc, Option.map_some, List.length_set]
    · rw [if_neg h]
  · rfl
