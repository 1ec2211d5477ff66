/-! What a step over abstract states says of a step. -/
def kRK (n : Nat) (rg : RG) : Prop := ∀ q ∈ rg, q.1 < n
theorem rget_mem {rg : RG} {i : Nat} {r : Int × Int} (h : rget rg i = some r) : ∃ q ∈ rg, q.1 = i := by
  induction rg with
  | nil => cases h
  | cons q l ih =>
    unfold rget at h
    cases e : Nat.beq q.1 i with
    | true => exact ⟨q, List.mem_cons_self, kb_t e⟩
    | false =>
      rw [e] at h
      obtain ⟨q2, h1, h2⟩ := ih h
      exact ⟨q2, List.mem_cons_of_mem _ h1, h2⟩
theorem kRK_cons {n : Nat} {rg : RG} (h : kRK n rg) {i : Nat} {r : Int × Int} (hr : rget rg i = some r) (z : Int × Int) : kRK n ((i, z) :: rg) := fun q hq => by
  cases hq with
  | head =>
    obtain ⟨q2, h1, h2⟩ := rget_mem hr
    exact h2 ▸ h q2 h1
  | tail _ hq => exact h q hq
theorem lnar1_k {n : Nat} {rg : RG} (h : kRK n rg) (f : LF) (t : Nat × Int) : kRK n (lnar1 rg f t) := by
  unfold lnar1
  split
  · rename_i r b hr hb
    cases ile 1 t.2 with
    | true =>
      cases ile (- (b / t.2)) r.1 with
      | true => exact h
      | false => exact kRK_cons h hr _
    | false =>
      cases ile t.2 (-1) with
      | true =>
        cases ile r.2 (b / (- t.2)) with
        | true => exact h
        | false => exact kRK_cons h hr _
      | false => exact h
  · exact h
theorem lnar_k {n : Nat} (f : LF) : ∀ (l : List (Nat × Int)) (rg : RG), kRK n rg → kRK n (lnar f l rg) := by
  intro l
  induction l with
  | nil => intro rg h; exact h
  | cons t l ih => intro rg h; exact ih _ (lnar1_k h f t)
theorem lasm_k {n : Nat} {rg : RG} {cs : List LF} (h : kRK n rg) {f : LF} {q : RG × List LF} (hq : lasm rg cs f = some q) : kRK n q.1 := by
  unfold lasm at hq
  split at hq
  · obtain ⟨-, hq⟩ := kcond_inv hq
    cases hq
    exact lnar_k _ _ _ h
  · cases hq
    exact h
theorem kcnd_p {α : Type} {P : α → Prop} {b : Bool} {x y : α} (hx : P x) (hy : P y) : P (bif b then x else y) := by
  cases b with
  | true => exact hx
  | false => exact hy
theorem lne_k {n : Nat} {rg : RG} (h : kRK n rg) (f : LF) : kRK n (lne rg f) := by
  unfold lne
  split
  · split
    · rename_i r hr
      have k := fun z => kRK_cons h hr z
      exact kcnd_p (kcnd_p (k _) (kcnd_p (k _) h)) (kcnd_p (kcnd_p (k _) (kcnd_p (k _) h)) h)
    · exact h
  · exact h
def aB (n : Nat) (rg : RG) (cs : List LF) (cB sB : LF) (ρ : Nat → Int) (c s : Nat) : Prop := kRK n rg ∧ kRG ρ rg ∧ kCS n ρ cs ∧ (lwf n cB ∧ (c : Int) ≤ lev ρ cB) ∧ (lwf n sB ∧ (s : Int) ≤ lev ρ sB)
def aLo (E : TEnv) (n : Nat) (ρ : Nat → Int) (alo : List (Nat × AV)) (lo : List (Nat × KV)) : Prop := (∀ j a, alook alo j = some a → ∃ v, klook lo j = some v ∧ aR E n ρ a v) ∧ kokL E.1 lo = true
def aSt (E : TEnv) (n : Nat) (ρ : Nat → Int) : List AV → List KV → Prop
  | [], [] => True
  | a :: l, v :: r => aR E n ρ a v ∧ aSt E n ρ l r
  | _, _ => False
def aG (E : TEnv) (ph : PHI) (ρ : Nat → Int) (n : Nat) (rg : RG) (cs : List LF) (alo : List (Nat × AV)) (ast : List AV) (tc : TC) (cB sB : LF) (lo : List (Nat × KV)) (st : List KV) (w : KW) (c s : Nat) : Prop :=
  aB n rg cs cB sB ρ c s ∧ aLo E n ρ alo lo ∧ aSt E n ρ ast st ∧ tcR E ph n ρ tc w
/-- one of these states -/
def aNx (E : TEnv) (ph : PHI) (ρ : Nat → Int) (n : Nat) (L : List (Nat × AS)) (k : KF) : Prop := ∃ q ∈ L, q.1 = k.1 ∧ ∃ ρ' : Nat → Int, (∀ i, i < n → ρ' i = ρ i) ∧ n ≤ q.2.1 ∧ aG E ph ρ' q.2.1 q.2.2.1 q.2.2.2.1 q.2.2.2.2.1 q.2.2.2.2.2.1 q.2.2.2.2.2.2.1 q.2.2.2.2.2.2.2.1 q.2.2.2.2.2.2.2.2 k.2.1 k.2.2.1 k.2.2.2.1 k.2.2.2.2.1 k.2.2.2.2.2
def kStp (E : TEnv) (ms : MOD) (w w' : KW) : Prop := kTW E w' ∧ kFr E ms w w'
theorem kStp.rf {E : TEnv} {ms : MOD} {w : KW} (h : kTW E w) : kStp E ms w w := ⟨h, kFr.rf _ _ _⟩
def aOk (E : TEnv) (ms : MOD) (ph : PHI) (ρ : Nat → Int) (n : Nat) (w : KW) (L : List (Nat × AS)) (o : Option KF) : Prop := ∃ k, o = some k ∧ kStp E ms w k.2.2.2.1 ∧ aNx E ph ρ n L k
theorem aB_up {n : Nat} {rg : RG} {cs : List LF} {cB sB : LF} {ρ : Nat → Int} {c s : Nat} (h : aB n rg cs cB sB ρ c s) {lo hi z : Int} (h1 : lo ≤ z) (h2 : z ≤ hi) : ∃ ρ' : Nat → Int, (∀ i, i < n → ρ' i = ρ i) ∧ ρ' n = z ∧ aB (n + 1) ((n, (lo, hi)) :: rg) cs cB sB ρ' c s := by
  obtain ⟨hk, hr, hc, ⟨hw1, hc1⟩, ⟨hw2, hc2⟩⟩ := h
  have ag : ∀ i, i < n → (fun i => if i = n then z else ρ i) i = ρ i := fun i hi => if_neg (by omega)
  refine ⟨fun i => if i = n then z else ρ i, ag, if_pos rfl, ?_, ?_, ?_, ⟨lwf_up hw1 (Nat.le_succ _), by rw [lev_ag ag hw1]; exact hc1⟩, ⟨lwf_up hw2 (Nat.le_succ _), by rw [lev_ag ag hw2]; exact hc2⟩⟩
  · intro q hq
    cases hq with
    | head => exact Nat.lt_succ_self _
    | tail _ hq => exact Nat.lt_succ_of_lt (hk q hq)
  · intro q hq
    cases hq with
    | head =>
      show lo ≤ (if n = n then z else ρ n) ∧ (if n = n then z else ρ n) ≤ hi
      rw [if_pos rfl]
      exact ⟨h1, h2⟩
    | tail _ hq =>
      show q.2.1 ≤ (if q.1 = n then z else ρ q.1) ∧ (if q.1 = n then z else ρ q.1) ≤ q.2.2
      have := hk q hq
      rw [if_neg (by omega)]
      exact hr q hq
  · intro f hf
    obtain ⟨a, b⟩ := hc f hf
    exact ⟨lwf_up a (Nat.le_succ _), by rw [lev_ag ag a]; exact b⟩
theorem aB_norm {n : Nat} {rg : RG} {cs : List LF} {cB sB : LF} {ρ : Nat → Int} {c s : Nat} (h : aB n rg cs cB sB ρ c s) {f : LF} (hf : lwf n f) : ∃ ρ' : Nat → Int, (∀ i, i < n → ρ' i = ρ i) ∧ n ≤ (anorm n rg f).1 ∧ aB (anorm n rg f).1 (anorm n rg f).2.1 cs cB sB ρ' c s ∧ lwf (anorm n rg f).1 (anorm n rg f).2.2 ∧ Int32.ofInt (lev ρ' (anorm n rg f).2.2) = Int32.ofInt (lev ρ f) := by
  unfold anorm
  cases l32 rg f with
  | true => exact ⟨ρ, fun _ _ => rfl, Nat.le_refl _, h, hf, rfl⟩
  | false =>
    obtain ⟨ρ', h1, h2, h3⟩ := aB_up h (i32_lo (Int32.ofInt (lev ρ f))) (i32_hi (Int32.ofInt (lev ρ f)))
    refine ⟨ρ', h1, Nat.le_succ _, h3, lwf_v (Nat.lt_succ_self _), ?_⟩
    show Int32.ofInt (lev ρ' (lfv n)) = _
    rw [lev_v, h2, i32_to]
theorem aB_val {E : TEnv} {n : Nat} {rg : RG} {cs : List LF} {cB sB : LF} {ρ : Nat → Int} {c s : Nat} (h : aB n rg cs cB sB ρ c s) {t : VT} {v : KV} (hv : vOK E t v) : ∃ ρ' : Nat → Int, (∀ i, i < n → ρ' i = ρ i) ∧ n ≤ (aval n rg t).1 ∧ aB (aval n rg t).1 (aval n rg t).2.1 cs cB sB ρ' c s ∧ aR E (aval n rg t).1 ρ' (aval n rg t).2.2 v := by
  unfold aval
  split
  · rename_i ht
    obtain ⟨x, rfl, h1, h2⟩ := (vOK0 ht).mp hv
    cases e : iz (t.2.2 - t.2.1) with
    | true =>
      have := iz_ok e
      refine ⟨ρ, fun _ _ => rfl, Nat.le_refl _, h, lwf_c _ _, ?_⟩
      show _ = Sum.inl (Value.int (Int32.ofInt (lev ρ (lfc t.2.1))))
      rw [lev_c, show t.2.1 = x.toInt by omega, i32_to]
    | false =>
      obtain ⟨ρ', q1, q2, q3⟩ := aB_up h h1 h2
      refine ⟨ρ', q1, Nat.le_succ _, q3, lwf_v (Nat.lt_succ_self _), ?_⟩
      rw [lev_v, q2, i32_to]
  · rename_i hne
    refine ⟨ρ, fun _ _ => rfl, Nat.le_refl _, h, hne, ?_⟩
    show vOK E (t.1, ((t.2.1.toNat : Nat) : Int), 0) v
    rcases vOK_tag hv with e | e | e | e | e | e
    · exact absurd e hne
    · exact (vOK1 (t := (t.1, ((t.2.1.toNat : Nat) : Int), 0)) e).mpr ((vOK1 e).mp hv)
    · exact (vOK2 (t := (t.1, ((t.2.1.toNat : Nat) : Int), 0)) e).mpr ((vOK2 e).mp hv)
    · exact (vOK3 (t := (t.1, ((t.2.1.toNat : Nat) : Int), 0)) e).mpr ((vOK3 e).mp hv)
    · exact (vOK4 (t := (t.1, ((t.2.1.toNat : Nat) : Int), 0)) e).mpr ((vOK4 e).mp hv)
    · exact (vOK5 (t := (t.1, ((t.2.1.toNat : Nat) : Int), 0)) e).mpr ((vOK5 e).mp hv)
theorem aLo_up {E : TEnv} {n m : Nat} {ρ ρ' : Nat → Int} (h : ∀ i, i < n → ρ' i = ρ i) (hm : n ≤ m) {alo : List (Nat × AV)} {lo : List (Nat × KV)} (hl : aLo E n ρ alo lo) : aLo E m ρ' alo lo := ⟨fun j a hj => by
  obtain ⟨v, h1, h2⟩ := hl.1 j a hj
  exact ⟨v, h1, aR_up h hm h2⟩, hl.2⟩
theorem aSt_up {E : TEnv} {n m : Nat} {ρ ρ' : Nat → Int} (h : ∀ i, i < n → ρ' i = ρ i) (hm : n ≤ m) : ∀ (l : List AV) (r : List KV), aSt E n ρ l r → aSt E m ρ' l r := by
  intro l
  induction l with
  | nil =>
    intro r hr
    cases r with
    | nil => exact trivial
    | cons v r => exact hr.elim
  | cons a l ih =>
    intro r hr
    cases r with
    | nil => exact hr.elim
    | cons v r => exact ⟨aR_up h hm hr.1, ih r hr.2⟩
theorem aSt_cons {E : TEnv} {n : Nat} {ρ : Nat → Int} {a : AV} {l : List AV} {st : List KV} (h : aSt E n ρ (a :: l) st) : ∃ v r, st = v :: r ∧ aR E n ρ a v ∧ aSt E n ρ l r := by
  cases st with
  | nil => exact h.elim
  | cons v r => exact ⟨v, r, rfl, h.1, h.2⟩
theorem aSt_nil {E : TEnv} {n : Nat} {ρ : Nat → Int} {st : List KV} (h : aSt E n ρ [] st) : st = [] := by
  cases st with
  | nil => rfl
  | cons v r => exact h.elim
theorem aSt_ok {E : TEnv} {n : Nat} {ρ : Nat → Int} : ∀ (l : List AV) (r : List KV), aSt E n ρ l r → kokS E.1 r = true ∧ kcats r = (l.map acat).sum := by
  intro l
  induction l with
  | nil =>
    intro r hr
    rw [aSt_nil hr]
    exact ⟨rfl, rfl⟩
  | cons a l ih =>
    intro r hr
    obtain ⟨v, r, rfl, h1, h2⟩ := aSt_cons hr
    obtain ⟨i1, i2⟩ := ih r h2
    refine ⟨?_, ?_⟩
    · show (kokV E.1 v && r.all (kokV E.1)) = true
      rw [aR_ok h1]
      exact i1
    · unfold kcats at i2 ⊢
      rw [List.map_cons, List.map_cons, List.sum_cons, List.sum_cons, i2, aR_cat h1]
theorem adel_look {i : Nat} : ∀ (l : List (Nat × AV)) (j : Nat) (b : AV), alook (adel i l) j = some b → j ≠ i ∧ alook l j = some b := by
  intro l
  induction l with
  | nil => intro j b h; cases h
  | cons q l ih =>
    intro j b h
    unfold adel at h
    cases e : Nat.beq q.1 i with
    | true =>
      rw [e] at h
      obtain ⟨h1, h2⟩ := ih j b h
      refine ⟨h1, ?_⟩
      show (bif Nat.beq q.1 j then some q.2 else alook l j) = some b
      rw [kb_n (by rw [kb_t e]; exact fun z => h1 z.symm)]
      exact h2
    | false =>
      rw [e] at h
      have h : (bif Nat.beq q.1 j then some q.2 else alook (adel i l) j) = some b := h
      cases e2 : Nat.beq q.1 j with
      | true =>
        rw [e2] at h
        refine ⟨by rw [← kb_t e2]; exact kb_f e, ?_⟩
        show (bif Nat.beq q.1 j then some q.2 else alook l j) = some b
        rw [e2]
        exact h
      | false =>
        rw [e2] at h
        obtain ⟨h1, h2⟩ := ih j b h
        refine ⟨h1, ?_⟩
        show (bif Nat.beq q.1 j then some q.2 else alook l j) = some b
        rw [e2]
        exact h2
theorem adel2_look {i : Nat} {l : List (Nat × AV)} {j : Nat} {b : AV} (h : alook (adel2 i l) j = some b) : alook l j = some b ∧ (j + 1 = i → acat b ≠ 2) := by
  unfold adel2 at h
  split at h
  · exact ⟨h, fun q => by omega⟩
  · rename_i i
    split at h
    · rename_i a ha
      cases e : Nat.beq (acat a) 2 with
      | true =>
        rw [e] at h
        obtain ⟨h1, h2⟩ := adel_look _ _ _ h
        exact ⟨h2, fun q => by omega⟩
      | false =>
        rw [e] at h
        have h9 : alook l j = some b := h
        refine ⟨h9, fun q => ?_⟩
        have : j = i := by omega
        subst this
        rw [h9] at ha
        cases ha
        exact kb_f e
    · rename_i ha
      refine ⟨h, fun q => ?_⟩
      have : j = i := by omega
      subst this
      rw [h] at ha
      cases ha
theorem kfil_look (p : Nat × KV → Bool) : ∀ (l : List (Nat × KV)) (j : Nat) (v : KV), klook l j = some v → p (j, v) = true → klook (l.filter p) j = some v := by
  intro l
  induction l with
  | nil => intro j v h; cases h
  | cons q l ih =>
    intro j v h hp
    have h : (bif Nat.beq q.1 j then some q.2 else klook l j) = some v := h
    rw [List.filter_cons]
    cases e : Nat.beq q.1 j with
    | true =>
      rw [e] at h
      have e1 := kb_t e
      have e2 : q.2 = v := by cases h; rfl
      have e3 : q = (j, v) := by rw [← e1, ← e2]
      rw [e3, if_pos hp]
      show (bif Nat.beq j j then some v else klook (l.filter p) j) = some v
      rw [Nat.beq_refl]
      rfl
    | false =>
      rw [e] at h
      split
      · show (bif Nat.beq q.1 j then some q.2 else klook (l.filter p) j) = some v
        rw [e]
        exact ih j v h hp
      · exact ih j v h hp
theorem kok_fil {N : Nat} {lo : List (Nat × KV)} (h : kokL N lo = true) (p : Nat × KV → Bool) {i : Nat} {v : KV} (hv : kokV N v = true) : kokL N ((i, v) :: lo.filter p) = true := by
  unfold kokL at h ⊢
  rw [List.all_cons, Bool.and_eq_true]
  exact ⟨hv, List.all_eq_true.mpr fun q hq => List.all_eq_true.mp h q (List.mem_filter.mp hq).1⟩
theorem aLo_st1 {E : TEnv} {n : Nat} {ρ : Nat → Int} {alo : List (Nat × AV)} {lo : List (Nat × KV)} (hl : aLo E n ρ alo lo) {a : AV} {v : KV} (ha : aR E n ρ a v) (i : Nat) : aLo E n ρ (ast1 i a alo) (klo lo i v) := by
  refine ⟨fun j b hj => ?_, ?_⟩
  · have hj : (bif Nat.beq i j then some a else alook (adel i (adel2 i alo)) j) = some b := hj
    show ∃ u, (bif Nat.beq i j then some v else klook (kflt lo i) j) = some u ∧ _
    cases e : Nat.beq i j with
    | true =>
      rw [e] at hj
      cases hj
      exact ⟨v, rfl, ha⟩
    | false =>
      rw [e] at hj
      obtain ⟨h1, h2⟩ := adel_look _ _ _ hj
      obtain ⟨h3, h4⟩ := adel2_look h2
      obtain ⟨u, h5, h6⟩ := hl.1 j b h3
      refine ⟨u, ?_, h6⟩
      show klook (kflt lo i) j = some u
      rw [kflt_eq]
      refine kfil_look _ _ _ _ h5 ?_
      have h7 : (j == i) = false := beq_eq_false_iff_ne.mpr h1
      show (!(j == i) && !(j + 1 == i && kcat u == 2)) = true
      rw [h7]
      cases h8 : j + 1 == i with
      | false => rfl
      | true =>
        have := h4 (beq_iff_eq.mp h8)
        rw [aR_cat h6, beq_eq_false_iff_ne.mpr this]
        rfl
  · unfold klo
    rw [kflt_eq]
    exact kok_fil hl.2 _ (aR_ok ha)
theorem aLo_st2 {E : TEnv} {n : Nat} {ρ : Nat → Int} {alo : List (Nat × AV)} {lo : List (Nat × KV)} (hl : aLo E n ρ alo lo) {a : AV} {v : KV} (ha : aR E n ρ a v) (i : Nat) : aLo E n ρ (ast2 i a alo) (klo2 lo i v) := by
  refine ⟨fun j b hj => ?_, kok_fil hl.2 _ (aR_ok ha)⟩
  have hj : (bif Nat.beq i j then some a else alook (adel (i + 1) (adel i (adel2 i alo))) j) = some b := hj
  show ∃ u, (bif Nat.beq i j then some v else klook (lo.filter _) j) = some u ∧ _
  cases e : Nat.beq i j with
  | true =>
    rw [e] at hj
    cases hj
    exact ⟨v, rfl, ha⟩
  | false =>
    rw [e] at hj
    obtain ⟨h0, h0'⟩ := adel_look _ _ _ hj
    obtain ⟨h1, h2⟩ := adel_look _ _ _ h0'
    obtain ⟨h3, h4⟩ := adel2_look h2
    obtain ⟨u, h5, h6⟩ := hl.1 j b h3
    refine ⟨u, ?_, h6⟩
    show klook (lo.filter _) j = some u
    refine kfil_look _ _ _ _ h5 ?_
    show (!(j == i) && (!(j == i + 1) && !(j + 1 == i && kcat u == 2))) = true
    rw [beq_eq_false_iff_ne.mpr h1, beq_eq_false_iff_ne.mpr h0]
    cases h8 : j + 1 == i with
    | false => rfl
    | true =>
      have := h4 (beq_iff_eq.mp h8)
      rw [aR_cat h6, beq_eq_false_iff_ne.mpr this]
      rfl
/-- facts -/
def aHo (k : Nat) (z : Int) : Prop := match k with
  | 0 => z = 0
  | 1 => z ≠ 0
  | 2 => 0 ≤ z
  | 3 => z < 0
  | 4 => 0 < z
  | 5 => z ≤ 0
  | _ => False
theorem aas_ok {n : Nat} {rg : RG} {cs : List LF} {cB sB : LF} {ρ : Nat → Int} {c s : Nat} (h : aB n rg cs cB sB ρ c s) {d : LF} (hd : lwf n d) {k : Nat} (hk : aHo k (lev ρ d)) : ∃ q, aas k d rg cs = some q ∧ aB n q.1 q.2 cB sB ρ c s := by
  obtain ⟨h1, h2, h3, h4⟩ := h
  have one : ∀ f : LF, lwf n f → 0 ≤ lev ρ f → ∃ q, lasm rg cs f = some q ∧ aB n q.1 q.2 cB sB ρ c s := fun f hw hf => by
    obtain ⟨q, q1, q2, q3⟩ := lasm_ok h2 h3 hw hf
    exact ⟨q, q1, lasm_k h1 q1, q2, q3, h4⟩
  unfold aas
  split
  · have hk : lev ρ d = 0 := hk
    obtain ⟨q, q1, q2, q3, q4, q5⟩ := one d hd (by omega)
    rw [q1]
    obtain ⟨r, r1, r2, r3⟩ := lasm_ok q3 q4 (lwf_neg hd) (by rw [lev_neg]; omega)
    exact ⟨r, r1, lasm_k q2 r1, r2, r3, h4⟩
  · have hk : lev ρ d ≠ 0 := hk
    split
    · rename_i hd0
      cases e : iz d.1 with
      | true =>
        refine absurd ?_ hk
        unfold lev
        rw [hd0, iz_ok e]
        rfl
      | false => exact ⟨_, rfl, h1, h2, h3, h4⟩
    · have := lne_ok h2 hk
      show ∃ q, (bif lbad (lne rg d) then none else some (lne rg d, cs)) = some q ∧ _
      rw [lbad_ok this]
      exact ⟨_, rfl, lne_k h1 d, this, h3, h4⟩
  · exact one d hd hk
  · have hk : lev ρ d < 0 := hk
    exact one _ (lwf_add (lwf_neg hd) (lwf_c _ _)) (by rw [lev_add, lev_neg, lev_c]; omega)
  · have hk : 0 < lev ρ d := hk
    exact one _ (lwf_add hd (lwf_c _ _)) (by rw [lev_add, lev_c]; omega)
  · have hk : lev ρ d ≤ 0 := hk
    exact one _ (lwf_neg hd) (by rw [lev_neg]; omega)
  · exact ⟨_, rfl, h1, h2, h3, h4⟩
