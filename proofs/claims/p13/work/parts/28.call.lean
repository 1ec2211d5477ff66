/-! Contracts of methods; a call by a contract. -/
/-- the method, its entry (st: what is passed, the last on top), its ends (st: the answer), what it may change, a measure -/
abbrev KC : Type := Nat × AS × List AS × MOD × LF
def CV (E : TEnv) (ph : PHI) (cl : KCL) (d : Nat) (C : KC) : Prop := ∀ (ρ : Nat → Int) (st : List KV) (w : KW), kTW E w → aGS E ph ρ C.2.1 (0, [], st, w, 0, 0) → lev ρ C.2.2.2.2 < (d : Int) → ∃ r w', (∃ f, cl f C.1 st.reverse w = some (r, w')) ∧ kTW E w' ∧ kFr E C.2.2.2.1 w w' ∧ ∃ P ∈ C.2.2.1, ∃ ρ' : Nat → Int, (∀ i, i < C.2.1.1 → ρ' i = ρ i) ∧ C.2.1.1 ≤ P.1 ∧ aGS E ph ρ' P (0, [], r.toList, w', 0, 0)
def asubv (sg : SG) : AV → Option AV
  | .inl f => (match ssub 0 sg f with
    | some g => some (.inl g)
    | none => none)
  | .inr q => some (.inr q)
def asubS (sg : SG) : List AV → Option (List AV)
  | [] => some []
  | a :: l => (match asubv sg a, asubS sg l with
    | some b, some r => some (b :: r)
    | _, _ => none)
def asubT (sg : SG) : TC → Option TC
  | [] => some []
  | e :: l => (match ssub 0 sg e.1.2, asubv sg e.2, asubT sg l with
    | some k, some b, some r => some (((e.1.1, k), b) :: r)
    | _, _, _ => none)
/-- facts taken in: none: they can't be put; some none: they can't hold -/
def asubC (sg : SG) : List LF → RG × List LF → Option (Option (RG × List LF))
  | [], q => some (some q)
  | f :: l, q => (match ssub 0 sg f with
    | some g => (match lasm q.1 q.2 g with
      | some q' => asubC sg l q'
      | none => some none)
    | none => none)
/-- an end's state, in the caller -/
def apost (E : TEnv) (sg : SG) (n0 : Nat) (A : AS) (mods : MOD) (lo : List (Nat × AV)) (rest : List AV) (cB sB : LF) (P : AS) : Option (List AS) := (fun sg' : SG => match asubC sg' P.2.2.1 ((P.2.1.filter (fun q => Nat.ble n0 q.1)).map (fun q => (A.1 + (q.1 - n0), q.2)) ++ A.2.1, A.2.2.1), asubS sg' P.2.2.2.2.1, asubT sg' P.2.2.2.2.2.1 with
  | some none, _, _ => some []
  | some (some q), some st, some tc => some [(A.1 + (P.1 - n0), q.1, q.2, lo, st ++ rest, tc ++ atdelM E A.2.1 mods A.2.2.2.2.2.1, cB, sB)]
  | _, _, _ => none) ((List.range (P.1 - n0)).map (fun i => (n0 + i, lfv (A.1 + i))) ++ sg)
def aposts (E : TEnv) (sg : SG) (n0 : Nat) (A : AS) (mods : MOD) (lo : List (Nat × AV)) (rest : List AV) (cB sB : LF) : List AS → Option (List AS)
  | [] => some []
  | P :: l => (match apost E sg n0 A mods lo rest cB sB P, aposts E sg n0 A mods lo rest cB sB l with
    | some a, some b => some (a ++ b)
    | _, _ => none)
def atry (E : TEnv) (CS : List KC) (M0 : LF) (mods : MOD) (mid : Nat) (A : AS) : List Nat → Option (KC × AS × SG)
  | [] => none
  | i :: l => (match CS[i]? with
    | some C => bif Nat.beq C.1 mid && kmsub C.2.2.2.1 mods then (match amatch E 0 A C.2.1 with
      | some q => (match ssub 0 q.2 C.2.2.2.2 with
        | some g => bif lle q.1.2.1 q.1.2.2.1 (lfadd (lfsub g M0) (lfc 1)) then some (C, q) else atry E CS M0 mods mid A l
        | none => atry E CS M0 mods mid A l)
      | none => atry E CS M0 mods mid A l) else atry E CS M0 mods mid A l
    | none => atry E CS M0 mods mid A l)
def acall (E : TEnv) (CS : List KC) (cids : List Nat) (M0 : LF) (mods : MOD) (mid tot bc bs Rc Rs : Nat) (pc : Nat) (S : AS) : Option (List (Nat × AS)) := bif Nat.ble tot S.2.2.2.2.1.length && (lb0 S.2.1 (lfadd (lfadd S.2.2.2.2.2.2.1 (lfc (bc : Int))) (lfc (- (Rc : Int)))) && (lb0 S.2.1 (lfadd (lfadd S.2.2.2.2.2.2.2 (lfc (bs : Int))) (lfc (- (Rs : Int)))) && Nat.ble ((S.2.2.2.2.1.drop tot).map acat).sum 8)) then (match atry E CS M0 mods mid (S.1, S.2.1, S.2.2.1, [], S.2.2.2.2.1.take tot, S.2.2.2.2.2.1, lfc 0, lfc 0) cids with
  | some q => (match aposts E q.2.2 q.1.2.1.1 q.2.1 q.1.2.2.2.1 S.2.2.2.1 (S.2.2.2.2.1.drop tot) (lfadd S.2.2.2.2.2.2.1 (lfc (bc : Int))) (lfadd S.2.2.2.2.2.2.2 (lfc (bs : Int))) q.1.2.2.1 with
    | some L => some (L.map (fun S' => (pc + 3, S')))
    | none => none)
  | none => none) else none
section CALL
variable {E : TEnv} {ph : PHI}
theorem aSt_cut {n : Nat} {ρ : Nat → Int} : ∀ (m : Nat) (l : List AV) (st : List KV), aSt E n ρ l st → aSt E n ρ (l.take m) (st.take m) ∧ aSt E n ρ (l.drop m) (st.drop m) ∧ l.length = st.length := by
  intro m
  induction m with
  | zero =>
    intro l st h
    refine ⟨trivial, h, ?_⟩
    induction l generalizing st with
    | nil => rw [aSt_nil h]; rfl
    | cons a l ih =>
      obtain ⟨v, r, rfl, h1, h2⟩ := aSt_cons h
      rw [List.length_cons, List.length_cons, ih r h2]
  | succ m ih =>
    intro l st h
    cases l with
    | nil =>
      rw [aSt_nil h]
      exact ⟨trivial, trivial, rfl⟩
    | cons a l =>
      obtain ⟨v, r, rfl, h1, h2⟩ := aSt_cons h
      obtain ⟨i1, i2, i3⟩ := ih l r h2
      exact ⟨⟨h1, i1⟩, i2, by rw [List.length_cons, List.length_cons, i3]⟩
theorem aSt_app {n : Nat} {ρ : Nat → Int} : ∀ (l : List AV) (st : List KV) {r : List AV} {q : List KV}, aSt E n ρ l st → aSt E n ρ r q → aSt E n ρ (l ++ r) (st ++ q) := by
  intro l
  induction l with
  | nil =>
    intro st r q h h2
    rw [aSt_nil h]
    exact h2
  | cons a l ih =>
    intro st r q h h2
    obtain ⟨v, s', rfl, h1, h3⟩ := aSt_cons h
    exact ⟨h1, ih s' h3 h2⟩
theorem tcM_ok {n : Nat} {ρ : Nat → Int} {rg : RG} {mods : MOD} {w w' : KW} (hB : kRG ρ rg) (hF : kFr E mods w w') : ∀ tc : TC, tcE E n ρ tc w → tcE E n ρ (atdelM E rg mods tc) w' := by
  intro tc
  induction tc with
  | nil => intro _ q hq; cases hq
  | cons q t ih =>
    intro ht
    have ht' : tcE E n ρ t w := fun x hx => ht x (List.mem_cons_of_mem _ hx)
    unfold atdelM
    cases e : mods.any (fun r => Nat.beq r.1 (E.2.1 q.1.1) && !aout rg q.1.2 r.2.1 r.2.2) with
    | true => exact ih ht'
    | false =>
      intro x hx
      cases hx with
      | tail _ hx => exact ih ht' x hx
      | head =>
        obtain ⟨g0, g1⟩ := ht q List.mem_cons_self
        refine ⟨g0, ?_⟩
        rcases g1 with g1 | ⟨g1, g2, v, g3, g4⟩
        · exact Or.inl g1
        · refine Or.inr ⟨g1, g2, v, ?_, g4⟩
          rw [hF _ _ g1]
          · exact g3
          · rintro ⟨r, hr, e1, e2, e3⟩
            have : mods.any (fun r => Nat.beq r.1 (E.2.1 q.1.1) && !aout rg q.1.2 r.2.1 r.2.2) = true := by
              refine List.any_eq_true.mpr ⟨r, hr, ?_⟩
              rw [kb_r e1, Bool.true_and]
              cases c1 : aout rg q.1.2 r.2.1 r.2.2 with
              | false => rfl
              | true => rcases aout_ok hB c1 with c1 | c1 <;> omega
            rw [this] at e
            cases e
theorem asubv_ok {sg : SG} {n m : Nat} {ρ ρp : Nat → Int} (hs : swf 0 n sg) (hag : ∀ i, i < m → sval 0 sg ρ i = ρp i) {a b : AV} {v : KV} (hw : avwf m a = true) (ha : aR E m ρp a v) (h : asubv sg a = some b) : aR E n ρ b v := by
  rcases a with f | q
  · have h : (match ssub 0 sg f with
      | some g => some (.inl g)
      | none => none) = some b := h
    split at h
    · rename_i g hg
      cases h
      obtain ⟨h1, h2⟩ := ssub_ok hs ρ hg
      refine ⟨h1, ?_⟩
      rw [h2, lev_ag hag (lwfb_ok hw)]
      exact ha.2
    · cases h
  · cases h
    exact ha
theorem asubS_ok {sg : SG} {n m : Nat} {ρ ρp : Nat → Int} (hs : swf 0 n sg) (hag : ∀ i, i < m → sval 0 sg ρ i = ρp i) : ∀ (l r : List AV) (st : List KV), l.all (avwf m) = true → aSt E m ρp l st → asubS sg l = some r → aSt E n ρ r st := by
  intro l
  induction l with
  | nil =>
    intro r st _ h1 h2
    cases h2
    rw [aSt_nil h1]
    trivial
  | cons a l ih =>
    intro r st hw h1 h2
    rw [List.all_cons] at hw
    have hw := Bool.and_eq_true_iff.mp hw
    obtain ⟨v, s', rfl, h3, h4⟩ := aSt_cons h1
    unfold asubS at h2
    split at h2
    · rename_i b r' hb hr
      cases h2
      exact ⟨asubv_ok hs hag hw.1 h3 hb, ih r' s' hw.2 h4 hr⟩
    · cases h2
theorem asubT_ok {sg : SG} {n m : Nat} {ρ ρp : Nat → Int} {w : KW} (hs : swf 0 n sg) (hag : ∀ i, i < m → sval 0 sg ρ i = ρp i) : ∀ (l r : TC), l.all (fun e => lwfb m e.1.2 && (avwf m e.2 && Nat.blt e.1.1 2000000)) = true → tcE E m ρp l w → asubT sg l = some r → tcE E n ρ r w := by
  intro l
  induction l with
  | nil =>
    intro r _ _ h2
    cases h2
    intro e he
    cases he
  | cons e0 l ih =>
    intro r hw h1 h2
    rw [List.all_cons] at hw
    have hw := Bool.and_eq_true_iff.mp hw
    have hw1 := hw.1
    simp only [Bool.and_eq_true] at hw1
    unfold asubT at h2
    split at h2
    · rename_i k b r' hk hb hr
      cases h2
      intro e he
      cases he with
      | tail _ he => exact ih r' hw.2 (fun x hx => h1 x (List.mem_cons_of_mem _ hx)) hr e he
      | head =>
        obtain ⟨g0, g1⟩ := h1 e0 List.mem_cons_self
        obtain ⟨h3, h4⟩ := ssub_ok hs ρ hk
        refine ⟨h3, ?_⟩
        rcases g1 with g1 | ⟨g1, g2, v, g3, g4⟩
        · exact Or.inl g1
        · have e1 : lev ρ k = lev ρp e0.1.2 := by rw [h4, lev_ag hag (lwfb_ok hw1.1)]
          exact Or.inr ⟨g1, by rw [e1]; exact g2, v, by rw [e1]; exact g3, asubv_ok hs hag hw1.2.1 g4 hb⟩
    · cases h2
theorem asubC_ok {sg : SG} {n m : Nat} {ρ ρp : Nat → Int} (hs : swf 0 n sg) (hag : ∀ i, i < m → sval 0 sg ρ i = ρp i) : ∀ (l : List LF) (q : RG × List LF) (o : Option (RG × List LF)), l.all (lwfb m) = true → (∀ f ∈ l, 0 ≤ lev ρp f) → kRK n q.1 → kRG ρ q.1 → kCS n ρ q.2 → asubC sg l q = some o → ∃ q', o = some q' ∧ kRK n q'.1 ∧ kRG ρ q'.1 ∧ kCS n ρ q'.2 := by
  intro l
  induction l with
  | nil =>
    intro q o _ _ h1 h2 h3 h
    cases h
    exact ⟨q, rfl, h1, h2, h3⟩
  | cons f l ih =>
    intro q o hw h0 h1 h2 h3 h
    rw [List.all_cons] at hw
    have hw := Bool.and_eq_true_iff.mp hw
    unfold asubC at h
    split at h
    · rename_i g hg
      obtain ⟨h4, h5⟩ := ssub_ok hs ρ hg
      have h6 : 0 ≤ lev ρ g := by rw [h5, lev_ag hag (lwfb_ok hw.1)]; exact h0 f List.mem_cons_self
      obtain ⟨q', k1, k2, k3⟩ := lasm_ok h2 h3 h4 h6
      rw [k1] at h
      exact ih q' o hw.2 (fun f hf => h0 f (List.mem_cons_of_mem _ hf)) (lasm_k h1 k1) k2 k3 h
    · cases h
theorem sgk_map {n0 a : Nat} (sg : SG) : ∀ (m b v : Nat), sgk ((List.range' b m).map (fun i => (n0 + i, lfv (a + i))) ++ sg) v = if n0 + b ≤ v ∧ v < n0 + b + m then some (lfv (a + (v - n0))) else sgk sg v := by
  intro m
  induction m with
  | zero =>
    intro b v
    rw [if_neg (by omega)]
    rfl
  | succ m ih =>
    intro b v
    rw [List.range'_succ]
    show (bif Nat.beq (n0 + b) v then some (lfv (a + b)) else sgk ((List.range' (b + 1) m).map (fun i => (n0 + i, lfv (a + i))) ++ sg) v) = _
    cases e : Nat.beq (n0 + b) v with
    | true =>
      have e := kb_t e
      rw [if_pos (by omega), show v - n0 = b by omega]
      rfl
    | false =>
      have e := kb_f e
      simp only [cond_false]
      rw [ih (b + 1) v]
      by_cases c1 : n0 + (b + 1) ≤ v ∧ v < n0 + (b + 1) + m
      · rw [if_pos c1, if_pos (by omega)]
      · rw [if_neg c1, if_neg (by omega)]
/-- an end of a callee, as a state of the caller -/
theorem apost_ok {A P : AS} {sg : SG} {n0 : Nat} {mods : MOD} {lo : List (Nat × AV)} {rest : List AV} {cB sB : LF} {L : List AS} {ρ ρ1 ρp : Nat → Int} {n : Nat} {w w' : KW} {lok : List (Nat × KV)} {restk : List KV} {r : Option KV} {c s : Nat} (hT : kTW E w) (hF : kFr E mods w w') (hPh : phW ph) (hnA : n ≤ A.1) (hag : ∀ i, i < n → ρ1 i = ρ i) (hA : kRK A.1 A.2.1 ∧ kRG ρ1 A.2.1 ∧ kCS A.1 ρ1 A.2.2.1 ∧ tcE E A.1 ρ1 A.2.2.2.2.2.1 w) (hs : swf 0 A.1 sg) (hP : apwf 0 P = true) (hp0 : n0 ≤ P.1) (hpa : ∀ i, i < n0 → ρp i = sval 0 sg ρ1 i) (hG : aGS E ph ρp P (0, [], r.toList, w', 0, 0)) (hlo : aLo E n ρ lo lok) (hrest : aSt E n ρ rest restk) (hc : lwf n cB ∧ (c : Int) ≤ lev ρ cB) (hsb : lwf n sB ∧ (s : Int) ≤ lev ρ sB) (h : apost E sg n0 A mods lo rest cB sB P = some L) : ∃ S' ∈ L, ∃ ρ2 : Nat → Int, (∀ i, i < n → ρ2 i = ρ i) ∧ n ≤ S'.1 ∧ aGS E ph ρ2 S' (0, lok, r.toList ++ restk, w', c, s) := by
  unfold apwf at hP
  simp only [Bool.and_eq_true] at hP
  obtain ⟨-, p2, p3, p4, p5, p6, p7, p8⟩ := hP
  unfold apost at h
  simp only at h
  have ag1 : ∀ i, i < A.1 → (fun i => if i < A.1 then ρ1 i else ρp (n0 + (i - A.1))) i = ρ1 i := fun i hi => if_pos hi
  have ag2 : ∀ i, i < n → (fun i => if i < A.1 then ρ1 i else ρp (n0 + (i - A.1))) i = ρ i := fun i hi => by
    rw [ag1 i (by omega), hag i hi]
  have hs' : swf 0 (A.1 + (P.1 - n0)) ((List.range (P.1 - n0)).map (fun i => (n0 + i, lfv (A.1 + i))) ++ sg) := ⟨Nat.zero_le _, fun q hq => by
    rcases List.mem_append.mp hq with hq | hq
    · obtain ⟨i, hi, rfl⟩ := List.mem_map.mp hq
      have := List.mem_range.mp hi
      exact lwf_v (by omega)
    · exact lwf_up (hs.2 q hq) (Nat.le_add_right _ _)⟩
  have hval : ∀ v, v < P.1 → sval 0 ((List.range (P.1 - n0)).map (fun i => (n0 + i, lfv (A.1 + i))) ++ sg) (fun i => if i < A.1 then ρ1 i else ρp (n0 + (i - A.1))) v = ρp v := fun v hv => by
    unfold sval
    rw [if_neg (Nat.not_lt_zero _), List.range_eq_range', sgk_map sg (P.1 - n0) 0 v]
    by_cases c1 : n0 + 0 ≤ v ∧ v < n0 + 0 + (P.1 - n0)
    · rw [if_pos c1]
      show lev _ (lfv (A.1 + (v - n0))) = _
      rw [lev_v, if_neg (by omega)]
      congr 1
      omega
    · rw [if_neg c1, hpa v (by omega)]
      unfold sval
      rw [if_neg (Nat.not_lt_zero _)]
      split
      · rename_i f hf
        obtain ⟨q, hq, rfl⟩ := sgk_mem hf
        exact lev_ag ag1 (hs.2 q hq)
      · rfl
  have F1 : kRK (A.1 + (P.1 - n0)) ((P.2.1.filter (fun q => Nat.ble n0 q.1)).map (fun q => (A.1 + (q.1 - n0), q.2)) ++ A.2.1) := by
    intro q hq
    rcases List.mem_append.mp hq with hq | hq
    · obtain ⟨z, hz, rfl⟩ := List.mem_map.mp hq
      obtain ⟨hz, hz2⟩ := List.mem_filter.mp hz
      have h3 : z.1 < P.1 := Nat.ble_eq.mp (List.all_eq_true.mp p2 z hz)
      have h4 : n0 ≤ z.1 := Nat.ble_eq.mp hz2
      show A.1 + (z.1 - n0) < _
      omega
    · exact Nat.lt_of_lt_of_le (hA.1 q hq) (Nat.le_add_right _ _)
  have F2 : kRG (fun i => if i < A.1 then ρ1 i else ρp (n0 + (i - A.1))) ((P.2.1.filter (fun q => Nat.ble n0 q.1)).map (fun q => (A.1 + (q.1 - n0), q.2)) ++ A.2.1) := by
    intro q hq
    rcases List.mem_append.mp hq with hq | hq
    · obtain ⟨z, hz, rfl⟩ := List.mem_map.mp hq
      obtain ⟨hz, hz2⟩ := List.mem_filter.mp hz
      have h4 : n0 ≤ z.1 := Nat.ble_eq.mp hz2
      have h5 := hG.1.2.1 z hz
      show z.2.1 ≤ (if A.1 + (z.1 - n0) < A.1 then ρ1 (A.1 + (z.1 - n0)) else ρp (n0 + (A.1 + (z.1 - n0) - A.1))) ∧ (if A.1 + (z.1 - n0) < A.1 then ρ1 (A.1 + (z.1 - n0)) else ρp (n0 + (A.1 + (z.1 - n0) - A.1))) ≤ z.2.2
      rw [if_neg (by omega), show n0 + (A.1 + (z.1 - n0) - A.1) = z.1 by omega]
      exact h5
    · have := ag1 q.1 (hA.1 q hq)
      rw [this]
      exact hA.2.1 q hq
  have F3 : kCS (A.1 + (P.1 - n0)) (fun i => if i < A.1 then ρ1 i else ρp (n0 + (i - A.1))) A.2.2.1 := by
    intro f hf
    obtain ⟨a, b⟩ := hA.2.2.1 f hf
    exact ⟨lwf_up a (Nat.le_add_right _ _), by rw [lev_ag ag1 a]; exact b⟩
  split at h
  · rename_i hcn
    exfalso
    obtain ⟨q', e, -⟩ := asubC_ok hs' hval _ _ _ p3 (fun f hf => (hG.1.2.2.1 f hf).2) F1 F2 F3 hcn
    cases e
  · rename_i q st tc hcs hst htc
    cases h
    obtain ⟨q', e, k1, k2, k3⟩ := asubC_ok hs' hval _ _ _ p3 (fun f hf => (hG.1.2.2.1 f hf).2) F1 F2 F3 hcs
    cases e
    have hn' : n ≤ A.1 + (P.1 - n0) := Nat.le_trans hnA (Nat.le_add_right _ _)
    refine ⟨_, List.mem_cons_self, fun i => if i < A.1 then ρ1 i else ρp (n0 + (i - A.1)), ag2, hn', ⟨k1, k2, k3, ⟨lwf_up hc.1 hn', by rw [lev_ag ag2 hc.1]; exact hc.2⟩, ⟨lwf_up hsb.1 hn', by rw [lev_ag ag2 hsb.1]; exact hsb.2⟩⟩, aLo_up ag2 hn' hlo, aSt_app _ _ (asubS_ok hs' hval _ _ _ p5 hG.2.2.1 hst) (aSt_up ag2 hn' _ _ hrest), fun e he => ?_, fun p hp i hi => ?_⟩
    · rcases List.mem_append.mp he with he | he
      · exact asubT_ok hs' hval _ _ p6 hG.2.2.2.1 htc e he
      · exact tcE_up ag1 (Nat.le_add_right _ _) (tcM_ok hA.2.1 hF _ hA.2.2.2) e he
    · rcases hG.2.2.2.2 p hp i hi with ⟨e, e1, e2, -⟩ | r
      · have := List.all_eq_true.mp p6 e e1
        simp only [Bool.and_eq_true] at this
        have h5 : e.1.1 < 2000000 := Nat.ble_eq.mp this.2.2
        have := (hPh.1 p hp).1
        omega
      · exact Or.inr r
  · cases h
end CALL
