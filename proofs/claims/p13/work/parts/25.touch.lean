/-! A place looked at anew; patterns: their unknowns bound to forms. -/
/-- what an abstract state says of a frame -/
def aGS (E : TEnv) (ph : PHI) (ρ : Nat → Int) (S : AS) (k : KF) : Prop := aG E ph ρ S.1 S.2.1 S.2.2.1 S.2.2.2.1 S.2.2.2.2.1 S.2.2.2.2.2.1 S.2.2.2.2.2.2.1 S.2.2.2.2.2.2.2 k.2.1 k.2.2.1 k.2.2.2.1 k.2.2.2.2.1 k.2.2.2.2.2
/-- a typed value at a place -/
def atouch (E : TEnv) (a : Nat) (f : LF) (S : AS) : Option AS := match atget S.2.2.2.2.2.1 a f with
  | some _ => some S
  | none => bif Nat.blt a E.1 then (match aidx S.2.1 S.2.2.1 f (E.2.2 (E.2.1 a)).1.2.2 with
    | some q => (match auni E q.1 q.2 (E.2.2 (E.2.1 a)).2 with
      | some u => bif ksall q.1 q.2 (fun x => vsub E x u) (E.2.2 (E.2.1 a)).2 then
          (match aval S.1 S.2.1 u with
          | (n', rg', v) => some (n', rg', S.2.2.1, S.2.2.2.1, S.2.2.2.2.1, ((a, f), v) :: S.2.2.2.2.2.1, S.2.2.2.2.2.2.1, S.2.2.2.2.2.2.2)) else none
      | none => none)
    | none => none) else none
/-- states that follow a state of the same frame -/
def aUp (E : TEnv) (ph : PHI) (ρ : Nat → Int) (n : Nat) (S' : AS) (k : KF) : Prop := ∃ ρ' : Nat → Int, (∀ i, i < n → ρ' i = ρ i) ∧ n ≤ S'.1 ∧ aGS E ph ρ' S' k
theorem atouch_ok {E : TEnv} {ph : PHI} {ρ : Nat → Int} {S S' : AS} {k : KF} {a : Nat} {f : LF} (hT : kTW E k.2.2.2.1) (hG : aGS E ph ρ S k) (hf : lwf S.1 f) (h : atouch E a f S = some S') : aUp E ph ρ S.1 S' k ∧ S'.2.2.2.1 = S.2.2.2.1 ∧ S'.2.2.2.2.1 = S.2.2.2.2.1 := by
  unfold atouch at h
  split at h
  · cases h
    exact ⟨⟨ρ, fun _ _ => rfl, Nat.le_refl _, hG⟩, rfl, rfl⟩
  · obtain ⟨ha, h⟩ := kcond_inv h
    have ha : a < E.1 := Nat.ble_eq.mp ha
    split at h
    · rename_i q hq
      obtain ⟨l, u0⟩ := q
      obtain ⟨i1, i2, i3, i4, i5⟩ := aidx_ok hG.1 hq
      split at h
      · rename_i u hu
        obtain ⟨hall, h⟩ := kcond_inv h
        have hlt : (lev ρ f).toNat < (E.2.2 (E.2.1 a)).1.2.2 := by omega
        obtain ⟨e, v, g1, g2, g3, g4, g5⟩ := wval_ty hT ha hlt
        have hv : vOK E u v := vsub_ok (ksall_ok (p := fun x => vsub E x u) _ hall (lev ρ f).toNat (by omega) (by omega)) g5
        obtain ⟨ρ', q1, q2, q3, q4⟩ := aB_val hG.1 hv
        have h : some ((aval S.1 S.2.1 u).1, (aval S.1 S.2.1 u).2.1, S.2.2.1, S.2.2.2.1, S.2.2.2.2.1, ((a, f), (aval S.1 S.2.1 u).2.2) :: S.2.2.2.2.2.1, S.2.2.2.2.2.2.1, S.2.2.2.2.2.2.2) = some S' := h
        cases h
        refine ⟨⟨ρ', q1, q2, q3, aLo_up q1 q2 hG.2.1, aSt_up q1 q2 _ _ hG.2.2.1, tcR_cons (tcR_up q1 q2 hG.2.2.2) ha (lwf_up hf q2) ?_ ?_ q4⟩, rfl, rfl⟩
        · rw [lev_ag q1 hf]; exact i1
        · rw [lev_ag q1 hf]; exact g4
      · cases h
    · cases h
/-! substitutions: below n0 the unknowns are themselves -/
abbrev SG : Type := List (Nat × LF)
def sgk : SG → Nat → Option LF
  | [], _ => none
  | q :: l, v => bif Nat.beq q.1 v then some q.2 else sgk l v
def sval (n0 : Nat) (sg : SG) (ρ : Nat → Int) : Nat → Int := fun v => if v < n0 then ρ v else match sgk sg v with
  | some f => lev ρ f
  | none => 0
def ssubl (n0 : Nat) (sg : SG) : List (Nat × Int) → LF → Option LF
  | [], g => some g
  | t :: l, g => bif Nat.blt t.1 n0 then ssubl n0 sg l (lfadd g (0, [(t.1, t.2)])) else (match sgk sg t.1 with
    | some f => ssubl n0 sg l (lfadd g (lfmul t.2 f))
    | none => none)
/-- a pattern's form with its unknowns bound -/
def ssub (n0 : Nat) (sg : SG) (f : LF) : Option LF := ssubl n0 sg f.2 (lfc f.1)
def swf (n0 n : Nat) (sg : SG) : Prop := n0 ≤ n ∧ ∀ q ∈ sg, lwf n q.2
theorem sgk_mem {sg : SG} {v : Nat} {f : LF} (h : sgk sg v = some f) : ∃ q ∈ sg, q.2 = f := by
  induction sg with
  | nil => cases h
  | cons q l ih =>
    unfold sgk at h
    cases e : Nat.beq q.1 v with
    | true =>
      rw [e] at h
      cases h
      exact ⟨q, List.mem_cons_self, rfl⟩
    | false =>
      rw [e] at h
      obtain ⟨q2, h1, h2⟩ := ih h
      exact ⟨q2, List.mem_cons_of_mem _ h1, h2⟩
theorem ssubl_ok {n0 n : Nat} {sg : SG} (hs : swf n0 n sg) (ρ : Nat → Int) : ∀ (l : List (Nat × Int)) (g r : LF), ssubl n0 sg l g = some r → lwf n g → lwf n r ∧ lev ρ r = lev ρ g + lsum (sval n0 sg ρ) l := by
  intro l
  induction l with
  | nil =>
    intro g r h hg
    cases h
    exact ⟨hg, by show _ = _ + 0; omega⟩
  | cons t l ih =>
    intro g r h hg
    unfold ssubl at h
    cases e : Nat.blt t.1 n0 with
    | true =>
      rw [e] at h
      have e : t.1 < n0 := Nat.ble_eq.mp e
      have hw : lwf n (0, [(t.1, t.2)]) := fun x hx => by
        cases hx with
        | head => exact Nat.lt_of_lt_of_le e hs.1
        | tail _ q => cases q
      obtain ⟨h1, h2⟩ := ih _ _ h (lwf_add hg hw)
      refine ⟨h1, ?_⟩
      rw [h2, lev_add]
      have e1 : lev ρ (0, [(t.1, t.2)]) = t.2 * ρ t.1 := by
        show 0 + (t.2 * ρ t.1 + 0) = _
        omega
      have e2 : sval n0 sg ρ t.1 = ρ t.1 := if_pos e
      show _ = lev ρ g + (t.2 * sval n0 sg ρ t.1 + lsum (sval n0 sg ρ) l)
      rw [e1, e2]
      omega
    | false =>
      rw [e] at h
      have e : ¬ t.1 < n0 := fun q => by
        have : Nat.blt t.1 n0 = true := Nat.ble_eq.mpr q
        rw [this] at e
        cases e
      simp only [cond_false] at h
      split at h
      · rename_i f hf
        obtain ⟨q, hq, rfl⟩ := sgk_mem hf
        obtain ⟨h1, h2⟩ := ih _ _ h (lwf_add hg (lwf_mul (hs.2 q hq)))
        refine ⟨h1, ?_⟩
        rw [h2, lev_add, lev_mul]
        have e2 : sval n0 sg ρ t.1 = lev ρ q.2 := by
          unfold sval
          rw [if_neg e, hf]
        show _ = lev ρ g + (t.2 * sval n0 sg ρ t.1 + lsum (sval n0 sg ρ) l)
        rw [e2]
        omega
      · cases h
theorem ssub_ok {n0 n : Nat} {sg : SG} (hs : swf n0 n sg) (ρ : Nat → Int) {f r : LF} (h : ssub n0 sg f = some r) : lwf n r ∧ lev ρ r = lev (sval n0 sg ρ) f := by
  obtain ⟨h1, h2⟩ := ssubl_ok hs ρ _ _ _ h (lwf_c _ _)
  refine ⟨h1, ?_⟩
  rw [h2, lev_c]
  rfl
/-- more bindings, the same values -/
def sext (sg sg' : SG) : Prop := ∀ v f, sgk sg v = some f → sgk sg' v = some f
theorem sext.rf (sg : SG) : sext sg sg := fun _ _ h => h
theorem sext.tr {a b c : SG} (h1 : sext a b) (h2 : sext b c) : sext a c := fun v f h => h2 v f (h1 v f h)
theorem ssubl_ext {n0 : Nat} {sg sg' : SG} (h : sext sg sg') : ∀ (l : List (Nat × Int)) (g r : LF), ssubl n0 sg l g = some r → ssubl n0 sg' l g = some r := by
  intro l
  induction l with
  | nil => intro g r hr; exact hr
  | cons t l ih =>
    intro g r hr
    unfold ssubl at hr ⊢
    cases e : Nat.blt t.1 n0 with
    | true =>
      rw [e] at hr
      exact ih _ _ hr
    | false =>
      rw [e] at hr
      simp only [cond_false] at hr ⊢
      split at hr
      · rename_i f hf
        rw [h _ _ hf]
        exact ih _ _ hr
      · cases hr
theorem ssub_ext {n0 : Nat} {sg sg' : SG} (h : sext sg sg') {f r : LF} (hr : ssub n0 sg f = some r) : ssub n0 sg' f = some r := ssubl_ext h _ _ _ hr
/-- a form divided: a = c + k * r -/
def sdiv (a : LF) (c k : Int) : Option LF := (fun r : LF => bif lfeq (lfadd (lfmul k r) (lfc c)) a then some r else none) ((a.1 - c) / k, a.2.map (fun t => (t.1, t.2 / k)))
theorem sdiv_ok {a r : LF} {c k : Int} (h : sdiv a c k = some r) : (∀ ρ, lev ρ a = c + k * lev ρ r) ∧ ∀ m, lwf m a → lwf m r := by
  unfold sdiv at h
  simp only at h
  obtain ⟨hb, h⟩ := kcond_inv h
  cases h
  refine ⟨fun ρ => ?_, fun m hm => lwl_div hm⟩
  have h1 := lfeq_ok hb ρ
  rw [lev_add, lev_mul, lev_c] at h1
  omega
/-- a pattern's value against a value -/
def abind (E : TEnv) (n0 : Nat) (p a : AV) (sg : SG) : Option SG := match p, a with
  | .inl f, .inl g => (match ssub n0 sg f with
    | some r => bif lfeq r g then some sg else none
    | none => (match f.2 with
      | [t] => (match sgk sg t.1 with
        | some _ => none
        | none => bif Nat.blt t.1 n0 then none else (match sdiv g f.1 t.2 with
          | some r => some ((t.1, r) :: sg)
          | none => none))
      | _ => none))
  | .inr q, .inr r => bif !Nat.beq q.1 0 && vsub E (r.1, (r.2 : Int), 0) (q.1, (q.2 : Int), 0) then some sg else none
  | _, _ => none
theorem abind_ok {E : TEnv} {n0 n : Nat} {ρ : Nat → Int} {p a : AV} {sg sg' : SG} (hs : swf n0 n sg) {v : KV} (ha : aR E n ρ a v) (h : abind E n0 p a sg = some sg') : swf n0 n sg' ∧ sext sg sg' ∧ ∀ (sg2 : SG) (ρ2 : Nat → Int) (n2 m : Nat), sext sg' sg2 → swf n0 n2 sg2 → n ≤ n2 → (∀ i, i < n → ρ2 i = ρ i) → (∀ f, p = .inl f → lwf m f) → aR E m (sval n0 sg2 ρ2) p v := by
  have int : ∀ (f g : LF) (sg' sg2 : SG) (ρ2 : Nat → Int) (n2 m : Nat), ssub n0 sg' f = some g → sext sg' sg2 → swf n0 n2 sg2 → n ≤ n2 → (∀ i, i < n → ρ2 i = ρ i) → lwf m f → ∀ g2, lwf n g2 → (lev ρ2 g = lev ρ2 g2) → v = .inl (.int (Int32.ofInt (lev ρ g2))) → aR E m (sval n0 sg2 ρ2) (.inl f) v := fun f g sg' sg2 ρ2 n2 m h1 h2 h3 h4 h5 h6 g2 h7 h8 h9 => by
    refine ⟨h6, ?_⟩
    have h10 := (ssub_ok h3 ρ2 (ssub_ext h2 h1)).2
    rw [h9, ← h10, h8, lev_ag h5 h7]
  unfold abind at h
  split at h
  · rename_i f g
    split at h
    · rename_i r hr
      obtain ⟨hb, h⟩ := kcond_inv h
      cases h
      exact ⟨hs, sext.rf _, fun sg2 ρ2 n2 m h1 h2 h3 h4 h5 => int f r _ sg2 ρ2 n2 m hr h1 h2 h3 h4 (h5 f rfl) g ha.1 (lfeq_ok hb ρ2) ha.2⟩
    · split at h
      · rename_i t ht
        split at h
        · cases h
        · rename_i hk
          cases e : Nat.blt t.1 n0 with
          | true => rw [e] at h; cases h
          | false =>
            rw [e] at h
            simp only [cond_false] at h
            split at h
            · rename_i r hr
              cases h
              obtain ⟨d1, d2⟩ := sdiv_ok hr
              have hx : sext sg ((t.1, r) :: sg) := fun v' f' h' => by
                show (bif Nat.beq t.1 v' then some r else sgk sg v') = some f'
                cases e2 : Nat.beq t.1 v' with
                | true =>
                  rw [← kb_t e2, hk] at h'
                  cases h'
                | false => exact h'
              have hw : swf n0 n ((t.1, r) :: sg) := ⟨hs.1, fun q hq => by
                cases hq with
                | head => exact d2 n ha.1
                | tail _ hq => exact hs.2 q hq⟩
              refine ⟨hw, hx, fun sg2 ρ2 n2 m h1 h2 h3 h4 h5 => ⟨h5 f rfl, ?_⟩⟩
              have h6 : sgk sg2 t.1 = some r := h1 _ _ (by
                show (bif Nat.beq t.1 t.1 then some r else _) = some r
                rw [Nat.beq_refl]
                rfl)
              have h7 : sval n0 sg2 ρ2 t.1 = lev ρ2 r := by
                unfold sval
                rw [if_neg (fun q => by
                  have : Nat.blt t.1 n0 = true := Nat.ble_eq.mpr q
                  rw [this] at e
                  cases e), h6]
              have h8 : lev (sval n0 sg2 ρ2) f = f.1 + t.2 * lev ρ2 r := by
                unfold lev
                rw [ht]
                show f.1 + (t.2 * sval n0 sg2 ρ2 t.1 + 0) = _
                rw [h7]
                unfold lev
                omega
              rw [ha.2, h8, ← d1 ρ2, lev_ag h4 ha.1]
            · cases h
      · cases h
  · rename_i q r
    obtain ⟨hb, h⟩ := kcond_inv h
    cases h
    have hb := Bool.and_eq_true_iff.mp hb
    refine ⟨hs, sext.rf _, fun sg2 ρ2 n2 m h1 h2 h3 h4 h5 => ⟨fun z => ?_, vsub_ok hb.2 ha.2⟩⟩
    have h6 := hb.1
    rw [z] at h6
    cases h6
  · cases h
