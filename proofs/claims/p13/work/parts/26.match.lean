/-! An abstract state within a pattern. -/
def lwfb (n : Nat) (f : LF) : Bool := f.2.all (fun t => Nat.blt t.1 n)
theorem lwfb_ok {n : Nat} {f : LF} (h : lwfb n f = true) : lwf n f := fun t ht => Nat.ble_eq.mp (List.all_eq_true.mp h t ht)
def avwf (n : Nat) (a : AV) : Bool := match a with
  | .inl f => lwfb n f
  | .inr _ => true
theorem avwf_ok {n : Nat} {a : AV} (h : avwf n a = true) : ∀ f, a = .inl f → lwf n f := fun f e => by
  subst e
  exact lwfb_ok h
/-- a pattern that is well made -/
def apwf (n0 : Nat) (P : AS) : Bool := Nat.ble n0 P.1 && (P.2.1.all (fun q => Nat.blt q.1 P.1) && (P.2.2.1.all (lwfb P.1) && (P.2.2.2.1.all (fun q => avwf P.1 q.2) && (P.2.2.2.2.1.all (avwf P.1) && (P.2.2.2.2.2.1.all (fun e => lwfb P.1 e.1.2 && (avwf P.1 e.2 && Nat.blt e.1.1 2000000)) && (lwfb P.1 P.2.2.2.2.2.2.1 && lwfb P.1 P.2.2.2.2.2.2.2))))))
def abindLo (E : TEnv) (n0 : Nat) (alo : List (Nat × AV)) : List (Nat × AV) → SG → Option SG
  | [], sg => some sg
  | e :: l, sg => match alook alo e.1 with
    | some a => (match abind E n0 e.2 a sg with
      | some sg' => abindLo E n0 alo l sg'
      | none => none)
    | none => none
def abindSt (E : TEnv) (n0 : Nat) : List AV → List AV → SG → Option SG
  | [], [], sg => some sg
  | p :: l, a :: r, sg => (match abind E n0 p a sg with
    | some sg' => abindSt E n0 l r sg'
    | none => none)
  | _, _, _ => none
def abindTc (E : TEnv) (n0 : Nat) : TC → AS → SG → Option (AS × SG)
  | [], S, sg => some (S, sg)
  | e :: l, S, sg => bif Nat.blt e.1.1 2000000 then (match ssub n0 sg e.1.2 with
    | some key => (match atouch E e.1.1 key S with
      | some S' => (match atget S'.2.2.2.2.2.1 e.1.1 key with
        | some a => (match abind E n0 e.2 a sg with
          | some sg' => abindTc E n0 l S' sg'
          | none => none)
        | none => none)
      | none => none)
    | none => none) else none
/-- no record is under way -/
def anomk (tc : TC) : Bool := tc.all (fun e => Nat.blt e.1.1 2000000)
def achk (n0 : Nat) (A P : AS) (sg : SG) : Bool := P.2.1.all (fun q => match ssub n0 sg (lfv q.1) with
    | some f => lle A.2.1 A.2.2.1 (lfadd f (lfc (- q.2.2))) && lle A.2.1 A.2.2.1 (lfadd (lfneg f) (lfc q.2.1))
    | none => false) && (P.2.2.1.all (fun f => match ssub n0 sg f with
    | some g => lle A.2.1 A.2.2.1 (lfneg g)
    | none => false) && ((match ssub n0 sg P.2.2.2.2.2.2.1 with
    | some g => lle A.2.1 A.2.2.1 (lfsub A.2.2.2.2.2.2.1 g)
    | none => false) && (match ssub n0 sg P.2.2.2.2.2.2.2 with
    | some g => lle A.2.1 A.2.2.1 (lfsub A.2.2.2.2.2.2.2 g)
    | none => false)))
def amatch (E : TEnv) (n0 : Nat) (A P : AS) : Option (AS × SG) := bif anomk A.2.2.2.2.2.1 then (match abindLo E n0 A.2.2.2.1 P.2.2.2.1 [] with
  | some sg => (match abindSt E n0 P.2.2.2.2.1 A.2.2.2.2.1 sg with
    | some sg => (match abindTc E n0 P.2.2.2.2.2.1 A sg with
      | some q => bif achk n0 q.1 P q.2 then some q else none
      | none => none)
    | none => none)
  | none => none) else none
theorem swf_up {n0 n m : Nat} {sg : SG} (h : swf n0 n sg) (hm : n ≤ m) : swf n0 m sg := ⟨Nat.le_trans h.1 hm, fun q hq => lwf_up (h.2 q hq) hm⟩
theorem abindLo_ok {E : TEnv} {n0 n : Nat} {ρ : Nat → Int} {alo : List (Nat × AV)} {lo : List (Nat × KV)} (hl : aLo E n ρ alo lo) : ∀ (l : List (Nat × AV)) (sg sg' : SG), swf n0 n sg → abindLo E n0 alo l sg = some sg' → swf n0 n sg' ∧ sext sg sg' ∧ ∀ (sg2 : SG) (ρ2 : Nat → Int) (n2 m : Nat), sext sg' sg2 → swf n0 n2 sg2 → n ≤ n2 → (∀ i, i < n → ρ2 i = ρ i) → (∀ e ∈ l, avwf m e.2 = true) → ∀ e ∈ l, ∃ v, klook lo e.1 = some v ∧ aR E m (sval n0 sg2 ρ2) e.2 v := by
  intro l
  induction l with
  | nil =>
    intro sg sg' hs h
    cases h
    exact ⟨hs, sext.rf _, fun _ _ _ _ _ _ _ _ _ e he => by cases he⟩
  | cons e0 l ih =>
    intro sg sg' hs h
    unfold abindLo at h
    split at h
    · rename_i a ha
      split at h
      · rename_i sg1 h1
        obtain ⟨v, hv, hr⟩ := hl.1 _ _ ha
        obtain ⟨b1, b2, b3⟩ := abind_ok hs hr h1
        obtain ⟨c1, c2, c3⟩ := ih sg1 sg' b1 h
        refine ⟨c1, b2.tr c2, fun sg2 ρ2 n2 m h2 h3 h4 h5 h6 e he => ?_⟩
        cases he with
        | head => exact ⟨v, hv, b3 sg2 ρ2 n2 m (c2.tr h2) h3 h4 h5 (avwf_ok (h6 e0 List.mem_cons_self))⟩
        | tail _ he => exact c3 sg2 ρ2 n2 m h2 h3 h4 h5 (fun e he => h6 e (List.mem_cons_of_mem _ he)) e he
      · cases h
    · cases h
theorem abindSt_ok {E : TEnv} {n0 n : Nat} {ρ : Nat → Int} : ∀ (l r : List AV) (st : List KV) (sg sg' : SG), aSt E n ρ r st → swf n0 n sg → abindSt E n0 l r sg = some sg' → swf n0 n sg' ∧ sext sg sg' ∧ ∀ (sg2 : SG) (ρ2 : Nat → Int) (n2 m : Nat), sext sg' sg2 → swf n0 n2 sg2 → n ≤ n2 → (∀ i, i < n → ρ2 i = ρ i) → (∀ a ∈ l, avwf m a = true) → aSt E m (sval n0 sg2 ρ2) l st := by
  intro l
  induction l with
  | nil =>
    intro r st sg sg' hr hs h
    cases r with
    | nil =>
      cases h
      rw [aSt_nil hr]
      exact ⟨hs, sext.rf _, fun _ _ _ _ _ _ _ _ _ => trivial⟩
    | cons a r => cases h
  | cons p l ih =>
    intro r st sg sg' hr hs h
    cases r with
    | nil => cases h
    | cons a r =>
      unfold abindSt at h
      obtain ⟨v, st', rfl, hv, hr'⟩ := aSt_cons hr
      split at h
      · rename_i sg1 h1
        obtain ⟨b1, b2, b3⟩ := abind_ok hs hv h1
        obtain ⟨c1, c2, c3⟩ := ih r st' sg1 sg' hr' b1 h
        exact ⟨c1, b2.tr c2, fun sg2 ρ2 n2 m h2 h3 h4 h5 h6 => ⟨b3 sg2 ρ2 n2 m (c2.tr h2) h3 h4 h5 (avwf_ok (h6 p List.mem_cons_self)), c3 sg2 ρ2 n2 m h2 h3 h4 h5 (fun e he => h6 e (List.mem_cons_of_mem _ he))⟩⟩
      · cases h
theorem abindTc_ok {E : TEnv} {ph : PHI} {n0 : Nat} {k : KF} (hE : kEok E) (hT : kTW E k.2.2.2.1) : ∀ (l : TC) (S S' : AS) (sg sg' : SG) (ρ : Nat → Int), aGS E ph ρ S k → swf n0 S.1 sg → abindTc E n0 l S sg = some (S', sg') → ∃ ρ1 : Nat → Int, (∀ i, i < S.1 → ρ1 i = ρ i) ∧ S.1 ≤ S'.1 ∧ aGS E ph ρ1 S' k ∧ S'.2.2.2.1 = S.2.2.2.1 ∧ S'.2.2.2.2.1 = S.2.2.2.2.1 ∧ swf n0 S'.1 sg' ∧ sext sg sg' ∧ ∀ (sg2 : SG) (ρ2 : Nat → Int) (n2 m : Nat), sext sg' sg2 → swf n0 n2 sg2 → S'.1 ≤ n2 → (∀ i, i < S'.1 → ρ2 i = ρ1 i) → (∀ e ∈ l, lwfb m e.1.2 = true ∧ avwf m e.2 = true ∧ e.1.1 < 2000000) → tcE E m (sval n0 sg2 ρ2) l k.2.2.2.1 := by
  intro l
  induction l with
  | nil =>
    intro S S' sg sg' ρ hG hs h
    cases h
    exact ⟨ρ, fun _ _ => rfl, Nat.le_refl _, hG, rfl, rfl, hs, sext.rf _, fun _ _ _ _ _ _ _ _ _ e he => by cases he⟩
  | cons e0 l ih =>
    intro S S' sg sg' ρ hG hs h
    unfold abindTc at h
    obtain ⟨hlab, h⟩ := kcond_inv h
    have hlab : e0.1.1 < 2000000 := Nat.ble_eq.mp hlab
    split at h
    · rename_i key hkey
      split at h
      · rename_i S1 hS1
        split at h
        · rename_i a ha
          split at h
          · rename_i sg1 hsg1
            obtain ⟨kw, ke⟩ := ssub_ok hs ρ hkey
            obtain ⟨⟨ρa, p1, p2, p3⟩, p4, p5⟩ := atouch_ok hT hG kw hS1
            have hs1 := swf_up hs p2
            obtain ⟨k', m1, m2⟩ := atget_ok S1.2.2.2.2.2.1 ha
            obtain ⟨m3, m4⟩ := p3.2.2.2.1 _ m1
            have key_eq : lev ρa k' = lev ρa key := lfeq_ok m2 ρa
            · rcases m4 with m4 | ⟨m5, m6, v, m7, m8⟩
              · have m4 : 2000000 ≤ e0.1.1 := m4
                omega
              · have m6 : 0 ≤ lev ρa k' := m6
                have m7 : wval k.2.2.2.1 e0.1.1 (lev ρa k').toNat = some v := m7
                rw [key_eq] at m6 m7
                obtain ⟨b1, b2, b3⟩ := abind_ok hs1 m8 hsg1
                obtain ⟨ρ1, c1, c2, c3, c4, c5, c6, c7, c8⟩ := ih S1 S' sg1 sg' ρa p3 b1 h
                refine ⟨ρ1, fun i hi => by rw [c1 i (by omega), p1 i hi], Nat.le_trans p2 c2, c3, c4.trans p4, c5.trans p5, c6, b2.tr c7, fun sg2 ρ2 n2 m h2 h3 h4 h5 h6 e he => ?_⟩
                cases he with
                | tail _ he => exact c8 sg2 ρ2 n2 m h2 h3 h4 h5 (fun e he => h6 e (List.mem_cons_of_mem _ he)) e he
                | head =>
                  obtain ⟨w1, w2, w3⟩ := h6 e0 List.mem_cons_self
                  have e1 : lev ρ2 key = lev (sval n0 sg2 ρ2) e0.1.2 := (ssub_ok h3 ρ2 (ssub_ext ((b2.tr c7).tr h2) hkey)).2
                  have ag : ∀ i, i < S1.1 → ρ2 i = ρa i := fun i hi => by rw [h5 i (by omega), c1 i hi]
                  have e2 : lev ρ2 key = lev ρa key := lev_ag ag (lwf_up kw p2)
                  refine ⟨lwfb_ok w1, Or.inr ⟨m5, ?_, v, ?_, b3 sg2 ρ2 n2 m (c7.tr h2) h3 (by omega) ag (avwf_ok w2)⟩⟩
                  · rw [← e1, e2]; exact m6
                  · rw [← e1, e2]; exact m7
          · cases h
        · cases h
      · cases h
    · cases h
theorem aSt_z {E : TEnv} {n : Nat} {ρ : Nat → Int} {l : List AV} {st : List KV} (h : aSt E n ρ l st) : aSt E n ρ l st := h
theorem amatch_ok {E : TEnv} {ph : PHI} {n0 : Nat} {k : KF} (hE : kEok E) (hph : phW ph) (hT : kTW E k.2.2.2.1) {A P A' : AS} {sg : SG} {ρ : Nat → Int} (hn : n0 ≤ A.1) (hG : aGS E ph ρ A k) (hP : apwf n0 P = true) (h : amatch E n0 A P = some (A', sg)) : ∃ ρ1 : Nat → Int, (∀ i, i < A.1 → ρ1 i = ρ i) ∧ A.1 ≤ A'.1 ∧ aGS E ph ρ1 A' k ∧ A'.2.2.2.1 = A.2.2.2.1 ∧ A'.2.2.2.2.1 = A.2.2.2.2.1 ∧ swf n0 A'.1 sg ∧ aGS E ph (sval n0 sg ρ1) P k := by
  unfold apwf at hP
  simp only [Bool.and_eq_true] at hP
  obtain ⟨p1, p2, p3, p4, p5, p6, p7, p8⟩ := hP
  unfold amatch at h
  obtain ⟨hmk, h⟩ := kcond_inv h
  split at h
  · rename_i sg1 h1
    split at h
    · rename_i sg2 h2
      split at h
      · rename_i q h3
        obtain ⟨hc, h⟩ := kcond_inv h
        cases h
        obtain ⟨a1, a2, a3⟩ := abindLo_ok hG.2.1 P.2.2.2.1 [] sg1 ⟨hn, fun q hq => by cases hq⟩ h1
        obtain ⟨b1, b2, b3⟩ := abindSt_ok P.2.2.2.2.1 A.2.2.2.2.1 k.2.2.1 sg1 sg2 hG.2.2.1 a1 h2
        obtain ⟨ρ1, c1, c2, c3, c4, c5, c6, c7, c8⟩ := abindTc_ok hE hT P.2.2.2.2.2.1 A A' sg2 sg ρ hG b1 h3
        refine ⟨ρ1, c1, c2, c3, c4, c5, c6, ?_⟩
        have lov := a3 sg ρ1 A'.1 P.1 (b2.tr c7) c6 c2 c1 (fun e he => List.all_eq_true.mp p4 e he)
        have stv := b3 sg ρ1 A'.1 P.1 c7 c6 c2 c1 (fun e he => List.all_eq_true.mp p5 e he)
        have tcv := c8 sg ρ1 A'.1 P.1 (sext.rf _) c6 (Nat.le_refl _) (fun _ _ => rfl) (fun e he => by
          have := List.all_eq_true.mp p6 e he
          simp only [Bool.and_eq_true] at this
          exact ⟨this.1, this.2.1, Nat.ble_eq.mp this.2.2⟩)
        unfold achk at hc
        simp only [Bool.and_eq_true] at hc
        obtain ⟨r1, r2, r3, r4⟩ := hc
        have hB := c3.1
        refine ⟨⟨fun q hq => Nat.ble_eq.mp (List.all_eq_true.mp p2 q hq), fun q hq => ?_, fun f hf => ⟨lwfb_ok (List.all_eq_true.mp p3 f hf), ?_⟩, ⟨lwfb_ok p7, ?_⟩, ⟨lwfb_ok p8, ?_⟩⟩, ⟨fun j a hj => ?_, hG.2.1.2⟩, stv, tcv, fun p hp i hi => ?_⟩
        · have r := List.all_eq_true.mp r1 q hq
          split at r
          · rename_i f hf
            have r := Bool.and_eq_true_iff.mp r
            have e := (ssub_ok c6 ρ1 hf).2
            rw [lev_v] at e
            have s1 := lle_ok hB.2.1 hB.2.2.1 r.1
            have s2 := lle_ok hB.2.1 hB.2.2.1 r.2
            rw [lev_add, lev_c] at s1
            rw [lev_add, lev_neg, lev_c] at s2
            omega
          · cases r
        · have r := List.all_eq_true.mp r2 f hf
          split at r
          · rename_i g hg
            have e := (ssub_ok c6 ρ1 hg).2
            have s1 := lle_ok hB.2.1 hB.2.2.1 r
            rw [lev_neg] at s1
            omega
          · cases r
        · split at r3
          · rename_i g hg
            have e := (ssub_ok c6 ρ1 hg).2
            have s1 := lle_ok hB.2.1 hB.2.2.1 r3
            rw [lev_sub] at s1
            have := hB.2.2.2.1.2
            omega
          · cases r3
        · split at r4
          · rename_i g hg
            have e := (ssub_ok c6 ρ1 hg).2
            have s1 := lle_ok hB.2.1 hB.2.2.1 r4
            rw [lev_sub] at s1
            have := hB.2.2.2.2.2
            omega
          · cases r4
        · have hm : ∀ l : List (Nat × AV), alook l j = some a → (j, a) ∈ l := by
            intro l
            induction l with
            | nil => intro hl; cases hl
            | cons z l ih =>
              intro hl
              have hl : (bif Nat.beq z.1 j then some z.2 else alook l j) = some a := hl
              cases e : Nat.beq z.1 j with
              | true =>
                rw [e] at hl
                cases hl
                rw [← kb_t e]
                exact List.mem_cons_self
              | false =>
                rw [e] at hl
                exact List.mem_cons_of_mem _ (ih hl)
          exact lov (j, a) (hm _ hj)
        · rcases hG.2.2.2.2 p hp i hi with ⟨e, e1, e2, -⟩ | r
          · have := List.all_eq_true.mp hmk e e1
            have h5 : e.1.1 < 2000000 := Nat.ble_eq.mp this
            have := (hph.1 p hp).1
            omega
          · exact Or.inr r
      · cases h
    · cases h
  · cases h
