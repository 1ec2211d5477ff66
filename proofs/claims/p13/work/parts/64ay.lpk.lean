/-! A loop as one function: steps until one of them ends it. -/
set_option maxRecDepth 16384 in
def lrun {σ τ : Type} (f : σ → σ ⊕ τ) : Nat → σ → Option τ
  | 0, _ => none
  | n + 1, s => match f s with
    | .inl s' => lrun f n s'
    | .inr t => some t
set_option maxRecDepth 16384 in
theorem lrun_u {σ τ : Type} {f : σ → σ ⊕ τ} : ∀ (n m : Nat) (s : σ) (t t' : τ), lrun f n s = some t → lrun f m s = some t' → t = t' := by
  intro n
  induction n with
  | zero => intro m s t t' h; cases h
  | succ n ih =>
    intro m s t t' h h'
    cases m with
    | zero => cases h'
    | succ m =>
      unfold lrun at h h'
      split at h
      · rename_i s' e
        rw [e] at h'
        exact ih m s' t t' h h'
      · rename_i t1 e
        rw [e] at h'
        cases h; cases h'; rfl
set_option maxRecDepth 16384 in
noncomputable def Lp {σ τ : Type} [Inhabited τ] (f : σ → σ ⊕ τ) (s : σ) : τ := @dite τ (∃ t n, lrun f n s = some t) (Classical.propDecidable _) (fun h => Classical.choose h) (fun _ => default)
set_option maxRecDepth 16384 in
theorem Lp_of {σ τ : Type} [Inhabited τ] {f : σ → σ ⊕ τ} {s : σ} {t : τ} {n : Nat} (h : lrun f n s = some t) : Lp f s = t := by
  have hx : ∃ t n, lrun f n s = some t := ⟨t, n, h⟩
  unfold Lp
  rw [dif_pos hx]
  obtain ⟨m, hm⟩ := Classical.choose_spec hx
  exact lrun_u _ _ _ _ _ hm h
set_option maxRecDepth 16384 in
theorem Lp_inr {σ τ : Type} [Inhabited τ] {f : σ → σ ⊕ τ} {s : σ} {t : τ} (h : f s = .inr t) : Lp f s = t := by
  refine Lp_of (n := 1) ?_
  unfold lrun
  rw [h]
set_option maxRecDepth 16384 in
theorem Lp_inl {σ τ : Type} [Inhabited τ] {f : σ → σ ⊕ τ} {s s' : σ} (h : f s = .inl s') : Lp f s = Lp f s' := by
  by_cases hx : ∃ t n, lrun f n s' = some t
  · obtain ⟨t, n, hn⟩ := hx
    rw [Lp_of hn]
    refine Lp_of (n := n + 1) ?_
    unfold lrun
    rw [h]
    exact hn
  · have hy : ¬ ∃ t n, lrun f n s = some t := by
      rintro ⟨t, n, hn⟩
      cases n with
      | zero => cases hn
      | succ n =>
        unfold lrun at hn
        rw [h] at hn
        exact hx ⟨t, n, hn⟩
    unfold Lp
    rw [dif_neg hx, dif_neg hy]
set_option maxRecDepth 16384 in
/-- a loop whose measure falls ends as its steps say -/
theorem Lp_ind {σ τ : Type} [Inhabited τ] {f : σ → σ ⊕ τ} {P : σ → Prop} {Q : τ → Prop} (μ : σ → Nat) (h : ∀ s, P s → (∃ t, f s = .inl t ∧ P t ∧ μ t < μ s) ∨ (∃ t, f s = .inr t ∧ Q t)) : ∀ s, P s → Q (Lp f s) := by
  have key : ∀ n s, μ s < n → P s → Q (Lp f s) := by
    intro n
    induction n with
    | zero => intro s hs; omega
    | succ n ih =>
      intro s hs hp
      rcases h s hp with ⟨t, e, p, l⟩ | ⟨t, e, q⟩
      · rw [Lp_inl e]; exact ih t (by omega) p
      · rw [Lp_inr e]; exact q
  exact fun s hp => key _ s (Nat.lt_succ_self _) hp
set_option maxRecDepth 16384 in
/-- two loops in step -/
theorem Lp_sim {σ τ σ' τ' : Type} [Inhabited τ] [Inhabited τ'] {f : σ → σ ⊕ τ} {f' : σ' → σ' ⊕ τ'} {P : σ → σ' → Prop} {Q : τ → τ' → Prop} (μ : σ → Nat) (h : ∀ s s', P s s' → (∃ t t', f s = .inl t ∧ f' s' = .inl t' ∧ P t t' ∧ μ t < μ s) ∨ (∃ t t', f s = .inr t ∧ f' s' = .inr t' ∧ Q t t')) : ∀ s s', P s s' → Q (Lp f s) (Lp f' s') := by
  have key : ∀ n s s', μ s < n → P s s' → Q (Lp f s) (Lp f' s') := by
    intro n
    induction n with
    | zero => intro s s' hs; omega
    | succ n ih =>
      intro s s' hs hp
      rcases h s s' hp with ⟨t, t', e, e', p, l⟩ | ⟨t, t', e, e', q⟩
      · rw [Lp_inl e, Lp_inl e']; exact ih t t' (by omega) p
      · rw [Lp_inr e, Lp_inr e']; exact q
  exact fun s s' hp => key _ s s' (Nat.lt_succ_self _) hp
set_option maxRecDepth 16384 in
theorem CR_le {PC : CL → Prop} {X : KO} {ρ : Nat → Int32} {rg : List (Int × Int)} {L nL Rc Rs : Nat} {prog : List KEnt} {N K pc : Nat} {l : List Int} {S : List (Nat × Int)} {m : MM} {o : Instr × List (Nat × Int) × MM} (hK : N ≤ K) (h : CR PC X ρ rg L nL Rc Rs prog N pc l S m o) : CR PC X ρ rg L nL Rc Rs prog K pc l S m o := by
  obtain ⟨call, n, lo, st, w, c, s, k, h1, h2, h3⟩ := h
  exact ⟨call, n, lo, st, w, c, s, k, h1, Nat.le_trans h2 hK, h3⟩
set_option maxRecDepth 16384 in
theorem CR_end_id {α : Type} {x y : α} (h : x = y) : x = y := h
