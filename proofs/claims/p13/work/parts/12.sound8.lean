section KROWS8
variable {p : Program} {l : Launch} {e : Env} {R : Room} {s : State} {m : MethodId} {args : Array Value} {below : List Frame} {meth : Method} {cd : Code} {Q : State → Prop} {D : va_G} {dA : Nat → ClassId} {ρ : Nat → Int32} {A : Nat → Prop} {nL : Nat} {ad0 : Nat → Nat} {n0 : Nat} {cc : ByteArray} {own mname : String} {zs : KZ} {rg : List (Int × Int)}
variable {Rc Rs : Nat} {ms : List KMeth} {call : Nat → List KV → KW → Option (Option KV × KW)} {d : Nat} {prog : List KEnt} {ks : Option Int32} {L : Nat}
/-- a run of the small machine, up to a place -/
def kgoTo (call : Nat → List KV → KW → Option (Option KV × KW)) (rg : List (Int × Int)) (ks : Option Int32) (L nL Rc Rs : Nat) (prog : List KEnt) (stop : Nat) : Nat → KF → Option KF
  | 0, _ => none
  | n + 1, (pc, lo, st, w, c, s) => bif Nat.beq pc stop then some (pc, lo, st, w, c, s) else match kfrom prog pc with
    | [] => none
    | x :: _ => bif Nat.beq x.1 pc then (match kdo x.2.1 call rg ks L nL Rc Rs x.2.2 pc lo st w c s with
      | none => none
      | some k => kgoTo call rg ks L nL Rc Rs prog stop n k) else none
theorem k_goTo (F : kFix p s m args meth cd cc nL own mname D dA A zs ad0) (hr : kRg rg ρ) (hks : ∀ v, ks = some v → ρ 0 &&& 63 = v) (hX : kSc s A ad0 ρ L) (hC : kCalls l ms zs ρ call d) (hRc : Rc ≤ R.cells) (hRs : Rs ≤ R.slots) (hRf : d + 6 ≤ R.frames) (hRl : 40 * d + 280 ≤ R.locals) (hP : ∀ x ∈ prog, kEntOK ms zs.1 own mname cc x) {stop : Nat} :
    ∀ (n : Nat) (k : KF) (k' : KF), kgoTo call rg ks L nL Rc Rs prog stop n k = some k' → (kGo p l e R s m args below meth cd Q D dA ρ A nL ad0 n0 (k') → kGo p l e R s m args below meth cd Q D dA ρ A nL ad0 n0 (k)) := by
  intro n
  induction n with
  | zero => intro k k' h; cases h
  | succ n ih =>
    intro k k' h g
    obtain ⟨pc, lo, st, w, c, sl⟩ := k
    unfold kgoTo at h
    cases hb : Nat.beq pc stop with
    | true => rw [hb] at h; cases h; exact g
    | false =>
      rw [hb] at h
      simp only [cond_false] at h
      split at h
      · cases h
      · rename_i x l1 hx
        cases hb2 : Nat.beq x.1 pc with
        | false => rw [hb2] at h; cases h
        | true =>
          rw [hb2] at h
          simp only [cond_true] at h
          have e1 := kb_t hb2
          split at h
          · cases h
          · rename_i k1 hk1
            have hm := hP x (kfrom_sub x (by rw [hx]; exact List.mem_cons_self))
            have ex : x = (pc, x.2.1, x.2.2) := by rw [← e1]
            rw [ex] at hm
            exact k_one F hr hks hX hC hRc hRs hRf hRl hm hk1 (ih _ _ h g)
end KROWS8
/-! states compared -/
def keV : KV → KV → Bool
  | .inl a, .inl b => decide (a = b)
  | _, _ => false
theorem keV_ok {a b : KV} (h : keV a b = true) : a = b := by
  rcases a with a | a <;> rcases b with b | b <;> first | (rw [of_decide_eq_true h]) | cases h
def keI : KI → KI → Bool
  | .inl a, .inl b => decide (a = b)
  | _, _ => false
theorem keI_ok {a b : KI} (h : keI a b = true) : a = b := by
  rcases a with a | a <;> rcases b with b | b <;> first | (rw [of_decide_eq_true h]) | cases h
def keL {α : Type} (f : α → α → Bool) : List α → List α → Bool
  | [], [] => true
  | a :: l, b :: r => f a b && keL f l r
  | _, _ => false
theorem keL_ok {α : Type} {f : α → α → Bool} (hf : ∀ a b, f a b = true → a = b) : ∀ l r : List α, keL f l r = true → l = r := by
  intro l
  induction l with
  | nil =>
    intro r h
    cases r with
    | nil => rfl
    | cons b r => cases h
  | cons a l ih =>
    intro r h
    cases r with
    | nil => cases h
    | cons b r =>
      have h := Bool.and_eq_true_iff.mp h
      rw [hf a b h.1, ih r h.2]
def keP {α : Type} (f : α → α → Bool) (a b : Nat × α) : Bool := Nat.beq a.1 b.1 && f a.2 b.2
theorem keP_ok {α : Type} {f : α → α → Bool} (hf : ∀ a b, f a b = true → a = b) (a b : Nat × α) (h : keP f a b = true) : a = b := by
  obtain ⟨i, x⟩ := a
  obtain ⟨j, y⟩ := b
  have h := Bool.and_eq_true_iff.mp h
  rw [show i = j from kb_t h.1, show x = y from hf x y h.2]
def keE : KE → KE → Bool
  | .inl (t, n, .inl (l, d)), .inl (t2, n2, .inl (l2, d2)) => Nat.beq t t2 && (Nat.beq n n2 && (keL (keP keI) l l2 && keI d d2))
  | .inl (t, n, .inr (.inl (l, d))), .inl (t2, n2, .inr (.inl (l2, d2))) => Nat.beq t t2 && (Nat.beq n n2 && (keL (keP (fun a b => decide (a = b))) l l2 && decide (d = d2)))
  | .inl (t, n, .inr (.inr l)), .inl (t2, n2, .inr (.inr l2)) => Nat.beq t t2 && (Nat.beq n n2 && keL (keP (fun a b => decide (a = b))) l l2)
  | .inr (c, fs), .inr (c2, fs2) => Nat.beq c c2 && keL keV fs fs2
  | _, _ => false
theorem keE_ok (a b : KE) (h : keE a b = true) : a = b := by
  rcases a with ⟨t, n, (⟨l, d⟩ | ⟨l, d⟩ | l)⟩ | ⟨c, fs⟩ <;> rcases b with ⟨t2, n2, (⟨l2, d2⟩ | ⟨l2, d2⟩ | l2)⟩ | ⟨c2, fs2⟩ <;> try (cases h; done)
  · have h : (Nat.beq t t2 && (Nat.beq n n2 && (keL (keP keI) l l2 && keI d d2))) = true := h
    simp only [Bool.and_eq_true] at h
    obtain ⟨h1, h2, h3, h4⟩ := h
    rw [show t = t2 from kb_t h1, show n = n2 from kb_t h2, keL_ok (keP_ok (fun a b => keI_ok)) _ _ h3, keI_ok h4]
  · have h : (Nat.beq t t2 && (Nat.beq n n2 && (keL (keP (fun a b => decide (a = b))) l l2 && decide (d = d2)))) = true := h
    simp only [Bool.and_eq_true] at h
    obtain ⟨h1, h2, h3, h4⟩ := h
    rw [show t = t2 from kb_t h1, show n = n2 from kb_t h2, keL_ok (keP_ok (fun a b q => of_decide_eq_true q)) _ _ h3, of_decide_eq_true h4]
  · have h : (Nat.beq t t2 && (Nat.beq n n2 && keL (keP (fun a b => decide (a = b))) l l2)) = true := h
    simp only [Bool.and_eq_true] at h
    obtain ⟨h1, h2, h3⟩ := h
    rw [show t = t2 from kb_t h1, show n = n2 from kb_t h2, keL_ok (keP_ok (fun a b q => of_decide_eq_true q)) _ _ h3]
  · have h : (Nat.beq c c2 && keL keV fs fs2) = true := h
    simp only [Bool.and_eq_true] at h
    rw [show c = c2 from kb_t h.1, keL_ok (fun a b => keV_ok) _ _ h.2]
def keF (a b : KF) : Bool := Nat.beq a.1 b.1 && (keL (keP keV) a.2.1 b.2.1 && (keL keV a.2.2.1 b.2.2.1 && (keL (keL keE) a.2.2.2.1 b.2.2.2.1 && (Nat.beq a.2.2.2.2.1 b.2.2.2.2.1 && Nat.beq a.2.2.2.2.2 b.2.2.2.2.2))))
theorem keF_ok (a b : KF) (h : keF a b = true) : a = b := by
  obtain ⟨p1, l1, s1, w1, c1, n1⟩ := a
  obtain ⟨p2, l2, s2, w2, c2, n2⟩ := b
  unfold keF at h
  simp only [Bool.and_eq_true] at h
  obtain ⟨h1, h2, h3, h4, h5, h6⟩ := h
  rw [show p1 = p2 from kb_t h1, show l1 = l2 from keL_ok (keP_ok (fun a b => keV_ok)) _ _ h2, show s1 = s2 from keL_ok (fun a b => keV_ok) _ _ h3, show w1 = w2 from keL_ok (keL_ok keE_ok) _ _ h4, show c1 = c2 from kb_t h5, show n1 = n2 from kb_t h6]
def keO (a : Option KF) (b : KF) : Bool := match a with
  | some x => keF x b
  | none => false
theorem keO_ok {a : Option KF} {b : KF} (h : keO a b = true) : a = some b := by
  unfold keO at h
  split at h
  · rw [keF_ok _ _ h]
  · cases h
