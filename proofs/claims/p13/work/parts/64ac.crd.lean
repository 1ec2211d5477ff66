/-! A run as numbers: the heap, calls, answers. -/
section CRS2
variable {PC : CL → Prop} {X : KO} {ρ : Nat → Int32} {rg : List (Int × Int)} {L nL Rc Rs : Nat} {prog : List KEnt} {N pc : Nat} {l : List Int} {S : List (Nat × Int)} {m : MM} {o : Instr × List (Nat × Int) × MM} {ig : Instr} {x : KX}
set_option maxRecDepth 16384 in
theorem CR_dup {t : Nat} {a : Int} (h : CR PC X ρ rg L nL Rc Rs prog N pc l ((t, a) :: S) m o) (hp : kat prog pc = some (.dup, x)) : CR PC X ρ rg L nL Rc Rs prog N (pc + 1) l ((t, a) :: (t, a) :: S) m o := by
  obtain ⟨call, n, lo, st, w, c, s, k, h1, h2, h3, h4, h5, h6, h7, hc⟩ := CR_s h hp rfl
  obtain ⟨y, r, rfl, h8, h9, h10⟩ := kcc_cons h5
  have h7 : kdup pc lo (y :: r) w c s = some k := h7
  have hq := kcond_inv h7; clear h7; obtain ⟨hb, h7⟩ := hq
  cases h7
  exact hc N l _ m (by omega) h4 (by rw [List.map_cons, h5]; show (kcat y, kc ρ y) :: _ = _; rw [h8, h9]) h6
set_option maxRecDepth 16384 in
theorem CR_dup2 {t u : Nat} {a b : Int} (h : CR PC X ρ rg L nL Rc Rs prog N pc l ((t, a) :: (u, b) :: S) m o) (hp : kat prog pc = some (.dup2, x)) : CR PC X ρ rg L nL Rc Rs prog N (pc + 1) l ((t, a) :: (u, b) :: (t, a) :: (u, b) :: S) m o := by
  obtain ⟨call, n, lo, st, w, c, s, k, h1, h2, h3, h4, h5, h6, h7, hc⟩ := CR_s h hp rfl
  obtain ⟨y, r, rfl, h8, h9, h10⟩ := kcc_cons h5
  obtain ⟨z, r, rfl, h11, h12, h13⟩ := kcc_cons h10
  have h7 : kdup2 pc lo (y :: z :: r) w c s = some k := h7
  have hq := kcond_inv h7; clear h7; obtain ⟨hb, h7⟩ := hq
  cases h7
  exact hc N l _ m (by omega) h4 (by rw [List.map_cons, List.map_cons, h5]; show (kcat y, kc ρ y) :: (kcat z, kc ρ z) :: _ = _; rw [h8, h9, h11, h12]) h6
set_option maxRecDepth 16384 in
theorem CR_pop {t : Nat} {a : Int} (h : CR PC X ρ rg L nL Rc Rs prog N pc l ((t, a) :: S) m o) (hp : kat prog pc = some (.pop, x)) : CR PC X ρ rg L nL Rc Rs prog N (pc + 1) l S m o := by
  obtain ⟨call, n, lo, st, w, c, s, k, h1, h2, h3, h4, h5, h6, h7, hc⟩ := CR_s h hp rfl
  obtain ⟨y, r, rfl, h8, h9, h10⟩ := kcc_cons h5
  have h7 : kpop pc lo (y :: r) w c s = some k := h7
  have hq := kcond_inv h7; clear h7; obtain ⟨hb, h7⟩ := hq
  cases h7
  exact hc N l _ m (by omega) h4 h10 h6
/-- references alike: the same label, or outside and the same thing -/
abbrev qer (X : KO) (a b : Int) : Prop := a = b ∨ (1000000 ≤ a ∧ 1000000 ≤ b ∧ X.1 a.toNat b.toNat = true)
set_option maxRecDepth 16384 in
def rcode : Option Nat → Int
  | none => -1
  | some a => (a : Int)
set_option maxRecDepth 16384 in
def acP (cnd : Jvm.ClassFile.ACond) (P : Prop) : Prop := match cnd with
  | .eq => P
  | .ne => ¬ P
set_option maxRecDepth 16384 in
theorem krf_kc {v : KV} {q : Option Nat} (h : krf v = some q) : kc ρ v = rcode q := by
  rcases v with v | z
  · cases v <;> cases h <;> rfl
  · cases h
set_option maxRecDepth 16384 in
theorem crxreq_ok {a b : KV} {r : Bool} (h : kxreq X.1 a b = some r) : r = true ↔ qer X (kc ρ a) (kc ρ b) := by
  unfold kxreq at h
  split at h
  · rename_i h1 h2
    cases h
    rw [krf_kc h1, krf_kc h2]
    exact ⟨fun _ => Or.inl rfl, fun _ => rfl⟩
  · rename_i j h1 h2
    cases h
    rw [krf_kc h1, krf_kc h2]
    refine ⟨fun q => (nomatch q), fun q => ?_⟩
    rcases q with q | ⟨q, -⟩ <;> dsimp only [rcode] at q <;> omega
  · rename_i j h1 h2
    cases h
    rw [krf_kc h1, krf_kc h2]
    refine ⟨fun q => (nomatch q), fun q => ?_⟩
    rcases q with q | ⟨-, q, -⟩ <;> dsimp only [rcode] at q <;> omega
  · rename_i i j h1 h2
    rw [krf_kc h1, krf_kc h2]
    cases q : Nat.beq i j with
    | true =>
      rw [q] at h
      cases h
      exact ⟨fun _ => Or.inl (by rw [kb_t q]), fun _ => rfl⟩
    | false =>
      rw [q] at h
      simp only [cond_false] at h
      obtain ⟨hb, h⟩ := kcond_inv h
      cases h
      have hb := Bool.and_eq_true_iff.mp hb
      have b1 := Nat.ble_eq.mp hb.1
      have b2 := Nat.ble_eq.mp hb.2
      have q := kb_f q
      constructor
      · intro e
        refine Or.inr ⟨?_, ?_, ?_⟩
        · show (1000000 : Int) ≤ (i : Int); omega
        · show (1000000 : Int) ≤ (j : Int); omega
        · exact e
      · intro e
        rcases e with e | ⟨-, -, e⟩
        · dsimp only [rcode] at e; omega
        · exact e
  · cases h
set_option maxRecDepth 16384 in
theorem CR_acmp {cnd : Jvm.ClassFile.ACond} {off : Int} {t t1 t2 : Nat} {a b : Int} (h : CR PC X ρ rg L nL Rc Rs prog N pc l ((t2, b) :: (t1, a) :: S) m o) (hp : kat prog pc = some (.if_acmp cnd off, x)) (ht : ktg pc off = some t) : (acP cnd (qer X a b) ∧ CR PC X ρ rg L nL Rc Rs prog N t l S m o) ∨ (¬ acP cnd (qer X a b) ∧ CR PC X ρ rg L nL Rc Rs prog N (pc + 3) l S m o) := by
  obtain ⟨call, n, lo, st, w, c, s, k, h1, h2, h3, h4, h5, h6, h7, hc⟩ := CR_s h hp rfl
  obtain ⟨y, r, rfl, h8, h9, h10⟩ := kcc_cons h5
  obtain ⟨u, r, rfl, h11, h12, h13⟩ := kcc_cons h10
  have h7 : kxacmp X.1 cnd off pc lo (y :: u :: r) w c s = some k := h7
  obtain ⟨b', hb2, rfl⟩ := kbr_inv h7 ht
  have := hc N l S m (by omega) h4 h13 h6
  have e : b' = true ↔ acP cnd (qer X a b) := by
    cases cnd with
    | eq =>
      have e := crxreq_ok (ρ := ρ) hb2
      rw [h9, h12] at e
      exact e
    | ne =>
      have hb2 : (kxreq X.1 u y).map not = some b' := hb2
      cases q : kxreq X.1 u y with
      | none => rw [q] at hb2; cases hb2
      | some v =>
        rw [q] at hb2
        cases hb2
        have e := crxreq_ok (ρ := ρ) q
        rw [h9, h12] at e
        show (!v) = true ↔ ¬ qer X a b
        rw [← e]
        cases v <;> decide
  cases b' with
  | true => exact Or.inl ⟨e.mp rfl, this⟩
  | false => exact Or.inr ⟨fun q => (nomatch e.mpr q), this⟩
set_option maxRecDepth 16384 in
theorem CR_ifnn {off : Int} {t t1 : Nat} {a : Int} (h : CR PC X ρ rg L nL Rc Rs prog N pc l ((t1, a) :: S) m o) (hp : kat prog pc = some (.ifnonnull off, x)) (ht : ktg pc off = some t) : (¬ a = -1 ∧ CR PC X ρ rg L nL Rc Rs prog N t l S m o) ∨ (a = -1 ∧ CR PC X ρ rg L nL Rc Rs prog N (pc + 3) l S m o) := by
  obtain ⟨call, n, lo, st, w, c, s, k, h1, h2, h3, h4, h5, h6, h7, hc⟩ := CR_s h hp rfl
  obtain ⟨y, r, rfl, h8, h9, h10⟩ := kcc_cons h5
  have h7 : kifnn off pc lo (y :: r) w c s = some k := h7
  unfold kifnn at h7
  dsimp only at h7
  split at h7
  · rename_i e
    cases h7
    exact Or.inr ⟨by rw [← h9, krf_kc e]; rfl, hc N l S m (by omega) h4 h10 h6⟩
  · rename_i e
    rw [ht] at h7
    cases h7
    refine Or.inl ⟨?_, hc N l S m (by omega) h4 h10 h6⟩
    rw [← h9, krf_kc e]
    dsimp only [rcode]
    omega
  · cases h7
set_option maxRecDepth 16384 in
/-- a switch' target -/
def swt (pc : Nat) (dflt lw hg : Int) (offs : Array Int) (e : Int) : Option Nat := if e < lw ∨ hg < e then ktg pc dflt else match offs.toList[(e - lw).toNat]? with
  | some off => ktg pc off
  | none => none
set_option maxRecDepth 16384 in
theorem swt_d {pc : Nat} {dflt lw hg : Int} {offs : Array Int} {t : Nat} {e : Int} (h : e < lw ∨ hg < e) (ht : ktg pc dflt = some t) : swt pc dflt lw hg offs e = some t := by
  unfold swt
  rw [if_pos h]
  exact ht
set_option maxRecDepth 16384 in
theorem krg_pt (hr : kRg rg ρ) {v : KV} {a b : Int} (h : krg rg v = some (a, b)) : a ≤ kc ρ v ∧ kc ρ v ≤ b := by
  have h1 := krg_ok hr h
  rcases v with v | z
  · cases v <;> first | exact h1 | cases h
  · exact h1
set_option maxRecDepth 16384 in
theorem CR_tsw (hr : kRg rg ρ) {dflt lw hg : Int} {offs : Array Int} {t1 : Nat} {a : Int} (h : CR PC X ρ rg L nL Rc Rs prog N pc l ((t1, a) :: S) m o) (hp : kat prog pc = some (.tableswitch dflt lw hg offs, x)) : ∃ t, swt pc dflt lw hg offs a = some t ∧ CR PC X ρ rg L nL Rc Rs prog N t l S m o := by
  obtain ⟨call, n, lo, st, w, c, s, k, h1, h2, h3, h4, h5, h6, h7, hc⟩ := CR_s h hp rfl
  obtain ⟨y, r, rfl, h8, h9, h10⟩ := kcc_cons h5
  have h7 : ksw rg dflt lw hg offs pc lo (y :: r) w c s = some k := h7
  unfold ksw at h7
  dsimp only at h7
  split at h7
  · rename_i a1 b1 hg1
    have e := krg_pt hr hg1
    rw [h9] at e
    cases q : decide (b1 < lw) || decide (hg < a1) with
    | true =>
      rw [q] at h7
      simp only [cond_true] at h7
      have hq : a < lw ∨ hg < a := by
        rcases Bool.or_eq_true_iff.mp q with q | q
        · have := of_decide_eq_true q; exact Or.inl (by omega)
        · have := of_decide_eq_true q; exact Or.inr (by omega)
      split at h7
      · rename_i t ht
        cases h7
        exact ⟨t, by unfold swt; rw [if_pos hq]; exact ht, hc N l S m (by omega) h4 h10 h6⟩
      · cases h7
    | false =>
      rw [q] at h7
      simp only [cond_false] at h7
      have hq := kcond_inv h7; clear h7; obtain ⟨hb, h7⟩ := hq
      have hb := of_decide_eq_true hb
      have q := Bool.or_eq_false_iff.mp q
      have q1 := of_decide_eq_false q.1
      have q2 := of_decide_eq_false q.2
      have e2 : a1 = a := by omega
      subst e2
      split at h7
      · rename_i off ho
        split at h7
        · rename_i t ht
          cases h7
          exact ⟨t, by unfold swt; rw [if_neg (by omega), ho]; exact ht, hc N l S m (by omega) h4 h10 h6⟩
        · cases h7
      · cases h7
  · cases h7
set_option maxRecDepth 16384 in
theorem CR_lsw {dflt : Int} {ps : Array (Int × Int)} {t1 : Nat} {a : Int} (h : CR PC X ρ rg L nL Rc Rs prog N pc l ((t1, a) :: S) m o) (hp : kat prog pc = some (.lookupswitch dflt ps, x)) : ∃ t, ktg pc (Op.lookupswitch.offset ps.toList dflt a) = some t ∧ CR PC X ρ rg L nL Rc Rs prog N t l S m o := by
  obtain ⟨call, n, lo, st, w, c, s, k, h1, h2, h3, h4, h5, h6, h7, hc⟩ := CR_s h hp rfl
  obtain ⟨y, r, rfl, h8, h9, h10⟩ := kcc_cons h5
  have h7 : klk dflt ps.toList pc lo (y :: r) w c s = some k := h7
  unfold klk at h7
  split at h7
  · rename_i z rest hst
    cases hst
    split at h7
    · rename_i t ht
      cases h7
      exact ⟨t, by rw [← h9]; exact ht, hc N l S m (by omega) h4 h10 h6⟩
    · cases h7
  · cases h7
set_option maxRecDepth 16384 in
theorem CR_getf {t1 : Nat} {a : Int} {i : Nat} (h : CR PC X ρ rg L nL Rc Rs prog N pc l ((t1, a) :: S) m o) (hp : kat prog pc = some (.getfield i, x)) (hx : x.1 ≠ 99) : CR PC X ρ rg L nL Rc Rs prog N (pc + 3) l ((kTc (kTy x.1 x.2.1), m a (x.2.1 : Int)) :: S) m o := by
  obtain ⟨call, n, lo, st, w, c, s, k, h1, h2, h3, h4, h5, h6, h7, hc⟩ := CR_s h hp rfl
  obtain ⟨y, r, rfl, h8, h9, h10⟩ := kcc_cons h5
  have h7 : kwget X.2 x.1 x.2.1 pc lo (y :: r) w c s = some k := h7
  unfold kwget at h7
  split at h7
  · rename_i b rest hst
    cases hst
    cases q : Nat.ble 1000000 b with
    | true =>
      rw [q] at h7
      simp only [cond_true] at h7
      have hq := kcond_inv h7; clear h7; obtain ⟨hb, h7⟩ := hq
      exact absurd (kb_t (Bool.and_eq_true_iff.mp hb).1) hx
    | false =>
      rw [q] at h7
      simp only [cond_false] at h7
      unfold kgetf at h7
      dsimp only at h7
      split at h7
      · rename_i cj fs hw
        have hq := kcond_inv h7
        clear h7
        obtain ⟨hb, h7⟩ := hq
        have e := kb_t hb
        subst e
        split at h7
        · rename_i v hv
          cases h7
          have hval : wval w b x.2.1 = some v := by
            unfold wval
            rw [hw]
            exact hv
          refine hc N l _ m (by omega) h4 ?_ h6
          rw [List.map_cons, h10, ← h9, ← h6]
          congr 1
          exact Prod.ext (kWT_get h3 hw x.2.1 v hv) (wm_val hval).symm
        · cases h7
      · cases h7
  · cases h7
set_option maxRecDepth 16384 in
theorem CR_getw {t1 : Nat} {a : Int} {i : Nat} (h : CR PC X ρ rg L nL Rc Rs prog N pc l ((t1, a) :: S) m o) (hp : kat prog pc = some (.getfield i, x)) (hx : Nat.ble kTys.length x.1 = true) : (¬ a < 1000000 ∧ CR PC X ρ rg L nL Rc Rs prog N (pc + 3) l ((2, (X.2 a.toNat).toInt) :: S) m o) ∨ a < 1000000 := by
  obtain ⟨call, n, lo, st, w, c, s, k, h1, h2, h3, h4, h5, h6, h7, hc⟩ := CR_s h hp rfl
  obtain ⟨y, r, rfl, h8, h9, h10⟩ := kcc_cons h5
  have h7 : kwget X.2 x.1 x.2.1 pc lo (y :: r) w c s = some k := h7
  unfold kwget at h7
  split at h7
  · rename_i b rest hst
    cases hst
    cases q : Nat.ble 1000000 b with
    | true =>
      rw [q] at h7
      simp only [cond_true] at h7
      have hq := kcond_inv h7; clear h7; obtain ⟨hb, h7⟩ := hq
      cases h7
      have q := Nat.ble_eq.mp q
      refine Or.inl ⟨?_, hc N l _ m (by omega) h4 ?_ h6⟩
      · rw [← h9]
        exact Int.not_lt.mpr (Int.ofNat_le.mpr q)
      rw [List.map_cons, h10, ← h9]
      rfl
    | false =>
      have : b < 1000000 := Nat.lt_of_not_le (fun e => by rw [Nat.ble_eq.mpr e] at q; cases q)
      right
      rw [← h9]
      exact Int.ofNat_lt.mpr this
  · cases h7
set_option maxRecDepth 16384 in
theorem kputf_inv {ci k pc c s : Nat} {lo : List (Nat × KV)} {st : List KV} {w : KW} {q : KF} (h : kputf ci k pc lo st w c s = some q) : ∃ v b rest cj fs, st = v :: .inl (.ref b) :: rest ∧ kwg w b = some (.inr (cj, fs)) ∧ k < fs.length ∧ q = (pc + 3, lo, rest, kws w b (.inr (cj, fs.set k v)), c, s) := by
  unfold kputf at h
  split at h
  · rename_i v b rest
    split at h
    · rename_i cj fs hw
      have hq := kcond_inv h
      clear h
      obtain ⟨hb, h⟩ := hq
      simp only [Bool.and_eq_true] at hb
      cases h
      exact ⟨v, b, rest, cj, fs, rfl, hw, Nat.blt_eq.mp hb.2.1, rfl⟩
    · cases h
  · cases h
set_option maxRecDepth 16384 in
theorem CR_putf {t1 t2 : Nat} {a e : Int} {i : Nat} (h : CR PC X ρ rg L nL Rc Rs prog N pc l ((t2, e) :: (t1, a) :: S) m o) (hp : kat prog pc = some (.putfield i, x)) : CR PC X ρ rg L nL Rc Rs prog N (pc + 3) l S (mu m a (x.2.1 : Int) e) o := by
  obtain ⟨call, n, lo, st, w, c, s, k, h1, h2, h3, h4, h5, h6, h7, hc⟩ := CR_s h hp rfl
  obtain ⟨y, r, rfl, h8, h9, h10⟩ := kcc_cons h5
  obtain ⟨u, r, rfl, h11, h12, h13⟩ := kcc_cons h10
  have h7 : kputf x.1 x.2.1 pc lo (y :: u :: r) w c s = some k := h7
  obtain ⟨v, b, rest, cj, fs, e1, hw, hk, rfl⟩ := kputf_inv h7
  cases e1
  refine hc N l S _ (by omega) h4 h13 ?_
  rw [← h6, ← h12]
  refine wm_set (k := x.2.1) hw (fun j hj => ?_) ⟨y, ?_, h9⟩ rfl rfl
  · show (fs.set x.2.1 y)[j]? = fs[j]?
    rw [List.getElem?_set_ne (fun q => hj q.symm)]
  · show (fs.set x.2.1 y)[x.2.1]? = some y
    rw [List.getElem?_set_self hk]
set_option maxRecDepth 16384 in
theorem i32nat {i : Int32} {n : Nat} (h : kinB i n = true) : (i.toNatClampNeg : Int) = i.toInt ∧ i.toNatClampNeg < n := by
  unfold kinB at h
  have h := Bool.and_eq_true_iff.mp h
  have h1 : ¬ i < 0 := by
    intro q
    rw [decide_eq_true q] at h
    exact absurd h.1 (by decide)
  have h2 : 0 ≤ i.toInt := by
    rw [Int32.lt_iff_toInt_lt] at h1
    have : (0 : Int32).toInt = 0 := by decide
    omega
  exact ⟨by rw [← Int32.toNat_toInt]; omega, Nat.blt_eq.mp h.2⟩
set_option maxRecDepth 16384 in
theorem CR_alen (hL : L = 0) {t1 : Nat} {a : Int} (h : CR PC X ρ rg L nL Rc Rs prog N pc l ((t1, a) :: S) m o) (hp : kat prog pc = some (.arraylength, x)) : CR PC X ρ rg L nL Rc Rs prog N (pc + 1) l ((1, if a = 1000050 then 30 else s32 (m a (-1))) :: S) m o := by
  obtain ⟨call, n, lo, st, w, c, s, k, h1, h2, h3, h4, h5, h6, h7, hc⟩ := CR_s h hp rfl
  obtain ⟨y, r, rfl, h8, h9, h10⟩ := kcc_cons h5
  have h7 : kwal L pc lo (y :: r) w c s = some k := h7
  subst hL
  unfold kwal at h7
  split at h7
  · rename_i b rest hst
    cases hst
    cases q : Nat.beq b 1000050 with
    | true =>
      rw [q] at h7
      cases h7
      have q := kb_t q
      have e : a = 1000050 := by rw [← h9, q]; rfl
      refine hc N l _ m (by omega) h4 ?_ h6
      rw [List.map_cons, h10, if_pos e]
      rfl
    | false =>
      rw [q] at h7
      have q := kb_f q
      have e : ¬ a = 1000050 := by
        rw [← h9]
        show ¬ (b : Int) = 1000050
        omega
      have h7 : kalen 0 pc lo (.inl (.ref b) :: r) w c s = some k := h7
      unfold kalen at h7
      dsimp only at h7
      have e0 : (kscr (.inl (.ref b)) && Nat.blt 0 0) = false := by rw [show Nat.blt 0 0 = false from rfl, Bool.and_false]
      rw [e0] at h7
      simp only [cond_false] at h7
      split at h7
      · rename_i t nn z hw
        have hq := kcond_inv h7
        clear h7
        obtain ⟨hb, h7⟩ := hq
        cases h7
        refine hc N l _ m (by omega) h4 ?_ h6
        rw [List.map_cons, h10, if_neg e, ← h9, ← h6]
        congr 1
        refine Prod.ext rfl ?_
        show (Int32.ofNat nn).toInt = s32 (wm ρ w (b : Int) (-1))
        rw [wm_len hw, s32_eq]
        rfl
      · cases h7
  · cases h7
set_option maxRecDepth 16384 in
theorem CR_ald (hL : L = 0) {ok : Nat → Bool} {rg0 : List (Int × Int)} {L0 : Nat} {t1 t2 : Nat} {a i : Int} (h : CR PC X ρ rg L nL Rc Rs prog N pc l ((t2, i) :: (t1, a) :: S) m o) (hp : kat prog pc = some (ig, x)) (he : kendx ig = false) (hL0 : L0 = L ∨ L0 = 0) (hk : ∀ (call : CL) (lo : List (Nat × KV)) (st : List KV) (w : KW) (c s : Nat), kdx ig X call rg L nL Rc Rs x pc lo st w c s = kald rg0 L0 ok pc lo st w c s) : CR PC X ρ rg L nL Rc Rs prog N (pc + 1) l ((1, m a i) :: S) m o := by
  obtain ⟨call, n, lo, st, w, c, s, k, h1, h2, h3, h4, h5, h6, h7, hc⟩ := CR_s h hp he
  obtain ⟨y, r, rfl, h8, h9, h10⟩ := kcc_cons h5
  obtain ⟨u, r, rfl, h11, h12, h13⟩ := kcc_cons h10
  rw [hk] at h7
  have hL1 : L0 = 0 := by rcases hL0 with e | e <;> omega
  subst hL1
  unfold kald at h7
  split at h7
  · rename_i j v rest hst
    cases hst
    have e0 : (kscr u && kinB j (0 - 1)) = false := by
      cases q : kinB j (0 - 1) with
      | false => rw [Bool.and_false]
      | true => exact absurd (i32nat q).2 (Nat.not_lt_zero _)
    rw [e0] at h7
    simp only [cond_false] at h7
    split at h7
    · split at h7
      · rename_i b _ t nn ll d hw
        have hq := kcond_inv h7; clear h7; obtain ⟨hb, h7⟩ := hq
        cases h7
        have hb := (Bool.and_eq_true_iff.mp hb).2
        have hj := i32nat hb
        refine hc N l _ m (by omega) h4 ?_ h6
        rw [List.map_cons, h13]
        congr 1
        have e3 := kc_ofI ρ (kget ll d j.toNatClampNeg)
        refine Prod.ext e3.2 ?_
        have hval : wval w b j.toNatClampNeg = some (kofI (kget ll d j.toNatClampNeg)) := by
          unfold wval
          rw [hw]
          show (bif Nat.blt j.toNatClampNeg nn then some (kofI (kget ll d j.toNatClampNeg)) else none) = _
          rw [Nat.blt_eq.mpr hj.2]
          rfl
        show kc ρ (kofI (kget ll d j.toNatClampNeg)) = m a i
        rw [← h6, ← h12, ← h9]
        show _ = wm ρ w (b : Int) j.toInt
        rw [← hj.1, wm_val hval]
      · cases h7
    · cases h7
  · cases h7
set_option maxRecDepth 16384 in
theorem CR_lald {t1 t2 : Nat} {a i : Int} (h : CR PC X ρ rg L nL Rc Rs prog N pc l ((t2, i) :: (t1, a) :: S) m o) (hp : kat prog pc = some (.laload, x)) : CR PC X ρ rg L nL Rc Rs prog N (pc + 1) l ((2, m a i) :: S) m o := by
  obtain ⟨call, n, lo, st, w, c, s, k, h1, h2, h3, h4, h5, h6, h7, hc⟩ := CR_s h hp rfl
  obtain ⟨y, r, rfl, h8, h9, h10⟩ := kcc_cons h5
  obtain ⟨u, r, rfl, h11, h12, h13⟩ := kcc_cons h10
  have h7 : klald pc lo (y :: u :: r) w c s = some k := h7
  unfold klald at h7
  split at h7
  · rename_i j b rest hst
    cases hst
    split at h7
    · rename_i t nn ll d hw
      have hq := kcond_inv h7; clear h7; obtain ⟨hb, h7⟩ := hq
      cases h7
      have hj := i32nat (Bool.and_eq_true_iff.mp hb).2
      refine hc N l _ m (by omega) h4 ?_ h6
      rw [List.map_cons, h13]
      congr 1
      refine Prod.ext rfl ?_
      have hval : wval w b j.toNatClampNeg = some (.inl (.long (kget ll d j.toNatClampNeg))) := by
        unfold wval
        rw [hw]
        show (bif Nat.blt j.toNatClampNeg nn then some _ else none) = _
        rw [Nat.blt_eq.mpr hj.2]
        rfl
      show kc ρ (.inl (.long (kget ll d j.toNatClampNeg))) = m a i
      rw [← h6, ← h12, ← h9]
      show _ = wm ρ w (b : Int) j.toInt
      rw [← hj.1, wm_val hval]
    · cases h7
  · cases h7
set_option maxRecDepth 16384 in
theorem CR_aald {t1 t2 : Nat} {a i : Int} (h : CR PC X ρ rg L nL Rc Rs prog N pc l ((t2, i) :: (t1, a) :: S) m o) (hp : kat prog pc = some (.aaload, x)) : CR PC X ρ rg L nL Rc Rs prog N (pc + 1) l ((1, if a = 1000050 then 1000100 + i else m a i) :: S) m o := by
  obtain ⟨call, n, lo, st, w, c, s, k, h1, h2, h3, h4, h5, h6, h7, hc⟩ := CR_s h hp rfl
  obtain ⟨y, r, rfl, h8, h9, h10⟩ := kcc_cons h5
  obtain ⟨u, r, rfl, h11, h12, h13⟩ := kcc_cons h10
  have h7 : kwald pc lo (y :: u :: r) w c s = some k := h7
  unfold kwald at h7
  split at h7
  · rename_i j b rest hst
    cases hst
    cases q : Nat.beq b 1000050 with
    | true =>
      rw [q] at h7
      simp only [cond_true] at h7
      have hq := kcond_inv h7; clear h7; obtain ⟨hb, h7⟩ := hq
      cases h7
      have q := kb_t q
      have e : a = 1000050 := by rw [← h12, q]; rfl
      have hj := i32nat hb
      refine hc N l _ m (by omega) h4 ?_ h6
      rw [List.map_cons, h13, if_pos e]
      congr 1
      refine Prod.ext rfl ?_
      show ((1000100 + j.toNatClampNeg : Nat) : Int) = 1000100 + i
      rw [← h9]
      show _ = 1000100 + j.toInt
      omega
    | false =>
      rw [q] at h7
      have q := kb_f q
      have e : ¬ a = 1000050 := by
        rw [← h12]
        show ¬ (b : Int) = 1000050
        omega
      have h7 : kaald pc lo (.inl (.int j) :: .inl (.ref b) :: r) w c s = some k := h7
      unfold kaald at h7
      dsimp only at h7
      split at h7
      · rename_i t nn ll hw
        have hq := kcond_inv h7; clear h7; obtain ⟨hb, h7⟩ := hq
        cases h7
        have hj := i32nat (Bool.and_eq_true_iff.mp hb).2
        refine hc N l _ m (by omega) h4 ?_ h6
        rw [List.map_cons, h13, if_neg e]
        congr 1
        refine Prod.ext (kc_ofR ρ _) ?_
        have hval : wval w b j.toNatClampNeg = some (kofR (kget ll none j.toNatClampNeg)) := by
          unfold wval
          rw [hw]
          show (bif Nat.blt j.toNatClampNeg nn then some _ else none) = _
          rw [Nat.blt_eq.mpr hj.2]
          rfl
        show kc ρ (kofR (kget ll none j.toNatClampNeg)) = m a i
        rw [← h6, ← h12, ← h9]
        show _ = wm ρ w (b : Int) j.toInt
        rw [← hj.1, wm_val hval]
      · cases h7
  · cases h7
set_option maxRecDepth 16384 in
theorem CR_ast {ok : Nat → Bool} {f : Nat → Int32 → Int32} {t1 t2 t3 : Nat} {a i e : Int} (h : CR PC X ρ rg L nL Rc Rs prog N pc l ((t3, e) :: (t2, i) :: (t1, a) :: S) m o) (hp : kat prog pc = some (ig, x)) (he : kendx ig = false) (hk : ∀ (call : CL) (lo : List (Nat × KV)) (st : List KV) (w : KW) (c s : Nat), kdx ig X call rg L nL Rc Rs x pc lo st w c s = kast ok f pc lo st w c s) : CR PC X ρ rg L nL Rc Rs prog N (pc + 1) l S (mu m a i (f (m a (-2)).toNat (Int32.ofInt e)).toInt) o := by
  obtain ⟨call, n, lo, st, w, c, s, k, h1, h2, h3, h4, h5, h6, h7, hc⟩ := CR_s h hp he
  obtain ⟨z, r, rfl, h14, h15, h16⟩ := kcc_cons h5
  obtain ⟨y, r, rfl, h8, h9, h10⟩ := kcc_cons h16
  obtain ⟨u, r, rfl, h11, h12, h13⟩ := kcc_cons h10
  rw [hk] at h7
  unfold kast at h7
  split at h7
  · rename_i x' j b rest hst
    cases hst
    split at h7
    · rename_i t nn ll d hw
      have hq := kcond_inv h7; clear h7; obtain ⟨hb, h7⟩ := hq
      cases h7
      simp only [Bool.and_eq_true] at hb
      have hj := i32nat hb.2.1
      refine hc N l S _ (by omega) h4 h13 ?_
      have e1 : wm ρ w (b : Int) (-2) = (t : Int) := wm_typ hw
      have e2 : m a (-2) = (t : Int) := by rw [← h6, ← h12]; exact e1
      rw [e2, ← h6, ← h12, ← h9]
      show _ = mu (wm ρ w) (b : Int) j.toInt _
      rw [← hj.1, Int.toNat_natCast]
      have key : ∀ q : Nat, kget (kset ll j.toNatClampNeg (kop1I (f t) (ktoI z))) d q = if q = j.toNatClampNeg then kop1I (f t) (ktoI z) else kget ll d q := fun q => kget_set ll d _ q _
      refine wm_set (k := j.toNatClampNeg) hw (fun q hq => ?_) ⟨kofI (kop1I (f t) (ktoI z)), ?_, ?_⟩ rfl rfl
      · show (bif Nat.blt q nn then some (kofI (kget (kset ll j.toNatClampNeg (kop1I (f t) (ktoI z))) d q)) else none) = (bif Nat.blt q nn then some (kofI (kget ll d q)) else none)
        rw [key, if_neg hq]
      · show (bif Nat.blt j.toNatClampNeg nn then some (kofI (kget (kset ll j.toNatClampNeg (kop1I (f t) (ktoI z))) d j.toNatClampNeg)) else none) = _
        rw [key, if_pos rfl, Nat.blt_eq.mpr hj.2]
        rfl
      · rw [(kc_ofI ρ _).1, kop1I_ok, ktoI_ok, kiv_kc hb.2.2, h15]
    · cases h7
  · cases h7
set_option maxRecDepth 16384 in
theorem CR_last {t1 t2 t3 : Nat} {a i e : Int} (h : CR PC X ρ rg L nL Rc Rs prog N pc l ((t3, e) :: (t2, i) :: (t1, a) :: S) m o) (hp : kat prog pc = some (.lastore, x)) : CR PC X ρ rg L nL Rc Rs prog N (pc + 1) l S (mu m a i e) o := by
  obtain ⟨call, n, lo, st, w, c, s, k, h1, h2, h3, h4, h5, h6, h7, hc⟩ := CR_s h hp rfl
  obtain ⟨z, r, rfl, h14, h15, h16⟩ := kcc_cons h5
  obtain ⟨y, r, rfl, h8, h9, h10⟩ := kcc_cons h16
  obtain ⟨u, r, rfl, h11, h12, h13⟩ := kcc_cons h10
  have h7 : klast pc lo (z :: y :: u :: r) w c s = some k := h7
  unfold klast at h7
  split at h7
  · rename_i x' j b rest hst
    cases hst
    split at h7
    · rename_i t nn ll d hw
      have hq := kcond_inv h7; clear h7; obtain ⟨hb, h7⟩ := hq
      cases h7
      simp only [Bool.and_eq_true] at hb
      have hj := i32nat hb.2
      refine hc N l S _ (by omega) h4 h13 ?_
      rw [← h6, ← h12, ← h9]
      show _ = mu (wm ρ w) (b : Int) j.toInt _
      rw [← hj.1]
      have key : ∀ q : Nat, kget (kset ll j.toNatClampNeg x') d q = if q = j.toNatClampNeg then x' else kget ll d q := fun q => kget_set ll d _ q _
      refine wm_set (k := j.toNatClampNeg) hw (fun q hq => ?_) ⟨.inl (.long x'), ?_, h15⟩ rfl rfl
      · show (bif Nat.blt q nn then some (Sum.inl (Value.long (kget (kset ll j.toNatClampNeg x') d q)) : KV) else none) = (bif Nat.blt q nn then some (Sum.inl (Value.long (kget ll d q)) : KV) else none)
        rw [key, if_neg hq]
      · show (bif Nat.blt j.toNatClampNeg nn then some (Sum.inl (Value.long (kget (kset ll j.toNatClampNeg x') d j.toNatClampNeg)) : KV) else none) = _
        rw [key, if_pos rfl, Nat.blt_eq.mpr hj.2]
        rfl
    · cases h7
  · cases h7
end CRS2
