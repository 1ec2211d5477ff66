/-! Math.min, max and abs; a text's length and signs. -/
section LPM
variable {X : KO} {ρ : Nat → Int32} {nL Rc Rs : Nat} {prog : List KEnt} {N pc : Nat} {l : List Int} {S : List (Nat × Int)} {m : MM} {o : Instr × List (Nat × Int) × MM} {x : KX}
set_option maxRecDepth 16384 in
noncomputable def jmin (a b : Int) : Int := if b < a then b else a
set_option maxRecDepth 16384 in
noncomputable def jmax (a b : Int) : Int := if a < b then b else a
set_option maxRecDepth 16384 in
noncomputable def jabs (a : Int) : Int := if 0 ≤ a then a else s32 (0 - a)
set_option maxRecDepth 16384 in
def tlen (a : Int) : Int := match kstr a.toNat with
  | some l => (Int32.ofNat l.length).toInt
  | none => 0
set_option maxRecDepth 16384 in
def tchr (a i : Int) : Int := match kstr a.toNat with
  | some l => (l.getD i.toNat 0 &&& 255).toInt
  | none => 0
set_option maxRecDepth 16384 in
theorem MR_min {i t1 t2 : Nat} {a b : Int} (h : MR X ρ nL Rc Rs prog N pc l ((t2, b) :: (t1, a) :: S) m o) (hp : kat prog pc = some (.invokestatic i, x)) (hx : x.1 = 999998) : MR X ρ nL Rc Rs prog N (pc + 3) l ((1, jmin a b) :: S) m o := by
  obtain ⟨call, n, lo, st, w, c, s, k, h1, h2, h3, h4, h5, h6, h7, hc⟩ := CR_s h hp rfl
  have h7 : kdx (.invokestatic i) X call [] 0 nL Rc Rs x pc lo st w c s = some k := h7
  unfold kdx at h7
  dsimp only at h7
  rw [hx] at h7
  have h7 : kmin [] Rc Rs pc lo st w c s = some k := h7
  obtain ⟨v1, r, rfl, a1, b1, g1⟩ := kcc_cons h5
  obtain ⟨v2, r, rfl, a2, b2, g2⟩ := kcc_cons g1
  unfold kmin at h7
  dsimp only at h7
  obtain ⟨hb, h7⟩ := kcond_inv h7
  have hb := Bool.and_eq_true_iff.mp hb
  have hb2 := Bool.and_eq_true_iff.mp hb.2
  split at h7
  · rename_i bb hlt
    cases h7
    have hlt := klt_ok (rg := []) (ρ := ρ) kRg0 hlt
    rw [Int32.lt_iff_toInt_lt] at hlt
    have e1 := (kc_int (ρ := ρ) hb2.1)
    have e2 := (kc_int (ρ := ρ) hb.1)
    rw [← e1.1, ← e2.1, b1, b2] at hlt
    refine hc N l _ _ (by omega) h4 ?_ h6
    cases bb with
    | true =>
      have q : b < a := hlt.mp rfl
      show kcc ρ v1 :: List.map (kcc ρ) r = _
      unfold jmin
      rw [if_pos q, g2]
      unfold kcc
      rw [b1, e1.2]
    | false =>
      have q : ¬ b < a := fun z => Bool.false_ne_true (hlt.mpr z)
      show kcc ρ v2 :: List.map (kcc ρ) r = _
      unfold jmin
      rw [if_neg q, g2]
      unfold kcc
      rw [b2, e2.2]
  · cases h7
set_option maxRecDepth 16384 in
theorem MR_max {i t1 t2 : Nat} {a b : Int} (h : MR X ρ nL Rc Rs prog N pc l ((t2, b) :: (t1, a) :: S) m o) (hp : kat prog pc = some (.invokestatic i, x)) (hx : x.1 = 999996) : MR X ρ nL Rc Rs prog N (pc + 3) l ((1, jmax a b) :: S) m o := by
  obtain ⟨call, n, lo, st, w, c, s, k, h1, h2, h3, h4, h5, h6, h7, hc⟩ := CR_s h hp rfl
  have h7 : kdx (.invokestatic i) X call [] 0 nL Rc Rs x pc lo st w c s = some k := h7
  unfold kdx at h7
  dsimp only at h7
  rw [hx] at h7
  have h7 : kmax [] Rc Rs pc lo st w c s = some k := h7
  obtain ⟨v1, r, rfl, a1, b1, g1⟩ := kcc_cons h5
  obtain ⟨v2, r, rfl, a2, b2, g2⟩ := kcc_cons g1
  unfold kmax at h7
  split at h7
  · rename_i yy xx rest hst
    cases hst
    obtain ⟨hb, h7⟩ := kcond_inv h7
    cases h7
    refine hc N l _ _ (by omega) h4 ?_ h6
    have b1 : yy.toInt = b := b1
    have b2 : xx.toInt = a := b2
    show (1, (if xx < yy then yy else xx).toInt) :: List.map (kcc ρ) r = _
    rw [g2]
    unfold jmax
    by_cases q : xx < yy
    · rw [if_pos q, if_pos (by rw [Int32.lt_iff_toInt_lt] at q; omega), b1]
    · rw [if_neg q, if_neg (by rw [Int32.lt_iff_toInt_lt] at q; omega), b2]
  · cases h7
set_option maxRecDepth 16384 in
theorem MR_abs {i t1 : Nat} {a : Int} (h : MR X ρ nL Rc Rs prog N pc l ((t1, a) :: S) m o) (hp : kat prog pc = some (.invokestatic i, x)) (hx : x.1 = 999995) : MR X ρ nL Rc Rs prog N (pc + 3) l ((1, jabs a) :: S) m o := by
  obtain ⟨call, n, lo, st, w, c, s, k, h1, h2, h3, h4, h5, h6, h7, hc⟩ := CR_s h hp rfl
  have h7 : kdx (.invokestatic i) X call [] 0 nL Rc Rs x pc lo st w c s = some k := h7
  unfold kdx at h7
  dsimp only at h7
  rw [hx] at h7
  have h7 : kabs Rc Rs pc lo st w c s = some k := h7
  obtain ⟨v1, r, rfl, a1, b1, g1⟩ := kcc_cons h5
  unfold kabs at h7
  split at h7
  · rename_i xx rest hst
    cases hst
    obtain ⟨hb, h7⟩ := kcond_inv h7
    cases h7
    refine hc N l _ _ (by omega) h4 ?_ h6
    have b1 : xx.toInt = a := b1
    show (1, (if 0 ≤ xx then xx else 0 - xx).toInt) :: List.map (kcc ρ) r = _
    rw [g1]
    unfold jabs
    have z0 : (0 : Int32).toInt = 0 := by decide
    by_cases q : (0 : Int32) ≤ xx
    · rw [if_pos q, if_pos (by rw [Int32.le_iff_toInt_le] at q; omega), b1]
    · rw [if_neg q, if_neg (by rw [Int32.le_iff_toInt_le] at q; omega)]
      rw [s32_eq, ← b1]
      congr 2
      rw [Int32.ofInt_sub, Int32.ofInt_toInt]
      rfl
  · cases h7
set_option maxRecDepth 16384 in
theorem MR_slen {i t1 : Nat} {a : Int} (h : MR X ρ nL Rc Rs prog N pc l ((t1, a) :: S) m o) (hp : kat prog pc = some (.invokevirtual i, x)) (hx : x.1 = 999994) : MR X ρ nL Rc Rs prog N (pc + 3) l ((1, tlen a) :: S) m o := by
  obtain ⟨call, n, lo, st, w, c, s, k, h1, h2, h3, h4, h5, h6, h7, hc⟩ := CR_s h hp rfl
  have h7 : kdx (.invokevirtual i) X call [] 0 nL Rc Rs x pc lo st w c s = some k := h7
  unfold kdx at h7
  dsimp only at h7
  rw [hx] at h7
  have h7 : kslen Rc Rs pc lo st w c s = some k := h7
  obtain ⟨v1, r, rfl, a1, b1, g1⟩ := kcc_cons h5
  unfold kslen at h7
  split at h7
  · rename_i aa rest hst
    cases hst
    split at h7
    · rename_i tl htl
      obtain ⟨hb, h7⟩ := kcond_inv h7
      cases h7
      refine hc N l _ _ (by omega) h4 ?_ h6
      have b1 : (aa : Int) = a := b1
      show (1, (Int32.ofNat tl.length).toInt) :: List.map (kcc ρ) r = _
      rw [g1]
      unfold tlen
      rw [← b1, Int.toNat_natCast, htl]
    · cases h7
  · cases h7
set_option maxRecDepth 16384 in
theorem MR_schr {i t1 t2 : Nat} {a j : Int} (h : MR X ρ nL Rc Rs prog N pc l ((t2, j) :: (t1, a) :: S) m o) (hp : kat prog pc = some (.invokevirtual i, x)) (hx : x.1 = 999993) : MR X ρ nL Rc Rs prog N (pc + 3) l ((1, tchr a j) :: S) m o := by
  obtain ⟨call, n, lo, st, w, c, s, k, h1, h2, h3, h4, h5, h6, h7, hc⟩ := CR_s h hp rfl
  have h7 : kdx (.invokevirtual i) X call [] 0 nL Rc Rs x pc lo st w c s = some k := h7
  unfold kdx at h7
  dsimp only at h7
  rw [hx] at h7
  have h7 : kschr Rc Rs pc lo st w c s = some k := h7
  obtain ⟨v1, r, rfl, a1, b1, g1⟩ := kcc_cons h5
  obtain ⟨v2, r, rfl, a2, b2, g2⟩ := kcc_cons g1
  unfold kschr at h7
  split at h7
  · rename_i ii aa rest hst
    cases hst
    split at h7
    · rename_i tl htl
      obtain ⟨hb, h7⟩ := kcond_inv h7
      have hb := Bool.and_eq_true_iff.mp hb
      cases h7
      refine hc N l _ _ (by omega) h4 ?_ h6
      have b1 : ii.toInt = j := b1
      have b2 : (aa : Int) = a := b2
      show (1, (tl.getD ii.toNatClampNeg 0 &&& 255).toInt) :: List.map (kcc ρ) r = _
      rw [g2]
      unfold tchr
      rw [← b2, ← b1, Int.toNat_natCast, htl, Int32.toNat_toInt]
    · cases h7
  · cases h7
set_option maxRecDepth 16384 in
theorem MR_ifb {cnd : Jvm.ClassFile.Cond} {off : Int} {t t1 : Nat} {a : Int} (h : MR X ρ nL Rc Rs prog N pc l ((t1, a) :: S) m o) (hp : kat prog pc = some (.ifCond cnd off, x)) (ht : ktg pc off = some t) : (cdP cnd a 0 ∧ ∃ N', N = N' + 1 ∧ MR X ρ nL Rc Rs prog N' t l S m o) ∨ (¬ cdP cnd a 0 ∧ MR X ρ nL Rc Rs prog N (pc + 3) l S m o) := by
  obtain ⟨call, n, lo, st, w, c, s, k, h1, h2, h3, h4, h5, h6, h7, hc⟩ := CR_s h hp rfl
  obtain ⟨y, r, rfl, h8, h9, h10⟩ := kcc_cons h5
  have h7 : kif [] cnd off pc lo (y :: r) w c s = some k := h7
  obtain ⟨hb, h7⟩ := kcond_inv h7
  obtain ⟨b, hb2, rfl⟩ := kbr_inv h7 ht
  have e := kcondc_ok kRg0 (ρ := ρ) hb rfl hb2
  rw [h9] at e
  cases b with
  | true => exact Or.inl ⟨e.mp rfl, N - 1, by omega, hc (N - 1) l S m (by omega) h4 h10 h6⟩
  | false => exact Or.inr ⟨fun q => (nomatch e.mpr q), hc N l S m (by omega) h4 h10 h6⟩
set_option maxRecDepth 16384 in
theorem MR_icmpb {cnd : Jvm.ClassFile.Cond} {off : Int} {t t1 t2 : Nat} {a b : Int} (h : MR X ρ nL Rc Rs prog N pc l ((t2, b) :: (t1, a) :: S) m o) (hp : kat prog pc = some (.if_icmp cnd off, x)) (ht : ktg pc off = some t) : (cdP cnd a b ∧ ∃ N', N = N' + 1 ∧ MR X ρ nL Rc Rs prog N' t l S m o) ∨ (¬ cdP cnd a b ∧ MR X ρ nL Rc Rs prog N (pc + 3) l S m o) := by
  obtain ⟨call, n, lo, st, w, c, s, k, h1, h2, h3, h4, h5, h6, h7, hc⟩ := CR_s h hp rfl
  obtain ⟨y, r, rfl, h8, h9, h10⟩ := kcc_cons h5
  obtain ⟨u, r, rfl, h11, h12, h13⟩ := kcc_cons h10
  have h7 : kicmp [] cnd off pc lo (y :: u :: r) w c s = some k := h7
  obtain ⟨hb, h7⟩ := kcond_inv h7
  obtain ⟨b', hb2, rfl⟩ := kbr_inv h7 ht
  have hb := Bool.and_eq_true_iff.mp hb
  have e := kcondc_ok kRg0 (ρ := ρ) hb.1 hb.2 hb2
  rw [h9, h12] at e
  cases b' with
  | true => exact Or.inl ⟨e.mp rfl, N - 1, by omega, hc (N - 1) l S m (by omega) h4 h13 h6⟩
  | false => exact Or.inr ⟨fun q => (nomatch e.mpr q), hc N l S m (by omega) h4 h13 h6⟩
end LPM
