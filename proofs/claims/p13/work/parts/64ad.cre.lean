/-! A run as numbers: calls, a method's run from its arguments to its answer. -/
set_option maxRecDepth 16384 in
def kPM (X : KO) : CL → Prop := fun call => ∃ f d, call = kcallx qmeths X f d
set_option maxRecDepth 16384 in
/-- a method's run: its arguments, the world before, its answer, the world behind -/
def Run (X : KO) (ρ : Nat → Int32) (mid : Nat) (args : List (Nat × Int)) (m : MM) (rl : List (Nat × Int)) (m' : MM) : Prop := ∃ (f d : Nat) (av : List KV) (w : KW) (r : Option KV) (w' : KW), kcallx qmeths X f d mid av w = some (r, w') ∧ kWT w ∧ av.map (kcc ρ) = args ∧ wm ρ w = m ∧ r.toList.map (kcc ρ) = rl ∧ wm ρ w' = m'
set_option maxRecDepth 16384 in
def locs : List (Nat × Int) → List Int
  | [] => []
  | q :: t => bif Nat.beq q.1 2 then q.2 :: 0 :: locs t else q.2 :: locs t
set_option maxRecDepth 16384 in
def locsN (nL : Nat) (args : List (Nat × Int)) : List Int := locs args ++ List.replicate (nL - (locs args).length) 0
set_option maxRecDepth 16384 in
theorem getD_mid (P R : List Int) (e : Int) : (P ++ e :: R).getD P.length 0 = e := by
  rw [List.getD_eq_getElem?_getD, List.getElem?_append_right (Nat.le_refl _), Nat.sub_self]
  rfl
set_option maxRecDepth 16384 in
theorem lrel_args {ρ : Nat → Int32} (R : List Int) : ∀ (av : List KV) (P : List Int), lrel ρ (kargs P.length av) (P ++ (locs (av.map (kcc ρ)) ++ R)) := by
  intro av
  induction av with
  | nil => intro P q hq; cases hq
  | cons v t ih =>
    intro P q hq
    show (P ++ ((bif Nat.beq (kcat v) 2 then kc ρ v :: 0 :: locs (t.map (kcc ρ)) else kc ρ v :: locs (t.map (kcc ρ))) ++ R)).getD q.1 0 = kc ρ q.2
    have hq : q ∈ (P.length, v) :: kargs (if kcat v = 2 then P.length + 2 else P.length + 1) t := hq
    by_cases hc : kcat v = 2
    · rw [kb_r hc]
      rw [if_pos hc] at hq
      simp only [cond_true]
      rcases List.mem_cons.mp hq with rfl | hq
      · exact getD_mid P _ _
      · have := ih (P ++ [kc ρ v, 0]) q (by
          rw [List.length_append]
          exact hq)
        rw [List.append_assoc] at this
        exact this
    · rw [kb_n hc]
      rw [if_neg hc] at hq
      simp only [cond_false]
      rcases List.mem_cons.mp hq with rfl | hq
      · exact getD_mid P _ _
      · have := ih (P ++ [kc ρ v]) q (by
          rw [List.length_append]
          exact hq)
        rw [List.append_assoc] at this
        exact this
set_option maxRecDepth 16384 in
theorem kretx_st {ret : Option FieldType} {ig : Instr} {st : List KV} {r : Option KV} (h : kretx ret ig st = some r) : st = r.toList := by
  unfold kretx at h
  split at h
  · split at h
    · cases h; rfl
    · cases h
  · split at h
    · have hq := kcond_inv h; clear h; obtain ⟨-, h⟩ := hq; cases h; rfl
    · have hq := kcond_inv h; clear h; obtain ⟨-, h⟩ := hq; cases h; rfl
    · have hq := kcond_inv h; clear h; obtain ⟨-, h⟩ := hq; cases h; rfl
    · cases h
  · split at h
    · cases h; rfl
    · cases h
  · split at h
    · cases h; rfl
    · cases h
  · cases h
set_option maxRecDepth 16384 in
theorem Run_CR {X : KO} {ρ : Nat → Int32} {mid : Nat} {args rl : List (Nat × Int)} {m m' : MM} (h : Run X ρ mid args m rl m') {nm : MethodName} {cd : ByteArray} {nL mc msl : Nat} {ret : Option FieldType} {prog : List KEnt} (hm : qmeths[mid]? = some (nm, cd, nL, ret, mc, msl, prog)) : ∃ N ig, CR (kPM X) X ρ [] 0 nL mc msl prog N 0 (locsN nL args) [] m (ig, rl, m') := by
  obtain ⟨f, d, av, w, r, w', h1, h2, h3, h4, h5, h6⟩ := h
  cases d with
  | zero => cases h1
  | succ d =>
    unfold kcallx at h1
    rw [hm] at h1
    dsimp only at h1
    obtain ⟨hb, h1⟩ := kcond_inv h1
    split at h1
    · rename_i ig pc2 lo2 st2 w2 c2 s2 hr
      obtain ⟨hb2, h1⟩ := kcond_inv h1
      split at h1
      · rename_i rr hrr
        cases h1
        refine ⟨f, ig, kcallx qmeths X f d, f, _, _, _, _, _, _, ⟨⟨f, d, rfl⟩, kcallx_pr _ _ _ _⟩, Nat.le_refl _, h2, ?_, rfl, h4, hr, ?_, h6⟩
        · rw [← h3]
          exact lrel_args _ av []
        · rw [← h5, ← kretx_st hrr]
      · cases h1
    · cases h1
set_option maxRecDepth 16384 in
theorem r_append {α β : Type} (f : α → β) (r : Option α) (t : List α) : (r.toList ++ t).map f = r.toList.map f ++ t.map f := List.map_append
section CRS3
variable {PC : CL → Prop} {X : KO} {ρ : Nat → Int32} {rg : List (Int × Int)} {L nL Rc Rs : Nat} {prog : List KEnt} {N pc : Nat} {l : List Int} {S : List (Nat × Int)} {m : MM} {o : Instr × List (Nat × Int) × MM} {ig : Instr} {x : KX}
set_option maxRecDepth 16384 in
theorem CR_callV0 {y : KX} (h : CR PC X ρ rg L nL Rc Rs prog N pc l S m o) (hp : kat prog pc = some (ig, x)) (he : kendx ig = false) (hk : ∀ (call : CL) (lo : List (Nat × KV)) (st : List KV) (w : KW) (c s : Nat), kdx ig X call rg L nL Rc Rs x pc lo st w c s = kcallV call Rc Rs y pc lo st w c s) : ∃ (call : CL) (av : List KV) (w : KW) (r : Option KV) (w' : KW), PC call ∧ kWT w ∧ wm ρ w = m ∧ av.map (kcc ρ) = (S.take (y.2.1 + 1)).reverse ∧ call y.1 av w = some (r, w') ∧ CR PC X ρ rg L nL Rc Rs prog N (pc + 3) l (r.toList.map (kcc ρ) ++ S.drop (y.2.1 + 1)) (wm ρ w') o := by
  obtain ⟨call, n, lo, st, w, c, s, k, h1, h2, h3, h4, h5, h6, h7, hc⟩ := CR_s h hp he
  rw [hk] at h7
  unfold kcallV at h7
  split at h7
  · rename_i b rest hd
    split at h7
    · rename_i cj fs hw
      have hq := kcond_inv h7
      clear h7
      obtain ⟨hb, h7⟩ := hq
      split at h7
      · rename_i r w' hcall
        cases h7
        have ht : st.take (y.2.1 + 1) = st.take y.2.1 ++ [.inl (.ref b)] := by
          rw [List.take_add_one]
          have : st[y.2.1]? = some (.inl (.ref b)) := by
            have e := congrArg (fun t => t[0]?) hd
            have e : (st.drop y.2.1)[0]? = some (.inl (.ref b)) := e
            rw [List.getElem?_drop] at e
            exact e
          rw [this]
          rfl
        have hdr : st.drop (y.2.1 + 1) = rest := by
          rw [← List.drop_drop, hd]
          rfl
        refine ⟨call, _, w, r, w', h1.1, h3, h6, ?_, hcall, hc N l _ _ (by omega) h4 ?_ rfl⟩
        · rw [← h5, ← List.map_take, ← List.map_reverse, ht, List.reverse_append]
          rfl
        · rw [r_append, ← h5, ← List.map_drop, hdr]
      · cases h7
    · cases h7
  · cases h7
set_option maxRecDepth 16384 in
theorem CR_callS0 (h : CR PC X ρ rg L nL Rc Rs prog N pc l S m o) (hp : kat prog pc = some (ig, x)) (he : kendx ig = false) (hk : ∀ (call : CL) (lo : List (Nat × KV)) (st : List KV) (w : KW) (c s : Nat), kdx ig X call rg L nL Rc Rs x pc lo st w c s = kcallS call Rc Rs x pc lo st w c s) : ∃ (call : CL) (av : List KV) (w : KW) (r : Option KV) (w' : KW), PC call ∧ kWT w ∧ wm ρ w = m ∧ av.map (kcc ρ) = (S.take x.2.1).reverse ∧ call x.1 av w = some (r, w') ∧ CR PC X ρ rg L nL Rc Rs prog N (pc + 3) l (r.toList.map (kcc ρ) ++ S.drop x.2.1) (wm ρ w') o := by
  obtain ⟨call, n, lo, st, w, c, s, k, h1, h2, h3, h4, h5, h6, h7, hc⟩ := CR_s h hp he
  rw [hk] at h7
  unfold kcallS at h7
  have hq := kcond_inv h7
  clear h7
  obtain ⟨hb, h7⟩ := hq
  split at h7
  · rename_i r w' hcall
    cases h7
    refine ⟨call, _, w, r, w', h1.1, h3, h6, ?_, hcall, hc N l _ _ (by omega) h4 ?_ rfl⟩
    · rw [← h5, ← List.map_take, ← List.map_reverse]
    · rw [r_append, ← h5, ← List.map_drop]
  · cases h7
set_option maxRecDepth 16384 in
theorem CR_callV {y : KX} (h : CR (kPM X) X ρ rg L nL Rc Rs prog N pc l S m o) (hp : kat prog pc = some (ig, x)) (he : kendx ig = false) (hk : ∀ (call : CL) (lo : List (Nat × KV)) (st : List KV) (w : KW) (c s : Nat), kdx ig X call rg L nL Rc Rs x pc lo st w c s = kcallV call Rc Rs y pc lo st w c s) : ∃ rl m', Run X ρ y.1 (S.take (y.2.1 + 1)).reverse m rl m' ∧ CR (kPM X) X ρ rg L nL Rc Rs prog N (pc + 3) l (rl ++ S.drop (y.2.1 + 1)) m' o := by
  obtain ⟨call, av, w, r, w', ⟨f, d, rfl⟩, h2, h3, h4, h5, h6⟩ := CR_callV0 h hp he hk
  exact ⟨_, _, ⟨f, d, av, w, r, w', h5, h2, h4, h3, rfl, rfl⟩, h6⟩
set_option maxRecDepth 16384 in
theorem CR_callS (h : CR (kPM X) X ρ rg L nL Rc Rs prog N pc l S m o) (hp : kat prog pc = some (ig, x)) (he : kendx ig = false) (hk : ∀ (call : CL) (lo : List (Nat × KV)) (st : List KV) (w : KW) (c s : Nat), kdx ig X call rg L nL Rc Rs x pc lo st w c s = kcallS call Rc Rs x pc lo st w c s) : ∃ rl m', Run X ρ x.1 (S.take x.2.1).reverse m rl m' ∧ CR (kPM X) X ρ rg L nL Rc Rs prog N (pc + 3) l (rl ++ S.drop x.2.1) m' o := by
  obtain ⟨call, av, w, r, w', ⟨f, d, rfl⟩, h2, h3, h4, h5, h6⟩ := CR_callS0 h hp he hk
  exact ⟨_, _, ⟨f, d, av, w, r, w', h5, h2, h4, h3, rfl, rfl⟩, h6⟩
set_option maxRecDepth 16384 in
theorem CR_cpy {t1 t2 t3 t4 t5 : Nat} {c0 dp r1 sp r0 : Int} (h : CR PC X ρ rg L nL Rc Rs prog N pc l ((t1, c0) :: (t2, dp) :: (t3, r1) :: (t4, sp) :: (t5, r0) :: S) m o) (hp : kat prog pc = some (ig, x)) (he : kendx ig = false) (hk : ∀ (call : CL) (lo : List (Nat × KV)) (st : List KV) (w : KW) (c s : Nat), kdx ig X call rg L nL Rc Rs x pc lo st w c s = kcopy pc lo st w c s) : CR PC X ρ rg L nL Rc Rs prog N (pc + 3) l S (mcp m r1 r0 c0) o := by
  obtain ⟨call, n, lo, st, w, c, s, k, h1, h2, h3, h4, h5, h6, h7, hc⟩ := CR_s h hp he
  rw [hk] at h7
  obtain ⟨v1, r, rfl, a1, b1, g1⟩ := kcc_cons h5
  obtain ⟨v2, r, rfl, a2, b2, g2⟩ := kcc_cons g1
  obtain ⟨v3, r, rfl, a3, b3, g3⟩ := kcc_cons g2
  obtain ⟨v4, r, rfl, a4, b4, g4⟩ := kcc_cons g3
  obtain ⟨v5, r, rfl, a5, b5, g5⟩ := kcc_cons g4
  unfold kcopy at h7
  split at h7
  · rename_i nn dd q1 ss q0 rest hst
    cases hst
    split at h7
    · rename_i t0 n0 e0 t1' n1 e1 hw0 hw1
      have hq := kcond_inv h7
      clear h7
      obtain ⟨hb, h7⟩ := hq
      simp only [Bool.and_eq_true] at hb
      obtain ⟨d1, d2, d3, d4, d5, d6, -⟩ := hb
      have d4 := kb_t d4
      have d5 := kb_t d5
      have d6 := kb_t d6
      subst d5; subst d6
      have hn : (n0 : Int) = nn.toInt := by
        have h9 : ¬ nn < 0 := by
          intro q
          rw [decide_eq_true q] at d3
          cases d3
        have h8 : 0 ≤ nn.toInt := by
          rw [Int32.lt_iff_toInt_lt] at h9
          have : (0 : Int32).toInt = 0 := by decide
          omega
        rw [← d4, ← Int32.toNat_toInt]
        omega
      have key : k = (pc + 3, lo, r, kws w q1 (.inl (t0, n0, e0)), c, s) := by
        split at h7
        · have hq := kcond_inv h7; clear h7; obtain ⟨-, h7⟩ := hq; cases h7; rfl
        · have hq := kcond_inv h7; clear h7; obtain ⟨-, h7⟩ := hq; cases h7; rfl
        · cases h7
      subst key
      refine hc N l S _ (by omega) h4 g5 ?_
      rw [← h6, ← b3, ← b5, ← b1]
      show wm ρ (kws w q1 (.inl (t0, n0, e0))) = mcp (wm ρ w) (q1 : Int) (q0 : Int) nn.toInt
      rw [← hn]
      funext b j
      unfold mcp
      have hg := kwg_kws (e' := .inl (t0, n0, e0)) hw1
      by_cases c1 : b = (q1 : Int) ∧ 0 ≤ j ∧ j < (n0 : Int)
      · obtain ⟨c1, c2, c3⟩ := c1
        rw [if_pos ⟨c1, c2, c3⟩, c1]
        unfold wm
        rw [if_pos (Int.natCast_nonneg _), if_neg (by omega), if_neg (by omega), if_pos c2, if_pos (Int.natCast_nonneg _), if_neg (by omega), if_neg (by omega), if_pos c2, Int.toNat_natCast, Int.toNat_natCast]
        have : wval (kws w q1 (.inl (t0, n0, e0))) q1 j.toNat = wval w q0 j.toNat := by
          unfold wval
          rw [hg, if_pos rfl, hw0]
        rw [this]
      · rw [if_neg c1]
        unfold wm
        by_cases c2 : 0 ≤ b
        · rw [if_pos c2, if_pos c2, hg]
          by_cases c4 : b.toNat = q1
          · rw [if_pos c4, c4, hw1]
            by_cases c3 : j = -1
            · rw [if_pos c3, if_pos c3]
            · rw [if_neg c3, if_neg c3]
              by_cases c6 : j = -2
              · rw [if_pos c6, if_pos c6]
              · rw [if_neg c6, if_neg c6]
                by_cases c5 : 0 ≤ j
                · rw [if_pos c5, if_pos c5]
                  have hj : n0 ≤ j.toNat := by
                    rcases Nat.lt_or_ge j.toNat n0 with q | q
                    · exact absurd ⟨by omega, c5, by omega⟩ c1
                    · exact q
                  have o1 : wval (kws w q1 (.inl (t0, n0, e0))) q1 j.toNat = none := by
                    unfold wval
                    rw [hg, if_pos rfl]
                    rcases e0 with ⟨l1, l2⟩ | ⟨l1, l2⟩ | l1 <;> (show (bif Nat.blt j.toNat n0 then some _ else none) = none) <;> rw [show Nat.blt j.toNat n0 = false from by
                      cases q : Nat.blt j.toNat n0 with
                      | false => rfl
                      | true => exact absurd (Nat.blt_eq.mp q) (Nat.not_lt.mpr hj)] <;> rfl
                  have o2 : wval w q1 j.toNat = none := by
                    unfold wval
                    rw [hw1]
                    rcases e1 with ⟨l1, l2⟩ | ⟨l1, l2⟩ | l1 <;> (show (bif Nat.blt j.toNat n0 then some _ else none) = none) <;> rw [show Nat.blt j.toNat n0 = false from by
                      cases q : Nat.blt j.toNat n0 with
                      | false => rfl
                      | true => exact absurd (Nat.blt_eq.mp q) (Nat.not_lt.mpr hj)] <;> rfl
                  rw [o1, o2]
                · rw [if_neg c5, if_neg c5]
          · rw [if_neg c4]
            by_cases c3 : j = -1
            · rw [if_pos c3, if_pos c3]
            · rw [if_neg c3, if_neg c3]
              by_cases c6 : j = -2
              · rw [if_pos c6, if_pos c6]
              · rw [if_neg c6, if_neg c6]
                have : wval (kws w q1 (.inl (t0, n0, e0))) b.toNat j.toNat = wval w b.toNat j.toNat := by
                  unfold wval
                  rw [hg, if_neg c4]
                rw [this]
        · rw [if_neg c2, if_neg c2]
    · cases h7
  · cases h7
end CRS3
