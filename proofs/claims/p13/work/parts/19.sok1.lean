/-! Steps that leave the cells alone. -/
section SOK1
variable {E : TEnv} {ms : MOD} {ph : PHI} {n pc c s : Nat} {rg : RG} {cs : List LF} {alo : List (Nat × AV)} {ast : List AV} {tc : TC} {cB sB : LF} {ρ : Nat → Int} {lo : List (Nat × KV)} {st : List KV} {w : KW} {L : List (Nat × AS)}
theorem aOk_mk {o : Option KF} {pc' c' s' : Nat} {lo' : List (Nat × KV)} {st' : List KV} {w' : KW} {S : AS} (ho : o = some (pc', lo', st', w', c', s')) (hT : kStp E ms w w') (hm : (pc', S) ∈ L) (ρ' : Nat → Int) (hag : ∀ i, i < n → ρ' i = ρ i) (hn : n ≤ S.1) (hg : aG E ph ρ' S.1 S.2.1 S.2.2.1 S.2.2.2.1 S.2.2.2.2.1 S.2.2.2.2.2.1 S.2.2.2.2.2.2.1 S.2.2.2.2.2.2.2 lo' st' w' c' s') : aOk E ms ph ρ n w L o :=
  ⟨_, ho, hT, (pc', S), hm, rfl, ρ', hag, hn, hg⟩
theorem aOk_mem {o : Option KF} {L' : List (Nat × AS)} (h : aOk E ms ph ρ n w L o) (hs : ∀ q ∈ L, q ∈ L') : aOk E ms ph ρ n w L' o := by
  obtain ⟨k, h1, h2, q, h3, h4⟩ := h
  exact ⟨k, h1, h2, q, hs q h3, h4⟩
theorem s_push (hT : kTW E w) (hG : aG E ph ρ n rg cs alo ast tc cB sB lo st w c s) {a : AV} {v : KV} (ha : aR E n ρ a v) {len : Nat} {o : Option KF} (ho : o = some (pc + len, lo, v :: st, w, c, s)) (hL : some [(pc + len, n, rg, cs, alo, a :: ast, tc, cB, sB)] = some L) : aOk E ms ph ρ n w L o := by
  cases hL
  exact aOk_mk ho (kStp.rf hT) List.mem_cons_self ρ (fun _ _ => rfl) (Nat.le_refl _) ⟨hG.1, hG.2.1, ⟨ha, hG.2.2.1⟩, hG.2.2.2⟩
theorem s_load (hT : kTW E w) (hG : aG E ph ρ n rg cs alo ast tc cB sB lo st w c s) {ok : AV → Bool} {okK : KV → Bool} (hk : ∀ a v, ok a = true → aR E n ρ a v → okK v = true) {i len : Nat} (h : aload ok i len pc n rg cs alo ast tc cB sB = some L) : aOk E ms ph ρ n w L (kld okK i len pc lo st w c s) := by
  unfold aload at h
  split at h
  · rename_i a ha
    obtain ⟨h1, h⟩ := kcond_inv h
    obtain ⟨v, hv, hr⟩ := hG.2.1.1 i a ha
    refine s_push hT hG hr ?_ h
    unfold kld
    rw [hv]
    simp only
    rw [hk a v h1 hr]
    rfl
  · cases h
theorem aisI_ok {a : AV} {v : KV} (h : aisI a = true) (hr : aR E n ρ a v) : kisI v = true := by
  rcases a with f | q
  · rw [hr.2]; rfl
  · cases h
theorem aisG_ok {a : AV} {v : KV} (h : aisG a = true) (hr : aR E n ρ a v) : ∃ x, v = .inl (.long x) := by
  rcases a with f | q
  · cases h
  · obtain ⟨x, e, -⟩ := (vOK1 (t := (q.1, (q.2 : Int), 0)) (kb_t h)).mp hr.2
    exact ⟨x, e⟩
theorem aisQ_ok {a : AV} {v : KV} (h : aisQ a = true) (hr : aR E n ρ a v) : v = .inl .null ∨ ∃ x, v = .inl (.ref x) := by
  rcases a with f | q
  · cases h
  · have h : 2 ≤ q.1 := Nat.ble_eq.mp h
    rcases vOK_tag hr.2 with e | e | e | e | e | e <;> have e : q.1 = _ := e
    · omega
    · omega
    · exact Or.inr ⟨_, ((vOK2 (t := (q.1, (q.2 : Int), 0)) e).mp hr.2).1⟩
    · obtain ⟨x, h1, _⟩ := (vOK3 (t := (q.1, (q.2 : Int), 0)) e).mp hr.2
      exact Or.inr ⟨x, h1⟩
    · rcases (vOK4 (t := (q.1, (q.2 : Int), 0)) e).mp hr.2 with h1 | ⟨x, h1, _⟩
      · exact Or.inl h1
      · exact Or.inr ⟨x, h1⟩
    · exact Or.inl ((vOK5 (t := (q.1, (q.2 : Int), 0)) e).mp hr.2)
theorem aisQ_k {a : AV} {v : KV} (h : aisQ a = true) (hr : aR E n ρ a v) : kisQ v = true := by
  rcases aisQ_ok h hr with rfl | ⟨x, rfl⟩ <;> rfl
theorem aisG_k {a : AV} {v : KV} (h : aisG a = true) (hr : aR E n ρ a v) : kisG v = true := by
  obtain ⟨x, rfl⟩ := aisG_ok h hr
  rfl
theorem s_store (hT : kTW E w) (hG : aG E ph ρ n rg cs alo ast tc cB sB lo st w c s) {ok : AV → Bool} {okK : KV → Bool} (hk : ∀ a v, ok a = true → aR E n ρ a v → okK v = true) {i len nL : Nat} (h : astore ok i len nL pc n rg cs alo ast tc cB sB = some L) : aOk E ms ph ρ n w L (kst okK i len nL pc lo st w c s) := by
  unfold astore at h
  split at h
  · rename_i a rest
    obtain ⟨h1, h⟩ := kcond_inv h
    have h1 := Bool.and_eq_true_iff.mp h1
    obtain ⟨v, r, rfl, hr, hS⟩ := aSt_cons hG.2.2.1
    cases h
    refine aOk_mk ?_ (kStp.rf hT) List.mem_cons_self ρ (fun _ _ => rfl) (Nat.le_refl _) ⟨hG.1, aLo_st1 hG.2.1 hr i, hS, hG.2.2.2⟩
    unfold kst
    simp only
    rw [hk a v h1.1 hr, h1.2]
    rfl
  · cases h
theorem s_store2 (hT : kTW E w) (hG : aG E ph ρ n rg cs alo ast tc cB sB lo st w c s) {i len nL : Nat} (h : astore2 i len nL pc n rg cs alo ast tc cB sB = some L) : aOk E ms ph ρ n w L (kst2 i len nL pc lo st w c s) := by
  unfold astore2 at h
  split at h
  · rename_i q rest
    obtain ⟨h1, h⟩ := kcond_inv h
    obtain ⟨v, r, rfl, hr, hS⟩ := aSt_cons hG.2.2.1
    obtain ⟨x, rfl⟩ := aisG_ok (a := .inr (1, q)) rfl hr
    cases h
    refine aOk_mk ?_ (kStp.rf hT) List.mem_cons_self ρ (fun _ _ => rfl) (Nat.le_refl _) ⟨hG.1, aLo_st2 hG.2.1 hr i, hS, hG.2.2.2⟩
    unfold kst2
    simp only
    rw [h1]
    rfl
  · cases h
theorem s_inc (hT : kTW E w) (hG : aG E ph ρ n rg cs alo ast tc cB sB lo st w c s) {i nL : Nat} {z : Int} (h : ainc i z nL pc n rg cs alo ast tc cB sB = some L) : aOk E ms ph ρ n w L (kinc i z nL pc lo st w c s) := by
  unfold ainc at h
  split at h
  · rename_i f hf
    obtain ⟨h1, h⟩ := kcond_inv h
    obtain ⟨v, hv, hr⟩ := hG.2.1.1 i _ hf
    have hv2 := hr.2
    subst hv2
    obtain ⟨ρ', q1, q2, q3, q4, q5⟩ := aB_norm hG.1 (lwf_add hr.1 (lwf_c n z))
    have h : some [(pc + 3, (anorm n rg (lfadd f (lfc z))).1, (anorm n rg (lfadd f (lfc z))).2.1, cs, ast1 i (.inl (anorm n rg (lfadd f (lfc z))).2.2) alo, ast, tc, cB, sB)] = some L := h
    cases h
    refine aOk_mk ?_ (kStp.rf hT) List.mem_cons_self ρ' q1 q2 ⟨q3, aLo_st1 (v := .inl (.int (Int32.ofInt (lev ρ f) + Int32.ofInt z))) (aLo_up q1 q2 hG.2.1) (show aR E (anorm n rg (lfadd f (lfc z))).1 ρ' (.inl (anorm n rg (lfadd f (lfc z))).2.2) _ from ⟨q4, by rw [q5, lev_add, lev_c, Int32.ofInt_add]⟩) i, aSt_up q1 q2 _ _ hG.2.2.1, tcR_up q1 q2 hG.2.2.2⟩
    unfold kinc
    rw [hv]
    simp only
    rw [h1]
    rfl
  · cases h
theorem s_form (hT : kTW E w) (hG : aG E ph ρ n rg cs alo ast tc cB sB lo st w c s) {f : LF} (hf : lwf n f) {x : Int32} (hx : x = Int32.ofInt (lev ρ f)) {len : Nat} {o : Option KF} (ho : o = some (pc + len, lo, .inl (.int x) :: st, w, c, s)) (h : aform len f pc n rg cs alo ast tc cB sB = some L) : aOk E ms ph ρ n w L o := by
  obtain ⟨ρ', q1, q2, q3, q4, q5⟩ := aB_norm hG.1 hf
  have h : some [(pc + len, (anorm n rg f).1, (anorm n rg f).2.1, cs, alo, .inl (anorm n rg f).2.2 :: ast, tc, cB, sB)] = some L := h
  cases h
  exact aOk_mk ho (kStp.rf hT) List.mem_cons_self ρ' q1 q2 ⟨q3, aLo_up q1 q2 hG.2.1, ⟨⟨q4, by rw [q5, hx]⟩, aSt_up q1 q2 _ _ hG.2.2.1⟩, tcR_up q1 q2 hG.2.2.2⟩
theorem s_int (hT : kTW E w) (hG : aG E ph ρ n rg cs alo ast tc cB sB lo st w c s) {x : Int32} {l h0 : Int} (h1 : l ≤ x.toInt) (h2 : x.toInt ≤ h0) {len : Nat} {o : Option KF} (ho : o = some (pc + len, lo, .inl (.int x) :: st, w, c, s)) (h : aint len l h0 pc n rg cs alo ast tc cB sB = some L) : aOk E ms ph ρ n w L o := by
  obtain ⟨ρ', q1, q2, q3⟩ := aB_up hG.1 h1 h2
  cases h
  exact aOk_mk ho (kStp.rf hT) List.mem_cons_self ρ' q1 (Nat.le_succ n) ⟨q3, aLo_up q1 (Nat.le_succ n) hG.2.1, ⟨⟨lwf_v (Nat.lt_succ_self n), by rw [lev_v, q2, i32_to]⟩, aSt_up q1 (Nat.le_succ n) _ _ hG.2.2.1⟩, tcR_up q1 (Nat.le_succ n) hG.2.2.2⟩
theorem s_any (hT : kTW E w) (hG : aG E ph ρ n rg cs alo ast tc cB sB lo st w c s) {x : Int32} {len : Nat} {o : Option KF} (ho : o = some (pc + len, lo, .inl (.int x) :: st, w, c, s)) (h : aint len (-2147483648) 2147483647 pc n rg cs alo ast tc cB sB = some L) : aOk E ms ph ρ n w L o := s_int hT hG (i32_lo x) (i32_hi x) ho h
theorem s_const (hT : kTW E w) (hG : aG E ph ρ n rg cs alo ast tc cB sB lo st w c s) {x : Int32} {len : Nat} {o : Option KF} (ho : o = some (pc + len, lo, .inl (.int x) :: st, w, c, s)) (hL : some [(pc + len, n, rg, cs, alo, .inl (lfc x.toInt) :: ast, tc, cB, sB)] = some L) : aOk E ms ph ρ n w L o :=
  s_push hT hG (a := .inl (lfc x.toInt)) (v := .inl (.int x)) ⟨lwf_c _ _, by rw [lev_c, i32_to]⟩ ho hL
theorem s_op2 (hT : kTW E w) (hG : aG E ph ρ n rg cs alo ast tc cB sB lo st w c s) {k : Nat} {f : Int32 → Int32 → Int32} (h0 : k = 0 → ∀ a b, f a b = a + b) (h1 : k = 1 → ∀ a b, f a b = a - b) (h2 : k = 2 → ∀ a b, f a b = a * b) (h3 : k = 3 → ∀ a b, f a b = a &&& b) (h4 : k = 4 → ∀ a b : Int32, f a b = (a.toUInt32 >>> (b.toUInt32 &&& Int32.toUInt32 31)).toInt32) {o : Option KF} (ho : ∀ x y rest, st = .inl (.int y) :: .inl (.int x) :: rest → o = some (pc + 1, lo, .inl (.int (f x y)) :: rest, w, c, s)) (h : aop2 k f pc n rg cs alo ast tc cB sB = some L) : aOk E ms ph ρ n w L o := by
  unfold aop2 at h
  split at h
  · rename_i y x rest
    obtain ⟨vy, r, rfl, hy, hS⟩ := aSt_cons hG.2.2.1
    obtain ⟨vx, r, rfl, hx, hS2⟩ := aSt_cons hS
    replace hS := hS2
    have ey := hy.2
    have ex := hx.2
    subst ey
    subst ex
    have ho := ho _ _ _ rfl
    have hG' : aG E ph ρ n rg cs alo rest tc cB sB lo r w c s := ⟨hG.1, hG.2.1, hS, hG.2.2.2⟩
    split at h
    · rename_i e1 e2
      rw [lev_k ρ e1, lev_k ρ e2] at ho
      exact s_const hT hG' ho h
    · split at h
      · refine s_form hT hG' (lwf_add hx.1 hy.1) ?_ ho h
        rw [h0 rfl, lev_add, Int32.ofInt_add]
      · refine s_form hT hG' (lwf_sub hx.1 hy.1) ?_ ho h
        rw [h1 rfl, lev_sub, Int32.ofInt_sub]
      · split at h
        · rename_i e2
          refine s_form hT hG' (lwf_mul hx.1) ?_ ho h
          rw [h2 rfl, lev_mul, Int32.ofInt_mul, lev_k ρ e2, Int32.mul_comm]
        · split at h
          · rename_i e1
            refine s_form hT hG' (lwf_mul hy.1) ?_ ho h
            rw [h2 rfl, lev_mul, Int32.ofInt_mul, lev_k ρ e1]
          · exact s_any hT hG' ho h
      · split at h
        · rename_i e2
          cases hb : ile 0 y.1 && ile y.1 2147483647 with
          | true =>
            rw [hb] at h
            have hb := Bool.and_eq_true_iff.mp hb
            have q := i32_and (x := Int32.ofInt (lev ρ x)) (ile_ok hb.1) (ile_ok hb.2)
            rw [h3 rfl, lev_k ρ e2] at ho
            exact s_int hT hG' q.1 q.2 ho h
          | false =>
            rw [hb] at h
            exact s_any hT hG' ho h
        · exact s_any hT hG' ho h
      · split at h
        · rename_i e2
          cases hb : ile 1 y.1 && ile y.1 31 with
          | true =>
            rw [hb] at h
            have hb := Bool.and_eq_true_iff.mp hb
            have q := i32_ushr (Int32.ofInt (lev ρ x)) (ile_ok hb.1) (ile_ok hb.2)
            rw [h4 rfl, lev_k ρ e2] at ho
            exact s_int hT hG' q.1 q.2 ho h
          | false =>
            rw [hb] at h
            exact s_any hT hG' ho h
        · exact s_any hT hG' ho h
      · exact s_any hT hG' ho h
  · cases h
theorem s_op1 (hT : kTW E w) (hG : aG E ph ρ n rg cs alo ast tc cB sB lo st w c s) {f : Int32 → Int32} {o : Option KF} (ho : ∀ x rest, st = .inl (.int x) :: rest → o = some (pc + 1, lo, .inl (.int (f x)) :: rest, w, c, s)) (h : aop1 f pc n rg cs alo ast tc cB sB = some L) : aOk E ms ph ρ n w L o := by
  unfold aop1 at h
  split at h
  · rename_i x rest
    obtain ⟨vx, r, rfl, hx, hS⟩ := aSt_cons hG.2.2.1
    have ex := hx.2
    subst ex
    have ho := ho _ _ rfl
    have hG' : aG E ph ρ n rg cs alo rest tc cB sB lo r w c s := ⟨hG.1, hG.2.1, hS, hG.2.2.2⟩
    split at h
    · rename_i e1
      rw [lev_k ρ e1] at ho
      exact s_const hT hG' ho h
    · exact s_any hT hG' ho h
  · cases h
theorem s_neg (hT : kTW E w) {f : LF} {rest : List AV} (hG : aG E ph ρ n rg cs alo (.inl f :: rest) tc cB sB lo st w c s) (h : aform 1 (lfneg f) pc n rg cs alo rest tc cB sB = some L) : aOk E ms ph ρ n w L (kun (fun a => -a) pc lo st w c s) := by
  obtain ⟨vx, r, rfl, hx, hS⟩ := aSt_cons hG.2.2.1
  have ex := hx.2
  subst ex
  have hG' : aG E ph ρ n rg cs alo rest tc cB sB lo r w c s := ⟨hG.1, hG.2.1, hS, hG.2.2.2⟩
  exact s_form hT hG' (lwf_neg hx.1) (x := - Int32.ofInt (lev ρ f)) (by rw [lev_neg, Int32.ofInt_neg]) rfl h
theorem s_rem (hT : kTW E w) (hG : aG E ph ρ n rg cs alo ast tc cB sB lo st w c s) (h : arem pc n rg cs alo ast tc cB sB = some L) : aOk E ms ph ρ n w L (krem pc lo st w c s) := by
  unfold arem at h
  split at h
  · rename_i y x rest
    obtain ⟨vy, r, rfl, hy, hS⟩ := aSt_cons hG.2.2.1
    obtain ⟨vx, r, rfl, hx, hS2⟩ := aSt_cons hS
    replace hS := hS2
    have ey := hy.2
    have ex := hx.2
    subst ey
    subst ex
    obtain ⟨hb, h⟩ := kcond_inv h
    have hb := Bool.and_eq_true_iff.mp hb
    have hb2 := Bool.and_eq_true_iff.mp hb.2
    have bx := l32_ok hG.1.2.1 hb.1
    have by0 := l32_ok hG.1.2.1 hb2.1
    have b1 := lle_ok hG.1.2.1 hG.1.2.2.1 hb2.2
    rw [lev_add, lev_neg, lev_c] at b1
    have hG' : aG E ph ρ n rg cs alo rest tc cB sB lo r w c s := ⟨hG.1, hG.2.1, hS, hG.2.2.2⟩
    have hne : decide (Int32.ofInt (lev ρ y) = 0) = false := decide_eq_false (i32_rem (a := 0) (by omega) (by omega) (b := lev ρ y) (by omega) (by omega)).1
    have ho : krem pc lo (.inl (.int (Int32.ofInt (lev ρ y))) :: .inl (.int (Int32.ofInt (lev ρ x))) :: r) w c s = some (pc + 1, lo, .inl (.int (Int32.ofInt (lev ρ x) - Int32.ofInt (lev ρ x) / Int32.ofInt (lev ρ y) * Int32.ofInt (lev ρ y))) :: r, w, c, s) := by
      unfold krem
      simp only
      rw [hne]
      rfl
    cases hx0 : lle rg cs (lfneg x) with
    | true =>
      rw [hx0] at h
      simp only [cond_true] at h
      have b2 := lle_ok hG.1.2.1 hG.1.2.2.1 hx0
      rw [lev_neg] at b2
      split at h
      · rename_i b hb
        have b3 := lub_ok hG.1.2.1 hb
        obtain ⟨-, z, e, z1, z2⟩ := i32_rem (a := lev ρ x) (by omega) (by omega) (b := lev ρ y) (by omega) (by omega)
        rw [e] at ho
        obtain ⟨ρ', q1, q2, q3⟩ := aB_up hG.1 (lo := 0) (hi := b - 1) (z := z) z1 (by omega)
        have q4 : aB (n + 1) ((n, (0, b - 1)) :: rg) (lfadd (lfadd y (lfneg (lfv n))) (lfc (-1)) :: cs) cB sB ρ' c s := by
          refine ⟨q3.1, q3.2.1, ?_, q3.2.2.2⟩
          intro f hf
          cases hf with
          | head =>
            refine ⟨lwf_add (lwf_add (lwf_up hy.1 (Nat.le_succ n)) (lwf_neg (lwf_v (Nat.lt_succ_self n)))) (lwf_c _ _), ?_⟩
            rw [lev_add, lev_add, lev_neg, lev_v, lev_c, q2, lev_ag q1 hy.1]
            omega
          | tail _ hf => exact q3.2.2.1 f hf
        cases h
        exact aOk_mk ho (kStp.rf hT) List.mem_cons_self ρ' q1 (Nat.le_succ n) ⟨q4, aLo_up q1 (Nat.le_succ n) hG.2.1, ⟨⟨lwf_v (Nat.lt_succ_self n), by rw [lev_v, q2]⟩, aSt_up q1 (Nat.le_succ n) _ _ hS⟩, tcR_up q1 (Nat.le_succ n) hG.2.2.2⟩
      · cases h
    | false =>
      rw [hx0] at h
      exact s_any hT hG' ho h
  · cases h
/-- a state behind a fact -/
theorem s_fact (hT : kTW E w) (hG : aG E ph ρ n rg cs alo ast tc cB sB lo st w c s) {d : LF} (hd : lwf n d) {k : Nat} (hk : aHo k (lev ρ d)) {o : Option KF} (ho : o = some (pc, lo, st, w, c, s)) (hm : ∀ q ∈ aone pc n (aas k d rg cs) alo ast tc cB sB, q ∈ L) : aOk E ms ph ρ n w L o := by
  obtain ⟨q, h1, h2⟩ := aas_ok hG.1 hd hk
  rw [h1] at hm
  exact aOk_mk ho (kStp.rf hT) (hm _ List.mem_cons_self) ρ (fun _ _ => rfl) (Nat.le_refl _) ⟨h2, hG.2⟩
theorem s_br (hT : kTW E w) {x y : LF} (hG : aG E ph ρ n rg cs alo ast tc cB sB lo st w c s) (hx : lwf n x) (hy : lwf n y) {cnd : Jvm.ClassFile.Cond} {off : Int} {rgk : List (Int × Int)} {o : Option KF} (ho : o = kbr (ktg pc off) (kcond rgk cnd (.inl (.int (Int32.ofInt (lev ρ x)))) (.inl (.int (Int32.ofInt (lev ρ y))))) pc lo st w c s) (h : abr cnd off x y pc n rg cs alo ast tc cB sB = some L) : aOk E ms ph ρ n w L o := by
  unfold abr at h
  unfold kbr at ho
  split at h
  · rename_i t ht
    rw [ht] at ho
    simp only at ho
    cases hb : l32 rg x && l32 rg y with
    | true =>
      rw [hb] at h
      have hb := Bool.and_eq_true_iff.mp hb
      have bx := l32_ok hG.1.2.1 hb.1
      have by0 := l32_ok hG.1.2.1 hb.2
      have h : some (aone t n (aas (acT cnd) (lfsub x y) rg cs) alo ast tc cB sB ++ aone (pc + 3) n (aas (acF cnd) (lfsub x y) rg cs) alo ast tc cB sB) = some L := h
      cases h
      rcases kcond_int rgk cnd bx.1 bx.2 by0.1 by0.2 with ⟨e, hk⟩ | ⟨e, hk⟩
      · rw [e] at ho
        rw [← lev_sub] at hk
        exact s_fact hT hG (lwf_sub hx hy) hk ho (fun q hq => List.mem_append_left _ hq)
      · rw [e] at ho
        rw [← lev_sub] at hk
        exact s_fact hT hG (lwf_sub hx hy) hk ho (fun q hq => List.mem_append_right _ hq)
    | false =>
      rw [hb] at h
      have h : some [(t, n, rg, cs, alo, ast, tc, cB, sB), (pc + 3, n, rg, cs, alo, ast, tc, cB, sB)] = some L := h
      cases h
      obtain ⟨b, e⟩ := kcond_any rgk cnd (Int32.ofInt (lev ρ x)) (Int32.ofInt (lev ρ y))
      rw [e] at ho
      cases b with
      | true => exact aOk_mk ho (kStp.rf hT) List.mem_cons_self ρ (fun _ _ => rfl) (Nat.le_refl _) hG
      | false => exact aOk_mk ho (kStp.rf hT) (List.mem_cons_of_mem _ List.mem_cons_self) ρ (fun _ _ => rfl) (Nat.le_refl _) hG
  · cases h
end SOK1
