/-! More steps that leave the cells alone. -/
/-- labels below E.1 are the cells'; outside: the words' row's elements are of kind 30, all else of kind 31 -/
def kEok (E : TEnv) : Prop := E.1 < 1000000 ∧ (∀ a, a < E.1 → E.2.1 a < 60) ∧ ∀ a, E.1 ≤ a → (E.2.1 a = 60 ∧ 1000100 ≤ a ∧ a ≤ 1000129) ∨ E.2.1 a = 61
section SOK2
variable {E : TEnv} {ms : MOD} {ph : PHI} {n pc c s : Nat} {rg : RG} {cs : List LF} {alo : List (Nat × AV)} {ast : List AV} {tc : TC} {cB sB : LF} {ρ : Nat → Int} {lo : List (Nat × KV)} {st : List KV} {w : KW} {L : List (Nat × AS)}
theorem aswc_ok {f : LF} : ∀ (offs : List Int) (z : Int) (L : List (Nat × AS)), aswc f pc n rg cs alo ast tc cB sB z offs = some L → ∀ x : Int, z ≤ x → x < z + (offs.length : Int) → ∃ off t, offs[(x - z).toNat]? = some off ∧ ktg pc off = some t ∧ ∀ q ∈ aone t n (aas 0 (lfadd f (lfc (- x))) rg cs) alo ast tc cB sB, q ∈ L := by
  intro offs
  induction offs with
  | nil => intro z L _ x h1 h2; simp at h2; omega
  | cons off l ih =>
    intro z L h x h1 h2
    rw [List.length_cons] at h2
    unfold aswc at h
    split at h
    · rename_i t L' ht hL
      cases h
      by_cases e : x = z
      · subst e
        refine ⟨off, t, ?_, ht, fun q hq => List.mem_append_left _ hq⟩
        rw [show (x - x).toNat = 0 by omega]
        rfl
      · obtain ⟨o2, t2, q1, q2, q3⟩ := ih (z + 1) L' hL x (by omega) (by omega)
        refine ⟨o2, t2, ?_, q2, fun q hq => List.mem_append_right _ (q3 q hq)⟩
        rw [show (x - z).toNat = (x - (z + 1)).toNat + 1 by omega, List.getElem?_cons_succ]
        exact q1
    · cases h
theorem s_sw (hT : kTW E w) (hG : aG E ph ρ n rg cs alo ast tc cB sB lo st w c s) {dflt lw hg : Int} {offs : Array Int} {rgk : List (Int × Int)} (h : asw dflt lw hg offs.toList pc n rg cs alo ast tc cB sB = some L) : aOk E ms ph ρ n w L (ksw rgk dflt lw hg offs pc lo st w c s) := by
  unfold asw at h
  split at h
  · rename_i f rest
    obtain ⟨vx, r, rfl, hx, hS⟩ := aSt_cons hG.2.2.1
    have ex := hx.2
    subst ex
    have hG' : aG E ph ρ n rg cs alo rest tc cB sB lo r w c s := ⟨hG.1, hG.2.1, hS, hG.2.2.2⟩
    obtain ⟨hb, h⟩ := kcond_inv h
    have hb := Bool.and_eq_true_iff.mp hb
    have bx := l32_ok hG.1.2.1 hb.1
    have hl := of_decide_eq_true hb.2
    split at h
    · rename_i t L' ht hL
      have ho : ksw rgk dflt lw hg offs pc lo (.inl (.int (Int32.ofInt (lev ρ f))) :: r) w c s = (bif decide (lev ρ f < lw) || decide (hg < lev ρ f) then some (t, lo, r, w, c, s) else (match offs.toList[(lev ρ f - lw).toNat]? with
        | some off => match ktg pc off with
          | some t => some (t, lo, r, w, c, s)
          | none => none
        | none => none)) := by
        unfold ksw
        simp only
        rw [krg_int]
        simp only
        rw [i32_of bx.1 bx.2, ht]
        simp only
        simp only [decide_true, cond_true]
        rfl
      cases h
      by_cases h1 : lev ρ f < lw
      · rw [decide_eq_true h1] at ho
        refine s_fact hT hG' (lwf_add hx.1 (lwf_c n (- lw))) (k := 3) ?_ ho (fun q hq => List.mem_append_left _ hq)
        show lev ρ (lfadd f (lfc (- lw))) < 0
        rw [lev_add, lev_c]
        omega
      · by_cases h2 : hg < lev ρ f
        · rw [decide_eq_true h2, Bool.or_true] at ho
          refine s_fact hT hG' (lwf_add hx.1 (lwf_c n (- hg))) (k := 4) ?_ ho (fun q hq => List.mem_append_right _ (List.mem_append_left _ hq))
          show 0 < lev ρ (lfadd f (lfc (- hg)))
          rw [lev_add, lev_c]
          omega
        · rw [decide_eq_false h1, decide_eq_false h2] at ho
          obtain ⟨off, t2, q1, q2, q3⟩ := aswc_ok _ _ _ hL (lev ρ f) (by omega) (by omega)
          rw [q1] at ho
          simp only [q2, Bool.or_false, cond_false] at ho
          refine s_fact hT hG' (lwf_add hx.1 (lwf_c n (- lev ρ f))) (k := 0) ?_ ho (fun q hq => List.mem_append_right _ (List.mem_append_right _ (q3 q hq)))
          show lev ρ (lfadd f (lfc (- lev ρ f))) = 0
          rw [lev_add, lev_c]
          omega
    · cases h
  · cases h
theorem aword_ok (hE : kEok E) {a : AV} {v : KV} (h : aword a = true) (hr : aR E n ρ a v) : krf v = some none ∨ ∃ i, krf v = some (some i) ∧ 1000000 ≤ i := by
  rcases a with f | ⟨q1, q2⟩
  · cases h
  · have big : ∀ a, kokN E.1 a = true → 60 ≤ E.2.1 a → 1000000 ≤ a := fun a h1 h2 => by
      rcases kokN_p h1 with h3 | h3
      · have := hE.2.1 a h3
        omega
      · exact h3
    unfold aword at h
    simp only at h
    split at h
    · obtain ⟨rfl, h2⟩ := (vOK2 (t := (2, (q2 : Int), 0)) rfl).mp hr.2
      exact Or.inr ⟨_, rfl, Nat.ble_eq.mp h⟩
    · obtain ⟨x, rfl, h1, h2⟩ := (vOK3 (t := (3, (q2 : Int), 0)) rfl).mp hr.2
      have h2 : E.2.1 x = q2 := h2
      exact Or.inr ⟨x, rfl, big x h1 (by rw [h2]; exact Nat.ble_eq.mp h)⟩
    · rcases (vOK4 (t := (4, (q2 : Int), 0)) rfl).mp hr.2 with rfl | ⟨x, rfl, h1, h2⟩
      · exact Or.inl rfl
      · have h2 : E.2.1 x = q2 := h2
        exact Or.inr ⟨x, rfl, big x h1 (by rw [h2]; exact Nat.ble_eq.mp h)⟩
    · rw [(vOK5 (t := (5, (q2 : Int), 0)) rfl).mp hr.2]
      exact Or.inl rfl
    · cases h
theorem s_acmp (hE : kEok E) (hT : kTW E w) (hG : aG E ph ρ n rg cs alo ast tc cB sB lo st w c s) {er : Nat → Nat → Bool} {cnd : Jvm.ClassFile.ACond} {off : Int} (h : aacmp off pc n rg cs alo ast tc cB sB = some L) : aOk E ms ph ρ n w L (kxacmp er cnd off pc lo st w c s) := by
  unfold aacmp at h
  split at h
  · rename_i y x rest
    obtain ⟨vy, r, rfl, hy, hS⟩ := aSt_cons hG.2.2.1
    obtain ⟨vx, r, rfl, hx, hS2⟩ := aSt_cons hS
    obtain ⟨hb, h⟩ := kcond_inv h
    have hb := Bool.and_eq_true_iff.mp hb
    split at h
    · rename_i t ht
      cases h
      have hq : ∃ b, kxreq er vx vy = some b := by
        unfold kxreq
        rcases aword_ok hE hb.1 hx with e1 | ⟨i, e1, hi⟩ <;> rcases aword_ok hE hb.2 hy with e2 | ⟨j, e2, hj⟩ <;> rw [e1, e2] <;> simp only
        · exact ⟨_, rfl⟩
        · exact ⟨_, rfl⟩
        · exact ⟨_, rfl⟩
        · rw [show Nat.ble 1000000 i = true from Nat.ble_eq.mpr hi, show Nat.ble 1000000 j = true from Nat.ble_eq.mpr hj]
          cases Nat.beq i j <;> exact ⟨_, rfl⟩
      have hG' : aG E ph ρ n rg cs alo rest tc cB sB lo r w c s := ⟨hG.1, hG.2.1, hS2, hG.2.2.2⟩
      have fin : ∀ b, aOk E ms ph ρ n w [(t, n, rg, cs, alo, rest, tc, cB, sB), (pc + 3, n, rg, cs, alo, rest, tc, cB, sB)] (kbr (ktg pc off) (some b) pc lo r w c s) := fun b => by
        unfold kbr
        rw [ht]
        cases b with
        | true => exact aOk_mk rfl (kStp.rf hT) List.mem_cons_self ρ (fun _ _ => rfl) (Nat.le_refl _) hG'
        | false => exact aOk_mk rfl (kStp.rf hT) (List.mem_cons_of_mem _ List.mem_cons_self) ρ (fun _ _ => rfl) (Nat.le_refl _) hG'
      obtain ⟨b, hq⟩ := hq
      unfold kxacmp
      simp only
      cases cnd <;> simp only [hq, Option.map_some] <;> exact fin _
    · cases h
  · cases h
theorem s_ifnn (hT : kTW E w) (hG : aG E ph ρ n rg cs alo ast tc cB sB lo st w c s) {off : Int} (h : aifnn off pc n rg cs alo ast tc cB sB = some L) : aOk E ms ph ρ n w L (kifnn off pc lo st w c s) := by
  unfold aifnn at h
  split at h
  · rename_i x rest
    obtain ⟨vx, r, rfl, hx, hS⟩ := aSt_cons hG.2.2.1
    obtain ⟨hb, h⟩ := kcond_inv h
    have hG' : aG E ph ρ n rg cs alo rest tc cB sB lo r w c s := ⟨hG.1, hG.2.1, hS, hG.2.2.2⟩
    split at h
    · rename_i t ht
      cases h
      unfold kifnn
      simp only
      rcases aisQ_ok hb hx with rfl | ⟨i, rfl⟩
      · exact aOk_mk rfl (kStp.rf hT) (List.mem_cons_of_mem _ List.mem_cons_self) ρ (fun _ _ => rfl) (Nat.le_refl _) hG'
      · refine aOk_mk ?_ (kStp.rf hT) List.mem_cons_self ρ (fun _ _ => rfl) (Nat.le_refl _) hG'
        rw [ht]
        rfl
    · cases h
  · cases h
theorem aR1_long {q : Nat} {v : KV} (h : aR E n ρ (.inr (1, q)) v) : ∃ x, v = .inl (.long x) ∧ lOK q x := (vOK1 (t := (1, (q : Int), 0)) rfl).mp h.2
theorem aR_longE (m : Nat) {x : Int64} (h : lOK m x) : aR E n ρ (.inr (1, m)) (.inl (.long x)) := ⟨fun h => (nomatch h), (vOK1 (t := (1, (m : Int), 0)) rfl).mpr ⟨x, rfl, h⟩⟩
theorem aR_long (x : Int64) : aR E n ρ (.inr (1, 0)) (.inl (.long x)) := aR_longE 0 trivial
theorem lOK2 {m : Nat} {x : Int64} (h : lOK m x) (hn : lex m = true) : x = Int64.ofNat (m - 2) := by
  have hn := Bool.and_eq_true_iff.mp hn
  obtain ⟨q, rfl⟩ : ∃ q, m = q + 2 := ⟨m - 2, by have := Nat.ble_eq.mp hn.1; omega⟩
  have h2 : q < lBig := Nat.ble_eq.mp hn.2
  have h : (lBig ≤ q ∧ x.toInt < 27 ^ (q - lBig)) ∨ (q < lBig ∧ x = Int64.ofNat q) := h
  rcases h with h | h
  · omega
  · exact h.2
theorem lenc_ok (m : Nat) : lOK (lenc m) (Int64.ofNat m) := by
  unfold lenc
  cases h : Nat.blt m lBig with
  | true => exact Or.inr ⟨Nat.ble_eq.mp h, rfl⟩
  | false => exact trivial
theorem lOKb {m b : Nat} {x : Int64} (h : lOK m x) (hn : lbd m = some b) : x.toInt < 27 ^ b := by
  obtain ⟨h1, h2⟩ := kcond_inv hn
  have h1 := Nat.ble_eq.mp h1
  have h2 : m - 2 - lBig = b := Option.some.inj h2
  obtain ⟨q, rfl⟩ : ∃ q, m = q + 2 := ⟨m - 2, by omega⟩
  have h : (lBig ≤ q ∧ x.toInt < 27 ^ (q - lBig)) ∨ (q < lBig ∧ x = Int64.ofNat q) := h
  rcases h with h | h
  · rw [show q - lBig = b by omega] at h
    exact h.2
  · omega
theorem lOKi {b : Nat} {x : Int64} (h : x.toInt < 27 ^ b) : lOK (lBig + b + 2) x := by
  refine Or.inl ⟨Nat.le_add_right _ _, ?_⟩
  rw [show lBig + b - lBig = b by omega]
  exact h
theorem tdiv27 (x : Int) : (0 ≤ x ∧ x.tdiv 27 = x / 27) ∨ (x < 0 ∧ x.tdiv 27 = - ((- x) / 27)) := by
  by_cases q : 0 ≤ x
  · exact Or.inl ⟨q, Int.tdiv_eq_ediv_of_nonneg q⟩
  · right
    refine ⟨by omega, ?_⟩
    have h : (- x).tdiv 27 = - (x.tdiv 27) := Int.neg_tdiv x 27
    have h2 : (- x).tdiv 27 = (- x) / 27 := Int.tdiv_eq_ediv_of_nonneg (by omega)
    omega
theorem div27 {x : Int64} : (x / Int64.ofNat 27).toInt = x.toInt.tdiv 27 := by
  rw [Int64.toInt_div]
  have h1 := Int64.le_toInt x
  have h2 := Int64.toInt_lt x
  have e : (Int64.ofNat 27).toInt = 27 := rfl
  rw [e]
  have h3 := tdiv27 x.toInt
  exact Int.bmod_eq_of_le (by omega) (by omega)
theorem s_ldv (hT : kTW E w) (hG : aG E ph ρ n rg cs alo ast tc cB sB lo st w c s) (h : aldv pc n rg cs alo ast tc cB sB = some L) : aOk E ms ph ρ n w L (kdvL (fun a b => a / b) pc lo st w c s) := by
  unfold aldv at h
  split at h
  · rename_i x rest
    obtain ⟨vy, r, rfl, hy, hS⟩ := aSt_cons hG.2.2.1
    obtain ⟨vx, r, rfl, hx, hS2⟩ := aSt_cons hS
    obtain ⟨yv, rfl, ly⟩ := aR1_long hy
    obtain ⟨xv, rfl, lx⟩ := aR1_long hx
    have ey : yv = Int64.ofNat 27 := lOK2 ly (by decide)
    subst ey
    refine s_push hT (len := 1) (v := .inl (.long (xv / Int64.ofNat 27))) ⟨hG.1, hG.2.1, hS2, hG.2.2.2⟩ (aR_longE _ ?_) rfl h
    cases hb : lex x && Nat.blt (x - 2) 9223372036854775808 with
    | true =>
      have hb := Bool.and_eq_true_iff.mp hb
      have ex := lOK2 lx hb.1
      have hl : x - 2 < 9223372036854775808 := Nat.ble_eq.mp hb.2
      have e : xv / Int64.ofNat 27 = Int64.ofNat ((x - 2) / 27) := by
        rw [ex]
        apply Int64.toInt_inj.mp
        rw [div27, Int64.toInt_ofNat_of_lt hl, Int64.toInt_ofNat_of_lt (by omega)]
        have h3 := tdiv27 ((x - 2 : Nat) : Int)
        omega
      rw [e]
      exact lenc_ok _
    | false =>
      simp only [cond_false]
      have h3 := tdiv27 xv.toInt
      split
      · rename_i b hbd
        have h4 := lOKb lx hbd
        refine lOKi ?_
        rw [div27]
        rw [Int.pow_succ] at h4
        have h0 : (0 : Int) < 27 ^ b := Int.pow_pos (by decide)
        omega
      · refine lOKi ?_
        rw [div27]
        have : (27 : Int) ^ 13 = 4052555153018976267 := by decide
        have := Int64.toInt_lt xv
        omega
  · cases h
theorem s_lrm (hT : kTW E w) (hG : aG E ph ρ n rg cs alo ast tc cB sB lo st w c s) (h : alrm pc n rg cs alo ast tc cB sB = some L) : aOk E ms ph ρ n w L (kdvL (fun a b => a - a / b * b) pc lo st w c s) := by
  unfold alrm at h
  split at h
  · rename_i x rest
    obtain ⟨vy, r, rfl, hy, hS⟩ := aSt_cons hG.2.2.1
    obtain ⟨vx, r, rfl, hx, hS2⟩ := aSt_cons hS
    obtain ⟨yv, rfl, ly⟩ := aR1_long hy
    obtain ⟨xv, rfl, lx⟩ := aR1_long hx
    have ey : yv = Int64.ofNat 27 := lOK2 ly (by decide)
    subst ey
    exact s_push hT (len := 1) (v := .inl (.long (xv - xv / Int64.ofNat 27 * Int64.ofNat 27))) ⟨hG.1, hG.2.1, hS2, hG.2.2.2⟩ (aR_long _) rfl h
  · cases h
theorem aLB_ok {x y : Nat} {xv yv : Int64} (h : aLB x y = true) (lx : lOK x xv) (ly : lOK y yv) : lg_cmp xv yv = -1 := by
  unfold aLB at h
  split at h
  · rename_i b hb
    simp only [Bool.and_eq_true] at h
    obtain ⟨h1, h2, h3⟩ := h
    have ey := lOK2 ly h1
    have h4 := lOKb lx hb
    have h2 := Nat.ble_eq.mp h2
    have h3 : y - 2 < 9223372036854775808 := Nat.ble_eq.mp h3
    have e : yv.toInt = ((y - 2 : Nat) : Int) := by rw [ey, Int64.toInt_ofNat_of_lt h3]
    have e2 : ((27 ^ b : Nat) : Int) = (27 : Int) ^ b := by rw [Int.natCast_pow]; rfl
    have lt : xv.toInt < yv.toInt := by omega
    unfold lg_cmp
    rw [if_neg (fun q => by have := Int64.lt_iff_toInt_lt.mp q; omega), if_neg (fun q => by rw [q] at lt; omega)]
  · cases h
theorem lg_ne {x y : Int64} (h : x ≠ y) : lg_cmp x y = 1 ∨ lg_cmp x y = -1 := by
  unfold lg_cmp
  by_cases q : x > y
  · rw [if_pos q]; exact Or.inl rfl
  · rw [if_neg q, if_neg h]; exact Or.inr rfl
theorem s_L2 (hT : kTW E w) (hG : aG E ph ρ n rg cs alo ast tc cB sB lo st w c s) {k : Nat} {f : Int64 → Int64 → Int64} (h0 : k = 0 → ∀ a b, f a b = a + b) (h1 : k = 1 → ∀ a b, f a b = a - b) (h2 : k = 2 → ∀ a b, f a b = a * b) (h : aL2 k pc n rg cs alo ast tc cB sB = some L) : aOk E ms ph ρ n w L (kbinL f pc lo st w c s) := by
  unfold aL2 at h
  split at h
  · rename_i y x rest
    obtain ⟨vy, r, rfl, hy, hS⟩ := aSt_cons hG.2.2.1
    obtain ⟨vx, r, rfl, hx, hS2⟩ := aSt_cons hS
    obtain ⟨yv, rfl, ly⟩ := aR1_long hy
    obtain ⟨xv, rfl, lx⟩ := aR1_long hx
    refine s_push hT (len := 1) (v := .inl (.long (f xv yv))) ⟨hG.1, hG.2.1, hS2, hG.2.2.2⟩ (aR_longE _ ?_) rfl h
    cases hb : lex x && lex y with
    | false => exact trivial
    | true =>
      have hb := Bool.and_eq_true_iff.mp hb
      have ex := lOK2 lx hb.1
      have ey := lOK2 ly hb.2
      subst ex ey
      simp only [cond_true]
      split
      · rw [h0 rfl, ← Int64.ofNat_add]
        exact lenc_ok _
      · cases q : Nat.ble y x with
        | true =>
          rw [h1 rfl, ← Int64.ofNat_sub _ _ (by have := Nat.ble_eq.mp q; omega)]
          exact lenc_ok _
        | false => exact trivial
      · rw [h2 rfl, ← Int64.ofNat_mul]
        exact lenc_ok _
      · exact trivial
  · cases h
theorem aLS_ok {x y : Nat} {xv yv : Int64} (h : aLS x y = true) (lx : lOK x xv) (ly : lOK y yv) : xv ≠ yv := by
  unfold aLS at h
  simp only [Bool.and_eq_true] at h
  obtain ⟨h1, h2, h3⟩ := h
  have h1 := kb_t h1
  subst h1
  have ey := lOK2 ly h2
  subst ey
  obtain ⟨z, hz, hz2⟩ := List.any_eq_true.mp h3
  intro q
  have := of_decide_eq_true hz2
  rw [q, ← this] at lx
  exact lx hz
theorem s_cmpL (hT : kTW E w) (hG : aG E ph ρ n rg cs alo ast tc cB sB lo st w c s) (h : acmpL pc n rg cs alo ast tc cB sB = some L) : aOk E ms ph ρ n w L (kcmpL pc lo st w c s) := by
  unfold acmpL at h
  split at h
  · rename_i y x rest
    obtain ⟨vy, r, rfl, hy, hS⟩ := aSt_cons hG.2.2.1
    obtain ⟨vx, r, rfl, hx, hS2⟩ := aSt_cons hS
    obtain ⟨yv, rfl, ly⟩ := aR1_long hy
    obtain ⟨xv, rfl, lx⟩ := aR1_long hx
    cases hb : lex x && lex y with
    | true =>
      rw [hb] at h
      have hb := Bool.and_eq_true_iff.mp hb
      have ex := lOK2 lx hb.1
      have ey := lOK2 ly hb.2
      subst ex ey
      exact s_const hT (len := 1) ⟨hG.1, hG.2.1, hS2, hG.2.2.2⟩ rfl h
    | false =>
      rw [hb] at h
      simp only [cond_false] at h
      cases hl : aLS x y || aLS y x with
      | true =>
        rw [hl] at h
        have ne : xv ≠ yv := by
          rcases Bool.or_eq_true_iff.mp hl with q | q
          · exact aLS_ok q lx ly
          · exact fun z => aLS_ok q ly lx z.symm
        simp only [cond_true] at h
        cases h
        rcases lg_ne ne with e | e
        · refine aOk_mk (o := some (pc + 1, lo, .inl (.int (lg_cmp xv yv)) :: r, w, c, s)) rfl (kStp.rf hT) (List.mem_cons_of_mem _ List.mem_cons_self) ρ (fun _ _ => rfl) (Nat.le_refl _) ⟨hG.1, hG.2.1, ⟨⟨lwf_c _ _, ?_⟩, hS2⟩, hG.2.2.2⟩
          rw [lev_c, e]
          rfl
        · refine aOk_mk (o := some (pc + 1, lo, .inl (.int (lg_cmp xv yv)) :: r, w, c, s)) rfl (kStp.rf hT) List.mem_cons_self ρ (fun _ _ => rfl) (Nat.le_refl _) ⟨hG.1, hG.2.1, ⟨⟨lwf_c _ _, ?_⟩, hS2⟩, hG.2.2.2⟩
          rw [lev_c, e]
          rfl
      | false =>
        rw [hl] at h
        simp only [cond_false] at h
        cases hl2 : aLB x y with
        | true =>
          rw [hl2] at h
          refine s_const hT (len := 1) (x := lg_cmp xv yv) ⟨hG.1, hG.2.1, hS2, hG.2.2.2⟩ rfl ?_
          rw [aLB_ok hl2 lx ly]
          exact h
        | false =>
          rw [hl2] at h
          exact s_any hT (len := 1) ⟨hG.1, hG.2.1, hS2, hG.2.2.2⟩ rfl h
  · cases h
theorem s_lsr (hT : kTW E w) (hG : aG E ph ρ n rg cs alo ast tc cB sB lo st w c s) (h : alsr pc n rg cs alo ast tc cB sB = some L) : aOk E ms ph ρ n w L (klsr pc lo st w c s) := by
  unfold alsr at h
  split at h
  · obtain ⟨vy, r, rfl, hy, hS⟩ := aSt_cons hG.2.2.1
    obtain ⟨vx, r, rfl, hx, hS2⟩ := aSt_cons hS
    have ey := hy.2
    subst ey
    obtain ⟨x, rfl, -⟩ := aR1_long hx
    exact s_push hT ⟨hG.1, hG.2.1, hS2, hG.2.2.2⟩ (aR_long _) rfl h
  · cases h
theorem s_i2l (hT : kTW E w) (hG : aG E ph ρ n rg cs alo ast tc cB sB lo st w c s) (h : ai2l pc n rg cs alo ast tc cB sB = some L) : aOk E ms ph ρ n w L (ki2l pc lo st w c s) := by
  unfold ai2l at h
  split at h
  · rename_i f rest
    obtain ⟨vy, r, rfl, hy, hS⟩ := aSt_cons hG.2.2.1
    have ey := hy.2
    subst ey
    refine s_push hT (len := 1) (v := .inl (.long (Int32.ofInt (lev ρ f)).toInt64)) ⟨hG.1, hG.2.1, hS, hG.2.2.2⟩ (aR_longE _ ?_) rfl h
    split
    · rename_i hf
      cases hb : ile 0 f.1 && ile f.1 2147483647 with
      | false => exact trivial
      | true =>
        have hb := Bool.and_eq_true_iff.mp hb
        have b1 := ile_ok hb.1
        have b2 := ile_ok hb.2
        have e : (Int32.ofInt (lev ρ f)).toInt64 = Int64.ofNat f.1.toNat := by
          rw [lev_k ρ hf]
          apply Int64.toInt_inj.mp
          rw [Int32.toInt_toInt64, i32_of (by omega) b2, Int64.toInt_ofNat_of_lt (by omega)]
          omega
        rw [e]
        exact lenc_ok _
    · exact trivial
  · cases h
theorem s_l2i (hT : kTW E w) (hG : aG E ph ρ n rg cs alo ast tc cB sB lo st w c s) (h : al2i pc n rg cs alo ast tc cB sB = some L) : aOk E ms ph ρ n w L (kl2i pc lo st w c s) := by
  unfold al2i at h
  split at h
  · rename_i x rest
    obtain ⟨vx, r, rfl, hx, hS⟩ := aSt_cons hG.2.2.1
    obtain ⟨xv, rfl, lx⟩ := aR1_long hx
    cases hb : lex x with
    | true =>
      rw [hb] at h
      have ex := lOK2 lx hb
      subst ex
      exact s_const hT (len := 1) ⟨hG.1, hG.2.1, hS, hG.2.2.2⟩ rfl h
    | false =>
      rw [hb] at h
      exact s_any hT (len := 1) ⟨hG.1, hG.2.1, hS, hG.2.2.2⟩ rfl h
  · cases h
/-- a switch by numbers: one of its targets -/
theorem alk_ok {f : LF} {dflt : Int} {x : Int32} (hx : x.toInt = lev ρ f) : ∀ (ps : List (Int × Int)) (L : List (Nat × AS)), alk dflt pc n rg cs alo f ast tc cB sB ps = some L → ∃ t, ktg pc (Op.lookupswitch.offset ps dflt x.toInt) = some t ∧ ((t, n, rg, cs, alo, ast, tc, cB, sB) ∈ L ∨ ∃ d : LF, d = lfadd f (lfc (- x.toInt)) ∧ ∀ q ∈ aone t n (aas 0 d rg cs) alo ast tc cB sB, q ∈ L) := by
  intro ps
  induction ps with
  | nil =>
    intro L h
    unfold alk at h
    split at h
    · rename_i t ht
      cases h
      exact ⟨t, ht, Or.inl List.mem_cons_self⟩
    · cases h
  | cons p l ih =>
    intro L h
    unfold alk at h
    split at h
    · rename_i t L2 ht hL
      cases h
      obtain ⟨p1, p2⟩ := p
      rw [Op.lookupswitch.offset_cons]
      by_cases q : p1 = x.toInt
      · rw [if_pos q]
        refine ⟨t, ht, Or.inr ⟨_, rfl, fun z hz => List.mem_append_left _ ?_⟩⟩
        rw [q]
        exact hz
      · rw [if_neg q]
        obtain ⟨t2, h1, h2⟩ := ih L2 hL
        refine ⟨t2, h1, ?_⟩
        rcases h2 with h2 | ⟨d, h2, h3⟩
        · exact Or.inl (List.mem_append_right _ h2)
        · exact Or.inr ⟨d, h2, fun z hz => List.mem_append_right _ (h3 z hz)⟩
    · cases h
theorem s_lk (hT : kTW E w) {f : LF} {rest : List AV} (hG : aG E ph ρ n rg cs alo (.inl f :: rest) tc cB sB lo st w c s) {dflt : Int} {ps : List (Int × Int)} (hb : l32 rg f = true) (h : alk dflt pc n rg cs alo f rest tc cB sB ps = some L) : aOk E ms ph ρ n w L (klk dflt ps pc lo st w c s) := by
  obtain ⟨vy, r, rfl, hy, hS⟩ := aSt_cons hG.2.2.1
  have ey := hy.2
  subst ey
  have b := l32_ok hG.1.2.1 hb
  have hx := i32_of b.1 b.2
  have hG' : aG E ph ρ n rg cs alo rest tc cB sB lo r w c s := ⟨hG.1, hG.2.1, hS, hG.2.2.2⟩
  obtain ⟨t, h1, h2⟩ := alk_ok hx ps L h
  have ho : klk dflt ps pc lo (.inl (.int (Int32.ofInt (lev ρ f))) :: r) w c s = some (t, lo, r, w, c, s) := by
    unfold klk
    simp only
    rw [h1]
  rcases h2 with h2 | ⟨d, rfl, h3⟩
  · exact aOk_mk ho (kStp.rf hT) h2 ρ (fun _ _ => rfl) (Nat.le_refl _) hG'
  · refine s_fact hT hG' (lwf_add hy.1 (lwf_c _ _)) (k := 0) ?_ ho h3
    show lev ρ (lfadd f (lfc (- (Int32.ofInt (lev ρ f)).toInt))) = 0
    rw [lev_add, lev_c, hx]
    omega
theorem s_room (hG : aG E ph ρ n rg cs alo ast tc cB sB lo st w c s) {Rc Rs : Nat} (h1 : lb0 rg (lfadd cB (lfc (- (Rc : Int)))) = true) (h2 : lb0 rg (lfadd sB (lfc (- (Rs : Int)))) = true) : Nat.ble c Rc = true ∧ Nat.ble s Rs = true := by
  have a := lb0_ok hG.1.2.1 h1
  have b := lb0_ok hG.1.2.1 h2
  rw [lev_add, lev_c] at a b
  have := hG.1.2.2.2.1.2
  have := hG.1.2.2.2.2.2
  exact ⟨Nat.ble_eq.mpr (by omega), Nat.ble_eq.mpr (by omega)⟩
theorem s_mx (hT : kTW E w) (hG : aG E ph ρ n rg cs alo ast tc cB sB lo st w c s) {Rc Rs tk fk : Nat} {o : Option KF} (hk : tk = 4 ∧ fk = 5 ∧ (∀ (x y : Int32) r, st = .inl (.int y) :: .inl (.int x) :: r → Nat.ble c Rc = true → Nat.ble s Rs = true → Nat.ble (kcats r) 8 = true → o = some (pc + 3, lo, (if y < x then .inl (.int y) else .inl (.int x)) :: r, w, c, s)) ∨ tk = 3 ∧ fk = 2 ∧ (∀ (x y : Int32) r, st = .inl (.int y) :: .inl (.int x) :: r → Nat.ble c Rc = true → Nat.ble s Rs = true → Nat.ble (kcats r) 8 = true → o = some (pc + 3, lo, (if x < y then .inl (.int y) else .inl (.int x)) :: r, w, c, s))) (h : amx Rc Rs tk fk pc n rg cs alo ast tc cB sB = some L) : aOk E ms ph ρ n w L o := by
  unfold amx at h
  split at h
  · rename_i y x rest
    obtain ⟨vy, r, rfl, hy, hS⟩ := aSt_cons hG.2.2.1
    obtain ⟨vx, r, rfl, hx, hS2⟩ := aSt_cons hS
    have ey := hy.2
    have ex := hx.2
    subst ey
    subst ex
    obtain ⟨hb, h⟩ := kcond_inv h
    simp only [Bool.and_eq_true] at hb
    obtain ⟨b1, b2, b3, b4, b5⟩ := hb
    have bx := l32_ok hG.1.2.1 b1
    have by0 := l32_ok hG.1.2.1 b2
    obtain ⟨r1, r2⟩ := s_room hG b3 b4
    rw [← (aSt_ok _ _ hS2).2] at b5
    have h : some (aone (pc + 3) n (aas tk (lfsub x y) rg cs) alo (.inl y :: rest) tc cB sB ++ aone (pc + 3) n (aas fk (lfsub x y) rg cs) alo (.inl x :: rest) tc cB sB) = some L := h
    cases h
    have G1 : aG E ph ρ n rg cs alo (.inl y :: rest) tc cB sB lo (.inl (.int (Int32.ofInt (lev ρ y))) :: r) w c s := ⟨hG.1, hG.2.1, ⟨hy, hS2⟩, hG.2.2.2⟩
    have G2 : aG E ph ρ n rg cs alo (.inl x :: rest) tc cB sB lo (.inl (.int (Int32.ofInt (lev ρ x))) :: r) w c s := ⟨hG.1, hG.2.1, ⟨hx, hS2⟩, hG.2.2.2⟩
    rcases hk with ⟨rfl, rfl, hk⟩ | ⟨rfl, rfl, hk⟩
    · have ho := hk _ _ _ rfl r1 r2 b5
      by_cases q : lev ρ y < lev ρ x
      · rw [if_pos ((i32_lt by0.1 by0.2 bx.1 bx.2).mpr q)] at ho
        exact s_fact hT G1 (lwf_sub hx.1 hy.1) (k := 4) (by show 0 < lev ρ (lfsub x y); rw [lev_sub]; omega) ho (fun q hq => List.mem_append_left _ hq)
      · rw [if_neg (fun z => q ((i32_lt by0.1 by0.2 bx.1 bx.2).mp z))] at ho
        exact s_fact hT G2 (lwf_sub hx.1 hy.1) (k := 5) (by show lev ρ (lfsub x y) ≤ 0; rw [lev_sub]; omega) ho (fun q hq => List.mem_append_right _ hq)
    · have ho := hk _ _ _ rfl r1 r2 b5
      by_cases q : lev ρ x < lev ρ y
      · rw [if_pos ((i32_lt bx.1 bx.2 by0.1 by0.2).mpr q)] at ho
        exact s_fact hT G1 (lwf_sub hx.1 hy.1) (k := 3) (by show lev ρ (lfsub x y) < 0; rw [lev_sub]; omega) ho (fun q hq => List.mem_append_left _ hq)
      · rw [if_neg (fun z => q ((i32_lt bx.1 bx.2 by0.1 by0.2).mp z))] at ho
        exact s_fact hT G2 (lwf_sub hx.1 hy.1) (k := 2) (by show 0 ≤ lev ρ (lfsub x y); rw [lev_sub]; omega) ho (fun q hq => List.mem_append_right _ hq)
  · cases h
theorem s_min (hT : kTW E w) (hG : aG E ph ρ n rg cs alo ast tc cB sB lo st w c s) {Rc Rs : Nat} {rgk : List (Int × Int)} (h : amx Rc Rs 4 5 pc n rg cs alo ast tc cB sB = some L) : aOk E ms ph ρ n w L (kmin rgk Rc Rs pc lo st w c s) :=
  s_mx hT hG (Or.inl ⟨rfl, rfl, fun x y r e h1 h2 h3 => by
    subst e
    unfold kmin
    simp only [kisI, h1, h2, h3, Bool.and_self, cond_true, klt_int]
    by_cases q : y < x
    · rw [decide_eq_true q, if_pos q]; rfl
    · rw [decide_eq_false q, if_neg q]; rfl⟩) h
theorem s_max (hT : kTW E w) (hG : aG E ph ρ n rg cs alo ast tc cB sB lo st w c s) {Rc Rs : Nat} {rgk : List (Int × Int)} (h : amx Rc Rs 3 2 pc n rg cs alo ast tc cB sB = some L) : aOk E ms ph ρ n w L (kmax rgk Rc Rs pc lo st w c s) :=
  s_mx hT hG (Or.inr ⟨rfl, rfl, fun x y r e h1 h2 h3 => by
    subst e
    unfold kmax
    simp only [h1, h2, h3, Bool.and_self, cond_true]
    by_cases q : x < y
    · rw [if_pos q, if_pos q]
    · rw [if_neg q, if_neg q]⟩) h
theorem s_abs (hT : kTW E w) (hG : aG E ph ρ n rg cs alo ast tc cB sB lo st w c s) {Rc Rs : Nat} (h : aabs Rc Rs pc n rg cs alo ast tc cB sB = some L) : aOk E ms ph ρ n w L (kabs Rc Rs pc lo st w c s) := by
  unfold aabs at h
  split at h
  · rename_i x rest
    obtain ⟨vx, r, rfl, hx, hS⟩ := aSt_cons hG.2.2.1
    have ex := hx.2
    subst ex
    obtain ⟨hb, h⟩ := kcond_inv h
    simp only [Bool.and_eq_true] at hb
    obtain ⟨b1, b3, b4, b5⟩ := hb
    obtain ⟨r1, r2⟩ := s_room hG b3 b4
    rw [← (aSt_ok _ _ hS).2] at b5
    refine s_any hT (x := if 0 ≤ Int32.ofInt (lev ρ x) then Int32.ofInt (lev ρ x) else 0 - Int32.ofInt (lev ρ x)) ⟨hG.1, hG.2.1, hS, hG.2.2.2⟩ ?_ h
    unfold kabs
    simp only [r1, r2, b5, Bool.and_self, cond_true]
  · cases h
theorem aidx_ok (hG : aB n rg cs cB sB ρ c s) {f : LF} {m : Nat} {l h : Int} (hi : aidx rg cs f m = some (l, h)) : 0 ≤ lev ρ f ∧ lev ρ f ≤ 2147483647 ∧ lev ρ f < (m : Int) ∧ l ≤ lev ρ f ∧ lev ρ f ≤ h := by
  unfold aidx at hi
  split at hi
  · rename_i b a hb ha
    obtain ⟨q, hi⟩ := kcond_inv hi
    simp only [Bool.and_eq_true] at q
    obtain ⟨q1, q2, q3⟩ := q
    have b1 := l32_ok hG.2.1 q1
    have b2 := lle_ok hG.2.1 hG.2.2.1 q2
    have b3 := lle_ok hG.2.1 hG.2.2.1 q3
    have b4 := lub_ok hG.2.1 hb
    have b5 := lub_ok hG.2.1 ha
    rw [lev_neg] at b2 b5
    rw [lev_add, lev_c] at b3
    cases hi
    refine ⟨by omega, b1.2, by omega, ?_, ?_⟩
    · exact kcnd_p (P := fun z => z ≤ lev ρ f) (by omega) (by omega)
    · exact kcnd_p (P := fun z => lev ρ f ≤ z) b4 (by omega)
  · cases hi
theorem s_slen (hT : kTW E w) (hG : aG E ph ρ n rg cs alo ast tc cB sB lo st w c s) {Rc Rs : Nat} (h : asln Rc Rs pc n rg cs alo ast tc cB sB = some L) : aOk E ms ph ρ n w L (kslen Rc Rs pc lo st w c s) := by
  unfold asln at h
  split at h
  · rename_i a rest
    obtain ⟨vx, r, rfl, hx, hS⟩ := aSt_cons hG.2.2.1
    obtain ⟨rfl, -⟩ := (vOK2 (t := (2, (a : Int), 0)) rfl).mp hx.2
    split at h
    · rename_i l hl
      obtain ⟨hb, h⟩ := kcond_inv h
      simp only [Bool.and_eq_true] at hb
      obtain ⟨b3, b4, b5, b6⟩ := hb
      obtain ⟨r1, r2⟩ := s_room hG b3 b4
      rw [← (aSt_ok _ _ hS).2] at b5
      have b6 := Nat.ble_eq.mp b6
      have e : Int32.ofNat l.length = Int32.ofInt (l.length : Int) := rfl
      refine s_push hT (a := .inl (lfc (l.length : Int))) (v := .inl (.int (Int32.ofNat l.length))) ⟨hG.1, hG.2.1, hS, hG.2.2.2⟩ ⟨lwf_c _ _, by rw [lev_c]; rfl⟩ ?_ h
      unfold kslen
      simp only
      rw [show kstr ((a : Int)).toNat = some l from hl]
      simp only [r1, r2, b5, Bool.and_self, cond_true]
    · cases h
  · cases h
theorem s_schr (hT : kTW E w) (hG : aG E ph ρ n rg cs alo ast tc cB sB lo st w c s) {Rc Rs : Nat} (h : aschr Rc Rs pc n rg cs alo ast tc cB sB = some L) : aOk E ms ph ρ n w L (kschr Rc Rs pc lo st w c s) := by
  unfold aschr at h
  split at h
  · rename_i f a rest
    obtain ⟨vy, r, rfl, hy, hS⟩ := aSt_cons hG.2.2.1
    obtain ⟨vx, r, rfl, hx, hS2⟩ := aSt_cons hS
    have ey := hy.2
    subst ey
    obtain ⟨rfl, -⟩ := (vOK2 (t := (2, (a : Int), 0)) rfl).mp hx.2
    split at h
    · rename_i l hl
      split at h
      · rename_i q hq
        obtain ⟨q1, q2⟩ := q
        have hi := aidx_ok hG.1 hq
        obtain ⟨hb, h⟩ := kcond_inv h
        simp only [Bool.and_eq_true] at hb
        obtain ⟨b3, b4, b5⟩ := hb
        obtain ⟨r1, r2⟩ := s_room hG b3 b4
        rw [← (aSt_ok _ _ hS2).2] at b5
        refine s_any hT (x := l.getD (Int32.ofInt (lev ρ f)).toNatClampNeg 0 &&& 255) ⟨hG.1, hG.2.1, hS2, hG.2.2.2⟩ ?_ h
        unfold kschr
        simp only
        rw [show kstr ((a : Int)).toNat = some l from hl]
        simp only [i32_in hi.1 hi.2.1 hi.2.2.1, r1, r2, b5, Bool.and_self, cond_true]
      · cases h
    · cases h
  · cases h
end SOK2
