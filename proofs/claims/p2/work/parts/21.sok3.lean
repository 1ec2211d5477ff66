/-! Steps that look at cells or write them. -/
section SOK3
variable {E : TEnv} {ms : MOD} {ph : PHI} {n pc c s : Nat} {rg : RG} {cs : List LF} {alo : List (Nat × AV)} {ast : List AV} {tc : TC} {cB sB : LF} {ρ : Nat → Int} {lo : List (Nat × KV)} {st : List KV} {w : KW} {L : List (Nat × AS)}
theorem arec_ok (hE : kEok E) {r : AV} {t : Nat} {oa : Option Nat} (h : arec E r = some (t, oa)) {v : KV} (hr : aR E n ρ r v) : ∃ a, v = .inl (.ref a) ∧ a < E.1 ∧ E.2.1 a = t ∧ ∀ a', oa = some a' → a' = a := by
  rcases r with f | q
  · cases h
  · unfold arec at h
    simp only at h
    split at h
    · rename_i hq
      obtain ⟨hb, h⟩ := kcond_inv h
      have h := Prod.mk.inj (Option.some.inj h)
      have hh := (vOK2 (t := (q.1, (q.2 : Int), 0)) hq).mp hr.2
      exact ⟨q.2, hh.1, Nat.ble_eq.mp hb, h.1, fun a' h' => by rw [← h.2] at h'; exact (Option.some.inj h').symm⟩
    · rename_i hq
      obtain ⟨hb, h⟩ := kcond_inv h
      have h := Prod.mk.inj (Option.some.inj h)
      obtain ⟨a, e1, h1, h2⟩ := (vOK3 (t := (q.1, (q.2 : Int), 0)) hq).mp hr.2
      have h2 : E.2.1 a = q.2 := h2
      refine ⟨a, e1, ?_, h2.trans h.1, fun a' h' => by rw [← h.2] at h'; cases h'⟩
      refine Nat.lt_of_not_le fun z => ?_
      have hb : q.2 < 30 := Nat.ble_eq.mp hb
      rcases hE.2.2 a z with ⟨h3, -⟩ | h3 <;> omega
    · cases h
theorem atget_ok {a k : Nat} : ∀ (tc : TC) {v : AV}, atget tc a k = some v → ((a, k), v) ∈ tc := by
  intro tc
  induction tc with
  | nil => intro v h; cases h
  | cons q l ih =>
    intro v h
    unfold atget at h
    cases e : Nat.beq q.1.1 a && Nat.beq q.1.2 k with
    | true =>
      rw [e] at h
      have e := Bool.and_eq_true_iff.mp e
      have e1 := kb_t e.1
      have e2 := kb_t e.2
      cases h
      rw [← e1, ← e2]
      exact List.mem_cons_self
    | false =>
      rw [e] at h
      exact List.mem_cons_of_mem _ (ih h)
theorem tcR_cons {a k : Nat} {v : AV} {x : KV} (h : tcR E ph n ρ tc w) (ha : a < E.1) (hx : wval w a k = some x) (hr : aR E n ρ v x) : tcR E ph n ρ (((a, k), v) :: tc) w := fun q hq => by
  cases hq with
  | head => exact ⟨ha, x, hx, hr⟩
  | tail _ hq => exact h q hq
theorem khd9 {e : KE} {ci m : Nat} (h : khd e = (9, ci, m)) : ∃ fs, e = .inr (ci, fs) ∧ fs.length = m := by
  rcases e with ⟨t, k, (⟨l, d⟩ | ⟨l, d⟩ | l)⟩ | ⟨cj, fs⟩ <;> cases h
  exact ⟨fs, rfl, rfl⟩
theorem khd0 {e : KE} {t m : Nat} (h : khd e = (0, t, m)) : ∃ l d, e = .inl (t, m, .inl (l, d)) := by
  rcases e with ⟨t, k, (⟨l, d⟩ | ⟨l, d⟩ | l)⟩ | ⟨cj, fs⟩ <;> cases h
  exact ⟨l, d, rfl⟩
theorem khd1 {e : KE} {t m : Nat} (h : khd e = (1, t, m)) : ∃ l d, e = .inl (t, m, .inr (.inl (l, d))) := by
  rcases e with ⟨t, k, (⟨l, d⟩ | ⟨l, d⟩ | l)⟩ | ⟨cj, fs⟩ <;> cases h
  exact ⟨l, d, rfl⟩
theorem khd2 {e : KE} {t m : Nat} (h : khd e = (2, t, m)) : ∃ l, e = .inl (t, m, .inr (.inr l)) := by
  rcases e with ⟨t, k, (⟨l, d⟩ | ⟨l, d⟩ | l)⟩ | ⟨cj, fs⟩ <;> cases h
  exact ⟨l, rfl⟩
theorem ct_of {t hd b : Nat} (h1 : Nat.beq (E.2.2 t).1.1 hd = true) : (E.2.2 t).1 = (hd, (E.2.2 t).1.2.1, (E.2.2 t).1.2.2) := by
  rw [← kb_t h1]
theorem s_getf (hE : kEok E) (hT : kTW E w) (hG : aG E ph ρ n rg cs alo ast tc cB sB lo st w c s) {wl : Nat → Int64} {ci k : Nat} (h : agetf E ci k pc n rg cs alo ast tc cB sB = some L) : aOk E ms ph ρ n w L (kwget wl ci k pc lo st w c s) := by
  unfold agetf at h
  split at h
  · rename_i r rest
    obtain ⟨vr, st', rfl, hr, hS⟩ := aSt_cons hG.2.2.1
    have hG' : aG E ph ρ n rg cs alo rest tc cB sB lo st' w c s := ⟨hG.1, hG.2.1, hS, hG.2.2.2⟩
    cases h99 : Nat.beq ci 99 with
    | true =>
      rw [h99] at h
      simp only [cond_true] at h
      split at h
      · obtain ⟨a, rfl, h1, h2⟩ := (vOK3 (t := (3, ((30 : Nat) : Int), 0)) rfl).mp hr.2
        have h2 : E.2.1 a = 30 := h2
        have h3 : E.1 ≤ a := Nat.le_of_not_lt fun q => by
          have := hE.2.1 a q
          omega
        rcases hE.2.2 a h3 with ⟨-, h4, h5⟩ | h4
        · refine s_push hT hG' (aR_long (wl a)) ?_ h
          unfold kwget
          simp only
          rw [h99, show Nat.ble 1000000 a = true from Nat.ble_eq.mpr (by omega), show Nat.ble 1000100 a = true from Nat.ble_eq.mpr h4, show Nat.ble a 1000129 = true from Nat.ble_eq.mpr h5]
          rfl
        · omega
      · cases h
    | false =>
      rw [h99] at h
      simp only [cond_false] at h
      split at h
      · rename_i t oa hrec
        obtain ⟨a, rfl, ha, hta, hoa⟩ := arec_ok hE hrec hr
        obtain ⟨hb, h⟩ := kcond_inv h
        simp only [Bool.and_eq_true] at hb
        obtain ⟨b1, b2, b3⟩ := hb
        have hk : k < (E.2.2 (E.2.1 a)).1.2.2 := by rw [hta]; exact Nat.ble_eq.mp b3
        obtain ⟨e, v, g1, g2, g3, g4, g5⟩ := wval_ty hT ha hk
        rw [hta] at g2 g5
        rw [ct_of (b := 0) b1, kb_t b2] at g2
        obtain ⟨fs, rfl, -⟩ := khd9 g2
        have ho : kwget wl ci k pc lo (.inl (.ref a) :: st') w c s = some (pc + 3, lo, v :: st', w, c, s) := by
          unfold kwget
          simp only
          rw [show Nat.ble 1000000 a = false from by
            have hlt : a < 1000000 := Nat.lt_trans ha hE.1
            cases q : Nat.ble 1000000 a with
            | false => rfl
            | true => exact absurd (Nat.ble_eq.mp q) (Nat.not_le_of_lt hlt)]
          simp only [cond_false]
          unfold kgetf
          simp only [g1]
          rw [Nat.beq_refl]
          simp only [cond_true]
          rw [show fs[k]? = some v from g3]
        have fresh : ∀ tc' : TC, (tc' = tc ∨ tc' = ((a, k), (aval n rg (ksg (E.2.2 t).2 k)).2.2) :: tc) → some [(pc + 3, (aval n rg (ksg (E.2.2 t).2 k)).1, (aval n rg (ksg (E.2.2 t).2 k)).2.1, cs, alo, (aval n rg (ksg (E.2.2 t).2 k)).2.2 :: rest, tc', cB, sB)] = some L → aOk E ms ph ρ n w L (kwget wl ci k pc lo (.inl (.ref a) :: st') w c s) := fun tc' htc h => by
          obtain ⟨ρ', q1, q2, q3, q4⟩ := aB_val hG.1 g5
          cases h
          refine aOk_mk ho (kStp.rf hT) List.mem_cons_self ρ' q1 q2 ⟨q3, aLo_up q1 q2 hG.2.1, ⟨q4, aSt_up q1 q2 _ _ hS⟩, ?_⟩
          rcases htc with rfl | rfl
          · exact tcR_up q1 q2 hG.2.2.2
          · exact tcR_cons (tcR_up q1 q2 hG.2.2.2) ha g4 q4
        cases oa with
        | some a0 =>
          have hz := hoa a0 rfl
          subst hz
          simp only at h
          split at h
          · rename_i v0 hv0
            obtain ⟨-, v1, g6, g7⟩ := hG.2.2.2 _ (atget_ok tc hv0)
            have g6 : wval w a0 k = some v1 := g6
            rw [g4] at g6
            cases g6
            exact s_push hT hG' g7 ho h
          · exact fresh _ (Or.inr rfl) h
        | none => exact fresh _ (Or.inl rfl) h
      · cases h
  · cases h
theorem afit_ok (hB : kRG ρ rg) {a : AV} {t : VT} {v : KV} (h : afit E rg a t = true) (hr : aR E n ρ a v) : vOK E t v := by
  rcases a with f | q
  · unfold afit at h
    simp only at h
    have hv := hr.2
    cases e : l32 rg f with
    | true =>
      rw [e] at h
      have b := l32_ok hB e
      simp only [cond_true] at h
      unfold avt at h
      simp only at h
      split at h
      · rename_i x y hx hy
        have h1 := lub_ok hB hx
        have h2 := lub_ok hB hy
        rw [lev_neg] at h2
        refine vsub_ok h ((vOK0 rfl).mpr ⟨_, hv, ?_, ?_⟩) <;> rw [i32_of b.1 b.2]
        · show - y ≤ _
          omega
        · exact h1
      · exfalso
        unfold vsub at h
        revert h
        split <;> intro h <;> simp at h
    | false =>
      rw [e] at h
      simp only [cond_false, Bool.and_eq_true] at h
      have h1 := ile_ok h.2.1
      have h2 := ile_ok h.2.2
      have h3 := i32_lo (Int32.ofInt (lev ρ f))
      have h4 := i32_hi (Int32.ofInt (lev ρ f))
      exact (vOK0 (kb_t h.1)).mpr ⟨_, hv, by omega, by omega⟩
  · exact vsub_ok h hr.2
theorem amods_ok {t a k : Nat} {l h : Int} (hm : amods ms t l h = true) (ha : E.2.1 a = t) (h1 : l ≤ (k : Int)) (h2 : (k : Int) ≤ h) : kmod E ms a k := by
  obtain ⟨q, hq, hb⟩ := List.any_eq_true.mp hm
  simp only [Bool.and_eq_true] at hb
  have := ile_ok hb.2.1
  have := ile_ok hb.2.2
  exact ⟨q, hq, by rw [kb_t hb.1, ha], by omega, by omega⟩
theorem aphi_ok {t a k : Nat} {l h : Int} (hm : aphi ph t l h = true) (ha : E.2.1 a = t) (h1 : l ≤ (k : Int)) (h2 : (k : Int) ≤ h) {r : MOD} (hr : r ∈ ph) : ¬ kmod E r a k := by
  rintro ⟨q, hq, e1, e2, e3⟩
  have hb := List.all_eq_true.mp (List.all_eq_true.mp hm r hr) q hq
  rw [Bool.or_eq_true_iff] at hb
  rcases hb with hb | hb
  · rw [show Nat.beq q.1 t = true from kb_r (by rw [e1, ha])] at hb
    cases hb
  · rw [Bool.or_eq_true_iff] at hb
    rcases hb with hb | hb
    · cases q4 : ile l q.2.2 with
      | true => rw [q4] at hb; cases hb
      | false => have := ile_no q4; omega
    · cases q4 : ile q.2.1 h with
      | true => rw [q4] at hb; cases hb
      | false => have := ile_no q4; omega
/-- known places, behind a write -/
theorem tcA_put {a k : Nat} {w' : KW} {l h : Int} (hw : ∀ b j : Nat, ¬ (b = a ∧ (j : Int) ≥ l ∧ (j : Int) ≤ h) → wval w' b j = wval w b j) : ∀ tc : TC, tcR E ph n ρ tc w → tcR E ph n ρ (atdelA a l h tc) w' := by
  intro tc
  induction tc with
  | nil => intro _ q hq; cases hq
  | cons q t ih =>
    intro ht
    have ht' : tcR E ph n ρ t w := fun x hx => ht x (List.mem_cons_of_mem _ hx)
    unfold atdelA
    cases e : Nat.beq q.1.1 a && (ile l q.1.2 && ile q.1.2 h) with
    | true => exact ih ht'
    | false =>
      obtain ⟨h1, v, h2, h3⟩ := ht q List.mem_cons_self
      refine tcR_cons (ih ht') h1 (x := v) ?_ h3
      rw [hw]
      · exact h2
      · rintro ⟨rfl, g1, g2⟩
        have g1 : l ≤ ((q.1.2 : Nat) : Int) := g1
        have g2 : ((q.1.2 : Nat) : Int) ≤ h := g2
        have : (Nat.beq q.1.1 q.1.1 && (ile l q.1.2 && ile q.1.2 h)) = true := by
          rw [Nat.beq_refl]
          have g3 : ile l q.1.2 = true := by
            cases z : ile l q.1.2 with
            | true => rfl
            | false => have := ile_no z; omega
          have g4 : ile q.1.2 h = true := by
            cases z : ile q.1.2 h with
            | true => rfl
            | false => have := ile_no z; omega
          rw [g3, g4]
          rfl
        rw [this] at e
        cases e
theorem tcT_put {t : Nat} {w' : KW} {l h : Int} (hw : ∀ b j : Nat, ¬ (E.2.1 b = t ∧ (j : Int) ≥ l ∧ (j : Int) ≤ h) → wval w' b j = wval w b j) : ∀ tc : TC, tcR E ph n ρ tc w → tcR E ph n ρ (atdelT E t l h tc) w' := by
  intro tc
  induction tc with
  | nil => intro _ q hq; cases hq
  | cons q l0 ih =>
    intro ht
    have ht' : tcR E ph n ρ l0 w := fun x hx => ht x (List.mem_cons_of_mem _ hx)
    unfold atdelT
    cases e : Nat.beq (E.2.1 q.1.1) t && (ile l q.1.2 && ile q.1.2 h) with
    | true => exact ih ht'
    | false =>
      obtain ⟨h1, v, h2, h3⟩ := ht q List.mem_cons_self
      refine tcR_cons (ih ht') h1 (x := v) ?_ h3
      rw [hw]
      · exact h2
      · rintro ⟨g0, g1, g2⟩
        have g1 : l ≤ ((q.1.2 : Nat) : Int) := g1
        have g2 : ((q.1.2 : Nat) : Int) ≤ h := g2
        have : (Nat.beq (E.2.1 q.1.1) t && (ile l q.1.2 && ile q.1.2 h)) = true := by
          rw [kb_r g0]
          have g3 : ile l q.1.2 = true := by
            cases z : ile l q.1.2 with
            | true => rfl
            | false => have := ile_no z; omega
          have g4 : ile q.1.2 h = true := by
            cases z : ile q.1.2 h with
            | true => rfl
            | false => have := ile_no z; omega
          rw [g3, g4]
          rfl
        rw [this] at e
        cases e
theorem kStp_put (hT : kTW E w) {a k t : Nat} {e : KE} {v : KV} {l h : Int} (ha : a < E.1) (he : kwg w a = some e) (hk : k < (khd e).2.2) (hc : kcan (khd e).1 v) (hv : vOK E (ksg (E.2.2 (E.2.1 a)).2 k) v) (hta : E.2.1 a = t) (h1 : l ≤ (k : Int)) (h2 : (k : Int) ≤ h) (hm : amods ms t l h = true) (hp : aphi ph t l h = true ∨ ((khd e).1 = 0 ∧ v = .inl (.int 0))) : kStp E ms w (kws w a (kput1 e k v)) := by
  refine ⟨kTW_put hT ha he hk hc hv, kFr_put he hk hc (amods_ok hm hta h1 h2), ?_⟩
  rcases hp with hp | ⟨h0, rfl⟩
  · left
    intro r hr b j _ hb
    rw [wval_put he hk hc, if_neg]
    rintro ⟨rfl, rfl⟩
    exact aphi_ok hp hta h1 h2 hr hb
  · right
    exact ⟨a, k, e, ha, he, hk, h0, rfl⟩
theorem s_putf (hE : kEok E) (hT : kTW E w) (hG : aG E ph ρ n rg cs alo ast tc cB sB lo st w c s) {ci k : Nat} (h : aputf E ms ph ci k (kTy ci k) pc n rg cs alo ast tc cB sB = some L) : aOk E ms ph ρ n w L (kputf ci k pc lo st w c s) := by
  unfold aputf at h
  split at h
  · rename_i v r rest
    obtain ⟨vv, st', rfl, hv, hS0⟩ := aSt_cons hG.2.2.1
    obtain ⟨vr, st', rfl, hr, hS⟩ := aSt_cons hS0
    split at h
    · rename_i t oa hrec
      obtain ⟨a, rfl, ha, hta, hoa⟩ := arec_ok hE hrec hr
      obtain ⟨hb, h⟩ := kcond_inv h
      simp only [Bool.and_eq_true] at hb
      obtain ⟨b1, b2, b3, b4, b5, b6, b7⟩ := hb
      have hk : k < (E.2.2 (E.2.1 a)).1.2.2 := by rw [hta]; exact Nat.ble_eq.mp b3
      obtain ⟨e, v0, g1, g2, g3, g4, g5⟩ := wval_ty hT ha hk
      rw [hta] at g2
      have g2' := g2
      rw [ct_of (b := 0) b1, kb_t b2] at g2
      have hk2 : k < (khd e).2.2 := by rw [g2']; exact Nat.ble_eq.mp b3
      obtain ⟨fs, rfl, hlen⟩ := khd9 g2
      have hk3 : k < fs.length := hk2
      have hfit : kfit (kTy ci k) vv = true := by
        revert b7
        generalize kTy ci k = ty
        intro b7
        cases ty
        case int => exact aisI_ok b7 hv
        case boolean =>
          obtain ⟨x, rfl, x1, x2⟩ := (vOK0 (t := (0, 0, 1)) rfl).mp (afit_ok hG.1.2.1 b7 hv)
          have x1 : 0 ≤ x.toInt := x1
          have x2 : x.toInt ≤ 1 := x2
          have : x = 0 ∨ x = 1 := by
            by_cases q : 0 < x.toInt
            · right; exact Int32.toInt_inj.mp (show x.toInt = 1 by omega)
            · left; exact Int32.toInt_inj.mp (show x.toInt = 0 by omega)
          rcases this with rfl | rfl <;> rfl
        case long =>
          obtain ⟨x, rfl⟩ := aisG_ok b7 hv
          rfl
        case object => rcases aisQ_ok b7 hv with rfl | ⟨x, rfl⟩ <;> rfl
        case array => rcases aisQ_ok b7 hv with rfl | ⟨x, rfl⟩ <;> rfl
        all_goals cases b7
      have hvo : vOK E (ksg (E.2.2 (E.2.1 a)).2 k) vv := by rw [hta]; exact afit_ok hG.1.2.1 b4 hv
      have hkk := kStp_put (ms := ms) (ph := ph) hT ha g1 hk2 (v := vv) trivial hvo hta (Int.le_refl (k : Int)) (Int.le_refl (k : Int)) b5 (Or.inl b6)
      have ho : kputf ci k pc lo (vv :: .inl (.ref a) :: st') w c s = some (pc + 3, lo, st', kws w a (kput1 (.inr (ci, fs)) k vv), c, s) := by
        unfold kputf
        simp only [g1]
        rw [Nat.beq_refl, show Nat.blt k fs.length = true from Nat.ble_eq.mpr hk3, hfit]
        rfl
      have hwv := fun b j => wval_put (v := vv) g1 hk2 trivial b j
      cases oa with
      | some a0 =>
        have hz := hoa a0 rfl
        subst hz
        cases h
        refine aOk_mk ho hkk List.mem_cons_self ρ (fun _ _ => rfl) (Nat.le_refl _) ⟨hG.1, hG.2.1, hS, tcR_cons (tcA_put (k := k) ?_ tc hG.2.2.2) ha (x := vv) ?_ hv⟩
        · intro b j hne
          rw [hwv, if_neg]
          rintro ⟨rfl, rfl⟩
          exact hne ⟨rfl, by omega, by omega⟩
        · rw [hwv, if_pos ⟨rfl, rfl⟩]
      | none =>
        cases h
        refine aOk_mk ho hkk List.mem_cons_self ρ (fun _ _ => rfl) (Nat.le_refl _) ⟨hG.1, hG.2.1, hS, tcT_put ?_ tc hG.2.2.2⟩
        intro b j hne
        rw [hwv, if_neg]
        rintro ⟨rfl, rfl⟩
        exact hne ⟨hta, by omega, by omega⟩
    · cases h
  · cases h
theorem s_ldx (hE : kEok E) (hT : kTW E w) (hG : aG E ph ρ n rg cs alo ast tc cB sB lo st w c s) {hd : Nat} {ok : Nat → Bool} {o : Option KF} (ho : ∀ (x : Int) (a : Nat) (e : KE) (t m : Nat) (v : KV) r, st = .inl (.int (Int32.ofInt x)) :: .inl (.ref a) :: r → a < E.1 → kwg w a = some e → khd e = (hd, t, m) → ok t = true → kinB (Int32.ofInt x) m = true → 0 ≤ x → x ≤ 2147483647 → x.toNat < m → kev e x.toNat = some v → o = some (pc + 1, lo, v :: r, w, c, s)) (h : aldx E hd ok pc n rg cs alo ast tc cB sB = some L) : aOk E ms ph ρ n w L o := by
  unfold aldx at h
  split at h
  · rename_i f r rest
    obtain ⟨vf, st', rfl, hf, hS0⟩ := aSt_cons hG.2.2.1
    obtain ⟨vr, st', rfl, hr, hS⟩ := aSt_cons hS0
    have ef := hf.2
    subst ef
    split at h
    · rename_i t oa hrec
      obtain ⟨a, rfl, ha, hta, hoa⟩ := arec_ok hE hrec hr
      obtain ⟨hb, h⟩ := kcond_inv h
      simp only [Bool.and_eq_true] at hb
      obtain ⟨b1, b2⟩ := hb
      split at h
      · rename_i l u hi
        obtain ⟨i1, i2, i3, i4, i5⟩ := aidx_ok hG.1 hi
        split at h
        · rename_i U hU
          obtain ⟨hall, h⟩ := kcond_inv h
          have hlt : (lev ρ f).toNat < (E.2.2 (E.2.1 a)).1.2.2 := by rw [hta]; omega
          obtain ⟨e, v, g1, g2, g3, g4, g5⟩ := wval_ty hT ha hlt
          rw [hta] at g2 g5
          rw [ct_of (b := 0) b1] at g2
          have ho2 := ho (lev ρ f) a e _ _ v st' rfl ha g1 g2 b2 (i32_in i1 i2 i3) i1 i2 (by omega) g3
          have hv : vOK E U v := vsub_ok (ksall_ok (p := fun x => vsub E x U) _ hall (lev ρ f).toNat (by omega) (by omega)) g5
          obtain ⟨ρ', q1, q2, q3, q4⟩ := aB_val hG.1 hv
          have fresh : ∀ tc' : TC, (tc' = tc ∨ (f.2 = [] ∧ tc' = ((a, f.1.toNat), (aval n rg U).2.2) :: tc)) → some [(pc + 1, (aval n rg U).1, (aval n rg U).2.1, cs, alo, (aval n rg U).2.2 :: rest, tc', cB, sB)] = some L → aOk E ms ph ρ n w L o := fun tc' htc h => by
            cases h
            refine aOk_mk ho2 (kStp.rf hT) List.mem_cons_self ρ' q1 q2 ⟨q3, aLo_up q1 q2 hG.2.1, ⟨q4, aSt_up q1 q2 _ _ hS⟩, ?_⟩
            rcases htc with rfl | ⟨e0, rfl⟩
            · exact tcR_up q1 q2 hG.2.2.2
            · refine tcR_cons (tcR_up q1 q2 hG.2.2.2) ha ?_ q4
              rw [← lev_k ρ e0]
              exact g4
          have h : (match (generalizing := false) oa, f.2 with
                | some a, [] => (match atget tc a f.1.toNat with
                  | some v0 => some [(pc + 1, n, rg, cs, alo, v0 :: rest, tc, cB, sB)]
                  | none => some [(pc + 1, (aval n rg U).1, (aval n rg U).2.1, cs, alo, (aval n rg U).2.2 :: rest, ((a, f.1.toNat), (aval n rg U).2.2) :: tc, cB, sB)])
                | _, _ => some [(pc + 1, (aval n rg U).1, (aval n rg U).2.1, cs, alo, (aval n rg U).2.2 :: rest, tc, cB, sB)]) = some L := h
          cases oa with
          | none => exact fresh _ (Or.inl rfl) h
          | some a0 =>
          have hz := hoa a0 rfl
          subst hz
          cases e0 : f.2 with
          | cons y r => rw [e0] at h; exact fresh _ (Or.inl rfl) h
          | nil =>
            rw [e0] at h
            simp only at h
            split at h
            · rename_i v0 hv0
              obtain ⟨-, v1, g6, g7⟩ := hG.2.2.2 _ (atget_ok tc hv0)
              have g6 : wval w a0 f.1.toNat = some v1 := g6
              rw [← lev_k ρ e0, g4] at g6
              cases g6
              exact s_push hT (len := 1) ⟨hG.1, hG.2.1, hS, hG.2.2.2⟩ g7 ho2 h
            · exact fresh _ (Or.inr ⟨e0, rfl⟩) h
        · cases h
      · cases h
    · cases h
  · cases h
end SOK3
