/-! Steps that look at cells or write them. -/
section SOK3
variable {E : TEnv} {ms : MOD} {ph : PHI} {n pc c s : Nat} {rg : RG} {cs : List LF} {alo : List (Nat × AV)} {ast : List AV} {tc : TC} {cB sB : LF} {ρ : Nat → Int} {lo : List (Nat × KV)} {st : List KV} {w : KW} {L : List (Nat × AS)}
theorem arec_ok (hE : kEok E) {r : AV} {t : Nat} {oa : Option Nat} (h : arec E r = some (t, oa)) {v : KV} (hr : aR E n ρ r v) : ∃ a, v = .inl (.ref a) ∧ a < E.1 ∧ E.2.1 a = t ∧ ∀ a', oa = some a' → a' = a := by
  rcases r with f | q
  · cases h
  · unfold arec at h
    simp only at h
    split at h
    · rename_i hq
      obtain ⟨hb, h⟩ := kcond_inv h
      have h := Prod.mk.inj (Option.some.inj h)
      have hh := (vOK2 (t := (q.1, (q.2 : Int), 0)) hq).mp hr.2
      exact ⟨q.2, hh.1, Nat.ble_eq.mp hb, h.1, fun a' h' => by rw [← h.2] at h'; exact (Option.some.inj h').symm⟩
    · rename_i hq
      obtain ⟨hb, h⟩ := kcond_inv h
      have h := Prod.mk.inj (Option.some.inj h)
      obtain ⟨a, e1, h1, h2⟩ := (vOK3 (t := (q.1, (q.2 : Int), 0)) hq).mp hr.2
      have h2 : E.2.1 a = q.2 := h2
      refine ⟨a, e1, ?_, h2.trans h.1, fun a' h' => by rw [← h.2] at h'; cases h'⟩
      refine Nat.lt_of_not_le fun z => ?_
      have hb : q.2 < 60 := Nat.ble_eq.mp hb
      rcases hE.2.2 a z with ⟨h3, -⟩ | h3 <;> omega
    · cases h
theorem atget_ok {a : Nat} {k : LF} : ∀ (tc : TC) {v : AV}, atget tc a k = some v → ∃ k', ((a, k'), v) ∈ tc ∧ lfeq k' k = true := by
  intro tc
  induction tc with
  | nil => intro v h; cases h
  | cons q l ih =>
    intro v h
    unfold atget at h
    cases e : Nat.beq q.1.1 a && lfeq q.1.2 k with
    | true =>
      rw [e] at h
      have e := Bool.and_eq_true_iff.mp e
      have e1 := kb_t e.1
      cases h
      refine ⟨q.1.2, ?_, e.2⟩
      rw [← e1]
      exact List.mem_cons_self
    | false =>
      rw [e] at h
      obtain ⟨k', h1, h2⟩ := ih h
      exact ⟨k', List.mem_cons_of_mem _ h1, h2⟩
theorem tcE_get (hE : kEok E) {a : Nat} {k : LF} {v : AV} (ha : a < E.1) (h : tcE E n ρ tc w) (hg : atget tc a k = some v) : ∃ x, wval w a (lev ρ k).toNat = some x ∧ aR E n ρ v x := by
  obtain ⟨k', h1, h2⟩ := atget_ok tc hg
  obtain ⟨-, h3⟩ := h _ h1
  have e := lfeq_ok h2 ρ
  rcases h3 with h3 | ⟨-, -, x, h5, h6⟩
  · have h3 : 2000000 ≤ a := h3
    have := hE.1
    omega
  · have h5 : wval w a (lev ρ k').toNat = some x := h5
    rw [e] at h5
    exact ⟨x, h5, h6⟩
theorem qI_mono {tc tc' : TC} (hs : ∀ e ∈ tc, 2000000 ≤ e.1.1 → e ∈ tc') (hph : ∀ p ∈ ph, 2000000 ≤ p.1) (h : qI ph ρ tc w) : qI ph ρ tc' w := fun p hp i hi => by
  rcases h p hp i hi with ⟨e, h1, h2, h3⟩ | h1
  · exact Or.inl ⟨e, hs e h1 (by rw [h2]; exact hph p hp), h2, h3⟩
  · exact Or.inr h1
theorem tcE_cons {a : Nat} {k : LF} {v : AV} {x : KV} (h : tcE E n ρ tc w) (ha : a < E.1) (hk : lwf n k) (h0 : 0 ≤ lev ρ k) (hx : wval w a (lev ρ k).toNat = some x) (hr : aR E n ρ v x) : tcE E n ρ (((a, k), v) :: tc) w := fun q hq => by
  cases hq with
  | head => exact ⟨hk, Or.inr ⟨ha, h0, x, hx, hr⟩⟩
  | tail _ hq => exact h q hq
theorem tcR_cons {a : Nat} {k : LF} {v : AV} {x : KV} (h : tcR E ph n ρ tc w) (ha : a < E.1) (hk : lwf n k) (h0 : 0 ≤ lev ρ k) (hx : wval w a (lev ρ k).toNat = some x) (hr : aR E n ρ v x) : tcR E ph n ρ (((a, k), v) :: tc) w := ⟨tcE_cons h.1 ha hk h0 hx hr, fun p hp i hi => by
  rcases h.2 p hp i hi with ⟨e, h1, h2, h3⟩ | h1
  · exact Or.inl ⟨e, List.mem_cons_of_mem _ h1, h2, h3⟩
  · exact Or.inr h1⟩
theorem levk (ρ : Nat → Int) (k : Nat) : (lev ρ (lfc (k : Int))).toNat = k := by rw [lev_c]; rfl
theorem lev0 (ρ : Nat → Int) (k : Nat) : 0 ≤ lev ρ (lfc (k : Int)) := by rw [lev_c]; omega
theorem khd9 {e : KE} {ci m : Nat} (h : khd e = (9, ci, m)) : ∃ fs, e = .inr (ci, fs) ∧ fs.length = m := by
  rcases e with ⟨t, k, (⟨l, d⟩ | ⟨l, d⟩ | l)⟩ | ⟨cj, fs⟩ <;> cases h
  exact ⟨fs, rfl, rfl⟩
theorem khd0 {e : KE} {t m : Nat} (h : khd e = (0, t, m)) : ∃ l d, e = .inl (t, m, .inl (l, d)) := by
  rcases e with ⟨t, k, (⟨l, d⟩ | ⟨l, d⟩ | l)⟩ | ⟨cj, fs⟩ <;> cases h
  exact ⟨l, d, rfl⟩
theorem khd1 {e : KE} {t m : Nat} (h : khd e = (1, t, m)) : ∃ l d, e = .inl (t, m, .inr (.inl (l, d))) := by
  rcases e with ⟨t, k, (⟨l, d⟩ | ⟨l, d⟩ | l)⟩ | ⟨cj, fs⟩ <;> cases h
  exact ⟨l, d, rfl⟩
theorem khd2 {e : KE} {t m : Nat} (h : khd e = (2, t, m)) : ∃ l, e = .inl (t, m, .inr (.inr l)) := by
  rcases e with ⟨t, k, (⟨l, d⟩ | ⟨l, d⟩ | l)⟩ | ⟨cj, fs⟩ <;> cases h
  exact ⟨l, rfl⟩
theorem ct_of {t hd b : Nat} (h1 : Nat.beq (E.2.2 t).1.1 hd = true) : (E.2.2 t).1 = (hd, (E.2.2 t).1.2.1, (E.2.2 t).1.2.2) := by
  rw [← kb_t h1]
theorem s_getf (hE : kEok E) (hT : kTW E w) (hG : aG E ph ρ n rg cs alo ast tc cB sB lo st w c s) {wl : Nat → Int64} {ci k : Nat} (h : agetf E ci k pc n rg cs alo ast tc cB sB = some L) : aOk E ms ph ρ n w L (kwget wl ci k pc lo st w c s) := by
  unfold agetf at h
  split at h
  · rename_i r rest
    obtain ⟨vr, st', rfl, hr, hS⟩ := aSt_cons hG.2.2.1
    have hG' : aG E ph ρ n rg cs alo rest tc cB sB lo st' w c s := ⟨hG.1, hG.2.1, hS, hG.2.2.2⟩
    cases h99 : Nat.beq ci 99 with
    | true =>
      rw [h99] at h
      simp only [cond_true] at h
      split at h
      · obtain ⟨a, rfl, h1, h2⟩ := (vOK3 (t := (3, ((60 : Nat) : Int), 0)) rfl).mp hr.2
        have h2 : E.2.1 a = 60 := h2
        have h3 : E.1 ≤ a := Nat.le_of_not_lt fun q => by
          have := hE.2.1 a q
          omega
        rcases hE.2.2 a h3 with ⟨-, h4, h5⟩ | h4
        · refine s_push hT hG' (aR_long (wl a)) ?_ h
          unfold kwget
          simp only
          rw [h99, show Nat.ble 1000000 a = true from Nat.ble_eq.mpr (by omega), show Nat.ble 1000100 a = true from Nat.ble_eq.mpr h4, show Nat.ble a 1000129 = true from Nat.ble_eq.mpr h5]
          rfl
        · omega
      · cases h
    | false =>
      rw [h99] at h
      simp only [cond_false] at h
      split at h
      · rename_i t oa hrec
        obtain ⟨a, rfl, ha, hta, hoa⟩ := arec_ok hE hrec hr
        obtain ⟨hb, h⟩ := kcond_inv h
        simp only [Bool.and_eq_true] at hb
        obtain ⟨b1, b2, b3⟩ := hb
        have hk : k < (E.2.2 (E.2.1 a)).1.2.2 := by rw [hta]; exact Nat.ble_eq.mp b3
        obtain ⟨e, v, g1, g2, g3, g4, g5⟩ := wval_ty hT ha hk
        rw [hta] at g2 g5
        rw [ct_of (b := 0) b1, kb_t b2] at g2
        obtain ⟨fs, rfl, -⟩ := khd9 g2
        have ho : kwget wl ci k pc lo (.inl (.ref a) :: st') w c s = some (pc + 3, lo, v :: st', w, c, s) := by
          unfold kwget
          simp only
          rw [show Nat.ble 1000000 a = false from by
            have hlt : a < 1000000 := Nat.lt_trans ha hE.1
            cases q : Nat.ble 1000000 a with
            | false => rfl
            | true => exact absurd (Nat.ble_eq.mp q) (Nat.not_le_of_lt hlt)]
          simp only [cond_false]
          unfold kgetf
          simp only [g1]
          rw [Nat.beq_refl]
          simp only [cond_true]
          rw [show fs[k]? = some v from g3]
        have fresh : ∀ tc' : TC, (tc' = tc ∨ tc' = ((a, lfc (k : Int)), (aval n rg (ksg (E.2.2 t).2 k)).2.2) :: tc) → some [(pc + 3, (aval n rg (ksg (E.2.2 t).2 k)).1, (aval n rg (ksg (E.2.2 t).2 k)).2.1, cs, alo, (aval n rg (ksg (E.2.2 t).2 k)).2.2 :: rest, tc', cB, sB)] = some L → aOk E ms ph ρ n w L (kwget wl ci k pc lo (.inl (.ref a) :: st') w c s) := fun tc' htc h => by
          obtain ⟨ρ', q1, q2, q3, q4⟩ := aB_val hG.1 g5
          cases h
          refine aOk_mk ho (kStp.rf hT) List.mem_cons_self ρ' q1 q2 ⟨q3, aLo_up q1 q2 hG.2.1, ⟨q4, aSt_up q1 q2 _ _ hS⟩, ?_⟩
          rcases htc with rfl | rfl
          · exact tcR_up q1 q2 hG.2.2.2
          · exact tcR_cons (tcR_up q1 q2 hG.2.2.2) ha (lwf_c _ _) (lev0 _ _) (by rw [levk]; exact g4) q4
        cases oa with
        | some a0 =>
          have hz := hoa a0 rfl
          subst hz
          simp only at h
          split at h
          · rename_i v0 hv0
            obtain ⟨v1, g6, g7⟩ := tcE_get hE ha hG.2.2.2.1 hv0
            rw [levk, g4] at g6
            cases g6
            exact s_push hT hG' g7 ho h
          · exact fresh _ (Or.inr rfl) h
        | none => exact fresh _ (Or.inl rfl) h
      · cases h
  · cases h
theorem afit_ok (hB : kRG ρ rg) {a : AV} {t : VT} {v : KV} (h : afit E rg a t = true) (hr : aR E n ρ a v) : vOK E t v := by
  rcases a with f | q
  · unfold afit at h
    simp only at h
    have hv := hr.2
    cases e : l32 rg f with
    | true =>
      rw [e] at h
      have b := l32_ok hB e
      simp only [cond_true] at h
      unfold avt at h
      simp only at h
      split at h
      · rename_i x y hx hy
        have h1 := lub_ok hB hx
        have h2 := lub_ok hB hy
        rw [lev_neg] at h2
        refine vsub_ok h ((vOK0 rfl).mpr ⟨_, hv, ?_, ?_⟩) <;> rw [i32_of b.1 b.2]
        · show - y ≤ _
          omega
        · exact h1
      · exfalso
        unfold vsub at h
        revert h
        split <;> intro h <;> simp at h
    | false =>
      rw [e] at h
      simp only [cond_false, Bool.and_eq_true] at h
      have h1 := ile_ok h.2.1
      have h2 := ile_ok h.2.2
      have h3 := i32_lo (Int32.ofInt (lev ρ f))
      have h4 := i32_hi (Int32.ofInt (lev ρ f))
      exact (vOK0 (kb_t h.1)).mpr ⟨_, hv, by omega, by omega⟩
  · exact vsub_ok h hr.2
theorem amods_ok {t a k : Nat} {l h : Int} (hm : amods ms t l h = true) (ha : E.2.1 a = t) (h1 : l ≤ (k : Int)) (h2 : (k : Int) ≤ h) : kmod E ms a k := by
  obtain ⟨q, hq, hb⟩ := List.any_eq_true.mp hm
  simp only [Bool.and_eq_true] at hb
  have := ile_ok hb.2.1
  have := ile_ok hb.2.2
  exact ⟨q, hq, by rw [kb_t hb.1, ha], by omega, by omega⟩
/-! told rows -/
def qwf (q : QI) : Bool := Nat.blt q.1 2000000 && (Nat.blt 0 q.2.2.1 && q.2.2.2.2.all (fun al => al.all (fun z => Nat.blt z.1 q.2.2.1)))
def phW (ph : PHI) : Prop := (∀ p ∈ ph, 2000000 ≤ p.1 ∧ qwf p.2 = true) ∧ ∀ p ∈ ph, ∀ q ∈ ph, p.1 = q.1 → p = q
theorem aqout_ok {t : Nat} (h : aqout E ph t = true) {p : Nat × QI} (hp : p ∈ ph) : E.2.1 p.2.1 ≠ t := by
  have h1 := List.all_eq_true.mp h p hp
  intro q
  rw [kb_r q] at h1
  cases h1
theorem qRec_un {w w' : KW} {q : QI} {i : Nat} (h : ∀ al ∈ q.2.2.2.2, ∀ z ∈ al, wval w' q.1 (q.2.1 + q.2.2.1 * i + z.1) = wval w q.1 (q.2.1 + q.2.2.1 * i + z.1)) (hr : qRec w q i) : qRec w' q i := by
  obtain ⟨al, h1, h2⟩ := hr
  refine ⟨al, h1, fun z hz => ?_⟩
  rw [h al h1 z hz]
  exact h2 z hz
theorem qI_un {w' : KW} {t : Nat} (hq : aqout E ph t = true) (hw : ∀ b j : Nat, E.2.1 b ≠ t → wval w' b j = wval w b j) (h : qI ph ρ tc w) : qI ph ρ tc w' := fun p hp i hi => by
  rcases h p hp i hi with h1 | h1
  · exact Or.inl h1
  · exact Or.inr (qRec_un (fun al _ z _ => hw _ _ (aqout_ok hq hp)) h1)
theorem lwl_div {m : Nat} {c : Int} {l : List (Nat × Int)} (h : lwl m l) : lwl m (l.map (fun t => (t.1, t.2 / c))) := by
  intro t ht
  obtain ⟨q, h1, rfl⟩ := List.mem_map.mp ht
  exact h q h1
theorem adec_ok {f r : LF} {b sd o : Nat} (h : adec f b sd = some (r, o)) (ρ : Nat → Int) : lev ρ f = (sd : Int) * lev ρ r + ((b : Int) + (o : Int)) ∧ o < sd ∧ ∀ m, lwf m f → lwf m r := by
  unfold adec at h
  simp only at h
  obtain ⟨hb, h⟩ := kcond_inv h
  have hb := Bool.and_eq_true_iff.mp hb
  have e := Prod.mk.inj (Option.some.inj h)
  have h1 := lfeq_ok hb.1 ρ
  rw [lev_add, lev_mul, lev_c, e.1, e.2] at h1
  refine ⟨h1, by rw [← e.2]; exact Nat.ble_eq.mp hb.2, fun m hm => ?_⟩
  rw [← e.1]
  exact lwl_div hm
theorem adec_un {sd o z : Nat} {R i : Int} (h : (sd : Int) * R + (o : Int) = (sd : Int) * i + (z : Int)) (h1 : o < sd) (h2 : z < sd) : o = z ∧ R = i := by
  have a : ((sd : Int) * R + (o : Int)) % (sd : Int) = (o : Int) := by
    rw [Int.add_comm, Int.add_mul_emod_self_left]
    exact Int.emod_eq_of_lt (by omega) (by omega)
  have b : ((sd : Int) * i + (z : Int)) % (sd : Int) = (z : Int) := by
    rw [Int.add_comm, Int.add_mul_emod_self_left]
    exact Int.emod_eq_of_lt (by omega) (by omega)
  rw [h, b] at a
  have e : o = z := by omega
  subst e
  have h3 : (sd : Int) * R = (sd : Int) * i := by omega
  exact ⟨rfl, Int.eq_of_mul_eq_mul_left (by omega) h3⟩
theorem aqhit_no {t a : Nat} {oa : Option Nat} {l h : Int} {f : LF} {q : QI} (hq : qwf q = true) (hh : aqhit E t oa l h f q = false) (hta : E.2.1 a = t) (hoa : ∀ a', oa = some a' → a' = a) (h0 : 0 ≤ lev ρ f) (h1 : l ≤ lev ρ f) (h2 : lev ρ f ≤ h) {i : Nat} (hi : i < q.2.2.2.1) {al : QA} (hal : al ∈ q.2.2.2.2) {z : Nat × Int × Int × Int} (hz : z ∈ al) (e1 : q.1 = a) (e2 : ((q.2.1 + q.2.2.1 * i + z.1 : Nat) : Int) = lev ρ f) : False := by
  unfold qwf at hq
  simp only [Bool.and_eq_true] at hq
  obtain ⟨q1, q2, q3⟩ := hq
  have hz2 : z.1 < q.2.2.1 := Nat.ble_eq.mp (List.all_eq_true.mp (List.all_eq_true.mp q3 al hal) z hz)
  have hm : q.2.2.1 * (i + 1) ≤ q.2.2.1 * q.2.2.2.1 := Nat.mul_le_mul_left _ hi
  rw [Nat.mul_add, Nat.mul_one] at hm
  unfold aqhit at hh
  rw [kb_r (by rw [e1, hta] : E.2.1 q.1 = t)] at hh
  have i1 : ile (q.2.1 : Int) h = true := by
    cases c1 : ile (q.2.1 : Int) h with
    | true => rfl
    | false => have := ile_no c1; omega
  have i2 : ile ((q.2.1 + q.2.2.1 * q.2.2.2.1 : Nat) : Int) l = false := by
    cases c1 : ile ((q.2.1 + q.2.2.1 * q.2.2.2.1 : Nat) : Int) l with
    | false => rfl
    | true => have := ile_ok c1; omega
  rw [i1, i2] at hh
  simp only [Bool.true_and, Bool.not_false] at hh
  cases oa with
  | none => cases hh
  | some a' =>
    have := hoa a' rfl
    subst this
    simp only at hh
    rw [kb_r e1.symm] at hh
    simp only [Bool.true_and] at hh
    split at hh
    · cases hh
    · rename_i d hd
      obtain ⟨r, o⟩ := d
      obtain ⟨d1, d2, -⟩ := adec_ok hd ρ
      have h3 : (q.2.2.1 : Int) * lev ρ r + (o : Int) = (q.2.2.1 : Int) * (i : Int) + (z.1 : Int) := by
        rw [d1] at e2
        rw [Int.natCast_add, Int.natCast_add, Int.natCast_mul] at e2
        omega
      obtain ⟨h4, -⟩ := adec_un h3 d2 hz2
      have : q.2.2.2.2.any (fun al => al.any (fun z => Nat.beq z.1 o)) = true := List.any_eq_true.mpr ⟨al, hal, List.any_eq_true.mpr ⟨z, hz, kb_r h4.symm⟩⟩
      rw [this] at hh
      cases hh
theorem aqfold_ok (hE : kEok E) (hB : aB n rg cs cB sB ρ c s) {q : QI} (hq : qwf q = true) (hqE : q.1 < E.1) {r : LF} (ht : tcE E n ρ tc w) (h : aqfold rg cs q r tc = true) {i : Nat} (hi : (i : Int) = lev ρ r) : qRec w q i := by
  obtain ⟨al, h1, h2⟩ := List.any_eq_true.mp h
  refine ⟨al, h1, fun z hz => ?_⟩
  have h3 := List.all_eq_true.mp h2 z hz
  split at h3
  · rename_i g hg
    obtain ⟨x, x1, x2⟩ := tcE_get hE hqE ht hg
    have h3 := Bool.and_eq_true_iff.mp h3
    have b := l32_ok hB.2.1 h3.1
    have h4 := lle_ok hB.2.1 hB.2.2.1 h3.2
    rw [lev_neg, lev_add, lev_add, lev_c, lev_mul, lev_mul, ← hi] at h4
    rw [x2.2] at x1
    refine ⟨Int32.ofInt (lev ρ g), ?_, ?_⟩
    · rw [lev_add, lev_mul, lev_c, ← hi] at x1
      rw [← x1]
      congr 1
      rw [Int.natCast_add, ← Int.natCast_mul]
      omega
    · rw [i32_of b.1 b.2]
      omega
  · cases h3
theorem aqw_ok (hE : kEok E) (hph : phW ph) (hB : aB n rg cs cB sB ρ c s) {tc' : TC} {w' : KW} {a t : Nat} {oa : Option Nat} {l h : Int} {f : LF} (hf : lwf n f) (ha : a < E.1) (hta : E.2.1 a = t) (hoa : ∀ a', oa = some a' → a' = a) (h0 : 0 ≤ lev ρ f) (h1 : l ≤ lev ρ f) (h2 : lev ρ f ≤ h) (hw : ∀ b j : Nat, ¬ (b = a ∧ (j : Int) = lev ρ f) → wval w' b j = wval w b j) (htE : tcE E n ρ tc w') (hq : qI ph ρ tc w) (hg : aqw E ph rg cs t oa l h f tc = some tc') : tcR E ph n ρ tc' w' := by
  have un : ∀ p ∈ ph, aqhit E t oa l h f p.2 = false → ∀ i, i < p.2.2.2.2.1 → qRec w p.2 i → qRec w' p.2 i := fun p hp hh i hi hr => by
    refine qRec_un (fun al hal z hz => hw _ _ ?_) hr
    rintro ⟨e1, e2⟩
    exact aqhit_no (hph.1 p hp).2 hh hta hoa h0 h1 h2 hi hal hz e1 e2
  unfold aqw at hg
  split at hg
  · rename_i hnil
    cases hg
    refine ⟨htE, fun p hp i hi => ?_⟩
    rcases hq p hp i hi with q1 | q1
    · exact Or.inl q1
    · refine Or.inr (un p hp ?_ i hi q1)
      cases c1 : aqhit E t oa l h f p.2 with
      | false => rfl
      | true =>
        have : p ∈ ph.filter (fun p => aqhit E t oa l h f p.2) := List.mem_filter.mpr ⟨hp, c1⟩
        rw [hnil] at this
        cases this
  · rename_i p0 hp0
    have hp0m : p0 ∈ ph := (List.mem_filter.mp (by rw [hp0]; exact List.mem_cons_self)).1
    have hit : ∀ p ∈ ph, aqhit E t oa l h f p.2 = true → p = p0 := fun p hp hh => by
      have : p ∈ ph.filter (fun p => aqhit E t oa l h f p.2) := List.mem_filter.mpr ⟨hp, hh⟩
      rw [hp0] at this
      exact List.mem_singleton.mp this
    split at hg
    · rename_i a' d hd
      have := hoa a' rfl
      subst this
      obtain ⟨r, o⟩ := d
      obtain ⟨d1, d2, d3⟩ := adec_ok hd ρ
      obtain ⟨hb, hg⟩ := kcond_inv hg
      have hb := Bool.and_eq_true_iff.mp hb
      have hmk : ∀ e ∈ tc, 2000000 ≤ e.1.1 → e.1.1 = p0.1 ∧ lev ρ e.1.2 = lev ρ r := fun e he hge => by
        have h3 := List.all_eq_true.mp hb.2 e he
        rcases Bool.or_eq_true_iff.mp h3 with h4 | h4
        · have := Nat.ble_eq.mp h4
          omega
        · have h4 := Bool.and_eq_true_iff.mp h4
          exact ⟨kb_t h4.1, lfeq_ok h4.2 ρ⟩
      have un0 : ∀ i : Nat, (i : Int) ≠ lev ρ r → qRec w p0.2 i → qRec w' p0.2 i := fun i hne hr => by
        refine qRec_un (fun al hal z hz => hw _ _ ?_) hr
        rintro ⟨-, e2⟩
        have hwf := (hph.1 p0 hp0m).2
        unfold qwf at hwf
        simp only [Bool.and_eq_true] at hwf
        have hz2 : z.1 < p0.2.2.2.1 := Nat.ble_eq.mp (List.all_eq_true.mp (List.all_eq_true.mp hwf.2.2 al hal) z hz)
        have h3 : (p0.2.2.2.1 : Int) * lev ρ r + (o : Int) = (p0.2.2.2.1 : Int) * (i : Int) + (z.1 : Int) := by
          rw [d1] at e2
          rw [Int.natCast_add, Int.natCast_add, Int.natCast_mul] at e2
          omega
        exact hne (adec_un h3 d2 hz2).2.symm
      cases hfo : aqfold rg cs p0.2 r tc with
      | true =>
        rw [hfo] at hg
        simp only [cond_true] at hg
        cases hg
        refine ⟨fun e he => htE e (List.mem_filter.mp he).1, fun p hp i hi => Or.inr ?_⟩
        by_cases hpp : p = p0
        · subst hpp
          by_cases hir : (i : Int) = lev ρ r
          · have hqE : p.2.1 < E.1 := by
              refine Nat.lt_of_not_le fun z => ?_
              have hpm : p ∈ ph.filter (fun p => aqhit E t (some a') l h f p.2) := by rw [hp0]; exact List.mem_cons_self
              have hh : aqhit E t (some a') l h f p.2 = true := (List.mem_filter.mp hpm).2
              unfold aqhit at hh
              have hh := Bool.and_eq_true_iff.mp hh
              have e := kb_t hh.1
              rw [← hta] at e
              have k1 := hE.2.1 a' ha
              rcases hE.2.2 _ z with ⟨k2, -⟩ | k2 <;> omega
            exact aqfold_ok hE hB (hph.1 p hp).2 hqE htE hfo hir
          · rcases hq p hp i hi with ⟨e, e1, e2, e3⟩ | q1
            · have := (hmk e e1 (by rw [e2]; exact (hph.1 p hp).1)).2
              omega
            · exact un0 i hir q1
        · rcases hq p hp i hi with ⟨e, e1, e2, e3⟩ | q1
          · have h5 := (hmk e e1 (by rw [e2]; exact (hph.1 p hp).1)).1
            exact absurd (hph.2 p hp p0 hp0m (by rw [← e2, h5])) hpp
          · refine un p hp ?_ i hi q1
            cases c1 : aqhit E t (some a') l h f p.2 with
            | false => rfl
            | true => exact absurd (hit p hp c1) hpp
      | false =>
        rw [hfo] at hg
        simp only [cond_false] at hg
        cases hg
        refine ⟨fun e he => ?_, fun p hp i hi => ?_⟩
        · cases he with
          | head => exact ⟨d3 n hf, Or.inl (Nat.ble_eq.mp hb.1)⟩
          | tail _ he => exact htE e he
        · by_cases hpp : p = p0
          · subst hpp
            by_cases hir : (i : Int) = lev ρ r
            · exact Or.inl ⟨_, List.mem_cons_self, rfl, hir.symm⟩
            · rcases hq p hp i hi with ⟨e, e1, e2, e3⟩ | q1
              · exact Or.inl ⟨e, List.mem_cons_of_mem _ e1, e2, e3⟩
              · exact Or.inr (un0 i hir q1)
          · rcases hq p hp i hi with ⟨e, e1, e2, e3⟩ | q1
            · exact Or.inl ⟨e, List.mem_cons_of_mem _ e1, e2, e3⟩
            · refine Or.inr (un p hp ?_ i hi q1)
              cases c1 : aqhit E t (some a') l h f p.2 with
              | false => rfl
              | true => exact absurd (hit p hp c1) hpp
    · cases hg
  · cases hg
/-! known places, behind a write -/
theorem aout_ok (hB : kRG ρ rg) {key : LF} {l h : Int} (ha : aout rg key l h = true) : lev ρ key < l ∨ h < lev ρ key := by
  rcases Bool.or_eq_true_iff.mp ha with q | q
  · left
    split at q
    · rename_i b hb
      have := lub_ok hB hb
      cases c1 : ile l b with
      | true => rw [c1] at q; cases q
      | false => have := ile_no c1; omega
    · cases q
  · right
    split at q
    · rename_i b hb
      have := lub_ok hB hb
      rw [lev_neg] at this
      cases c1 : ile (- b) h with
      | true => rw [c1] at q; cases q
      | false => have := ile_no c1; omega
    · cases q
theorem tcA_put (hB : kRG ρ rg) {a : Nat} {f : LF} {w' : KW} {l h : Int} (h1 : l ≤ lev ρ f) (h2 : lev ρ f ≤ h) (hw : ∀ b j : Nat, ¬ (b = a ∧ (j : Int) = lev ρ f) → wval w' b j = wval w b j) : ∀ tc : TC, tcE E n ρ tc w → tcE E n ρ (atdelA rg a f l h tc) w' := by
  intro tc
  induction tc with
  | nil => intro _ q hq; cases hq
  | cons q t ih =>
    intro ht
    have ht' : tcE E n ρ t w := fun x hx => ht x (List.mem_cons_of_mem _ hx)
    unfold atdelA
    cases e : Nat.beq q.1.1 a && !(aout rg q.1.2 l h || lfne q.1.2 f) with
    | true => exact ih ht'
    | false =>
      intro x hx
      cases hx with
      | tail _ hx => exact ih ht' x hx
      | head =>
        obtain ⟨g0, g1⟩ := ht q List.mem_cons_self
        refine ⟨g0, ?_⟩
        rcases g1 with g1 | ⟨g1, g2, v, g3, g4⟩
        · exact Or.inl g1
        · refine Or.inr ⟨g1, g2, v, ?_, g4⟩
          rw [hw]
          · exact g3
          · rintro ⟨rfl, e2⟩
            rw [Nat.beq_refl, Bool.true_and] at e
            have e3 : (aout rg q.1.2 l h || lfne q.1.2 f) = true := by
              cases c1 : (aout rg q.1.2 l h || lfne q.1.2 f) with
              | true => rfl
              | false => rw [c1] at e; cases e
            rcases Bool.or_eq_true_iff.mp e3 with c1 | c1
            · rcases aout_ok hB c1 with c1 | c1 <;> omega
            · have := lfne_ok c1 ρ
              omega
theorem tcT_put (hB : kRG ρ rg) {t : Nat} {w' : KW} {l h : Int} (hw : ∀ b j : Nat, ¬ (E.2.1 b = t ∧ (j : Int) ≥ l ∧ (j : Int) ≤ h) → wval w' b j = wval w b j) : ∀ tc : TC, tcE E n ρ tc w → tcE E n ρ (atdelT E rg t l h tc) w' := by
  intro tc
  induction tc with
  | nil => intro _ q hq; cases hq
  | cons q l0 ih =>
    intro ht
    have ht' : tcE E n ρ l0 w := fun x hx => ht x (List.mem_cons_of_mem _ hx)
    unfold atdelT
    cases e : Nat.beq (E.2.1 q.1.1) t && !aout rg q.1.2 l h with
    | true => exact ih ht'
    | false =>
      intro x hx
      cases hx with
      | tail _ hx => exact ih ht' x hx
      | head =>
        obtain ⟨g0, g1⟩ := ht q List.mem_cons_self
        refine ⟨g0, ?_⟩
        rcases g1 with g1 | ⟨g1, g2, v, g3, g4⟩
        · exact Or.inl g1
        · refine Or.inr ⟨g1, g2, v, ?_, g4⟩
          rw [hw]
          · exact g3
          · rintro ⟨e1, e2, e3⟩
            rw [kb_r e1, Bool.true_and] at e
            have c1 : aout rg q.1.2 l h = true := by
              cases c1 : aout rg q.1.2 l h with
              | true => rfl
              | false => rw [c1] at e; cases e
            rcases aout_ok hB c1 with c1 | c1 <;> omega
/-- marks stay -/
theorem mkA {a : Nat} {f : LF} {l h : Int} (ha : a < 2000000) : ∀ (tc : TC) e, e ∈ tc → 2000000 ≤ e.1.1 → e ∈ atdelA rg a f l h tc := by
  intro tc
  induction tc with
  | nil => intro e he; cases he
  | cons q t ih =>
    intro e he hge
    unfold atdelA
    cases c1 : Nat.beq q.1.1 a && !(aout rg q.1.2 l h || lfne q.1.2 f) with
    | true =>
      cases he with
      | head =>
        have := kb_t (Bool.and_eq_true_iff.mp c1).1
        omega
      | tail _ he => exact ih e he hge
    | false =>
      cases he with
      | head => exact List.mem_cons_self
      | tail _ he => exact List.mem_cons_of_mem _ (ih e he hge)
theorem mkT (hE : kEok E) {t : Nat} {l h : Int} (ht : t < 60) : ∀ (tc : TC) e, e ∈ tc → 2000000 ≤ e.1.1 → e ∈ atdelT E rg t l h tc := by
  intro tc
  induction tc with
  | nil => intro e he; cases he
  | cons q l0 ih =>
    intro e he hge
    unfold atdelT
    cases c1 : Nat.beq (E.2.1 q.1.1) t && !aout rg q.1.2 l h with
    | true =>
      cases he with
      | head =>
        have e1 := kb_t (Bool.and_eq_true_iff.mp c1).1
        have := hE.1
        rcases hE.2.2 q.1.1 (by omega) with ⟨k2, -⟩ | k2 <;> omega
      | tail _ he => exact ih e he hge
    | false =>
      cases he with
      | head => exact List.mem_cons_self
      | tail _ he => exact List.mem_cons_of_mem _ (ih e he hge)
theorem kStp_put (hT : kTW E w) {a k t : Nat} {e : KE} {v : KV} {l h : Int} (ha : a < E.1) (he : kwg w a = some e) (hk : k < (khd e).2.2) (hc : kcan (khd e).1 v) (hv : vOK E (ksg (E.2.2 (E.2.1 a)).2 k) v) (hta : E.2.1 a = t) (h1 : l ≤ (k : Int)) (h2 : (k : Int) ≤ h) (hm : amods ms t l h = true) : kStp E ms w (kws w a (kput1 e k v)) :=
  ⟨kTW_put hT ha he hk hc hv, kFr_put he hk hc (amods_ok hm hta h1 h2)⟩
theorem s_putf (hE : kEok E) (hph : phW ph) (hT : kTW E w) (hG : aG E ph ρ n rg cs alo ast tc cB sB lo st w c s) {ci k : Nat} (h : aputf E ms ph ci k (kTy ci k) pc n rg cs alo ast tc cB sB = some L) : aOk E ms ph ρ n w L (kputf ci k pc lo st w c s) := by
  unfold aputf at h
  split at h
  · rename_i v r rest
    obtain ⟨vv, st', rfl, hv, hS0⟩ := aSt_cons hG.2.2.1
    obtain ⟨vr, st', rfl, hr, hS⟩ := aSt_cons hS0
    split at h
    · rename_i t oa hrec
      obtain ⟨a, rfl, ha, hta, hoa⟩ := arec_ok hE hrec hr
      obtain ⟨hb, h⟩ := kcond_inv h
      simp only [Bool.and_eq_true] at hb
      obtain ⟨b1, b2, b3, b4, b5, b6, b7⟩ := hb
      have hk : k < (E.2.2 (E.2.1 a)).1.2.2 := by rw [hta]; exact Nat.ble_eq.mp b3
      obtain ⟨e, v0, g1, g2, g3, g4, g5⟩ := wval_ty hT ha hk
      rw [hta] at g2
      have g2' := g2
      rw [ct_of (b := 0) b1, kb_t b2] at g2
      have hk2 : k < (khd e).2.2 := by rw [g2']; exact Nat.ble_eq.mp b3
      obtain ⟨fs, rfl, hlen⟩ := khd9 g2
      have hk3 : k < fs.length := hk2
      have hfit : kfit (kTy ci k) vv = true := by
        revert b7
        generalize kTy ci k = ty
        intro b7
        cases ty
        case int => exact aisI_ok b7 hv
        case boolean =>
          obtain ⟨x, rfl, x1, x2⟩ := (vOK0 (t := (0, 0, 1)) rfl).mp (afit_ok hG.1.2.1 b7 hv)
          have x1 : 0 ≤ x.toInt := x1
          have x2 : x.toInt ≤ 1 := x2
          have : x = 0 ∨ x = 1 := by
            by_cases q : 0 < x.toInt
            · right; exact Int32.toInt_inj.mp (show x.toInt = 1 by omega)
            · left; exact Int32.toInt_inj.mp (show x.toInt = 0 by omega)
          rcases this with rfl | rfl <;> rfl
        case long =>
          obtain ⟨x, rfl⟩ := aisG_ok b7 hv
          rfl
        case object => rcases aisQ_ok b7 hv with rfl | ⟨x, rfl⟩ <;> rfl
        case array => rcases aisQ_ok b7 hv with rfl | ⟨x, rfl⟩ <;> rfl
        all_goals cases b7
      have hvo : vOK E (ksg (E.2.2 (E.2.1 a)).2 k) vv := by rw [hta]; exact afit_ok hG.1.2.1 b4 hv
      have hkk := kStp_put (ms := ms) hT ha g1 hk2 (v := vv) trivial hvo hta (Int.le_refl (k : Int)) (Int.le_refl (k : Int)) b5
      have ho : kputf ci k pc lo (vv :: .inl (.ref a) :: st') w c s = some (pc + 3, lo, st', kws w a (kput1 (.inr (ci, fs)) k vv), c, s) := by
        unfold kputf
        simp only [g1]
        rw [Nat.beq_refl, show Nat.blt k fs.length = true from Nat.ble_eq.mpr hk3, hfit]
        rfl
      have hwv := fun b j => wval_put (v := vv) g1 hk2 trivial b j
      have hqI : qI ph ρ tc (kws w a (kput1 (.inr (ci, fs)) k vv)) := qI_un b6 (fun b j hne => by
        rw [hwv, if_neg]
        rintro ⟨rfl, -⟩
        exact hne hta) hG.2.2.2.2
      have ht60 : t < 60 := by rw [← hta]; exact hE.2.1 a ha
      have ha2 : a < 2000000 := Nat.lt_trans ha (Nat.lt_trans hE.1 (by decide))
      cases oa with
      | some a0 =>
        have hz := hoa a0 rfl
        subst hz
        cases h
        refine aOk_mk ho hkk List.mem_cons_self ρ (fun _ _ => rfl) (Nat.le_refl _) ⟨hG.1, hG.2.1, hS, tcR_cons ⟨tcA_put (w := w) hG.1.2.1 (by rw [lev_c]; exact Int.le_refl _) (by rw [lev_c]; exact Int.le_refl _) ?_ tc hG.2.2.2.1, qI_mono (mkA ha2 tc) (fun p hp => (hph.1 p hp).1) hqI⟩ ha (x := vv) (lwf_c _ _) (lev0 _ _) ?_ hv⟩
        · intro b j hne
          rw [hwv, if_neg]
          rintro ⟨rfl, rfl⟩
          exact hne ⟨rfl, by rw [lev_c]⟩
        · rw [hwv, levk, if_pos ⟨rfl, rfl⟩]
      | none =>
        cases h
        refine aOk_mk ho hkk List.mem_cons_self ρ (fun _ _ => rfl) (Nat.le_refl _) ⟨hG.1, hG.2.1, hS, tcT_put (w := w) hG.1.2.1 ?_ tc hG.2.2.2.1, qI_mono (mkT hE ht60 tc) (fun p hp => (hph.1 p hp).1) hqI⟩
        intro b j hne
        rw [hwv, if_neg]
        rintro ⟨rfl, rfl⟩
        exact hne ⟨hta, by omega, by omega⟩
    · cases h
  · cases h
theorem s_ldx (hE : kEok E) (hT : kTW E w) (hG : aG E ph ρ n rg cs alo ast tc cB sB lo st w c s) {hd : Nat} {ok : Nat → Bool} {o : Option KF} (ho : ∀ (x : Int) (a : Nat) (e : KE) (t m : Nat) (v : KV) r, st = .inl (.int (Int32.ofInt x)) :: .inl (.ref a) :: r → a < E.1 → kwg w a = some e → khd e = (hd, t, m) → ok t = true → kinB (Int32.ofInt x) m = true → 0 ≤ x → x ≤ 2147483647 → x.toNat < m → kev e x.toNat = some v → o = some (pc + 1, lo, v :: r, w, c, s)) (h : aldx E hd ok pc n rg cs alo ast tc cB sB = some L) : aOk E ms ph ρ n w L o := by
  unfold aldx at h
  split at h
  · rename_i f r rest
    obtain ⟨vf, st', rfl, hf, hS0⟩ := aSt_cons hG.2.2.1
    obtain ⟨vr, st', rfl, hr, hS⟩ := aSt_cons hS0
    have ef := hf.2
    subst ef
    split at h
    · rename_i t oa hrec
      obtain ⟨a, rfl, ha, hta, hoa⟩ := arec_ok hE hrec hr
      obtain ⟨hb, h⟩ := kcond_inv h
      simp only [Bool.and_eq_true] at hb
      obtain ⟨b1, b2⟩ := hb
      split at h
      · rename_i l u hi
        obtain ⟨i1, i2, i3, i4, i5⟩ := aidx_ok hG.1 hi
        split at h
        · rename_i U hU
          obtain ⟨hall, h⟩ := kcond_inv h
          have hlt : (lev ρ f).toNat < (E.2.2 (E.2.1 a)).1.2.2 := by rw [hta]; omega
          obtain ⟨e, v, g1, g2, g3, g4, g5⟩ := wval_ty hT ha hlt
          rw [hta] at g2 g5
          rw [ct_of (b := 0) b1] at g2
          have ho2 := ho (lev ρ f) a e _ _ v st' rfl ha g1 g2 b2 (i32_in i1 i2 i3) i1 i2 (by omega) g3
          have hv : vOK E U v := vsub_ok (ksall_ok (p := fun x => vsub E x U) _ hall (lev ρ f).toNat (by omega) (by omega)) g5
          obtain ⟨ρ', q1, q2, q3, q4⟩ := aB_val hG.1 hv
          have fresh : ∀ tc' : TC, (tc' = tc ∨ tc' = ((a, f), (aval n rg U).2.2) :: tc) → some [(pc + 1, (aval n rg U).1, (aval n rg U).2.1, cs, alo, (aval n rg U).2.2 :: rest, tc', cB, sB)] = some L → aOk E ms ph ρ n w L o := fun tc' htc h => by
            cases h
            refine aOk_mk ho2 (kStp.rf hT) List.mem_cons_self ρ' q1 q2 ⟨q3, aLo_up q1 q2 hG.2.1, ⟨q4, aSt_up q1 q2 _ _ hS⟩, ?_⟩
            rcases htc with rfl | rfl
            · exact tcR_up q1 q2 hG.2.2.2
            · refine tcR_cons (tcR_up q1 q2 hG.2.2.2) ha (lwf_up hf.1 q2) ?_ ?_ q4
              · rw [lev_ag q1 hf.1]; exact i1
              · rw [lev_ag q1 hf.1]; exact g4
          have h : (match (generalizing := false) oa with
                | some a => (match atget tc a f with
                  | some v0 => some [(pc + 1, n, rg, cs, alo, v0 :: rest, tc, cB, sB)]
                  | none => some [(pc + 1, (aval n rg U).1, (aval n rg U).2.1, cs, alo, (aval n rg U).2.2 :: rest, ((a, f), (aval n rg U).2.2) :: tc, cB, sB)])
                | none => some [(pc + 1, (aval n rg U).1, (aval n rg U).2.1, cs, alo, (aval n rg U).2.2 :: rest, tc, cB, sB)]) = some L := h
          cases oa with
          | none => exact fresh _ (Or.inl rfl) h
          | some a0 =>
            have hz := hoa a0 rfl
            subst hz
            simp only at h
            split at h
            · rename_i v0 hv0
              obtain ⟨v1, g6, g7⟩ := tcE_get hE ha hG.2.2.2.1 hv0
              rw [g4] at g6
              cases g6
              exact s_push hT (len := 1) ⟨hG.1, hG.2.1, hS, hG.2.2.2⟩ g7 ho2 h
            · exact fresh _ (Or.inr rfl) h
        · cases h
      · cases h
    · cases h
  · cases h
end SOK3
