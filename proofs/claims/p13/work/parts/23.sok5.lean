/-! Rows' lengths, words, the script, all steps. -/
section SOK5
variable {E : TEnv} {ms : MOD} {ph : PHI} {n pc c s : Nat} {rg : RG} {cs : List LF} {alo : List (Nat × AV)} {ast : List AV} {tc : TC} {cB sB : LF} {ρ : Nat → Int} {lo : List (Nat × KV)} {st : List KV} {w : KW} {L : List (Nat × AS)}
/-- the words' labels -/
def kEw (E : TEnv) : Prop := ∀ a, 1000100 ≤ a → a ≤ 1000129 → E.2.1 a = 60
/-- the script's length is the first unknown; from the place of the second unknown on its six ints are the next ones -/
def kScA (sc : Bool) (n : Nat) (ρ : Nat → Int) (rgk : List (Int × Int)) (L0 : Nat) : Prop := sc = true → 8 ≤ n ∧ L0 = rgk.length + 1 ∧ ρ 0 = (rgk.length : Int) ∧ (∀ q ∈ rgk, q.1 = q.2) ∧ ∀ (j : Nat) (q : Int × Int), j < 6 → rgk[(ρ 1 + (j : Int)).toNat]? = some q → ρ (2 + j) = q.1
theorem kScA.ag {sc : Bool} {n m : Nat} {ρ ρ' : Nat → Int} {rgk : List (Int × Int)} {L0 : Nat} (h : kScA sc n ρ rgk L0) (hn : n ≤ m) (ha : ∀ i, i < n → ρ' i = ρ i) : kScA sc m ρ' rgk L0 := fun hs => by
  obtain ⟨a1, a2, a3, a4, a5⟩ := h hs
  refine ⟨Nat.le_trans a1 hn, a2, by rw [ha 0 (by omega)]; exact a3, a4, fun j q hj hq => ?_⟩
  rw [ha 1 (by omega)] at hq
  rw [ha (2 + j) (by omega)]
  exact a5 j q hj hq
theorem awin_ok {f : LF} {ρ : Nat → Int} (h : awin f = true) : lev ρ f = ρ 1 + f.1 ∧ 0 ≤ f.1 ∧ f.1 ≤ 5 := by
  obtain ⟨c, l⟩ := f
  unfold awin at h
  split at h
  · rename_i q hq
    have hq : l = [q] := hq
    subst hq
    simp only [Bool.and_eq_true] at h
    obtain ⟨h1, h2, h3, h4, h5⟩ := h
    obtain ⟨v, k⟩ := q
    have e1 : v = 1 := kb_t h1
    have h2 : (1 : Int) ≤ k := ile_ok h2
    have h3 : k ≤ 1 := ile_ok h3
    have e2 : k = 1 := Int.le_antisymm h3 h2
    subst e1 e2
    refine ⟨?_, ile_ok h4, ile_ok h5⟩
    show c + (1 * ρ 1 + 0) = ρ 1 + c
    omega
  · cases h
theorem kokN_w {N a : Nat} (h : 1000000 ≤ a) : kokN N a = true := by
  unfold kokN
  rw [show Nat.ble 1000000 a = true from Nat.ble_eq.mpr h, Bool.or_true]
theorem aR_lab {a : Nat} (h : 1000000 ≤ a) : aR E n ρ (.inr (2, a)) (.inl (.ref a)) := ⟨fun q => (nomatch q), (vOK2 (t := (2, (a : Int), 0)) rfl).mpr ⟨rfl, kokN_w h⟩⟩
theorem aR_labI {a : Nat} {v : KV} (h : aR E n ρ (.inr (2, a)) v) : v = .inl (.ref a) := ((vOK2 (t := (2, (a : Int), 0)) rfl).mp h.2).1
theorem kscr_no (hE : kEok E) {a : Nat} (ha : a < E.1) : kscr (.inl (.ref a)) = false := kb_n (fun z => absurd (Nat.lt_trans ha hE.1) (by rw [z]; decide))
theorem kald_row (hE : kEok E) {rgk : List (Int × Int)} {L0 : Nat} {ok : Nat → Bool} {x : Int} {a : Nat} {e : KE} {t m : Nat} {v : KV} {r : List KV} (ha : a < E.1) (g1 : kwg w a = some e) (g2 : khd e = (0, t, m)) (b2 : ok t = true) (b3 : kinB (Int32.ofInt x) m = true) (i1 : 0 ≤ x) (i2 : x ≤ 2147483647) (g3 : kev e x.toNat = some v) : kald rgk L0 ok pc lo (.inl (.int (Int32.ofInt x)) :: .inl (.ref a) :: r) w c s = some (pc + 1, lo, v :: r, w, c, s) := by
  obtain ⟨l, d, rfl⟩ := khd0 g2
  unfold kald
  simp only [g1]
  rw [kscr_no hE ha, b2, b3, i32_clamp i1 i2]
  simp only [Bool.false_and, cond_false, Bool.and_true, cond_true]
  have g3 : (bif Nat.blt x.toNat m then some (kofI (kget l d x.toNat)) else none) = some v := g3
  obtain ⟨-, g3⟩ := kcond_inv g3
  rw [Option.some.inj g3]
theorem klald_row {x : Int} {a : Nat} {e : KE} {t m : Nat} {v : KV} {r : List KV} (g1 : kwg w a = some e) (g2 : khd e = (1, t, m)) (b2 : Nat.beq t 1 = true) (b3 : kinB (Int32.ofInt x) m = true) (i1 : 0 ≤ x) (i2 : x ≤ 2147483647) (g3 : kev e x.toNat = some v) : klald pc lo (.inl (.int (Int32.ofInt x)) :: .inl (.ref a) :: r) w c s = some (pc + 1, lo, v :: r, w, c, s) := by
  obtain ⟨l, d, rfl⟩ := khd1 g2
  unfold klald
  simp only [g1]
  rw [b2, b3, i32_clamp i1 i2]
  simp only [Bool.and_true, cond_true]
  have g3 : (bif Nat.blt x.toNat m then some (Sum.inl (.long (kget l d x.toNat)) : KV) else none) = some v := g3
  obtain ⟨-, g3⟩ := kcond_inv g3
  rw [Option.some.inj g3]
theorem kaald_row {x : Int} {a : Nat} {e : KE} {t m : Nat} {v : KV} {r : List KV} (g1 : kwg w a = some e) (g2 : khd e = (2, t, m)) (b2 : (Nat.beq t 5 || Nat.beq t 6) = true) (b3 : kinB (Int32.ofInt x) m = true) (i1 : 0 ≤ x) (i2 : x ≤ 2147483647) (g3 : kev e x.toNat = some v) : kaald pc lo (.inl (.int (Int32.ofInt x)) :: .inl (.ref a) :: r) w c s = some (pc + 1, lo, v :: r, w, c, s) := by
  obtain ⟨l, rfl⟩ := khd2 g2
  unfold kaald
  simp only [g1]
  rw [b2, b3, i32_clamp i1 i2]
  simp only [Bool.and_true, cond_true]
  have g3 : (bif Nat.blt x.toNat m then some (kofR (kget l none x.toNat)) else none) = some v := g3
  obtain ⟨-, g3⟩ := kcond_inv g3
  rw [Option.some.inj g3]
theorem s_len (hE : kEok E) (hT : kTW E w) (hG : aG E ph ρ n rg cs alo ast tc cB sB lo st w c s) {sc : Bool} {rgk : List (Int × Int)} {L0 : Nat} (hsc : kScA sc n ρ rgk L0) (h : alen E sc pc n rg cs alo ast tc cB sB = some L) : aOk E ms ph ρ n w L (kwal L0 pc lo st w c s) := by
  unfold alen at h
  split at h
  · rename_i r rest
    obtain ⟨vr, st', rfl, hr, hS⟩ := aSt_cons hG.2.2.1
    have hG' : aG E ph ρ n rg cs alo rest tc cB sB lo st' w c s := ⟨hG.1, hG.2.1, hS, hG.2.2.2⟩
    split at h
    · have e := aR_labI hr
      subst e
      exact s_const hT hG' (x := 30) rfl h
    · have e := aR_labI hr
      subst e
      obtain ⟨hs, h⟩ := kcond_inv h
      obtain ⟨s1, s2, s3, -⟩ := hsc hs
      refine s_push hT hG' (a := .inl (lfv 0)) ⟨lwf_v (by omega), rfl⟩ ?_ h
      rw [lev_v, s3, s2]
      rfl
    · split at h
      · rename_i t oa hrec
        obtain ⟨a, rfl, ha, hta, -⟩ := arec_ok hE hrec hr
        obtain ⟨hb, h⟩ := kcond_inv h
        simp only [Bool.and_eq_true] at hb
        obtain ⟨b1, b2, b3⟩ := hb
        obtain ⟨e, g1, g2, -⟩ := hT.2 a ha
        rw [hta] at g2
        have hh : (khd e).1 ≤ 2 := by rw [g2]; exact Nat.ble_eq.mp b1
        rcases e with ⟨ty, m, d⟩ | ⟨ci, fs⟩
        · have k2 : (khd (.inl (ty, m, d))).2 = (ty, m) := by
            rcases d with ⟨l, d⟩ | ⟨l, d⟩ | l <;> rfl
          rw [g2] at k2
          rw [k2] at b2
          refine s_push hT hG' (a := .inl (lfc ((E.2.2 t).1.2.2 : Int))) ⟨lwf_c _ _, rfl⟩ ?_ h
          rw [lev_c, k2]
          have q1 : Nat.beq a 1000050 = false := kb_n (fun z => absurd (Nat.lt_trans ha hE.1) (by rw [z]; decide))
          unfold kwal
          simp only
          rw [q1]
          simp only [cond_false]
          unfold kalen
          simp only
          rw [kscr_no hE ha, g1]
          simp only [Bool.false_and, cond_false]
          rw [b2]
          rfl
        · exact absurd hh (show ¬ (9 ≤ 2) by decide)
      · cases h
  · cases h
theorem s_wld (hE : kEok E) (hW : kEw E) (hT : kTW E w) (hG : aG E ph ρ n rg cs alo ast tc cB sB lo st w c s) (h : awld E pc n rg cs alo ast tc cB sB = some L) : aOk E ms ph ρ n w L (kwald pc lo st w c s) := by
  unfold awld at h
  split at h
  · rename_i f rest
    obtain ⟨vf, st1, rfl, hf, hS1⟩ := aSt_cons hG.2.2.1
    obtain ⟨vr, st2, rfl, hr, hS⟩ := aSt_cons hS1
    have hG' : aG E ph ρ n rg cs alo rest tc cB sB lo st2 w c s := ⟨hG.1, hG.2.1, hS, hG.2.2.2⟩
    have e := aR_labI hr
    have ef := hf.2
    subst e ef
    split at h
    · rename_i q hi
      obtain ⟨i1, i2, i3, -, -⟩ := aidx_ok (l := q.1) (h := q.2) hG.1 hi
      refine s_push hT hG' (a := .inr (3, 60)) (v := .inl (.ref (1000100 + (lev ρ f).toNat))) ⟨fun q => (nomatch q), (vOK3 (t := (3, ((60 : Nat) : Int), 0)) rfl).mpr ⟨_, rfl, kokN_w (by omega), hW _ (by omega) (by omega)⟩⟩ ?_ h
      unfold kwald
      simp only
      rw [i32_in i1 i2 i3, i32_clamp i1 i2]
      rfl
    · cases h
  · refine s_ldx hE hT hG (fun x a e t m v r e0 ha g1 g2 b2 b3 i1 i2 _ g3 => ?_) h
    subst e0
    have q1 : Nat.beq a 1000050 = false := kb_n (fun z => absurd (Nat.lt_trans ha hE.1) (by rw [z]; decide))
    unfold kwald
    simp only
    rw [q1]
    exact kaald_row g1 g2 b2 b3 i1 i2 g3
theorem s_sld (hE : kEok E) (hT : kTW E w) (hG : aG E ph ρ n rg cs alo ast tc cB sB lo st w c s) {sc : Bool} {rgk : List (Int × Int)} {L0 : Nat} (hsc : kScA sc n ρ rgk L0) (h : asld E sc pc n rg cs alo ast tc cB sB = some L) : aOk E ms ph ρ n w L (kald rgk L0 (fun t => Nat.beq t 0) pc lo st w c s) := by
  unfold asld at h
  split at h
  · rename_i f rest
    obtain ⟨vf, st1, rfl, hf, hS1⟩ := aSt_cons hG.2.2.1
    obtain ⟨vr, st2, rfl, hr, hS⟩ := aSt_cons hS1
    have hG' : aG E ph ρ n rg cs alo rest tc cB sB lo st2 w c s := ⟨hG.1, hG.2.1, hS, hG.2.2.2⟩
    have e := aR_labI hr
    have ef := hf.2
    subst e ef
    obtain ⟨hb, h⟩ := kcond_inv h
    simp only [Bool.and_eq_true] at hb
    obtain ⟨b1, b2, b3, b4⟩ := hb
    obtain ⟨s1, s2, s3, s4, s5⟩ := hsc b1
    have r1 := l32_ok hG.1.2.1 b2
    have r2 := lle_ok hG.1.2.1 hG.1.2.2.1 b3
    have r3 := lle_ok hG.1.2.1 hG.1.2.2.1 b4
    rw [lev_neg] at r2
    rw [lev_add, lev_sub, lev_v, lev_c, s3] at r3
    have hlt : (lev ρ f).toNat < rgk.length := by omega
    obtain ⟨q, hq⟩ : ∃ q, rgk[(lev ρ f).toNat]? = some q := ⟨_, List.getElem?_eq_getElem hlt⟩
    have hqq := s4 q (List.mem_of_getElem? hq)
    have key : kald rgk L0 (fun t => Nat.beq t 0) pc lo (.inl (.int (Int32.ofInt (lev ρ f))) :: .inl (.ref 1000000) :: st2) w c s = some (pc + 1, lo, .inl (.int (Int32.ofInt q.1)) :: st2, w, c, s) := by
      unfold kald
      simp only
      rw [show kscr (.inl (.ref 1000000)) = true from rfl, s2, i32_in (by omega) (by omega) (by omega), i32_clamp (by omega) (by omega)]
      simp only [Bool.and_true, cond_true]
      unfold kscl
      rw [hq]
      obtain ⟨q1, q2⟩ := q
      have hqq : q1 = q2 := hqq
      subst hqq
      simp only
      simp only [decide_true, cond_true]
    cases hw : awin f with
    | true =>
      rw [hw] at h
      simp only [cond_true] at h
      obtain ⟨w1, w2, w3⟩ := awin_ok (ρ := ρ) hw
      have e2 : ρ 1 + ((f.1.toNat : Nat) : Int) = lev ρ f := by rw [w1]; omega
      have e3 := s5 f.1.toNat q (by omega) (by rw [e2]; exact hq)
      refine s_push hT hG' (a := .inl (lfv (2 + f.1.toNat))) ⟨lwf_v (by omega), rfl⟩ ?_ h
      rw [lev_v, e3]
      exact key
    | false =>
      rw [hw] at h
      simp only [cond_false] at h
      exact s_any hT hG' (x := Int32.ofInt q.1) key h
  · refine s_ldx hE hT hG (fun x a e t m v r e0 ha g1 g2 b2 b3 i1 i2 _ g3 => ?_) h
    subst e0
    exact kald_row hE ha g1 g2 b2 b3 i1 i2 g3
theorem kast_row {ok : Nat → Bool} {nar : Nat → Int32 → Int32} {y : Int32} {x : Int} {a : Nat} {e : KE} {t m : Nat} {r : List KV} (g1 : kwg w a = some e) (g2 : khd e = (0, t, m)) (b2 : ok t = true) (b3 : kinB (Int32.ofInt x) m = true) (i1 : 0 ≤ x) (i2 : x ≤ 2147483647) : kast ok nar pc lo (.inl (.int y) :: .inl (.int (Int32.ofInt x)) :: .inl (.ref a) :: r) w c s = some (pc + 1, lo, r, kws w a (kput1 e x.toNat (.inl (.int (nar t y)))), c, s) := by
  obtain ⟨l, d, rfl⟩ := khd0 g2
  unfold kast
  simp only [g1]
  rw [b2, b3, i32_clamp i1 i2]
  rfl
theorem klast_row {y : Int64} {x : Int} {a : Nat} {e : KE} {t m : Nat} {r : List KV} (g1 : kwg w a = some e) (g2 : khd e = (1, t, m)) (b2 : Nat.beq t 1 = true) (b3 : kinB (Int32.ofInt x) m = true) (i1 : 0 ≤ x) (i2 : x ≤ 2147483647) : klast pc lo (.inl (.long y) :: .inl (.int (Int32.ofInt x)) :: .inl (.ref a) :: r) w c s = some (pc + 1, lo, r, kws w a (kput1 e x.toNat (.inl (.long y))), c, s) := by
  obtain ⟨l, d, rfl⟩ := khd1 g2
  unfold klast
  simp only [g1]
  rw [b2, b3, i32_clamp i1 i2]
  rfl
end SOK5
