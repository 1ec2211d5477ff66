/-! Steps that write rows; rows' lengths; words; the script; all steps. -/
section SOK4
variable {E : TEnv} {ms : MOD} {ph : PHI} {n pc c s : Nat} {rg : RG} {cs : List LF} {alo : List (Nat × AV)} {ast : List AV} {tc : TC} {cB sB : LF} {ρ : Nat → Int} {lo : List (Nat × KV)} {st : List KV} {w : KW} {L : List (Nat × AS)}
theorem aisI_inl {v : AV} (h : aisI v = true) : ∃ g, v = .inl g := by
  cases v with
  | inl g => exact ⟨g, rfl⟩
  | inr q => cases h
/-- a place written, all told -/
theorem s_wr (hE : kEok E) (hph : phW ph) (hT : kTW E w) (hG : aG E ph ρ n rg cs alo ast tc cB sB lo st w c s) {a t : Nat} {oa : Option Nat} {e : KE} {x : KV} {l h : Int} {f : LF} {rest : List AV} {st3 : List KV} {o : Option KF} {len : Nat} (hS : aSt E n ρ rest st3) (ha : a < E.1) (hf : lwf n f) (he : kwg w a = some e) (hk : (lev ρ f).toNat < (khd e).2.2) (i1 : 0 ≤ lev ρ f) (i4 : l ≤ lev ρ f) (i5 : lev ρ f ≤ h) (hc : kcan (khd e).1 x) (hv : vOK E (ksg (E.2.2 (E.2.1 a)).2 (lev ρ f).toNat) x) (hta : E.2.1 a = t) (hoa : ∀ a', oa = some a' → a' = a) (hm : amods ms t l h = true) (ho : o = some (pc + len, lo, st3, kws w a (kput1 e (lev ρ f).toNat x), c, s))
    {tc1 : TC} (htc : tc1 = atdelA rg a f l h tc ∨ tc1 = atdelT E rg t l h tc ∨ ∃ v', tc1 = ((a, f), v') :: atdelA rg a f l h tc ∧ aR E n ρ v' x) (hL : (match aqw E ph rg cs t oa l h f tc1 with
      | some tc' => some [(pc + len, n, rg, cs, alo, rest, tc', cB, sB)]
      | none => none) = some L) : aOk E ms ph ρ n w L o := by
  split at hL
  · rename_i tc' hq
    cases hL
    have hwv := fun b j => wval_put (v := x) he hk hc b j
    have hA : ∀ b j : Nat, ¬ (b = a ∧ (j : Int) = lev ρ f) → wval (kws w a (kput1 e (lev ρ f).toNat x)) b j = wval w b j := fun b j hne => by
      rw [hwv, if_neg]
      rintro ⟨rfl, rfl⟩
      exact hne ⟨rfl, by omega⟩
    have ha2 : a < 2000000 := Nat.lt_trans ha (Nat.lt_trans hE.1 (by decide))
    have ht60 : t < 60 := by rw [← hta]; exact hE.2.1 a ha
    have hp : ∀ p ∈ ph, 2000000 ≤ p.1 := fun p hp => (hph.1 p hp).1
    have key : tcE E n ρ tc1 (kws w a (kput1 e (lev ρ f).toNat x)) ∧ qI ph ρ tc1 w := by
      rcases htc with rfl | rfl | ⟨v', rfl, hr⟩
      · exact ⟨tcA_put hG.1.2.1 i4 i5 hA tc hG.2.2.2.1, qI_mono (mkA ha2 tc) hp hG.2.2.2.2⟩
      · refine ⟨tcT_put hG.1.2.1 (fun b j hne => hA b j ?_) tc hG.2.2.2.1, qI_mono (mkT hE ht60 tc) hp hG.2.2.2.2⟩
        rintro ⟨rfl, z⟩
        exact hne ⟨hta, by omega, by omega⟩
      · refine ⟨tcE_cons (tcA_put hG.1.2.1 i4 i5 hA tc hG.2.2.2.1) ha hf i1 ?_ hr, qI_mono (fun e he hge => List.mem_cons_of_mem _ (mkA ha2 tc e he hge)) hp hG.2.2.2.2⟩
        rw [hwv, if_pos ⟨rfl, rfl⟩]
    exact aOk_mk ho (kStp_put hT ha he hk hc hv hta (by omega) (by omega) hm) List.mem_cons_self ρ (fun _ _ => rfl) (Nat.le_refl _) ⟨hG.1, hG.2.1, hS, aqw_ok hE hph hG.1 hf ha hta hoa i1 i4 i5 hA key.1 key.2 hq⟩
  · cases hL
theorem s_stx0 (hE : kEok E) (hph : phW ph) (hT : kTW E w) (hG : aG E ph ρ n rg cs alo ast tc cB sB lo st w c s) {ok : Nat → Bool} {nar : Nat → Int32 → Int32} (hn : ok 0 = true → ∀ a, nar 0 a = a) {o : Option KF} (ho : ∀ (x : Int32) (i : Int) (a : Nat) (e : KE) (t m : Nat) r, st = .inl (.int x) :: .inl (.int (Int32.ofInt i)) :: .inl (.ref a) :: r → kwg w a = some e → khd e = (0, t, m) → ok t = true → kinB (Int32.ofInt i) m = true → 0 ≤ i → i ≤ 2147483647 → o = some (pc + 1, lo, r, kws w a (kput1 e i.toNat (.inl (.int (nar t x)))), c, s)) (h : astx E ms ph 0 ok nar pc n rg cs alo ast tc cB sB = some L) : aOk E ms ph ρ n w L o := by
  unfold astx at h
  split at h
  · rename_i v f r rest
    obtain ⟨vv, st1, rfl, hv, hS1⟩ := aSt_cons hG.2.2.1
    obtain ⟨vf, st2, rfl, hf, hS2⟩ := aSt_cons hS1
    obtain ⟨vr, st3, rfl, hr, hS⟩ := aSt_cons hS2
    have ef := hf.2
    subst ef
    split at h
    · rename_i t oa hrec
      obtain ⟨a, rfl, ha, hta, hoa⟩ := arec_ok hE hrec hr
      obtain ⟨hb, h⟩ := kcond_inv h
      simp only [Bool.and_eq_true] at hb
      obtain ⟨b1, b2⟩ := hb
      split at h
      · rename_i l u hi
        obtain ⟨i1, i2, i3, i4, i5⟩ := aidx_ok hG.1 hi
        have hlt : (lev ρ f).toNat < (E.2.2 (E.2.1 a)).1.2.2 := by rw [hta]; omega
        obtain ⟨e, v0, g1, g2, g3, g4, g5⟩ := wval_ty hT ha hlt
        rw [hta] at g2
        have hk : (lev ρ f).toNat < (khd e).2.2 := by rw [g2, ← hta]; exact hlt
        rw [ct_of (b := 0) b1] at g2
        simp only at h
        split at h
        · rename_i v' hv'
          obtain ⟨hbz, hz2⟩ := kcond_inv h
          simp only [Bool.and_eq_true] at hbz
          obtain ⟨c1, c2, c3⟩ := hbz
          obtain ⟨g, rfl⟩ := aisI_inl c2
          have ev := hv.2
          subst ev
          have ho2 := ho _ (lev ρ f) a e _ _ st3 rfl g1 g2 b2 (i32_in i1 i2 i3) i1 i2
          have h0 : (khd e).1 = 0 := by rw [g2]
          have hcan : kcan (khd e).1 (.inl (.int (nar (E.2.2 t).1.2.1 (Int32.ofInt (lev ρ g))))) := by rw [h0]; exact ⟨_, rfl⟩
          have key : (v' = .inr (9, 0) ∧ ksall l u (fun x => Nat.beq x.1 0 && (ile x.2.1 (-2147483648) && ile 2147483647 x.2.2)) (E.2.2 t).2 = true) ∨ ∃ g', v' = .inl g' ∧ aR E n ρ (.inl g') (.inl (.int (nar (E.2.2 t).1.2.1 (Int32.ofInt (lev ρ g))))) := by
            cases q0 : Nat.beq (E.2.2 t).1.2.1 0 with
            | true =>
              rw [q0] at hv'
              cases hv'
              refine Or.inr ⟨g, rfl, hv.1, ?_⟩
              rw [kb_t q0, hn (by rw [← kb_t q0]; exact b2)]
            | false =>
              rw [q0] at hv'
              simp only [cond_false] at hv'
              split at hv'
              · rename_i hg
                cases hv'
                refine Or.inr ⟨_, rfl, lwf_c _ _, ?_⟩
                rw [lev_c, i32_to, lev_k ρ hg]
              · obtain ⟨hb, hv'⟩ := kcond_inv hv'
                cases hv'
                exact Or.inl ⟨rfl, hb⟩
          rcases key with ⟨rfl, hall⟩ | ⟨g', rfl, hg'⟩
          · have hvo : vOK E (ksg (E.2.2 (E.2.1 a)).2 (lev ρ f).toNat) (.inl (.int (nar (E.2.2 t).1.2.1 (Int32.ofInt (lev ρ g))))) := by
              rw [hta]
              have hz := ksall_ok (p := fun x => Nat.beq x.1 0 && (ile x.2.1 (-2147483648) && ile 2147483647 x.2.2)) _ hall (lev ρ f).toNat (by omega) (by omega)
              simp only [Bool.and_eq_true] at hz
              have h1 := ile_ok hz.2.1
              have h2 := ile_ok hz.2.2
              have h3 := i32_lo (nar (E.2.2 t).1.2.1 (Int32.ofInt (lev ρ g)))
              have h4 := i32_hi (nar (E.2.2 t).1.2.1 (Int32.ofInt (lev ρ g)))
              exact (vOK0 (kb_t hz.1)).mpr ⟨_, rfl, by omega, by omega⟩
            cases oa with
            | some a0 =>
              have hz := hoa a0 rfl
              subst hz
              exact s_wr hE hph hT hG hS ha hf.1 g1 hk i1 i4 i5 hcan hvo hta hoa c3 ho2 (Or.inl rfl) hz2
            | none => exact s_wr hE hph hT hG hS ha hf.1 g1 hk i1 i4 i5 hcan hvo hta hoa c3 ho2 (Or.inr (Or.inl rfl)) hz2
          · have hvo : vOK E (ksg (E.2.2 (E.2.1 a)).2 (lev ρ f).toNat) (.inl (.int (nar (E.2.2 t).1.2.1 (Int32.ofInt (lev ρ g))))) := by
              rw [hta]
              exact afit_ok hG.1.2.1 (ksall_ok (p := afit E rg (.inl g')) _ c1 (lev ρ f).toNat (by omega) (by omega)) hg'
            cases oa with
            | some a0 =>
              have hz := hoa a0 rfl
              subst hz
              exact s_wr hE hph hT hG hS ha hf.1 g1 hk i1 i4 i5 hcan hvo hta hoa c3 ho2 (Or.inr (Or.inr ⟨_, rfl, hg'⟩)) hz2
            | none => exact s_wr hE hph hT hG hS ha hf.1 g1 hk i1 i4 i5 hcan hvo hta hoa c3 ho2 (Or.inr (Or.inl rfl)) hz2
        · cases h
      · cases h
    · cases h
  · cases h
theorem s_stx1 (hE : kEok E) (hph : phW ph) (hT : kTW E w) (hG : aG E ph ρ n rg cs alo ast tc cB sB lo st w c s) {ok : Nat → Bool} {nar : Nat → Int32 → Int32} {o : Option KF} (ho : ∀ (x : Int64) (i : Int) (a : Nat) (e : KE) (t m : Nat) r, st = .inl (.long x) :: .inl (.int (Int32.ofInt i)) :: .inl (.ref a) :: r → kwg w a = some e → khd e = (1, t, m) → ok t = true → kinB (Int32.ofInt i) m = true → 0 ≤ i → i ≤ 2147483647 → o = some (pc + 1, lo, r, kws w a (kput1 e i.toNat (.inl (.long x))), c, s)) (h : astx E ms ph 1 ok nar pc n rg cs alo ast tc cB sB = some L) : aOk E ms ph ρ n w L o := by
  unfold astx at h
  split at h
  · rename_i v f r rest
    obtain ⟨vv, st1, rfl, hv, hS1⟩ := aSt_cons hG.2.2.1
    obtain ⟨vf, st2, rfl, hf, hS2⟩ := aSt_cons hS1
    obtain ⟨vr, st3, rfl, hr, hS⟩ := aSt_cons hS2
    have ef := hf.2
    subst ef
    split at h
    · rename_i t oa hrec
      obtain ⟨a, rfl, ha, hta, hoa⟩ := arec_ok hE hrec hr
      obtain ⟨hb, h⟩ := kcond_inv h
      simp only [Bool.and_eq_true] at hb
      obtain ⟨b1, b2⟩ := hb
      split at h
      · rename_i l u hi
        obtain ⟨i1, i2, i3, i4, i5⟩ := aidx_ok hG.1 hi
        have hlt : (lev ρ f).toNat < (E.2.2 (E.2.1 a)).1.2.2 := by rw [hta]; omega
        obtain ⟨e, v0, g1, g2, g3, g4, g5⟩ := wval_ty hT ha hlt
        rw [hta] at g2
        have hk : (lev ρ f).toNat < (khd e).2.2 := by rw [g2, ← hta]; exact hlt
        rw [ct_of (b := 0) b1] at g2
        simp only at h
        obtain ⟨hbz, hz2⟩ := kcond_inv h
        simp only [Bool.and_eq_true] at hbz
        obtain ⟨c1, c2, c3⟩ := hbz
        obtain ⟨x, rfl⟩ := aisG_ok c2 hv
        have ho2 := ho _ (lev ρ f) a e _ _ st3 rfl g1 g2 b2 (i32_in i1 i2 i3) i1 i2
        have h0 : (khd e).1 = 1 := by rw [g2]
        have hcan : kcan (khd e).1 (.inl (.long x)) := by rw [h0]; exact ⟨_, rfl⟩
        rcases v with g | ⟨q1, q2⟩
        · cases c2
        · have q9 : q1 = 1 := kb_t c2
          subst q9
          have hvo : vOK E (ksg (E.2.2 (E.2.1 a)).2 (lev ρ f).toNat) (.inl (.long x)) := by
            rw [hta]
            exact afit_ok hG.1.2.1 (ksall_ok (p := afit E rg (.inr (1, q2))) _ c1 (lev ρ f).toNat (by omega) (by omega)) hv
          cases oa with
          | some a0 =>
            have hz := hoa a0 rfl
            subst hz
            exact s_wr hE hph hT hG hS ha hf.1 g1 hk i1 i4 i5 hcan hvo hta hoa c3 ho2 (Or.inr (Or.inr ⟨_, rfl, hv⟩)) hz2
          | none => exact s_wr hE hph hT hG hS ha hf.1 g1 hk i1 i4 i5 hcan hvo hta hoa c3 ho2 (Or.inr (Or.inl rfl)) hz2
      · cases h
    · cases h
  · cases h
theorem wval_set {w : KW} {a : Nat} {e e' : KE} (h : kwg w a = some e) (b j : Nat) : wval (kws w a e') b j = if b = a then kev e' j else wval w b j := by
  unfold wval
  rw [kwg_kws h]
  by_cases h1 : b = a
  · rw [if_pos h1, if_pos h1]
  · rw [if_neg h1, if_neg h1]
theorem kTW_set (hT : kTW E w) {a : Nat} {e e' : KE} (h : kwg w a = some e) (hh : khd e' = khd e) (hv : ∀ k, k < (E.2.2 (E.2.1 a)).1.2.2 → ∃ v, kev e' k = some v ∧ vOK E (ksg (E.2.2 (E.2.1 a)).2 k) v) : kTW E (kws w a e') := by
  refine ⟨by rw [kfr_set]; exact hT.1, fun b hb => ?_⟩
  rw [kwg_kws h]
  by_cases h1 : b = a
  · subst h1
    rw [if_pos rfl]
    obtain ⟨e0, h2, h3, h4⟩ := hT.2 b hb
    rw [h] at h2
    cases h2
    exact ⟨_, rfl, hh.trans h3, hv⟩
  · rw [if_neg h1]
    exact hT.2 b hb
theorem s_cpy (hE : kEok E) (hph : phW ph) (hT : kTW E w) (hG : aG E ph ρ n rg cs alo ast tc cB sB lo st w c s) (h : acpy E ms ph pc n rg cs alo ast tc cB sB = some L) : aOk E ms ph ρ n w L (kcopy pc lo st w c s) := by
  unfold acpy at h
  split at h
  · rename_i fc fd r1 fs r0 rest
    obtain ⟨v1, st1, rfl, hv1, hS1⟩ := aSt_cons hG.2.2.1
    obtain ⟨v2, st2, rfl, hv2, hS2⟩ := aSt_cons hS1
    obtain ⟨v3, st3, rfl, hv3, hS3⟩ := aSt_cons hS2
    obtain ⟨v4, st4, rfl, hv4, hS4⟩ := aSt_cons hS3
    obtain ⟨v5, st5, rfl, hv5, hS⟩ := aSt_cons hS4
    have q1 := hv1.2
    have q2 := hv2.2
    have q4 := hv4.2
    subst q1 q2 q4
    split at h
    · rename_i t0 z0 t1 oa e1 e2 e3 hr0 hr1
      obtain ⟨a0, rfl, ha0, hta0, -⟩ := arec_ok hE hr0 hv5
      obtain ⟨a1, rfl, ha1, hta1, hoa⟩ := arec_ok hE hr1 hv3
      obtain ⟨hb, h⟩ := kcond_inv h
      simp only [Bool.and_eq_true] at hb
      obtain ⟨b1, b2, b3, b4, b5, b6, b7, b8, b9, b10, b11, b12⟩ := hb
      have d1 := iz_ok b1
      have d2 := iz_ok b2
      have d3 := of_decide_eq_true b3
      have d4 : (E.2.2 t0).1.2.2 < 100000 := Nat.ble_eq.mp b4
      have d5 := kb_t b5
      have d6 := kb_t b6
      have d7 := kb_t b7
      obtain ⟨x0, g1, g2, g3⟩ := hT.2 a0 ha0
      obtain ⟨x1, k1, k2, k3⟩ := hT.2 a1 ha1
      rw [hta0] at g2 g3
      rw [hta1] at k2 k3
      have hcat : Nat.ble (kcats st5) 8 = true := by rw [(aSt_ok _ _ hS).2]; exact b12
      have m1 : decide ((Int32.ofInt (lev ρ fs) : Int32) = 0) = true := by rw [lev_k ρ e3, d2]; rfl
      have m2 : decide ((Int32.ofInt (lev ρ fd) : Int32) = 0) = true := by rw [lev_k ρ e2, d1]; rfl
      have m3 : (!decide ((Int32.ofInt (lev ρ fc) : Int32) < 0)) = true := by
        rw [lev_k ρ e1, d3]
        have := (i32_lt (a := ((E.2.2 t0).1.2.2 : Int)) (b := 0) (by omega) (by omega) (by omega) (by omega))
        have hz : ¬ Int32.ofInt ((E.2.2 t0).1.2.2 : Int) < (0 : Int32) := fun q => absurd (this.mp q) (by omega)
        rw [decide_eq_false hz]
        rfl
      have m4 : (Int32.ofInt (lev ρ fc)).toNatClampNeg = (E.2.2 t0).1.2.2 := by
        rw [lev_k ρ e1, d3, i32_clamp (by omega) (by omega)]
        omega
      -- the copied row
      have main : ∀ (y : KE), khd y = (E.2.2 t1).1 → (∀ k, kev y k = kev x0 k) → (∀ k, (E.2.2 t1).1.2.2 ≤ k → kev x0 k = none ∧ kev x1 k = none) → kcopy pc lo (.inl (.int (Int32.ofInt (lev ρ fc))) :: .inl (.int (Int32.ofInt (lev ρ fd))) :: .inl (.ref a1) :: .inl (.int (Int32.ofInt (lev ρ fs))) :: .inl (.ref a0) :: st5) w c s = some (pc + 3, lo, st5, kws w a1 y, c, s) → aOk E ms ph ρ n w L (kcopy pc lo (.inl (.int (Int32.ofInt (lev ρ fc))) :: .inl (.int (Int32.ofInt (lev ρ fd))) :: .inl (.ref a1) :: .inl (.int (Int32.ofInt (lev ρ fs))) :: .inl (.ref a0) :: st5) w c s) := fun y y1 y2 y3 ho => by
        have hout : ∀ b j : Nat, ¬ (b = a1 ∧ (j : Int) ≥ 0 ∧ (j : Int) ≤ ((E.2.2 t0).1.2.2 : Int) - 1) → wval (kws w a1 y) b j = wval w b j := fun b j hne => by
          rw [wval_set k1]
          by_cases h1 : b = a1
          · rw [if_pos h1]
            have hj : (E.2.2 t1).1.2.2 ≤ j := Nat.le_of_not_lt fun q => hne ⟨h1, by omega, by omega⟩
            rw [y2, (y3 j hj).1, h1]
            unfold wval
            rw [k1]
            exact (y3 j hj).2.symm
          · rw [if_neg h1]
        have hin : ∀ j : Nat, (j : Int) ≤ ((E.2.2 t0).1.2.2 : Int) - 1 → kmod E ms a1 j := fun j hj => amods_ok b10 hta1 (by omega) hj
        have hst : kStp E ms w (kws w a1 y) := by
          refine ⟨kTW_set hT k1 (y1.trans k2.symm) (fun k hk => ?_), fun b j _ hn => hout b j ?_⟩
          · rw [hta1] at hk ⊢
            rw [y2]
            obtain ⟨v, f1, f2⟩ := g3 k (by rw [d5]; exact hk)
            refine ⟨v, f1, ?_⟩
            rcases Bool.or_eq_true_iff.mp b9 with q | q
            · rw [← kb_t q]; exact f2
            · split at q
              · rename_i pa pb ea eb
                rw [ea] at f2
                rw [eb]
                exact vsub_ok q f2
              · cases q
          · rintro ⟨rfl, -, z2⟩
            exact hn (hin j z2)
        have ht60 : t1 < 60 := by rw [← hta1]; exact hE.2.1 a1 ha1
        cases h
        refine aOk_mk ho hst List.mem_cons_self ρ (fun _ _ => rfl) (Nat.le_refl _) ⟨hG.1, hG.2.1, hS, tcT_put (w := w) hG.1.2.1 (fun b j hne => hout b j ?_) tc hG.2.2.2.1, qI_mono (mkT hE ht60 tc) (fun p hp => (hph.1 p hp).1) (qI_un b11 (fun b j hne => hout b j ?_) hG.2.2.2.2)⟩
        · rintro ⟨rfl, z1, z2⟩
          exact hne ⟨hta1, z1, z2⟩
        · rintro ⟨rfl, -, -⟩
          exact hne hta1
      have g2' := g2
      have k2' := k2
      rw [show (E.2.2 t0).1 = ((E.2.2 t0).1.1, (E.2.2 t0).1.2.1, (E.2.2 t0).1.2.2) from rfl] at g2
      rw [show (E.2.2 t1).1 = ((E.2.2 t1).1.1, (E.2.2 t1).1.2.1, (E.2.2 t1).1.2.2) from rfl, ← d5, ← d6, ← d7] at k2
      have hct : (E.2.2 t1).1 = ((E.2.2 t0).1.1, (E.2.2 t0).1.2.1, (E.2.2 t0).1.2.2) := by rw [← k2', k2]
      rcases Bool.or_eq_true_iff.mp b8 with q | q
      · simp only [Bool.and_eq_true] at q
        have p1 := kb_t q.1
        have p2 := kb_t q.2
        rw [p1, p2] at g2 k2
        obtain ⟨l0, dd0, rfl⟩ := khd0 g2
        obtain ⟨l1, dd1, rfl⟩ := khd0 k2
        refine main (.inl (0, (E.2.2 t0).1.2.2, .inl (l0, dd0))) ?_ (fun _ => rfl) (fun k hk => ?_) ?_
        · rw [hct, p1, p2]; rfl
        · have hz : Nat.blt k (E.2.2 t0).1.2.2 = false := by
            cases z : Nat.blt k (E.2.2 t0).1.2.2 with
            | false => rfl
            | true => have := Nat.ble_eq.mp z; omega
          exact ⟨by show (bif Nat.blt k (E.2.2 t0).1.2.2 then _ else none) = none; rw [hz]; rfl, by show (bif Nat.blt k (E.2.2 t0).1.2.2 then _ else none) = none; rw [hz]; rfl⟩
        · unfold kcopy
          simp only [g1, k1]
          rw [m1, m2, m3, m4, Nat.beq_refl, Nat.beq_refl, hcat]
          rfl
      · simp only [Bool.and_eq_true] at q
        have p1 := kb_t q.1
        have p2 := kb_t q.2
        rw [p1, p2] at g2 k2
        obtain ⟨l0, dd0, rfl⟩ := khd1 g2
        obtain ⟨l1, dd1, rfl⟩ := khd1 k2
        refine main (.inl (1, (E.2.2 t0).1.2.2, .inr (.inl (l0, dd0)))) ?_ (fun _ => rfl) (fun k hk => ?_) ?_
        · rw [hct, p1, p2]; rfl
        · have hz : Nat.blt k (E.2.2 t0).1.2.2 = false := by
            cases z : Nat.blt k (E.2.2 t0).1.2.2 with
            | false => rfl
            | true => have := Nat.ble_eq.mp z; omega
          exact ⟨by show (bif Nat.blt k (E.2.2 t0).1.2.2 then _ else none) = none; rw [hz]; rfl, by show (bif Nat.blt k (E.2.2 t0).1.2.2 then _ else none) = none; rw [hz]; rfl⟩
        · unfold kcopy
          simp only [g1, k1]
          rw [m1, m2, m3, m4, Nat.beq_refl, Nat.beq_refl, hcat]
          rfl
    · cases h
  · cases h
end SOK4
